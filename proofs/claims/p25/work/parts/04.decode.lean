theorem dX6_total_93 : decode cX6_total 93 = .ok (.invokevirtual 227, 3) := by decide +kernel
theorem dX6_total_96 : decode cX6_total 96 = .ok (.ireturn, 1) := by decide +kernel
theorem dX6_total_97 : decode cX6_total 97 = .ok (.aload_n 0, 1) := by decide +kernel
theorem dX6_total_98 : decode cX6_total 98 = .ok (.getfield 49, 3) := by decide +kernel
theorem dX6_total_101 : decode cX6_total 101 = .ok (.getfield 205, 3) := by decide +kernel
theorem dX6_total_104 : decode cX6_total 104 = .ok (.ireturn, 1) := by decide +kernel
theorem dX6_total_105 : decode cX6_total 105 = .ok (.aload_n 0, 1) := by decide +kernel
theorem dX6_total_106 : decode cX6_total 106 = .ok (.getfield 49, 3) := by decide +kernel
theorem dX6_total_109 : decode cX6_total 109 = .ok (.getfield 212, 3) := by decide +kernel
theorem dX6_total_112 : decode cX6_total 112 = .ok (.iconst 1, 1) := by decide +kernel
theorem dX6_total_113 : decode cX6_total 113 = .ok (.invokestatic 86, 3) := by decide +kernel
theorem dX6_total_116 : decode cX6_total 116 = .ok (.ireturn, 1) := by decide +kernel
theorem dX6_total_117 : decode cX6_total 117 = .ok (.aload_n 0, 1) := by decide +kernel
theorem dX6_total_118 : decode cX6_total 118 = .ok (.getfield 49, 3) := by decide +kernel
theorem dX6_total_121 : decode cX6_total 121 = .ok (.getfield 212, 3) := by decide +kernel
theorem dX6_total_124 : decode cX6_total 124 = .ok (.iconst 2, 1) := by decide +kernel
theorem dX6_total_125 : decode cX6_total 125 = .ok (.invokestatic 86, 3) := by decide +kernel
theorem dX6_total_128 : decode cX6_total 128 = .ok (.ireturn, 1) := by decide +kernel
theorem dX6_total_129 : decode cX6_total 129 = .ok (.aload_n 0, 1) := by decide +kernel
theorem dX6_total_130 : decode cX6_total 130 = .ok (.getfield 49, 3) := by decide +kernel
theorem dX6_total_133 : decode cX6_total 133 = .ok (.getfield 212, 3) := by decide +kernel
theorem dX6_total_136 : decode cX6_total 136 = .ok (.iconst 3, 1) := by decide +kernel
theorem dX6_total_137 : decode cX6_total 137 = .ok (.invokestatic 86, 3) := by decide +kernel
theorem dX6_total_140 : decode cX6_total 140 = .ok (.ireturn, 1) := by decide +kernel
theorem dX6_total_141 : decode cX6_total 141 = .ok (.aload_n 0, 1) := by decide +kernel
theorem dX6_total_142 : decode cX6_total 142 = .ok (.getfield 49, 3) := by decide +kernel
theorem dX6_total_145 : decode cX6_total 145 = .ok (.getfield 180, 3) := by decide +kernel
theorem dX6_total_148 : decode cX6_total 148 = .ok (.ireturn, 1) := by decide +kernel
theorem dX6_total_149 : decode cX6_total 149 = .ok (.aload_n 0, 1) := by decide +kernel
theorem dX6_total_150 : decode cX6_total 150 = .ok (.getfield 49, 3) := by decide +kernel
theorem dX6_total_153 : decode cX6_total 153 = .ok (.getfield 221, 3) := by decide +kernel
theorem dX6_total_156 : decode cX6_total 156 = .ok (.ireturn, 1) := by decide +kernel
theorem dX6_total_157 : decode cX6_total 157 = .ok (.aload_n 0, 1) := by decide +kernel
theorem dX6_total_158 : decode cX6_total 158 = .ok (.getfield 49, 3) := by decide +kernel
theorem dX6_total_161 : decode cX6_total 161 = .ok (.getfield 116, 3) := by decide +kernel
theorem dX6_total_164 : decode cX6_total 164 = .ok (.ireturn, 1) := by decide +kernel
theorem dX6_total_165 : decode cX6_total 165 = .ok (.aload_n 0, 1) := by decide +kernel
theorem dX6_total_166 : decode cX6_total 166 = .ok (.getfield 49, 3) := by decide +kernel
theorem dX6_total_169 : decode cX6_total 169 = .ok (.getfield 193, 3) := by decide +kernel
theorem dX6_total_172 : decode cX6_total 172 = .ok (.ireturn, 1) := by decide +kernel
theorem dX6_total_173 : decode cX6_total 173 = .ok (.aload_n 0, 1) := by decide +kernel
theorem dX6_total_174 : decode cX6_total 174 = .ok (.getfield 49, 3) := by decide +kernel
theorem dX6_total_177 : decode cX6_total 177 = .ok (.getfield 207, 3) := by decide +kernel
theorem dX6_total_180 : decode cX6_total 180 = .ok (.ireturn, 1) := by decide +kernel
theorem dX6_total_181 : decode cX6_total 181 = .ok (.bipush (-2), 2) := by decide +kernel
theorem dX6_total_183 : decode cX6_total 183 = .ok (.ireturn, 1) := by decide +kernel
theorem dX7_init_0 : decode cX7_init 0 = .ok (.aload_n 0, 1) := by decide +kernel
theorem dX7_init_1 : decode cX7_init 1 = .ok (.invokespecial 3, 3) := by decide +kernel
theorem dX7_init_4 : decode cX7_init 4 = .ok (.aload_n 0, 1) := by decide +kernel
theorem dX7_init_5 : decode cX7_init 5 = .ok (.iconst 4, 1) := by decide +kernel
theorem dX7_init_6 : decode cX7_init 6 = .ok (.newarray .int, 2) := by decide +kernel
theorem dX7_init_8 : decode cX7_init 8 = .ok (.putfield 9, 3) := by decide +kernel
theorem dX7_init_11 : decode cX7_init 11 = .ok (.aload_n 0, 1) := by decide +kernel
theorem dX7_init_12 : decode cX7_init 12 = .ok (.iconst 0, 1) := by decide +kernel
theorem dX7_init_13 : decode cX7_init 13 = .ok (.putfield 15, 3) := by decide +kernel
theorem dX7_init_16 : decode cX7_init 16 = .ok (.aload_n 0, 1) := by decide +kernel
theorem dX7_init_17 : decode cX7_init 17 = .ok (.iconst 0, 1) := by decide +kernel
theorem dX7_init_18 : decode cX7_init 18 = .ok (.putfield 19, 3) := by decide +kernel
theorem dX7_init_21 : decode cX7_init 21 = .ok (.aload_n 0, 1) := by decide +kernel
theorem dX7_init_22 : decode cX7_init 22 = .ok (.sipush 600, 3) := by decide +kernel
theorem dX7_init_25 : decode cX7_init 25 = .ok (.putfield 22, 3) := by decide +kernel
theorem dX7_init_28 : decode cX7_init 28 = .ok (.aload_n 0, 1) := by decide +kernel
theorem dX7_init_29 : decode cX7_init 29 = .ok (.iconst 0, 1) := by decide +kernel
theorem dX7_init_30 : decode cX7_init 30 = .ok (.putfield 25, 3) := by decide +kernel
theorem dX7_init_33 : decode cX7_init 33 = .ok (.aload_n 0, 1) := by decide +kernel
theorem dX7_init_34 : decode cX7_init 34 = .ok (.iconst 0, 1) := by decide +kernel
theorem dX7_init_35 : decode cX7_init 35 = .ok (.putfield 28, 3) := by decide +kernel
theorem dX7_init_38 : decode cX7_init 38 = .ok (.aload_n 0, 1) := by decide +kernel
theorem dX7_init_39 : decode cX7_init 39 = .ok (.iconst 0, 1) := by decide +kernel
theorem dX7_init_40 : decode cX7_init 40 = .ok (.putfield 31, 3) := by decide +kernel
theorem dX7_init_43 : decode cX7_init 43 = .ok (.return_, 1) := by decide +kernel
theorem dX7_copy_0 : decode cX7_copy 0 = .ok (.aload_n 1, 1) := by decide +kernel
theorem dX7_copy_1 : decode cX7_copy 1 = .ok (.getfield 9, 3) := by decide +kernel
theorem dX7_copy_4 : decode cX7_copy 4 = .ok (.aload_n 0, 1) := by decide +kernel
theorem dX7_copy_5 : decode cX7_copy 5 = .ok (.getfield 9, 3) := by decide +kernel
theorem dX7_copy_8 : decode cX7_copy 8 = .ok (.invokestatic 34, 3) := by decide +kernel
theorem dX7_copy_11 : decode cX7_copy 11 = .ok (.aload_n 0, 1) := by decide +kernel
theorem dX7_copy_12 : decode cX7_copy 12 = .ok (.aload_n 1, 1) := by decide +kernel
theorem dX7_copy_13 : decode cX7_copy 13 = .ok (.getfield 15, 3) := by decide +kernel
theorem dX7_copy_16 : decode cX7_copy 16 = .ok (.putfield 15, 3) := by decide +kernel
theorem dX7_copy_19 : decode cX7_copy 19 = .ok (.aload_n 0, 1) := by decide +kernel
theorem dX7_copy_20 : decode cX7_copy 20 = .ok (.aload_n 1, 1) := by decide +kernel
theorem dX7_copy_21 : decode cX7_copy 21 = .ok (.getfield 19, 3) := by decide +kernel
theorem dX7_copy_24 : decode cX7_copy 24 = .ok (.putfield 19, 3) := by decide +kernel
theorem dX7_copy_27 : decode cX7_copy 27 = .ok (.aload_n 0, 1) := by decide +kernel
theorem dX7_copy_28 : decode cX7_copy 28 = .ok (.aload_n 1, 1) := by decide +kernel
theorem dX7_copy_29 : decode cX7_copy 29 = .ok (.getfield 22, 3) := by decide +kernel
theorem dX7_copy_32 : decode cX7_copy 32 = .ok (.putfield 22, 3) := by decide +kernel
theorem dX7_copy_35 : decode cX7_copy 35 = .ok (.aload_n 0, 1) := by decide +kernel
theorem dX7_copy_36 : decode cX7_copy 36 = .ok (.aload_n 1, 1) := by decide +kernel
theorem dX7_copy_37 : decode cX7_copy 37 = .ok (.getfield 25, 3) := by decide +kernel
theorem dX7_copy_40 : decode cX7_copy 40 = .ok (.putfield 25, 3) := by decide +kernel
theorem dX7_copy_43 : decode cX7_copy 43 = .ok (.aload_n 0, 1) := by decide +kernel
theorem dX7_copy_44 : decode cX7_copy 44 = .ok (.aload_n 1, 1) := by decide +kernel
theorem dX7_copy_45 : decode cX7_copy 45 = .ok (.getfield 28, 3) := by decide +kernel
theorem dX7_copy_48 : decode cX7_copy 48 = .ok (.putfield 28, 3) := by decide +kernel
theorem dX7_copy_51 : decode cX7_copy 51 = .ok (.aload_n 0, 1) := by decide +kernel
theorem dX7_copy_52 : decode cX7_copy 52 = .ok (.aload_n 1, 1) := by decide +kernel
theorem dX7_copy_53 : decode cX7_copy 53 = .ok (.getfield 31, 3) := by decide +kernel
theorem dX7_copy_56 : decode cX7_copy 56 = .ok (.putfield 31, 3) := by decide +kernel
theorem dX7_copy_59 : decode cX7_copy 59 = .ok (.return_, 1) := by decide +kernel
theorem dX8_init_0 : decode cX8_init 0 = .ok (.aload_n 0, 1) := by decide +kernel
theorem dX8_init_1 : decode cX8_init 1 = .ok (.invokespecial 3, 3) := by decide +kernel
theorem dX8_init_4 : decode cX8_init 4 = .ok (.aload_n 0, 1) := by decide +kernel
theorem dX8_init_5 : decode cX8_init 5 = .ok (.new 9, 3) := by decide +kernel
theorem dX8_init_8 : decode cX8_init 8 = .ok (.dup, 1) := by decide +kernel
theorem dX8_init_9 : decode cX8_init 9 = .ok (.invokespecial 11, 3) := by decide +kernel
theorem dX8_init_12 : decode cX8_init 12 = .ok (.putfield 12, 3) := by decide +kernel
theorem dX8_init_15 : decode cX8_init 15 = .ok (.aload_n 0, 1) := by decide +kernel
theorem dX8_init_16 : decode cX8_init 16 = .ok (.new 9, 3) := by decide +kernel
theorem dX8_init_19 : decode cX8_init 19 = .ok (.dup, 1) := by decide +kernel
theorem dX8_init_20 : decode cX8_init 20 = .ok (.invokespecial 11, 3) := by decide +kernel
theorem dX8_init_23 : decode cX8_init 23 = .ok (.putfield 16, 3) := by decide +kernel
theorem dX8_init_26 : decode cX8_init 26 = .ok (.aload_n 0, 1) := by decide +kernel
theorem dX8_init_27 : decode cX8_init 27 = .ok (.new 19, 3) := by decide +kernel
theorem dX8_init_30 : decode cX8_init 30 = .ok (.dup, 1) := by decide +kernel
theorem dX8_init_31 : decode cX8_init 31 = .ok (.invokespecial 21, 3) := by decide +kernel
theorem dX8_init_34 : decode cX8_init 34 = .ok (.putfield 22, 3) := by decide +kernel
theorem dX8_init_37 : decode cX8_init 37 = .ok (.aload_n 0, 1) := by decide +kernel
theorem dX8_init_38 : decode cX8_init 38 = .ok (.new 9, 3) := by decide +kernel
theorem dX8_init_41 : decode cX8_init 41 = .ok (.dup, 1) := by decide +kernel
theorem dX8_init_42 : decode cX8_init 42 = .ok (.invokespecial 11, 3) := by decide +kernel
theorem dX8_init_45 : decode cX8_init 45 = .ok (.putfield 26, 3) := by decide +kernel
theorem dX8_init_48 : decode cX8_init 48 = .ok (.aload_n 0, 1) := by decide +kernel
theorem dX8_init_49 : decode cX8_init 49 = .ok (.iconst 0, 1) := by decide +kernel
theorem dX8_init_50 : decode cX8_init 50 = .ok (.putfield 29, 3) := by decide +kernel
theorem dX8_init_53 : decode cX8_init 53 = .ok (.aload_n 0, 1) := by decide +kernel
theorem dX8_init_54 : decode cX8_init 54 = .ok (.new 33, 3) := by decide +kernel
theorem dX8_init_57 : decode cX8_init 57 = .ok (.dup, 1) := by decide +kernel
theorem dX8_init_58 : decode cX8_init 58 = .ok (.invokespecial 35, 3) := by decide +kernel
theorem dX8_init_61 : decode cX8_init 61 = .ok (.putfield 36, 3) := by decide +kernel
theorem dX8_init_64 : decode cX8_init 64 = .ok (.aload_n 0, 1) := by decide +kernel
theorem dX8_init_65 : decode cX8_init 65 = .ok (.bipush (-5), 2) := by decide +kernel
theorem dX8_init_67 : decode cX8_init 67 = .ok (.putfield 40, 3) := by decide +kernel
theorem dX8_init_70 : decode cX8_init 70 = .ok (.aload_n 0, 1) := by decide +kernel
theorem dX8_init_71 : decode cX8_init 71 = .ok (.bipush (-5), 2) := by decide +kernel
theorem dX8_init_73 : decode cX8_init 73 = .ok (.putfield 44, 3) := by decide +kernel
theorem dX8_init_76 : decode cX8_init 76 = .ok (.return_, 1) := by decide +kernel
theorem dX8_expect_0 : decode cX8_expect 0 = .ok (.aload_n 0, 1) := by decide +kernel
theorem dX8_expect_1 : decode cX8_expect 1 = .ok (.getfield 16, 3) := by decide +kernel
theorem dX8_expect_4 : decode cX8_expect 4 = .ok (.aload_n 0, 1) := by decide +kernel
theorem dX8_expect_5 : decode cX8_expect 5 = .ok (.getfield 12, 3) := by decide +kernel
theorem dX8_expect_8 : decode cX8_expect 8 = .ok (.invokevirtual 47, 3) := by decide +kernel
theorem dX8_expect_11 : decode cX8_expect 11 = .ok (.aload_n 0, 1) := by decide +kernel
theorem dX8_expect_12 : decode cX8_expect 12 = .ok (.aload_n 0, 1) := by decide +kernel
theorem dX8_expect_13 : decode cX8_expect 13 = .ok (.getfield 12, 3) := by decide +kernel
theorem dX8_expect_16 : decode cX8_expect 16 = .ok (.iload_n 1, 1) := by decide +kernel
theorem dX8_expect_17 : decode cX8_expect 17 = .ok (.iload_n 2, 1) := by decide +kernel
theorem dX8_expect_18 : decode cX8_expect 18 = .ok (.invokevirtual 51, 3) := by decide +kernel
theorem dX8_expect_21 : decode cX8_expect 21 = .ok (.invokevirtual 55, 3) := by decide +kernel
theorem dX8_expect_24 : decode cX8_expect 24 = .ok (.ireturn, 1) := by decide +kernel
theorem dX8_fund_0 : decode cX8_fund 0 = .ok (.aload_n 0, 1) := by decide +kernel
theorem dX8_fund_1 : decode cX8_fund 1 = .ok (.getfield 16, 3) := by decide +kernel
theorem dX8_fund_4 : decode cX8_fund 4 = .ok (.aload_n 0, 1) := by decide +kernel
theorem dX8_fund_5 : decode cX8_fund 5 = .ok (.getfield 12, 3) := by decide +kernel
theorem dX8_fund_8 : decode cX8_fund 8 = .ok (.invokevirtual 47, 3) := by decide +kernel
theorem dX8_fund_11 : decode cX8_fund 11 = .ok (.aload_n 0, 1) := by decide +kernel
theorem dX8_fund_12 : decode cX8_fund 12 = .ok (.aload_n 0, 1) := by decide +kernel
theorem dX8_fund_13 : decode cX8_fund 13 = .ok (.getfield 12, 3) := by decide +kernel
theorem dX8_fund_16 : decode cX8_fund 16 = .ok (.iload_n 1, 1) := by decide +kernel
theorem dX8_fund_17 : decode cX8_fund 17 = .ok (.iload_n 2, 1) := by decide +kernel
theorem dX8_fund_18 : decode cX8_fund 18 = .ok (.invokevirtual 59, 3) := by decide +kernel
theorem dX8_fund_21 : decode cX8_fund 21 = .ok (.invokevirtual 55, 3) := by decide +kernel
theorem dX8_fund_24 : decode cX8_fund 24 = .ok (.ireturn, 1) := by decide +kernel
theorem dX8_bid_0 : decode cX8_bid 0 = .ok (.aload_n 0, 1) := by decide +kernel
theorem dX8_bid_1 : decode cX8_bid 1 = .ok (.getfield 16, 3) := by decide +kernel
theorem dX8_bid_4 : decode cX8_bid 4 = .ok (.aload_n 0, 1) := by decide +kernel
theorem dX8_bid_5 : decode cX8_bid 5 = .ok (.getfield 12, 3) := by decide +kernel
theorem dX8_bid_8 : decode cX8_bid 8 = .ok (.invokevirtual 47, 3) := by decide +kernel
theorem dX8_bid_11 : decode cX8_bid 11 = .ok (.aload_n 0, 1) := by decide +kernel
theorem dX8_bid_12 : decode cX8_bid 12 = .ok (.aload_n 0, 1) := by decide +kernel
theorem dX8_bid_13 : decode cX8_bid 13 = .ok (.getfield 12, 3) := by decide +kernel
theorem dX8_bid_16 : decode cX8_bid 16 = .ok (.iload_n 1, 1) := by decide +kernel
theorem dX8_bid_17 : decode cX8_bid 17 = .ok (.iload_n 2, 1) := by decide +kernel
theorem dX8_bid_18 : decode cX8_bid 18 = .ok (.iload_n 3, 1) := by decide +kernel
theorem dX8_bid_19 : decode cX8_bid 19 = .ok (.iload 4, 2) := by decide +kernel
theorem dX8_bid_21 : decode cX8_bid 21 = .ok (.iload 5, 2) := by decide +kernel
theorem dX8_bid_23 : decode cX8_bid 23 = .ok (.invokevirtual 62, 3) := by decide +kernel
theorem dX8_bid_26 : decode cX8_bid 26 = .ok (.invokevirtual 55, 3) := by decide +kernel
theorem dX8_bid_29 : decode cX8_bid 29 = .ok (.ireturn, 1) := by decide +kernel
theorem dX8_withdraw_0 : decode cX8_withdraw 0 = .ok (.aload_n 0, 1) := by decide +kernel
theorem dX8_withdraw_1 : decode cX8_withdraw 1 = .ok (.getfield 16, 3) := by decide +kernel
theorem dX8_withdraw_4 : decode cX8_withdraw 4 = .ok (.aload_n 0, 1) := by decide +kernel
theorem dX8_withdraw_5 : decode cX8_withdraw 5 = .ok (.getfield 12, 3) := by decide +kernel
theorem dX8_withdraw_8 : decode cX8_withdraw 8 = .ok (.invokevirtual 47, 3) := by decide +kernel
theorem dX8_withdraw_11 : decode cX8_withdraw 11 = .ok (.aload_n 0, 1) := by decide +kernel
theorem dX8_withdraw_12 : decode cX8_withdraw 12 = .ok (.aload_n 0, 1) := by decide +kernel
theorem dX8_withdraw_13 : decode cX8_withdraw 13 = .ok (.getfield 12, 3) := by decide +kernel
theorem dX8_withdraw_16 : decode cX8_withdraw 16 = .ok (.iload_n 1, 1) := by decide +kernel
theorem dX8_withdraw_17 : decode cX8_withdraw 17 = .ok (.iload_n 2, 1) := by decide +kernel
theorem dX8_withdraw_18 : decode cX8_withdraw 18 = .ok (.iload_n 3, 1) := by decide +kernel
theorem dX8_withdraw_19 : decode cX8_withdraw 19 = .ok (.invokevirtual 66, 3) := by decide +kernel
theorem dX8_withdraw_22 : decode cX8_withdraw 22 = .ok (.invokevirtual 55, 3) := by decide +kernel
theorem dX8_withdraw_25 : decode cX8_withdraw 25 = .ok (.ireturn, 1) := by decide +kernel
theorem dX8_award_0 : decode cX8_award 0 = .ok (.aload_n 0, 1) := by decide +kernel
theorem dX8_award_1 : decode cX8_award 1 = .ok (.getfield 16, 3) := by decide +kernel
theorem dX8_award_4 : decode cX8_award 4 = .ok (.aload_n 0, 1) := by decide +kernel
theorem dX8_award_5 : decode cX8_award 5 = .ok (.getfield 12, 3) := by decide +kernel
theorem dX8_award_8 : decode cX8_award 8 = .ok (.invokevirtual 47, 3) := by decide +kernel
theorem dX8_award_11 : decode cX8_award 11 = .ok (.aload_n 0, 1) := by decide +kernel
theorem dX8_award_12 : decode cX8_award 12 = .ok (.aload_n 0, 1) := by decide +kernel
theorem dX8_award_13 : decode cX8_award 13 = .ok (.getfield 12, 3) := by decide +kernel
theorem dX8_award_16 : decode cX8_award 16 = .ok (.iload_n 1, 1) := by decide +kernel
theorem dX8_award_17 : decode cX8_award 17 = .ok (.iload_n 2, 1) := by decide +kernel
theorem dX8_award_18 : decode cX8_award 18 = .ok (.invokevirtual 70, 3) := by decide +kernel
theorem dX8_award_21 : decode cX8_award 21 = .ok (.invokevirtual 55, 3) := by decide +kernel
theorem dX8_award_24 : decode cX8_award 24 = .ok (.ireturn, 1) := by decide +kernel
theorem dX8_trade_0 : decode cX8_trade 0 = .ok (.aload_n 0, 1) := by decide +kernel
theorem dX8_trade_1 : decode cX8_trade 1 = .ok (.getfield 16, 3) := by decide +kernel
theorem dX8_trade_4 : decode cX8_trade 4 = .ok (.aload_n 0, 1) := by decide +kernel
theorem dX8_trade_5 : decode cX8_trade 5 = .ok (.getfield 12, 3) := by decide +kernel
theorem dX8_trade_8 : decode cX8_trade 8 = .ok (.invokevirtual 47, 3) := by decide +kernel
theorem dX8_trade_11 : decode cX8_trade 11 = .ok (.aload_n 0, 1) := by decide +kernel
theorem dX8_trade_12 : decode cX8_trade 12 = .ok (.aload_n 0, 1) := by decide +kernel
theorem dX8_trade_13 : decode cX8_trade 13 = .ok (.getfield 12, 3) := by decide +kernel
theorem dX8_trade_16 : decode cX8_trade 16 = .ok (.iload_n 1, 1) := by decide +kernel
theorem dX8_trade_17 : decode cX8_trade 17 = .ok (.iload_n 2, 1) := by decide +kernel
theorem dX8_trade_18 : decode cX8_trade 18 = .ok (.iload_n 3, 1) := by decide +kernel
theorem dX8_trade_19 : decode cX8_trade 19 = .ok (.iload 4, 2) := by decide +kernel
theorem dX8_trade_21 : decode cX8_trade 21 = .ok (.iload 5, 2) := by decide +kernel
theorem dX8_trade_23 : decode cX8_trade 23 = .ok (.invokevirtual 73, 3) := by decide +kernel
theorem dX8_trade_26 : decode cX8_trade 26 = .ok (.invokevirtual 55, 3) := by decide +kernel
theorem dX8_trade_29 : decode cX8_trade 29 = .ok (.ireturn, 1) := by decide +kernel
theorem dX8_done_0 : decode cX8_done 0 = .ok (.aload_n 0, 1) := by decide +kernel
theorem dX8_done_1 : decode cX8_done 1 = .ok (.getfield 16, 3) := by decide +kernel
theorem dX8_done_4 : decode cX8_done 4 = .ok (.aload_n 0, 1) := by decide +kernel
theorem dX8_done_5 : decode cX8_done 5 = .ok (.getfield 12, 3) := by decide +kernel
theorem dX8_done_8 : decode cX8_done 8 = .ok (.invokevirtual 47, 3) := by decide +kernel
theorem dX8_done_11 : decode cX8_done 11 = .ok (.aload_n 0, 1) := by decide +kernel
theorem dX8_done_12 : decode cX8_done 12 = .ok (.aload_n 0, 1) := by decide +kernel
theorem dX8_done_13 : decode cX8_done 13 = .ok (.getfield 12, 3) := by decide +kernel
theorem dX8_done_16 : decode cX8_done 16 = .ok (.iload_n 1, 1) := by decide +kernel
theorem dX8_done_17 : decode cX8_done 17 = .ok (.invokevirtual 76, 3) := by decide +kernel
theorem dX8_done_20 : decode cX8_done 20 = .ok (.invokevirtual 55, 3) := by decide +kernel
theorem dX8_done_23 : decode cX8_done 23 = .ok (.ireturn, 1) := by decide +kernel
theorem dX8_nextDay_0 : decode cX8_nextDay 0 = .ok (.aload_n 0, 1) := by decide +kernel
theorem dX8_nextDay_1 : decode cX8_nextDay 1 = .ok (.getfield 16, 3) := by decide +kernel
theorem dX8_nextDay_4 : decode cX8_nextDay 4 = .ok (.aload_n 0, 1) := by decide +kernel
theorem dX8_nextDay_5 : decode cX8_nextDay 5 = .ok (.getfield 12, 3) := by decide +kernel
theorem dX8_nextDay_8 : decode cX8_nextDay 8 = .ok (.invokevirtual 47, 3) := by decide +kernel
theorem dX8_nextDay_11 : decode cX8_nextDay 11 = .ok (.aload_n 0, 1) := by decide +kernel
theorem dX8_nextDay_12 : decode cX8_nextDay 12 = .ok (.aload_n 0, 1) := by decide +kernel
theorem dX8_nextDay_13 : decode cX8_nextDay 13 = .ok (.getfield 12, 3) := by decide +kernel
theorem dX8_nextDay_16 : decode cX8_nextDay 16 = .ok (.invokevirtual 79, 3) := by decide +kernel
theorem dX8_nextDay_19 : decode cX8_nextDay 19 = .ok (.invokevirtual 55, 3) := by decide +kernel
theorem dX8_nextDay_22 : decode cX8_nextDay 22 = .ok (.ireturn, 1) := by decide +kernel
theorem dX8_perform_0 : decode cX8_perform 0 = .ok (.aload_n 0, 1) := by decide +kernel
theorem dX8_perform_1 : decode cX8_perform 1 = .ok (.getfield 36, 3) := by decide +kernel
theorem dX8_perform_4 : decode cX8_perform 4 = .ok (.invokevirtual 90, 3) := by decide +kernel
theorem dX8_perform_7 : decode cX8_perform 7 = .ok (.istore_n 1, 1) := by decide +kernel
theorem dX8_perform_8 : decode cX8_perform 8 = .ok (.iload_n 1, 1) := by decide +kernel
theorem dX8_perform_9 : decode cX8_perform 9 = .ok (.ifCond .ge 5, 3) := by decide +kernel
theorem dX8_perform_12 : decode cX8_perform 12 = .ok (.iload_n 1, 1) := by decide +kernel
theorem dX8_perform_13 : decode cX8_perform 13 = .ok (.ireturn, 1) := by decide +kernel
theorem dX8_perform_14 : decode cX8_perform 14 = .ok (.aload_n 0, 1) := by decide +kernel
theorem dX8_perform_15 : decode cX8_perform 15 = .ok (.getfield 16, 3) := by decide +kernel
theorem dX8_perform_18 : decode cX8_perform 18 = .ok (.aload_n 0, 1) := by decide +kernel
theorem dX8_perform_19 : decode cX8_perform 19 = .ok (.getfield 12, 3) := by decide +kernel
theorem dX8_perform_22 : decode cX8_perform 22 = .ok (.invokevirtual 47, 3) := by decide +kernel
theorem dX8_perform_25 : decode cX8_perform 25 = .ok (.aload_n 0, 1) := by decide +kernel
theorem dX8_perform_26 : decode cX8_perform 26 = .ok (.getfield 36, 3) := by decide +kernel
theorem dX8_perform_29 : decode cX8_perform 29 = .ok (.invokevirtual 93, 3) := by decide +kernel
theorem dX8_perform_32 : decode cX8_perform 32 = .ok (.iconst 0, 1) := by decide +kernel
theorem dX8_perform_33 : decode cX8_perform 33 = .ok (.istore_n 2, 1) := by decide +kernel
theorem dX8_perform_34 : decode cX8_perform 34 = .ok (.iload_n 2, 1) := by decide +kernel
theorem dX8_perform_35 : decode cX8_perform 35 = .ok (.iload_n 1, 1) := by decide +kernel
theorem dX8_perform_36 : decode cX8_perform 36 = .ok (.if_icmp .ge 59, 3) := by decide +kernel
theorem dX8_perform_39 : decode cX8_perform 39 = .ok (.aload_n 0, 1) := by decide +kernel
theorem dX8_perform_40 : decode cX8_perform 40 = .ok (.getfield 36, 3) := by decide +kernel
theorem dX8_perform_43 : decode cX8_perform 43 = .ok (.invokevirtual 96, 3) := by decide +kernel
theorem dX8_perform_46 : decode cX8_perform 46 = .ok (.aload_n 0, 1) := by decide +kernel
theorem dX8_perform_47 : decode cX8_perform 47 = .ok (.aload_n 0, 1) := by decide +kernel
theorem dX8_perform_48 : decode cX8_perform 48 = .ok (.getfield 36, 3) := by decide +kernel
theorem dX8_perform_51 : decode cX8_perform 51 = .ok (.invokevirtual 99, 3) := by decide +kernel
theorem dX8_perform_54 : decode cX8_perform 54 = .ok (.istore_n 3, 1) := by decide +kernel
theorem dX8_perform_55 : decode cX8_perform 55 = .ok (.iload_n 3, 1) := by decide +kernel
theorem dX8_perform_56 : decode cX8_perform 56 = .ok (.ifCond .ge 33, 3) := by decide +kernel
theorem dX8_perform_59 : decode cX8_perform 59 = .ok (.iload_n 3, 1) := by decide +kernel
theorem dX8_perform_60 : decode cX8_perform 60 = .ok (.bipush (-5), 2) := by decide +kernel
theorem dX8_perform_62 : decode cX8_perform 62 = .ok (.if_icmp .eq 27, 3) := by decide +kernel
theorem dX8_perform_65 : decode cX8_perform 65 = .ok (.aload_n 0, 1) := by decide +kernel
theorem dX8_perform_66 : decode cX8_perform 66 = .ok (.getfield 12, 3) := by decide +kernel
theorem dX8_perform_69 : decode cX8_perform 69 = .ok (.aload_n 0, 1) := by decide +kernel
theorem dX8_perform_70 : decode cX8_perform 70 = .ok (.getfield 16, 3) := by decide +kernel
theorem dX8_perform_73 : decode cX8_perform 73 = .ok (.invokevirtual 47, 3) := by decide +kernel
theorem dX8_perform_76 : decode cX8_perform 76 = .ok (.aload_n 0, 1) := by decide +kernel
theorem dX8_perform_77 : decode cX8_perform 77 = .ok (.iload_n 2, 1) := by decide +kernel
theorem dX8_perform_78 : decode cX8_perform 78 = .ok (.putfield 40, 3) := by decide +kernel
theorem dX8_perform_81 : decode cX8_perform 81 = .ok (.aload_n 0, 1) := by decide +kernel
theorem dX8_perform_82 : decode cX8_perform 82 = .ok (.iload_n 3, 1) := by decide +kernel
theorem dX8_perform_83 : decode cX8_perform 83 = .ok (.putfield 44, 3) := by decide +kernel
theorem dX8_perform_86 : decode cX8_perform 86 = .ok (.bipush (-4), 2) := by decide +kernel
theorem dX8_perform_88 : decode cX8_perform 88 = .ok (.ireturn, 1) := by decide +kernel
theorem dX8_perform_89 : decode cX8_perform 89 = .ok (.iinc 2 1, 3) := by decide +kernel
theorem dX8_perform_92 : decode cX8_perform 92 = .ok (.goto (-58), 3) := by decide +kernel
theorem dX8_perform_95 : decode cX8_perform 95 = .ok (.aload_n 0, 1) := by decide +kernel
theorem dX8_perform_96 : decode cX8_perform 96 = .ok (.iload_n 1, 1) := by decide +kernel
theorem dX8_perform_97 : decode cX8_perform 97 = .ok (.invokevirtual 55, 3) := by decide +kernel
theorem dX8_perform_100 : decode cX8_perform 100 = .ok (.ireturn, 1) := by decide +kernel
theorem dX8_stopped_0 : decode cX8_stopped 0 = .ok (.iload_n 1, 1) := by decide +kernel
theorem dX8_stopped_1 : decode cX8_stopped 1 = .ok (.lookupswitch 37 #[(0, 27), (1, 32)], 27) := by decide +kernel
theorem dX8_stopped_28 : decode cX8_stopped 28 = .ok (.aload_n 0, 1) := by decide +kernel
theorem dX8_stopped_29 : decode cX8_stopped 29 = .ok (.getfield 40, 3) := by decide +kernel
theorem dX8_stopped_32 : decode cX8_stopped 32 = .ok (.ireturn, 1) := by decide +kernel
theorem dX8_stopped_33 : decode cX8_stopped 33 = .ok (.aload_n 0, 1) := by decide +kernel
theorem dX8_stopped_34 : decode cX8_stopped 34 = .ok (.getfield 44, 3) := by decide +kernel
theorem dX8_stopped_37 : decode cX8_stopped 37 = .ok (.ireturn, 1) := by decide +kernel
theorem dX8_stopped_38 : decode cX8_stopped 38 = .ok (.bipush (-2), 2) := by decide +kernel
theorem dX8_stopped_40 : decode cX8_stopped 40 = .ok (.ireturn, 1) := by decide +kernel
theorem dX8_undo_0 : decode cX8_undo 0 = .ok (.aload_n 0, 1) := by decide +kernel
theorem dX8_undo_1 : decode cX8_undo 1 = .ok (.getfield 22, 3) := by decide +kernel
theorem dX8_undo_4 : decode cX8_undo 4 = .ok (.aload_n 0, 1) := by decide +kernel
theorem dX8_undo_5 : decode cX8_undo 5 = .ok (.getfield 12, 3) := by decide +kernel
theorem dX8_undo_8 : decode cX8_undo 8 = .ok (.invokevirtual 103, 3) := by decide +kernel
theorem dX8_undo_11 : decode cX8_undo 11 = .ok (.ifCond .eq 13, 3) := by decide +kernel
theorem dX8_undo_14 : decode cX8_undo 14 = .ok (.aload_n 0, 1) := by decide +kernel
theorem dX8_undo_15 : decode cX8_undo 15 = .ok (.getfield 22, 3) := by decide +kernel
theorem dX8_undo_18 : decode cX8_undo 18 = .ok (.invokevirtual 107, 3) := by decide +kernel
theorem dX8_undo_21 : decode cX8_undo 21 = .ok (.goto 5, 3) := by decide +kernel
theorem dX8_undo_24 : decode cX8_undo 24 = .ok (.bipush (-5), 2) := by decide +kernel
theorem dX8_undo_26 : decode cX8_undo 26 = .ok (.ireturn, 1) := by decide +kernel
theorem dX8_restore_0 : decode cX8_restore 0 = .ok (.aload_n 0, 1) := by decide +kernel
theorem dX8_restore_1 : decode cX8_restore 1 = .ok (.getfield 29, 3) := by decide +kernel
theorem dX8_restore_4 : decode cX8_restore 4 = .ok (.ifCond .ne 6, 3) := by decide +kernel
theorem dX8_restore_7 : decode cX8_restore 7 = .ok (.bipush (-5), 2) := by decide +kernel
theorem dX8_restore_9 : decode cX8_restore 9 = .ok (.ireturn, 1) := by decide +kernel
theorem dX8_restore_10 : decode cX8_restore 10 = .ok (.aload_n 0, 1) := by decide +kernel
theorem dX8_restore_11 : decode cX8_restore 11 = .ok (.getfield 16, 3) := by decide +kernel
theorem dX8_restore_14 : decode cX8_restore 14 = .ok (.aload_n 0, 1) := by decide +kernel
theorem dX8_restore_15 : decode cX8_restore 15 = .ok (.getfield 12, 3) := by decide +kernel
theorem dX8_restore_18 : decode cX8_restore 18 = .ok (.invokevirtual 47, 3) := by decide +kernel
theorem dX8_restore_21 : decode cX8_restore 21 = .ok (.aload_n 0, 1) := by decide +kernel
theorem dX8_restore_22 : decode cX8_restore 22 = .ok (.getfield 12, 3) := by decide +kernel
theorem dX8_restore_25 : decode cX8_restore 25 = .ok (.aload_n 0, 1) := by decide +kernel
theorem dX8_restore_26 : decode cX8_restore 26 = .ok (.getfield 26, 3) := by decide +kernel
theorem dX8_restore_29 : decode cX8_restore 29 = .ok (.invokevirtual 47, 3) := by decide +kernel
theorem dX8_restore_32 : decode cX8_restore 32 = .ok (.aload_n 0, 1) := by decide +kernel
theorem dX8_restore_33 : decode cX8_restore 33 = .ok (.aload_n 0, 1) := by decide +kernel
theorem dX8_restore_34 : decode cX8_restore 34 = .ok (.getfield 12, 3) := by decide +kernel
theorem dX8_restore_37 : decode cX8_restore 37 = .ok (.getfield 110, 3) := by decide +kernel
theorem dX8_restore_40 : decode cX8_restore 40 = .ok (.invokevirtual 114, 3) := by decide +kernel
theorem dX8_restore_43 : decode cX8_restore 43 = .ok (.invokevirtual 55, 3) := by decide +kernel
theorem dX8_restore_46 : decode cX8_restore 46 = .ok (.ireturn, 1) := by decide +kernel
theorem dX8_firm_0 : decode cX8_firm 0 = .ok (.iload_n 1, 1) := by decide +kernel
theorem dX8_firm_1 : decode cX8_firm 1 = .ok (.invokestatic 119, 3) := by decide +kernel
theorem dX8_firm_4 : decode cX8_firm 4 = .ok (.ifCond .ne 5, 3) := by decide +kernel
theorem dX8_firm_7 : decode cX8_firm 7 = .ok (.iconst (-1), 1) := by decide +kernel
theorem dX8_firm_8 : decode cX8_firm 8 = .ok (.ireturn, 1) := by decide +kernel
theorem dX8_firm_9 : decode cX8_firm 9 = .ok (.iload_n 2, 1) := by decide +kernel
theorem dX8_firm_10 : decode cX8_firm 10 = .ok (.tableswitch 135 0 6 #[42, 57, 69, 81, 90, 105, 120], 42) := by decide +kernel
theorem dX8_firm_52 : decode cX8_firm 52 = .ok (.aload_n 0, 1) := by decide +kernel
theorem dX8_firm_53 : decode cX8_firm 53 = .ok (.getfield 12, 3) := by decide +kernel
theorem dX8_firm_56 : decode cX8_firm 56 = .ok (.getfield 123, 3) := by decide +kernel
theorem dX8_firm_59 : decode cX8_firm 59 = .ok (.getfield 127, 3) := by decide +kernel
theorem dX8_firm_62 : decode cX8_firm 62 = .ok (.iload_n 1, 1) := by decide +kernel
theorem dX8_firm_63 : decode cX8_firm 63 = .ok (.invokestatic 133, 3) := by decide +kernel
theorem dX8_firm_66 : decode cX8_firm 66 = .ok (.ireturn, 1) := by decide +kernel
theorem dX8_firm_67 : decode cX8_firm 67 = .ok (.aload_n 0, 1) := by decide +kernel
theorem dX8_firm_68 : decode cX8_firm 68 = .ok (.getfield 12, 3) := by decide +kernel
theorem dX8_firm_71 : decode cX8_firm 71 = .ok (.getfield 110, 3) := by decide +kernel
theorem dX8_firm_74 : decode cX8_firm 74 = .ok (.iload_n 1, 1) := by decide +kernel
theorem dX8_firm_75 : decode cX8_firm 75 = .ok (.invokevirtual 139, 3) := by decide +kernel
theorem dX8_firm_78 : decode cX8_firm 78 = .ok (.ireturn, 1) := by decide +kernel
theorem dX8_firm_79 : decode cX8_firm 79 = .ok (.aload_n 0, 1) := by decide +kernel
theorem dX8_firm_80 : decode cX8_firm 80 = .ok (.getfield 12, 3) := by decide +kernel
theorem dX8_firm_83 : decode cX8_firm 83 = .ok (.getfield 110, 3) := by decide +kernel
theorem dX8_firm_86 : decode cX8_firm 86 = .ok (.iload_n 1, 1) := by decide +kernel
theorem dX8_firm_87 : decode cX8_firm 87 = .ok (.invokevirtual 142, 3) := by decide +kernel
theorem dX8_firm_90 : decode cX8_firm 90 = .ok (.ireturn, 1) := by decide +kernel
theorem dX8_firm_91 : decode cX8_firm 91 = .ok (.aload_n 0, 1) := by decide +kernel
theorem dX8_firm_92 : decode cX8_firm 92 = .ok (.getfield 12, 3) := by decide +kernel
theorem dX8_firm_95 : decode cX8_firm 95 = .ok (.iload_n 1, 1) := by decide +kernel
theorem dX8_firm_96 : decode cX8_firm 96 = .ok (.invokevirtual 145, 3) := by decide +kernel
theorem dX8_firm_99 : decode cX8_firm 99 = .ok (.ireturn, 1) := by decide +kernel
theorem dX8_firm_100 : decode cX8_firm 100 = .ok (.aload_n 0, 1) := by decide +kernel
theorem dX8_firm_101 : decode cX8_firm 101 = .ok (.getfield 12, 3) := by decide +kernel
theorem dX8_firm_104 : decode cX8_firm 104 = .ok (.getfield 123, 3) := by decide +kernel
theorem dX8_firm_107 : decode cX8_firm 107 = .ok (.getfield 148, 3) := by decide +kernel
theorem dX8_firm_110 : decode cX8_firm 110 = .ok (.iload_n 1, 1) := by decide +kernel
theorem dX8_firm_111 : decode cX8_firm 111 = .ok (.invokestatic 133, 3) := by decide +kernel
theorem dX8_firm_114 : decode cX8_firm 114 = .ok (.ireturn, 1) := by decide +kernel
theorem dX8_firm_115 : decode cX8_firm 115 = .ok (.aload_n 0, 1) := by decide +kernel
theorem dX8_firm_116 : decode cX8_firm 116 = .ok (.getfield 12, 3) := by decide +kernel
theorem dX8_firm_119 : decode cX8_firm 119 = .ok (.getfield 123, 3) := by decide +kernel
theorem dX8_firm_122 : decode cX8_firm 122 = .ok (.getfield 151, 3) := by decide +kernel
theorem dX8_firm_125 : decode cX8_firm 125 = .ok (.iload_n 1, 1) := by decide +kernel
theorem dX8_firm_126 : decode cX8_firm 126 = .ok (.invokestatic 133, 3) := by decide +kernel
theorem dX8_firm_129 : decode cX8_firm 129 = .ok (.ireturn, 1) := by decide +kernel
theorem dX8_firm_130 : decode cX8_firm 130 = .ok (.aload_n 0, 1) := by decide +kernel
theorem dX8_firm_131 : decode cX8_firm 131 = .ok (.getfield 12, 3) := by decide +kernel
theorem dX8_firm_134 : decode cX8_firm 134 = .ok (.getfield 123, 3) := by decide +kernel
theorem dX8_firm_137 : decode cX8_firm 137 = .ok (.getfield 154, 3) := by decide +kernel
theorem dX8_firm_140 : decode cX8_firm 140 = .ok (.iload_n 1, 1) := by decide +kernel
theorem dX8_firm_141 : decode cX8_firm 141 = .ok (.invokestatic 133, 3) := by decide +kernel
theorem dX8_firm_144 : decode cX8_firm 144 = .ok (.ireturn, 1) := by decide +kernel
theorem dX8_firm_145 : decode cX8_firm 145 = .ok (.bipush (-2), 2) := by decide +kernel
theorem dX8_firm_147 : decode cX8_firm 147 = .ok (.ireturn, 1) := by decide +kernel
theorem dX8_slot_0 : decode cX8_slot 0 = .ok (.iload_n 1, 1) := by decide +kernel
theorem dX8_slot_1 : decode cX8_slot 1 = .ok (.iload_n 2, 1) := by decide +kernel
theorem dX8_slot_2 : decode cX8_slot 2 = .ok (.invokestatic 157, 3) := by decide +kernel
theorem dX8_slot_5 : decode cX8_slot 5 = .ok (.ifCond .ne 5, 3) := by decide +kernel
theorem dX8_slot_8 : decode cX8_slot 8 = .ok (.iconst (-1), 1) := by decide +kernel
theorem dX8_slot_9 : decode cX8_slot 9 = .ok (.ireturn, 1) := by decide +kernel
theorem dX8_slot_10 : decode cX8_slot 10 = .ok (.iload_n 1, 1) := by decide +kernel
theorem dX8_slot_11 : decode cX8_slot 11 = .ok (.iload_n 2, 1) := by decide +kernel
theorem dX8_slot_12 : decode cX8_slot 12 = .ok (.invokestatic 161, 3) := by decide +kernel
theorem dX8_slot_15 : decode cX8_slot 15 = .ok (.istore 4, 2) := by decide +kernel
theorem dX8_slot_17 : decode cX8_slot 17 = .ok (.iload_n 3, 1) := by decide +kernel
theorem dX8_slot_18 : decode cX8_slot 18 = .ok (.tableswitch 166 0 6 #[42, 55, 71, 87, 100, 117, 134], 42) := by decide +kernel
theorem dX8_slot_60 : decode cX8_slot 60 = .ok (.aload_n 0, 1) := by decide +kernel
theorem dX8_slot_61 : decode cX8_slot 61 = .ok (.getfield 12, 3) := by decide +kernel
theorem dX8_slot_64 : decode cX8_slot 64 = .ok (.getfield 164, 3) := by decide +kernel
theorem dX8_slot_67 : decode cX8_slot 67 = .ok (.iload 4, 2) := by decide +kernel
theorem dX8_slot_69 : decode cX8_slot 69 = .ok (.invokevirtual 168, 3) := by decide +kernel
theorem dX8_slot_72 : decode cX8_slot 72 = .ok (.ireturn, 1) := by decide +kernel
theorem dX8_slot_73 : decode cX8_slot 73 = .ok (.aload_n 0, 1) := by decide +kernel
theorem dX8_slot_74 : decode cX8_slot 74 = .ok (.getfield 12, 3) := by decide +kernel
theorem dX8_slot_77 : decode cX8_slot 77 = .ok (.getfield 164, 3) := by decide +kernel
theorem dX8_slot_80 : decode cX8_slot 80 = .ok (.getfield 173, 3) := by decide +kernel
theorem dX8_slot_83 : decode cX8_slot 83 = .ok (.iload 4, 2) := by decide +kernel
theorem dX8_slot_85 : decode cX8_slot 85 = .ok (.invokestatic 133, 3) := by decide +kernel
theorem dX8_slot_88 : decode cX8_slot 88 = .ok (.ireturn, 1) := by decide +kernel
theorem dX8_slot_89 : decode cX8_slot 89 = .ok (.aload_n 0, 1) := by decide +kernel
theorem dX8_slot_90 : decode cX8_slot 90 = .ok (.getfield 12, 3) := by decide +kernel
theorem dX8_slot_93 : decode cX8_slot 93 = .ok (.getfield 164, 3) := by decide +kernel
theorem dX8_slot_96 : decode cX8_slot 96 = .ok (.getfield 176, 3) := by decide +kernel
theorem dX8_slot_99 : decode cX8_slot 99 = .ok (.iload 4, 2) := by decide +kernel
theorem dX8_slot_101 : decode cX8_slot 101 = .ok (.invokestatic 133, 3) := by decide +kernel
theorem dX8_slot_104 : decode cX8_slot 104 = .ok (.ireturn, 1) := by decide +kernel
theorem dX8_slot_105 : decode cX8_slot 105 = .ok (.aload_n 0, 1) := by decide +kernel
theorem dX8_slot_106 : decode cX8_slot 106 = .ok (.getfield 12, 3) := by decide +kernel
theorem dX8_slot_109 : decode cX8_slot 109 = .ok (.getfield 110, 3) := by decide +kernel
theorem dX8_slot_112 : decode cX8_slot 112 = .ok (.iload 4, 2) := by decide +kernel
theorem dX8_slot_114 : decode cX8_slot 114 = .ok (.invokevirtual 179, 3) := by decide +kernel
theorem dX8_slot_117 : decode cX8_slot 117 = .ok (.ireturn, 1) := by decide +kernel
theorem dX8_slot_118 : decode cX8_slot 118 = .ok (.aload_n 0, 1) := by decide +kernel
theorem dX8_slot_119 : decode cX8_slot 119 = .ok (.getfield 12, 3) := by decide +kernel
theorem dX8_slot_122 : decode cX8_slot 122 = .ok (.getfield 110, 3) := by decide +kernel
theorem dX8_slot_125 : decode cX8_slot 125 = .ok (.iload 4, 2) := by decide +kernel
theorem dX8_slot_127 : decode cX8_slot 127 = .ok (.bipush 60, 2) := by decide +kernel
theorem dX8_slot_129 : decode cX8_slot 129 = .ok (.bipush (-5), 2) := by decide +kernel
theorem dX8_slot_131 : decode cX8_slot 131 = .ok (.invokevirtual 182, 3) := by decide +kernel
theorem dX8_slot_134 : decode cX8_slot 134 = .ok (.ireturn, 1) := by decide +kernel
theorem dX8_slot_135 : decode cX8_slot 135 = .ok (.aload_n 0, 1) := by decide +kernel
theorem dX8_slot_136 : decode cX8_slot 136 = .ok (.getfield 12, 3) := by decide +kernel
theorem dX8_slot_139 : decode cX8_slot 139 = .ok (.iload_n 2, 1) := by decide +kernel
theorem dX8_slot_140 : decode cX8_slot 140 = .ok (.invokevirtual 185, 3) := by decide +kernel
theorem dX8_slot_143 : decode cX8_slot 143 = .ok (.ifCond .eq 7, 3) := by decide +kernel
theorem dX8_slot_146 : decode cX8_slot 146 = .ok (.iconst 1, 1) := by decide +kernel
theorem dX8_slot_147 : decode cX8_slot 147 = .ok (.goto 4, 3) := by decide +kernel
theorem dX8_slot_150 : decode cX8_slot 150 = .ok (.iconst 0, 1) := by decide +kernel
theorem dX8_slot_151 : decode cX8_slot 151 = .ok (.ireturn, 1) := by decide +kernel
theorem dX8_slot_152 : decode cX8_slot 152 = .ok (.aload_n 0, 1) := by decide +kernel
theorem dX8_slot_153 : decode cX8_slot 153 = .ok (.getfield 12, 3) := by decide +kernel
theorem dX8_slot_156 : decode cX8_slot 156 = .ok (.iload_n 2, 1) := by decide +kernel
theorem dX8_slot_157 : decode cX8_slot 157 = .ok (.invokevirtual 185, 3) := by decide +kernel
theorem dX8_slot_160 : decode cX8_slot 160 = .ok (.ifCond .eq 21, 3) := by decide +kernel
theorem dX8_slot_163 : decode cX8_slot 163 = .ok (.aload_n 0, 1) := by decide +kernel
theorem dX8_slot_164 : decode cX8_slot 164 = .ok (.getfield 12, 3) := by decide +kernel
theorem dX8_slot_167 : decode cX8_slot 167 = .ok (.getfield 164, 3) := by decide +kernel
theorem dX8_slot_170 : decode cX8_slot 170 = .ok (.getfield 188, 3) := by decide +kernel
theorem dX8_slot_173 : decode cX8_slot 173 = .ok (.iload 4, 2) := by decide +kernel
theorem dX8_slot_175 : decode cX8_slot 175 = .ok (.invokestatic 133, 3) := by decide +kernel
theorem dX8_slot_178 : decode cX8_slot 178 = .ok (.goto 5, 3) := by decide +kernel
theorem dX8_slot_181 : decode cX8_slot 181 = .ok (.bipush (-5), 2) := by decide +kernel
theorem dX8_slot_183 : decode cX8_slot 183 = .ok (.ireturn, 1) := by decide +kernel
theorem dX8_slot_184 : decode cX8_slot 184 = .ok (.bipush (-2), 2) := by decide +kernel
theorem dX8_slot_186 : decode cX8_slot 186 = .ok (.ireturn, 1) := by decide +kernel
theorem dX8_wouldCost_0 : decode cX8_wouldCost 0 = .ok (.aload_n 0, 1) := by decide +kernel
theorem dX8_wouldCost_1 : decode cX8_wouldCost 1 = .ok (.getfield 12, 3) := by decide +kernel
theorem dX8_wouldCost_4 : decode cX8_wouldCost 4 = .ok (.iload_n 1, 1) := by decide +kernel
theorem dX8_wouldCost_5 : decode cX8_wouldCost 5 = .ok (.iload_n 2, 1) := by decide +kernel
theorem dX8_wouldCost_6 : decode cX8_wouldCost 6 = .ok (.iload_n 3, 1) := by decide +kernel
theorem dX8_wouldCost_7 : decode cX8_wouldCost 7 = .ok (.iload 4, 2) := by decide +kernel
theorem dX8_wouldCost_9 : decode cX8_wouldCost 9 = .ok (.iload 5, 2) := by decide +kernel
theorem dX8_wouldCost_11 : decode cX8_wouldCost 11 = .ok (.invokevirtual 191, 3) := by decide +kernel
theorem dX8_wouldCost_14 : decode cX8_wouldCost 14 = .ok (.istore 6, 2) := by decide +kernel
theorem dX8_wouldCost_16 : decode cX8_wouldCost 16 = .ok (.iload 6, 2) := by decide +kernel
theorem dX8_wouldCost_18 : decode cX8_wouldCost 18 = .ok (.ifCond .ge 8, 3) := by decide +kernel
theorem dX8_wouldCost_21 : decode cX8_wouldCost 21 = .ok (.iload 6, 2) := by decide +kernel
theorem dX8_wouldCost_23 : decode cX8_wouldCost 23 = .ok (.goto 17, 3) := by decide +kernel
theorem dX8_wouldCost_26 : decode cX8_wouldCost 26 = .ok (.aload_n 0, 1) := by decide +kernel
theorem dX8_wouldCost_27 : decode cX8_wouldCost 27 = .ok (.getfield 12, 3) := by decide +kernel
theorem dX8_wouldCost_30 : decode cX8_wouldCost 30 = .ok (.iload_n 1, 1) := by decide +kernel
theorem dX8_wouldCost_31 : decode cX8_wouldCost 31 = .ok (.iload_n 2, 1) := by decide +kernel
theorem dX8_wouldCost_32 : decode cX8_wouldCost 32 = .ok (.iload_n 3, 1) := by decide +kernel
theorem dX8_wouldCost_33 : decode cX8_wouldCost 33 = .ok (.iload 4, 2) := by decide +kernel
theorem dX8_wouldCost_35 : decode cX8_wouldCost 35 = .ok (.iload 5, 2) := by decide +kernel
theorem dX8_wouldCost_37 : decode cX8_wouldCost 37 = .ok (.invokevirtual 194, 3) := by decide +kernel
theorem dX8_wouldCost_40 : decode cX8_wouldCost 40 = .ok (.ireturn, 1) := by decide +kernel
theorem dX8_heaviest_0 : decode cX8_heaviest 0 = .ok (.iload_n 1, 1) := by decide +kernel
theorem dX8_heaviest_1 : decode cX8_heaviest 1 = .ok (.iload_n 2, 1) := by decide +kernel
theorem dX8_heaviest_2 : decode cX8_heaviest 2 = .ok (.invokestatic 157, 3) := by decide +kernel
theorem dX8_heaviest_5 : decode cX8_heaviest 5 = .ok (.ifCond .eq 15, 3) := by decide +kernel
theorem dX8_heaviest_8 : decode cX8_heaviest 8 = .ok (.aload_n 0, 1) := by decide +kernel
theorem dX8_heaviest_9 : decode cX8_heaviest 9 = .ok (.getfield 12, 3) := by decide +kernel
theorem dX8_heaviest_12 : decode cX8_heaviest 12 = .ok (.iload_n 1, 1) := by decide +kernel
theorem dX8_heaviest_13 : decode cX8_heaviest 13 = .ok (.iload_n 2, 1) := by decide +kernel
theorem dX8_heaviest_14 : decode cX8_heaviest 14 = .ok (.invokevirtual 197, 3) := by decide +kernel
theorem dX8_heaviest_17 : decode cX8_heaviest 17 = .ok (.goto 4, 3) := by decide +kernel
theorem dX8_heaviest_20 : decode cX8_heaviest 20 = .ok (.iconst (-1), 1) := by decide +kernel
theorem dX8_heaviest_21 : decode cX8_heaviest 21 = .ok (.ireturn, 1) := by decide +kernel
theorem dX8_wind_0 : decode cX8_wind 0 = .ok (.iload_n 1, 1) := by decide +kernel
theorem dX8_wind_1 : decode cX8_wind 1 = .ok (.invokestatic 200, 3) := by decide +kernel
theorem dX8_wind_4 : decode cX8_wind 4 = .ok (.ifCond .ne 5, 3) := by decide +kernel
theorem dX8_wind_7 : decode cX8_wind 7 = .ok (.iconst (-1), 1) := by decide +kernel
theorem dX8_wind_8 : decode cX8_wind 8 = .ok (.ireturn, 1) := by decide +kernel
theorem dX8_wind_9 : decode cX8_wind 9 = .ok (.aload_n 0, 1) := by decide +kernel
theorem dX8_wind_10 : decode cX8_wind 10 = .ok (.getfield 12, 3) := by decide +kernel
theorem dX8_wind_13 : decode cX8_wind 13 = .ok (.iload_n 1, 1) := by decide +kernel
theorem dX8_wind_14 : decode cX8_wind 14 = .ok (.invokevirtual 185, 3) := by decide +kernel
theorem dX8_wind_17 : decode cX8_wind 17 = .ok (.ifCond .eq 13, 3) := by decide +kernel
theorem dX8_wind_20 : decode cX8_wind 20 = .ok (.aload_n 0, 1) := by decide +kernel
theorem dX8_wind_21 : decode cX8_wind 21 = .ok (.getfield 12, 3) := by decide +kernel
theorem dX8_wind_24 : decode cX8_wind 24 = .ok (.getfield 203, 3) := by decide +kernel
theorem dX8_wind_27 : decode cX8_wind 27 = .ok (.goto 10, 3) := by decide +kernel
theorem dX8_wind_30 : decode cX8_wind 30 = .ok (.aload_n 0, 1) := by decide +kernel
theorem dX8_wind_31 : decode cX8_wind 31 = .ok (.getfield 12, 3) := by decide +kernel
theorem dX8_wind_34 : decode cX8_wind 34 = .ok (.getfield 206, 3) := by decide +kernel
theorem dX8_wind_37 : decode cX8_wind 37 = .ok (.iload_n 1, 1) := by decide +kernel
theorem dX8_wind_38 : decode cX8_wind 38 = .ok (.invokestatic 133, 3) := by decide +kernel
theorem dX8_wind_41 : decode cX8_wind 41 = .ok (.ireturn, 1) := by decide +kernel
theorem dX8_cheapest_0 : decode cX8_cheapest 0 = .ok (.iload_n 1, 1) := by decide +kernel
theorem dX8_cheapest_1 : decode cX8_cheapest 1 = .ok (.invokestatic 209, 3) := by decide +kernel
theorem dX8_cheapest_4 : decode cX8_cheapest 4 = .ok (.ifCond .ne 5, 3) := by decide +kernel
theorem dX8_cheapest_7 : decode cX8_cheapest 7 = .ok (.iconst (-1), 1) := by decide +kernel
theorem dX8_cheapest_8 : decode cX8_cheapest 8 = .ok (.ireturn, 1) := by decide +kernel
theorem dX8_cheapest_9 : decode cX8_cheapest 9 = .ok (.iload_n 1, 1) := by decide +kernel
theorem dX8_cheapest_10 : decode cX8_cheapest 10 = .ok (.iload_n 2, 1) := by decide +kernel
theorem dX8_cheapest_11 : decode cX8_cheapest 11 = .ok (.invokestatic 212, 3) := by decide +kernel
theorem dX8_cheapest_14 : decode cX8_cheapest 14 = .ok (.ifCond .eq 15, 3) := by decide +kernel
theorem dX8_cheapest_17 : decode cX8_cheapest 17 = .ok (.aload_n 0, 1) := by decide +kernel
theorem dX8_cheapest_18 : decode cX8_cheapest 18 = .ok (.getfield 12, 3) := by decide +kernel
theorem dX8_cheapest_21 : decode cX8_cheapest 21 = .ok (.iload_n 1, 1) := by decide +kernel
theorem dX8_cheapest_22 : decode cX8_cheapest 22 = .ok (.iload_n 2, 1) := by decide +kernel
theorem dX8_cheapest_23 : decode cX8_cheapest 23 = .ok (.invokevirtual 215, 3) := by decide +kernel
theorem dX8_cheapest_26 : decode cX8_cheapest 26 = .ok (.goto 5, 3) := by decide +kernel
theorem dX8_cheapest_29 : decode cX8_cheapest 29 = .ok (.bipush (-2), 2) := by decide +kernel
theorem dX8_cheapest_31 : decode cX8_cheapest 31 = .ok (.ireturn, 1) := by decide +kernel
theorem dX8_count_0 : decode cX8_count 0 = .ok (.iload_n 1, 1) := by decide +kernel
theorem dX8_count_1 : decode cX8_count 1 = .ok (.lookupswitch 65 #[(10, 35), (14, 49), (15, 57)], 35) := by decide +kernel
theorem dX8_count_36 : decode cX8_count 36 = .ok (.aload_n 0, 1) := by decide +kernel
theorem dX8_count_37 : decode cX8_count 37 = .ok (.getfield 12, 3) := by decide +kernel
theorem dX8_count_40 : decode cX8_count 40 = .ok (.getfield 123, 3) := by decide +kernel
theorem dX8_count_43 : decode cX8_count 43 = .ok (.getfield 127, 3) := by decide +kernel
theorem dX8_count_46 : decode cX8_count 46 = .ok (.invokestatic 218, 3) := by decide +kernel
theorem dX8_count_49 : decode cX8_count 49 = .ok (.ireturn, 1) := by decide +kernel
theorem dX8_count_50 : decode cX8_count 50 = .ok (.aload_n 0, 1) := by decide +kernel
theorem dX8_count_51 : decode cX8_count 51 = .ok (.getfield 22, 3) := by decide +kernel
theorem dX8_count_54 : decode cX8_count 54 = .ok (.invokevirtual 107, 3) := by decide +kernel
theorem dX8_count_57 : decode cX8_count 57 = .ok (.ireturn, 1) := by decide +kernel
theorem dX8_count_58 : decode cX8_count 58 = .ok (.aload_n 0, 1) := by decide +kernel
theorem dX8_count_59 : decode cX8_count 59 = .ok (.getfield 36, 3) := by decide +kernel
theorem dX8_count_62 : decode cX8_count 62 = .ok (.invokevirtual 222, 3) := by decide +kernel
theorem dX8_count_65 : decode cX8_count 65 = .ok (.ireturn, 1) := by decide +kernel
theorem dX8_count_66 : decode cX8_count 66 = .ok (.aload_n 0, 1) := by decide +kernel
theorem dX8_count_67 : decode cX8_count 67 = .ok (.getfield 12, 3) := by decide +kernel
theorem dX8_count_70 : decode cX8_count 70 = .ok (.iload_n 1, 1) := by decide +kernel
theorem dX8_count_71 : decode cX8_count 71 = .ok (.invokevirtual 225, 3) := by decide +kernel
theorem dX8_count_74 : decode cX8_count 74 = .ok (.ireturn, 1) := by decide +kernel
theorem dX8_recorded_0 : decode cX8_recorded 0 = .ok (.iload_n 1, 1) := by decide +kernel
theorem dX8_recorded_1 : decode cX8_recorded 1 = .ok (.ifCond .lt 14, 3) := by decide +kernel
theorem dX8_recorded_4 : decode cX8_recorded 4 = .ok (.aload_n 0, 1) := by decide +kernel
theorem dX8_recorded_5 : decode cX8_recorded 5 = .ok (.getfield 22, 3) := by decide +kernel
theorem dX8_recorded_8 : decode cX8_recorded 8 = .ok (.aload_n 0, 1) := by decide +kernel
theorem dX8_recorded_9 : decode cX8_recorded 9 = .ok (.getfield 16, 3) := by decide +kernel
theorem dX8_recorded_12 : decode cX8_recorded 12 = .ok (.invokevirtual 228, 3) := by decide +kernel
theorem dX8_recorded_15 : decode cX8_recorded 15 = .ok (.iload_n 1, 1) := by decide +kernel
theorem dX8_recorded_16 : decode cX8_recorded 16 = .ok (.ireturn, 1) := by decide +kernel
theorem dX8_performed_0 : decode cX8_performed 0 = .ok (.aload_n 1, 1) := by decide +kernel
theorem dX8_performed_1 : decode cX8_performed 1 = .ok (.getfield 231, 3) := by decide +kernel
theorem dX8_performed_4 : decode cX8_performed 4 = .ok (.tableswitch 88 98 101 #[32, 88, 76, 60], 32) := by decide +kernel
theorem dX8_performed_36 : decode cX8_performed 36 = .ok (.aload_n 0, 1) := by decide +kernel
theorem dX8_performed_37 : decode cX8_performed 37 = .ok (.getfield 12, 3) := by decide +kernel
theorem dX8_performed_40 : decode cX8_performed 40 = .ok (.aload_n 1, 1) := by decide +kernel
theorem dX8_performed_41 : decode cX8_performed 41 = .ok (.getfield 234, 3) := by decide +kernel
theorem dX8_performed_44 : decode cX8_performed 44 = .ok (.aload_n 1, 1) := by decide +kernel
theorem dX8_performed_45 : decode cX8_performed 45 = .ok (.getfield 237, 3) := by decide +kernel
theorem dX8_performed_48 : decode cX8_performed 48 = .ok (.aload_n 1, 1) := by decide +kernel
theorem dX8_performed_49 : decode cX8_performed 49 = .ok (.getfield 240, 3) := by decide +kernel
theorem dX8_performed_52 : decode cX8_performed 52 = .ok (.aload_n 1, 1) := by decide +kernel
theorem dX8_performed_53 : decode cX8_performed 53 = .ok (.getfield 243, 3) := by decide +kernel
theorem dX8_performed_56 : decode cX8_performed 56 = .ok (.aload_n 1, 1) := by decide +kernel
theorem dX8_performed_57 : decode cX8_performed 57 = .ok (.getfield 246, 3) := by decide +kernel
theorem dX8_performed_60 : decode cX8_performed 60 = .ok (.invokevirtual 62, 3) := by decide +kernel
theorem dX8_performed_63 : decode cX8_performed 63 = .ok (.ireturn, 1) := by decide +kernel
theorem dX8_performed_64 : decode cX8_performed 64 = .ok (.aload_n 0, 1) := by decide +kernel
theorem dX8_performed_65 : decode cX8_performed 65 = .ok (.getfield 12, 3) := by decide +kernel
theorem dX8_performed_68 : decode cX8_performed 68 = .ok (.aload_n 1, 1) := by decide +kernel
theorem dX8_performed_69 : decode cX8_performed 69 = .ok (.getfield 240, 3) := by decide +kernel
theorem dX8_performed_72 : decode cX8_performed 72 = .ok (.aload_n 1, 1) := by decide +kernel
theorem dX8_performed_73 : decode cX8_performed 73 = .ok (.getfield 249, 3) := by decide +kernel
theorem dX8_performed_76 : decode cX8_performed 76 = .ok (.invokevirtual 51, 3) := by decide +kernel
theorem dX8_performed_79 : decode cX8_performed 79 = .ok (.ireturn, 1) := by decide +kernel
theorem dX8_performed_80 : decode cX8_performed 80 = .ok (.aload_n 0, 1) := by decide +kernel
theorem dX8_performed_81 : decode cX8_performed 81 = .ok (.getfield 12, 3) := by decide +kernel
theorem dX8_performed_84 : decode cX8_performed 84 = .ok (.aload_n 1, 1) := by decide +kernel
theorem dX8_performed_85 : decode cX8_performed 85 = .ok (.getfield 249, 3) := by decide +kernel
theorem dX8_performed_88 : decode cX8_performed 88 = .ok (.invokevirtual 76, 3) := by decide +kernel
theorem dX8_performed_91 : decode cX8_performed 91 = .ok (.ireturn, 1) := by decide +kernel
theorem dX8_performed_92 : decode cX8_performed 92 = .ok (.aload_n 0, 1) := by decide +kernel
theorem dX8_performed_93 : decode cX8_performed 93 = .ok (.getfield 12, 3) := by decide +kernel
theorem dX8_performed_96 : decode cX8_performed 96 = .ok (.invokevirtual 79, 3) := by decide +kernel
theorem dX8_performed_99 : decode cX8_performed 99 = .ok (.ireturn, 1) := by decide +kernel
theorem dX8_isFirm_0 : decode cX8_isFirm 0 = .ok (.iload_n 0, 1) := by decide +kernel
theorem dX8_isFirm_1 : decode cX8_isFirm 1 = .ok (.ifCond .lt 13, 3) := by decide +kernel
theorem dX8_isFirm_4 : decode cX8_isFirm 4 = .ok (.iload_n 0, 1) := by decide +kernel
theorem dX8_isFirm_5 : decode cX8_isFirm 5 = .ok (.bipush 6, 2) := by decide +kernel
theorem dX8_isFirm_7 : decode cX8_isFirm 7 = .ok (.if_icmp .ge 7, 3) := by decide +kernel
theorem dX8_isFirm_10 : decode cX8_isFirm 10 = .ok (.iconst 1, 1) := by decide +kernel
theorem dX8_isFirm_11 : decode cX8_isFirm 11 = .ok (.goto 4, 3) := by decide +kernel
theorem dX8_isFirm_14 : decode cX8_isFirm 14 = .ok (.iconst 0, 1) := by decide +kernel
theorem dX8_isFirm_15 : decode cX8_isFirm 15 = .ok (.ireturn, 1) := by decide +kernel
theorem dX8_isCrane_0 : decode cX8_isCrane 0 = .ok (.iload_n 0, 1) := by decide +kernel
theorem dX8_isCrane_1 : decode cX8_isCrane 1 = .ok (.ifCond .lt 12, 3) := by decide +kernel
theorem dX8_isCrane_4 : decode cX8_isCrane 4 = .ok (.iload_n 0, 1) := by decide +kernel
theorem dX8_isCrane_5 : decode cX8_isCrane 5 = .ok (.iconst 3, 1) := by decide +kernel
theorem dX8_isCrane_6 : decode cX8_isCrane 6 = .ok (.if_icmp .ge 7, 3) := by decide +kernel
theorem dX8_isCrane_9 : decode cX8_isCrane 9 = .ok (.iconst 1, 1) := by decide +kernel
theorem dX8_isCrane_10 : decode cX8_isCrane 10 = .ok (.goto 4, 3) := by decide +kernel
theorem dX8_isCrane_13 : decode cX8_isCrane 13 = .ok (.iconst 0, 1) := by decide +kernel
theorem dX8_isCrane_14 : decode cX8_isCrane 14 = .ok (.ireturn, 1) := by decide +kernel
theorem dX8_isHour_0 : decode cX8_isHour 0 = .ok (.iload_n 0, 1) := by decide +kernel
theorem dX8_isHour_1 : decode cX8_isHour 1 = .ok (.ifCond .lt 13, 3) := by decide +kernel
theorem dX8_isHour_4 : decode cX8_isHour 4 = .ok (.iload_n 0, 1) := by decide +kernel
theorem dX8_isHour_5 : decode cX8_isHour 5 = .ok (.bipush 16, 2) := by decide +kernel
theorem dX8_isHour_7 : decode cX8_isHour 7 = .ok (.if_icmp .ge 7, 3) := by decide +kernel
theorem dX8_isHour_10 : decode cX8_isHour 10 = .ok (.iconst 1, 1) := by decide +kernel
theorem dX8_isHour_11 : decode cX8_isHour 11 = .ok (.goto 4, 3) := by decide +kernel
theorem dX8_isHour_14 : decode cX8_isHour 14 = .ok (.iconst 0, 1) := by decide +kernel
theorem dX8_isHour_15 : decode cX8_isHour 15 = .ok (.ireturn, 1) := by decide +kernel
theorem dX8_isSlot_0 : decode cX8_isSlot 0 = .ok (.iload_n 0, 1) := by decide +kernel
theorem dX8_isSlot_1 : decode cX8_isSlot 1 = .ok (.invokestatic 209, 3) := by decide +kernel
theorem dX8_isSlot_4 : decode cX8_isSlot 4 = .ok (.ifCond .eq 14, 3) := by decide +kernel
theorem dX8_isSlot_7 : decode cX8_isSlot 7 = .ok (.iload_n 1, 1) := by decide +kernel
theorem dX8_isSlot_8 : decode cX8_isSlot 8 = .ok (.invokestatic 200, 3) := by decide +kernel
theorem dX8_isSlot_11 : decode cX8_isSlot 11 = .ok (.ifCond .eq 7, 3) := by decide +kernel
theorem dX8_isSlot_14 : decode cX8_isSlot 14 = .ok (.iconst 1, 1) := by decide +kernel
theorem dX8_isSlot_15 : decode cX8_isSlot 15 = .ok (.goto 4, 3) := by decide +kernel
theorem dX8_isSlot_18 : decode cX8_isSlot 18 = .ok (.iconst 0, 1) := by decide +kernel
theorem dX8_isSlot_19 : decode cX8_isSlot 19 = .ok (.ireturn, 1) := by decide +kernel
theorem dX8_isLift_0 : decode cX8_isLift 0 = .ok (.iload_n 1, 1) := by decide +kernel
theorem dX8_isLift_1 : decode cX8_isLift 1 = .ok (.iconst 1, 1) := by decide +kernel
theorem dX8_isLift_2 : decode cX8_isLift 2 = .ok (.if_icmp .lt 18, 3) := by decide +kernel
theorem dX8_isLift_5 : decode cX8_isLift 5 = .ok (.iload_n 1, 1) := by decide +kernel
theorem dX8_isLift_6 : decode cX8_isLift 6 = .ok (.getstatic 252, 3) := by decide +kernel
theorem dX8_isLift_9 : decode cX8_isLift 9 = .ok (.iload_n 0, 1) := by decide +kernel
theorem dX8_isLift_10 : decode cX8_isLift 10 = .ok (.invokestatic 133, 3) := by decide +kernel
theorem dX8_isLift_13 : decode cX8_isLift 13 = .ok (.if_icmp .gt 7, 3) := by decide +kernel
theorem dX8_isLift_16 : decode cX8_isLift 16 = .ok (.iconst 1, 1) := by decide +kernel
theorem dX8_isLift_17 : decode cX8_isLift 17 = .ok (.goto 4, 3) := by decide +kernel
theorem dX8_isLift_20 : decode cX8_isLift 20 = .ok (.iconst 0, 1) := by decide +kernel
theorem dX8_isLift_21 : decode cX8_isLift 21 = .ok (.ireturn, 1) := by decide +kernel
theorem dX8_isWind_0 : decode cX8_isWind 0 = .ok (.iload_n 0, 1) := by decide +kernel
theorem dX8_isWind_1 : decode cX8_isWind 1 = .ok (.ifCond .lt 13, 3) := by decide +kernel
theorem dX8_isWind_4 : decode cX8_isWind 4 = .ok (.iload_n 0, 1) := by decide +kernel
theorem dX8_isWind_5 : decode cX8_isWind 5 = .ok (.bipush 99, 2) := by decide +kernel
theorem dX8_isWind_7 : decode cX8_isWind 7 = .ok (.if_icmp .gt 7, 3) := by decide +kernel
theorem dX8_isWind_10 : decode cX8_isWind 10 = .ok (.iconst 1, 1) := by decide +kernel
theorem dX8_isWind_11 : decode cX8_isWind 11 = .ok (.goto 4, 3) := by decide +kernel
theorem dX8_isWind_14 : decode cX8_isWind 14 = .ok (.iconst 0, 1) := by decide +kernel
theorem dX8_isWind_15 : decode cX8_isWind 15 = .ok (.ireturn, 1) := by decide +kernel
theorem dX8_slotOf_0 : decode cX8_slotOf 0 = .ok (.iload_n 0, 1) := by decide +kernel
theorem dX8_slotOf_1 : decode cX8_slotOf 1 = .ok (.bipush 16, 2) := by decide +kernel
theorem dX8_slotOf_3 : decode cX8_slotOf 3 = .ok (.imul, 1) := by decide +kernel
theorem dX8_slotOf_4 : decode cX8_slotOf 4 = .ok (.iload_n 1, 1) := by decide +kernel
theorem dX8_slotOf_5 : decode cX8_slotOf 5 = .ok (.iadd, 1) := by decide +kernel
theorem dX8_slotOf_6 : decode cX8_slotOf 6 = .ok (.ireturn, 1) := by decide +kernel
theorem dX8_heaviestAt_0 : decode cX8_heaviestAt 0 = .ok (.iconst 0, 1) := by decide +kernel
theorem dX8_heaviestAt_1 : decode cX8_heaviestAt 1 = .ok (.getstatic 252, 3) := by decide +kernel
theorem dX8_heaviestAt_4 : decode cX8_heaviestAt 4 = .ok (.iload_n 0, 1) := by decide +kernel
theorem dX8_heaviestAt_5 : decode cX8_heaviestAt 5 = .ok (.invokestatic 133, 3) := by decide +kernel
theorem dX8_heaviestAt_8 : decode cX8_heaviestAt 8 = .ok (.bipush 70, 2) := by decide +kernel
theorem dX8_heaviestAt_10 : decode cX8_heaviestAt 10 = .ok (.iload_n 1, 1) := by decide +kernel
theorem dX8_heaviestAt_11 : decode cX8_heaviestAt 11 = .ok (.isub, 1) := by decide +kernel
theorem dX8_heaviestAt_12 : decode cX8_heaviestAt 12 = .ok (.invokestatic 255, 3) := by decide +kernel
theorem dX8_heaviestAt_15 : decode cX8_heaviestAt 15 = .ok (.invokestatic 260, 3) := by decide +kernel
theorem dX8_heaviestAt_18 : decode cX8_heaviestAt 18 = .ok (.ireturn, 1) := by decide +kernel
theorem dJ9_max_7cf53_0 : decode cJ9_max_7cf53 0 = .ok (.iload_n 0, 1) := by decide +kernel
theorem dJ9_max_7cf53_1 : decode cJ9_max_7cf53 1 = .ok (.iload_n 1, 1) := by decide +kernel
theorem dJ9_max_7cf53_2 : decode cJ9_max_7cf53 2 = .ok (.if_icmp .lt 7, 3) := by decide +kernel
theorem dJ9_max_7cf53_5 : decode cJ9_max_7cf53 5 = .ok (.iload_n 0, 1) := by decide +kernel
theorem dJ9_max_7cf53_6 : decode cJ9_max_7cf53 6 = .ok (.goto 4, 3) := by decide +kernel
theorem dJ9_max_7cf53_9 : decode cJ9_max_7cf53 9 = .ok (.iload_n 1, 1) := by decide +kernel
theorem dJ9_max_7cf53_10 : decode cJ9_max_7cf53 10 = .ok (.ireturn, 1) := by decide +kernel
theorem dJ9_min_7cf53_0 : decode cJ9_min_7cf53 0 = .ok (.iload_n 0, 1) := by decide +kernel
theorem dJ9_min_7cf53_1 : decode cJ9_min_7cf53 1 = .ok (.iload_n 1, 1) := by decide +kernel
theorem dJ9_min_7cf53_2 : decode cJ9_min_7cf53 2 = .ok (.if_icmp .gt 7, 3) := by decide +kernel
theorem dJ9_min_7cf53_5 : decode cJ9_min_7cf53 5 = .ok (.iload_n 0, 1) := by decide +kernel
theorem dJ9_min_7cf53_6 : decode cJ9_min_7cf53 6 = .ok (.goto 4, 3) := by decide +kernel
theorem dJ9_min_7cf53_9 : decode cJ9_min_7cf53 9 = .ok (.iload_n 1, 1) := by decide +kernel
theorem dJ9_min_7cf53_10 : decode cJ9_min_7cf53 10 = .ok (.ireturn, 1) := by decide +kernel
theorem dL_cell_0 : decode cL_cell 0 = .ok (.iload_n 1, 1) := by decide +kernel
theorem dL_cell_1 : decode cL_cell 1 = .ok (.aload_n 0, 1) := by decide +kernel
theorem dL_cell_2 : decode cL_cell 2 = .ok (.arraylength, 1) := by decide +kernel
theorem dL_cell_3 : decode cL_cell 3 = .ok (.if_icmp .ge 9, 3) := by decide +kernel
theorem dL_cell_6 : decode cL_cell 6 = .ok (.aload_n 0, 1) := by decide +kernel
theorem dL_cell_7 : decode cL_cell 7 = .ok (.iload_n 1, 1) := by decide +kernel
theorem dL_cell_8 : decode cL_cell 8 = .ok (.iaload, 1) := by decide +kernel
theorem dL_cell_9 : decode cL_cell 9 = .ok (.goto 15, 3) := by decide +kernel
theorem dL_cell_12 : decode cL_cell 12 = .ok (.ldc 7, 2) := by decide +kernel
theorem dL_cell_14 : decode cL_cell 14 = .ok (.iload_n 1, 1) := by decide +kernel
theorem dL_cell_15 : decode cL_cell 15 = .ok (.sipush 4096, 3) := by decide +kernel
theorem dL_cell_18 : decode cL_cell 18 = .ok (.irem, 1) := by decide +kernel
theorem dL_cell_19 : decode cL_cell 19 = .ok (.imul, 1) := by decide +kernel
theorem dL_cell_20 : decode cL_cell 20 = .ok (.sipush 229, 3) := by decide +kernel
theorem dL_cell_23 : decode cL_cell 23 = .ok (.iadd, 1) := by decide +kernel
theorem dL_cell_24 : decode cL_cell 24 = .ok (.ldc 8, 2) := by decide +kernel
theorem dL_cell_26 : decode cL_cell 26 = .ok (.iand, 1) := by decide +kernel
theorem dL_cell_27 : decode cL_cell 27 = .ok (.ireturn, 1) := by decide +kernel
theorem dL_acts_0 : decode cL_acts 0 = .ok (.iload_n 1, 1) := by decide +kernel
theorem dL_acts_1 : decode cL_acts 1 = .ok (.bipush 16, 2) := by decide +kernel
theorem dL_acts_3 : decode cL_acts 3 = .ok (.idiv, 1) := by decide +kernel
theorem dL_acts_4 : decode cL_acts 4 = .ok (.istore_n 2, 1) := by decide +kernel
theorem dL_acts_5 : decode cL_acts 5 = .ok (.iload_n 2, 1) := by decide +kernel
theorem dL_acts_6 : decode cL_acts 6 = .ok (.iconst 3, 1) := by decide +kernel
theorem dL_acts_7 : decode cL_acts 7 = .ok (.irem, 1) := by decide +kernel
theorem dL_acts_8 : decode cL_acts 8 = .ok (.istore_n 3, 1) := by decide +kernel
theorem dL_acts_9 : decode cL_acts 9 = .ok (.aload_n 0, 1) := by decide +kernel
theorem dL_acts_10 : decode cL_acts 10 = .ok (.iconst 1, 1) := by decide +kernel
theorem dL_acts_11 : decode cL_acts 11 = .ok (.invokevirtual 9, 3) := by decide +kernel
theorem dL_acts_14 : decode cL_acts 14 = .ok (.iload_n 2, 1) := by decide +kernel
theorem dL_acts_15 : decode cL_acts 15 = .ok (.iconst 4, 1) := by decide +kernel
theorem dL_acts_16 : decode cL_acts 16 = .ok (.idiv, 1) := by decide +kernel
theorem dL_acts_17 : decode cL_acts 17 = .ok (.iconst 3, 1) := by decide +kernel
theorem dL_acts_18 : decode cL_acts 18 = .ok (.irem, 1) := by decide +kernel
theorem dL_acts_19 : decode cL_acts 19 = .ok (.iadd, 1) := by decide +kernel
theorem dL_acts_20 : decode cL_acts 20 = .ok (.istore 4, 2) := by decide +kernel
theorem dL_acts_22 : decode cL_acts 22 = .ok (.iload_n 2, 1) := by decide +kernel
theorem dL_acts_23 : decode cL_acts 23 = .ok (.bipush 16, 2) := by decide +kernel
theorem dL_acts_25 : decode cL_acts 25 = .ok (.idiv, 1) := by decide +kernel
theorem dL_acts_26 : decode cL_acts 26 = .ok (.bipush 6, 2) := by decide +kernel
theorem dL_acts_28 : decode cL_acts 28 = .ok (.irem, 1) := by decide +kernel
theorem dL_acts_29 : decode cL_acts 29 = .ok (.istore 5, 2) := by decide +kernel
theorem dL_acts_31 : decode cL_acts 31 = .ok (.iload_n 1, 1) := by decide +kernel
theorem dL_acts_32 : decode cL_acts 32 = .ok (.bipush 16, 2) := by decide +kernel
theorem dL_acts_34 : decode cL_acts 34 = .ok (.irem, 1) := by decide +kernel
theorem dL_acts_35 : decode cL_acts 35 = .ok (.tableswitch 203 0 14 #[73, 87, 105, 105, 105, 105, 105, 105, 140, 150, 150, 158, 158, 191, 191], 73) := by decide +kernel
theorem dL_acts_108 : decode cL_acts 108 = .ok (.aload_n 0, 1) := by decide +kernel
theorem dL_acts_109 : decode cL_acts 109 = .ok (.iload 4, 2) := by decide +kernel
theorem dL_acts_111 : decode cL_acts 111 = .ok (.iload_n 2, 1) := by decide +kernel
theorem dL_acts_112 : decode cL_acts 112 = .ok (.bipush 64, 2) := by decide +kernel
theorem dL_acts_114 : decode cL_acts 114 = .ok (.idiv, 1) := by decide +kernel
theorem dL_acts_115 : decode cL_acts 115 = .ok (.bipush 80, 2) := by decide +kernel
theorem dL_acts_117 : decode cL_acts 117 = .ok (.irem, 1) := by decide +kernel
theorem dL_acts_118 : decode cL_acts 118 = .ok (.invokevirtual 15, 3) := by decide +kernel
theorem dL_acts_121 : decode cL_acts 121 = .ok (.ireturn, 1) := by decide +kernel
theorem dL_acts_122 : decode cL_acts 122 = .ok (.aload_n 0, 1) := by decide +kernel
theorem dL_acts_123 : decode cL_acts 123 = .ok (.iload 5, 2) := by decide +kernel
theorem dL_acts_125 : decode cL_acts 125 = .ok (.iconst 1, 1) := by decide +kernel
theorem dL_acts_126 : decode cL_acts 126 = .ok (.iload_n 2, 1) := by decide +kernel
theorem dL_acts_127 : decode cL_acts 127 = .ok (.sipush 128, 3) := by decide +kernel
theorem dL_acts_130 : decode cL_acts 130 = .ok (.idiv, 1) := by decide +kernel
theorem dL_acts_131 : decode cL_acts 131 = .ok (.sipush 300, 3) := by decide +kernel
theorem dL_acts_134 : decode cL_acts 134 = .ok (.irem, 1) := by decide +kernel
theorem dL_acts_135 : decode cL_acts 135 = .ok (.iadd, 1) := by decide +kernel
theorem dL_acts_136 : decode cL_acts 136 = .ok (.invokevirtual 19, 3) := by decide +kernel
theorem dL_acts_139 : decode cL_acts 139 = .ok (.ireturn, 1) := by decide +kernel
theorem dL_acts_140 : decode cL_acts 140 = .ok (.aload_n 0, 1) := by decide +kernel
theorem dL_acts_141 : decode cL_acts 141 = .ok (.iload 5, 2) := by decide +kernel
theorem dL_acts_143 : decode cL_acts 143 = .ok (.iload_n 3, 1) := by decide +kernel
theorem dL_acts_144 : decode cL_acts 144 = .ok (.iload 4, 2) := by decide +kernel
theorem dL_acts_146 : decode cL_acts 146 = .ok (.iconst 1, 1) := by decide +kernel
theorem dL_acts_147 : decode cL_acts 147 = .ok (.iload_n 2, 1) := by decide +kernel
theorem dL_acts_148 : decode cL_acts 148 = .ok (.sipush 128, 3) := by decide +kernel
theorem dL_acts_151 : decode cL_acts 151 = .ok (.idiv, 1) := by decide +kernel
theorem dL_acts_152 : decode cL_acts 152 = .ok (.bipush 20, 2) := by decide +kernel
theorem dL_acts_154 : decode cL_acts 154 = .ok (.bipush 20, 2) := by decide +kernel
theorem dL_acts_156 : decode cL_acts 156 = .ok (.iload_n 3, 1) := by decide +kernel
theorem dL_acts_157 : decode cL_acts 157 = .ok (.imul, 1) := by decide +kernel
theorem dL_acts_158 : decode cL_acts 158 = .ok (.iadd, 1) := by decide +kernel
theorem dL_acts_159 : decode cL_acts 159 = .ok (.irem, 1) := by decide +kernel
theorem dL_acts_160 : decode cL_acts 160 = .ok (.iadd, 1) := by decide +kernel
theorem dL_acts_161 : decode cL_acts 161 = .ok (.iconst 1, 1) := by decide +kernel
theorem dL_acts_162 : decode cL_acts 162 = .ok (.iload_n 2, 1) := by decide +kernel
theorem dL_acts_163 : decode cL_acts 163 = .ok (.sipush 8192, 3) := by decide +kernel
theorem dL_acts_166 : decode cL_acts 166 = .ok (.idiv, 1) := by decide +kernel
theorem dL_acts_167 : decode cL_acts 167 = .ok (.bipush 60, 2) := by decide +kernel
theorem dL_acts_169 : decode cL_acts 169 = .ok (.irem, 1) := by decide +kernel
theorem dL_acts_170 : decode cL_acts 170 = .ok (.iadd, 1) := by decide +kernel
theorem dL_acts_171 : decode cL_acts 171 = .ok (.invokevirtual 22, 3) := by decide +kernel
theorem dL_acts_174 : decode cL_acts 174 = .ok (.ireturn, 1) := by decide +kernel
theorem dL_acts_175 : decode cL_acts 175 = .ok (.aload_n 0, 1) := by decide +kernel
theorem dL_acts_176 : decode cL_acts 176 = .ok (.iload 5, 2) := by decide +kernel
theorem dL_acts_178 : decode cL_acts 178 = .ok (.iload_n 3, 1) := by decide +kernel
theorem dL_acts_179 : decode cL_acts 179 = .ok (.iload 4, 2) := by decide +kernel
theorem dL_acts_181 : decode cL_acts 181 = .ok (.invokevirtual 26, 3) := by decide +kernel
theorem dL_acts_184 : decode cL_acts 184 = .ok (.ireturn, 1) := by decide +kernel
theorem dL_acts_185 : decode cL_acts 185 = .ok (.aload_n 0, 1) := by decide +kernel
theorem dL_acts_186 : decode cL_acts 186 = .ok (.iload_n 3, 1) := by decide +kernel
theorem dL_acts_187 : decode cL_acts 187 = .ok (.iload 4, 2) := by decide +kernel
theorem dL_acts_189 : decode cL_acts 189 = .ok (.invokevirtual 30, 3) := by decide +kernel
theorem dL_acts_192 : decode cL_acts 192 = .ok (.ireturn, 1) := by decide +kernel
theorem dL_acts_193 : decode cL_acts 193 = .ok (.aload_n 0, 1) := by decide +kernel
theorem dL_acts_194 : decode cL_acts 194 = .ok (.iload_n 3, 1) := by decide +kernel
theorem dL_acts_195 : decode cL_acts 195 = .ok (.iload 4, 2) := by decide +kernel
theorem dL_acts_197 : decode cL_acts 197 = .ok (.iload 5, 2) := by decide +kernel
theorem dL_acts_199 : decode cL_acts 199 = .ok (.iconst 1, 1) := by decide +kernel
theorem dL_acts_200 : decode cL_acts 200 = .ok (.iload_n 2, 1) := by decide +kernel
theorem dL_acts_201 : decode cL_acts 201 = .ok (.sipush 128, 3) := by decide +kernel
theorem dL_acts_204 : decode cL_acts 204 = .ok (.idiv, 1) := by decide +kernel
theorem dL_acts_205 : decode cL_acts 205 = .ok (.bipush 20, 2) := by decide +kernel
theorem dL_acts_207 : decode cL_acts 207 = .ok (.bipush 20, 2) := by decide +kernel
theorem dL_acts_209 : decode cL_acts 209 = .ok (.iload_n 3, 1) := by decide +kernel
theorem dL_acts_210 : decode cL_acts 210 = .ok (.imul, 1) := by decide +kernel
theorem dL_acts_211 : decode cL_acts 211 = .ok (.iadd, 1) := by decide +kernel
theorem dL_acts_212 : decode cL_acts 212 = .ok (.irem, 1) := by decide +kernel
theorem dL_acts_213 : decode cL_acts 213 = .ok (.iadd, 1) := by decide +kernel
theorem dL_acts_214 : decode cL_acts 214 = .ok (.iload_n 2, 1) := by decide +kernel
theorem dL_acts_215 : decode cL_acts 215 = .ok (.sipush 8192, 3) := by decide +kernel
theorem dL_acts_218 : decode cL_acts 218 = .ok (.idiv, 1) := by decide +kernel
theorem dL_acts_219 : decode cL_acts 219 = .ok (.bipush 50, 2) := by decide +kernel
theorem dL_acts_221 : decode cL_acts 221 = .ok (.irem, 1) := by decide +kernel
theorem dL_acts_222 : decode cL_acts 222 = .ok (.invokevirtual 33, 3) := by decide +kernel
theorem dL_acts_225 : decode cL_acts 225 = .ok (.ireturn, 1) := by decide +kernel
theorem dL_acts_226 : decode cL_acts 226 = .ok (.aload_n 0, 1) := by decide +kernel
theorem dL_acts_227 : decode cL_acts 227 = .ok (.iload_n 2, 1) := by decide +kernel
theorem dL_acts_228 : decode cL_acts 228 = .ok (.bipush 64, 2) := by decide +kernel
theorem dL_acts_230 : decode cL_acts 230 = .ok (.idiv, 1) := by decide +kernel
theorem dL_acts_231 : decode cL_acts 231 = .ok (.bipush 60, 2) := by decide +kernel
theorem dL_acts_233 : decode cL_acts 233 = .ok (.irem, 1) := by decide +kernel
theorem dL_acts_234 : decode cL_acts 234 = .ok (.invokevirtual 36, 3) := by decide +kernel
theorem dL_acts_237 : decode cL_acts 237 = .ok (.ireturn, 1) := by decide +kernel
theorem dL_acts_238 : decode cL_acts 238 = .ok (.aload_n 0, 1) := by decide +kernel
theorem dL_acts_239 : decode cL_acts 239 = .ok (.iconst 1, 1) := by decide +kernel
theorem dL_acts_240 : decode cL_acts 240 = .ok (.invokevirtual 9, 3) := by decide +kernel
theorem dL_acts_243 : decode cL_acts 243 = .ok (.bipush 16, 2) := by decide +kernel
theorem dL_acts_245 : decode cL_acts 245 = .ok (.if_icmp .ne 10, 3) := by decide +kernel
theorem dL_acts_248 : decode cL_acts 248 = .ok (.aload_n 0, 1) := by decide +kernel
theorem dL_acts_249 : decode cL_acts 249 = .ok (.invokevirtual 39, 3) := by decide +kernel
theorem dL_acts_252 : decode cL_acts 252 = .ok (.goto 14, 3) := by decide +kernel
theorem dL_acts_255 : decode cL_acts 255 = .ok (.aload_n 0, 1) := by decide +kernel
theorem dL_acts_256 : decode cL_acts 256 = .ok (.iload_n 2, 1) := by decide +kernel
theorem dL_acts_257 : decode cL_acts 257 = .ok (.bipush 64, 2) := by decide +kernel
theorem dL_acts_259 : decode cL_acts 259 = .ok (.idiv, 1) := by decide +kernel
theorem dL_acts_260 : decode cL_acts 260 = .ok (.bipush 100, 2) := by decide +kernel
theorem dL_acts_262 : decode cL_acts 262 = .ok (.irem, 1) := by decide +kernel
theorem dL_acts_263 : decode cL_acts 263 = .ok (.invokevirtual 36, 3) := by decide +kernel
theorem dL_acts_266 : decode cL_acts 266 = .ok (.ireturn, 1) := by decide +kernel
theorem dL_hangs_0 : decode cL_hangs 0 = .ok (.aload_n 0, 1) := by decide +kernel
theorem dL_hangs_1 : decode cL_hangs 1 = .ok (.iconst 1, 1) := by decide +kernel
theorem dL_hangs_2 : decode cL_hangs 2 = .ok (.invokevirtual 9, 3) := by decide +kernel
theorem dL_hangs_5 : decode cL_hangs 5 = .ok (.istore_n 1, 1) := by decide +kernel
theorem dL_hangs_6 : decode cL_hangs 6 = .ok (.iconst 0, 1) := by decide +kernel
theorem dL_hangs_7 : decode cL_hangs 7 = .ok (.istore_n 2, 1) := by decide +kernel
theorem dL_hangs_8 : decode cL_hangs 8 = .ok (.iconst 0, 1) := by decide +kernel
theorem dL_hangs_9 : decode cL_hangs 9 = .ok (.istore_n 3, 1) := by decide +kernel
theorem dL_hangs_10 : decode cL_hangs 10 = .ok (.iconst 0, 1) := by decide +kernel
theorem dL_hangs_11 : decode cL_hangs 11 = .ok (.istore 4, 2) := by decide +kernel
theorem dL_hangs_13 : decode cL_hangs 13 = .ok (.iconst 0, 1) := by decide +kernel
theorem dL_hangs_14 : decode cL_hangs 14 = .ok (.istore 5, 2) := by decide +kernel
theorem dL_hangs_16 : decode cL_hangs 16 = .ok (.iconst 0, 1) := by decide +kernel
theorem dL_hangs_17 : decode cL_hangs 17 = .ok (.istore 6, 2) := by decide +kernel
theorem dL_hangs_19 : decode cL_hangs 19 = .ok (.iconst 0, 1) := by decide +kernel
theorem dL_hangs_20 : decode cL_hangs 20 = .ok (.istore 7, 2) := by decide +kernel
theorem dL_hangs_22 : decode cL_hangs 22 = .ok (.iconst 0, 1) := by decide +kernel
theorem dL_hangs_23 : decode cL_hangs 23 = .ok (.istore 8, 2) := by decide +kernel
theorem dL_hangs_25 : decode cL_hangs 25 = .ok (.iconst 1, 1) := by decide +kernel
theorem dL_hangs_26 : decode cL_hangs 26 = .ok (.istore 9, 2) := by decide +kernel
theorem dL_hangs_28 : decode cL_hangs 28 = .ok (.iconst 0, 1) := by decide +kernel
theorem dL_hangs_29 : decode cL_hangs 29 = .ok (.istore 10, 2) := by decide +kernel
theorem dL_hangs_31 : decode cL_hangs 31 = .ok (.iload 10, 2) := by decide +kernel
theorem dL_hangs_33 : decode cL_hangs 33 = .ok (.bipush 6, 2) := by decide +kernel
theorem dL_hangs_35 : decode cL_hangs 35 = .ok (.if_icmp .ge 162, 3) := by decide +kernel
theorem dL_hangs_38 : decode cL_hangs 38 = .ok (.iload 9, 2) := by decide +kernel
theorem dL_hangs_40 : decode cL_hangs 40 = .ok (.ifCond .eq 157, 3) := by decide +kernel
theorem dL_hangs_43 : decode cL_hangs 43 = .ok (.aload_n 0, 1) := by decide +kernel
theorem dL_hangs_44 : decode cL_hangs 44 = .ok (.iload 10, 2) := by decide +kernel
theorem dL_hangs_46 : decode cL_hangs 46 = .ok (.iconst 0, 1) := by decide +kernel
theorem dL_hangs_47 : decode cL_hangs 47 = .ok (.invokevirtual 43, 3) := by decide +kernel
theorem dL_hangs_50 : decode cL_hangs 50 = .ok (.ifCond .lt 57, 3) := by decide +kernel
theorem dL_hangs_53 : decode cL_hangs 53 = .ok (.aload_n 0, 1) := by decide +kernel
theorem dL_hangs_54 : decode cL_hangs 54 = .ok (.iload 10, 2) := by decide +kernel
theorem dL_hangs_56 : decode cL_hangs 56 = .ok (.iconst 1, 1) := by decide +kernel
theorem dL_hangs_57 : decode cL_hangs 57 = .ok (.invokevirtual 43, 3) := by decide +kernel
theorem dL_hangs_60 : decode cL_hangs 60 = .ok (.aload_n 0, 1) := by decide +kernel
theorem dL_hangs_61 : decode cL_hangs 61 = .ok (.iload 10, 2) := by decide +kernel
theorem dL_hangs_63 : decode cL_hangs 63 = .ok (.iconst 0, 1) := by decide +kernel
theorem dL_hangs_64 : decode cL_hangs 64 = .ok (.invokevirtual 43, 3) := by decide +kernel
theorem dL_hangs_67 : decode cL_hangs 67 = .ok (.if_icmp .gt 40, 3) := by decide +kernel
theorem dL_hangs_70 : decode cL_hangs 70 = .ok (.aload_n 0, 1) := by decide +kernel
theorem dL_hangs_71 : decode cL_hangs 71 = .ok (.iload 10, 2) := by decide +kernel
theorem dL_hangs_73 : decode cL_hangs 73 = .ok (.iconst 2, 1) := by decide +kernel
theorem dL_hangs_74 : decode cL_hangs 74 = .ok (.invokevirtual 43, 3) := by decide +kernel
theorem dL_hangs_77 : decode cL_hangs 77 = .ok (.ifCond .ne 7, 3) := by decide +kernel
theorem dL_hangs_80 : decode cL_hangs 80 = .ok (.iconst 1, 1) := by decide +kernel
theorem dL_hangs_81 : decode cL_hangs 81 = .ok (.goto 4, 3) := by decide +kernel
theorem dL_hangs_84 : decode cL_hangs 84 = .ok (.iconst 0, 1) := by decide +kernel
theorem dL_hangs_85 : decode cL_hangs 85 = .ok (.aload_n 0, 1) := by decide +kernel
theorem dL_hangs_86 : decode cL_hangs 86 = .ok (.iload 10, 2) := by decide +kernel
theorem dL_hangs_88 : decode cL_hangs 88 = .ok (.iconst 1, 1) := by decide +kernel
theorem dL_hangs_89 : decode cL_hangs 89 = .ok (.invokevirtual 43, 3) := by decide +kernel
theorem dL_hangs_92 : decode cL_hangs 92 = .ok (.ifCond .ne 7, 3) := by decide +kernel
theorem dL_hangs_95 : decode cL_hangs 95 = .ok (.iconst 1, 1) := by decide +kernel
theorem dL_hangs_96 : decode cL_hangs 96 = .ok (.goto 4, 3) := by decide +kernel
theorem dL_hangs_99 : decode cL_hangs 99 = .ok (.iconst 0, 1) := by decide +kernel
theorem dL_hangs_100 : decode cL_hangs 100 = .ok (.if_icmp .ne 7, 3) := by decide +kernel
theorem dL_hangs_103 : decode cL_hangs 103 = .ok (.iconst 1, 1) := by decide +kernel
theorem dL_hangs_104 : decode cL_hangs 104 = .ok (.goto 4, 3) := by decide +kernel
theorem dL_hangs_107 : decode cL_hangs 107 = .ok (.iconst 0, 1) := by decide +kernel
theorem dL_hangs_108 : decode cL_hangs 108 = .ok (.istore 9, 2) := by decide +kernel
theorem dL_hangs_110 : decode cL_hangs 110 = .ok (.iload_n 2, 1) := by decide +kernel
theorem dL_hangs_111 : decode cL_hangs 111 = .ok (.aload_n 0, 1) := by decide +kernel
theorem dL_hangs_112 : decode cL_hangs 112 = .ok (.iload 10, 2) := by decide +kernel
theorem dL_hangs_114 : decode cL_hangs 114 = .ok (.iconst 0, 1) := by decide +kernel
theorem dL_hangs_115 : decode cL_hangs 115 = .ok (.invokevirtual 43, 3) := by decide +kernel
theorem dL_hangs_118 : decode cL_hangs 118 = .ok (.iadd, 1) := by decide +kernel
theorem dL_hangs_119 : decode cL_hangs 119 = .ok (.istore_n 2, 1) := by decide +kernel
theorem dL_hangs_120 : decode cL_hangs 120 = .ok (.iload 6, 2) := by decide +kernel
theorem dL_hangs_122 : decode cL_hangs 122 = .ok (.aload_n 0, 1) := by decide +kernel
theorem dL_hangs_123 : decode cL_hangs 123 = .ok (.iload 10, 2) := by decide +kernel
theorem dL_hangs_125 : decode cL_hangs 125 = .ok (.iconst 1, 1) := by decide +kernel
theorem dL_hangs_126 : decode cL_hangs 126 = .ok (.invokevirtual 43, 3) := by decide +kernel
theorem dL_hangs_129 : decode cL_hangs 129 = .ok (.iadd, 1) := by decide +kernel
theorem dL_hangs_130 : decode cL_hangs 130 = .ok (.istore 6, 2) := by decide +kernel
theorem dL_hangs_132 : decode cL_hangs 132 = .ok (.iload 7, 2) := by decide +kernel
theorem dL_hangs_134 : decode cL_hangs 134 = .ok (.aload_n 0, 1) := by decide +kernel
theorem dL_hangs_135 : decode cL_hangs 135 = .ok (.iload 10, 2) := by decide +kernel
theorem dL_hangs_137 : decode cL_hangs 137 = .ok (.iconst 2, 1) := by decide +kernel
theorem dL_hangs_138 : decode cL_hangs 138 = .ok (.invokevirtual 43, 3) := by decide +kernel
theorem dL_hangs_141 : decode cL_hangs 141 = .ok (.iadd, 1) := by decide +kernel
theorem dL_hangs_142 : decode cL_hangs 142 = .ok (.istore 7, 2) := by decide +kernel
theorem dL_hangs_144 : decode cL_hangs 144 = .ok (.iload 8, 2) := by decide +kernel
theorem dL_hangs_146 : decode cL_hangs 146 = .ok (.aload_n 0, 1) := by decide +kernel
theorem dL_hangs_147 : decode cL_hangs 147 = .ok (.iload 10, 2) := by decide +kernel
theorem dL_hangs_149 : decode cL_hangs 149 = .ok (.iconst 3, 1) := by decide +kernel
theorem dL_hangs_150 : decode cL_hangs 150 = .ok (.invokevirtual 43, 3) := by decide +kernel
theorem dL_hangs_153 : decode cL_hangs 153 = .ok (.iadd, 1) := by decide +kernel
theorem dL_hangs_154 : decode cL_hangs 154 = .ok (.istore 8, 2) := by decide +kernel
theorem dL_hangs_156 : decode cL_hangs 156 = .ok (.iload_n 3, 1) := by decide +kernel
theorem dL_hangs_157 : decode cL_hangs 157 = .ok (.aload_n 0, 1) := by decide +kernel
theorem dL_hangs_158 : decode cL_hangs 158 = .ok (.iload 10, 2) := by decide +kernel
theorem dL_hangs_160 : decode cL_hangs 160 = .ok (.iconst 4, 1) := by decide +kernel
theorem dL_hangs_161 : decode cL_hangs 161 = .ok (.invokevirtual 43, 3) := by decide +kernel
theorem dL_hangs_164 : decode cL_hangs 164 = .ok (.iadd, 1) := by decide +kernel
theorem dL_hangs_165 : decode cL_hangs 165 = .ok (.istore_n 3, 1) := by decide +kernel
theorem dL_hangs_166 : decode cL_hangs 166 = .ok (.iload 4, 2) := by decide +kernel
theorem dL_hangs_168 : decode cL_hangs 168 = .ok (.aload_n 0, 1) := by decide +kernel
theorem dL_hangs_169 : decode cL_hangs 169 = .ok (.iload 10, 2) := by decide +kernel
theorem dL_hangs_171 : decode cL_hangs 171 = .ok (.iconst 5, 1) := by decide +kernel
theorem dL_hangs_172 : decode cL_hangs 172 = .ok (.invokevirtual 43, 3) := by decide +kernel
theorem dL_hangs_175 : decode cL_hangs 175 = .ok (.iadd, 1) := by decide +kernel
theorem dL_hangs_176 : decode cL_hangs 176 = .ok (.istore 4, 2) := by decide +kernel
theorem dL_hangs_178 : decode cL_hangs 178 = .ok (.iload 5, 2) := by decide +kernel
theorem dL_hangs_180 : decode cL_hangs 180 = .ok (.aload_n 0, 1) := by decide +kernel
theorem dL_hangs_181 : decode cL_hangs 181 = .ok (.iload 10, 2) := by decide +kernel
theorem dL_hangs_183 : decode cL_hangs 183 = .ok (.bipush 6, 2) := by decide +kernel
theorem dL_hangs_185 : decode cL_hangs 185 = .ok (.invokevirtual 43, 3) := by decide +kernel
theorem dL_hangs_188 : decode cL_hangs 188 = .ok (.iadd, 1) := by decide +kernel
theorem dL_hangs_189 : decode cL_hangs 189 = .ok (.istore 5, 2) := by decide +kernel
theorem dL_hangs_191 : decode cL_hangs 191 = .ok (.iinc 10 1, 3) := by decide +kernel
theorem dL_hangs_194 : decode cL_hangs 194 = .ok (.goto (-163), 3) := by decide +kernel
theorem dL_hangs_197 : decode cL_hangs 197 = .ok (.iload 9, 2) := by decide +kernel
theorem dL_hangs_199 : decode cL_hangs 199 = .ok (.ifCond .eq 86, 3) := by decide +kernel
theorem dL_hangs_202 : decode cL_hangs 202 = .ok (.iload_n 2, 1) := by decide +kernel
theorem dL_hangs_203 : decode cL_hangs 203 = .ok (.aload_n 0, 1) := by decide +kernel
theorem dL_hangs_204 : decode cL_hangs 204 = .ok (.bipush 10, 2) := by decide +kernel
theorem dL_hangs_206 : decode cL_hangs 206 = .ok (.invokevirtual 9, 3) := by decide +kernel
theorem dL_hangs_209 : decode cL_hangs 209 = .ok (.if_icmp .ne 76, 3) := by decide +kernel
theorem dL_hangs_212 : decode cL_hangs 212 = .ok (.iload_n 2, 1) := by decide +kernel
theorem dL_hangs_213 : decode cL_hangs 213 = .ok (.aload_n 0, 1) := by decide +kernel
theorem dL_hangs_214 : decode cL_hangs 214 = .ok (.bipush 8, 2) := by decide +kernel
theorem dL_hangs_216 : decode cL_hangs 216 = .ok (.invokevirtual 9, 3) := by decide +kernel
theorem dL_hangs_219 : decode cL_hangs 219 = .ok (.iadd, 1) := by decide +kernel
theorem dL_hangs_220 : decode cL_hangs 220 = .ok (.aload_n 0, 1) := by decide +kernel
theorem dL_hangs_221 : decode cL_hangs 221 = .ok (.bipush 11, 2) := by decide +kernel
theorem dL_hangs_223 : decode cL_hangs 223 = .ok (.invokevirtual 9, 3) := by decide +kernel
theorem dL_hangs_226 : decode cL_hangs 226 = .ok (.if_icmp .ne 59, 3) := by decide +kernel
theorem dL_hangs_229 : decode cL_hangs 229 = .ok (.iload 4, 2) := by decide +kernel
theorem dL_hangs_231 : decode cL_hangs 231 = .ok (.aload_n 0, 1) := by decide +kernel
theorem dL_hangs_232 : decode cL_hangs 232 = .ok (.bipush 8, 2) := by decide +kernel
theorem dL_hangs_234 : decode cL_hangs 234 = .ok (.invokevirtual 9, 3) := by decide +kernel
theorem dL_hangs_237 : decode cL_hangs 237 = .ok (.if_icmp .ne 48, 3) := by decide +kernel
theorem dL_hangs_240 : decode cL_hangs 240 = .ok (.iload 5, 2) := by decide +kernel
theorem dL_hangs_242 : decode cL_hangs 242 = .ok (.ifCond .ne 43, 3) := by decide +kernel
theorem dL_hangs_245 : decode cL_hangs 245 = .ok (.iload_n 3, 1) := by decide +kernel
theorem dL_hangs_246 : decode cL_hangs 246 = .ok (.aload_n 0, 1) := by decide +kernel
theorem dL_hangs_247 : decode cL_hangs 247 = .ok (.iconst 4, 1) := by decide +kernel
theorem dL_hangs_248 : decode cL_hangs 248 = .ok (.invokevirtual 9, 3) := by decide +kernel
theorem dL_hangs_251 : decode cL_hangs 251 = .ok (.if_icmp .ne 34, 3) := by decide +kernel
theorem dL_hangs_254 : decode cL_hangs 254 = .ok (.iload 7, 2) := by decide +kernel
theorem dL_hangs_256 : decode cL_hangs 256 = .ok (.aload_n 0, 1) := by decide +kernel
theorem dL_hangs_257 : decode cL_hangs 257 = .ok (.iconst 2, 1) := by decide +kernel
theorem dL_hangs_258 : decode cL_hangs 258 = .ok (.invokevirtual 9, 3) := by decide +kernel
theorem dL_hangs_261 : decode cL_hangs 261 = .ok (.if_icmp .ne 24, 3) := by decide +kernel
theorem dL_hangs_264 : decode cL_hangs 264 = .ok (.iload 8, 2) := by decide +kernel
theorem dL_hangs_266 : decode cL_hangs 266 = .ok (.aload_n 0, 1) := by decide +kernel
theorem dL_hangs_267 : decode cL_hangs 267 = .ok (.iconst 3, 1) := by decide +kernel
theorem dL_hangs_268 : decode cL_hangs 268 = .ok (.invokevirtual 9, 3) := by decide +kernel
theorem dL_hangs_271 : decode cL_hangs 271 = .ok (.if_icmp .ne 14, 3) := by decide +kernel
theorem dL_hangs_274 : decode cL_hangs 274 = .ok (.iload 7, 2) := by decide +kernel
theorem dL_hangs_276 : decode cL_hangs 276 = .ok (.bipush 60, 2) := by decide +kernel
theorem dL_hangs_278 : decode cL_hangs 278 = .ok (.if_icmp .gt 7, 3) := by decide +kernel
theorem dL_hangs_281 : decode cL_hangs 281 = .ok (.iconst 1, 1) := by decide +kernel
theorem dL_hangs_282 : decode cL_hangs 282 = .ok (.goto 4, 3) := by decide +kernel
theorem dL_hangs_285 : decode cL_hangs 285 = .ok (.iconst 0, 1) := by decide +kernel
theorem dL_hangs_286 : decode cL_hangs 286 = .ok (.istore 9, 2) := by decide +kernel
theorem dL_hangs_288 : decode cL_hangs 288 = .ok (.iconst 0, 1) := by decide +kernel
theorem dL_hangs_289 : decode cL_hangs 289 = .ok (.istore 10, 2) := by decide +kernel
theorem dL_hangs_291 : decode cL_hangs 291 = .ok (.iconst 0, 1) := by decide +kernel
theorem dL_hangs_292 : decode cL_hangs 292 = .ok (.istore 11, 2) := by decide +kernel
theorem dL_hangs_294 : decode cL_hangs 294 = .ok (.iconst 0, 1) := by decide +kernel
theorem dL_hangs_295 : decode cL_hangs 295 = .ok (.istore 12, 2) := by decide +kernel
theorem dL_hangs_297 : decode cL_hangs 297 = .ok (.iload 12, 2) := by decide +kernel
theorem dL_hangs_299 : decode cL_hangs 299 = .ok (.bipush 48, 2) := by decide +kernel
theorem dL_hangs_301 : decode cL_hangs 301 = .ok (.if_icmp .ge 370, 3) := by decide +kernel
theorem dL_hangs_304 : decode cL_hangs 304 = .ok (.iload 9, 2) := by decide +kernel
theorem dL_hangs_306 : decode cL_hangs 306 = .ok (.ifCond .eq 365, 3) := by decide +kernel
theorem dL_hangs_309 : decode cL_hangs 309 = .ok (.iload 12, 2) := by decide +kernel
theorem dL_hangs_311 : decode cL_hangs 311 = .ok (.bipush 16, 2) := by decide +kernel
theorem dL_hangs_313 : decode cL_hangs 313 = .ok (.idiv, 1) := by decide +kernel
theorem dL_hangs_314 : decode cL_hangs 314 = .ok (.istore 13, 2) := by decide +kernel
theorem dL_hangs_316 : decode cL_hangs 316 = .ok (.iload 12, 2) := by decide +kernel
theorem dL_hangs_318 : decode cL_hangs 318 = .ok (.bipush 16, 2) := by decide +kernel
theorem dL_hangs_320 : decode cL_hangs 320 = .ok (.irem, 1) := by decide +kernel
theorem dL_hangs_321 : decode cL_hangs 321 = .ok (.istore 14, 2) := by decide +kernel
theorem dL_hangs_323 : decode cL_hangs 323 = .ok (.aload_n 0, 1) := by decide +kernel
theorem dL_hangs_324 : decode cL_hangs 324 = .ok (.iload 13, 2) := by decide +kernel
theorem dL_hangs_326 : decode cL_hangs 326 = .ok (.iload 14, 2) := by decide +kernel
theorem dL_hangs_328 : decode cL_hangs 328 = .ok (.iconst 0, 1) := by decide +kernel
theorem dL_hangs_329 : decode cL_hangs 329 = .ok (.invokevirtual 46, 3) := by decide +kernel
theorem dL_hangs_332 : decode cL_hangs 332 = .ok (.istore 15, 2) := by decide +kernel
theorem dL_hangs_334 : decode cL_hangs 334 = .ok (.aload_n 0, 1) := by decide +kernel
theorem dL_hangs_335 : decode cL_hangs 335 = .ok (.iload 13, 2) := by decide +kernel
theorem dL_hangs_337 : decode cL_hangs 337 = .ok (.iload 14, 2) := by decide +kernel
theorem dL_hangs_339 : decode cL_hangs 339 = .ok (.iconst 3, 1) := by decide +kernel
theorem dL_hangs_340 : decode cL_hangs 340 = .ok (.invokevirtual 46, 3) := by decide +kernel
theorem dL_hangs_343 : decode cL_hangs 343 = .ok (.istore 16, 2) := by decide +kernel
theorem dL_hangs_345 : decode cL_hangs 345 = .ok (.aload_n 0, 1) := by decide +kernel
theorem dL_hangs_346 : decode cL_hangs 346 = .ok (.iload 13, 2) := by decide +kernel
theorem dL_hangs_348 : decode cL_hangs 348 = .ok (.iload 14, 2) := by decide +kernel
theorem dL_hangs_350 : decode cL_hangs 350 = .ok (.iconst 4, 1) := by decide +kernel
theorem dL_hangs_351 : decode cL_hangs 351 = .ok (.invokevirtual 46, 3) := by decide +kernel
theorem dL_hangs_354 : decode cL_hangs 354 = .ok (.istore 17, 2) := by decide +kernel
theorem dL_hangs_356 : decode cL_hangs 356 = .ok (.aload_n 0, 1) := by decide +kernel
theorem dL_hangs_357 : decode cL_hangs 357 = .ok (.iload 13, 2) := by decide +kernel
theorem dL_hangs_359 : decode cL_hangs 359 = .ok (.iload 14, 2) := by decide +kernel
theorem dL_hangs_361 : decode cL_hangs 361 = .ok (.bipush 6, 2) := by decide +kernel
theorem dL_hangs_363 : decode cL_hangs 363 = .ok (.invokevirtual 46, 3) := by decide +kernel
theorem dL_hangs_366 : decode cL_hangs 366 = .ok (.istore 18, 2) := by decide +kernel
theorem dL_hangs_368 : decode cL_hangs 368 = .ok (.aload_n 0, 1) := by decide +kernel
theorem dL_hangs_369 : decode cL_hangs 369 = .ok (.iload 13, 2) := by decide +kernel
theorem dL_hangs_371 : decode cL_hangs 371 = .ok (.iload 14, 2) := by decide +kernel
theorem dL_hangs_373 : decode cL_hangs 373 = .ok (.iconst 5, 1) := by decide +kernel
theorem dL_hangs_374 : decode cL_hangs 374 = .ok (.invokevirtual 46, 3) := by decide +kernel
theorem dL_hangs_377 : decode cL_hangs 377 = .ok (.iconst 1, 1) := by decide +kernel
theorem dL_hangs_378 : decode cL_hangs 378 = .ok (.if_icmp .ne 7, 3) := by decide +kernel
theorem dL_hangs_381 : decode cL_hangs 381 = .ok (.iconst 1, 1) := by decide +kernel
theorem dL_hangs_382 : decode cL_hangs 382 = .ok (.goto 4, 3) := by decide +kernel
theorem dL_hangs_385 : decode cL_hangs 385 = .ok (.iconst 0, 1) := by decide +kernel
theorem dL_hangs_386 : decode cL_hangs 386 = .ok (.istore 19, 2) := by decide +kernel
theorem dL_hangs_388 : decode cL_hangs 388 = .ok (.iload 10, 2) := by decide +kernel
theorem dL_hangs_390 : decode cL_hangs 390 = .ok (.iload 16, 2) := by decide +kernel
theorem dL_hangs_392 : decode cL_hangs 392 = .ok (.iadd, 1) := by decide +kernel
theorem dL_hangs_393 : decode cL_hangs 393 = .ok (.istore 10, 2) := by decide +kernel
theorem dL_hangs_395 : decode cL_hangs 395 = .ok (.iload 11, 2) := by decide +kernel
theorem dL_hangs_397 : decode cL_hangs 397 = .ok (.iload 15, 2) := by decide +kernel
theorem dL_hangs_399 : decode cL_hangs 399 = .ok (.ifCond .lt 12, 3) := by decide +kernel
theorem dL_hangs_402 : decode cL_hangs 402 = .ok (.iload 19, 2) := by decide +kernel
theorem dL_hangs_404 : decode cL_hangs 404 = .ok (.ifCond .ne 7, 3) := by decide +kernel
theorem dL_hangs_407 : decode cL_hangs 407 = .ok (.iconst 1, 1) := by decide +kernel
theorem dL_hangs_408 : decode cL_hangs 408 = .ok (.goto 4, 3) := by decide +kernel
theorem dL_hangs_411 : decode cL_hangs 411 = .ok (.iconst 0, 1) := by decide +kernel
theorem dL_hangs_412 : decode cL_hangs 412 = .ok (.iadd, 1) := by decide +kernel
theorem dL_hangs_413 : decode cL_hangs 413 = .ok (.istore 11, 2) := by decide +kernel
theorem dL_hangs_415 : decode cL_hangs 415 = .ok (.iload 19, 2) := by decide +kernel
theorem dL_hangs_417 : decode cL_hangs 417 = .ok (.iload 14, 2) := by decide +kernel
theorem dL_hangs_419 : decode cL_hangs 419 = .ok (.iload_n 1, 1) := by decide +kernel
theorem dL_hangs_420 : decode cL_hangs 420 = .ok (.if_icmp .ge 7, 3) := by decide +kernel
theorem dL_hangs_423 : decode cL_hangs 423 = .ok (.iconst 1, 1) := by decide +kernel
theorem dL_hangs_424 : decode cL_hangs 424 = .ok (.goto 4, 3) := by decide +kernel
theorem dL_hangs_427 : decode cL_hangs 427 = .ok (.iconst 0, 1) := by decide +kernel
theorem dL_hangs_428 : decode cL_hangs 428 = .ok (.if_icmp .ne 173, 3) := by decide +kernel
theorem dL_hangs_431 : decode cL_hangs 431 = .ok (.iload 15, 2) := by decide +kernel
theorem dL_hangs_433 : decode cL_hangs 433 = .ok (.ifCond .lt 56, 3) := by decide +kernel
theorem dL_hangs_436 : decode cL_hangs 436 = .ok (.iload 16, 2) := by decide +kernel
theorem dL_hangs_438 : decode cL_hangs 438 = .ok (.ifCond .ne 163, 3) := by decide +kernel
theorem dL_hangs_441 : decode cL_hangs 441 = .ok (.aload_n 0, 1) := by decide +kernel
theorem dL_hangs_442 : decode cL_hangs 442 = .ok (.iload 13, 2) := by decide +kernel
theorem dL_hangs_444 : decode cL_hangs 444 = .ok (.iload 14, 2) := by decide +kernel
theorem dL_hangs_446 : decode cL_hangs 446 = .ok (.iconst 1, 1) := by decide +kernel
theorem dL_hangs_447 : decode cL_hangs 447 = .ok (.invokevirtual 46, 3) := by decide +kernel
theorem dL_hangs_450 : decode cL_hangs 450 = .ok (.iconst 1, 1) := by decide +kernel
theorem dL_hangs_451 : decode cL_hangs 451 = .ok (.if_icmp .lt 150, 3) := by decide +kernel
theorem dL_hangs_454 : decode cL_hangs 454 = .ok (.aload_n 0, 1) := by decide +kernel
theorem dL_hangs_455 : decode cL_hangs 455 = .ok (.iload 13, 2) := by decide +kernel
theorem dL_hangs_457 : decode cL_hangs 457 = .ok (.iload 14, 2) := by decide +kernel
theorem dL_hangs_459 : decode cL_hangs 459 = .ok (.iconst 1, 1) := by decide +kernel
theorem dL_hangs_460 : decode cL_hangs 460 = .ok (.invokevirtual 46, 3) := by decide +kernel
theorem dL_hangs_463 : decode cL_hangs 463 = .ok (.bipush 20, 2) := by decide +kernel
theorem dL_hangs_465 : decode cL_hangs 465 = .ok (.bipush 20, 2) := by decide +kernel
theorem dL_hangs_467 : decode cL_hangs 467 = .ok (.iload 13, 2) := by decide +kernel
theorem dL_hangs_469 : decode cL_hangs 469 = .ok (.imul, 1) := by decide +kernel
theorem dL_hangs_470 : decode cL_hangs 470 = .ok (.iadd, 1) := by decide +kernel
theorem dL_hangs_471 : decode cL_hangs 471 = .ok (.if_icmp .gt 130, 3) := by decide +kernel
theorem dL_hangs_474 : decode cL_hangs 474 = .ok (.aload_n 0, 1) := by decide +kernel
theorem dL_hangs_475 : decode cL_hangs 475 = .ok (.iload 13, 2) := by decide +kernel
theorem dL_hangs_477 : decode cL_hangs 477 = .ok (.iload 14, 2) := by decide +kernel
theorem dL_hangs_479 : decode cL_hangs 479 = .ok (.iconst 2, 1) := by decide +kernel
theorem dL_hangs_480 : decode cL_hangs 480 = .ok (.invokevirtual 46, 3) := by decide +kernel
theorem dL_hangs_483 : decode cL_hangs 483 = .ok (.ifCond .lt 118, 3) := by decide +kernel
theorem dL_hangs_486 : decode cL_hangs 486 = .ok (.goto 27, 3) := by decide +kernel
theorem dL_hangs_489 : decode cL_hangs 489 = .ok (.aload_n 0, 1) := by decide +kernel
theorem dL_hangs_490 : decode cL_hangs 490 = .ok (.iload 13, 2) := by decide +kernel
theorem dL_hangs_492 : decode cL_hangs 492 = .ok (.iload 14, 2) := by decide +kernel
theorem dL_hangs_494 : decode cL_hangs 494 = .ok (.iconst 1, 1) := by decide +kernel
theorem dL_hangs_495 : decode cL_hangs 495 = .ok (.invokevirtual 46, 3) := by decide +kernel
theorem dL_hangs_498 : decode cL_hangs 498 = .ok (.ifCond .ne 103, 3) := by decide +kernel
theorem dL_hangs_501 : decode cL_hangs 501 = .ok (.aload_n 0, 1) := by decide +kernel
theorem dL_hangs_502 : decode cL_hangs 502 = .ok (.iload 13, 2) := by decide +kernel
theorem dL_hangs_504 : decode cL_hangs 504 = .ok (.iload 14, 2) := by decide +kernel
theorem dL_hangs_506 : decode cL_hangs 506 = .ok (.iconst 2, 1) := by decide +kernel
theorem dL_hangs_507 : decode cL_hangs 507 = .ok (.invokevirtual 46, 3) := by decide +kernel
theorem dL_hangs_510 : decode cL_hangs 510 = .ok (.ifCond .ne 91, 3) := by decide +kernel
theorem dL_hangs_513 : decode cL_hangs 513 = .ok (.iload 16, 2) := by decide +kernel
theorem dL_hangs_515 : decode cL_hangs 515 = .ok (.ifCond .ne 7, 3) := by decide +kernel
theorem dL_hangs_518 : decode cL_hangs 518 = .ok (.iconst 1, 1) := by decide +kernel
theorem dL_hangs_519 : decode cL_hangs 519 = .ok (.goto 4, 3) := by decide +kernel
theorem dL_hangs_522 : decode cL_hangs 522 = .ok (.iconst 0, 1) := by decide +kernel
theorem dL_hangs_523 : decode cL_hangs 523 = .ok (.iload 17, 2) := by decide +kernel
theorem dL_hangs_525 : decode cL_hangs 525 = .ok (.ifCond .ne 7, 3) := by decide +kernel
theorem dL_hangs_528 : decode cL_hangs 528 = .ok (.iconst 1, 1) := by decide +kernel
theorem dL_hangs_529 : decode cL_hangs 529 = .ok (.goto 4, 3) := by decide +kernel
theorem dL_hangs_532 : decode cL_hangs 532 = .ok (.iconst 0, 1) := by decide +kernel
theorem dL_hangs_533 : decode cL_hangs 533 = .ok (.if_icmp .ne 68, 3) := by decide +kernel
theorem dL_hangs_536 : decode cL_hangs 536 = .ok (.iload 19, 2) := by decide +kernel
theorem dL_hangs_538 : decode cL_hangs 538 = .ok (.ifCond .eq 52, 3) := by decide +kernel
theorem dL_hangs_541 : decode cL_hangs 541 = .ok (.iload 16, 2) := by decide +kernel
theorem dL_hangs_543 : decode cL_hangs 543 = .ok (.ifCond .ne 58, 3) := by decide +kernel
theorem dL_hangs_546 : decode cL_hangs 546 = .ok (.iload 18, 2) := by decide +kernel
theorem dL_hangs_548 : decode cL_hangs 548 = .ok (.ifCond .lt 53, 3) := by decide +kernel
theorem dL_hangs_551 : decode cL_hangs 551 = .ok (.iload 18, 2) := by decide +kernel
theorem dL_hangs_553 : decode cL_hangs 553 = .ok (.iconst 3, 1) := by decide +kernel
theorem dL_hangs_554 : decode cL_hangs 554 = .ok (.if_icmp .gt 47, 3) := by decide +kernel
theorem dL_hangs_557 : decode cL_hangs 557 = .ok (.iload 18, 2) := by decide +kernel
theorem dL_hangs_559 : decode cL_hangs 559 = .ok (.iconst 1, 1) := by decide +kernel
theorem dL_hangs_560 : decode cL_hangs 560 = .ok (.if_icmp .eq 9, 3) := by decide +kernel
theorem dL_hangs_563 : decode cL_hangs 563 = .ok (.iload 18, 2) := by decide +kernel
theorem dL_hangs_565 : decode cL_hangs 565 = .ok (.iconst 2, 1) := by decide +kernel
theorem dL_hangs_566 : decode cL_hangs 566 = .ok (.if_icmp .ne 7, 3) := by decide +kernel
theorem dL_hangs_569 : decode cL_hangs 569 = .ok (.iconst 1, 1) := by decide +kernel
theorem dL_hangs_570 : decode cL_hangs 570 = .ok (.goto 4, 3) := by decide +kernel
theorem dL_hangs_573 : decode cL_hangs 573 = .ok (.iconst 0, 1) := by decide +kernel
theorem dL_hangs_574 : decode cL_hangs 574 = .ok (.iload 15, 2) := by decide +kernel
theorem dL_hangs_576 : decode cL_hangs 576 = .ok (.ifCond .ge 7, 3) := by decide +kernel
theorem dL_hangs_579 : decode cL_hangs 579 = .ok (.iconst 1, 1) := by decide +kernel
theorem dL_hangs_580 : decode cL_hangs 580 = .ok (.goto 4, 3) := by decide +kernel
theorem dL_hangs_583 : decode cL_hangs 583 = .ok (.iconst 0, 1) := by decide +kernel
theorem dL_hangs_584 : decode cL_hangs 584 = .ok (.if_icmp .ne 17, 3) := by decide +kernel
theorem dL_hangs_587 : decode cL_hangs 587 = .ok (.goto 10, 3) := by decide +kernel
theorem dL_hangs_590 : decode cL_hangs 590 = .ok (.iload 18, 2) := by decide +kernel
theorem dL_hangs_592 : decode cL_hangs 592 = .ok (.bipush (-5), 2) := by decide +kernel
theorem dL_hangs_594 : decode cL_hangs 594 = .ok (.if_icmp .ne 7, 3) := by decide +kernel
theorem dL_hangs_597 : decode cL_hangs 597 = .ok (.iconst 1, 1) := by decide +kernel
theorem dL_hangs_598 : decode cL_hangs 598 = .ok (.goto 4, 3) := by decide +kernel
theorem dL_hangs_601 : decode cL_hangs 601 = .ok (.iconst 0, 1) := by decide +kernel
theorem dL_hangs_602 : decode cL_hangs 602 = .ok (.istore 9, 2) := by decide +kernel
theorem dL_hangs_604 : decode cL_hangs 604 = .ok (.iload 9, 2) := by decide +kernel
theorem dL_hangs_606 : decode cL_hangs 606 = .ok (.ifCond .eq 56, 3) := by decide +kernel
theorem dL_hangs_609 : decode cL_hangs 609 = .ok (.iload 19, 2) := by decide +kernel
theorem dL_hangs_611 : decode cL_hangs 611 = .ok (.ifCond .eq 47, 3) := by decide +kernel
theorem dL_hangs_614 : decode cL_hangs 614 = .ok (.iload 15, 2) := by decide +kernel
theorem dL_hangs_616 : decode cL_hangs 616 = .ok (.ifCond .lt 42, 3) := by decide +kernel
theorem dL_hangs_619 : decode cL_hangs 619 = .ok (.iload 18, 2) := by decide +kernel
theorem dL_hangs_621 : decode cL_hangs 621 = .ok (.ifCond .ne 7, 3) := by decide +kernel
theorem dL_hangs_624 : decode cL_hangs 624 = .ok (.iconst 1, 1) := by decide +kernel
theorem dL_hangs_625 : decode cL_hangs 625 = .ok (.goto 4, 3) := by decide +kernel
theorem dL_hangs_628 : decode cL_hangs 628 = .ok (.iconst 0, 1) := by decide +kernel
theorem dL_hangs_629 : decode cL_hangs 629 = .ok (.aload_n 0, 1) := by decide +kernel
theorem dL_hangs_630 : decode cL_hangs 630 = .ok (.iload 14, 2) := by decide +kernel
theorem dL_hangs_632 : decode cL_hangs 632 = .ok (.invokevirtual 49, 3) := by decide +kernel
theorem dL_hangs_635 : decode cL_hangs 635 = .ok (.bipush 70, 2) := by decide +kernel
theorem dL_hangs_637 : decode cL_hangs 637 = .ok (.aload_n 0, 1) := by decide +kernel
theorem dL_hangs_638 : decode cL_hangs 638 = .ok (.iload 13, 2) := by decide +kernel
theorem dL_hangs_640 : decode cL_hangs 640 = .ok (.iload 14, 2) := by decide +kernel
theorem dL_hangs_642 : decode cL_hangs 642 = .ok (.iconst 1, 1) := by decide +kernel
theorem dL_hangs_643 : decode cL_hangs 643 = .ok (.invokevirtual 46, 3) := by decide +kernel
theorem dL_hangs_646 : decode cL_hangs 646 = .ok (.isub, 1) := by decide +kernel
theorem dL_hangs_647 : decode cL_hangs 647 = .ok (.if_icmp .gt 7, 3) := by decide +kernel
theorem dL_hangs_650 : decode cL_hangs 650 = .ok (.iconst 1, 1) := by decide +kernel
theorem dL_hangs_651 : decode cL_hangs 651 = .ok (.goto 4, 3) := by decide +kernel
theorem dL_hangs_654 : decode cL_hangs 654 = .ok (.iconst 0, 1) := by decide +kernel
theorem dL_hangs_655 : decode cL_hangs 655 = .ok (.if_icmp .ne 7, 3) := by decide +kernel
theorem dL_hangs_658 : decode cL_hangs 658 = .ok (.iconst 1, 1) := by decide +kernel
theorem dL_hangs_659 : decode cL_hangs 659 = .ok (.goto 4, 3) := by decide +kernel
theorem dL_hangs_662 : decode cL_hangs 662 = .ok (.iconst 0, 1) := by decide +kernel
theorem dL_hangs_663 : decode cL_hangs 663 = .ok (.istore 9, 2) := by decide +kernel
theorem dL_hangs_665 : decode cL_hangs 665 = .ok (.iinc 12 1, 3) := by decide +kernel
theorem dL_hangs_668 : decode cL_hangs 668 = .ok (.goto (-371), 3) := by decide +kernel
theorem dL_hangs_671 : decode cL_hangs 671 = .ok (.iload 9, 2) := by decide +kernel
theorem dL_hangs_673 : decode cL_hangs 673 = .ok (.ifCond .eq 27, 3) := by decide +kernel
theorem dL_hangs_676 : decode cL_hangs 676 = .ok (.iload 10, 2) := by decide +kernel
theorem dL_hangs_678 : decode cL_hangs 678 = .ok (.iload 7, 2) := by decide +kernel
theorem dL_hangs_680 : decode cL_hangs 680 = .ok (.if_icmp .ne 20, 3) := by decide +kernel
theorem dL_hangs_683 : decode cL_hangs 683 = .ok (.iload 11, 2) := by decide +kernel
theorem dL_hangs_685 : decode cL_hangs 685 = .ok (.iload 8, 2) := by decide +kernel
theorem dL_hangs_687 : decode cL_hangs 687 = .ok (.if_icmp .ne 13, 3) := by decide +kernel
theorem dL_hangs_690 : decode cL_hangs 690 = .ok (.iload 6, 2) := by decide +kernel
theorem dL_hangs_692 : decode cL_hangs 692 = .ok (.iload_n 2, 1) := by decide +kernel
theorem dL_hangs_693 : decode cL_hangs 693 = .ok (.if_icmp .gt 7, 3) := by decide +kernel
theorem dL_hangs_696 : decode cL_hangs 696 = .ok (.iconst 1, 1) := by decide +kernel
theorem dL_hangs_697 : decode cL_hangs 697 = .ok (.goto 4, 3) := by decide +kernel
theorem dL_hangs_700 : decode cL_hangs 700 = .ok (.iconst 0, 1) := by decide +kernel
theorem dL_hangs_701 : decode cL_hangs 701 = .ok (.istore 9, 2) := by decide +kernel
theorem dL_hangs_703 : decode cL_hangs 703 = .ok (.iconst 0, 1) := by decide +kernel
theorem dL_hangs_704 : decode cL_hangs 704 = .ok (.istore 12, 2) := by decide +kernel
theorem dL_hangs_706 : decode cL_hangs 706 = .ok (.iload 12, 2) := by decide +kernel
theorem dL_hangs_708 : decode cL_hangs 708 = .ok (.iconst 3, 1) := by decide +kernel
theorem dL_hangs_709 : decode cL_hangs 709 = .ok (.if_icmp .ge 135, 3) := by decide +kernel
theorem dL_hangs_712 : decode cL_hangs 712 = .ok (.iload 9, 2) := by decide +kernel
theorem dL_hangs_714 : decode cL_hangs 714 = .ok (.ifCond .eq 130, 3) := by decide +kernel
theorem dL_hangs_717 : decode cL_hangs 717 = .ok (.iconst 1, 1) := by decide +kernel
theorem dL_hangs_718 : decode cL_hangs 718 = .ok (.bipush 7, 2) := by decide +kernel
theorem dL_hangs_720 : decode cL_hangs 720 = .ok (.iload 12, 2) := by decide +kernel
theorem dL_hangs_722 : decode cL_hangs 722 = .ok (.imul, 1) := by decide +kernel
theorem dL_hangs_723 : decode cL_hangs 723 = .ok (.iadd, 1) := by decide +kernel
theorem dL_hangs_724 : decode cL_hangs 724 = .ok (.istore 13, 2) := by decide +kernel
theorem dL_hangs_726 : decode cL_hangs 726 = .ok (.bipush (-5), 2) := by decide +kernel
theorem dL_hangs_728 : decode cL_hangs 728 = .ok (.istore 14, 2) := by decide +kernel
theorem dL_hangs_730 : decode cL_hangs 730 = .ok (.bipush 15, 2) := by decide +kernel
theorem dL_hangs_732 : decode cL_hangs 732 = .ok (.istore 15, 2) := by decide +kernel
theorem dL_hangs_734 : decode cL_hangs 734 = .ok (.iload 15, 2) := by decide +kernel
theorem dL_hangs_736 : decode cL_hangs 736 = .ok (.iload_n 1, 1) := by decide +kernel
theorem dL_hangs_737 : decode cL_hangs 737 = .ok (.if_icmp .lt 81, 3) := by decide +kernel
theorem dL_hangs_740 : decode cL_hangs 740 = .ok (.aload_n 0, 1) := by decide +kernel
theorem dL_hangs_741 : decode cL_hangs 741 = .ok (.iload 12, 2) := by decide +kernel
theorem dL_hangs_743 : decode cL_hangs 743 = .ok (.iload 15, 2) := by decide +kernel
theorem dL_hangs_745 : decode cL_hangs 745 = .ok (.iconst 0, 1) := by decide +kernel
theorem dL_hangs_746 : decode cL_hangs 746 = .ok (.invokevirtual 46, 3) := by decide +kernel
theorem dL_hangs_749 : decode cL_hangs 749 = .ok (.ifCond .ge 20, 3) := by decide +kernel
theorem dL_hangs_752 : decode cL_hangs 752 = .ok (.aload_n 0, 1) := by decide +kernel
theorem dL_hangs_753 : decode cL_hangs 753 = .ok (.iload 12, 2) := by decide +kernel
theorem dL_hangs_755 : decode cL_hangs 755 = .ok (.iload 15, 2) := by decide +kernel
theorem dL_hangs_757 : decode cL_hangs 757 = .ok (.invokevirtual 52, 3) := by decide +kernel
theorem dL_hangs_760 : decode cL_hangs 760 = .ok (.iload 13, 2) := by decide +kernel
theorem dL_hangs_762 : decode cL_hangs 762 = .ok (.if_icmp .lt 7, 3) := by decide +kernel
theorem dL_hangs_765 : decode cL_hangs 765 = .ok (.iconst 1, 1) := by decide +kernel
theorem dL_hangs_766 : decode cL_hangs 766 = .ok (.goto 4, 3) := by decide +kernel
theorem dL_hangs_769 : decode cL_hangs 769 = .ok (.iconst 0, 1) := by decide +kernel
theorem dL_hangs_770 : decode cL_hangs 770 = .ok (.istore 16, 2) := by decide +kernel
theorem dL_hangs_772 : decode cL_hangs 772 = .ok (.iload 16, 2) := by decide +kernel
theorem dL_hangs_774 : decode cL_hangs 774 = .ok (.ifCond .eq 34, 3) := by decide +kernel
theorem dL_hangs_777 : decode cL_hangs 777 = .ok (.iload 14, 2) := by decide +kernel
theorem dL_hangs_779 : decode cL_hangs 779 = .ok (.ifCond .lt 24, 3) := by decide +kernel
theorem dL_hangs_782 : decode cL_hangs 782 = .ok (.aload_n 0, 1) := by decide +kernel
theorem dL_hangs_783 : decode cL_hangs 783 = .ok (.iload 12, 2) := by decide +kernel
theorem dL_hangs_785 : decode cL_hangs 785 = .ok (.iload 15, 2) := by decide +kernel
theorem dL_hangs_787 : decode cL_hangs 787 = .ok (.iconst 4, 1) := by decide +kernel
theorem dL_hangs_788 : decode cL_hangs 788 = .ok (.invokevirtual 46, 3) := by decide +kernel
theorem dL_hangs_791 : decode cL_hangs 791 = .ok (.aload_n 0, 1) := by decide +kernel
theorem dL_hangs_792 : decode cL_hangs 792 = .ok (.iload 12, 2) := by decide +kernel
theorem dL_hangs_794 : decode cL_hangs 794 = .ok (.iload 14, 2) := by decide +kernel
theorem dL_hangs_796 : decode cL_hangs 796 = .ok (.iconst 4, 1) := by decide +kernel
theorem dL_hangs_797 : decode cL_hangs 797 = .ok (.invokevirtual 46, 3) := by decide +kernel
theorem dL_hangs_800 : decode cL_hangs 800 = .ok (.if_icmp .gt 8, 3) := by decide +kernel
theorem dL_hangs_803 : decode cL_hangs 803 = .ok (.iload 15, 2) := by decide +kernel
theorem dL_hangs_805 : decode cL_hangs 805 = .ok (.goto 5, 3) := by decide +kernel
theorem dL_hangs_808 : decode cL_hangs 808 = .ok (.iload 14, 2) := by decide +kernel
theorem dL_hangs_810 : decode cL_hangs 810 = .ok (.istore 14, 2) := by decide +kernel
theorem dL_hangs_812 : decode cL_hangs 812 = .ok (.iinc 15 (-1), 3) := by decide +kernel
theorem dL_hangs_815 : decode cL_hangs 815 = .ok (.goto (-81), 3) := by decide +kernel
theorem dL_hangs_818 : decode cL_hangs 818 = .ok (.aload_n 0, 1) := by decide +kernel
theorem dL_hangs_819 : decode cL_hangs 819 = .ok (.iload 12, 2) := by decide +kernel
theorem dL_hangs_821 : decode cL_hangs 821 = .ok (.iload 13, 2) := by decide +kernel
theorem dL_hangs_823 : decode cL_hangs 823 = .ok (.invokevirtual 55, 3) := by decide +kernel
theorem dL_hangs_826 : decode cL_hangs 826 = .ok (.iload 14, 2) := by decide +kernel
theorem dL_hangs_828 : decode cL_hangs 828 = .ok (.if_icmp .ne 7, 3) := by decide +kernel
theorem dL_hangs_831 : decode cL_hangs 831 = .ok (.iconst 1, 1) := by decide +kernel
theorem dL_hangs_832 : decode cL_hangs 832 = .ok (.goto 4, 3) := by decide +kernel
theorem dL_hangs_835 : decode cL_hangs 835 = .ok (.iconst 0, 1) := by decide +kernel
theorem dL_hangs_836 : decode cL_hangs 836 = .ok (.istore 9, 2) := by decide +kernel
theorem dL_hangs_838 : decode cL_hangs 838 = .ok (.iinc 12 1, 3) := by decide +kernel
theorem dL_hangs_841 : decode cL_hangs 841 = .ok (.goto (-135), 3) := by decide +kernel
theorem dL_hangs_844 : decode cL_hangs 844 = .ok (.iload 9, 2) := by decide +kernel
theorem dL_hangs_846 : decode cL_hangs 846 = .ok (.ireturn, 1) := by decide +kernel
theorem dL_law_0 : decode cL_law 0 = .ok (.new 10, 3) := by decide +kernel
theorem dL_law_3 : decode cL_law 3 = .ok (.dup, 1) := by decide +kernel
theorem dL_law_4 : decode cL_law 4 = .ok (.invokespecial 58, 3) := by decide +kernel
theorem dL_law_7 : decode cL_law 7 = .ok (.astore_n 1, 1) := by decide +kernel
theorem dL_law_8 : decode cL_law 8 = .ok (.aload_n 1, 1) := by decide +kernel
theorem dL_law_9 : decode cL_law 9 = .ok (.invokevirtual 59, 3) := by decide +kernel
theorem dL_law_12 : decode cL_law 12 = .ok (.bipush (-5), 2) := by decide +kernel
theorem dL_law_14 : decode cL_law 14 = .ok (.if_icmp .ne 89, 3) := by decide +kernel
theorem dL_law_17 : decode cL_law 17 = .ok (.aload_n 1, 1) := by decide +kernel
theorem dL_law_18 : decode cL_law 18 = .ok (.invokevirtual 62, 3) := by decide +kernel
theorem dL_law_21 : decode cL_law 21 = .ok (.bipush (-5), 2) := by decide +kernel
theorem dL_law_23 : decode cL_law 23 = .ok (.if_icmp .ne 80, 3) := by decide +kernel
theorem dL_law_26 : decode cL_law 26 = .ok (.aload_n 1, 1) := by decide +kernel
theorem dL_law_27 : decode cL_law 27 = .ok (.iconst 0, 1) := by decide +kernel
theorem dL_law_28 : decode cL_law 28 = .ok (.invokevirtual 65, 3) := by decide +kernel
theorem dL_law_31 : decode cL_law 31 = .ok (.bipush (-5), 2) := by decide +kernel
theorem dL_law_33 : decode cL_law 33 = .ok (.if_icmp .ne 70, 3) := by decide +kernel
theorem dL_law_36 : decode cL_law 36 = .ok (.aload_n 1, 1) := by decide +kernel
theorem dL_law_37 : decode cL_law 37 = .ok (.invokevirtual 68, 3) := by decide +kernel
theorem dL_law_40 : decode cL_law 40 = .ok (.bipush (-100), 2) := by decide +kernel
theorem dL_law_42 : decode cL_law 42 = .ok (.if_icmp .ne 61, 3) := by decide +kernel
theorem dL_law_45 : decode cL_law 45 = .ok (.aload_n 1, 1) := by decide +kernel
theorem dL_law_46 : decode cL_law 46 = .ok (.invokevirtual 39, 3) := by decide +kernel
theorem dL_law_49 : decode cL_law 49 = .ok (.bipush (-4), 2) := by decide +kernel
theorem dL_law_51 : decode cL_law 51 = .ok (.if_icmp .ne 52, 3) := by decide +kernel
theorem dL_law_54 : decode cL_law 54 = .ok (.aload_n 1, 1) := by decide +kernel
theorem dL_law_55 : decode cL_law 55 = .ok (.iconst 0, 1) := by decide +kernel
theorem dL_law_56 : decode cL_law 56 = .ok (.iconst 0, 1) := by decide +kernel
theorem dL_law_57 : decode cL_law 57 = .ok (.invokevirtual 30, 3) := by decide +kernel
theorem dL_law_60 : decode cL_law 60 = .ok (.bipush (-5), 2) := by decide +kernel
theorem dL_law_62 : decode cL_law 62 = .ok (.if_icmp .ne 41, 3) := by decide +kernel
theorem dL_law_65 : decode cL_law 65 = .ok (.aload_n 1, 1) := by decide +kernel
theorem dL_law_66 : decode cL_law 66 = .ok (.iconst 0, 1) := by decide +kernel
theorem dL_law_67 : decode cL_law 67 = .ok (.iconst 0, 1) := by decide +kernel
theorem dL_law_68 : decode cL_law 68 = .ok (.iconst 0, 1) := by decide +kernel
theorem dL_law_69 : decode cL_law 69 = .ok (.iconst 1, 1) := by decide +kernel
theorem dL_law_70 : decode cL_law 70 = .ok (.iconst 0, 1) := by decide +kernel
theorem dL_law_71 : decode cL_law 71 = .ok (.invokevirtual 33, 3) := by decide +kernel
theorem dL_law_74 : decode cL_law 74 = .ok (.iconst (-1), 1) := by decide +kernel
theorem dL_law_75 : decode cL_law 75 = .ok (.if_icmp .ne 28, 3) := by decide +kernel
theorem dL_law_78 : decode cL_law 78 = .ok (.aload_n 1, 1) := by decide +kernel
theorem dL_law_79 : decode cL_law 79 = .ok (.bipush 11, 2) := by decide +kernel
theorem dL_law_81 : decode cL_law 81 = .ok (.invokevirtual 9, 3) := by decide +kernel
theorem dL_law_84 : decode cL_law 84 = .ok (.sipush 600, 3) := by decide +kernel
theorem dL_law_87 : decode cL_law 87 = .ok (.if_icmp .ne 16, 3) := by decide +kernel
theorem dL_law_90 : decode cL_law 90 = .ok (.aload_n 1, 1) := by decide +kernel
theorem dL_law_91 : decode cL_law 91 = .ok (.bipush 8, 2) := by decide +kernel
theorem dL_law_93 : decode cL_law 93 = .ok (.invokevirtual 9, 3) := by decide +kernel
theorem dL_law_96 : decode cL_law 96 = .ok (.ifCond .ne 7, 3) := by decide +kernel
theorem dL_law_99 : decode cL_law 99 = .ok (.iconst 1, 1) := by decide +kernel
theorem dL_law_100 : decode cL_law 100 = .ok (.goto 4, 3) := by decide +kernel
theorem dL_law_103 : decode cL_law 103 = .ok (.iconst 0, 1) := by decide +kernel
theorem dL_law_104 : decode cL_law 104 = .ok (.istore_n 2, 1) := by decide +kernel
theorem dL_law_105 : decode cL_law 105 = .ok (.iconst 0, 1) := by decide +kernel
theorem dL_law_106 : decode cL_law 106 = .ok (.istore_n 3, 1) := by decide +kernel
theorem dL_law_107 : decode cL_law 107 = .ok (.iload_n 3, 1) := by decide +kernel
theorem dL_law_108 : decode cL_law 108 = .ok (.bipush 28, 2) := by decide +kernel
theorem dL_law_110 : decode cL_law 110 = .ok (.if_icmp .ge 166, 3) := by decide +kernel
theorem dL_law_113 : decode cL_law 113 = .ok (.iload_n 2, 1) := by decide +kernel
theorem dL_law_114 : decode cL_law 114 = .ok (.ifCond .eq 162, 3) := by decide +kernel
theorem dL_law_117 : decode cL_law 117 = .ok (.aload_n 0, 1) := by decide +kernel
theorem dL_law_118 : decode cL_law 118 = .ok (.iload_n 3, 1) := by decide +kernel
theorem dL_law_119 : decode cL_law 119 = .ok (.invokestatic 71, 3) := by decide +kernel
theorem dL_law_122 : decode cL_law 122 = .ok (.istore 4, 2) := by decide +kernel
theorem dL_law_124 : decode cL_law 124 = .ok (.aload_n 1, 1) := by decide +kernel
theorem dL_law_125 : decode cL_law 125 = .ok (.bipush 14, 2) := by decide +kernel
theorem dL_law_127 : decode cL_law 127 = .ok (.invokevirtual 9, 3) := by decide +kernel
theorem dL_law_130 : decode cL_law 130 = .ok (.istore 5, 2) := by decide +kernel
theorem dL_law_132 : decode cL_law 132 = .ok (.aload_n 1, 1) := by decide +kernel
theorem dL_law_133 : decode cL_law 133 = .ok (.bipush 10, 2) := by decide +kernel
theorem dL_law_135 : decode cL_law 135 = .ok (.invokevirtual 9, 3) := by decide +kernel
theorem dL_law_138 : decode cL_law 138 = .ok (.istore 6, 2) := by decide +kernel
theorem dL_law_140 : decode cL_law 140 = .ok (.aload_n 1, 1) := by decide +kernel
theorem dL_law_141 : decode cL_law 141 = .ok (.iconst 2, 1) := by decide +kernel
theorem dL_law_142 : decode cL_law 142 = .ok (.invokevirtual 9, 3) := by decide +kernel
theorem dL_law_145 : decode cL_law 145 = .ok (.istore 7, 2) := by decide +kernel
theorem dL_law_147 : decode cL_law 147 = .ok (.aload_n 1, 1) := by decide +kernel
theorem dL_law_148 : decode cL_law 148 = .ok (.iconst 1, 1) := by decide +kernel
theorem dL_law_149 : decode cL_law 149 = .ok (.invokevirtual 9, 3) := by decide +kernel
theorem dL_law_152 : decode cL_law 152 = .ok (.istore 8, 2) := by decide +kernel
theorem dL_law_154 : decode cL_law 154 = .ok (.aload_n 1, 1) := by decide +kernel
theorem dL_law_155 : decode cL_law 155 = .ok (.iload 4, 2) := by decide +kernel
theorem dL_law_157 : decode cL_law 157 = .ok (.invokestatic 77, 3) := by decide +kernel
theorem dL_law_160 : decode cL_law 160 = .ok (.istore 9, 2) := by decide +kernel
theorem dL_law_162 : decode cL_law 162 = .ok (.iload 9, 2) := by decide +kernel
theorem dL_law_164 : decode cL_law 164 = .ok (.ifCond .lt 34, 3) := by decide +kernel
theorem dL_law_167 : decode cL_law 167 = .ok (.aload_n 1, 1) := by decide +kernel
theorem dL_law_168 : decode cL_law 168 = .ok (.bipush 14, 2) := by decide +kernel
theorem dL_law_170 : decode cL_law 170 = .ok (.invokevirtual 9, 3) := by decide +kernel
theorem dL_law_173 : decode cL_law 173 = .ok (.iload 5, 2) := by decide +kernel
theorem dL_law_175 : decode cL_law 175 = .ok (.iconst 4, 1) := by decide +kernel
theorem dL_law_176 : decode cL_law 176 = .ok (.if_icmp .ne 7, 3) := by decide +kernel
theorem dL_law_179 : decode cL_law 179 = .ok (.iconst 4, 1) := by decide +kernel
theorem dL_law_180 : decode cL_law 180 = .ok (.goto 7, 3) := by decide +kernel
theorem dL_law_183 : decode cL_law 183 = .ok (.iload 5, 2) := by decide +kernel
theorem dL_law_185 : decode cL_law 185 = .ok (.iconst 1, 1) := by decide +kernel
theorem dL_law_186 : decode cL_law 186 = .ok (.iadd, 1) := by decide +kernel
theorem dL_law_187 : decode cL_law 187 = .ok (.if_icmp .ne 7, 3) := by decide +kernel
theorem dL_law_190 : decode cL_law 190 = .ok (.iconst 1, 1) := by decide +kernel
theorem dL_law_191 : decode cL_law 191 = .ok (.goto 61, 3) := by decide +kernel
theorem dL_law_194 : decode cL_law 194 = .ok (.iconst 0, 1) := by decide +kernel
theorem dL_law_195 : decode cL_law 195 = .ok (.goto 57, 3) := by decide +kernel
theorem dL_law_198 : decode cL_law 198 = .ok (.iload 9, 2) := by decide +kernel
theorem dL_law_200 : decode cL_law 200 = .ok (.bipush (-6), 2) := by decide +kernel
theorem dL_law_202 : decode cL_law 202 = .ok (.if_icmp .lt 49, 3) := by decide +kernel
theorem dL_law_205 : decode cL_law 205 = .ok (.aload_n 1, 1) := by decide +kernel
theorem dL_law_206 : decode cL_law 206 = .ok (.bipush 14, 2) := by decide +kernel
theorem dL_law_208 : decode cL_law 208 = .ok (.invokevirtual 9, 3) := by decide +kernel
theorem dL_law_211 : decode cL_law 211 = .ok (.iload 5, 2) := by decide +kernel
theorem dL_law_213 : decode cL_law 213 = .ok (.if_icmp .ne 38, 3) := by decide +kernel
theorem dL_law_216 : decode cL_law 216 = .ok (.aload_n 1, 1) := by decide +kernel
theorem dL_law_217 : decode cL_law 217 = .ok (.bipush 10, 2) := by decide +kernel
theorem dL_law_219 : decode cL_law 219 = .ok (.invokevirtual 9, 3) := by decide +kernel
theorem dL_law_222 : decode cL_law 222 = .ok (.iload 6, 2) := by decide +kernel
theorem dL_law_224 : decode cL_law 224 = .ok (.if_icmp .ne 27, 3) := by decide +kernel
theorem dL_law_227 : decode cL_law 227 = .ok (.aload_n 1, 1) := by decide +kernel
theorem dL_law_228 : decode cL_law 228 = .ok (.iconst 2, 1) := by decide +kernel
theorem dL_law_229 : decode cL_law 229 = .ok (.invokevirtual 9, 3) := by decide +kernel
theorem dL_law_232 : decode cL_law 232 = .ok (.iload 7, 2) := by decide +kernel
theorem dL_law_234 : decode cL_law 234 = .ok (.if_icmp .ne 17, 3) := by decide +kernel
theorem dL_law_237 : decode cL_law 237 = .ok (.aload_n 1, 1) := by decide +kernel
theorem dL_law_238 : decode cL_law 238 = .ok (.iconst 1, 1) := by decide +kernel
theorem dL_law_239 : decode cL_law 239 = .ok (.invokevirtual 9, 3) := by decide +kernel
theorem dL_law_242 : decode cL_law 242 = .ok (.iload 8, 2) := by decide +kernel
theorem dL_law_244 : decode cL_law 244 = .ok (.if_icmp .ne 7, 3) := by decide +kernel
theorem dL_law_247 : decode cL_law 247 = .ok (.iconst 1, 1) := by decide +kernel
theorem dL_law_248 : decode cL_law 248 = .ok (.goto 4, 3) := by decide +kernel
theorem dL_law_251 : decode cL_law 251 = .ok (.iconst 0, 1) := by decide +kernel
theorem dL_law_252 : decode cL_law 252 = .ok (.istore_n 2, 1) := by decide +kernel
theorem dL_law_253 : decode cL_law 253 = .ok (.iload_n 2, 1) := by decide +kernel
theorem dL_law_254 : decode cL_law 254 = .ok (.ifCond .eq 14, 3) := by decide +kernel
theorem dL_law_257 : decode cL_law 257 = .ok (.aload_n 1, 1) := by decide +kernel
theorem dL_law_258 : decode cL_law 258 = .ok (.invokestatic 81, 3) := by decide +kernel
theorem dL_law_261 : decode cL_law 261 = .ok (.ifCond .eq 7, 3) := by decide +kernel
theorem dL_law_264 : decode cL_law 264 = .ok (.iconst 1, 1) := by decide +kernel
theorem dL_law_265 : decode cL_law 265 = .ok (.goto 4, 3) := by decide +kernel
theorem dL_law_268 : decode cL_law 268 = .ok (.iconst 0, 1) := by decide +kernel
theorem dL_law_269 : decode cL_law 269 = .ok (.istore_n 2, 1) := by decide +kernel
theorem dL_law_270 : decode cL_law 270 = .ok (.iinc 3 1, 3) := by decide +kernel
theorem dL_law_273 : decode cL_law 273 = .ok (.goto (-166), 3) := by decide +kernel
theorem dL_law_276 : decode cL_law 276 = .ok (.aload_n 1, 1) := by decide +kernel
theorem dL_law_277 : decode cL_law 277 = .ok (.iconst 1, 1) := by decide +kernel
theorem dL_law_278 : decode cL_law 278 = .ok (.invokevirtual 9, 3) := by decide +kernel
theorem dL_law_281 : decode cL_law 281 = .ok (.istore_n 3, 1) := by decide +kernel
theorem dL_law_282 : decode cL_law 282 = .ok (.iconst 0, 1) := by decide +kernel
theorem dL_law_283 : decode cL_law 283 = .ok (.istore 4, 2) := by decide +kernel
theorem dL_law_285 : decode cL_law 285 = .ok (.iload 4, 2) := by decide +kernel
theorem dL_law_287 : decode cL_law 287 = .ok (.iconst 4, 1) := by decide +kernel
theorem dL_law_288 : decode cL_law 288 = .ok (.if_icmp .ge 231, 3) := by decide +kernel
theorem dL_law_291 : decode cL_law 291 = .ok (.iload_n 2, 1) := by decide +kernel
theorem dL_law_292 : decode cL_law 292 = .ok (.ifCond .eq 227, 3) := by decide +kernel
theorem dL_law_295 : decode cL_law 295 = .ok (.iload_n 3, 1) := by decide +kernel
theorem dL_law_296 : decode cL_law 296 = .ok (.bipush 16, 2) := by decide +kernel
theorem dL_law_298 : decode cL_law 298 = .ok (.if_icmp .ge 221, 3) := by decide +kernel
theorem dL_law_301 : decode cL_law 301 = .ok (.aload_n 0, 1) := by decide +kernel
theorem dL_law_302 : decode cL_law 302 = .ok (.bipush 30, 2) := by decide +kernel
theorem dL_law_304 : decode cL_law 304 = .ok (.iload 4, 2) := by decide +kernel
theorem dL_law_306 : decode cL_law 306 = .ok (.iadd, 1) := by decide +kernel
theorem dL_law_307 : decode cL_law 307 = .ok (.invokestatic 71, 3) := by decide +kernel
theorem dL_law_310 : decode cL_law 310 = .ok (.istore 5, 2) := by decide +kernel
theorem dL_law_312 : decode cL_law 312 = .ok (.iload 5, 2) := by decide +kernel
theorem dL_law_314 : decode cL_law 314 = .ok (.bipush 6, 2) := by decide +kernel
theorem dL_law_316 : decode cL_law 316 = .ok (.irem, 1) := by decide +kernel
theorem dL_law_317 : decode cL_law 317 = .ok (.istore 6, 2) := by decide +kernel
theorem dL_law_319 : decode cL_law 319 = .ok (.iload 5, 2) := by decide +kernel
theorem dL_law_321 : decode cL_law 321 = .ok (.bipush 8, 2) := by decide +kernel
theorem dL_law_323 : decode cL_law 323 = .ok (.idiv, 1) := by decide +kernel
theorem dL_law_324 : decode cL_law 324 = .ok (.iconst 3, 1) := by decide +kernel
theorem dL_law_325 : decode cL_law 325 = .ok (.irem, 1) := by decide +kernel
theorem dL_law_326 : decode cL_law 326 = .ok (.istore 7, 2) := by decide +kernel
theorem dL_law_328 : decode cL_law 328 = .ok (.iconst 1, 1) := by decide +kernel
theorem dL_law_329 : decode cL_law 329 = .ok (.iload 5, 2) := by decide +kernel
theorem dL_law_331 : decode cL_law 331 = .ok (.bipush 32, 2) := by decide +kernel
theorem dL_law_333 : decode cL_law 333 = .ok (.idiv, 1) := by decide +kernel
theorem dL_law_334 : decode cL_law 334 = .ok (.bipush 20, 2) := by decide +kernel
theorem dL_law_336 : decode cL_law 336 = .ok (.bipush 20, 2) := by decide +kernel
theorem dL_law_338 : decode cL_law 338 = .ok (.iload 7, 2) := by decide +kernel
theorem dL_law_340 : decode cL_law 340 = .ok (.imul, 1) := by decide +kernel
theorem dL_law_341 : decode cL_law 341 = .ok (.iadd, 1) := by decide +kernel
theorem dL_law_342 : decode cL_law 342 = .ok (.irem, 1) := by decide +kernel
theorem dL_law_343 : decode cL_law 343 = .ok (.iadd, 1) := by decide +kernel
theorem dL_law_344 : decode cL_law 344 = .ok (.istore 8, 2) := by decide +kernel
theorem dL_law_346 : decode cL_law 346 = .ok (.iconst 1, 1) := by decide +kernel
theorem dL_law_347 : decode cL_law 347 = .ok (.iload 5, 2) := by decide +kernel
theorem dL_law_349 : decode cL_law 349 = .ok (.sipush 4096, 3) := by decide +kernel
theorem dL_law_352 : decode cL_law 352 = .ok (.idiv, 1) := by decide +kernel
theorem dL_law_353 : decode cL_law 353 = .ok (.bipush 90, 2) := by decide +kernel
theorem dL_law_355 : decode cL_law 355 = .ok (.irem, 1) := by decide +kernel
theorem dL_law_356 : decode cL_law 356 = .ok (.iadd, 1) := by decide +kernel
theorem dL_law_357 : decode cL_law 357 = .ok (.istore 9, 2) := by decide +kernel
theorem dL_law_359 : decode cL_law 359 = .ok (.aload_n 1, 1) := by decide +kernel
theorem dL_law_360 : decode cL_law 360 = .ok (.iload 6, 2) := by decide +kernel
theorem dL_law_362 : decode cL_law 362 = .ok (.iload 7, 2) := by decide +kernel
theorem dL_law_364 : decode cL_law 364 = .ok (.iload_n 3, 1) := by decide +kernel
theorem dL_law_365 : decode cL_law 365 = .ok (.iload 8, 2) := by decide +kernel
theorem dL_law_367 : decode cL_law 367 = .ok (.iload 9, 2) := by decide +kernel
theorem dL_law_369 : decode cL_law 369 = .ok (.invokevirtual 85, 3) := by decide +kernel
theorem dL_law_372 : decode cL_law 372 = .ok (.istore 10, 2) := by decide +kernel
theorem dL_law_374 : decode cL_law 374 = .ok (.aload_n 1, 1) := by decide +kernel
theorem dL_law_375 : decode cL_law 375 = .ok (.iload 6, 2) := by decide +kernel
theorem dL_law_377 : decode cL_law 377 = .ok (.iload 7, 2) := by decide +kernel
theorem dL_law_379 : decode cL_law 379 = .ok (.iload_n 3, 1) := by decide +kernel
theorem dL_law_380 : decode cL_law 380 = .ok (.iload 8, 2) := by decide +kernel
theorem dL_law_382 : decode cL_law 382 = .ok (.iload 9, 2) := by decide +kernel
theorem dL_law_384 : decode cL_law 384 = .ok (.invokevirtual 22, 3) := by decide +kernel
theorem dL_law_387 : decode cL_law 387 = .ok (.istore 11, 2) := by decide +kernel
theorem dL_law_389 : decode cL_law 389 = .ok (.aload_n 1, 1) := by decide +kernel
theorem dL_law_390 : decode cL_law 390 = .ok (.iload 6, 2) := by decide +kernel
theorem dL_law_392 : decode cL_law 392 = .ok (.iconst 0, 1) := by decide +kernel
theorem dL_law_393 : decode cL_law 393 = .ok (.invokevirtual 43, 3) := by decide +kernel
theorem dL_law_396 : decode cL_law 396 = .ok (.istore 12, 2) := by decide +kernel
theorem dL_law_398 : decode cL_law 398 = .ok (.iload 11, 2) := by decide +kernel
theorem dL_law_400 : decode cL_law 400 = .ok (.ifCond .ge 19, 3) := by decide +kernel
theorem dL_law_403 : decode cL_law 403 = .ok (.iload 10, 2) := by decide +kernel
theorem dL_law_405 : decode cL_law 405 = .ok (.iload 11, 2) := by decide +kernel
theorem dL_law_407 : decode cL_law 407 = .ok (.if_icmp .ne 7, 3) := by decide +kernel
theorem dL_law_410 : decode cL_law 410 = .ok (.iconst 1, 1) := by decide +kernel
theorem dL_law_411 : decode cL_law 411 = .ok (.goto 4, 3) := by decide +kernel
theorem dL_law_414 : decode cL_law 414 = .ok (.iconst 0, 1) := by decide +kernel
theorem dL_law_415 : decode cL_law 415 = .ok (.istore_n 2, 1) := by decide +kernel
theorem dL_law_416 : decode cL_law 416 = .ok (.goto 80, 3) := by decide +kernel
theorem dL_law_419 : decode cL_law 419 = .ok (.aload_n 1, 1) := by decide +kernel
theorem dL_law_420 : decode cL_law 420 = .ok (.iload 7, 2) := by decide +kernel
theorem dL_law_422 : decode cL_law 422 = .ok (.iload_n 3, 1) := by decide +kernel
theorem dL_law_423 : decode cL_law 423 = .ok (.invokevirtual 30, 3) := by decide +kernel
theorem dL_law_426 : decode cL_law 426 = .ok (.istore 13, 2) := by decide +kernel
theorem dL_law_428 : decode cL_law 428 = .ok (.iload 10, 2) := by decide +kernel
theorem dL_law_430 : decode cL_law 430 = .ok (.ifCond .lt 53, 3) := by decide +kernel
theorem dL_law_433 : decode cL_law 433 = .ok (.iload 13, 2) := by decide +kernel
theorem dL_law_435 : decode cL_law 435 = .ok (.iload 6, 2) := by decide +kernel
theorem dL_law_437 : decode cL_law 437 = .ok (.if_icmp .ne 42, 3) := by decide +kernel
theorem dL_law_440 : decode cL_law 440 = .ok (.aload_n 1, 1) := by decide +kernel
theorem dL_law_441 : decode cL_law 441 = .ok (.iload 7, 2) := by decide +kernel
theorem dL_law_443 : decode cL_law 443 = .ok (.iload_n 3, 1) := by decide +kernel
theorem dL_law_444 : decode cL_law 444 = .ok (.iconst 2, 1) := by decide +kernel
theorem dL_law_445 : decode cL_law 445 = .ok (.invokevirtual 46, 3) := by decide +kernel
theorem dL_law_448 : decode cL_law 448 = .ok (.iload 10, 2) := by decide +kernel
theorem dL_law_450 : decode cL_law 450 = .ok (.if_icmp .ne 29, 3) := by decide +kernel
theorem dL_law_453 : decode cL_law 453 = .ok (.aload_n 1, 1) := by decide +kernel
theorem dL_law_454 : decode cL_law 454 = .ok (.iload 6, 2) := by decide +kernel
theorem dL_law_456 : decode cL_law 456 = .ok (.iconst 0, 1) := by decide +kernel
theorem dL_law_457 : decode cL_law 457 = .ok (.invokevirtual 43, 3) := by decide +kernel
theorem dL_law_460 : decode cL_law 460 = .ok (.iload 12, 2) := by decide +kernel
theorem dL_law_462 : decode cL_law 462 = .ok (.iload 10, 2) := by decide +kernel
theorem dL_law_464 : decode cL_law 464 = .ok (.isub, 1) := by decide +kernel
theorem dL_law_465 : decode cL_law 465 = .ok (.if_icmp .ne 14, 3) := by decide +kernel
theorem dL_law_468 : decode cL_law 468 = .ok (.iload 10, 2) := by decide +kernel
theorem dL_law_470 : decode cL_law 470 = .ok (.iload 9, 2) := by decide +kernel
theorem dL_law_472 : decode cL_law 472 = .ok (.if_icmp .gt 7, 3) := by decide +kernel
theorem dL_law_475 : decode cL_law 475 = .ok (.iconst 1, 1) := by decide +kernel
theorem dL_law_476 : decode cL_law 476 = .ok (.goto 19, 3) := by decide +kernel
theorem dL_law_479 : decode cL_law 479 = .ok (.iconst 0, 1) := by decide +kernel
theorem dL_law_480 : decode cL_law 480 = .ok (.goto 15, 3) := by decide +kernel
theorem dL_law_483 : decode cL_law 483 = .ok (.iload 13, 2) := by decide +kernel
theorem dL_law_485 : decode cL_law 485 = .ok (.iload 6, 2) := by decide +kernel
theorem dL_law_487 : decode cL_law 487 = .ok (.if_icmp .eq 7, 3) := by decide +kernel
theorem dL_law_490 : decode cL_law 490 = .ok (.iconst 1, 1) := by decide +kernel
theorem dL_law_491 : decode cL_law 491 = .ok (.goto 4, 3) := by decide +kernel
theorem dL_law_494 : decode cL_law 494 = .ok (.iconst 0, 1) := by decide +kernel
theorem dL_law_495 : decode cL_law 495 = .ok (.istore_n 2, 1) := by decide +kernel
theorem dL_law_496 : decode cL_law 496 = .ok (.iload_n 2, 1) := by decide +kernel
theorem dL_law_497 : decode cL_law 497 = .ok (.ifCond .eq 14, 3) := by decide +kernel
theorem dL_law_500 : decode cL_law 500 = .ok (.aload_n 1, 1) := by decide +kernel
theorem dL_law_501 : decode cL_law 501 = .ok (.invokestatic 81, 3) := by decide +kernel
theorem dL_law_504 : decode cL_law 504 = .ok (.ifCond .eq 7, 3) := by decide +kernel
theorem dL_law_507 : decode cL_law 507 = .ok (.iconst 1, 1) := by decide +kernel
theorem dL_law_508 : decode cL_law 508 = .ok (.goto 4, 3) := by decide +kernel
theorem dL_law_511 : decode cL_law 511 = .ok (.iconst 0, 1) := by decide +kernel
theorem dL_law_512 : decode cL_law 512 = .ok (.istore_n 2, 1) := by decide +kernel
theorem dL_law_513 : decode cL_law 513 = .ok (.iinc 4 1, 3) := by decide +kernel
theorem dL_law_516 : decode cL_law 516 = .ok (.goto (-231), 3) := by decide +kernel
theorem dL_law_519 : decode cL_law 519 = .ok (.aload_n 1, 1) := by decide +kernel
theorem dL_law_520 : decode cL_law 520 = .ok (.iconst 0, 1) := by decide +kernel
theorem dL_law_521 : decode cL_law 521 = .ok (.invokevirtual 9, 3) := by decide +kernel
theorem dL_law_524 : decode cL_law 524 = .ok (.istore 4, 2) := by decide +kernel
theorem dL_law_526 : decode cL_law 526 = .ok (.bipush 16, 2) := by decide +kernel
theorem dL_law_528 : decode cL_law 528 = .ok (.aload_n 1, 1) := by decide +kernel
theorem dL_law_529 : decode cL_law 529 = .ok (.iconst 1, 1) := by decide +kernel
theorem dL_law_530 : decode cL_law 530 = .ok (.invokevirtual 9, 3) := by decide +kernel
theorem dL_law_533 : decode cL_law 533 = .ok (.isub, 1) := by decide +kernel
theorem dL_law_534 : decode cL_law 534 = .ok (.istore 5, 2) := by decide +kernel
theorem dL_law_536 : decode cL_law 536 = .ok (.iconst 0, 1) := by decide +kernel
theorem dL_law_537 : decode cL_law 537 = .ok (.istore 6, 2) := by decide +kernel
theorem dL_law_539 : decode cL_law 539 = .ok (.iload 6, 2) := by decide +kernel
theorem dL_law_541 : decode cL_law 541 = .ok (.iload 5, 2) := by decide +kernel
theorem dL_law_543 : decode cL_law 543 = .ok (.if_icmp .ge 28, 3) := by decide +kernel
theorem dL_law_546 : decode cL_law 546 = .ok (.iload_n 2, 1) := by decide +kernel
theorem dL_law_547 : decode cL_law 547 = .ok (.ifCond .eq 24, 3) := by decide +kernel
theorem dL_law_550 : decode cL_law 550 = .ok (.aload_n 1, 1) := by decide +kernel
theorem dL_law_551 : decode cL_law 551 = .ok (.iload 6, 2) := by decide +kernel
theorem dL_law_553 : decode cL_law 553 = .ok (.invokevirtual 36, 3) := by decide +kernel
theorem dL_law_556 : decode cL_law 556 = .ok (.ifCond .lt 7, 3) := by decide +kernel
theorem dL_law_559 : decode cL_law 559 = .ok (.iconst 1, 1) := by decide +kernel
theorem dL_law_560 : decode cL_law 560 = .ok (.goto 4, 3) := by decide +kernel
theorem dL_law_563 : decode cL_law 563 = .ok (.iconst 0, 1) := by decide +kernel
theorem dL_law_564 : decode cL_law 564 = .ok (.istore_n 2, 1) := by decide +kernel
theorem dL_law_565 : decode cL_law 565 = .ok (.iinc 6 1, 3) := by decide +kernel
theorem dL_law_568 : decode cL_law 568 = .ok (.goto (-29), 3) := by decide +kernel
theorem dL_law_571 : decode cL_law 571 = .ok (.iload_n 2, 1) := by decide +kernel
theorem dL_law_572 : decode cL_law 572 = .ok (.ifCond .eq 100, 3) := by decide +kernel
theorem dL_law_575 : decode cL_law 575 = .ok (.aload_n 1, 1) := by decide +kernel
theorem dL_law_576 : decode cL_law 576 = .ok (.invokestatic 81, 3) := by decide +kernel
theorem dL_law_579 : decode cL_law 579 = .ok (.ifCond .eq 93, 3) := by decide +kernel
theorem dL_law_582 : decode cL_law 582 = .ok (.aload_n 1, 1) := by decide +kernel
theorem dL_law_583 : decode cL_law 583 = .ok (.iconst 0, 1) := by decide +kernel
theorem dL_law_584 : decode cL_law 584 = .ok (.invokevirtual 36, 3) := by decide +kernel
theorem dL_law_587 : decode cL_law 587 = .ok (.bipush (-4), 2) := by decide +kernel
theorem dL_law_589 : decode cL_law 589 = .ok (.if_icmp .ne 83, 3) := by decide +kernel
theorem dL_law_592 : decode cL_law 592 = .ok (.aload_n 1, 1) := by decide +kernel
theorem dL_law_593 : decode cL_law 593 = .ok (.iconst 2, 1) := by decide +kernel
theorem dL_law_594 : decode cL_law 594 = .ok (.invokevirtual 9, 3) := by decide +kernel
theorem dL_law_597 : decode cL_law 597 = .ok (.ifCond .ne 75, 3) := by decide +kernel
theorem dL_law_600 : decode cL_law 600 = .ok (.aload_n 1, 1) := by decide +kernel
theorem dL_law_601 : decode cL_law 601 = .ok (.invokevirtual 39, 3) := by decide +kernel
theorem dL_law_604 : decode cL_law 604 = .ok (.iload 4, 2) := by decide +kernel
theorem dL_law_606 : decode cL_law 606 = .ok (.iconst 1, 1) := by decide +kernel
theorem dL_law_607 : decode cL_law 607 = .ok (.iadd, 1) := by decide +kernel
theorem dL_law_608 : decode cL_law 608 = .ok (.if_icmp .ne 64, 3) := by decide +kernel
theorem dL_law_611 : decode cL_law 611 = .ok (.aload_n 1, 1) := by decide +kernel
theorem dL_law_612 : decode cL_law 612 = .ok (.iconst 1, 1) := by decide +kernel
theorem dL_law_613 : decode cL_law 613 = .ok (.invokevirtual 9, 3) := by decide +kernel
theorem dL_law_616 : decode cL_law 616 = .ok (.ifCond .ne 56, 3) := by decide +kernel
theorem dL_law_619 : decode cL_law 619 = .ok (.aload_n 1, 1) := by decide +kernel
theorem dL_law_620 : decode cL_law 620 = .ok (.iconst 2, 1) := by decide +kernel
theorem dL_law_621 : decode cL_law 621 = .ok (.bipush 15, 2) := by decide +kernel
theorem dL_law_623 : decode cL_law 623 = .ok (.bipush 6, 2) := by decide +kernel
theorem dL_law_625 : decode cL_law 625 = .ok (.invokevirtual 46, 3) := by decide +kernel
theorem dL_law_628 : decode cL_law 628 = .ok (.bipush (-5), 2) := by decide +kernel
theorem dL_law_630 : decode cL_law 630 = .ok (.if_icmp .ne 42, 3) := by decide +kernel
theorem dL_law_633 : decode cL_law 633 = .ok (.aload_n 1, 1) := by decide +kernel
theorem dL_law_634 : decode cL_law 634 = .ok (.bipush 15, 2) := by decide +kernel
theorem dL_law_636 : decode cL_law 636 = .ok (.invokevirtual 49, 3) := by decide +kernel
theorem dL_law_639 : decode cL_law 639 = .ok (.bipush 20, 2) := by decide +kernel
theorem dL_law_641 : decode cL_law 641 = .ok (.if_icmp .ne 31, 3) := by decide +kernel
theorem dL_law_644 : decode cL_law 644 = .ok (.aload_n 1, 1) := by decide +kernel
theorem dL_law_645 : decode cL_law 645 = .ok (.invokevirtual 59, 3) := by decide +kernel
theorem dL_law_648 : decode cL_law 648 = .ok (.ifCond .lt 24, 3) := by decide +kernel
theorem dL_law_651 : decode cL_law 651 = .ok (.aload_n 1, 1) := by decide +kernel
theorem dL_law_652 : decode cL_law 652 = .ok (.iconst 0, 1) := by decide +kernel
theorem dL_law_653 : decode cL_law 653 = .ok (.invokevirtual 9, 3) := by decide +kernel
theorem dL_law_656 : decode cL_law 656 = .ok (.iload 4, 2) := by decide +kernel
theorem dL_law_658 : decode cL_law 658 = .ok (.if_icmp .ne 14, 3) := by decide +kernel
theorem dL_law_661 : decode cL_law 661 = .ok (.aload_n 1, 1) := by decide +kernel
theorem dL_law_662 : decode cL_law 662 = .ok (.invokestatic 81, 3) := by decide +kernel
theorem dL_law_665 : decode cL_law 665 = .ok (.ifCond .eq 7, 3) := by decide +kernel
theorem dL_law_668 : decode cL_law 668 = .ok (.iconst 1, 1) := by decide +kernel
theorem dL_law_669 : decode cL_law 669 = .ok (.goto 4, 3) := by decide +kernel
theorem dL_law_672 : decode cL_law 672 = .ok (.iconst 0, 1) := by decide +kernel
theorem dL_law_673 : decode cL_law 673 = .ok (.istore_n 2, 1) := by decide +kernel
theorem dL_law_674 : decode cL_law 674 = .ok (.iload_n 2, 1) := by decide +kernel
theorem dL_law_675 : decode cL_law 675 = .ok (.ifCond .eq 213, 3) := by decide +kernel
theorem dL_law_678 : decode cL_law 678 = .ok (.aload_n 1, 1) := by decide +kernel
theorem dL_law_679 : decode cL_law 679 = .ok (.bipush 16, 2) := by decide +kernel
theorem dL_law_681 : decode cL_law 681 = .ok (.bipush 100, 2) := by decide +kernel
theorem dL_law_683 : decode cL_law 683 = .ok (.invokevirtual 15, 3) := by decide +kernel
theorem dL_law_686 : decode cL_law 686 = .ok (.iconst (-1), 1) := by decide +kernel
theorem dL_law_687 : decode cL_law 687 = .ok (.if_icmp .ne 201, 3) := by decide +kernel
theorem dL_law_690 : decode cL_law 690 = .ok (.aload_n 1, 1) := by decide +kernel
theorem dL_law_691 : decode cL_law 691 = .ok (.iconst 0, 1) := by decide +kernel
theorem dL_law_692 : decode cL_law 692 = .ok (.bipush 100, 2) := by decide +kernel
theorem dL_law_694 : decode cL_law 694 = .ok (.invokevirtual 15, 3) := by decide +kernel
theorem dL_law_697 : decode cL_law 697 = .ok (.bipush (-2), 2) := by decide +kernel
theorem dL_law_699 : decode cL_law 699 = .ok (.if_icmp .ne 189, 3) := by decide +kernel
theorem dL_law_702 : decode cL_law 702 = .ok (.aload_n 1, 1) := by decide +kernel
theorem dL_law_703 : decode cL_law 703 = .ok (.bipush 6, 2) := by decide +kernel
theorem dL_law_705 : decode cL_law 705 = .ok (.iconst 0, 1) := by decide +kernel
theorem dL_law_706 : decode cL_law 706 = .ok (.invokevirtual 19, 3) := by decide +kernel
theorem dL_law_709 : decode cL_law 709 = .ok (.iconst (-1), 1) := by decide +kernel
theorem dL_law_710 : decode cL_law 710 = .ok (.if_icmp .ne 178, 3) := by decide +kernel
theorem dL_law_713 : decode cL_law 713 = .ok (.aload_n 1, 1) := by decide +kernel
theorem dL_law_714 : decode cL_law 714 = .ok (.iconst 0, 1) := by decide +kernel
theorem dL_law_715 : decode cL_law 715 = .ok (.iconst 0, 1) := by decide +kernel
theorem dL_law_716 : decode cL_law 716 = .ok (.invokevirtual 19, 3) := by decide +kernel
theorem dL_law_719 : decode cL_law 719 = .ok (.bipush (-2), 2) := by decide +kernel
theorem dL_law_721 : decode cL_law 721 = .ok (.if_icmp .ne 167, 3) := by decide +kernel
theorem dL_law_724 : decode cL_law 724 = .ok (.aload_n 1, 1) := by decide +kernel
theorem dL_law_725 : decode cL_law 725 = .ok (.iconst 0, 1) := by decide +kernel
theorem dL_law_726 : decode cL_law 726 = .ok (.iconst 3, 1) := by decide +kernel
theorem dL_law_727 : decode cL_law 727 = .ok (.iconst 0, 1) := by decide +kernel
theorem dL_law_728 : decode cL_law 728 = .ok (.iconst 1, 1) := by decide +kernel
theorem dL_law_729 : decode cL_law 729 = .ok (.iconst 1, 1) := by decide +kernel
theorem dL_law_730 : decode cL_law 730 = .ok (.invokevirtual 22, 3) := by decide +kernel
theorem dL_law_733 : decode cL_law 733 = .ok (.iconst (-1), 1) := by decide +kernel
theorem dL_law_734 : decode cL_law 734 = .ok (.if_icmp .ne 154, 3) := by decide +kernel
theorem dL_law_737 : decode cL_law 737 = .ok (.aload_n 1, 1) := by decide +kernel
theorem dL_law_738 : decode cL_law 738 = .ok (.iconst 0, 1) := by decide +kernel
theorem dL_law_739 : decode cL_law 739 = .ok (.iconst 0, 1) := by decide +kernel
theorem dL_law_740 : decode cL_law 740 = .ok (.iconst 0, 1) := by decide +kernel
theorem dL_law_741 : decode cL_law 741 = .ok (.bipush 21, 2) := by decide +kernel
theorem dL_law_743 : decode cL_law 743 = .ok (.iconst 1, 1) := by decide +kernel
theorem dL_law_744 : decode cL_law 744 = .ok (.invokevirtual 22, 3) := by decide +kernel
theorem dL_law_747 : decode cL_law 747 = .ok (.bipush (-2), 2) := by decide +kernel
theorem dL_law_749 : decode cL_law 749 = .ok (.if_icmp .ne 139, 3) := by decide +kernel
theorem dL_law_752 : decode cL_law 752 = .ok (.aload_n 1, 1) := by decide +kernel
theorem dL_law_753 : decode cL_law 753 = .ok (.iconst 0, 1) := by decide +kernel
theorem dL_law_754 : decode cL_law 754 = .ok (.iconst 0, 1) := by decide +kernel
theorem dL_law_755 : decode cL_law 755 = .ok (.bipush 16, 2) := by decide +kernel
theorem dL_law_757 : decode cL_law 757 = .ok (.invokevirtual 26, 3) := by decide +kernel
theorem dL_law_760 : decode cL_law 760 = .ok (.iconst (-1), 1) := by decide +kernel
theorem dL_law_761 : decode cL_law 761 = .ok (.if_icmp .ne 127, 3) := by decide +kernel
theorem dL_law_764 : decode cL_law 764 = .ok (.aload_n 1, 1) := by decide +kernel
theorem dL_law_765 : decode cL_law 765 = .ok (.iconst 3, 1) := by decide +kernel
theorem dL_law_766 : decode cL_law 766 = .ok (.iconst 0, 1) := by decide +kernel
theorem dL_law_767 : decode cL_law 767 = .ok (.invokevirtual 30, 3) := by decide +kernel
theorem dL_law_770 : decode cL_law 770 = .ok (.iconst (-1), 1) := by decide +kernel
theorem dL_law_771 : decode cL_law 771 = .ok (.if_icmp .ne 117, 3) := by decide +kernel
theorem dL_law_774 : decode cL_law 774 = .ok (.aload_n 1, 1) := by decide +kernel
theorem dL_law_775 : decode cL_law 775 = .ok (.bipush 100, 2) := by decide +kernel
theorem dL_law_777 : decode cL_law 777 = .ok (.invokevirtual 36, 3) := by decide +kernel
theorem dL_law_780 : decode cL_law 780 = .ok (.bipush (-2), 2) := by decide +kernel
theorem dL_law_782 : decode cL_law 782 = .ok (.if_icmp .ne 106, 3) := by decide +kernel
theorem dL_law_785 : decode cL_law 785 = .ok (.aload_n 1, 1) := by decide +kernel
theorem dL_law_786 : decode cL_law 786 = .ok (.bipush 6, 2) := by decide +kernel
theorem dL_law_788 : decode cL_law 788 = .ok (.iconst 0, 1) := by decide +kernel
theorem dL_law_789 : decode cL_law 789 = .ok (.invokevirtual 43, 3) := by decide +kernel
theorem dL_law_792 : decode cL_law 792 = .ok (.iconst (-1), 1) := by decide +kernel
theorem dL_law_793 : decode cL_law 793 = .ok (.if_icmp .ne 95, 3) := by decide +kernel
theorem dL_law_796 : decode cL_law 796 = .ok (.aload_n 1, 1) := by decide +kernel
theorem dL_law_797 : decode cL_law 797 = .ok (.iconst 0, 1) := by decide +kernel
theorem dL_law_798 : decode cL_law 798 = .ok (.bipush 7, 2) := by decide +kernel
theorem dL_law_800 : decode cL_law 800 = .ok (.invokevirtual 43, 3) := by decide +kernel
theorem dL_law_803 : decode cL_law 803 = .ok (.bipush (-2), 2) := by decide +kernel
theorem dL_law_805 : decode cL_law 805 = .ok (.if_icmp .ne 83, 3) := by decide +kernel
theorem dL_law_808 : decode cL_law 808 = .ok (.aload_n 1, 1) := by decide +kernel
theorem dL_law_809 : decode cL_law 809 = .ok (.iconst 0, 1) := by decide +kernel
theorem dL_law_810 : decode cL_law 810 = .ok (.iconst 0, 1) := by decide +kernel
theorem dL_law_811 : decode cL_law 811 = .ok (.bipush 7, 2) := by decide +kernel
theorem dL_law_813 : decode cL_law 813 = .ok (.invokevirtual 46, 3) := by decide +kernel
theorem dL_law_816 : decode cL_law 816 = .ok (.bipush (-2), 2) := by decide +kernel
theorem dL_law_818 : decode cL_law 818 = .ok (.if_icmp .ne 70, 3) := by decide +kernel
theorem dL_law_821 : decode cL_law 821 = .ok (.aload_n 1, 1) := by decide +kernel
theorem dL_law_822 : decode cL_law 822 = .ok (.iconst 0, 1) := by decide +kernel
theorem dL_law_823 : decode cL_law 823 = .ok (.bipush 16, 2) := by decide +kernel
theorem dL_law_825 : decode cL_law 825 = .ok (.invokevirtual 52, 3) := by decide +kernel
theorem dL_law_828 : decode cL_law 828 = .ok (.iconst (-1), 1) := by decide +kernel
theorem dL_law_829 : decode cL_law 829 = .ok (.if_icmp .ne 59, 3) := by decide +kernel
theorem dL_law_832 : decode cL_law 832 = .ok (.aload_n 1, 1) := by decide +kernel
theorem dL_law_833 : decode cL_law 833 = .ok (.iconst (-1), 1) := by decide +kernel
theorem dL_law_834 : decode cL_law 834 = .ok (.invokevirtual 49, 3) := by decide +kernel
theorem dL_law_837 : decode cL_law 837 = .ok (.iconst (-1), 1) := by decide +kernel
theorem dL_law_838 : decode cL_law 838 = .ok (.if_icmp .ne 50, 3) := by decide +kernel
theorem dL_law_841 : decode cL_law 841 = .ok (.aload_n 1, 1) := by decide +kernel
theorem dL_law_842 : decode cL_law 842 = .ok (.iconst 3, 1) := by decide +kernel
theorem dL_law_843 : decode cL_law 843 = .ok (.iconst 1, 1) := by decide +kernel
theorem dL_law_844 : decode cL_law 844 = .ok (.invokevirtual 55, 3) := by decide +kernel
theorem dL_law_847 : decode cL_law 847 = .ok (.iconst (-1), 1) := by decide +kernel
theorem dL_law_848 : decode cL_law 848 = .ok (.if_icmp .ne 40, 3) := by decide +kernel
theorem dL_law_851 : decode cL_law 851 = .ok (.aload_n 1, 1) := by decide +kernel
theorem dL_law_852 : decode cL_law 852 = .ok (.iconst 1, 1) := by decide +kernel
theorem dL_law_853 : decode cL_law 853 = .ok (.bipush 41, 2) := by decide +kernel
theorem dL_law_855 : decode cL_law 855 = .ok (.invokevirtual 55, 3) := by decide +kernel
theorem dL_law_858 : decode cL_law 858 = .ok (.bipush (-2), 2) := by decide +kernel
theorem dL_law_860 : decode cL_law 860 = .ok (.if_icmp .ne 28, 3) := by decide +kernel
theorem dL_law_863 : decode cL_law 863 = .ok (.aload_n 1, 1) := by decide +kernel
theorem dL_law_864 : decode cL_law 864 = .ok (.bipush 16, 2) := by decide +kernel
theorem dL_law_866 : decode cL_law 866 = .ok (.invokevirtual 9, 3) := by decide +kernel
theorem dL_law_869 : decode cL_law 869 = .ok (.bipush (-2), 2) := by decide +kernel
theorem dL_law_871 : decode cL_law 871 = .ok (.if_icmp .ne 17, 3) := by decide +kernel
theorem dL_law_874 : decode cL_law 874 = .ok (.aload_n 1, 1) := by decide +kernel
theorem dL_law_875 : decode cL_law 875 = .ok (.iconst 2, 1) := by decide +kernel
theorem dL_law_876 : decode cL_law 876 = .ok (.invokevirtual 65, 3) := by decide +kernel
theorem dL_law_879 : decode cL_law 879 = .ok (.bipush (-2), 2) := by decide +kernel
theorem dL_law_881 : decode cL_law 881 = .ok (.if_icmp .ne 7, 3) := by decide +kernel
theorem dL_law_884 : decode cL_law 884 = .ok (.iconst 1, 1) := by decide +kernel
theorem dL_law_885 : decode cL_law 885 = .ok (.goto 4, 3) := by decide +kernel
theorem dL_law_888 : decode cL_law 888 = .ok (.iconst 0, 1) := by decide +kernel
theorem dL_law_889 : decode cL_law 889 = .ok (.ireturn, 1) := by decide +kernel
