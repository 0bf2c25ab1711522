theorem g3_34 : Cond.instanceMethod yX5_clear ∈ G := gm3 34 (by decide +kernel) rfl
theorem g3_35 : Cond.selects "HookHours$Slots" yX5_clear yX5_clear ∈ G := gm3 35 (by decide +kernel) rfl
theorem g3_36 : Cond.code yX5_clear cX5_clear 1 none ∈ G := gm3 36 (by decide +kernel) rfl
theorem g3_37 : Cond.methodLink "HookHoursLaw" 68 yX8_perform ∈ G := gm3 37 (by decide +kernel) rfl
theorem g3_38 : Cond.instanceMethod yX8_perform ∈ G := gm3 38 (by decide +kernel) rfl
theorem g3_39 : Cond.selects "HookHours" yX8_perform yX8_perform ∈ G := gm3 39 (by decide +kernel) rfl
theorem g3_40 : Cond.code yX8_perform cX8_perform 4 (some .int) ∈ G := gm3 40 (by decide +kernel) rfl
theorem g3_41 : Cond.methodLink "HookHours" 90 yX3_check ∈ G := gm3 41 (by decide +kernel) rfl
theorem g3_42 : Cond.instanceMethod yX3_check ∈ G := gm3 42 (by decide +kernel) rfl
theorem g3_43 : Cond.selects "HookHours$Plan" yX3_check yX3_check ∈ G := gm3 43 (by decide +kernel) rfl
theorem g3_44 : Cond.code yX3_check cX3_check 3 (some .int) ∈ G := gm3 44 (by decide +kernel) rfl
theorem g3_45 : Cond.methodLink "HookHours$Plan" 47 yX3_rewind ∈ G := gm3 45 (by decide +kernel) rfl
theorem g3_46 : Cond.instanceMethod yX3_rewind ∈ G := gm3 46 (by decide +kernel) rfl
theorem g3_47 : Cond.selects "HookHours$Plan" yX3_rewind yX3_rewind ∈ G := gm3 47 (by decide +kernel) rfl
theorem g3_48 : Cond.code yX3_rewind cX3_rewind 1 none ∈ G := gm3 48 (by decide +kernel) rfl
theorem g3_49 : Cond.methodLink "HookHours$Plan" 50 yX3_readNext ∈ G := gm3 49 (by decide +kernel) rfl
theorem g3_50 : Cond.instanceMethod yX3_readNext ∈ G := gm3 50 (by decide +kernel) rfl
theorem g3_51 : Cond.selects "HookHours$Plan" yX3_readNext yX3_readNext ∈ G := gm3 51 (by decide +kernel) rfl
theorem g3_52 : Cond.code yX3_readNext cX3_readNext 1 none ∈ G := gm3 52 (by decide +kernel) rfl
theorem g3_53 : Cond.methodLink "HookHours$Plan" 53 yX3_take ∈ G := gm3 53 (by decide +kernel) rfl
theorem g3_55 : Cond.instanceMethod yX3_take ∈ G := gm3 55 (by decide +kernel) rfl
theorem g3_56 : Cond.code yX3_take cX3_take 2 none ∈ G := gm3 56 (by decide +kernel) rfl
theorem g3_57 : Cond.methodLink "HookHours$Plan" 57 yX3_sign ∈ G := gm3 57 (by decide +kernel) rfl
theorem g3_59 : Cond.instanceMethod yX3_sign ∈ G := gm3 59 (by decide +kernel) rfl
theorem g3_60 : Cond.code yX3_sign cX3_sign 2 (some .int) ∈ G := gm3 60 (by decide +kernel) rfl
theorem g3_61 : Cond.methodLink "HookHours$Plan" 61 yX3_readBid ∈ G := gm3 61 (by decide +kernel) rfl
theorem g3_63 : Cond.instanceMethod yX3_readBid ∈ G := gm3 63 (by decide +kernel) rfl
theorem g3_64 : Cond.code yX3_readBid cX3_readBid 1 none ∈ G := gm3 64 (by decide +kernel) rfl
theorem g3_65 : Cond.methodLink "HookHours$Plan" 64 yX3_number ∈ G := gm3 65 (by decide +kernel) rfl
theorem g3_67 : Cond.instanceMethod yX3_number ∈ G := gm3 67 (by decide +kernel) rfl
theorem g3_68 : Cond.code yX3_number cX3_number 8 (some .int) ∈ G := gm3 68 (by decide +kernel) rfl
theorem g3_69 : Cond.methodLink "HookHours" 93 yX3_rewind ∈ G := gm3 69 (by decide +kernel) rfl
theorem g3_70 : Cond.methodLink "HookHours" 96 yX3_readNext ∈ G := gm3 70 (by decide +kernel) rfl
theorem g3_71 : Cond.methodLink "HookHours" 99 yX8_performed ∈ G := gm3 71 (by decide +kernel) rfl
theorem g3_73 : Cond.instanceMethod yX8_performed ∈ G := gm3 73 (by decide +kernel) rfl
theorem g3_74 : Cond.code yX8_performed cX8_performed 2 (some .int) ∈ G := gm3 74 (by decide +kernel) rfl
theorem g3_75 : Cond.methodLink "HookHoursLaw" 65 yX8_stopped ∈ G := gm3 75 (by decide +kernel) rfl
theorem g3_76 : Cond.instanceMethod yX8_stopped ∈ G := gm3 76 (by decide +kernel) rfl
theorem g3_77 : Cond.selects "HookHours" yX8_stopped yX8_stopped ∈ G := gm3 77 (by decide +kernel) rfl
theorem g3_78 : Cond.code yX8_stopped cX8_stopped 2 (some .int) ∈ G := gm3 78 (by decide +kernel) rfl
theorem g3_79 : Cond.methodLink "HookHoursLaw" 59 yX8_undo ∈ G := gm3 79 (by decide +kernel) rfl
theorem g3_80 : Cond.instanceMethod yX8_undo ∈ G := gm3 80 (by decide +kernel) rfl
theorem g3_81 : Cond.selects "HookHours" yX8_undo yX8_undo ∈ G := gm3 81 (by decide +kernel) rfl
theorem g3_82 : Cond.code yX8_undo cX8_undo 1 (some .int) ∈ G := gm3 82 (by decide +kernel) rfl
theorem g3_83 : Cond.methodLink "HookHours" 103 yX2_takeLatest ∈ G := gm3 83 (by decide +kernel) rfl
theorem g3_84 : Cond.instanceMethod yX2_takeLatest ∈ G := gm3 84 (by decide +kernel) rfl
theorem g3_85 : Cond.selects "HookHours$History" yX2_takeLatest yX2_takeLatest ∈ G := gm3 85 (by decide +kernel) rfl
theorem g3_86 : Cond.code yX2_takeLatest cX2_takeLatest 3 (some .boolean) ∈ G := gm3 86 (by decide +kernel) rfl
theorem g3_87 : Cond.methodLink "HookHours" 107 yX2_size ∈ G := gm3 87 (by decide +kernel) rfl
theorem g3_88 : Cond.instanceMethod yX2_size ∈ G := gm3 88 (by decide +kernel) rfl
theorem g3_89 : Cond.selects "HookHours$History" yX2_size yX2_size ∈ G := gm3 89 (by decide +kernel) rfl
theorem g3_90 : Cond.code yX2_size cX2_size 1 (some .int) ∈ G := gm3 90 (by decide +kernel) rfl
theorem g3_91 : Cond.methodLink "HookHoursLaw" 62 yX8_restore ∈ G := gm3 91 (by decide +kernel) rfl
theorem g3_92 : Cond.instanceMethod yX8_restore ∈ G := gm3 92 (by decide +kernel) rfl
theorem g3_93 : Cond.selects "HookHours" yX8_restore yX8_restore ∈ G := gm3 93 (by decide +kernel) rfl
theorem g3_94 : Cond.code yX8_restore cX8_restore 1 (some .int) ∈ G := gm3 94 (by decide +kernel) rfl
theorem g3_95 : Cond.methodLink "HookHours" 114 yX0_countAll ∈ G := gm3 95 (by decide +kernel) rfl
theorem g3_96 : Cond.methodLink "HookHoursLaw" 43 yX8_firm ∈ G := gm3 96 (by decide +kernel) rfl
theorem g3_97 : Cond.instanceMethod yX8_firm ∈ G := gm3 97 (by decide +kernel) rfl
theorem g3_98 : Cond.selects "HookHours" yX8_firm yX8_firm ∈ G := gm3 98 (by decide +kernel) rfl
theorem g3_99 : Cond.code yX8_firm cX8_firm 3 (some .int) ∈ G := gm3 99 (by decide +kernel) rfl
theorem g3_100 : Cond.methodLink "HookHours" 119 yX8_isFirm ∈ G := gm3 100 (by decide +kernel) rfl
theorem g3_101 : Cond.methodLink "HookHours" 139 yX0_offeredBy ∈ G := gm3 101 (by decide +kernel) rfl
theorem g3_102 : Cond.methodLink "HookHours" 142 yX0_countOf ∈ G := gm3 102 (by decide +kernel) rfl
theorem g3_103 : Cond.methodLink "HookHours" 145 yX6_openAwards ∈ G := gm3 103 (by decide +kernel) rfl
theorem g3_104 : Cond.instanceMethod yX6_openAwards ∈ G := gm3 104 (by decide +kernel) rfl
theorem g3_105 : Cond.selects "HookHours$State" yX6_openAwards yX6_openAwards ∈ G := gm3 105 (by decide +kernel) rfl
theorem g3_106 : Cond.code yX6_openAwards cX6_openAwards 6 (some .int) ∈ G := gm3 106 (by decide +kernel) rfl
theorem g3_107 : Cond.methodLink "HookHoursLaw" 46 yX8_slot ∈ G := gm3 107 (by decide +kernel) rfl
theorem g3_108 : Cond.instanceMethod yX8_slot ∈ G := gm3 108 (by decide +kernel) rfl
theorem g3_109 : Cond.selects "HookHours" yX8_slot yX8_slot ∈ G := gm3 109 (by decide +kernel) rfl
theorem g3_110 : Cond.code yX8_slot cX8_slot 5 (some .int) ∈ G := gm3 110 (by decide +kernel) rfl
theorem g3_111 : Cond.methodLink "HookHours" 157 yX8_isSlot ∈ G := gm3 111 (by decide +kernel) rfl
theorem g3_112 : Cond.methodLink "HookHours" 161 yX8_slotOf ∈ G := gm3 112 (by decide +kernel) rfl
theorem g3_113 : Cond.methodLink "HookHours" 168 yX5_ownerOf ∈ G := gm3 113 (by decide +kernel) rfl
theorem g3_114 : Cond.methodLink "HookHours" 179 yX0_countFor ∈ G := gm3 114 (by decide +kernel) rfl
theorem g3_115 : Cond.methodLink "HookHours" 182 yX0_highest ∈ G := gm3 115 (by decide +kernel) rfl
theorem g3_116 : Cond.methodLink "HookHours" 185 yX6_isOver ∈ G := gm3 116 (by decide +kernel) rfl
theorem g3_117 : Cond.methodLink "HookHoursLaw" 85 yX8_wouldCost ∈ G := gm3 117 (by decide +kernel) rfl
theorem g3_118 : Cond.instanceMethod yX8_wouldCost ∈ G := gm3 118 (by decide +kernel) rfl
theorem g3_119 : Cond.selects "HookHours" yX8_wouldCost yX8_wouldCost ∈ G := gm3 119 (by decide +kernel) rfl
theorem g3_120 : Cond.code yX8_wouldCost cX8_wouldCost 7 (some .int) ∈ G := gm3 120 (by decide +kernel) rfl
theorem g3_121 : Cond.methodLink "HookHours" 191 yX6_bidError ∈ G := gm3 121 (by decide +kernel) rfl
theorem g3_122 : Cond.methodLink "HookHours" 194 yX6_priceOf ∈ G := gm3 122 (by decide +kernel) rfl
theorem g3_123 : Cond.instanceMethod yX6_priceOf ∈ G := gm3 123 (by decide +kernel) rfl
theorem g3_124 : Cond.selects "HookHours$State" yX6_priceOf yX6_priceOf ∈ G := gm3 124 (by decide +kernel) rfl
theorem g3_125 : Cond.code yX6_priceOf cX6_priceOf 10 (some .int) ∈ G := gm3 125 (by decide +kernel) rfl
theorem g3_126 : Cond.methodLink "HookHoursLaw" 52 yX8_heaviest ∈ G := gm3 126 (by decide +kernel) rfl
theorem g3_127 : Cond.instanceMethod yX8_heaviest ∈ G := gm3 127 (by decide +kernel) rfl
theorem g3_128 : Cond.selects "HookHours" yX8_heaviest yX8_heaviest ∈ G := gm3 128 (by decide +kernel) rfl
theorem g3_129 : Cond.code yX8_heaviest cX8_heaviest 3 (some .int) ∈ G := gm3 129 (by decide +kernel) rfl
theorem g3_130 : Cond.methodLink "HookHours" 197 yX6_heaviestLift ∈ G := gm3 130 (by decide +kernel) rfl
theorem g3_131 : Cond.methodLink "HookHoursLaw" 49 yX8_wind ∈ G := gm3 131 (by decide +kernel) rfl
theorem g3_132 : Cond.instanceMethod yX8_wind ∈ G := gm3 132 (by decide +kernel) rfl
theorem g3_133 : Cond.selects "HookHours" yX8_wind yX8_wind ∈ G := gm3 133 (by decide +kernel) rfl
theorem g3_134 : Cond.code yX8_wind cX8_wind 2 (some .int) ∈ G := gm3 134 (by decide +kernel) rfl
theorem g3_135 : Cond.methodLink "HookHoursLaw" 55 yX8_cheapest ∈ G := gm3 135 (by decide +kernel) rfl
theorem g3_136 : Cond.instanceMethod yX8_cheapest ∈ G := gm3 136 (by decide +kernel) rfl
theorem g3_137 : Cond.selects "HookHours" yX8_cheapest yX8_cheapest ∈ G := gm3 137 (by decide +kernel) rfl
theorem g3_138 : Cond.code yX8_cheapest cX8_cheapest 3 (some .int) ∈ G := gm3 138 (by decide +kernel) rfl
theorem g3_139 : Cond.methodLink "HookHours" 212 yX8_isLift ∈ G := gm3 139 (by decide +kernel) rfl
theorem g3_140 : Cond.methodLink "HookHours" 215 yX6_cheapestHour ∈ G := gm3 140 (by decide +kernel) rfl
theorem g3_141 : Cond.instanceMethod yX6_cheapestHour ∈ G := gm3 141 (by decide +kernel) rfl
theorem g3_142 : Cond.selects "HookHours$State" yX6_cheapestHour yX6_cheapestHour ∈ G := gm3 142 (by decide +kernel) rfl
theorem g3_143 : Cond.code yX6_cheapestHour cX6_cheapestHour 7 (some .int) ∈ G := gm3 143 (by decide +kernel) rfl
theorem g3_144 : Cond.methodLink "HookHoursLaw" 9 yX8_count ∈ G := gm3 144 (by decide +kernel) rfl
theorem g3_145 : Cond.instanceMethod yX8_count ∈ G := gm3 145 (by decide +kernel) rfl
theorem g3_146 : Cond.selects "HookHours" yX8_count yX8_count ∈ G := gm3 146 (by decide +kernel) rfl
theorem g3_147 : Cond.code yX8_count cX8_count 2 (some .int) ∈ G := gm3 147 (by decide +kernel) rfl
theorem g3_148 : Cond.methodLink "HookHours" 218 yX4_sum ∈ G := gm3 148 (by decide +kernel) rfl
theorem g3_149 : Cond.static yX4_sum ∈ G := gm3 149 (by decide +kernel) rfl
theorem g3_150 : Cond.code yX4_sum cX4_sum 3 (some .int) ∈ G := gm3 150 (by decide +kernel) rfl
theorem g3_151 : Cond.methodLink "HookHours" 222 yX3_length ∈ G := gm3 151 (by decide +kernel) rfl
theorem g3_152 : Cond.instanceMethod yX3_length ∈ G := gm3 152 (by decide +kernel) rfl
theorem g3_153 : Cond.selects "HookHours$Plan" yX3_length yX3_length ∈ G := gm3 153 (by decide +kernel) rfl
theorem g3_154 : Cond.code yX3_length cX3_length 1 (some .int) ∈ G := gm3 154 (by decide +kernel) rfl
theorem g3_155 : Cond.methodLink "HookHours" 225 yX6_total ∈ G := gm3 155 (by decide +kernel) rfl
theorem g3_156 : Cond.instanceMethod yX6_total ∈ G := gm3 156 (by decide +kernel) rfl
theorem g3_157 : Cond.selects "HookHours$State" yX6_total yX6_total ∈ G := gm3 157 (by decide +kernel) rfl
theorem g3_158 : Cond.code yX6_total cX6_total 2 (some .int) ∈ G := gm3 158 (by decide +kernel) rfl
theorem g3_159 : Cond.methodLink "HookHours$State" 227 yX6_openAwards ∈ G := gm3 159 (by decide +kernel) rfl
theorem g3_160 : Cond.methodLink "HookHoursLaw" 71 yL_cell ∈ G := gm3 160 (by decide +kernel) rfl
theorem g3_161 : Cond.static yL_cell ∈ G := gm3 161 (by decide +kernel) rfl
theorem g3_162 : Cond.code yL_cell method_2_code 2 (some .int) ∈ G := gm3 162 (by decide +kernel) rfl
theorem g3_163 : Cond.constant "HookHoursLaw" 7 (42443 : Int32) ∈ G := gm3 163 (by decide +kernel) rfl
theorem g3_164 : Cond.constant "HookHoursLaw" 8 (2147483647 : Int32) ∈ G := gm3 164 (by decide +kernel) rfl
theorem g3_165 : Cond.methodLink "HookHoursLaw" 77 yL_acts ∈ G := gm3 165 (by decide +kernel) rfl
theorem g3_166 : Cond.static yL_acts ∈ G := gm3 166 (by decide +kernel) rfl
theorem g3_167 : Cond.code yL_acts method_3_code 6 (some .int) ∈ G := gm3 167 (by decide +kernel) rfl
theorem g3_168 : Cond.methodLink "HookHoursLaw" 81 yL_hangs ∈ G := gm3 168 (by decide +kernel) rfl
theorem g3_169 : Cond.static yL_hangs ∈ G := gm3 169 (by decide +kernel) rfl
theorem g3_170 : Cond.code yL_hangs method_4_code 20 (some .boolean) ∈ G := gm3 170 rfl rfl
theorem gS_0 : Cond.selects RX8 yX8_recorded yX8_recorded ∈ G := gmS 0 (by decide +kernel) rfl
theorem gS_1 : Cond.selects RX2 yX2_dropOldest yX2_dropOldest ∈ G := gmS 1 (by decide +kernel) rfl
theorem gS_2 : Cond.selects RX2 yX2_stateAt yX2_stateAt ∈ G := gmS 2 (by decide +kernel) rfl
theorem gS_3 : Cond.selects RX3 yX3_take yX3_take ∈ G := gmS 3 (by decide +kernel) rfl
theorem gS_4 : Cond.selects RX3 yX3_sign yX3_sign ∈ G := gmS 4 (by decide +kernel) rfl
theorem gS_5 : Cond.selects RX3 yX3_readBid yX3_readBid ∈ G := gmS 5 (by decide +kernel) rfl
theorem gS_6 : Cond.selects RX3 yX3_number yX3_number ∈ G := gmS 6 (by decide +kernel) rfl
theorem gS_7 : Cond.selects RX8 yX8_performed yX8_performed ∈ G := gmS 7 (by decide +kernel) rfl
theorem in_wsX00 : ∀ w ∈ wsX00, w ∈ G := by decide +kernel
theorem in_wsX10 : ∀ w ∈ wsX10, w ∈ G := by decide +kernel
theorem in_wsX20 : ∀ w ∈ wsX20, w ∈ G := by decide +kernel
theorem in_wsX30 : ∀ w ∈ wsX30, w ∈ G := by decide +kernel
theorem in_wsX40 : ∀ w ∈ wsX40, w ∈ G := by decide +kernel
theorem in_wsX50 : ∀ w ∈ wsX50, w ∈ G := by decide +kernel
theorem in_wsX60 : ∀ w ∈ wsX60, w ∈ G := by decide +kernel
theorem in_wsX70 : ∀ w ∈ wsX70, w ∈ G := by decide +kernel
theorem in_wsX80 : ∀ w ∈ wsX80, w ∈ G := by decide +kernel
theorem in_wsX90 : ∀ w ∈ wsX90, w ∈ G := by decide +kernel
/-- what is linked between nest mates -/
def nestW : List Cond := [Cond.methodLinkNest "HookHours$State" 27 yX0_init "HookHours", Cond.fieldLinkNest "HookHours$State" 210 "HookHours$Slots" "weights" "[I" "HookHours", Cond.fieldLinkNest "HookHours" 173 "HookHours$Slots" "weights" "[I" "HookHours", Cond.fieldLinkNest "HookHours$State" 174 "HookHours$Slots" "prices" "[I" "HookHours", Cond.fieldLinkNest "HookHours" 176 "HookHours$Slots" "prices" "[I" "HookHours", Cond.fieldLinkNest "HookHours$State" 218 "HookHours$Slots" "reasons" "[I" "HookHours", Cond.fieldLinkNest "HookHours" 188 "HookHours$Slots" "reasons" "[I" "HookHours", Cond.fieldLinkNest "HookHours$State" 93 "HookHours$Firms" "purses" "[I" "HookHours", Cond.fieldLinkNest "HookHours" 127 "HookHours$Firms" "purses" "[I" "HookHours", Cond.fieldLinkNest "HookHours$State" 202 "HookHours$Firms" "lifts" "[I" "HookHours", Cond.fieldLinkNest "HookHours" 148 "HookHours$Firms" "lifts" "[I" "HookHours", Cond.fieldLinkNest "HookHours" 151 "HookHours$Firms" "paid" "[I" "HookHours", Cond.fieldLinkNest "HookHours" 154 "HookHours$Firms" "traded" "[I" "HookHours", Cond.methodLinkNest "HookHours$State" 48 yX7_init "HookHours", Cond.fieldLinkNest "HookHours$State" 212 "HookHours$Totals" "without" "[I" "HookHours", Cond.fieldLinkNest "HookHours$State" 180 "HookHours$Totals" "yard" "I" "HookHours", Cond.fieldLinkNest "HookHours$State" 221 "HookHours$Totals" "refunds" "I" "HookHours", Cond.fieldLinkNest "HookHours$State" 116 "HookHours$Totals" "funded" "I" "HookHours", Cond.fieldLinkNest "HookHours$State" 193 "HookHours$Totals" "trades" "I" "HookHours", Cond.fieldLinkNest "HookHours$State" 205 "HookHours$Totals" "lifts" "I" "HookHours", Cond.fieldLinkNest "HookHours$State" 207 "HookHours$Totals" "weights" "I" "HookHours", Cond.fieldLinkNest "HookHours" 206 "HookHours$State" "expected" "[I" "HookHours", Cond.fieldLinkNest "HookHours" 203 "HookHours$State" "blown" "[I" "HookHours", Cond.fieldLinkNest "HookHours" 110 "HookHours$State" "bids" "LHookHours$Bids;" "HookHours", Cond.fieldLinkNest "HookHours" 164 "HookHours$State" "slots" "LHookHours$Slots;" "HookHours", Cond.fieldLinkNest "HookHours" 123 "HookHours$State" "firms" "LHookHours$Firms;" "HookHours", Cond.methodLinkNest "HookHours" 35 yX3_init "HookHours", Cond.fieldLinkNest "HookHours" 231 "HookHours$Plan" "kind" "I" "HookHours", Cond.fieldLinkNest "HookHours" 234 "HookHours$Plan" "firm" "I" "HookHours", Cond.fieldLinkNest "HookHours" 237 "HookHours$Plan" "crane" "I" "HookHours", Cond.fieldLinkNest "HookHours" 240 "HookHours$Plan" "hour" "I" "HookHours", Cond.fieldLinkNest "HookHours" 243 "HookHours$Plan" "weight" "I" "HookHours", Cond.fieldLinkNest "HookHours" 246 "HookHours$Plan" "coins" "I" "HookHours", Cond.fieldLinkNest "HookHours" 249 "HookHours$Plan" "wind" "I" "HookHours", Cond.methodLinkNest "HookHours$State" 100 yX8_isHour "HookHours", Cond.methodLinkNest "HookHours$State" 103 yX8_isWind "HookHours", Cond.methodLinkNest "HookHours$State" 110 yX8_isFirm "HookHours", Cond.methodLinkNest "HookHours$State" 119 yX8_isSlot "HookHours", Cond.methodLinkNest "HookHours$State" 123 yX8_isLift "HookHours", Cond.methodLinkNest "HookHours$State" 79 yX8_slotOf "HookHours", Cond.methodLinkNest "HookHours$State" 90 yX8_heaviestAt "HookHours"]
theorem nestW_tbl : ∀ w ∈ nestW, w ∈ lw_tbl := by
  intro w h
  simp only [nestW, List.mem_cons, List.not_mem_nil, or_false] at h
  rcases h with rfl | rfl | rfl | rfl | rfl | rfl | rfl | rfl | rfl | rfl | rfl | rfl | rfl | rfl | rfl | rfl | rfl | rfl | rfl | rfl | rfl | rfl | rfl | rfl | rfl | rfl | rfl | rfl | rfl | rfl | rfl | rfl | rfl | rfl | rfl | rfl | rfl | rfl | rfl | rfl | rfl
  · exact tm1 28 (by decide +kernel)
  · exact tm1 51 (by decide +kernel)
  · exact tm1 52 (by decide +kernel)
  · exact tm1 54 (by decide +kernel)
  · exact tm1 55 (by decide +kernel)
  · exact tm1 57 (by decide +kernel)
  · exact tm1 58 (by decide +kernel)
  · exact tm1 76 (by decide +kernel)
  · exact tm1 77 (by decide +kernel)
  · exact tm1 79 (by decide +kernel)
  · exact tm1 80 (by decide +kernel)
  · exact tm1 82 (by decide +kernel)
  · exact tm1 84 (by decide +kernel)
  · exact tm1 96 (by decide +kernel)
  · exact tm1 101 (by decide +kernel)
  · exact tm1 103 (by decide +kernel)
  · exact tm1 105 (by decide +kernel)
  · exact tm1 107 (by decide +kernel)
  · exact tm1 109 (by decide +kernel)
  · exact tm1 111 (by decide +kernel)
  · exact tm1 113 (by decide +kernel)
  · exact tm1 133 (by decide +kernel)
  · exact tm1 135 (by decide +kernel)
  · exact tm1 137 (by decide +kernel)
  · exact tm1 139 (by decide +kernel)
  · exact tm1 141 (by decide +kernel)
  · exact tm1 178 (by decide +kernel)
  · exact tm1 187 (by decide +kernel)
  · exact tm1 189 (by decide +kernel)
  · exact tm1 191 (by decide +kernel)
  · exact tm1 193 (by decide +kernel)
  · exact tm1 195 (by decide +kernel)
  · exact tm1 197 (by decide +kernel)
  · exact tm1 199 (by decide +kernel)
  · exact tm2 50 (by decide +kernel)
  · exact tm2 53 (by decide +kernel)
  · exact tm2 91 (by decide +kernel)
  · exact tm2 109 (by decide +kernel)
  · exact tm2 116 (by decide +kernel)
  · exact tm2 126 (by decide +kernel)
  · exact tm2 196 (by decide +kernel)
