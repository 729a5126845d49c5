theorem kX10_60 : Cond.methodLink "JoinRouter$Tokens" 60 mJ0_length_8abf5.1 ∈ lw_u := tb3 (List.mem_of_getElem? (i := 184) (by decide +kernel))
theorem kX10_65 : Cond.methodLink "JoinRouter$Tokens" 65 mJ0_charAt_5068e.1 ∈ lw_u := tb3 (List.mem_of_getElem? (i := 194) (by decide +kernel))
theorem kX10_69 : Cond.methodLink "JoinRouter$Tokens" 69 mX10_isSpelt.1 ∈ lw_u := tb3 (List.mem_of_getElem? (i := 232) (by decide +kernel))
theorem kL_7 : Cond.classLink "JoinRouterLaw" 7 "JoinRouter" ∈ lw_u := tb1 (List.mem_of_getElem? (i := 20) (by decide +kernel))
theorem kL_9 : Cond.methodLink "JoinRouterLaw" 9 mX11_init.1 ∈ lw_u := tb1 (List.mem_of_getElem? (i := 22) (by decide +kernel))
theorem kL_10 : Cond.classLink "JoinRouterLaw" 10 "JoinRouterModel" ∈ lw_u := tb5 (List.mem_of_getElem? (i := 76) (by decide +kernel))
theorem kL_12 : Cond.methodLink "JoinRouterLaw" 12 mX12_init.1 ∈ lw_u := tb5 (List.mem_of_getElem? (i := 78) (by decide +kernel))
theorem kL_13 : Cond.methodLink "JoinRouterLaw" 13 mX11_join.1 ∈ lw_u := tb2 (List.mem_of_getElem? (i := 151) (by decide +kernel))
theorem kL_17 : Cond.methodLink "JoinRouterLaw" 17 mX12_join.1 ∈ lw_u := tb6 (List.mem_of_getElem? (i := 110) (by decide +kernel))
theorem kL_18 : Cond.methodLink "JoinRouterLaw" 18 mX11_filter.1 ∈ lw_u := tb2 (List.mem_of_getElem? (i := 188) (by decide +kernel))
theorem kL_21 : Cond.methodLink "JoinRouterLaw" 21 mX12_filter.1 ∈ lw_u := tb6 (List.mem_of_getElem? (i := 139) (by decide +kernel))
theorem kL_22 : Cond.methodLink "JoinRouterLaw" 22 mX11_operator.1 ∈ lw_u := tb2 (List.mem_of_getElem? (i := 195) (by decide +kernel))
theorem kL_26 : Cond.methodLink "JoinRouterLaw" 26 mX12_operator.1 ∈ lw_u := tb6 (List.mem_of_getElem? (i := 144) (by decide +kernel))
theorem kL_27 : Cond.methodLink "JoinRouterLaw" 27 mX11_relation.1 ∈ lw_u := tb2 (List.mem_of_getElem? (i := 207) (by decide +kernel))
theorem kL_30 : Cond.methodLink "JoinRouterLaw" 30 mX12_relation.1 ∈ lw_u := tb6 (List.mem_of_getElem? (i := 153) (by decide +kernel))
theorem kL_31 : Cond.methodLink "JoinRouterLaw" 31 mX11_tuple.1 ∈ lw_u := tb2 (List.mem_of_getElem? (i := 223) (by decide +kernel))
theorem kL_35 : Cond.methodLink "JoinRouterLaw" 35 mX12_tuple.1 ∈ lw_u := tb6 (List.mem_of_getElem? (i := 157) (by decide +kernel))
theorem kL_36 : Cond.methodLink "JoinRouterLaw" 36 mX11_terms.1 ∈ lw_u := tb2 (List.mem_of_getElem? (i := 231) (by decide +kernel))
theorem kL_39 : Cond.methodLink "JoinRouterLaw" 39 mX12_terms.1 ∈ lw_u := tb6 (List.mem_of_getElem? (i := 164) (by decide +kernel))
theorem kL_40 : Cond.methodLink "JoinRouterLaw" 40 mX11_feed.1 ∈ lw_u := tb2 (List.mem_of_getElem? (i := 239) (by decide +kernel))
theorem kL_44 : Cond.methodLink "JoinRouterLaw" 44 mX12_feed.1 ∈ lw_u := tb7 (List.mem_of_getElem? (i := 52) (by decide +kernel))
theorem kL_45 : Cond.methodLink "JoinRouterLaw" 45 mX11_end.1 ∈ lw_u := tb3 (List.mem_of_getElem? (i := 7) (by decide +kernel))
theorem kL_49 : Cond.methodLink "JoinRouterLaw" 49 mX12_end.1 ∈ lw_u := tb7 (List.mem_of_getElem? (i := 60) (by decide +kernel))
theorem kL_50 : Cond.methodLink "JoinRouterLaw" 50 mX11_row.1 ∈ lw_u := tb3 (List.mem_of_getElem? (i := 11) (by decide +kernel))
theorem kL_54 : Cond.methodLink "JoinRouterLaw" 54 mX12_row.1 ∈ lw_u := tb6 (List.mem_of_getElem? (i := 174) (by decide +kernel))
theorem kL_55 : Cond.methodLink "JoinRouterLaw" 55 mX11_strays.1 ∈ lw_u := tb3 (List.mem_of_getElem? (i := 149) (by decide +kernel))
theorem kL_58 : Cond.methodLink "JoinRouterLaw" 58 mX12_strays.1 ∈ lw_u := tb7 (List.mem_of_getElem? (i := 48) (by decide +kernel))
theorem kL_59 : Cond.methodLink "JoinRouterLaw" 59 mX11_law.1 ∈ lw_u := tb3 (List.mem_of_getElem? (i := 153) (by decide +kernel))
theorem kL_62 : Cond.methodLink "JoinRouterLaw" 62 mX12_law.1 ∈ lw_u := tb7 (List.mem_of_getElem? (i := 68) (by decide +kernel))
theorem kL_63 : Cond.methodLink "JoinRouterLaw" 63 mX11_orders.1 ∈ lw_u := tb4 (List.mem_of_getElem? (i := 74) (by decide +kernel))
theorem kL_66 : Cond.methodLink "JoinRouterLaw" 66 mX12_orders.1 ∈ lw_u := tb8 (List.mem_of_getElem? (i := 64) (by decide +kernel))
theorem kL_67 : Cond.methodLink "JoinRouterLaw" 67 mX11_fault.1 ∈ lw_u := tb4 (List.mem_of_getElem? (i := 139) (by decide +kernel))
theorem kL_70 : Cond.methodLink "JoinRouterLaw" 70 mX12_fault.1 ∈ lw_u := tb7 (List.mem_of_getElem? (i := 64) (by decide +kernel))
theorem kL_71 : Cond.methodLink "JoinRouterLaw" 71 mX11_stopped.1 ∈ lw_u := tb4 (List.mem_of_getElem? (i := 143) (by decide +kernel))
theorem kL_74 : Cond.methodLink "JoinRouterLaw" 74 mX12_stopped.1 ∈ lw_u := tb8 (List.mem_of_getElem? (i := 103) (by decide +kernel))
theorem kL_75 : Cond.methodLink "JoinRouterLaw" 75 mX11_force.1 ∈ lw_u := tb4 (List.mem_of_getElem? (i := 147) (by decide +kernel))
theorem kL_78 : Cond.methodLink "JoinRouterLaw" 78 mX12_force.1 ∈ lw_u := tb7 (List.mem_of_getElem? (i := 188) (by decide +kernel))
theorem kL_79 : Cond.methodLink "JoinRouterLaw" 79 mX11_come.1 ∈ lw_u := tb4 (List.mem_of_getElem? (i := 155) (by decide +kernel))
theorem kL_82 : Cond.methodLink "JoinRouterLaw" 82 mX12_come.1 ∈ lw_u := tb7 (List.mem_of_getElem? (i := 196) (by decide +kernel))
theorem kL_83 : Cond.methodLink "JoinRouterLaw" 83 mX11_strike.1 ∈ lw_u := tb4 (List.mem_of_getElem? (i := 172) (by decide +kernel))
theorem kL_86 : Cond.methodLink "JoinRouterLaw" 86 mX12_strike.1 ∈ lw_u := tb7 (List.mem_of_getElem? (i := 200) (by decide +kernel))
theorem kL_87 : Cond.methodLink "JoinRouterLaw" 87 mX11_window.1 ∈ lw_u := tb4 (List.mem_of_getElem? (i := 176) (by decide +kernel))
theorem kL_90 : Cond.methodLink "JoinRouterLaw" 90 mX12_window.1 ∈ lw_u := tb7 (List.mem_of_getElem? (i := 208) (by decide +kernel))
theorem kL_91 : Cond.methodLink "JoinRouterLaw" 91 mX11_index.1 ∈ lw_u := tb4 (List.mem_of_getElem? (i := 180) (by decide +kernel))
theorem kL_94 : Cond.methodLink "JoinRouterLaw" 94 mX12_index.1 ∈ lw_u := tb7 (List.mem_of_getElem? (i := 216) (by decide +kernel))
theorem kL_95 : Cond.methodLink "JoinRouterLaw" 95 mX11_undo.1 ∈ lw_u := tb4 (List.mem_of_getElem? (i := 184) (by decide +kernel))
theorem kL_98 : Cond.methodLink "JoinRouterLaw" 98 mX12_undo.1 ∈ lw_u := tb6 (List.mem_of_getElem? (i := 87) (by decide +kernel))
theorem kL_99 : Cond.methodLink "JoinRouterLaw" 99 mX11_result.1 ∈ lw_u := tb4 (List.mem_of_getElem? (i := 192) (by decide +kernel))
theorem kL_102 : Cond.methodLink "JoinRouterLaw" 102 mX12_result.1 ∈ lw_u := tb7 (List.mem_of_getElem? (i := 224) (by decide +kernel))
theorem kL_103 : Cond.methodLink "JoinRouterLaw" 103 mX11_shut.1 ∈ lw_u := tb4 (List.mem_of_getElem? (i := 196) (by decide +kernel))
theorem kL_106 : Cond.methodLink "JoinRouterLaw" 106 mX12_shut.1 ∈ lw_u := tb7 (List.mem_of_getElem? (i := 229) (by decide +kernel))
theorem kL_107 : Cond.methodLink "JoinRouterLaw" 107 mX11_deepest.1 ∈ lw_u := tb4 (List.mem_of_getElem? (i := 200) (by decide +kernel))
theorem kL_110 : Cond.methodLink "JoinRouterLaw" 110 mX12_deepest.1 ∈ lw_u := tb7 (List.mem_of_getElem? (i := 233) (by decide +kernel))
theorem kL_111 : Cond.methodLink "JoinRouterLaw" 111 mX11_brings.1 ∈ lw_u := tb4 (List.mem_of_getElem? (i := 204) (by decide +kernel))
theorem kL_114 : Cond.methodLink "JoinRouterLaw" 114 mX12_brings.1 ∈ lw_u := tb7 (List.mem_of_getElem? (i := 237) (by decide +kernel))
theorem kL_115 : Cond.methodLink "JoinRouterLaw" 115 mX11_cheapest.1 ∈ lw_u := tb4 (List.mem_of_getElem? (i := 213) (by decide +kernel))
theorem kL_118 : Cond.methodLink "JoinRouterLaw" 118 mX12_cheapest.1 ∈ lw_u := tb8 (List.mem_of_getElem? (i := 6) (by decide +kernel))
theorem kL_119 : Cond.methodLink "JoinRouterLaw" 119 mX11_regret.1 ∈ lw_u := tb4 (List.mem_of_getElem? (i := 228) (by decide +kernel))
theorem kL_122 : Cond.methodLink "JoinRouterLaw" 122 mX12_regret.1 ∈ lw_u := tb8 (List.mem_of_getElem? (i := 18) (by decide +kernel))
theorem kL_123 : Cond.methodLink "JoinRouterLaw" 123 mX11_bestIndex.1 ∈ lw_u := tb4 (List.mem_of_getElem? (i := 232) (by decide +kernel))
theorem kL_126 : Cond.methodLink "JoinRouterLaw" 126 mX12_bestIndex.1 ∈ lw_u := tb8 (List.mem_of_getElem? (i := 22) (by decide +kernel))
theorem kL_127 : Cond.methodLink "JoinRouterLaw" 127 mX11_seen.1 ∈ lw_u := tb4 (List.mem_of_getElem? (i := 236) (by decide +kernel))
theorem kL_130 : Cond.methodLink "JoinRouterLaw" 130 mX12_seen.1 ∈ lw_u := tb8 (List.mem_of_getElem? (i := 30) (by decide +kernel))
theorem kL_131 : Cond.methodLink "JoinRouterLaw" 131 mX11_forget.1 ∈ lw_u := tb5 (List.mem_of_getElem? (i := 0) (by decide +kernel))
theorem kL_134 : Cond.methodLink "JoinRouterLaw" 134 mX12_forget.1 ∈ lw_u := tb8 (List.mem_of_getElem? (i := 34) (by decide +kernel))
theorem kL_135 : Cond.methodLink "JoinRouterLaw" 135 mX11_canBe.1 ∈ lw_u := tb5 (List.mem_of_getElem? (i := 4) (by decide +kernel))
theorem kL_138 : Cond.methodLink "JoinRouterLaw" 138 mX12_canBe.1 ∈ lw_u := tb8 (List.mem_of_getElem? (i := 38) (by decide +kernel))
theorem kL_139 : Cond.methodLink "JoinRouterLaw" 139 mX11_ask.1 ∈ lw_u := tb5 (List.mem_of_getElem? (i := 17) (by decide +kernel))
theorem kL_142 : Cond.methodLink "JoinRouterLaw" 142 mX12_ask.1 ∈ lw_u := tb8 (List.mem_of_getElem? (i := 50) (by decide +kernel))
theorem kL_143 : Cond.methodLink "JoinRouterLaw" 143 mX11_few.1 ∈ lw_u := tb5 (List.mem_of_getElem? (i := 27) (by decide +kernel))
theorem kL_147 : Cond.methodLink "JoinRouterLaw" 147 mX12_few.1 ∈ lw_u := tb8 (List.mem_of_getElem? (i := 58) (by decide +kernel))
theorem kL_148 : Cond.methodLink "JoinRouterLaw" 148 mX11_compare.1 ∈ lw_u := tb5 (List.mem_of_getElem? (i := 34) (by decide +kernel))
theorem kL_151 : Cond.methodLink "JoinRouterLaw" 151 mX12_compare.1 ∈ lw_u := tb8 (List.mem_of_getElem? (i := 26) (by decide +kernel))
theorem kL_152 : Cond.methodLink "JoinRouterLaw" 152 mX11_days.1 ∈ lw_u := tb5 (List.mem_of_getElem? (i := 38) (by decide +kernel))
theorem kL_155 : Cond.methodLink "JoinRouterLaw" 155 mX12_days.1 ∈ lw_u := tb8 (List.mem_of_getElem? (i := 107) (by decide +kernel))
theorem kL_156 : Cond.methodLink "JoinRouterLaw" 156 mX11_drawn.1 ∈ lw_u := tb5 (List.mem_of_getElem? (i := 50) (by decide +kernel))
theorem kL_159 : Cond.methodLink "JoinRouterLaw" 159 mX12_drawn.1 ∈ lw_u := tb8 (List.mem_of_getElem? (i := 119) (by decide +kernel))
theorem kL_160 : Cond.methodLink "JoinRouterLaw" 160 mX11_image.1 ∈ lw_u := tb5 (List.mem_of_getElem? (i := 54) (by decide +kernel))
theorem kL_163 : Cond.methodLink "JoinRouterLaw" 163 mX12_image.1 ∈ lw_u := tb6 (List.mem_of_getElem? (i := 99) (by decide +kernel))
theorem kL_164 : Cond.methodLink "JoinRouterLaw" 164 mX11_back.1 ∈ lw_u := tb5 (List.mem_of_getElem? (i := 64) (by decide +kernel))
theorem kL_167 : Cond.methodLink "JoinRouterLaw" 167 mX12_back.1 ∈ lw_u := tb6 (List.mem_of_getElem? (i := 106) (by decide +kernel))
theorem kL_168 : Cond.methodLink "JoinRouterLaw" 168 mX11_count.1 ∈ lw_u := tb5 (List.mem_of_getElem? (i := 68) (by decide +kernel))
theorem kL_171 : Cond.methodLink "JoinRouterLaw" 171 mX12_count.1 ∈ lw_u := tb8 (List.mem_of_getElem? (i := 123) (by decide +kernel))
theorem kL_172 : Cond.methodLink "JoinRouterLaw" 172 mX11_status.1 ∈ lw_u := tb5 (List.mem_of_getElem? (i := 72) (by decide +kernel))
theorem kL_175 : Cond.methodLink "JoinRouterLaw" 175 mX12_status.1 ∈ lw_u := tb8 (List.mem_of_getElem? (i := 129) (by decide +kernel))
theorem kX12_1 : Cond.methodLink "JoinRouterModel" 1 objectInit ∈ lw_u := tb5 (List.mem_of_getElem? (i := 81) (by decide +kernel))
theorem kX12_7 : pFL "JoinRouterModel" 7 12 2 := ⟨by decide, by decide, tb5 (List.mem_of_getElem? (i := 103) (by decide +kernel))⟩
theorem kX12_13 : pFL "JoinRouterModel" 13 12 3 := ⟨by decide, by decide, tb5 (List.mem_of_getElem? (i := 104) (by decide +kernel))⟩
theorem kX12_16 : pFL "JoinRouterModel" 16 12 4 := ⟨by decide, by decide, tb5 (List.mem_of_getElem? (i := 105) (by decide +kernel))⟩
theorem kX12_19 : pFL "JoinRouterModel" 19 12 5 := ⟨by decide, by decide, tb5 (List.mem_of_getElem? (i := 106) (by decide +kernel))⟩
theorem kX12_23 : pFL "JoinRouterModel" 23 12 6 := ⟨by decide, by decide, tb5 (List.mem_of_getElem? (i := 107) (by decide +kernel))⟩
theorem kX12_26 : pFL "JoinRouterModel" 26 12 7 := ⟨by decide, by decide, tb5 (List.mem_of_getElem? (i := 108) (by decide +kernel))⟩
theorem kX12_29 : pFL "JoinRouterModel" 29 12 9 := ⟨by decide, by decide, tb5 (List.mem_of_getElem? (i := 110) (by decide +kernel))⟩
theorem kX12_32 : pFL "JoinRouterModel" 32 12 10 := ⟨by decide, by decide, tb5 (List.mem_of_getElem? (i := 111) (by decide +kernel))⟩
theorem kX12_35 : pFL "JoinRouterModel" 35 12 12 := ⟨by decide, by decide, tb5 (List.mem_of_getElem? (i := 113) (by decide +kernel))⟩
theorem kX12_38 : pFL "JoinRouterModel" 38 12 18 := ⟨by decide, by decide, tb5 (List.mem_of_getElem? (i := 119) (by decide +kernel))⟩
theorem kX12_42 : pFL "JoinRouterModel" 42 12 22 := ⟨by decide, by decide, tb5 (List.mem_of_getElem? (i := 123) (by decide +kernel))⟩
theorem kX12_45 : pFL "JoinRouterModel" 45 12 24 := ⟨by decide, by decide, tb5 (List.mem_of_getElem? (i := 125) (by decide +kernel))⟩
theorem kX12_48 : pFL "JoinRouterModel" 48 12 25 := ⟨by decide, by decide, tb5 (List.mem_of_getElem? (i := 126) (by decide +kernel))⟩
theorem kX12_51 : pFL "JoinRouterModel" 51 12 27 := ⟨by decide, by decide, tb5 (List.mem_of_getElem? (i := 128) (by decide +kernel))⟩
theorem kX12_54 : pFL "JoinRouterModel" 54 12 28 := ⟨by decide, by decide, tb5 (List.mem_of_getElem? (i := 129) (by decide +kernel))⟩
theorem kX12_57 : Cond.constantLong "JoinRouterModel" 57 496 ∈ lw_u := tb5 (List.mem_of_getElem? (i := 82) (by decide +kernel))
theorem kX12_59 : Cond.constantLong "JoinRouterModel" 59 624248366574 ∈ lw_u := tb5 (List.mem_of_getElem? (i := 83) (by decide +kernel))
theorem kX12_61 : Cond.constantLong "JoinRouterModel" 61 2 ∈ lw_u := tb5 (List.mem_of_getElem? (i := 84) (by decide +kernel))
theorem kX12_63 : Cond.constantLong "JoinRouterModel" 63 632645 ∈ lw_u := tb5 (List.mem_of_getElem? (i := 85) (by decide +kernel))
theorem kX12_65 : Cond.constantLong "JoinRouterModel" 65 21780338323 ∈ lw_u := tb5 (List.mem_of_getElem? (i := 86) (by decide +kernel))
theorem kX12_67 : Cond.constantLong "JoinRouterModel" 67 13683059 ∈ lw_u := tb5 (List.mem_of_getElem? (i := 87) (by decide +kernel))
theorem kX12_69 : Cond.constantLong "JoinRouterModel" 69 20579760 ∈ lw_u := tb5 (List.mem_of_getElem? (i := 88) (by decide +kernel))
theorem kX12_71 : Cond.constantLong "JoinRouterModel" 71 441828 ∈ lw_u := tb5 (List.mem_of_getElem? (i := 89) (by decide +kernel))
theorem kX12_73 : pFL "JoinRouterModel" 73 12 31 := ⟨by decide, by decide, tb5 (List.mem_of_getElem? (i := 132) (by decide +kernel))⟩
theorem kX12_77 : Cond.constantLong "JoinRouterModel" 77 146885 ∈ lw_u := tb5 (List.mem_of_getElem? (i := 90) (by decide +kernel))
theorem kX12_79 : Cond.constantLong "JoinRouterModel" 79 404362868 ∈ lw_u := tb5 (List.mem_of_getElem? (i := 91) (by decide +kernel))
theorem kX12_81 : Cond.constantLong "JoinRouterModel" 81 19515749011 ∈ lw_u := tb5 (List.mem_of_getElem? (i := 92) (by decide +kernel))
theorem kX12_83 : Cond.constantLong "JoinRouterModel" 83 17048404639315 ∈ lw_u := tb5 (List.mem_of_getElem? (i := 93) (by decide +kernel))
theorem kX12_85 : Cond.constantLong "JoinRouterModel" 85 267652 ∈ lw_u := tb5 (List.mem_of_getElem? (i := 94) (by decide +kernel))
theorem kX12_87 : pFL "JoinRouterModel" 87 12 32 := ⟨by decide, by decide, tb5 (List.mem_of_getElem? (i := 133) (by decide +kernel))⟩
theorem kX12_90 : Cond.constantLong "JoinRouterModel" 90 3657363 ∈ lw_u := tb5 (List.mem_of_getElem? (i := 95) (by decide +kernel))
theorem kX12_92 : Cond.constantLong "JoinRouterModel" 92 67155 ∈ lw_u := tb5 (List.mem_of_getElem? (i := 96) (by decide +kernel))
theorem kX12_94 : pFL "JoinRouterModel" 94 12 33 := ⟨by decide, by decide, tb5 (List.mem_of_getElem? (i := 134) (by decide +kernel))⟩
theorem kX12_97 : pFL "JoinRouterModel" 97 12 35 := ⟨by decide, by decide, tb5 (List.mem_of_getElem? (i := 136) (by decide +kernel))⟩
theorem kX12_100 : pFL "JoinRouterModel" 100 12 36 := ⟨by decide, by decide, tb5 (List.mem_of_getElem? (i := 137) (by decide +kernel))⟩
theorem kX12_103 : pFL "JoinRouterModel" 103 12 37 := ⟨by decide, by decide, tb5 (List.mem_of_getElem? (i := 138) (by decide +kernel))⟩
theorem kX12_106 : pFL "JoinRouterModel" 106 12 41 := ⟨by decide, by decide, tb5 (List.mem_of_getElem? (i := 142) (by decide +kernel))⟩
theorem kX12_109 : pFL "JoinRouterModel" 109 12 42 := ⟨by decide, by decide, tb5 (List.mem_of_getElem? (i := 143) (by decide +kernel))⟩
theorem kX12_112 : pFL "JoinRouterModel" 112 12 43 := ⟨by decide, by decide, tb5 (List.mem_of_getElem? (i := 144) (by decide +kernel))⟩
theorem kX12_115 : pFL "JoinRouterModel" 115 12 44 := ⟨by decide, by decide, tb5 (List.mem_of_getElem? (i := 145) (by decide +kernel))⟩
theorem kX12_118 : pFL "JoinRouterModel" 118 12 45 := ⟨by decide, by decide, tb5 (List.mem_of_getElem? (i := 146) (by decide +kernel))⟩
theorem kX12_121 : pFL "JoinRouterModel" 121 12 46 := ⟨by decide, by decide, tb5 (List.mem_of_getElem? (i := 147) (by decide +kernel))⟩
theorem kX12_124 : pFL "JoinRouterModel" 124 12 48 := ⟨by decide, by decide, tb5 (List.mem_of_getElem? (i := 149) (by decide +kernel))⟩
theorem kX12_127 : pFL "JoinRouterModel" 127 12 54 := ⟨by decide, by decide, tb5 (List.mem_of_getElem? (i := 155) (by decide +kernel))⟩
theorem kX12_130 : pFL "JoinRouterModel" 130 12 55 := ⟨by decide, by decide, tb5 (List.mem_of_getElem? (i := 156) (by decide +kernel))⟩
theorem kX12_133 : pFL "JoinRouterModel" 133 12 57 := ⟨by decide, by decide, tb5 (List.mem_of_getElem? (i := 158) (by decide +kernel))⟩
theorem kX12_136 : pFL "JoinRouterModel" 136 12 58 := ⟨by decide, by decide, tb5 (List.mem_of_getElem? (i := 159) (by decide +kernel))⟩
theorem kX12_139 : pFL "JoinRouterModel" 139 12 60 := ⟨by decide, by decide, tb5 (List.mem_of_getElem? (i := 161) (by decide +kernel))⟩
theorem kX12_142 : pFL "JoinRouterModel" 142 12 63 := ⟨by decide, by decide, tb5 (List.mem_of_getElem? (i := 164) (by decide +kernel))⟩
theorem kX12_145 : pFL "JoinRouterModel" 145 12 64 := ⟨by decide, by decide, tb5 (List.mem_of_getElem? (i := 165) (by decide +kernel))⟩
theorem kX12_148 : pFL "JoinRouterModel" 148 12 65 := ⟨by decide, by decide, tb5 (List.mem_of_getElem? (i := 166) (by decide +kernel))⟩
theorem kX12_151 : Cond.constantLong "JoinRouterModel" 151 114085 ∈ lw_u := tb5 (List.mem_of_getElem? (i := 97) (by decide +kernel))
theorem kX12_153 : Cond.constantLong "JoinRouterModel" 153 659105125 ∈ lw_u := tb5 (List.mem_of_getElem? (i := 98) (by decide +kernel))
theorem kX12_155 : Cond.constantLong "JoinRouterModel" 155 781652471 ∈ lw_u := tb5 (List.mem_of_getElem? (i := 99) (by decide +kernel))
theorem kX12_157 : Cond.constantLong "JoinRouterModel" 157 9900216 ∈ lw_u := tb5 (List.mem_of_getElem? (i := 100) (by decide +kernel))
theorem kX12_159 : pFL "JoinRouterModel" 159 12 66 := ⟨by decide, by decide, tb5 (List.mem_of_getElem? (i := 167) (by decide +kernel))⟩
theorem kX12_162 : pFL "JoinRouterModel" 162 12 67 := ⟨by decide, by decide, tb5 (List.mem_of_getElem? (i := 168) (by decide +kernel))⟩
theorem kX12_165 : pFL "JoinRouterModel" 165 12 70 := ⟨by decide, by decide, tb5 (List.mem_of_getElem? (i := 171) (by decide +kernel))⟩
theorem kX12_168 : pFL "JoinRouterModel" 168 12 73 := ⟨by decide, by decide, tb5 (List.mem_of_getElem? (i := 174) (by decide +kernel))⟩
theorem kX12_171 : pFL "JoinRouterModel" 171 12 74 := ⟨by decide, by decide, tb5 (List.mem_of_getElem? (i := 175) (by decide +kernel))⟩
theorem kX12_174 : pFL "JoinRouterModel" 174 12 0 := ⟨by decide, by decide, tb5 (List.mem_of_getElem? (i := 101) (by decide +kernel))⟩
theorem kX12_177 : pFL "JoinRouterModel" 177 12 1 := ⟨by decide, by decide, tb5 (List.mem_of_getElem? (i := 102) (by decide +kernel))⟩
theorem kX12_180 : pFL "JoinRouterModel" 180 12 8 := ⟨by decide, by decide, tb5 (List.mem_of_getElem? (i := 109) (by decide +kernel))⟩
theorem kX12_183 : Cond.methodLink "JoinRouterModel" 183 mX12_keepAll.1 ∈ lw_u := tb6 (List.mem_of_getElem? (i := 128) (by decide +kernel))
theorem kX12_187 : Cond.methodLink "JoinRouterModel" 187 mX12_rememberTried.1 ∈ lw_u := tb6 (List.mem_of_getElem? (i := 132) (by decide +kernel))
theorem kX12_190 : Cond.methodLink "JoinRouterModel" 190 mX12_tell.1 ∈ lw_u := tb6 (List.mem_of_getElem? (i := 91) (by decide +kernel))
theorem kX12_194 : Cond.methodLink "JoinRouterModel" 194 mX12_putBack.1 ∈ lw_u := tb6 (List.mem_of_getElem? (i := 95) (by decide +kernel))
theorem kX12_197 : Cond.methodLink "JoinRouterModel" 197 mX12_in.1 ∈ lw_u := tb6 (List.mem_of_getElem? (i := 103) (by decide +kernel))
theorem kX12_201 : Cond.methodLink "JoinRouterModel" 201 mX12_isRelation.1 ∈ lw_u := tb6 (List.mem_of_getElem? (i := 114) (by decide +kernel))
theorem kX12_205 : Cond.constantLong "JoinRouterModel" 205 9 ∈ lw_u := tb6 (List.mem_of_getElem? (i := 143) (by decide +kernel))
theorem kX12_207 : Cond.methodLink "JoinRouterModel" 207 mX12_remember.1 ∈ lw_u := tb6 (List.mem_of_getElem? (i := 124) (by decide +kernel))
theorem kX12_210 : Cond.methodLink "JoinRouterModel" 210 mX12_operatorAt.1 ∈ lw_u := tb6 (List.mem_of_getElem? (i := 136) (by decide +kernel))
theorem kX12_213 : Cond.methodLink "JoinRouterModel" 213 mX12_isField.1 ∈ lw_u := tb6 (List.mem_of_getElem? (i := 117) (by decide +kernel))
theorem kX12_216 : Cond.methodLink "JoinRouterModel" 216 mX12_newOperator.1 ∈ lw_u := tb6 (List.mem_of_getElem? (i := 120) (by decide +kernel))
theorem kX12_220 : Cond.methodLink "JoinRouterModel" 220 mX12_isOperator.1 ∈ lw_u := tb6 (List.mem_of_getElem? (i := 148) (by decide +kernel))
theorem kX12_223 : Cond.constantLong "JoinRouterModel" 223 5 ∈ lw_u := tb6 (List.mem_of_getElem? (i := 152) (by decide +kernel))
theorem kX12_225 : Cond.methodLink "JoinRouterModel" 225 mX12_tupleAt.1 ∈ lw_u := tb6 (List.mem_of_getElem? (i := 161) (by decide +kernel))
theorem kX12_229 : Cond.constantLong "JoinRouterModel" 229 999 ∈ lw_u := tb6 (List.mem_of_getElem? (i := 168) (by decide +kernel))
theorem kX12_231 : Cond.constantLong "JoinRouterModel" 231 10 ∈ lw_u := tb6 (List.mem_of_getElem? (i := 169) (by decide +kernel))
theorem kX12_233 : Cond.methodLink "JoinRouterModel" 233 mX12_change.1 ∈ lw_u := tb6 (List.mem_of_getElem? (i := 170) (by decide +kernel))
theorem kX12_236 : pFL "JoinRouterModel" 236 12 13 := ⟨by decide, by decide, tb5 (List.mem_of_getElem? (i := 114) (by decide +kernel))⟩
theorem kX12_239 : pFL "JoinRouterModel" 239 12 11 := ⟨by decide, by decide, tb5 (List.mem_of_getElem? (i := 112) (by decide +kernel))⟩
theorem kX12_242 : Cond.methodLink "JoinRouterModel" 242 mX12_comeNow.1 ∈ lw_u := tb6 (List.mem_of_getElem? (i := 178) (by decide +kernel))
theorem kX12_246 : Cond.methodLink "JoinRouterModel" 246 mX12_four.1 ∈ lw_u := tb7 (List.mem_of_getElem? (i := 56) (by decide +kernel))
theorem kX12_249 : pFL "JoinRouterModel" 249 12 15 := ⟨by decide, by decide, tb5 (List.mem_of_getElem? (i := 116) (by decide +kernel))⟩
theorem kX12_252 : pFL "JoinRouterModel" 252 12 19 := ⟨by decide, by decide, tb5 (List.mem_of_getElem? (i := 120) (by decide +kernel))⟩
theorem kX12_256 : Cond.methodLink "JoinRouterModel" 256 mX12_next.1 ∈ lw_u := tb7 (List.mem_of_getElem? (i := 80) (by decide +kernel))
theorem kX12_259 : pFL "JoinRouterModel" 259 12 14 := ⟨by decide, by decide, tb5 (List.mem_of_getElem? (i := 115) (by decide +kernel))⟩
theorem kX12_262 : pFL "JoinRouterModel" 262 12 17 := ⟨by decide, by decide, tb5 (List.mem_of_getElem? (i := 118) (by decide +kernel))⟩
theorem kX12_266 : Cond.methodLink "JoinRouterModel" 266 mX12_isSmall.1 ∈ lw_u := tb7 (List.mem_of_getElem? (i := 84) (by decide +kernel))
theorem kX12_269 : Cond.methodLink "JoinRouterModel" 269 mX12_isDigit.1 ∈ lw_u := tb7 (List.mem_of_getElem? (i := 87) (by decide +kernel))
theorem kX12_272 : pFL "JoinRouterModel" 272 12 16 := ⟨by decide, by decide, tb5 (List.mem_of_getElem? (i := 117) (by decide +kernel))⟩
theorem kX12_275 : Cond.constantLong "JoinRouterModel" 275 32 ∈ lw_u := tb7 (List.mem_of_getElem? (i := 90) (by decide +kernel))
theorem kX12_277 : Cond.constantLong "JoinRouterModel" 277 96 ∈ lw_u := tb7 (List.mem_of_getElem? (i := 91) (by decide +kernel))
theorem kX12_279 : Cond.constantLong "JoinRouterModel" 279 (-1) ∈ lw_u := tb7 (List.mem_of_getElem? (i := 92) (by decide +kernel))
theorem kX12_281 : Cond.constantLong "JoinRouterModel" 281 1000000 ∈ lw_u := tb7 (List.mem_of_getElem? (i := 93) (by decide +kernel))
theorem kX12_283 : Cond.constantLong "JoinRouterModel" 283 48 ∈ lw_u := tb7 (List.mem_of_getElem? (i := 94) (by decide +kernel))
theorem kX12_285 : Cond.methodLink "JoinRouterModel" 285 mX12_must.1 ∈ lw_u := tb7 (List.mem_of_getElem? (i := 103) (by decide +kernel))
theorem kX12_289 : pFL "JoinRouterModel" 289 12 23 := ⟨by decide, by decide, tb5 (List.mem_of_getElem? (i := 124) (by decide +kernel))⟩
theorem kX12_292 : pFL "JoinRouterModel" 292 12 29 := ⟨by decide, by decide, tb5 (List.mem_of_getElem? (i := 130) (by decide +kernel))⟩
theorem kX12_295 : Cond.methodLink "JoinRouterModel" 295 mX12_binds.1 ∈ lw_u := tb7 (List.mem_of_getElem? (i := 158) (by decide +kernel))
theorem kX12_298 : Cond.methodLink "JoinRouterModel" 298 mX12_emit.1 ∈ lw_u := tb7 (List.mem_of_getElem? (i := 145) (by decide +kernel))
theorem kX12_302 : Cond.constantLong "JoinRouterModel" 302 20 ∈ lw_u := tb7 (List.mem_of_getElem? (i := 173) (by decide +kernel))
theorem kX12_304 : Cond.constantLong "JoinRouterModel" 304 24 ∈ lw_u := tb7 (List.mem_of_getElem? (i := 174) (by decide +kernel))
theorem kX12_306 : Cond.constantLong "JoinRouterModel" 306 25 ∈ lw_u := tb7 (List.mem_of_getElem? (i := 175) (by decide +kernel))
theorem kX12_308 : Cond.constantLong "JoinRouterModel" 308 27 ∈ lw_u := tb7 (List.mem_of_getElem? (i := 176) (by decide +kernel))
theorem kX12_310 : Cond.methodLink "JoinRouterModel" 310 mX12_isWord.1 ∈ lw_u := tb7 (List.mem_of_getElem? (i := 99) (by decide +kernel))
theorem kX12_314 : pFL "JoinRouterModel" 314 12 30 := ⟨by decide, by decide, tb5 (List.mem_of_getElem? (i := 131) (by decide +kernel))⟩
theorem kX12_317 : Cond.methodLink "JoinRouterModel" 317 mX12_push.1 ∈ lw_u := tb7 (List.mem_of_getElem? (i := 116) (by decide +kernel))
theorem kX12_320 : pFL "JoinRouterModel" 320 12 26 := ⟨by decide, by decide, tb5 (List.mem_of_getElem? (i := 127) (by decide +kernel))⟩
theorem kX12_323 : Cond.methodLink "JoinRouterModel" 323 mX12_isSign.1 ∈ lw_u := tb7 (List.mem_of_getElem? (i := 120) (by decide +kernel))
theorem kX12_326 : Cond.methodLink "JoinRouterModel" 326 mX12_openBracket.1 ∈ lw_u := tb7 (List.mem_of_getElem? (i := 124) (by decide +kernel))
theorem kX12_329 : pFL "JoinRouterModel" 329 12 20 := ⟨by decide, by decide, tb5 (List.mem_of_getElem? (i := 121) (by decide +kernel))⟩
theorem kX12_332 : Cond.methodLink "JoinRouterModel" 332 mX12_orderPartAt.1 ∈ lw_u := tb7 (List.mem_of_getElem? (i := 132) (by decide +kernel))
theorem kX12_336 : Cond.methodLink "JoinRouterModel" 336 mX12_partAt.1 ∈ lw_u := tb7 (List.mem_of_getElem? (i := 136) (by decide +kernel))
theorem kX12_339 : Cond.constantLong "JoinRouterModel" 339 1000 ∈ lw_u := tb7 (List.mem_of_getElem? (i := 140) (by decide +kernel))
theorem kX12_341 : Cond.methodLink "JoinRouterModel" 341 mX12_leaf.1 ∈ lw_u := tb7 (List.mem_of_getElem? (i := 141) (by decide +kernel))
theorem kX12_345 : Cond.constantLong "JoinRouterModel" 345 3 ∈ lw_u := tb7 (List.mem_of_getElem? (i := 149) (by decide +kernel))
theorem kX12_347 : Cond.methodLink "JoinRouterModel" 347 mX12_number.1 ∈ lw_u := tb7 (List.mem_of_getElem? (i := 150) (by decide +kernel))
theorem kX12_351 : Cond.constantLong "JoinRouterModel" 351 14836 ∈ lw_u := tb7 (List.mem_of_getElem? (i := 115) (by decide +kernel))
theorem kX12_353 : Cond.methodLink "JoinRouterModel" 353 mX12_readPart.1 ∈ lw_u := tb7 (List.mem_of_getElem? (i := 128) (by decide +kernel))
theorem kX12_356 : Cond.methodLink "JoinRouterModel" 356 mX12_settle.1 ∈ lw_u := tb7 (List.mem_of_getElem? (i := 161) (by decide +kernel))
theorem kX12_359 : Cond.methodLink "JoinRouterModel" 359 mX12_inner.1 ∈ lw_u := tb7 (List.mem_of_getElem? (i := 165) (by decide +kernel))
theorem kX12_362 : Cond.methodLink "JoinRouterModel" 362 mX12_isCompared.1 ∈ lw_u := tb7 (List.mem_of_getElem? (i := 169) (by decide +kernel))
theorem kX12_366 : Cond.constantLong "JoinRouterModel" 366 1476 ∈ lw_u := tb7 (List.mem_of_getElem? (i := 181) (by decide +kernel))
theorem kX12_368 : Cond.constantLong "JoinRouterModel" 368 498 ∈ lw_u := tb7 (List.mem_of_getElem? (i := 182) (by decide +kernel))
theorem kX12_370 : Cond.methodLink "JoinRouterModel" 370 mX12_readPlain.1 ∈ lw_u := tb7 (List.mem_of_getElem? (i := 111) (by decide +kernel))
theorem kX12_373 : Cond.methodLink "JoinRouterModel" 373 mX12_behindSum.1 ∈ lw_u := tb7 (List.mem_of_getElem? (i := 154) (by decide +kernel))
theorem kX12_377 : Cond.methodLink "JoinRouterModel" 377 mX12_behindTest.1 ∈ lw_u := tb7 (List.mem_of_getElem? (i := 177) (by decide +kernel))
theorem kX12_380 : Cond.methodLink "JoinRouterModel" 380 mX12_begin.1 ∈ lw_u := tb7 (List.mem_of_getElem? (i := 76) (by decide +kernel))
theorem kX12_383 : pFL "JoinRouterModel" 383 12 21 := ⟨by decide, by decide, tb5 (List.mem_of_getElem? (i := 122) (by decide +kernel))⟩
theorem kX12_386 : Cond.methodLink "JoinRouterModel" 386 mX12_readExpression.1 ∈ lw_u := tb7 (List.mem_of_getElem? (i := 107) (by decide +kernel))
theorem kX12_389 : Cond.constantLong "JoinRouterModel" 389 294 ∈ lw_u := tb7 (List.mem_of_getElem? (i := 183) (by decide +kernel))
theorem kX12_391 : Cond.methodLink "JoinRouterModel" 391 mX12_beginText.1 ∈ lw_u := tb7 (List.mem_of_getElem? (i := 72) (by decide +kernel))
theorem kX12_394 : Cond.methodLink "JoinRouterModel" 394 mX12_readLaw.1 ∈ lw_u := tb7 (List.mem_of_getElem? (i := 95) (by decide +kernel))
theorem kX12_397 : Cond.methodLink "JoinRouterModel" 397 mX12_endText.1 ∈ lw_u := tb7 (List.mem_of_getElem? (i := 184) (by decide +kernel))
theorem kX12_400 : Cond.methodLink "JoinRouterModel" 400 mX12_isLaw.1 ∈ lw_u := tb7 (List.mem_of_getElem? (i := 192) (by decide +kernel))
theorem kX12_403 : pFL "JoinRouterModel" 403 12 38 := ⟨by decide, by decide, tb5 (List.mem_of_getElem? (i := 139) (by decide +kernel))⟩
theorem kX12_406 : pFL "JoinRouterModel" 406 12 34 := ⟨by decide, by decide, tb5 (List.mem_of_getElem? (i := 135) (by decide +kernel))⟩
theorem kX12_409 : Cond.constantLong "JoinRouterModel" 409 (-1000) ∈ lw_u := tb6 (List.mem_of_getElem? (i := 205) (by decide +kernel))
theorem kX12_411 : Cond.methodLink "JoinRouterModel" 411 mX12_reckon.1 ∈ lw_u := tb6 (List.mem_of_getElem? (i := 206) (by decide +kernel))
theorem kX12_415 : Cond.constantLong "JoinRouterModel" 415 (-1000000000) ∈ lw_u := tb6 (List.mem_of_getElem? (i := 210) (by decide +kernel))
theorem kX12_417 : Cond.constantLong "JoinRouterModel" 417 1000000000 ∈ lw_u := tb6 (List.mem_of_getElem? (i := 211) (by decide +kernel))
theorem kX12_419 : pFL "JoinRouterModel" 419 12 39 := ⟨by decide, by decide, tb5 (List.mem_of_getElem? (i := 140) (by decide +kernel))⟩
theorem kX12_422 : Cond.methodLink "JoinRouterModel" 422 mX12_reckonAll.1 ∈ lw_u := tb6 (List.mem_of_getElem? (i := 201) (by decide +kernel))
theorem kX12_425 : pFL "JoinRouterModel" 425 12 40 := ⟨by decide, by decide, tb5 (List.mem_of_getElem? (i := 141) (by decide +kernel))⟩
theorem kX12_428 : Cond.methodLink "JoinRouterModel" 428 mX12_isSo.1 ∈ lw_u := tb6 (List.mem_of_getElem? (i := 197) (by decide +kernel))
theorem kX12_431 : Cond.methodLink "JoinRouterModel" 431 mX12_setTuple.1 ∈ lw_u := tb6 (List.mem_of_getElem? (i := 189) (by decide +kernel))
theorem kX12_435 : Cond.methodLink "JoinRouterModel" 435 mX12_tells.1 ∈ lw_u := tb6 (List.mem_of_getElem? (i := 193) (by decide +kernel))
theorem kX12_439 : pFL "JoinRouterModel" 439 12 47 := ⟨by decide, by decide, tb5 (List.mem_of_getElem? (i := 148) (by decide +kernel))⟩
theorem kX12_442 : pFL "JoinRouterModel" 442 12 49 := ⟨by decide, by decide, tb5 (List.mem_of_getElem? (i := 150) (by decide +kernel))⟩
theorem kX12_445 : Cond.methodLink "JoinRouterModel" 445 mX12_is.1 ∈ lw_u := tb6 (List.mem_of_getElem? (i := 228) (by decide +kernel))
theorem kX12_449 : Cond.methodLink "JoinRouterModel" 449 mX12_hasTuple.1 ∈ lw_u := tb6 (List.mem_of_getElem? (i := 231) (by decide +kernel))
theorem kX12_452 : pFL "JoinRouterModel" 452 12 56 := ⟨by decide, by decide, tb5 (List.mem_of_getElem? (i := 157) (by decide +kernel))⟩
theorem kX12_455 : Cond.methodLink "JoinRouterModel" 455 mX12_isOpenTo.1 ∈ lw_u := tb6 (List.mem_of_getElem? (i := 224) (by decide +kernel))
theorem kX12_458 : Cond.methodLink "JoinRouterModel" 458 mX12_otherThan.1 ∈ lw_u := tb7 (List.mem_of_getElem? (i := 14) (by decide +kernel))
theorem kX12_461 : Cond.methodLink "JoinRouterModel" 461 mX12_fieldIn.1 ∈ lw_u := tb7 (List.mem_of_getElem? (i := 3) (by decide +kernel))
theorem kX12_464 : Cond.methodLink "JoinRouterModel" 464 mX12_fieldOf.1 ∈ lw_u := tb7 (List.mem_of_getElem? (i := 18) (by decide +kernel))
theorem kX12_467 : Cond.methodLink "JoinRouterModel" 467 mX12_bucketOf.1 ∈ lw_u := tb7 (List.mem_of_getElem? (i := 7) (by decide +kernel))
theorem kX12_470 : Cond.methodLink "JoinRouterModel" 470 mX12_wanted.1 ∈ lw_u := tb7 (List.mem_of_getElem? (i := 10) (by decide +kernel))
theorem kX12_473 : pFL "JoinRouterModel" 473 12 51 := ⟨by decide, by decide, tb5 (List.mem_of_getElem? (i := 152) (by decide +kernel))⟩
theorem kX12_476 : Cond.methodLink "JoinRouterModel" 476 mX12_taker.1 ∈ lw_u := tb6 (List.mem_of_getElem? (i := 220) (by decide +kernel))
theorem kX12_479 : Cond.methodLink "JoinRouterModel" 479 mX12_missing.1 ∈ lw_u := tb6 (List.mem_of_getElem? (i := 235) (by decide +kernel))
theorem kX12_482 : Cond.methodLink "JoinRouterModel" 482 mX12_sizeFor.1 ∈ lw_u := tb6 (List.mem_of_getElem? (i := 239) (by decide +kernel))
theorem kX12_485 : pFL "JoinRouterModel" 485 12 50 := ⟨by decide, by decide, tb5 (List.mem_of_getElem? (i := 151) (by decide +kernel))⟩
theorem kX12_488 : Cond.methodLink "JoinRouterModel" 488 mX12_many.1 ∈ lw_u := tb7 (List.mem_of_getElem? (i := 22) (by decide +kernel))
theorem kX12_491 : Cond.methodLink "JoinRouterModel" 491 mX12_bounded.1 ∈ lw_u := tb7 (List.mem_of_getElem? (i := 25) (by decide +kernel))
theorem kX12_495 : pFL "JoinRouterModel" 495 12 53 := ⟨by decide, by decide, tb5 (List.mem_of_getElem? (i := 154) (by decide +kernel))⟩
theorem kX12_498 : Cond.methodLink "JoinRouterModel" 498 mX12_holds.1 ∈ lw_u := tb7 (List.mem_of_getElem? (i := 28) (by decide +kernel))
theorem kX12_501 : Cond.methodLink "JoinRouterModel" 501 mX12_bringResult.1 ∈ lw_u := tb7 (List.mem_of_getElem? (i := 32) (by decide +kernel))
theorem kX12_504 : pFL "JoinRouterModel" 504 12 52 := ⟨by decide, by decide, tb5 (List.mem_of_getElem? (i := 153) (by decide +kernel))⟩
theorem kX12_507 : Cond.methodLink "JoinRouterModel" 507 mX12_advance.1 ∈ lw_u := tb6 (List.mem_of_getElem? (i := 216) (by decide +kernel))
theorem kX12_510 : Cond.methodLink "JoinRouterModel" 510 mX12_shutIt.1 ∈ lw_u := tb7 (List.mem_of_getElem? (i := 36) (by decide +kernel))
theorem kX12_513 : Cond.methodLink "JoinRouterModel" 513 mX12_goBehind.1 ∈ lw_u := tb7 (List.mem_of_getElem? (i := 40) (by decide +kernel))
theorem kX12_516 : Cond.methodLink "JoinRouterModel" 516 mX12_isTuple.1 ∈ lw_u := tb6 (List.mem_of_getElem? (i := 182) (by decide +kernel))
theorem kX12_520 : Cond.methodLink "JoinRouterModel" 520 mX12_isBarred.1 ∈ lw_u := tb6 (List.mem_of_getElem? (i := 185) (by decide +kernel))
theorem kX12_523 : Cond.methodLink "JoinRouterModel" 523 mX12_comes.1 ∈ lw_u := tb6 (List.mem_of_getElem? (i := 212) (by decide +kernel))
theorem kX12_527 : Cond.methodLink "JoinRouterModel" 527 mX12_dropEldest.1 ∈ lw_u := tb7 (List.mem_of_getElem? (i := 44) (by decide +kernel))
theorem kX12_530 : pFL "JoinRouterModel" 530 12 59 := ⟨by decide, by decide, tb5 (List.mem_of_getElem? (i := 160) (by decide +kernel))⟩
theorem kX12_533 : pFL "JoinRouterModel" 533 12 61 := ⟨by decide, by decide, tb5 (List.mem_of_getElem? (i := 162) (by decide +kernel))⟩
theorem kX12_536 : pFL "JoinRouterModel" 536 12 62 := ⟨by decide, by decide, tb5 (List.mem_of_getElem? (i := 163) (by decide +kernel))⟩
theorem kX12_539 : Cond.methodLink "JoinRouterModel" 539 mX12_strikeNow.1 ∈ lw_u := tb7 (List.mem_of_getElem? (i := 204) (by decide +kernel))
theorem kX12_542 : Cond.methodLink "JoinRouterModel" 542 mX12_windowNow.1 ∈ lw_u := tb7 (List.mem_of_getElem? (i := 212) (by decide +kernel))
theorem kX12_545 : Cond.methodLink "JoinRouterModel" 545 mX12_indexNow.1 ∈ lw_u := tb7 (List.mem_of_getElem? (i := 220) (by decide +kernel))
theorem kX12_548 : Cond.constantLong "JoinRouterModel" 548 98 ∈ lw_u := tb7 (List.mem_of_getElem? (i := 228) (by decide +kernel))
theorem kX12_550 : Cond.constant "JoinRouterModel" 550 100000000 ∈ lw_u := tb8 (List.mem_of_getElem? (i := 5) (by decide +kernel))
theorem kX12_551 : Cond.methodLink "JoinRouterModel" 551 mX12_costNow.1 ∈ lw_u := tb8 (List.mem_of_getElem? (i := 1) (by decide +kernel))
theorem kX12_554 : Cond.methodLink "JoinRouterModel" 554 mX12_layOrder.1 ∈ lw_u := tb8 (List.mem_of_getElem? (i := 14) (by decide +kernel))
theorem kX12_557 : Cond.methodLink "JoinRouterModel" 557 mX12_leastCost.1 ∈ lw_u := tb8 (List.mem_of_getElem? (i := 10) (by decide +kernel))
theorem kX12_560 : Cond.methodLink "JoinRouterModel" 560 mX12_factOf.1 ∈ lw_u := tb8 (List.mem_of_getElem? (i := 46) (by decide +kernel))
theorem kX12_563 : Cond.methodLink "JoinRouterModel" 563 mX12_canBeIt.1 ∈ lw_u := tb8 (List.mem_of_getElem? (i := 42) (by decide +kernel))
theorem kX12_566 : Cond.methodLink "JoinRouterModel" 566 mX12_mostAlike.1 ∈ lw_u := tb8 (List.mem_of_getElem? (i := 54) (by decide +kernel))
theorem kX12_569 : Cond.constantLong "JoinRouterModel" 569 99 ∈ lw_u := tb8 (List.mem_of_getElem? (i := 62) (by decide +kernel))
theorem kX12_571 : Cond.constantLong "JoinRouterModel" 571 1000000000000 ∈ lw_u := tb8 (List.mem_of_getElem? (i := 63) (by decide +kernel))
theorem kX12_573 : Cond.methodLink "JoinRouterModel" 573 mX12_readSum.1 ∈ lw_u := tb8 (List.mem_of_getElem? (i := 72) (by decide +kernel))
theorem kX12_576 : Cond.constantLong "JoinRouterModel" 576 763528 ∈ lw_u := tb8 (List.mem_of_getElem? (i := 76) (by decide +kernel))
theorem kX12_578 : Cond.methodLink "JoinRouterModel" 578 mX12_readBehind.1 ∈ lw_u := tb8 (List.mem_of_getElem? (i := 77) (by decide +kernel))
theorem kX12_582 : Cond.constantLong "JoinRouterModel" 582 655 ∈ lw_u := tb8 (List.mem_of_getElem? (i := 81) (by decide +kernel))
theorem kX12_584 : Cond.constantLong "JoinRouterModel" 584 21279923 ∈ lw_u := tb8 (List.mem_of_getElem? (i := 82) (by decide +kernel))
theorem kX12_586 : pFL "JoinRouterModel" 586 12 71 := ⟨by decide, by decide, tb5 (List.mem_of_getElem? (i := 172) (by decide +kernel))⟩
theorem kX12_589 : pFL "JoinRouterModel" 589 12 68 := ⟨by decide, by decide, tb5 (List.mem_of_getElem? (i := 169) (by decide +kernel))⟩
theorem kX12_592 : pFL "JoinRouterModel" 592 12 69 := ⟨by decide, by decide, tb5 (List.mem_of_getElem? (i := 170) (by decide +kernel))⟩
theorem kX12_595 : Cond.methodLink "JoinRouterModel" 595 mX12_sumOf.1 ∈ lw_u := tb8 (List.mem_of_getElem? (i := 91) (by decide +kernel))
theorem kX12_598 : Cond.methodLink "JoinRouterModel" 598 mX12_act.1 ∈ lw_u := tb8 (List.mem_of_getElem? (i := 95) (by decide +kernel))
theorem kX12_602 : Cond.methodLink "JoinRouterModel" 602 mX12_readOrder.1 ∈ lw_u := tb8 (List.mem_of_getElem? (i := 68) (by decide +kernel))
theorem kX12_605 : Cond.methodLink "JoinRouterModel" 605 mX12_keepOrders.1 ∈ lw_u := tb8 (List.mem_of_getElem? (i := 83) (by decide +kernel))
theorem kX12_608 : Cond.methodLink "JoinRouterModel" 608 mX12_run.1 ∈ lw_u := tb8 (List.mem_of_getElem? (i := 87) (by decide +kernel))
theorem kX12_611 : Cond.methodLink "JoinRouterModel" 611 mX12_giveBack.1 ∈ lw_u := tb8 (List.mem_of_getElem? (i := 99) (by decide +kernel))
theorem kX12_614 : pFL "JoinRouterModel" 614 12 72 := ⟨by decide, by decide, tb5 (List.mem_of_getElem? (i := 173) (by decide +kernel))⟩
theorem kX12_617 : Cond.constantLong "JoinRouterModel" 617 1103 ∈ lw_u := tb8 (List.mem_of_getElem? (i := 116) (by decide +kernel))
theorem kX12_619 : Cond.constantLong "JoinRouterModel" 619 12345 ∈ lw_u := tb8 (List.mem_of_getElem? (i := 117) (by decide +kernel))
theorem kX12_621 : Cond.constantLong "JoinRouterModel" 621 1000003 ∈ lw_u := tb8 (List.mem_of_getElem? (i := 118) (by decide +kernel))
theorem kX12_623 : Cond.constantLong "JoinRouterModel" 623 60 ∈ lw_u := tb8 (List.mem_of_getElem? (i := 111) (by decide +kernel))
theorem kX12_625 : Cond.methodLink "JoinRouterModel" 625 mX12_draw.1 ∈ lw_u := tb8 (List.mem_of_getElem? (i := 112) (by decide +kernel))
theorem kX12_628 : Cond.constantLong "JoinRouterModel" 628 13 ∈ lw_u := tb8 (List.mem_of_getElem? (i := 127) (by decide +kernel))
theorem kX12_630 : Cond.constantLong "JoinRouterModel" 630 15 ∈ lw_u := tb8 (List.mem_of_getElem? (i := 128) (by decide +kernel))
theorem kJ0_9 : Cond.fieldLink "java/lang/String" 9 "java/lang/String" "value" "[B" ∈ lw_u := tb8 (List.mem_of_getElem? (i := 133) (by decide +kernel))
theorem kJ0_15 : Cond.fieldLink "java/lang/String" 15 "java/lang/String" "coder" "B" ∈ lw_u := tb8 (List.mem_of_getElem? (i := 134) (by decide +kernel))
theorem kJ0_38 : Cond.fieldLink "java/lang/String" 38 "java/lang/String" "COMPACT_STRINGS" "Z" ∈ lw_u := tb3 (List.mem_of_getElem? (i := 192) (by decide +kernel))
theorem kJ0_335 : Cond.methodLink "java/lang/String" 335 mJ0_coder_7d493.1 ∈ lw_u := tb3 (List.mem_of_getElem? (i := 188) (by decide +kernel))
theorem kJ0_492 : Cond.methodLink "java/lang/String" 492 mJ0_isLatin1_aae02.1 ∈ lw_u := tb3 (List.mem_of_getElem? (i := 198) (by decide +kernel))
theorem kJ0_495 : Cond.methodLink "java/lang/String" 495 mJ1_charAt_3b067.1 ∈ lw_u := tb3 (List.mem_of_getElem? (i := 202) (by decide +kernel))
theorem kJ0_498 : Cond.methodLink "java/lang/String" 498 mJ2_charAt_3b067.1 ∈ lw_u := tb3 (List.mem_of_getElem? (i := 213) (by decide +kernel))
