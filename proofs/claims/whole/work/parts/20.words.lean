/-! words of fields, calls and makings: printed by gen4.py -/
set_option maxRecDepth 20000 in
theorem fo_0_11 : iFO 0 11 1 0 2 := ⟨Or.inl (List.mem_of_getElem? (i := 158) (by decide +kernel)), by decide, by decide, by decide⟩
set_option maxRecDepth 20000 in
theorem fo_0_18 : iFO 0 18 1 4 2 := ⟨Or.inl (List.mem_of_getElem? (i := 162) (by decide +kernel)), by decide, by decide, by decide⟩
set_option maxRecDepth 20000 in
theorem fo_0_25 : iFO 0 25 1 5 2 := ⟨Or.inl (List.mem_of_getElem? (i := 163) (by decide +kernel)), by decide, by decide, by decide⟩
set_option maxRecDepth 20000 in
theorem fo_0_32 : iFO 0 32 1 6 2 := ⟨Or.inl (List.mem_of_getElem? (i := 164) (by decide +kernel)), by decide, by decide, by decide⟩
set_option maxRecDepth 20000 in
theorem fo_0_38 : iFO 0 38 1 8 2 := ⟨Or.inl (List.mem_of_getElem? (i := 166) (by decide +kernel)), by decide, by decide, by decide⟩
set_option maxRecDepth 20000 in
theorem fo_0_49 : iFO 0 49 1 1 0 := ⟨Or.inl (List.mem_of_getElem? (i := 159) (by decide +kernel)), by decide, by decide, by decide⟩
set_option maxRecDepth 20000 in
theorem fo_0_67 : iFO 0 67 2 0 2 := ⟨Or.inr (List.mem_of_getElem? (i := 298) (by decide +kernel)), by decide, by decide, by decide⟩
set_option maxRecDepth 20000 in
theorem fo_0_75 : iFO 0 75 1 2 2 := ⟨Or.inl (List.mem_of_getElem? (i := 160) (by decide +kernel)), by decide, by decide, by decide⟩
set_option maxRecDepth 20000 in
theorem fo_0_79 : iFO 0 79 1 3 2 := ⟨Or.inl (List.mem_of_getElem? (i := 161) (by decide +kernel)), by decide, by decide, by decide⟩
set_option maxRecDepth 20000 in
theorem fo_0_134 : iFO 0 134 7 1 0 := ⟨Or.inr (List.mem_of_getElem? (i := 98) (by decide +kernel)), by decide, by decide, by decide⟩
set_option maxRecDepth 20000 in
theorem fo_0_151 : iFO 0 151 7 2 0 := ⟨Or.inr (List.mem_of_getElem? (i := 100) (by decide +kernel)), by decide, by decide, by decide⟩
set_option maxRecDepth 20000 in
theorem fo_0_154 : iFO 0 154 1 7 0 := ⟨Or.inl (List.mem_of_getElem? (i := 165) (by decide +kernel)), by decide, by decide, by decide⟩
set_option maxRecDepth 20000 in
theorem fo_0_157 : iFO 0 157 8 2 0 := ⟨Or.inr (List.mem_of_getElem? (i := 118) (by decide +kernel)), by decide, by decide, by decide⟩
set_option maxRecDepth 20000 in
theorem fo_0_166 : iFO 0 166 8 4 0 := ⟨Or.inr (List.mem_of_getElem? (i := 121) (by decide +kernel)), by decide, by decide, by decide⟩
set_option maxRecDepth 20000 in
theorem fo_0_177 : iFO 0 177 8 9 0 := ⟨Or.inr (List.mem_of_getElem? (i := 130) (by decide +kernel)), by decide, by decide, by decide⟩
set_option maxRecDepth 20000 in
theorem fo_0_178 : iFO 0 178 8 8 0 := ⟨Or.inr (List.mem_of_getElem? (i := 128) (by decide +kernel)), by decide, by decide, by decide⟩
set_option maxRecDepth 20000 in
theorem fo_0_181 : iFO 0 181 8 6 2 := ⟨Or.inr (List.mem_of_getElem? (i := 124) (by decide +kernel)), by decide, by decide, by decide⟩
set_option maxRecDepth 20000 in
theorem fo_0_184 : iFO 0 184 8 7 2 := ⟨Or.inr (List.mem_of_getElem? (i := 126) (by decide +kernel)), by decide, by decide, by decide⟩
set_option maxRecDepth 20000 in
theorem fo_0_189 : iFO 0 189 1 9 0 := ⟨Or.inl (List.mem_of_getElem? (i := 167) (by decide +kernel)), by decide, by decide, by decide⟩
set_option maxRecDepth 20000 in
theorem fo_0_199 : iFO 0 199 9 0 2 := ⟨Or.inr (List.mem_of_getElem? (i := 670) (by decide +kernel)), by decide, by decide, by decide⟩
set_option maxRecDepth 20000 in
theorem fo_0_202 : iFO 0 202 9 1 0 := ⟨Or.inr (List.mem_of_getElem? (i := 672) (by decide +kernel)), by decide, by decide, by decide⟩
set_option maxRecDepth 20000 in
theorem fo_0_229 : iFO 0 229 5 1 0 := ⟨Or.inr (List.mem_of_getElem? (i := 75) (by decide +kernel)), by decide, by decide, by decide⟩
set_option maxRecDepth 20000 in
theorem fo_1_9 : iFO 1 9 2 0 2 := ⟨Or.inl (List.mem_of_getElem? (i := 297) (by decide +kernel)), by decide, by decide, by decide⟩
set_option maxRecDepth 20000 in
theorem fo_2_9 : iFO 2 9 3 0 2 := ⟨Or.inl (List.mem_of_getElem? (i := 381) (by decide +kernel)), by decide, by decide, by decide⟩
set_option maxRecDepth 20000 in
theorem fo_2_15 : iFO 2 15 3 1 2 := ⟨Or.inl (List.mem_of_getElem? (i := 382) (by decide +kernel)), by decide, by decide, by decide⟩
set_option maxRecDepth 20000 in
theorem fo_3_9 : iFO 3 9 4 0 0 := ⟨Or.inl (List.mem_of_getElem? (i := 395) (by decide +kernel)), by decide, by decide, by decide⟩
set_option maxRecDepth 20000 in
theorem fo_3_15 : iFO 3 15 4 1 2 := ⟨Or.inl (List.mem_of_getElem? (i := 396) (by decide +kernel)), by decide, by decide, by decide⟩
set_option maxRecDepth 20000 in
theorem fo_3_19 : iFO 3 19 4 2 0 := ⟨Or.inl (List.mem_of_getElem? (i := 397) (by decide +kernel)), by decide, by decide, by decide⟩
set_option maxRecDepth 20000 in
theorem fo_3_22 : iFO 3 22 4 3 2 := ⟨Or.inl (List.mem_of_getElem? (i := 399) (by decide +kernel)), by decide, by decide, by decide⟩
set_option maxRecDepth 20000 in
theorem fo_3_25 : iFO 3 25 4 4 2 := ⟨Or.inl (List.mem_of_getElem? (i := 401) (by decide +kernel)), by decide, by decide, by decide⟩
set_option maxRecDepth 20000 in
theorem fo_3_33 : iFO 3 33 4 5 0 := ⟨Or.inl (List.mem_of_getElem? (i := 402) (by decide +kernel)), by decide, by decide, by decide⟩
set_option maxRecDepth 20000 in
theorem fo_3_41 : iFO 3 41 4 6 0 := ⟨Or.inl (List.mem_of_getElem? (i := 404) (by decide +kernel)), by decide, by decide, by decide⟩
set_option maxRecDepth 20000 in
theorem fo_3_47 : iFO 3 47 4 7 0 := ⟨Or.inl (List.mem_of_getElem? (i := 405) (by decide +kernel)), by decide, by decide, by decide⟩
set_option maxRecDepth 20000 in
theorem fo_3_50 : iFO 3 50 4 8 0 := ⟨Or.inl (List.mem_of_getElem? (i := 406) (by decide +kernel)), by decide, by decide, by decide⟩
set_option maxRecDepth 20000 in
theorem fo_3_53 : iFO 3 53 4 9 1 := ⟨Or.inl (List.mem_of_getElem? (i := 407) (by decide +kernel)), by decide, by decide, by decide⟩
set_option maxRecDepth 20000 in
theorem fo_4_11 : iFO 4 11 5 0 2 := ⟨Or.inl (List.mem_of_getElem? (i := 73) (by decide +kernel)), by decide, by decide, by decide⟩
set_option maxRecDepth 20000 in
theorem fo_4_17 : iFO 4 17 5 2 2 := ⟨Or.inl (List.mem_of_getElem? (i := 76) (by decide +kernel)), by decide, by decide, by decide⟩
set_option maxRecDepth 20000 in
theorem fo_4_21 : iFO 4 21 5 3 2 := ⟨Or.inl (List.mem_of_getElem? (i := 77) (by decide +kernel)), by decide, by decide, by decide⟩
set_option maxRecDepth 20000 in
theorem fo_4_24 : iFO 4 24 5 1 0 := ⟨Or.inl (List.mem_of_getElem? (i := 74) (by decide +kernel)), by decide, by decide, by decide⟩
set_option maxRecDepth 20000 in
theorem fo_4_62 : iFO 4 62 4 5 0 := ⟨Or.inr (List.mem_of_getElem? (i := 403) (by decide +kernel)), by decide, by decide, by decide⟩
set_option maxRecDepth 20000 in
theorem fo_4_73 : iFO 4 73 4 3 2 := ⟨Or.inr (List.mem_of_getElem? (i := 400) (by decide +kernel)), by decide, by decide, by decide⟩
set_option maxRecDepth 20000 in
theorem fo_4_77 : iFO 4 77 4 2 0 := ⟨Or.inr (List.mem_of_getElem? (i := 398) (by decide +kernel)), by decide, by decide, by decide⟩
set_option maxRecDepth 20000 in
theorem fo_4_80 : iFO 4 80 2 0 2 := ⟨Or.inr (List.mem_of_getElem? (i := 300) (by decide +kernel)), by decide, by decide, by decide⟩
set_option maxRecDepth 20000 in
theorem fo_5_9 : iFO 5 9 6 0 2 := ⟨Or.inl (List.mem_of_getElem? (i := 551) (by decide +kernel)), by decide, by decide, by decide⟩
set_option maxRecDepth 20000 in
theorem fo_5_15 : iFO 5 15 6 1 2 := ⟨Or.inl (List.mem_of_getElem? (i := 553) (by decide +kernel)), by decide, by decide, by decide⟩
set_option maxRecDepth 20000 in
theorem fo_6_11 : iFO 6 11 7 0 2 := ⟨Or.inl (List.mem_of_getElem? (i := 96) (by decide +kernel)), by decide, by decide, by decide⟩
set_option maxRecDepth 20000 in
theorem fo_6_17 : iFO 6 17 7 1 0 := ⟨Or.inl (List.mem_of_getElem? (i := 97) (by decide +kernel)), by decide, by decide, by decide⟩
set_option maxRecDepth 20000 in
theorem fo_6_21 : iFO 6 21 7 2 0 := ⟨Or.inl (List.mem_of_getElem? (i := 99) (by decide +kernel)), by decide, by decide, by decide⟩
set_option maxRecDepth 20000 in
theorem fo_6_37 : iFO 6 37 2 0 2 := ⟨Or.inr (List.mem_of_getElem? (i := 299) (by decide +kernel)), by decide, by decide, by decide⟩
set_option maxRecDepth 20000 in
theorem fo_6_41 : iFO 6 41 6 0 2 := ⟨Or.inr (List.mem_of_getElem? (i := 552) (by decide +kernel)), by decide, by decide, by decide⟩
set_option maxRecDepth 20000 in
theorem fo_7_11 : iFO 7 11 8 0 2 := ⟨Or.inl (List.mem_of_getElem? (i := 115) (by decide +kernel)), by decide, by decide, by decide⟩
set_option maxRecDepth 20000 in
theorem fo_7_17 : iFO 7 17 8 1 2 := ⟨Or.inl (List.mem_of_getElem? (i := 116) (by decide +kernel)), by decide, by decide, by decide⟩
set_option maxRecDepth 20000 in
theorem fo_7_21 : iFO 7 21 8 3 2 := ⟨Or.inl (List.mem_of_getElem? (i := 119) (by decide +kernel)), by decide, by decide, by decide⟩
set_option maxRecDepth 20000 in
theorem fo_7_24 : iFO 7 24 8 5 2 := ⟨Or.inl (List.mem_of_getElem? (i := 122) (by decide +kernel)), by decide, by decide, by decide⟩
set_option maxRecDepth 20000 in
theorem fo_7_28 : iFO 7 28 8 6 2 := ⟨Or.inl (List.mem_of_getElem? (i := 123) (by decide +kernel)), by decide, by decide, by decide⟩
set_option maxRecDepth 20000 in
theorem fo_7_31 : iFO 7 31 8 7 2 := ⟨Or.inl (List.mem_of_getElem? (i := 125) (by decide +kernel)), by decide, by decide, by decide⟩
set_option maxRecDepth 20000 in
theorem fo_7_34 : iFO 7 34 8 10 2 := ⟨Or.inl (List.mem_of_getElem? (i := 131) (by decide +kernel)), by decide, by decide, by decide⟩
set_option maxRecDepth 20000 in
theorem fo_7_37 : iFO 7 37 8 2 0 := ⟨Or.inl (List.mem_of_getElem? (i := 117) (by decide +kernel)), by decide, by decide, by decide⟩
set_option maxRecDepth 20000 in
theorem fo_7_41 : iFO 7 41 8 4 0 := ⟨Or.inl (List.mem_of_getElem? (i := 120) (by decide +kernel)), by decide, by decide, by decide⟩
set_option maxRecDepth 20000 in
theorem fo_7_44 : iFO 7 44 8 8 0 := ⟨Or.inl (List.mem_of_getElem? (i := 127) (by decide +kernel)), by decide, by decide, by decide⟩
set_option maxRecDepth 20000 in
theorem fo_7_47 : iFO 7 47 8 9 0 := ⟨Or.inl (List.mem_of_getElem? (i := 129) (by decide +kernel)), by decide, by decide, by decide⟩
set_option maxRecDepth 20000 in
theorem fo_8_7 : iFO 8 7 9 1 0 := ⟨Or.inl (List.mem_of_getElem? (i := 671) (by decide +kernel)), by decide, by decide, by decide⟩
set_option maxRecDepth 20000 in
theorem fo_8_13 : iFO 8 13 9 0 2 := ⟨Or.inl (List.mem_of_getElem? (i := 669) (by decide +kernel)), by decide, by decide, by decide⟩
set_option maxRecDepth 20000 in
theorem fo_9_7 : iFO 9 7 10 1 2 := ⟨Or.inl (List.mem_of_getElem? (i := 738) (by decide +kernel)), by decide, by decide, by decide⟩
set_option maxRecDepth 20000 in
theorem fo_9_13 : iFO 9 13 10 2 2 := ⟨Or.inl (List.mem_of_getElem? (i := 739) (by decide +kernel)), by decide, by decide, by decide⟩
set_option maxRecDepth 20000 in
theorem fo_9_16 : iFO 9 16 10 3 2 := ⟨Or.inl (List.mem_of_getElem? (i := 740) (by decide +kernel)), by decide, by decide, by decide⟩
set_option maxRecDepth 20000 in
theorem fo_9_19 : iFO 9 19 10 5 0 := ⟨Or.inl (List.mem_of_getElem? (i := 742) (by decide +kernel)), by decide, by decide, by decide⟩
set_option maxRecDepth 20000 in
theorem fo_9_23 : iFO 9 23 10 6 0 := ⟨Or.inl (List.mem_of_getElem? (i := 743) (by decide +kernel)), by decide, by decide, by decide⟩
set_option maxRecDepth 20000 in
theorem fo_9_26 : iFO 9 26 10 7 2 := ⟨Or.inl (List.mem_of_getElem? (i := 744) (by decide +kernel)), by decide, by decide, by decide⟩
set_option maxRecDepth 20000 in
theorem fo_9_29 : iFO 9 29 10 8 2 := ⟨Or.inl (List.mem_of_getElem? (i := 745) (by decide +kernel)), by decide, by decide, by decide⟩
set_option maxRecDepth 20000 in
theorem fo_9_32 : iFO 9 32 10 9 2 := ⟨Or.inl (List.mem_of_getElem? (i := 746) (by decide +kernel)), by decide, by decide, by decide⟩
set_option maxRecDepth 20000 in
theorem fo_9_35 : iFO 9 35 10 10 2 := ⟨Or.inl (List.mem_of_getElem? (i := 747) (by decide +kernel)), by decide, by decide, by decide⟩
set_option maxRecDepth 20000 in
theorem fo_9_38 : iFO 9 38 10 11 2 := ⟨Or.inl (List.mem_of_getElem? (i := 748) (by decide +kernel)), by decide, by decide, by decide⟩
set_option maxRecDepth 20000 in
theorem fo_9_41 : iFO 9 41 10 12 2 := ⟨Or.inl (List.mem_of_getElem? (i := 749) (by decide +kernel)), by decide, by decide, by decide⟩
set_option maxRecDepth 20000 in
theorem fo_9_44 : iFO 9 44 10 13 2 := ⟨Or.inl (List.mem_of_getElem? (i := 750) (by decide +kernel)), by decide, by decide, by decide⟩
set_option maxRecDepth 20000 in
theorem fo_9_47 : iFO 9 47 10 14 2 := ⟨Or.inl (List.mem_of_getElem? (i := 751) (by decide +kernel)), by decide, by decide, by decide⟩
set_option maxRecDepth 20000 in
theorem fo_9_50 : iFO 9 50 10 15 2 := ⟨Or.inl (List.mem_of_getElem? (i := 752) (by decide +kernel)), by decide, by decide, by decide⟩
set_option maxRecDepth 20000 in
theorem fo_9_54 : iFO 9 54 10 17 2 := ⟨Or.inl (List.mem_of_getElem? (i := 754) (by decide +kernel)), by decide, by decide, by decide⟩
set_option maxRecDepth 20000 in
theorem fo_9_57 : iFO 9 57 10 18 2 := ⟨Or.inl (List.mem_of_getElem? (i := 755) (by decide +kernel)), by decide, by decide, by decide⟩
set_option maxRecDepth 20000 in
theorem fo_9_60 : iFO 9 60 10 19 2 := ⟨Or.inl (List.mem_of_getElem? (i := 756) (by decide +kernel)), by decide, by decide, by decide⟩
set_option maxRecDepth 20000 in
theorem fo_9_63 : iFO 9 63 10 21 2 := ⟨Or.inl (List.mem_of_getElem? (i := 758) (by decide +kernel)), by decide, by decide, by decide⟩
set_option maxRecDepth 20000 in
theorem fo_9_66 : iFO 9 66 10 22 2 := ⟨Or.inl (List.mem_of_getElem? (i := 759) (by decide +kernel)), by decide, by decide, by decide⟩
set_option maxRecDepth 20000 in
theorem fo_9_69 : iFO 9 69 10 23 2 := ⟨Or.inl (List.mem_of_getElem? (i := 760) (by decide +kernel)), by decide, by decide, by decide⟩
set_option maxRecDepth 20000 in
theorem fo_9_72 : iFO 9 72 10 24 2 := ⟨Or.inl (List.mem_of_getElem? (i := 761) (by decide +kernel)), by decide, by decide, by decide⟩
set_option maxRecDepth 20000 in
theorem fo_9_75 : iFO 9 75 10 25 2 := ⟨Or.inl (List.mem_of_getElem? (i := 762) (by decide +kernel)), by decide, by decide, by decide⟩
set_option maxRecDepth 20000 in
theorem fo_9_78 : iFO 9 78 10 29 2 := ⟨Or.inl (List.mem_of_getElem? (i := 766) (by decide +kernel)), by decide, by decide, by decide⟩
set_option maxRecDepth 20000 in
theorem fo_9_81 : iFO 9 81 10 30 2 := ⟨Or.inl (List.mem_of_getElem? (i := 767) (by decide +kernel)), by decide, by decide, by decide⟩
set_option maxRecDepth 20000 in
theorem fo_9_84 : iFO 9 84 10 31 2 := ⟨Or.inl (List.mem_of_getElem? (i := 768) (by decide +kernel)), by decide, by decide, by decide⟩
set_option maxRecDepth 20000 in
theorem fo_9_87 : iFO 9 87 10 0 0 := ⟨Or.inl (List.mem_of_getElem? (i := 737) (by decide +kernel)), by decide, by decide, by decide⟩
set_option maxRecDepth 20000 in
theorem fo_9_90 : iFO 9 90 10 4 0 := ⟨Or.inl (List.mem_of_getElem? (i := 741) (by decide +kernel)), by decide, by decide, by decide⟩
set_option maxRecDepth 20000 in
theorem fo_9_112 : iFO 9 112 10 16 0 := ⟨Or.inl (List.mem_of_getElem? (i := 753) (by decide +kernel)), by decide, by decide, by decide⟩
set_option maxRecDepth 20000 in
theorem fo_9_145 : iFO 9 145 10 20 0 := ⟨Or.inl (List.mem_of_getElem? (i := 757) (by decide +kernel)), by decide, by decide, by decide⟩
set_option maxRecDepth 20000 in
theorem fo_9_148 : iFO 9 148 10 28 0 := ⟨Or.inl (List.mem_of_getElem? (i := 765) (by decide +kernel)), by decide, by decide, by decide⟩
set_option maxRecDepth 20000 in
theorem fo_9_151 : iFO 9 151 10 26 0 := ⟨Or.inl (List.mem_of_getElem? (i := 763) (by decide +kernel)), by decide, by decide, by decide⟩
set_option maxRecDepth 20000 in
theorem fo_9_154 : iFO 9 154 10 27 0 := ⟨Or.inl (List.mem_of_getElem? (i := 764) (by decide +kernel)), by decide, by decide, by decide⟩
set_option maxRecDepth 20000 in
theorem fo_9_164 : iFO 9 164 10 32 0 := ⟨Or.inl (List.mem_of_getElem? (i := 769) (by decide +kernel)), by decide, by decide, by decide⟩
set_option maxRecDepth 20000 in
theorem mo_0_1 : Cond.methodLink "TextVerbs" 1 objectInit ∈ lw_tbl := List.mem_of_getElem? (i := 60) (by decide +kernel)
set_option maxRecDepth 20000 in
theorem mo_0_17 : iMO 0 17 48 1 5 := ⟨Or.inr (List.mem_of_getElem? (i := 67) (by decide +kernel)), Or.inr ⟨by decide, List.mem_of_getElem? (i := 68) (by decide +kernel), Or.inl rfl⟩, List.mem_of_getElem? (i := 39) (by decide +kernel), by decide +kernel, by decide +kernel⟩
set_option maxRecDepth 20000 in
theorem mo_0_24 : iMO 0 24 58 1 7 := ⟨Or.inr (List.mem_of_getElem? (i := 90) (by decide +kernel)), Or.inr ⟨by decide, List.mem_of_getElem? (i := 91) (by decide +kernel), Or.inl rfl⟩, List.mem_of_getElem? (i := 40) (by decide +kernel), by decide +kernel, by decide +kernel⟩
set_option maxRecDepth 20000 in
theorem mo_0_31 : iMO 0 31 62 1 8 := ⟨Or.inr (List.mem_of_getElem? (i := 110) (by decide +kernel)), Or.inr ⟨by decide, List.mem_of_getElem? (i := 111) (by decide +kernel), Or.inl rfl⟩, List.mem_of_getElem? (i := 41) (by decide +kernel), by decide +kernel, by decide +kernel⟩
set_option maxRecDepth 20000 in
theorem mo_0_58 : iMO 0 58 33 2 2 := ⟨Or.inl (List.mem_of_getElem? (i := 290) (by decide +kernel)), Or.inr ⟨by decide, List.mem_of_getElem? (i := 291) (by decide +kernel), Or.inl rfl⟩, List.mem_of_getElem? (i := 48) (by decide +kernel), by decide +kernel, by decide +kernel⟩
set_option maxRecDepth 20000 in
theorem mo_0_61 : iMO 0 61 24 3 1 := ⟨Or.inl (List.mem_of_getElem? (i := 311) (by decide +kernel)), Or.inr ⟨by decide, List.mem_of_getElem? (i := 313) (by decide +kernel), Or.inr (List.mem_of_getElem? (i := 1) (by decide +kernel))⟩, List.mem_of_getElem? (i := 38) (by decide +kernel), by decide +kernel, by decide +kernel⟩
set_option maxRecDepth 20000 in
theorem mo_0_71 : iMO 0 71 23 2 1 := ⟨Or.inl (List.mem_of_getElem? (i := 340) (by decide +kernel)), Or.inr ⟨by decide, List.mem_of_getElem? (i := 342) (by decide +kernel), Or.inr (List.mem_of_getElem? (i := 3) (by decide +kernel))⟩, List.mem_of_getElem? (i := 38) (by decide +kernel), by decide +kernel, by decide +kernel⟩
set_option maxRecDepth 20000 in
theorem mo_0_82 : iMO 0 82 27 2 0 := ⟨Or.inl (List.mem_of_getElem? (i := 352) (by decide +kernel)), Or.inl ⟨rfl, List.mem_of_getElem? (i := 353) (by decide +kernel)⟩, List.mem_of_getElem? (i := 38) (by decide +kernel), by decide +kernel, by decide +kernel⟩
set_option maxRecDepth 20000 in
theorem mo_0_86 : iMO 0 86 25 3 1 := ⟨Or.inl (List.mem_of_getElem? (i := 356) (by decide +kernel)), Or.inr ⟨by decide, List.mem_of_getElem? (i := 358) (by decide +kernel), Or.inr (List.mem_of_getElem? (i := 4) (by decide +kernel))⟩, List.mem_of_getElem? (i := 38) (by decide +kernel), by decide +kernel, by decide +kernel⟩
set_option maxRecDepth 20000 in
theorem mo_0_89 : iMO 0 89 28 1 0 := ⟨Or.inl (List.mem_of_getElem? (i := 360) (by decide +kernel)), Or.inl ⟨rfl, List.mem_of_getElem? (i := 361) (by decide +kernel)⟩, List.mem_of_getElem? (i := 38) (by decide +kernel), by decide +kernel, by decide +kernel⟩
set_option maxRecDepth 20000 in
theorem mo_0_92 : iMO 0 92 29 1 1 := ⟨Or.inl (List.mem_of_getElem? (i := 364) (by decide +kernel)), Or.inr ⟨by decide, List.mem_of_getElem? (i := 366) (by decide +kernel), Or.inr (List.mem_of_getElem? (i := 5) (by decide +kernel))⟩, List.mem_of_getElem? (i := 38) (by decide +kernel), by decide +kernel, by decide +kernel⟩
set_option maxRecDepth 20000 in
theorem mo_0_97 : iMO 0 97 30 1 1 := ⟨Or.inl (List.mem_of_getElem? (i := 371) (by decide +kernel)), Or.inr ⟨by decide, List.mem_of_getElem? (i := 373) (by decide +kernel), Or.inr (List.mem_of_getElem? (i := 6) (by decide +kernel))⟩, List.mem_of_getElem? (i := 38) (by decide +kernel), by decide +kernel, by decide +kernel⟩
set_option maxRecDepth 20000 in
theorem mo_0_101 : iMO 0 101 43 6 4 := ⟨Or.inl (List.mem_of_getElem? (i := 388) (by decide +kernel)), Or.inr ⟨by decide, List.mem_of_getElem? (i := 389) (by decide +kernel), Or.inl rfl⟩, List.mem_of_getElem? (i := 50) (by decide +kernel), by decide +kernel, by decide +kernel⟩
set_option maxRecDepth 20000 in
theorem mo_0_104 : iMO 0 104 49 2 5 := ⟨Or.inl (List.mem_of_getElem? (i := 429) (by decide +kernel)), Or.inr ⟨by decide, List.mem_of_getElem? (i := 430) (by decide +kernel), Or.inr (List.mem_of_getElem? (i := 431) (by decide +kernel))⟩, List.mem_of_getElem? (i := 39) (by decide +kernel), by decide +kernel, by decide +kernel⟩
set_option maxRecDepth 20000 in
theorem mo_0_108 : iMO 0 108 22 2 1 := ⟨Or.inl (List.mem_of_getElem? (i := 315) (by decide +kernel)), Or.inr ⟨by decide, List.mem_of_getElem? (i := 317) (by decide +kernel), Or.inr (List.mem_of_getElem? (i := 2) (by decide +kernel))⟩, List.mem_of_getElem? (i := 38) (by decide +kernel), by decide +kernel, by decide +kernel⟩
set_option maxRecDepth 20000 in
theorem mo_0_111 : iMO 0 111 34 1 2 := ⟨Or.inl (List.mem_of_getElem? (i := 320) (by decide +kernel)), Or.inr ⟨by decide, List.mem_of_getElem? (i := 321) (by decide +kernel), Or.inr (List.mem_of_getElem? (i := 322) (by decide +kernel))⟩, List.mem_of_getElem? (i := 48) (by decide +kernel), by decide +kernel, by decide +kernel⟩
set_option maxRecDepth 20000 in
theorem mo_0_115 : iMO 0 115 26 1 0 := ⟨Or.inl (List.mem_of_getElem? (i := 440) (by decide +kernel)), Or.inl ⟨rfl, List.mem_of_getElem? (i := 393) (by decide +kernel)⟩, List.mem_of_getElem? (i := 38) (by decide +kernel), by decide +kernel, by decide +kernel⟩
set_option maxRecDepth 20000 in
theorem mo_0_121 : iMO 0 121 51 2 5 := ⟨Or.inl (List.mem_of_getElem? (i := 449) (by decide +kernel)), Or.inr ⟨by decide, List.mem_of_getElem? (i := 450) (by decide +kernel), Or.inr (List.mem_of_getElem? (i := 451) (by decide +kernel))⟩, List.mem_of_getElem? (i := 39) (by decide +kernel), by decide +kernel, by decide +kernel⟩
set_option maxRecDepth 20000 in
theorem mo_0_126 : iMO 0 126 55 5 5 := ⟨Or.inl (List.mem_of_getElem? (i := 516) (by decide +kernel)), Or.inr ⟨by decide, List.mem_of_getElem? (i := 517) (by decide +kernel), Or.inr (List.mem_of_getElem? (i := 518) (by decide +kernel))⟩, List.mem_of_getElem? (i := 39) (by decide +kernel), by decide +kernel, by decide +kernel⟩
set_option maxRecDepth 20000 in
theorem mo_0_130 : iMO 0 130 50 2 5 := ⟨Or.inl (List.mem_of_getElem? (i := 533) (by decide +kernel)), Or.inr ⟨by decide, List.mem_of_getElem? (i := 534) (by decide +kernel), Or.inr (List.mem_of_getElem? (i := 535) (by decide +kernel))⟩, List.mem_of_getElem? (i := 39) (by decide +kernel), by decide +kernel, by decide +kernel⟩
set_option maxRecDepth 20000 in
theorem mo_0_141 : iMO 0 141 56 3 6 := ⟨Or.inl (List.mem_of_getElem? (i := 547) (by decide +kernel)), Or.inr ⟨by decide, List.mem_of_getElem? (i := 548) (by decide +kernel), Or.inl rfl⟩, List.mem_of_getElem? (i := 52) (by decide +kernel), by decide +kernel, by decide +kernel⟩
set_option maxRecDepth 20000 in
theorem mo_0_144 : iMO 0 144 59 2 7 := ⟨Or.inl (List.mem_of_getElem? (i := 559) (by decide +kernel)), Or.inr ⟨by decide, List.mem_of_getElem? (i := 560) (by decide +kernel), Or.inr (List.mem_of_getElem? (i := 561) (by decide +kernel))⟩, List.mem_of_getElem? (i := 40) (by decide +kernel), by decide +kernel, by decide +kernel⟩
set_option maxRecDepth 20000 in
theorem mo_0_147 : iMO 0 147 60 3 7 := ⟨Or.inl (List.mem_of_getElem? (i := 570) (by decide +kernel)), Or.inr ⟨by decide, List.mem_of_getElem? (i := 571) (by decide +kernel), Or.inr (List.mem_of_getElem? (i := 572) (by decide +kernel))⟩, List.mem_of_getElem? (i := 40) (by decide +kernel), by decide +kernel, by decide +kernel⟩
set_option maxRecDepth 20000 in
theorem mo_0_162 : iMO 0 162 63 3 8 := ⟨Or.inl (List.mem_of_getElem? (i := 593) (by decide +kernel)), Or.inr ⟨by decide, List.mem_of_getElem? (i := 594) (by decide +kernel), Or.inr (List.mem_of_getElem? (i := 595) (by decide +kernel))⟩, List.mem_of_getElem? (i := 41) (by decide +kernel), by decide +kernel, by decide +kernel⟩
set_option maxRecDepth 20000 in
theorem mo_0_171 : iMO 0 171 64 2 8 := ⟨Or.inl (List.mem_of_getElem? (i := 605) (by decide +kernel)), Or.inr ⟨by decide, List.mem_of_getElem? (i := 606) (by decide +kernel), Or.inr (List.mem_of_getElem? (i := 607) (by decide +kernel))⟩, List.mem_of_getElem? (i := 41) (by decide +kernel), by decide +kernel, by decide +kernel⟩
set_option maxRecDepth 20000 in
theorem mo_0_174 : iMO 0 174 65 3 8 := ⟨Or.inl (List.mem_of_getElem? (i := 616) (by decide +kernel)), Or.inr ⟨by decide, List.mem_of_getElem? (i := 617) (by decide +kernel), Or.inr (List.mem_of_getElem? (i := 618) (by decide +kernel))⟩, List.mem_of_getElem? (i := 41) (by decide +kernel), by decide +kernel, by decide +kernel⟩
set_option maxRecDepth 20000 in
theorem mo_0_194 : iMO 0 194 73 2 9 := ⟨Or.inl (List.mem_of_getElem? (i := 665) (by decide +kernel)), Or.inr ⟨by decide, List.mem_of_getElem? (i := 666) (by decide +kernel), Or.inl rfl⟩, List.mem_of_getElem? (i := 54) (by decide +kernel), by decide +kernel, by decide +kernel⟩
set_option maxRecDepth 20000 in
theorem mo_0_195 : iMO 0 195 32 3 1 := ⟨Or.inl (List.mem_of_getElem? (i := 685) (by decide +kernel)), Or.inr ⟨by decide, List.mem_of_getElem? (i := 687) (by decide +kernel), Or.inr (List.mem_of_getElem? (i := 18) (by decide +kernel))⟩, List.mem_of_getElem? (i := 38) (by decide +kernel), by decide +kernel, by decide +kernel⟩
set_option maxRecDepth 20000 in
theorem mo_0_205 : iMO 0 205 31 2 1 := ⟨Or.inl (List.mem_of_getElem? (i := 689) (by decide +kernel)), Or.inr ⟨by decide, List.mem_of_getElem? (i := 691) (by decide +kernel), Or.inr (List.mem_of_getElem? (i := 19) (by decide +kernel))⟩, List.mem_of_getElem? (i := 38) (by decide +kernel), by decide +kernel, by decide +kernel⟩
set_option maxRecDepth 20000 in
theorem mo_0_209 : iMO 0 209 75 2 9 := ⟨Or.inl (List.mem_of_getElem? (i := 709) (by decide +kernel)), Or.inr ⟨by decide, List.mem_of_getElem? (i := 710) (by decide +kernel), Or.inr (List.mem_of_getElem? (i := 711) (by decide +kernel))⟩, List.mem_of_getElem? (i := 54) (by decide +kernel), by decide +kernel, by decide +kernel⟩
set_option maxRecDepth 20000 in
theorem mo_0_212 : iMO 0 212 74 2 9 := ⟨Or.inl (List.mem_of_getElem? (i := 713) (by decide +kernel)), Or.inr ⟨by decide, List.mem_of_getElem? (i := 714) (by decide +kernel), Or.inr (List.mem_of_getElem? (i := 715) (by decide +kernel))⟩, List.mem_of_getElem? (i := 54) (by decide +kernel), by decide +kernel, by decide +kernel⟩
set_option maxRecDepth 20000 in
theorem mo_0_215 : iMO 0 215 76 2 9 := ⟨Or.inl (List.mem_of_getElem? (i := 724) (by decide +kernel)), Or.inr ⟨by decide, List.mem_of_getElem? (i := 725) (by decide +kernel), Or.inr (List.mem_of_getElem? (i := 726) (by decide +kernel))⟩, List.mem_of_getElem? (i := 54) (by decide +kernel), by decide +kernel, by decide +kernel⟩
set_option maxRecDepth 20000 in
theorem mo_0_236 : iMO 0 236 40 3 3 := ⟨Or.inl (List.mem_of_getElem? (i := 377) (by decide +kernel)), Or.inr ⟨by decide, List.mem_of_getElem? (i := 378) (by decide +kernel), Or.inl rfl⟩, List.mem_of_getElem? (i := 51) (by decide +kernel), by decide +kernel, by decide +kernel⟩
set_option maxRecDepth 20000 in
theorem mo_1_3 : Cond.methodLink "TextVerbs$Text" 3 objectInit ∈ lw_tbl := List.mem_of_getElem? (i := 293) (by decide +kernel)
set_option maxRecDepth 20000 in
theorem mo_1_15 : iMO 1 15 138 2 0 := ⟨Or.inl (List.mem_of_getElem? (i := 294) (by decide +kernel)), Or.inl ⟨rfl, List.mem_of_getElem? (i := 295) (by decide +kernel)⟩, List.mem_of_getElem? (i := 49) (by decide +kernel), by decide +kernel, by decide +kernel⟩
set_option maxRecDepth 20000 in
theorem mo_1_21 : iMO 1 21 35 3 2 := ⟨Or.inl (List.mem_of_getElem? (i := 473) (by decide +kernel)), Or.inr ⟨by decide, List.mem_of_getElem? (i := 474) (by decide +kernel), Or.inr (List.mem_of_getElem? (i := 475) (by decide +kernel))⟩, List.mem_of_getElem? (i := 48) (by decide +kernel), by decide +kernel, by decide +kernel⟩
set_option maxRecDepth 20000 in
theorem mo_2_3 : Cond.methodLink "TextVerbs$Region" 3 objectInit ∈ lw_tbl := List.mem_of_getElem? (i := 380) (by decide +kernel)
set_option maxRecDepth 20000 in
theorem mo_2_18 : iMO 2 18 36 2 2 := ⟨Or.inl (List.mem_of_getElem? (i := 469) (by decide +kernel)), Or.inr ⟨by decide, List.mem_of_getElem? (i := 470) (by decide +kernel), Or.inr (List.mem_of_getElem? (i := 471) (by decide +kernel))⟩, List.mem_of_getElem? (i := 48) (by decide +kernel), by decide +kernel, by decide +kernel⟩
set_option maxRecDepth 20000 in
theorem mo_2_24 : iMO 2 24 34 1 2 := ⟨Or.inl (List.mem_of_getElem? (i := 477) (by decide +kernel)), Or.inr ⟨by decide, List.mem_of_getElem? (i := 321) (by decide +kernel), Or.inr (List.mem_of_getElem? (i := 322) (by decide +kernel))⟩, List.mem_of_getElem? (i := 48) (by decide +kernel), by decide +kernel, by decide +kernel⟩
set_option maxRecDepth 20000 in
theorem mo_3_3 : Cond.methodLink "TextVerbs$Phrase" 3 objectInit ∈ lw_tbl := List.mem_of_getElem? (i := 391) (by decide +kernel)
set_option maxRecDepth 20000 in
theorem mo_3_29 : iMO 3 29 26 1 0 := ⟨Or.inr (List.mem_of_getElem? (i := 392) (by decide +kernel)), Or.inl ⟨rfl, List.mem_of_getElem? (i := 393) (by decide +kernel)⟩, List.mem_of_getElem? (i := 38) (by decide +kernel), by decide +kernel, by decide +kernel⟩
set_option maxRecDepth 20000 in
theorem mo_3_36 : iMO 3 36 41 2 3 := ⟨Or.inl (List.mem_of_getElem? (i := 465) (by decide +kernel)), Or.inr ⟨by decide, List.mem_of_getElem? (i := 466) (by decide +kernel), Or.inr (List.mem_of_getElem? (i := 467) (by decide +kernel))⟩, List.mem_of_getElem? (i := 51) (by decide +kernel), by decide +kernel, by decide +kernel⟩
set_option maxRecDepth 20000 in
theorem mo_3_44 : iMO 3 44 42 2 3 := ⟨Or.inl (List.mem_of_getElem? (i := 478) (by decide +kernel)), Or.inr ⟨by decide, List.mem_of_getElem? (i := 479) (by decide +kernel), Or.inr (List.mem_of_getElem? (i := 480) (by decide +kernel))⟩, List.mem_of_getElem? (i := 51) (by decide +kernel), by decide +kernel, by decide +kernel⟩
set_option maxRecDepth 20000 in
theorem mo_3_57 : iMO 3 57 35 3 2 := ⟨Or.inl (List.mem_of_getElem? (i := 495) (by decide +kernel)), Or.inr ⟨by decide, List.mem_of_getElem? (i := 474) (by decide +kernel), Or.inr (List.mem_of_getElem? (i := 475) (by decide +kernel))⟩, List.mem_of_getElem? (i := 48) (by decide +kernel), by decide +kernel, by decide +kernel⟩
set_option maxRecDepth 20000 in
theorem mo_4_3 : Cond.methodLink "TextVerbs$Inspection" 3 objectInit ∈ lw_tbl := List.mem_of_getElem? (i := 70) (by decide +kernel)
set_option maxRecDepth 20000 in
theorem mo_4_28 : iMO 4 28 38 2 2 := ⟨Or.inl (List.mem_of_getElem? (i := 453) (by decide +kernel)), Or.inr ⟨by decide, List.mem_of_getElem? (i := 454) (by decide +kernel), Or.inr (List.mem_of_getElem? (i := 455) (by decide +kernel))⟩, List.mem_of_getElem? (i := 48) (by decide +kernel), by decide +kernel, by decide +kernel⟩
set_option maxRecDepth 20000 in
theorem mo_4_34 : iMO 4 34 52 3 5 := ⟨Or.inl (List.mem_of_getElem? (i := 457) (by decide +kernel)), Or.inr ⟨by decide, List.mem_of_getElem? (i := 459) (by decide +kernel), Or.inr (List.mem_of_getElem? (i := 7) (by decide +kernel))⟩, List.mem_of_getElem? (i := 39) (by decide +kernel), by decide +kernel, by decide +kernel⟩
set_option maxRecDepth 20000 in
theorem mo_4_38 : iMO 4 38 34 1 2 := ⟨Or.inl (List.mem_of_getElem? (i := 482) (by decide +kernel)), Or.inr ⟨by decide, List.mem_of_getElem? (i := 321) (by decide +kernel), Or.inr (List.mem_of_getElem? (i := 322) (by decide +kernel))⟩, List.mem_of_getElem? (i := 48) (by decide +kernel), by decide +kernel, by decide +kernel⟩
set_option maxRecDepth 20000 in
theorem mo_4_42 : iMO 4 42 39 4 2 := ⟨Or.inl (List.mem_of_getElem? (i := 504) (by decide +kernel)), Or.inr ⟨by decide, List.mem_of_getElem? (i := 505) (by decide +kernel), Or.inr (List.mem_of_getElem? (i := 506) (by decide +kernel))⟩, List.mem_of_getElem? (i := 48) (by decide +kernel), by decide +kernel, by decide +kernel⟩
set_option maxRecDepth 20000 in
theorem mo_4_46 : iMO 4 46 45 2 4 := ⟨Or.inl (List.mem_of_getElem? (i := 461) (by decide +kernel)), Or.inr ⟨by decide, List.mem_of_getElem? (i := 462) (by decide +kernel), Or.inr (List.mem_of_getElem? (i := 463) (by decide +kernel))⟩, List.mem_of_getElem? (i := 50) (by decide +kernel), by decide +kernel, by decide +kernel⟩
set_option maxRecDepth 20000 in
theorem mo_4_50 : iMO 4 50 53 4 5 := ⟨Or.inl (List.mem_of_getElem? (i := 483) (by decide +kernel)), Or.inr ⟨by decide, List.mem_of_getElem? (i := 485) (by decide +kernel), Or.inr (List.mem_of_getElem? (i := 8) (by decide +kernel))⟩, List.mem_of_getElem? (i := 39) (by decide +kernel), by decide +kernel, by decide +kernel⟩
set_option maxRecDepth 20000 in
theorem mo_4_54 : iMO 4 54 47 2 4 := ⟨Or.inl (List.mem_of_getElem? (i := 496) (by decide +kernel)), Or.inr ⟨by decide, List.mem_of_getElem? (i := 497) (by decide +kernel), Or.inr (List.mem_of_getElem? (i := 498) (by decide +kernel))⟩, List.mem_of_getElem? (i := 50) (by decide +kernel), by decide +kernel, by decide +kernel⟩
set_option maxRecDepth 20000 in
theorem mo_4_58 : iMO 4 58 54 3 5 := ⟨Or.inl (List.mem_of_getElem? (i := 500) (by decide +kernel)), Or.inr ⟨by decide, List.mem_of_getElem? (i := 502) (by decide +kernel), Or.inr (List.mem_of_getElem? (i := 9) (by decide +kernel))⟩, List.mem_of_getElem? (i := 39) (by decide +kernel), by decide +kernel, by decide +kernel⟩
set_option maxRecDepth 20000 in
theorem mo_4_65 : iMO 4 65 44 1 4 := ⟨Or.inl (List.mem_of_getElem? (i := 487) (by decide +kernel)), Or.inr ⟨by decide, List.mem_of_getElem? (i := 488) (by decide +kernel), Or.inr (List.mem_of_getElem? (i := 489) (by decide +kernel))⟩, List.mem_of_getElem? (i := 50) (by decide +kernel), by decide +kernel, by decide +kernel⟩
set_option maxRecDepth 20000 in
theorem mo_4_69 : iMO 4 69 46 3 4 := ⟨Or.inl (List.mem_of_getElem? (i := 491) (by decide +kernel)), Or.inr ⟨by decide, List.mem_of_getElem? (i := 492) (by decide +kernel), Or.inr (List.mem_of_getElem? (i := 493) (by decide +kernel))⟩, List.mem_of_getElem? (i := 50) (by decide +kernel), by decide +kernel, by decide +kernel⟩
set_option maxRecDepth 20000 in
theorem mo_4_83 : iMO 4 83 41 2 3 := ⟨Or.inl (List.mem_of_getElem? (i := 520) (by decide +kernel)), Or.inr ⟨by decide, List.mem_of_getElem? (i := 466) (by decide +kernel), Or.inr (List.mem_of_getElem? (i := 467) (by decide +kernel))⟩, List.mem_of_getElem? (i := 51) (by decide +kernel), by decide +kernel, by decide +kernel⟩
set_option maxRecDepth 20000 in
theorem mo_4_89 : iMO 4 89 42 2 3 := ⟨Or.inl (List.mem_of_getElem? (i := 521) (by decide +kernel)), Or.inr ⟨by decide, List.mem_of_getElem? (i := 479) (by decide +kernel), Or.inr (List.mem_of_getElem? (i := 480) (by decide +kernel))⟩, List.mem_of_getElem? (i := 51) (by decide +kernel), by decide +kernel, by decide +kernel⟩
set_option maxRecDepth 20000 in
theorem mo_4_92 : iMO 4 92 37 2 2 := ⟨Or.inl (List.mem_of_getElem? (i := 522) (by decide +kernel)), Or.inr ⟨by decide, List.mem_of_getElem? (i := 523) (by decide +kernel), Or.inr (List.mem_of_getElem? (i := 524) (by decide +kernel))⟩, List.mem_of_getElem? (i := 48) (by decide +kernel), by decide +kernel, by decide +kernel⟩
set_option maxRecDepth 20000 in
theorem mo_5_3 : Cond.methodLink "TextVerbs$Part" 3 objectInit ∈ lw_tbl := List.mem_of_getElem? (i := 550) (by decide +kernel)
set_option maxRecDepth 20000 in
theorem mo_5_18 : iMO 5 18 36 2 2 := ⟨Or.inl (List.mem_of_getElem? (i := 583) (by decide +kernel)), Or.inr ⟨by decide, List.mem_of_getElem? (i := 470) (by decide +kernel), Or.inr (List.mem_of_getElem? (i := 471) (by decide +kernel))⟩, List.mem_of_getElem? (i := 48) (by decide +kernel), by decide +kernel, by decide +kernel⟩
set_option maxRecDepth 20000 in
theorem mo_5_24 : iMO 5 24 34 1 2 := ⟨Or.inl (List.mem_of_getElem? (i := 584) (by decide +kernel)), Or.inr ⟨by decide, List.mem_of_getElem? (i := 321) (by decide +kernel), Or.inr (List.mem_of_getElem? (i := 322) (by decide +kernel))⟩, List.mem_of_getElem? (i := 48) (by decide +kernel), by decide +kernel, by decide +kernel⟩
set_option maxRecDepth 20000 in
theorem mo_6_3 : Cond.methodLink "TextVerbs$Joining" 3 objectInit ∈ lw_tbl := List.mem_of_getElem? (i := 93) (by decide +kernel)
set_option maxRecDepth 20000 in
theorem mo_6_24 : iMO 6 24 34 1 2 := ⟨Or.inl (List.mem_of_getElem? (i := 574) (by decide +kernel)), Or.inr ⟨by decide, List.mem_of_getElem? (i := 321) (by decide +kernel), Or.inr (List.mem_of_getElem? (i := 322) (by decide +kernel))⟩, List.mem_of_getElem? (i := 48) (by decide +kernel), by decide +kernel, by decide +kernel⟩
set_option maxRecDepth 20000 in
theorem mo_6_30 : iMO 6 30 61 3 7 := ⟨Or.inl (List.mem_of_getElem? (i := 575) (by decide +kernel)), Or.inr ⟨by decide, List.mem_of_getElem? (i := 577) (by decide +kernel), Or.inr (List.mem_of_getElem? (i := 10) (by decide +kernel))⟩, List.mem_of_getElem? (i := 40) (by decide +kernel), by decide +kernel, by decide +kernel⟩
set_option maxRecDepth 20000 in
theorem mo_6_34 : iMO 6 34 57 1 6 := ⟨Or.inl (List.mem_of_getElem? (i := 579) (by decide +kernel)), Or.inr ⟨by decide, List.mem_of_getElem? (i := 580) (by decide +kernel), Or.inr (List.mem_of_getElem? (i := 581) (by decide +kernel))⟩, List.mem_of_getElem? (i := 52) (by decide +kernel), by decide +kernel, by decide +kernel⟩
set_option maxRecDepth 20000 in
theorem mo_7_3 : Cond.methodLink "TextVerbs$Splitting" 3 objectInit ∈ lw_tbl := List.mem_of_getElem? (i := 113) (by decide +kernel)
set_option maxRecDepth 20000 in
theorem mo_7_50 : iMO 7 50 34 1 2 := ⟨Or.inl (List.mem_of_getElem? (i := 620) (by decide +kernel)), Or.inr ⟨by decide, List.mem_of_getElem? (i := 321) (by decide +kernel), Or.inr (List.mem_of_getElem? (i := 322) (by decide +kernel))⟩, List.mem_of_getElem? (i := 48) (by decide +kernel), by decide +kernel, by decide +kernel⟩
set_option maxRecDepth 20000 in
theorem mo_7_54 : iMO 7 54 66 2 8 := ⟨Or.inl (List.mem_of_getElem? (i := 621) (by decide +kernel)), Or.inr ⟨by decide, List.mem_of_getElem? (i := 623) (by decide +kernel), Or.inr (List.mem_of_getElem? (i := 11) (by decide +kernel))⟩, List.mem_of_getElem? (i := 41) (by decide +kernel), by decide +kernel, by decide +kernel⟩
set_option maxRecDepth 20000 in
theorem mo_7_58 : iMO 7 58 72 2 8 := ⟨Or.inl (List.mem_of_getElem? (i := 649) (by decide +kernel)), Or.inr ⟨by decide, List.mem_of_getElem? (i := 651) (by decide +kernel), Or.inr (List.mem_of_getElem? (i := 17) (by decide +kernel))⟩, List.mem_of_getElem? (i := 41) (by decide +kernel), by decide +kernel, by decide +kernel⟩
set_option maxRecDepth 20000 in
theorem mo_7_61 : iMO 7 61 67 4 8 := ⟨Or.inl (List.mem_of_getElem? (i := 625) (by decide +kernel)), Or.inr ⟨by decide, List.mem_of_getElem? (i := 627) (by decide +kernel), Or.inr (List.mem_of_getElem? (i := 12) (by decide +kernel))⟩, List.mem_of_getElem? (i := 41) (by decide +kernel), by decide +kernel, by decide +kernel⟩
set_option maxRecDepth 20000 in
theorem mo_7_65 : iMO 7 65 68 4 8 := ⟨Or.inl (List.mem_of_getElem? (i := 636) (by decide +kernel)), Or.inr ⟨by decide, List.mem_of_getElem? (i := 638) (by decide +kernel), Or.inr (List.mem_of_getElem? (i := 14) (by decide +kernel))⟩, List.mem_of_getElem? (i := 41) (by decide +kernel), by decide +kernel, by decide +kernel⟩
set_option maxRecDepth 20000 in
theorem mo_7_68 : iMO 7 68 139 2 0 := ⟨Or.inl (List.mem_of_getElem? (i := 629) (by decide +kernel)), Or.inl ⟨rfl, List.mem_of_getElem? (i := 630) (by decide +kernel)⟩, List.mem_of_getElem? (i := 53) (by decide +kernel), by decide +kernel, by decide +kernel⟩
set_option maxRecDepth 20000 in
theorem mo_7_74 : iMO 7 74 69 5 8 := ⟨Or.inl (List.mem_of_getElem? (i := 632) (by decide +kernel)), Or.inr ⟨by decide, List.mem_of_getElem? (i := 634) (by decide +kernel), Or.inr (List.mem_of_getElem? (i := 13) (by decide +kernel))⟩, List.mem_of_getElem? (i := 41) (by decide +kernel), by decide +kernel, by decide +kernel⟩
set_option maxRecDepth 20000 in
theorem mo_7_78 : iMO 7 78 70 3 8 := ⟨Or.inl (List.mem_of_getElem? (i := 640) (by decide +kernel)), Or.inr ⟨by decide, List.mem_of_getElem? (i := 642) (by decide +kernel), Or.inr (List.mem_of_getElem? (i := 15) (by decide +kernel))⟩, List.mem_of_getElem? (i := 41) (by decide +kernel), by decide +kernel, by decide +kernel⟩
set_option maxRecDepth 20000 in
theorem mo_7_82 : iMO 7 82 71 4 8 := ⟨Or.inl (List.mem_of_getElem? (i := 645) (by decide +kernel)), Or.inr ⟨by decide, List.mem_of_getElem? (i := 647) (by decide +kernel), Or.inr (List.mem_of_getElem? (i := 16) (by decide +kernel))⟩, List.mem_of_getElem? (i := 41) (by decide +kernel), by decide +kernel, by decide +kernel⟩
set_option maxRecDepth 20000 in
theorem mo_7_85 : iMO 7 85 35 3 2 := ⟨Or.inl (List.mem_of_getElem? (i := 644) (by decide +kernel)), Or.inr ⟨by decide, List.mem_of_getElem? (i := 474) (by decide +kernel), Or.inr (List.mem_of_getElem? (i := 475) (by decide +kernel))⟩, List.mem_of_getElem? (i := 48) (by decide +kernel), by decide +kernel, by decide +kernel⟩
set_option maxRecDepth 20000 in
theorem mo_7_89 : iMO 7 89 38 2 2 := ⟨Or.inl (List.mem_of_getElem? (i := 653) (by decide +kernel)), Or.inr ⟨by decide, List.mem_of_getElem? (i := 454) (by decide +kernel), Or.inr (List.mem_of_getElem? (i := 455) (by decide +kernel))⟩, List.mem_of_getElem? (i := 48) (by decide +kernel), by decide +kernel, by decide +kernel⟩
set_option maxRecDepth 20000 in
theorem mo_7_93 : iMO 7 93 39 4 2 := ⟨Or.inl (List.mem_of_getElem? (i := 654) (by decide +kernel)), Or.inr ⟨by decide, List.mem_of_getElem? (i := 505) (by decide +kernel), Or.inr (List.mem_of_getElem? (i := 506) (by decide +kernel))⟩, List.mem_of_getElem? (i := 48) (by decide +kernel), by decide +kernel, by decide +kernel⟩
set_option maxRecDepth 20000 in
theorem mo_8_1 : Cond.methodLink "TextVerbs$Table" 1 objectInit ∈ lw_tbl := List.mem_of_getElem? (i := 668) (by decide +kernel)
set_option maxRecDepth 20000 in
theorem mo_8_17 : iMO 8 17 77 3 0 := ⟨Or.inl (List.mem_of_getElem? (i := 728) (by decide +kernel)), Or.inl ⟨rfl, List.mem_of_getElem? (i := 729) (by decide +kernel)⟩, List.mem_of_getElem? (i := 54) (by decide +kernel), by decide +kernel, by decide +kernel⟩
set_option maxRecDepth 20000 in
theorem mo_9_1 : Cond.methodLink "TextVerbsModel" 1 objectInit ∈ lw_tbl := List.mem_of_getElem? (i := 736) (by decide +kernel)
set_option maxRecDepth 20000 in
theorem mo_9_93 : iMO 9 93 81 2 10 := ⟨Or.inl (List.mem_of_getElem? (i := 857) (by decide +kernel)), Or.inr ⟨by decide, List.mem_of_getElem? (i := 859) (by decide +kernel), Or.inr (List.mem_of_getElem? (i := 22) (by decide +kernel))⟩, List.mem_of_getElem? (i := 42) (by decide +kernel), by decide +kernel, by decide +kernel⟩
set_option maxRecDepth 20000 in
theorem mo_9_97 : iMO 9 97 80 3 10 := ⟨Or.inl (List.mem_of_getElem? (i := 845) (by decide +kernel)), Or.inr ⟨by decide, List.mem_of_getElem? (i := 847) (by decide +kernel), Or.inr (List.mem_of_getElem? (i := 20) (by decide +kernel))⟩, List.mem_of_getElem? (i := 42) (by decide +kernel), by decide +kernel, by decide +kernel⟩
set_option maxRecDepth 20000 in
theorem mo_9_101 : iMO 9 101 84 3 10 := ⟨Or.inl (List.mem_of_getElem? (i := 853) (by decide +kernel)), Or.inr ⟨by decide, List.mem_of_getElem? (i := 855) (by decide +kernel), Or.inr (List.mem_of_getElem? (i := 21) (by decide +kernel))⟩, List.mem_of_getElem? (i := 42) (by decide +kernel), by decide +kernel, by decide +kernel⟩
set_option maxRecDepth 20000 in
theorem mo_9_105 : iMO 9 105 88 6 10 := ⟨Or.inl (List.mem_of_getElem? (i := 905) (by decide +kernel)), Or.inr ⟨by decide, List.mem_of_getElem? (i := 907) (by decide +kernel), Or.inr (List.mem_of_getElem? (i := 29) (by decide +kernel))⟩, List.mem_of_getElem? (i := 42) (by decide +kernel), by decide +kernel, by decide +kernel⟩
set_option maxRecDepth 20000 in
theorem mo_9_109 : iMO 9 109 82 2 10 := ⟨Or.inl (List.mem_of_getElem? (i := 869) (by decide +kernel)), Or.inr ⟨by decide, List.mem_of_getElem? (i := 871) (by decide +kernel), Or.inr (List.mem_of_getElem? (i := 23) (by decide +kernel))⟩, List.mem_of_getElem? (i := 42) (by decide +kernel), by decide +kernel, by decide +kernel⟩
set_option maxRecDepth 20000 in
theorem mo_9_115 : iMO 9 115 91 4 10 := ⟨Or.inl (List.mem_of_getElem? (i := 877) (by decide +kernel)), Or.inr ⟨by decide, List.mem_of_getElem? (i := 879) (by decide +kernel), Or.inr (List.mem_of_getElem? (i := 24) (by decide +kernel))⟩, List.mem_of_getElem? (i := 42) (by decide +kernel), by decide +kernel, by decide +kernel⟩
set_option maxRecDepth 20000 in
theorem mo_9_119 : iMO 9 119 89 4 10 := ⟨Or.inl (List.mem_of_getElem? (i := 901) (by decide +kernel)), Or.inr ⟨by decide, List.mem_of_getElem? (i := 903) (by decide +kernel), Or.inr (List.mem_of_getElem? (i := 28) (by decide +kernel))⟩, List.mem_of_getElem? (i := 42) (by decide +kernel), by decide +kernel, by decide +kernel⟩
set_option maxRecDepth 20000 in
theorem mo_9_123 : iMO 9 123 87 1 10 := ⟨Or.inl (List.mem_of_getElem? (i := 893) (by decide +kernel)), Or.inr ⟨by decide, List.mem_of_getElem? (i := 895) (by decide +kernel), Or.inr (List.mem_of_getElem? (i := 26) (by decide +kernel))⟩, List.mem_of_getElem? (i := 42) (by decide +kernel), by decide +kernel, by decide +kernel⟩
set_option maxRecDepth 20000 in
theorem mo_9_126 : iMO 9 126 94 3 10 := ⟨Or.inl (List.mem_of_getElem? (i := 897) (by decide +kernel)), Or.inr ⟨by decide, List.mem_of_getElem? (i := 899) (by decide +kernel), Or.inr (List.mem_of_getElem? (i := 27) (by decide +kernel))⟩, List.mem_of_getElem? (i := 42) (by decide +kernel), by decide +kernel, by decide +kernel⟩
set_option maxRecDepth 20000 in
theorem mo_9_130 : iMO 9 130 95 3 10 := ⟨Or.inl (List.mem_of_getElem? (i := 909) (by decide +kernel)), Or.inr ⟨by decide, List.mem_of_getElem? (i := 911) (by decide +kernel), Or.inr (List.mem_of_getElem? (i := 30) (by decide +kernel))⟩, List.mem_of_getElem? (i := 42) (by decide +kernel), by decide +kernel, by decide +kernel⟩
set_option maxRecDepth 20000 in
theorem mo_9_133 : iMO 9 133 96 4 10 := ⟨Or.inl (List.mem_of_getElem? (i := 913) (by decide +kernel)), Or.inr ⟨by decide, List.mem_of_getElem? (i := 915) (by decide +kernel), Or.inr (List.mem_of_getElem? (i := 31) (by decide +kernel))⟩, List.mem_of_getElem? (i := 42) (by decide +kernel), by decide +kernel, by decide +kernel⟩
set_option maxRecDepth 20000 in
theorem mo_9_137 : iMO 9 137 98 6 10 := ⟨Or.inl (List.mem_of_getElem? (i := 917) (by decide +kernel)), Or.inr ⟨by decide, List.mem_of_getElem? (i := 919) (by decide +kernel), Or.inr (List.mem_of_getElem? (i := 32) (by decide +kernel))⟩, List.mem_of_getElem? (i := 42) (by decide +kernel), by decide +kernel, by decide +kernel⟩
set_option maxRecDepth 20000 in
theorem mo_9_141 : iMO 9 141 97 3 10 := ⟨Or.inl (List.mem_of_getElem? (i := 889) (by decide +kernel)), Or.inr ⟨by decide, List.mem_of_getElem? (i := 891) (by decide +kernel), Or.inr (List.mem_of_getElem? (i := 25) (by decide +kernel))⟩, List.mem_of_getElem? (i := 42) (by decide +kernel), by decide +kernel, by decide +kernel⟩
set_option maxRecDepth 20000 in
theorem mo_9_157 : iMO 9 157 106 3 10 := ⟨Or.inl (List.mem_of_getElem? (i := 949) (by decide +kernel)), Or.inr ⟨by decide, List.mem_of_getElem? (i := 951) (by decide +kernel), Or.inr (List.mem_of_getElem? (i := 33) (by decide +kernel))⟩, List.mem_of_getElem? (i := 42) (by decide +kernel), by decide +kernel, by decide +kernel⟩
set_option maxRecDepth 20000 in
theorem mo_9_160 : iMO 9 160 107 5 10 := ⟨Or.inl (List.mem_of_getElem? (i := 953) (by decide +kernel)), Or.inr ⟨by decide, List.mem_of_getElem? (i := 955) (by decide +kernel), Or.inr (List.mem_of_getElem? (i := 34) (by decide +kernel))⟩, List.mem_of_getElem? (i := 42) (by decide +kernel), by decide +kernel, by decide +kernel⟩
set_option maxRecDepth 20000 in
theorem mo_9_167 : iMO 9 167 112 2 10 := ⟨Or.inl (List.mem_of_getElem? (i := 977) (by decide +kernel)), Or.inr ⟨by decide, List.mem_of_getElem? (i := 979) (by decide +kernel), Or.inr (List.mem_of_getElem? (i := 36) (by decide +kernel))⟩, List.mem_of_getElem? (i := 42) (by decide +kernel), by decide +kernel, by decide +kernel⟩
set_option maxRecDepth 20000 in
theorem mo_9_170 : iMO 9 170 113 3 10 := ⟨Or.inl (List.mem_of_getElem? (i := 973) (by decide +kernel)), Or.inr ⟨by decide, List.mem_of_getElem? (i := 975) (by decide +kernel), Or.inr (List.mem_of_getElem? (i := 35) (by decide +kernel))⟩, List.mem_of_getElem? (i := 42) (by decide +kernel), by decide +kernel, by decide +kernel⟩
set_option maxRecDepth 20000 in
theorem mo_10_7 : iMO 10 7 1 2 1 := ⟨Or.inl (List.mem_of_getElem? (i := 202) (by decide +kernel)), Or.inr ⟨by decide, List.mem_of_getElem? (i := 203) (by decide +kernel), Or.inr (List.mem_of_getElem? (i := 204) (by decide +kernel))⟩, List.mem_of_getElem? (i := 38) (by decide +kernel), by decide +kernel, by decide +kernel⟩
set_option maxRecDepth 20000 in
theorem mo_10_17 : iMO 10 17 2 4 1 := ⟨Or.inl (List.mem_of_getElem? (i := 307) (by decide +kernel)), Or.inr ⟨by decide, List.mem_of_getElem? (i := 308) (by decide +kernel), Or.inr (List.mem_of_getElem? (i := 309) (by decide +kernel))⟩, List.mem_of_getElem? (i := 38) (by decide +kernel), by decide +kernel, by decide +kernel⟩
set_option maxRecDepth 20000 in
theorem mo_10_21 : iMO 10 21 3 3 1 := ⟨Or.inl (List.mem_of_getElem? (i := 329) (by decide +kernel)), Or.inr ⟨by decide, List.mem_of_getElem? (i := 330) (by decide +kernel), Or.inr (List.mem_of_getElem? (i := 331) (by decide +kernel))⟩, List.mem_of_getElem? (i := 38) (by decide +kernel), by decide +kernel, by decide +kernel⟩
set_option maxRecDepth 20000 in
theorem mo_10_25 : iMO 10 25 4 3 1 := ⟨Or.inl (List.mem_of_getElem? (i := 336) (by decide +kernel)), Or.inr ⟨by decide, List.mem_of_getElem? (i := 337) (by decide +kernel), Or.inr (List.mem_of_getElem? (i := 338) (by decide +kernel))⟩, List.mem_of_getElem? (i := 38) (by decide +kernel), by decide +kernel, by decide +kernel⟩
set_option maxRecDepth 20000 in
theorem mo_10_29 : iMO 10 29 5 4 1 := ⟨Or.inl (List.mem_of_getElem? (i := 348) (by decide +kernel)), Or.inr ⟨by decide, List.mem_of_getElem? (i := 349) (by decide +kernel), Or.inr (List.mem_of_getElem? (i := 350) (by decide +kernel))⟩, List.mem_of_getElem? (i := 38) (by decide +kernel), by decide +kernel, by decide +kernel⟩
set_option maxRecDepth 20000 in
theorem mo_10_33 : iMO 10 33 6 4 1 := ⟨Or.inl (List.mem_of_getElem? (i := 436) (by decide +kernel)), Or.inr ⟨by decide, List.mem_of_getElem? (i := 437) (by decide +kernel), Or.inr (List.mem_of_getElem? (i := 438) (by decide +kernel))⟩, List.mem_of_getElem? (i := 38) (by decide +kernel), by decide +kernel, by decide +kernel⟩
set_option maxRecDepth 20000 in
theorem mo_10_36 : iMO 10 36 7 2 1 := ⟨Or.inl (List.mem_of_getElem? (i := 445) (by decide +kernel)), Or.inr ⟨by decide, List.mem_of_getElem? (i := 446) (by decide +kernel), Or.inr (List.mem_of_getElem? (i := 447) (by decide +kernel))⟩, List.mem_of_getElem? (i := 38) (by decide +kernel), by decide +kernel, by decide +kernel⟩
set_option maxRecDepth 20000 in
theorem mo_10_39 : iMO 10 39 8 4 1 := ⟨Or.inl (List.mem_of_getElem? (i := 511) (by decide +kernel)), Or.inr ⟨by decide, List.mem_of_getElem? (i := 512) (by decide +kernel), Or.inr (List.mem_of_getElem? (i := 513) (by decide +kernel))⟩, List.mem_of_getElem? (i := 38) (by decide +kernel), by decide +kernel, by decide +kernel⟩
set_option maxRecDepth 20000 in
theorem mo_10_42 : iMO 10 42 9 2 1 := ⟨Or.inl (List.mem_of_getElem? (i := 529) (by decide +kernel)), Or.inr ⟨by decide, List.mem_of_getElem? (i := 530) (by decide +kernel), Or.inr (List.mem_of_getElem? (i := 531) (by decide +kernel))⟩, List.mem_of_getElem? (i := 38) (by decide +kernel), by decide +kernel, by decide +kernel⟩
set_option maxRecDepth 20000 in
theorem mo_10_45 : iMO 10 45 10 3 1 := ⟨Or.inl (List.mem_of_getElem? (i := 540) (by decide +kernel)), Or.inr ⟨by decide, List.mem_of_getElem? (i := 541) (by decide +kernel), Or.inr (List.mem_of_getElem? (i := 542) (by decide +kernel))⟩, List.mem_of_getElem? (i := 38) (by decide +kernel), by decide +kernel, by decide +kernel⟩
set_option maxRecDepth 20000 in
theorem mo_10_48 : iMO 10 48 11 3 1 := ⟨Or.inl (List.mem_of_getElem? (i := 566) (by decide +kernel)), Or.inr ⟨by decide, List.mem_of_getElem? (i := 567) (by decide +kernel), Or.inr (List.mem_of_getElem? (i := 568) (by decide +kernel))⟩, List.mem_of_getElem? (i := 38) (by decide +kernel), by decide +kernel, by decide +kernel⟩
set_option maxRecDepth 20000 in
theorem mo_10_51 : iMO 10 51 12 3 1 := ⟨Or.inl (List.mem_of_getElem? (i := 588) (by decide +kernel)), Or.inr ⟨by decide, List.mem_of_getElem? (i := 589) (by decide +kernel), Or.inr (List.mem_of_getElem? (i := 590) (by decide +kernel))⟩, List.mem_of_getElem? (i := 38) (by decide +kernel), by decide +kernel, by decide +kernel⟩
set_option maxRecDepth 20000 in
theorem mo_10_55 : iMO 10 55 13 2 1 := ⟨Or.inl (List.mem_of_getElem? (i := 600) (by decide +kernel)), Or.inr ⟨by decide, List.mem_of_getElem? (i := 601) (by decide +kernel), Or.inr (List.mem_of_getElem? (i := 602) (by decide +kernel))⟩, List.mem_of_getElem? (i := 38) (by decide +kernel), by decide +kernel, by decide +kernel⟩
set_option maxRecDepth 20000 in
theorem mo_10_58 : iMO 10 58 14 3 1 := ⟨Or.inl (List.mem_of_getElem? (i := 612) (by decide +kernel)), Or.inr ⟨by decide, List.mem_of_getElem? (i := 613) (by decide +kernel), Or.inr (List.mem_of_getElem? (i := 614) (by decide +kernel))⟩, List.mem_of_getElem? (i := 38) (by decide +kernel), by decide +kernel, by decide +kernel⟩
set_option maxRecDepth 20000 in
theorem mo_10_61 : iMO 10 61 17 2 1 := ⟨Or.inl (List.mem_of_getElem? (i := 658) (by decide +kernel)), Or.inr ⟨by decide, List.mem_of_getElem? (i := 659) (by decide +kernel), Or.inr (List.mem_of_getElem? (i := 660) (by decide +kernel))⟩, List.mem_of_getElem? (i := 38) (by decide +kernel), by decide +kernel, by decide +kernel⟩
set_option maxRecDepth 20000 in
theorem mo_10_64 : iMO 10 64 18 4 1 := ⟨Or.inl (List.mem_of_getElem? (i := 681) (by decide +kernel)), Or.inr ⟨by decide, List.mem_of_getElem? (i := 682) (by decide +kernel), Or.inr (List.mem_of_getElem? (i := 683) (by decide +kernel))⟩, List.mem_of_getElem? (i := 38) (by decide +kernel), by decide +kernel, by decide +kernel⟩
set_option maxRecDepth 20000 in
theorem mo_10_67 : iMO 10 67 19 3 1 := ⟨Or.inl (List.mem_of_getElem? (i := 698) (by decide +kernel)), Or.inr ⟨by decide, List.mem_of_getElem? (i := 699) (by decide +kernel), Or.inr (List.mem_of_getElem? (i := 700) (by decide +kernel))⟩, List.mem_of_getElem? (i := 38) (by decide +kernel), by decide +kernel, by decide +kernel⟩
set_option maxRecDepth 20000 in
theorem mo_10_70 : iMO 10 70 20 4 1 := ⟨Or.inl (List.mem_of_getElem? (i := 705) (by decide +kernel)), Or.inr ⟨by decide, List.mem_of_getElem? (i := 706) (by decide +kernel), Or.inr (List.mem_of_getElem? (i := 707) (by decide +kernel))⟩, List.mem_of_getElem? (i := 38) (by decide +kernel), by decide +kernel, by decide +kernel⟩
set_option maxRecDepth 20000 in
theorem mo_10_74 : iMO 10 74 21 3 1 := ⟨Or.inl (List.mem_of_getElem? (i := 720) (by decide +kernel)), Or.inr ⟨by decide, List.mem_of_getElem? (i := 721) (by decide +kernel), Or.inr (List.mem_of_getElem? (i := 722) (by decide +kernel))⟩, List.mem_of_getElem? (i := 38) (by decide +kernel), by decide +kernel, by decide +kernel⟩
set_option maxRecDepth 20000 in
theorem mo_10_78 : iMO 10 78 0 1 1 := ⟨Or.inl (List.mem_of_getElem? (i := 57) (by decide +kernel)), Or.inr ⟨by decide, List.mem_of_getElem? (i := 58) (by decide +kernel), Or.inl rfl⟩, List.mem_of_getElem? (i := 38) (by decide +kernel), by decide +kernel, by decide +kernel⟩
set_option maxRecDepth 20000 in
theorem mo_10_81 : iMO 10 81 78 1 10 := ⟨Or.inl (List.mem_of_getElem? (i := 733) (by decide +kernel)), Or.inr ⟨by decide, List.mem_of_getElem? (i := 734) (by decide +kernel), Or.inl rfl⟩, List.mem_of_getElem? (i := 42) (by decide +kernel), by decide +kernel, by decide +kernel⟩
set_option maxRecDepth 20000 in
theorem mo_10_82 : iMO 10 82 118 3 0 := ⟨Or.inl (List.mem_of_getElem? (i := 197) (by decide +kernel)), Or.inl ⟨rfl, List.mem_of_getElem? (i := 198) (by decide +kernel)⟩, List.mem_of_getElem? (i := 37) (by decide +kernel), by decide +kernel, by decide +kernel⟩
set_option maxRecDepth 20000 in
theorem mo_10_87 : iMO 10 87 83 2 10 := ⟨Or.inl (List.mem_of_getElem? (i := 841) (by decide +kernel)), Or.inr ⟨by decide, List.mem_of_getElem? (i := 842) (by decide +kernel), Or.inr (List.mem_of_getElem? (i := 843) (by decide +kernel))⟩, List.mem_of_getElem? (i := 42) (by decide +kernel), by decide +kernel, by decide +kernel⟩
set_option maxRecDepth 20000 in
theorem mo_10_88 : iMO 10 88 79 1 10 := ⟨Or.inl (List.mem_of_getElem? (i := 837) (by decide +kernel)), Or.inr ⟨by decide, List.mem_of_getElem? (i := 838) (by decide +kernel), Or.inr (List.mem_of_getElem? (i := 839) (by decide +kernel))⟩, List.mem_of_getElem? (i := 42) (by decide +kernel), by decide +kernel, by decide +kernel⟩
set_option maxRecDepth 20000 in
theorem mo_10_92 : iMO 10 92 119 4 0 := ⟨Or.inl (List.mem_of_getElem? (i := 304) (by decide +kernel)), Or.inl ⟨rfl, List.mem_of_getElem? (i := 305) (by decide +kernel)⟩, List.mem_of_getElem? (i := 37) (by decide +kernel), by decide +kernel, by decide +kernel⟩
set_option maxRecDepth 20000 in
theorem mo_10_95 : iMO 10 95 85 4 10 := ⟨Or.inl (List.mem_of_getElem? (i := 849) (by decide +kernel)), Or.inr ⟨by decide, List.mem_of_getElem? (i := 850) (by decide +kernel), Or.inr (List.mem_of_getElem? (i := 851) (by decide +kernel))⟩, List.mem_of_getElem? (i := 42) (by decide +kernel), by decide +kernel, by decide +kernel⟩
set_option maxRecDepth 20000 in
theorem mo_10_96 : iMO 10 96 120 4 0 := ⟨Or.inl (List.mem_of_getElem? (i := 326) (by decide +kernel)), Or.inl ⟨rfl, List.mem_of_getElem? (i := 327) (by decide +kernel)⟩, List.mem_of_getElem? (i := 37) (by decide +kernel), by decide +kernel, by decide +kernel⟩
set_option maxRecDepth 20000 in
theorem mo_10_99 : iMO 10 99 86 3 10 := ⟨Or.inl (List.mem_of_getElem? (i := 861) (by decide +kernel)), Or.inr ⟨by decide, List.mem_of_getElem? (i := 862) (by decide +kernel), Or.inr (List.mem_of_getElem? (i := 863) (by decide +kernel))⟩, List.mem_of_getElem? (i := 42) (by decide +kernel), by decide +kernel, by decide +kernel⟩
set_option maxRecDepth 20000 in
theorem mo_10_100 : iMO 10 100 121 3 0 := ⟨Or.inl (List.mem_of_getElem? (i := 333) (by decide +kernel)), Or.inl ⟨rfl, List.mem_of_getElem? (i := 334) (by decide +kernel)⟩, List.mem_of_getElem? (i := 37) (by decide +kernel), by decide +kernel, by decide +kernel⟩
set_option maxRecDepth 20000 in
theorem mo_10_103 : iMO 10 103 90 3 10 := ⟨Or.inl (List.mem_of_getElem? (i := 865) (by decide +kernel)), Or.inr ⟨by decide, List.mem_of_getElem? (i := 866) (by decide +kernel), Or.inr (List.mem_of_getElem? (i := 867) (by decide +kernel))⟩, List.mem_of_getElem? (i := 42) (by decide +kernel), by decide +kernel, by decide +kernel⟩
set_option maxRecDepth 20000 in
theorem mo_10_104 : iMO 10 104 122 5 0 := ⟨Or.inl (List.mem_of_getElem? (i := 345) (by decide +kernel)), Or.inl ⟨rfl, List.mem_of_getElem? (i := 346) (by decide +kernel)⟩, List.mem_of_getElem? (i := 37) (by decide +kernel), by decide +kernel, by decide +kernel⟩
set_option maxRecDepth 20000 in
theorem mo_10_107 : iMO 10 107 92 4 10 := ⟨Or.inl (List.mem_of_getElem? (i := 873) (by decide +kernel)), Or.inr ⟨by decide, List.mem_of_getElem? (i := 874) (by decide +kernel), Or.inr (List.mem_of_getElem? (i := 875) (by decide +kernel))⟩, List.mem_of_getElem? (i := 42) (by decide +kernel), by decide +kernel, by decide +kernel⟩
set_option maxRecDepth 20000 in
theorem mo_10_108 : iMO 10 108 123 5 0 := ⟨Or.inl (List.mem_of_getElem? (i := 433) (by decide +kernel)), Or.inl ⟨rfl, List.mem_of_getElem? (i := 434) (by decide +kernel)⟩, List.mem_of_getElem? (i := 37) (by decide +kernel), by decide +kernel, by decide +kernel⟩
set_option maxRecDepth 20000 in
theorem mo_10_110 : iMO 10 110 93 4 10 := ⟨Or.inl (List.mem_of_getElem? (i := 881) (by decide +kernel)), Or.inr ⟨by decide, List.mem_of_getElem? (i := 882) (by decide +kernel), Or.inr (List.mem_of_getElem? (i := 883) (by decide +kernel))⟩, List.mem_of_getElem? (i := 42) (by decide +kernel), by decide +kernel, by decide +kernel⟩
set_option maxRecDepth 20000 in
theorem mo_10_111 : iMO 10 111 124 3 0 := ⟨Or.inl (List.mem_of_getElem? (i := 442) (by decide +kernel)), Or.inl ⟨rfl, List.mem_of_getElem? (i := 443) (by decide +kernel)⟩, List.mem_of_getElem? (i := 37) (by decide +kernel), by decide +kernel, by decide +kernel⟩
set_option maxRecDepth 20000 in
theorem mo_10_113 : iMO 10 113 99 2 10 := ⟨Or.inl (List.mem_of_getElem? (i := 885) (by decide +kernel)), Or.inr ⟨by decide, List.mem_of_getElem? (i := 886) (by decide +kernel), Or.inr (List.mem_of_getElem? (i := 887) (by decide +kernel))⟩, List.mem_of_getElem? (i := 42) (by decide +kernel), by decide +kernel, by decide +kernel⟩
set_option maxRecDepth 20000 in
theorem mo_10_114 : iMO 10 114 125 5 0 := ⟨Or.inl (List.mem_of_getElem? (i := 508) (by decide +kernel)), Or.inl ⟨rfl, List.mem_of_getElem? (i := 509) (by decide +kernel)⟩, List.mem_of_getElem? (i := 37) (by decide +kernel), by decide +kernel, by decide +kernel⟩
set_option maxRecDepth 20000 in
theorem mo_10_116 : iMO 10 116 100 4 10 := ⟨Or.inl (List.mem_of_getElem? (i := 921) (by decide +kernel)), Or.inr ⟨by decide, List.mem_of_getElem? (i := 922) (by decide +kernel), Or.inr (List.mem_of_getElem? (i := 923) (by decide +kernel))⟩, List.mem_of_getElem? (i := 42) (by decide +kernel), by decide +kernel, by decide +kernel⟩
set_option maxRecDepth 20000 in
theorem mo_10_117 : iMO 10 117 126 3 0 := ⟨Or.inl (List.mem_of_getElem? (i := 526) (by decide +kernel)), Or.inl ⟨rfl, List.mem_of_getElem? (i := 527) (by decide +kernel)⟩, List.mem_of_getElem? (i := 37) (by decide +kernel), by decide +kernel, by decide +kernel⟩
set_option maxRecDepth 20000 in
theorem mo_10_119 : iMO 10 119 101 2 10 := ⟨Or.inl (List.mem_of_getElem? (i := 925) (by decide +kernel)), Or.inr ⟨by decide, List.mem_of_getElem? (i := 926) (by decide +kernel), Or.inr (List.mem_of_getElem? (i := 927) (by decide +kernel))⟩, List.mem_of_getElem? (i := 42) (by decide +kernel), by decide +kernel, by decide +kernel⟩
set_option maxRecDepth 20000 in
theorem mo_10_120 : iMO 10 120 127 4 0 := ⟨Or.inl (List.mem_of_getElem? (i := 537) (by decide +kernel)), Or.inl ⟨rfl, List.mem_of_getElem? (i := 538) (by decide +kernel)⟩, List.mem_of_getElem? (i := 37) (by decide +kernel), by decide +kernel, by decide +kernel⟩
set_option maxRecDepth 20000 in
theorem mo_10_122 : iMO 10 122 102 3 10 := ⟨Or.inl (List.mem_of_getElem? (i := 929) (by decide +kernel)), Or.inr ⟨by decide, List.mem_of_getElem? (i := 930) (by decide +kernel), Or.inr (List.mem_of_getElem? (i := 931) (by decide +kernel))⟩, List.mem_of_getElem? (i := 42) (by decide +kernel), by decide +kernel, by decide +kernel⟩
set_option maxRecDepth 20000 in
theorem mo_10_123 : iMO 10 123 128 4 0 := ⟨Or.inl (List.mem_of_getElem? (i := 563) (by decide +kernel)), Or.inl ⟨rfl, List.mem_of_getElem? (i := 564) (by decide +kernel)⟩, List.mem_of_getElem? (i := 37) (by decide +kernel), by decide +kernel, by decide +kernel⟩
set_option maxRecDepth 20000 in
theorem mo_10_125 : iMO 10 125 103 3 10 := ⟨Or.inl (List.mem_of_getElem? (i := 933) (by decide +kernel)), Or.inr ⟨by decide, List.mem_of_getElem? (i := 934) (by decide +kernel), Or.inr (List.mem_of_getElem? (i := 935) (by decide +kernel))⟩, List.mem_of_getElem? (i := 42) (by decide +kernel), by decide +kernel, by decide +kernel⟩
set_option maxRecDepth 20000 in
theorem mo_10_126 : iMO 10 126 129 4 0 := ⟨Or.inl (List.mem_of_getElem? (i := 585) (by decide +kernel)), Or.inl ⟨rfl, List.mem_of_getElem? (i := 586) (by decide +kernel)⟩, List.mem_of_getElem? (i := 37) (by decide +kernel), by decide +kernel, by decide +kernel⟩
set_option maxRecDepth 20000 in
theorem mo_10_129 : iMO 10 129 104 3 10 := ⟨Or.inl (List.mem_of_getElem? (i := 937) (by decide +kernel)), Or.inr ⟨by decide, List.mem_of_getElem? (i := 938) (by decide +kernel), Or.inr (List.mem_of_getElem? (i := 939) (by decide +kernel))⟩, List.mem_of_getElem? (i := 42) (by decide +kernel), by decide +kernel, by decide +kernel⟩
set_option maxRecDepth 20000 in
theorem mo_10_130 : iMO 10 130 130 3 0 := ⟨Or.inl (List.mem_of_getElem? (i := 597) (by decide +kernel)), Or.inl ⟨rfl, List.mem_of_getElem? (i := 598) (by decide +kernel)⟩, List.mem_of_getElem? (i := 37) (by decide +kernel), by decide +kernel, by decide +kernel⟩
set_option maxRecDepth 20000 in
theorem mo_10_132 : iMO 10 132 105 2 10 := ⟨Or.inl (List.mem_of_getElem? (i := 941) (by decide +kernel)), Or.inr ⟨by decide, List.mem_of_getElem? (i := 942) (by decide +kernel), Or.inr (List.mem_of_getElem? (i := 943) (by decide +kernel))⟩, List.mem_of_getElem? (i := 42) (by decide +kernel), by decide +kernel, by decide +kernel⟩
set_option maxRecDepth 20000 in
theorem mo_10_133 : iMO 10 133 131 4 0 := ⟨Or.inl (List.mem_of_getElem? (i := 609) (by decide +kernel)), Or.inl ⟨rfl, List.mem_of_getElem? (i := 610) (by decide +kernel)⟩, List.mem_of_getElem? (i := 37) (by decide +kernel), by decide +kernel, by decide +kernel⟩
set_option maxRecDepth 20000 in
theorem mo_10_135 : iMO 10 135 108 3 10 := ⟨Or.inl (List.mem_of_getElem? (i := 945) (by decide +kernel)), Or.inr ⟨by decide, List.mem_of_getElem? (i := 946) (by decide +kernel), Or.inr (List.mem_of_getElem? (i := 947) (by decide +kernel))⟩, List.mem_of_getElem? (i := 42) (by decide +kernel), by decide +kernel, by decide +kernel⟩
set_option maxRecDepth 20000 in
theorem mo_10_136 : iMO 10 136 15 3 1 := ⟨Or.inl (List.mem_of_getElem? (i := 189) (by decide +kernel)), Or.inr ⟨by decide, List.mem_of_getElem? (i := 190) (by decide +kernel), Or.inr (List.mem_of_getElem? (i := 191) (by decide +kernel))⟩, List.mem_of_getElem? (i := 38) (by decide +kernel), by decide +kernel, by decide +kernel⟩
set_option maxRecDepth 20000 in
theorem mo_10_139 : iMO 10 139 109 3 10 := ⟨Or.inl (List.mem_of_getElem? (i := 957) (by decide +kernel)), Or.inr ⟨by decide, List.mem_of_getElem? (i := 958) (by decide +kernel), Or.inr (List.mem_of_getElem? (i := 959) (by decide +kernel))⟩, List.mem_of_getElem? (i := 42) (by decide +kernel), by decide +kernel, by decide +kernel⟩
set_option maxRecDepth 20000 in
theorem mo_10_140 : iMO 10 140 16 1 1 := ⟨Or.inl (List.mem_of_getElem? (i := 193) (by decide +kernel)), Or.inr ⟨by decide, List.mem_of_getElem? (i := 194) (by decide +kernel), Or.inr (List.mem_of_getElem? (i := 195) (by decide +kernel))⟩, List.mem_of_getElem? (i := 38) (by decide +kernel), by decide +kernel, by decide +kernel⟩
set_option maxRecDepth 20000 in
theorem mo_10_143 : iMO 10 143 110 1 10 := ⟨Or.inl (List.mem_of_getElem? (i := 961) (by decide +kernel)), Or.inr ⟨by decide, List.mem_of_getElem? (i := 962) (by decide +kernel), Or.inr (List.mem_of_getElem? (i := 963) (by decide +kernel))⟩, List.mem_of_getElem? (i := 42) (by decide +kernel), by decide +kernel, by decide +kernel⟩
set_option maxRecDepth 20000 in
theorem mo_10_144 : iMO 10 144 132 3 0 := ⟨Or.inl (List.mem_of_getElem? (i := 655) (by decide +kernel)), Or.inl ⟨rfl, List.mem_of_getElem? (i := 656) (by decide +kernel)⟩, List.mem_of_getElem? (i := 37) (by decide +kernel), by decide +kernel, by decide +kernel⟩
set_option maxRecDepth 20000 in
theorem mo_10_146 : iMO 10 146 111 2 10 := ⟨Or.inl (List.mem_of_getElem? (i := 965) (by decide +kernel)), Or.inr ⟨by decide, List.mem_of_getElem? (i := 966) (by decide +kernel), Or.inr (List.mem_of_getElem? (i := 967) (by decide +kernel))⟩, List.mem_of_getElem? (i := 42) (by decide +kernel), by decide +kernel, by decide +kernel⟩
set_option maxRecDepth 20000 in
theorem mo_10_147 : iMO 10 147 133 5 0 := ⟨Or.inl (List.mem_of_getElem? (i := 678) (by decide +kernel)), Or.inl ⟨rfl, List.mem_of_getElem? (i := 679) (by decide +kernel)⟩, List.mem_of_getElem? (i := 37) (by decide +kernel), by decide +kernel, by decide +kernel⟩
set_option maxRecDepth 20000 in
theorem mo_10_149 : iMO 10 149 114 4 10 := ⟨Or.inl (List.mem_of_getElem? (i := 969) (by decide +kernel)), Or.inr ⟨by decide, List.mem_of_getElem? (i := 970) (by decide +kernel), Or.inr (List.mem_of_getElem? (i := 971) (by decide +kernel))⟩, List.mem_of_getElem? (i := 42) (by decide +kernel), by decide +kernel, by decide +kernel⟩
set_option maxRecDepth 20000 in
theorem mo_10_150 : iMO 10 150 134 4 0 := ⟨Or.inl (List.mem_of_getElem? (i := 695) (by decide +kernel)), Or.inl ⟨rfl, List.mem_of_getElem? (i := 696) (by decide +kernel)⟩, List.mem_of_getElem? (i := 37) (by decide +kernel), by decide +kernel, by decide +kernel⟩
set_option maxRecDepth 20000 in
theorem mo_10_152 : iMO 10 152 115 3 10 := ⟨Or.inl (List.mem_of_getElem? (i := 981) (by decide +kernel)), Or.inr ⟨by decide, List.mem_of_getElem? (i := 982) (by decide +kernel), Or.inr (List.mem_of_getElem? (i := 983) (by decide +kernel))⟩, List.mem_of_getElem? (i := 42) (by decide +kernel), by decide +kernel, by decide +kernel⟩
set_option maxRecDepth 20000 in
theorem mo_10_153 : iMO 10 153 135 5 0 := ⟨Or.inl (List.mem_of_getElem? (i := 702) (by decide +kernel)), Or.inl ⟨rfl, List.mem_of_getElem? (i := 703) (by decide +kernel)⟩, List.mem_of_getElem? (i := 37) (by decide +kernel), by decide +kernel, by decide +kernel⟩
set_option maxRecDepth 20000 in
theorem mo_10_156 : iMO 10 156 116 4 10 := ⟨Or.inl (List.mem_of_getElem? (i := 985) (by decide +kernel)), Or.inr ⟨by decide, List.mem_of_getElem? (i := 986) (by decide +kernel), Or.inr (List.mem_of_getElem? (i := 987) (by decide +kernel))⟩, List.mem_of_getElem? (i := 42) (by decide +kernel), by decide +kernel, by decide +kernel⟩
set_option maxRecDepth 20000 in
theorem mo_10_157 : iMO 10 157 136 3 0 := ⟨Or.inl (List.mem_of_getElem? (i := 717) (by decide +kernel)), Or.inl ⟨rfl, List.mem_of_getElem? (i := 718) (by decide +kernel)⟩, List.mem_of_getElem? (i := 37) (by decide +kernel), by decide +kernel, by decide +kernel⟩
set_option maxRecDepth 20000 in
theorem mo_10_160 : iMO 10 160 117 3 10 := ⟨Or.inl (List.mem_of_getElem? (i := 989) (by decide +kernel)), Or.inr ⟨by decide, List.mem_of_getElem? (i := 990) (by decide +kernel), Or.inr (List.mem_of_getElem? (i := 991) (by decide +kernel))⟩, List.mem_of_getElem? (i := 42) (by decide +kernel), by decide +kernel, by decide +kernel⟩
set_option maxRecDepth 20000 in
theorem no_0_9 : iNO 0 9 2 1 := ⟨List.mem_of_getElem? (i := 63) (by decide +kernel), List.mem_of_getElem? (i := 289) (by decide +kernel), List.mem_of_getElem? (i := 48) (by decide +kernel), by decide, by decide⟩
set_option maxRecDepth 20000 in
theorem no_0_15 : iNO 0 15 5 4 := ⟨List.mem_of_getElem? (i := 65) (by decide +kernel), List.mem_of_getElem? (i := 66) (by decide +kernel), List.mem_of_getElem? (i := 39) (by decide +kernel), by decide, by decide⟩
set_option maxRecDepth 20000 in
theorem no_0_22 : iNO 0 22 7 3 := ⟨List.mem_of_getElem? (i := 88) (by decide +kernel), List.mem_of_getElem? (i := 89) (by decide +kernel), List.mem_of_getElem? (i := 40) (by decide +kernel), by decide, by decide⟩
set_option maxRecDepth 20000 in
theorem no_0_29 : iNO 0 29 8 11 := ⟨List.mem_of_getElem? (i := 108) (by decide +kernel), List.mem_of_getElem? (i := 109) (by decide +kernel), List.mem_of_getElem? (i := 41) (by decide +kernel), by decide, by decide⟩
set_option maxRecDepth 20000 in
theorem no_0_36 : iNO 0 36 9 2 := ⟨List.mem_of_getElem? (i := 156) (by decide +kernel), List.mem_of_getElem? (i := 664) (by decide +kernel), List.mem_of_getElem? (i := 54) (by decide +kernel), by decide, by decide⟩
set_option maxRecDepth 20000 in
theorem no_0_95 : iNO 0 95 4 10 := ⟨List.mem_of_getElem? (i := 369) (by decide +kernel), List.mem_of_getElem? (i := 370) (by decide +kernel), List.mem_of_getElem? (i := 50) (by decide +kernel), by decide, by decide⟩
set_option maxRecDepth 20000 in
theorem no_0_139 : iNO 0 139 6 2 := ⟨List.mem_of_getElem? (i := 545) (by decide +kernel), List.mem_of_getElem? (i := 546) (by decide +kernel), List.mem_of_getElem? (i := 52) (by decide +kernel), by decide, by decide⟩
set_option maxRecDepth 20000 in
theorem no_0_234 : iNO 0 234 3 2 := ⟨List.mem_of_getElem? (i := 375) (by decide +kernel), List.mem_of_getElem? (i := 376) (by decide +kernel), List.mem_of_getElem? (i := 51) (by decide +kernel), by decide, by decide⟩
set_option maxRecDepth 20000 in
theorem vo_0_9 : iVO 0 9 2 := ⟨List.mem_of_getElem? (i := 63) (by decide +kernel), List.mem_of_getElem? (i := 64) (by decide +kernel), by decide, by decide⟩
set_option maxRecDepth 20000 in
theorem vo_0_36 : iVO 0 36 9 := ⟨List.mem_of_getElem? (i := 156) (by decide +kernel), List.mem_of_getElem? (i := 157) (by decide +kernel), by decide, by decide⟩
set_option maxRecDepth 20000 in
theorem vo_4_9 : iVO 4 9 4 := ⟨List.mem_of_getElem? (i := 71) (by decide +kernel), List.mem_of_getElem? (i := 72) (by decide +kernel), by decide, by decide⟩
set_option maxRecDepth 20000 in
theorem vo_6_9 : iVO 6 9 6 := ⟨List.mem_of_getElem? (i := 94) (by decide +kernel), List.mem_of_getElem? (i := 95) (by decide +kernel), by decide, by decide⟩
set_option maxRecDepth 20000 in
theorem vo_7_9 : iVO 7 9 2 := ⟨List.mem_of_getElem? (i := 114) (by decide +kernel), List.mem_of_getElem? (i := 64) (by decide +kernel), by decide, by decide⟩
set_option maxRecDepth 20000 in
theorem no_10_8 : iNO 10 8 1 10 := ⟨List.mem_of_getElem? (i := 55) (by decide +kernel), List.mem_of_getElem? (i := 56) (by decide +kernel), List.mem_of_getElem? (i := 38) (by decide +kernel), by decide, by decide⟩
set_option maxRecDepth 20000 in
theorem no_10_79 : iNO 10 79 10 33 := ⟨List.mem_of_getElem? (i := 731) (by decide +kernel), List.mem_of_getElem? (i := 732) (by decide +kernel), List.mem_of_getElem? (i := 42) (by decide +kernel), by decide, by decide⟩
set_option maxRecDepth 20000 in
theorem cdo_0 : iCO 0 := Or.inl ⟨rfl, List.mem_of_getElem? (i := 59) (by decide +kernel)⟩
set_option maxRecDepth 20000 in
theorem cdo_1 : iCO 1 := Or.inl ⟨rfl, List.mem_of_getElem? (i := 205) (by decide +kernel)⟩
set_option maxRecDepth 20000 in
theorem cdo_2 : iCO 2 := Or.inl ⟨rfl, List.mem_of_getElem? (i := 310) (by decide +kernel)⟩
set_option maxRecDepth 20000 in
theorem cdo_3 : iCO 3 := Or.inl ⟨rfl, List.mem_of_getElem? (i := 332) (by decide +kernel)⟩
set_option maxRecDepth 20000 in
theorem cdo_4 : iCO 4 := Or.inl ⟨rfl, List.mem_of_getElem? (i := 339) (by decide +kernel)⟩
set_option maxRecDepth 20000 in
theorem cdo_5 : iCO 5 := Or.inl ⟨rfl, List.mem_of_getElem? (i := 351) (by decide +kernel)⟩
set_option maxRecDepth 20000 in
theorem cdo_6 : iCO 6 := Or.inl ⟨rfl, List.mem_of_getElem? (i := 439) (by decide +kernel)⟩
set_option maxRecDepth 20000 in
theorem cdo_7 : iCO 7 := Or.inl ⟨rfl, List.mem_of_getElem? (i := 448) (by decide +kernel)⟩
set_option maxRecDepth 20000 in
theorem cdo_8 : iCO 8 := Or.inl ⟨rfl, List.mem_of_getElem? (i := 514) (by decide +kernel)⟩
set_option maxRecDepth 20000 in
theorem cdo_9 : iCO 9 := Or.inl ⟨rfl, List.mem_of_getElem? (i := 532) (by decide +kernel)⟩
set_option maxRecDepth 20000 in
theorem cdo_10 : iCO 10 := Or.inl ⟨rfl, List.mem_of_getElem? (i := 543) (by decide +kernel)⟩
set_option maxRecDepth 20000 in
theorem cdo_11 : iCO 11 := Or.inl ⟨rfl, List.mem_of_getElem? (i := 569) (by decide +kernel)⟩
set_option maxRecDepth 20000 in
theorem cdo_12 : iCO 12 := Or.inl ⟨rfl, List.mem_of_getElem? (i := 591) (by decide +kernel)⟩
set_option maxRecDepth 20000 in
theorem cdo_13 : iCO 13 := Or.inl ⟨rfl, List.mem_of_getElem? (i := 603) (by decide +kernel)⟩
set_option maxRecDepth 20000 in
theorem cdo_14 : iCO 14 := Or.inl ⟨rfl, List.mem_of_getElem? (i := 615) (by decide +kernel)⟩
set_option maxRecDepth 20000 in
theorem cdo_15 : iCO 15 := Or.inl ⟨rfl, List.mem_of_getElem? (i := 192) (by decide +kernel)⟩
set_option maxRecDepth 20000 in
theorem cdo_16 : iCO 16 := Or.inl ⟨rfl, List.mem_of_getElem? (i := 196) (by decide +kernel)⟩
set_option maxRecDepth 20000 in
theorem cdo_17 : iCO 17 := Or.inl ⟨rfl, List.mem_of_getElem? (i := 661) (by decide +kernel)⟩
set_option maxRecDepth 20000 in
theorem cdo_18 : iCO 18 := Or.inl ⟨rfl, List.mem_of_getElem? (i := 684) (by decide +kernel)⟩
set_option maxRecDepth 20000 in
theorem cdo_19 : iCO 19 := Or.inl ⟨rfl, List.mem_of_getElem? (i := 701) (by decide +kernel)⟩
set_option maxRecDepth 20000 in
theorem cdo_20 : iCO 20 := Or.inl ⟨rfl, List.mem_of_getElem? (i := 708) (by decide +kernel)⟩
set_option maxRecDepth 20000 in
theorem cdo_21 : iCO 21 := Or.inl ⟨rfl, List.mem_of_getElem? (i := 723) (by decide +kernel)⟩
set_option maxRecDepth 20000 in
theorem cdo_22 : iCO 22 := Or.inl ⟨rfl, List.mem_of_getElem? (i := 318) (by decide +kernel)⟩
set_option maxRecDepth 20000 in
theorem cdo_23 : iCO 23 := Or.inl ⟨rfl, List.mem_of_getElem? (i := 343) (by decide +kernel)⟩
set_option maxRecDepth 20000 in
theorem cdo_24 : iCO 24 := Or.inl ⟨rfl, List.mem_of_getElem? (i := 314) (by decide +kernel)⟩
set_option maxRecDepth 20000 in
theorem cdo_25 : iCO 25 := Or.inl ⟨rfl, List.mem_of_getElem? (i := 359) (by decide +kernel)⟩
set_option maxRecDepth 20000 in
theorem cdo_26 : iCO 26 := Or.inl ⟨rfl, List.mem_of_getElem? (i := 394) (by decide +kernel)⟩
set_option maxRecDepth 20000 in
theorem cdo_27 : iCO 27 := Or.inl ⟨rfl, List.mem_of_getElem? (i := 354) (by decide +kernel)⟩
set_option maxRecDepth 20000 in
theorem cdo_28 : iCO 28 := Or.inl ⟨rfl, List.mem_of_getElem? (i := 362) (by decide +kernel)⟩
set_option maxRecDepth 20000 in
theorem cdo_29 : iCO 29 := Or.inl ⟨rfl, List.mem_of_getElem? (i := 367) (by decide +kernel)⟩
set_option maxRecDepth 20000 in
theorem cdo_30 : iCO 30 := Or.inl ⟨rfl, List.mem_of_getElem? (i := 374) (by decide +kernel)⟩
set_option maxRecDepth 20000 in
theorem cdo_31 : iCO 31 := Or.inl ⟨rfl, List.mem_of_getElem? (i := 692) (by decide +kernel)⟩
set_option maxRecDepth 20000 in
theorem cdo_32 : iCO 32 := Or.inl ⟨rfl, List.mem_of_getElem? (i := 688) (by decide +kernel)⟩
set_option maxRecDepth 20000 in
theorem cdo_33 : iCO 33 := Or.inl ⟨rfl, List.mem_of_getElem? (i := 292) (by decide +kernel)⟩
set_option maxRecDepth 20000 in
theorem cdo_34 : iCO 34 := Or.inl ⟨rfl, List.mem_of_getElem? (i := 323) (by decide +kernel)⟩
set_option maxRecDepth 20000 in
theorem cdo_35 : iCO 35 := Or.inl ⟨rfl, List.mem_of_getElem? (i := 476) (by decide +kernel)⟩
set_option maxRecDepth 20000 in
theorem cdo_36 : iCO 36 := Or.inl ⟨rfl, List.mem_of_getElem? (i := 472) (by decide +kernel)⟩
set_option maxRecDepth 20000 in
theorem cdo_37 : iCO 37 := Or.inl ⟨rfl, List.mem_of_getElem? (i := 525) (by decide +kernel)⟩
set_option maxRecDepth 20000 in
theorem cdo_38 : iCO 38 := Or.inl ⟨rfl, List.mem_of_getElem? (i := 456) (by decide +kernel)⟩
set_option maxRecDepth 20000 in
theorem cdo_39 : iCO 39 := Or.inl ⟨rfl, List.mem_of_getElem? (i := 507) (by decide +kernel)⟩
set_option maxRecDepth 20000 in
theorem cdo_40 : iCO 40 := Or.inl ⟨rfl, List.mem_of_getElem? (i := 379) (by decide +kernel)⟩
set_option maxRecDepth 20000 in
theorem cdo_41 : iCO 41 := Or.inl ⟨rfl, List.mem_of_getElem? (i := 468) (by decide +kernel)⟩
set_option maxRecDepth 20000 in
theorem cdo_42 : iCO 42 := Or.inl ⟨rfl, List.mem_of_getElem? (i := 481) (by decide +kernel)⟩
set_option maxRecDepth 20000 in
theorem cdo_43 : iCO 43 := Or.inl ⟨rfl, List.mem_of_getElem? (i := 390) (by decide +kernel)⟩
set_option maxRecDepth 20000 in
theorem cdo_44 : iCO 44 := Or.inl ⟨rfl, List.mem_of_getElem? (i := 490) (by decide +kernel)⟩
set_option maxRecDepth 20000 in
theorem cdo_45 : iCO 45 := Or.inl ⟨rfl, List.mem_of_getElem? (i := 464) (by decide +kernel)⟩
set_option maxRecDepth 20000 in
theorem cdo_46 : iCO 46 := Or.inl ⟨rfl, List.mem_of_getElem? (i := 494) (by decide +kernel)⟩
set_option maxRecDepth 20000 in
theorem cdo_47 : iCO 47 := Or.inl ⟨rfl, List.mem_of_getElem? (i := 499) (by decide +kernel)⟩
set_option maxRecDepth 20000 in
theorem cdo_48 : iCO 48 := Or.inl ⟨rfl, List.mem_of_getElem? (i := 69) (by decide +kernel)⟩
set_option maxRecDepth 20000 in
theorem cdo_49 : iCO 49 := Or.inl ⟨rfl, List.mem_of_getElem? (i := 432) (by decide +kernel)⟩
set_option maxRecDepth 20000 in
theorem cdo_50 : iCO 50 := Or.inl ⟨rfl, List.mem_of_getElem? (i := 536) (by decide +kernel)⟩
set_option maxRecDepth 20000 in
theorem cdo_51 : iCO 51 := Or.inl ⟨rfl, List.mem_of_getElem? (i := 452) (by decide +kernel)⟩
set_option maxRecDepth 20000 in
theorem cdo_52 : iCO 52 := Or.inl ⟨rfl, List.mem_of_getElem? (i := 460) (by decide +kernel)⟩
set_option maxRecDepth 20000 in
theorem cdo_53 : iCO 53 := Or.inl ⟨rfl, List.mem_of_getElem? (i := 486) (by decide +kernel)⟩
set_option maxRecDepth 20000 in
theorem cdo_54 : iCO 54 := Or.inl ⟨rfl, List.mem_of_getElem? (i := 503) (by decide +kernel)⟩
set_option maxRecDepth 20000 in
theorem cdo_55 : iCO 55 := Or.inl ⟨rfl, List.mem_of_getElem? (i := 519) (by decide +kernel)⟩
set_option maxRecDepth 20000 in
theorem cdo_56 : iCO 56 := Or.inl ⟨rfl, List.mem_of_getElem? (i := 549) (by decide +kernel)⟩
set_option maxRecDepth 20000 in
theorem cdo_57 : iCO 57 := Or.inl ⟨rfl, List.mem_of_getElem? (i := 582) (by decide +kernel)⟩
set_option maxRecDepth 20000 in
theorem cdo_58 : iCO 58 := Or.inl ⟨rfl, List.mem_of_getElem? (i := 92) (by decide +kernel)⟩
set_option maxRecDepth 20000 in
theorem cdo_59 : iCO 59 := Or.inl ⟨rfl, List.mem_of_getElem? (i := 562) (by decide +kernel)⟩
set_option maxRecDepth 20000 in
theorem cdo_60 : iCO 60 := Or.inl ⟨rfl, List.mem_of_getElem? (i := 573) (by decide +kernel)⟩
set_option maxRecDepth 20000 in
theorem cdo_61 : iCO 61 := Or.inl ⟨rfl, List.mem_of_getElem? (i := 578) (by decide +kernel)⟩
set_option maxRecDepth 20000 in
theorem cdo_62 : iCO 62 := Or.inl ⟨rfl, List.mem_of_getElem? (i := 112) (by decide +kernel)⟩
set_option maxRecDepth 20000 in
theorem cdo_63 : iCO 63 := Or.inl ⟨rfl, List.mem_of_getElem? (i := 596) (by decide +kernel)⟩
set_option maxRecDepth 20000 in
theorem cdo_64 : iCO 64 := Or.inl ⟨rfl, List.mem_of_getElem? (i := 608) (by decide +kernel)⟩
set_option maxRecDepth 20000 in
theorem cdo_65 : iCO 65 := Or.inl ⟨rfl, List.mem_of_getElem? (i := 619) (by decide +kernel)⟩
set_option maxRecDepth 20000 in
theorem cdo_66 : iCO 66 := Or.inl ⟨rfl, List.mem_of_getElem? (i := 624) (by decide +kernel)⟩
set_option maxRecDepth 20000 in
theorem cdo_67 : iCO 67 := Or.inl ⟨rfl, List.mem_of_getElem? (i := 628) (by decide +kernel)⟩
set_option maxRecDepth 20000 in
theorem cdo_68 : iCO 68 := Or.inl ⟨rfl, List.mem_of_getElem? (i := 639) (by decide +kernel)⟩
set_option maxRecDepth 20000 in
theorem cdo_69 : iCO 69 := Or.inl ⟨rfl, List.mem_of_getElem? (i := 635) (by decide +kernel)⟩
set_option maxRecDepth 20000 in
theorem cdo_70 : iCO 70 := Or.inl ⟨rfl, List.mem_of_getElem? (i := 643) (by decide +kernel)⟩
set_option maxRecDepth 20000 in
theorem cdo_71 : iCO 71 := Or.inl ⟨rfl, List.mem_of_getElem? (i := 648) (by decide +kernel)⟩
set_option maxRecDepth 20000 in
theorem cdo_72 : iCO 72 := Or.inl ⟨rfl, List.mem_of_getElem? (i := 652) (by decide +kernel)⟩
set_option maxRecDepth 20000 in
theorem cdo_73 : iCO 73 := Or.inl ⟨rfl, List.mem_of_getElem? (i := 667) (by decide +kernel)⟩
set_option maxRecDepth 20000 in
theorem cdo_74 : iCO 74 := Or.inl ⟨rfl, List.mem_of_getElem? (i := 716) (by decide +kernel)⟩
set_option maxRecDepth 20000 in
theorem cdo_75 : iCO 75 := Or.inl ⟨rfl, List.mem_of_getElem? (i := 712) (by decide +kernel)⟩
set_option maxRecDepth 20000 in
theorem cdo_76 : iCO 76 := Or.inl ⟨rfl, List.mem_of_getElem? (i := 727) (by decide +kernel)⟩
set_option maxRecDepth 20000 in
theorem cdo_77 : iCO 77 := Or.inl ⟨rfl, List.mem_of_getElem? (i := 730) (by decide +kernel)⟩
set_option maxRecDepth 20000 in
theorem cdo_78 : iCO 78 := Or.inl ⟨rfl, List.mem_of_getElem? (i := 735) (by decide +kernel)⟩
set_option maxRecDepth 20000 in
theorem cdo_79 : iCO 79 := Or.inl ⟨rfl, List.mem_of_getElem? (i := 840) (by decide +kernel)⟩
set_option maxRecDepth 20000 in
theorem cdo_80 : iCO 80 := Or.inl ⟨rfl, List.mem_of_getElem? (i := 848) (by decide +kernel)⟩
set_option maxRecDepth 20000 in
theorem cdo_81 : iCO 81 := Or.inl ⟨rfl, List.mem_of_getElem? (i := 860) (by decide +kernel)⟩
set_option maxRecDepth 20000 in
theorem cdo_82 : iCO 82 := Or.inl ⟨rfl, List.mem_of_getElem? (i := 872) (by decide +kernel)⟩
set_option maxRecDepth 20000 in
theorem cdo_83 : iCO 83 := Or.inl ⟨rfl, List.mem_of_getElem? (i := 844) (by decide +kernel)⟩
set_option maxRecDepth 20000 in
theorem cdo_84 : iCO 84 := Or.inl ⟨rfl, List.mem_of_getElem? (i := 856) (by decide +kernel)⟩
set_option maxRecDepth 20000 in
theorem cdo_85 : iCO 85 := Or.inl ⟨rfl, List.mem_of_getElem? (i := 852) (by decide +kernel)⟩
set_option maxRecDepth 20000 in
theorem cdo_86 : iCO 86 := Or.inl ⟨rfl, List.mem_of_getElem? (i := 864) (by decide +kernel)⟩
set_option maxRecDepth 20000 in
theorem cdo_87 : iCO 87 := Or.inl ⟨rfl, List.mem_of_getElem? (i := 896) (by decide +kernel)⟩
set_option maxRecDepth 20000 in
theorem cdo_88 : iCO 88 := Or.inl ⟨rfl, List.mem_of_getElem? (i := 908) (by decide +kernel)⟩
set_option maxRecDepth 20000 in
theorem cdo_89 : iCO 89 := Or.inl ⟨rfl, List.mem_of_getElem? (i := 904) (by decide +kernel)⟩
set_option maxRecDepth 20000 in
theorem cdo_90 : iCO 90 := Or.inl ⟨rfl, List.mem_of_getElem? (i := 868) (by decide +kernel)⟩
set_option maxRecDepth 20000 in
theorem cdo_91 : iCO 91 := Or.inl ⟨rfl, List.mem_of_getElem? (i := 880) (by decide +kernel)⟩
set_option maxRecDepth 20000 in
theorem cdo_92 : iCO 92 := Or.inl ⟨rfl, List.mem_of_getElem? (i := 876) (by decide +kernel)⟩
set_option maxRecDepth 20000 in
theorem cdo_93 : iCO 93 := Or.inl ⟨rfl, List.mem_of_getElem? (i := 884) (by decide +kernel)⟩
set_option maxRecDepth 20000 in
theorem cdo_94 : iCO 94 := Or.inl ⟨rfl, List.mem_of_getElem? (i := 900) (by decide +kernel)⟩
set_option maxRecDepth 20000 in
theorem cdo_95 : iCO 95 := Or.inl ⟨rfl, List.mem_of_getElem? (i := 912) (by decide +kernel)⟩
set_option maxRecDepth 20000 in
theorem cdo_96 : iCO 96 := Or.inl ⟨rfl, List.mem_of_getElem? (i := 916) (by decide +kernel)⟩
set_option maxRecDepth 20000 in
theorem cdo_97 : iCO 97 := Or.inl ⟨rfl, List.mem_of_getElem? (i := 892) (by decide +kernel)⟩
set_option maxRecDepth 20000 in
theorem cdo_98 : iCO 98 := Or.inl ⟨rfl, List.mem_of_getElem? (i := 920) (by decide +kernel)⟩
set_option maxRecDepth 20000 in
theorem cdo_99 : iCO 99 := Or.inl ⟨rfl, List.mem_of_getElem? (i := 888) (by decide +kernel)⟩
set_option maxRecDepth 20000 in
theorem cdo_100 : iCO 100 := Or.inl ⟨rfl, List.mem_of_getElem? (i := 924) (by decide +kernel)⟩
set_option maxRecDepth 20000 in
theorem cdo_101 : iCO 101 := Or.inl ⟨rfl, List.mem_of_getElem? (i := 928) (by decide +kernel)⟩
set_option maxRecDepth 20000 in
theorem cdo_102 : iCO 102 := Or.inl ⟨rfl, List.mem_of_getElem? (i := 932) (by decide +kernel)⟩
set_option maxRecDepth 20000 in
theorem cdo_103 : iCO 103 := Or.inl ⟨rfl, List.mem_of_getElem? (i := 936) (by decide +kernel)⟩
set_option maxRecDepth 20000 in
theorem cdo_104 : iCO 104 := Or.inl ⟨rfl, List.mem_of_getElem? (i := 940) (by decide +kernel)⟩
set_option maxRecDepth 20000 in
theorem cdo_105 : iCO 105 := Or.inl ⟨rfl, List.mem_of_getElem? (i := 944) (by decide +kernel)⟩
set_option maxRecDepth 20000 in
theorem cdo_106 : iCO 106 := Or.inl ⟨rfl, List.mem_of_getElem? (i := 952) (by decide +kernel)⟩
set_option maxRecDepth 20000 in
theorem cdo_107 : iCO 107 := Or.inl ⟨rfl, List.mem_of_getElem? (i := 956) (by decide +kernel)⟩
set_option maxRecDepth 20000 in
theorem cdo_108 : iCO 108 := Or.inl ⟨rfl, List.mem_of_getElem? (i := 948) (by decide +kernel)⟩
set_option maxRecDepth 20000 in
theorem cdo_109 : iCO 109 := Or.inl ⟨rfl, List.mem_of_getElem? (i := 960) (by decide +kernel)⟩
set_option maxRecDepth 20000 in
theorem cdo_110 : iCO 110 := Or.inl ⟨rfl, List.mem_of_getElem? (i := 964) (by decide +kernel)⟩
set_option maxRecDepth 20000 in
theorem cdo_111 : iCO 111 := Or.inl ⟨rfl, List.mem_of_getElem? (i := 968) (by decide +kernel)⟩
set_option maxRecDepth 20000 in
theorem cdo_112 : iCO 112 := Or.inl ⟨rfl, List.mem_of_getElem? (i := 980) (by decide +kernel)⟩
set_option maxRecDepth 20000 in
theorem cdo_113 : iCO 113 := Or.inl ⟨rfl, List.mem_of_getElem? (i := 976) (by decide +kernel)⟩
set_option maxRecDepth 20000 in
theorem cdo_114 : iCO 114 := Or.inl ⟨rfl, List.mem_of_getElem? (i := 972) (by decide +kernel)⟩
set_option maxRecDepth 20000 in
theorem cdo_115 : iCO 115 := Or.inl ⟨rfl, List.mem_of_getElem? (i := 984) (by decide +kernel)⟩
set_option maxRecDepth 20000 in
theorem cdo_116 : iCO 116 := Or.inl ⟨rfl, List.mem_of_getElem? (i := 988) (by decide +kernel)⟩
set_option maxRecDepth 20000 in
theorem cdo_117 : iCO 117 := Or.inl ⟨rfl, List.mem_of_getElem? (i := 992) (by decide +kernel)⟩
set_option maxRecDepth 20000 in
theorem cdo_118 : iCO 118 := Or.inr (List.mem_of_getElem? (i := 199) (by decide +kernel))
set_option maxRecDepth 20000 in
theorem cdo_119 : iCO 119 := Or.inr (List.mem_of_getElem? (i := 306) (by decide +kernel))
set_option maxRecDepth 20000 in
theorem cdo_120 : iCO 120 := Or.inr (List.mem_of_getElem? (i := 328) (by decide +kernel))
set_option maxRecDepth 20000 in
theorem cdo_121 : iCO 121 := Or.inr (List.mem_of_getElem? (i := 335) (by decide +kernel))
set_option maxRecDepth 20000 in
theorem cdo_122 : iCO 122 := Or.inr (List.mem_of_getElem? (i := 347) (by decide +kernel))
set_option maxRecDepth 20000 in
theorem cdo_123 : iCO 123 := Or.inr (List.mem_of_getElem? (i := 435) (by decide +kernel))
set_option maxRecDepth 20000 in
theorem cdo_124 : iCO 124 := Or.inr (List.mem_of_getElem? (i := 444) (by decide +kernel))
set_option maxRecDepth 20000 in
theorem cdo_125 : iCO 125 := Or.inr (List.mem_of_getElem? (i := 510) (by decide +kernel))
set_option maxRecDepth 20000 in
theorem cdo_126 : iCO 126 := Or.inr (List.mem_of_getElem? (i := 528) (by decide +kernel))
set_option maxRecDepth 20000 in
theorem cdo_127 : iCO 127 := Or.inr (List.mem_of_getElem? (i := 539) (by decide +kernel))
set_option maxRecDepth 20000 in
theorem cdo_128 : iCO 128 := Or.inr (List.mem_of_getElem? (i := 565) (by decide +kernel))
set_option maxRecDepth 20000 in
theorem cdo_129 : iCO 129 := Or.inr (List.mem_of_getElem? (i := 587) (by decide +kernel))
set_option maxRecDepth 20000 in
theorem cdo_130 : iCO 130 := Or.inr (List.mem_of_getElem? (i := 599) (by decide +kernel))
set_option maxRecDepth 20000 in
theorem cdo_131 : iCO 131 := Or.inr (List.mem_of_getElem? (i := 611) (by decide +kernel))
set_option maxRecDepth 20000 in
theorem cdo_132 : iCO 132 := Or.inr (List.mem_of_getElem? (i := 657) (by decide +kernel))
set_option maxRecDepth 20000 in
theorem cdo_133 : iCO 133 := Or.inr (List.mem_of_getElem? (i := 680) (by decide +kernel))
set_option maxRecDepth 20000 in
theorem cdo_134 : iCO 134 := Or.inr (List.mem_of_getElem? (i := 697) (by decide +kernel))
set_option maxRecDepth 20000 in
theorem cdo_135 : iCO 135 := Or.inr (List.mem_of_getElem? (i := 704) (by decide +kernel))
set_option maxRecDepth 20000 in
theorem cdo_136 : iCO 136 := Or.inr (List.mem_of_getElem? (i := 719) (by decide +kernel))
set_option maxRecDepth 20000 in
theorem cdo_138 : iCO 138 := Or.inl ⟨rfl, List.mem_of_getElem? (i := 296) (by decide +kernel)⟩
set_option maxRecDepth 20000 in
theorem cdo_139 : iCO 139 := Or.inl ⟨rfl, List.mem_of_getElem? (i := 631) (by decide +kernel)⟩
