theorem l_X3_87 : Cond.fieldLinkNest RX3 87 "WindowMatches$Pattern" "window" "I" "WindowMatches" ∈ xm_nest := xm_nest_of (List.mem_of_getElem? (i := 35) (by decide +kernel)) rfl
theorem l_X3_90 : Cond.fieldLinkNest RX3 90 "WindowMatches$Pattern" "rule" "I" "WindowMatches" ∈ xm_nest := xm_nest_of (List.mem_of_getElem? (i := 39) (by decide +kernel)) rfl
theorem k_X3_91 : xm_FV RX3 91 yX3_takePlainSteps cX3_takePlainSteps 4 none 1 := ⟨xm_tb_of (List.mem_of_getElem? (i := 304) (by decide +kernel)) rfl, xm_tb_of (List.mem_of_getElem? (i := 301) (by decide +kernel)) rfl, xm_tb_of (List.mem_of_getElem? (i := 303) (by decide +kernel)) rfl, xm_tb_sel (List.mem_of_getElem? (i := 7) (by decide +kernel)) rfl, xm_tb_of (List.mem_of_getElem? (i := 6) (by decide +kernel)) rfl, ⟨by decide +kernel, by decide +kernel, by decide +kernel⟩⟩
theorem l_X3_76 : Cond.fieldLinkNest RX3 76 "WindowMatches$State" "patternCount" "I" "WindowMatches" ∈ xm_nest := xm_nest_of (List.mem_of_getElem? (i := 89) (by decide +kernel)) rfl
theorem l_X3_79 : Cond.fieldLinkNest RX3 79 "WindowMatches$State" "patterns" "[LWindowMatches$Pattern;" "WindowMatches" ∈ xm_nest := xm_nest_of (List.mem_of_getElem? (i := 92) (by decide +kernel)) rfl
theorem k_X3_83 : xm_FV RX3 83 yX3_run cX3_run 2 none 1 := ⟨xm_tb_of (List.mem_of_getElem? (i := 300) (by decide +kernel)) rfl, xm_tb_of (List.mem_of_getElem? (i := 297) (by decide +kernel)) rfl, xm_tb_of (List.mem_of_getElem? (i := 299) (by decide +kernel)) rfl, xm_tb_sel (List.mem_of_getElem? (i := 6) (by decide +kernel)) rfl, xm_tb_of (List.mem_of_getElem? (i := 6) (by decide +kernel)) rfl, ⟨by decide +kernel, by decide +kernel, by decide +kernel⟩⟩
theorem l_X6_10 : Cond.fieldLink RX6 10 "WindowMatches" "now" "LWindowMatches$State;" ∈ xm_tb := xm_tb_of (List.mem_of_getElem? (i := 237) (by decide +kernel)) rfl
theorem l_X6_85 : Cond.fieldLinkNest RX6 85 "WindowMatches$State" "patternCount" "I" "WindowMatches" ∈ xm_nest := xm_nest_of (List.mem_of_getElem? (i := 90) (by decide +kernel)) rfl
theorem k_X6_202 : xm_FS RX6 202 yX6_isKind cX6_isKind 1 (some .boolean) 1 := ⟨xm_tb_of (List.mem_of_getElem? (i := 343) (by decide +kernel)) rfl, xm_tb_of (List.mem_of_getElem? (i := 341) (by decide +kernel)) rfl, xm_tb_of (List.mem_of_getElem? (i := 342) (by decide +kernel)) rfl, xm_tb_of (List.mem_of_getElem? (i := 1) (by decide +kernel)) rfl, ⟨by decide +kernel, by decide +kernel, by decide +kernel⟩⟩
theorem k_X6_66 : xm_FS RX6 66 yX6_isWithin cX6_isWithin 3 (some .boolean) 3 := ⟨xm_tb_of (List.mem_of_getElem? (i := 346) (by decide +kernel)) rfl, xm_tb_of (List.mem_of_getElem? (i := 344) (by decide +kernel)) rfl, xm_tb_of (List.mem_of_getElem? (i := 345) (by decide +kernel)) rfl, xm_tb_of (List.mem_of_getElem? (i := 1) (by decide +kernel)) rfl, ⟨by decide +kernel, by decide +kernel, by decide +kernel⟩⟩
theorem l_X6_192 : Cond.fieldLinkNest RX6 192 "WindowMatches$State" "newestTime" "I" "WindowMatches" ∈ xm_nest := xm_nest_of (List.mem_of_getElem? (i := 85) (by decide +kernel)) rfl
theorem l_X6_78 : Cond.fieldLinkNest RX6 78 "WindowMatches$State" "lateness" "I" "WindowMatches" ∈ xm_nest := xm_nest_of (List.mem_of_getElem? (i := 87) (by decide +kernel)) rfl
theorem l_X6_47 : Cond.fieldLink RX6 47 "WindowMatches" "search" "LWindowMatches$Search;" ∈ xm_tb := xm_tb_of (List.mem_of_getElem? (i := 243) (by decide +kernel)) rfl
theorem k_X6_132 : xm_FVN RX6 132 yX3_begin "WindowMatches" cX3_begin 3 none 1 := ⟨xm_tb_of (List.mem_of_getElem? (i := 273) (by decide +kernel)) rfl, xm_nest_of (List.mem_of_getElem? (i := 270) (by decide +kernel)) rfl, xm_tb_of (List.mem_of_getElem? (i := 272) (by decide +kernel)) rfl, xm_tb_sel (List.mem_of_getElem? (i := 0) (by decide +kernel)) rfl, xm_tb_of (List.mem_of_getElem? (i := 6) (by decide +kernel)) rfl, ⟨by decide +kernel, by decide +kernel, by decide +kernel⟩⟩
theorem k_X6_182 : xm_FVN RX6 182 yX3_run "WindowMatches" cX3_run 2 none 1 := ⟨xm_tb_of (List.mem_of_getElem? (i := 300) (by decide +kernel)) rfl, xm_nest_of (List.mem_of_getElem? (i := 521) (by decide +kernel)) rfl, xm_tb_of (List.mem_of_getElem? (i := 299) (by decide +kernel)) rfl, xm_tb_sel (List.mem_of_getElem? (i := 6) (by decide +kernel)) rfl, xm_tb_of (List.mem_of_getElem? (i := 6) (by decide +kernel)) rfl, ⟨by decide +kernel, by decide +kernel, by decide +kernel⟩⟩
theorem k_X6_51 : xm_FV RX6 51 yX6_errorOfEvent cX6_errorOfEvent 4 (some .int) 3 := ⟨xm_tb_of (List.mem_of_getElem? (i := 340) (by decide +kernel)) rfl, xm_tb_of (List.mem_of_getElem? (i := 337) (by decide +kernel)) rfl, xm_tb_of (List.mem_of_getElem? (i := 339) (by decide +kernel)) rfl, xm_tb_sel (List.mem_of_getElem? (i := 13) (by decide +kernel)) rfl, xm_tb_of (List.mem_of_getElem? (i := 1) (by decide +kernel)) rfl, ⟨by decide +kernel, by decide +kernel, by decide +kernel⟩⟩
theorem l_X6_55 : Cond.fieldLinkNest RX6 55 "WindowMatches$State" "events" "I" "WindowMatches" ∈ xm_nest := xm_nest_of (List.mem_of_getElem? (i := 73) (by decide +kernel)) rfl
theorem l_X6_26 : Cond.fieldLink RX6 26 "WindowMatches" "history" "LWindowMatches$History;" ∈ xm_tb := xm_tb_of (List.mem_of_getElem? (i := 240) (by decide +kernel)) rfl
theorem k_X6_59 : xm_FVN RX6 59 yX0_record "WindowMatches" cX0_record 2 none 1 := ⟨xm_tb_of (List.mem_of_getElem? (i := 355) (by decide +kernel)) rfl, xm_nest_of (List.mem_of_getElem? (i := 352) (by decide +kernel)) rfl, xm_tb_of (List.mem_of_getElem? (i := 354) (by decide +kernel)) rfl, xm_tb_sel (List.mem_of_getElem? (i := 14) (by decide +kernel)) rfl, xm_tb_of (List.mem_of_getElem? (i := 4) (by decide +kernel)) rfl, ⟨by decide +kernel, by decide +kernel, by decide +kernel⟩⟩
theorem k_X6_63 : xm_FVN RX6 63 yX4_addEvent "WindowMatches" cX4_addEvent 5 (some .int) 3 := ⟨xm_tb_of (List.mem_of_getElem? (i := 367) (by decide +kernel)) rfl, xm_nest_of (List.mem_of_getElem? (i := 364) (by decide +kernel)) rfl, xm_tb_of (List.mem_of_getElem? (i := 366) (by decide +kernel)) rfl, xm_tb_sel (List.mem_of_getElem? (i := 17) (by decide +kernel)) rfl, xm_tb_of (List.mem_of_getElem? (i := 2) (by decide +kernel)) rfl, ⟨by decide +kernel, by decide +kernel, by decide +kernel⟩⟩
theorem k_X6_70 : xm_FVN RX6 70 yX4_eventsAheadOf "WindowMatches" cX4_eventsAheadOf 4 (some .int) 1 := ⟨xm_tb_of (List.mem_of_getElem? (i := 541) (by decide +kernel)) rfl, xm_nest_of (List.mem_of_getElem? (i := 538) (by decide +kernel)) rfl, xm_tb_of (List.mem_of_getElem? (i := 540) (by decide +kernel)) rfl, xm_tb_sel (List.mem_of_getElem? (i := 35) (by decide +kernel)) rfl, xm_tb_of (List.mem_of_getElem? (i := 2) (by decide +kernel)) rfl, ⟨by decide +kernel, by decide +kernel, by decide +kernel⟩⟩
theorem k_X6_74 : xm_FVN RX6 74 yX4_removeEventsAheadOf "WindowMatches" cX4_removeEventsAheadOf 4 none 1 := ⟨xm_tb_of (List.mem_of_getElem? (i := 545) (by decide +kernel)) rfl, xm_nest_of (List.mem_of_getElem? (i := 542) (by decide +kernel)) rfl, xm_tb_of (List.mem_of_getElem? (i := 544) (by decide +kernel)) rfl, xm_tb_sel (List.mem_of_getElem? (i := 36) (by decide +kernel)) rfl, xm_tb_of (List.mem_of_getElem? (i := 2) (by decide +kernel)) rfl, ⟨by decide +kernel, by decide +kernel, by decide +kernel⟩⟩
theorem l_X6_33 : Cond.fieldLink RX6 33 "WindowMatches" "text" "LWindowMatches$Words;" ∈ xm_tb := xm_tb_of (List.mem_of_getElem? (i := 241) (by decide +kernel)) rfl
theorem l_X6_40 : Cond.fieldLink RX6 40 "WindowMatches" "readPattern" "LWindowMatches$Pattern;" ∈ xm_tb := xm_tb_of (List.mem_of_getElem? (i := 242) (by decide +kernel)) rfl
theorem k_X6_81 : xm_FVN RX6 81 yX5_readInto "WindowMatches" cX5_readInto 3 (some .int) 1 := ⟨xm_tb_of (List.mem_of_getElem? (i := 407) (by decide +kernel)) rfl, xm_nest_of (List.mem_of_getElem? (i := 404) (by decide +kernel)) rfl, xm_tb_of (List.mem_of_getElem? (i := 406) (by decide +kernel)) rfl, xm_tb_sel (List.mem_of_getElem? (i := 20) (by decide +kernel)) rfl, xm_tb_of (List.mem_of_getElem? (i := 5) (by decide +kernel)) rfl, ⟨by decide +kernel, by decide +kernel, by decide +kernel⟩⟩
theorem k_X6_88 : xm_FVN RX6 88 yX4_addCopyOf "WindowMatches" cX4_addCopyOf 3 (some .int) 1 := ⟨xm_tb_of (List.mem_of_getElem? (i := 508) (by decide +kernel)) rfl, xm_nest_of (List.mem_of_getElem? (i := 505) (by decide +kernel)) rfl, xm_tb_of (List.mem_of_getElem? (i := 507) (by decide +kernel)) rfl, xm_tb_sel (List.mem_of_getElem? (i := 31) (by decide +kernel)) rfl, xm_tb_of (List.mem_of_getElem? (i := 2) (by decide +kernel)) rfl, ⟨by decide +kernel, by decide +kernel, by decide +kernel⟩⟩
theorem k_X6_91 : xm_FV RX6 91 yX6_isPattern cX6_isPattern 2 (some .boolean) 1 := ⟨xm_tb_of (List.mem_of_getElem? (i := 516) (by decide +kernel)) rfl, xm_tb_of (List.mem_of_getElem? (i := 513) (by decide +kernel)) rfl, xm_tb_of (List.mem_of_getElem? (i := 515) (by decide +kernel)) rfl, xm_tb_sel (List.mem_of_getElem? (i := 32) (by decide +kernel)) rfl, xm_tb_of (List.mem_of_getElem? (i := 1) (by decide +kernel)) rfl, ⟨by decide +kernel, by decide +kernel, by decide +kernel⟩⟩
theorem k_X6_95 : xm_FVN RX6 95 yX4_removePattern "WindowMatches" cX4_removePattern 3 (some .int) 1 := ⟨xm_tb_of (List.mem_of_getElem? (i := 529) (by decide +kernel)) rfl, xm_nest_of (List.mem_of_getElem? (i := 526) (by decide +kernel)) rfl, xm_tb_of (List.mem_of_getElem? (i := 528) (by decide +kernel)) rfl, xm_tb_sel (List.mem_of_getElem? (i := 34) (by decide +kernel)) rfl, xm_tb_of (List.mem_of_getElem? (i := 2) (by decide +kernel)) rfl, ⟨by decide +kernel, by decide +kernel, by decide +kernel⟩⟩
theorem l_X6_98 : Cond.fieldLinkNest RX6 98 "WindowMatches$State" "patterns" "[LWindowMatches$Pattern;" "WindowMatches" ∈ xm_nest := xm_nest_of (List.mem_of_getElem? (i := 93) (by decide +kernel)) rfl
theorem l_X6_102 : Cond.fieldLinkNest RX6 102 "WindowMatches$Pattern" "window" "I" "WindowMatches" ∈ xm_nest := xm_nest_of (List.mem_of_getElem? (i := 37) (by decide +kernel)) rfl
theorem k_X6_105 : xm_FVN RX6 105 yX5_append "WindowMatches" cX5_append 2 (some .int) 1 := ⟨xm_tb_of (List.mem_of_getElem? (i := 394) (by decide +kernel)) rfl, xm_nest_of (List.mem_of_getElem? (i := 391) (by decide +kernel)) rfl, xm_tb_of (List.mem_of_getElem? (i := 393) (by decide +kernel)) rfl, xm_tb_sel (List.mem_of_getElem? (i := 19) (by decide +kernel)) rfl, xm_tb_of (List.mem_of_getElem? (i := 5) (by decide +kernel)) rfl, ⟨by decide +kernel, by decide +kernel, by decide +kernel⟩⟩
theorem l_X6_109 : Cond.fieldLinkNest RX6 109 "WindowMatches$Words" "length" "I" "WindowMatches" ∈ xm_nest := xm_nest_of (List.mem_of_getElem? (i := 139) (by decide +kernel)) rfl
theorem l_X6_112 : Cond.fieldLinkNest RX6 112 "WindowMatches$History" "size" "I" "WindowMatches" ∈ xm_nest := xm_nest_of (List.mem_of_getElem? (i := 123) (by decide +kernel)) rfl
theorem k_X6_115 : xm_FVN RX6 115 yX0_removeLatestInto "WindowMatches" cX0_removeLatestInto 2 none 1 := ⟨xm_tb_of (List.mem_of_getElem? (i := 557) (by decide +kernel)) rfl, xm_nest_of (List.mem_of_getElem? (i := 554) (by decide +kernel)) rfl, xm_tb_of (List.mem_of_getElem? (i := 556) (by decide +kernel)) rfl, xm_tb_sel (List.mem_of_getElem? (i := 37) (by decide +kernel)) rfl, xm_tb_of (List.mem_of_getElem? (i := 4) (by decide +kernel)) rfl, ⟨by decide +kernel, by decide +kernel, by decide +kernel⟩⟩
theorem l_X6_121 : Cond.fieldLinkNest RX6 121 "WindowMatches$State" "kinds" "[C" "WindowMatches" ∈ xm_nest := xm_nest_of (List.mem_of_getElem? (i := 76) (by decide +kernel)) rfl
theorem l_X6_125 : Cond.fieldLinkNest RX6 125 "WindowMatches$State" "values" "[I" "WindowMatches" ∈ xm_nest := xm_nest_of (List.mem_of_getElem? (i := 79) (by decide +kernel)) rfl
theorem l_X6_129 : Cond.fieldLinkNest RX6 129 "WindowMatches$State" "times" "[I" "WindowMatches" ∈ xm_nest := xm_nest_of (List.mem_of_getElem? (i := 82) (by decide +kernel)) rfl
theorem l_X6_135 : Cond.fieldLinkNest RX6 135 "WindowMatches$Search" "line" "LWindowMatches$Line;" "WindowMatches" ∈ xm_nest := xm_nest_of (List.mem_of_getElem? (i := 184) (by decide +kernel)) rfl
theorem k_X6_139 : xm_FVN RX6 139 yX1_placeOf "WindowMatches" cX1_placeOf 4 (some .int) 1 := ⟨xm_tb_of (List.mem_of_getElem? (i := 581) (by decide +kernel)) rfl, xm_nest_of (List.mem_of_getElem? (i := 578) (by decide +kernel)) rfl, xm_tb_of (List.mem_of_getElem? (i := 580) (by decide +kernel)) rfl, xm_tb_sel (List.mem_of_getElem? (i := 39) (by decide +kernel)) rfl, xm_tb_of (List.mem_of_getElem? (i := 7) (by decide +kernel)) rfl, ⟨by decide +kernel, by decide +kernel, by decide +kernel⟩⟩
theorem k_X6_144 : xm_FVN RX6 144 yX3_runAll "WindowMatches" cX3_runAll 4 (some .int) 1 := ⟨xm_tb_of (List.mem_of_getElem? (i := 296) (by decide +kernel)) rfl, xm_nest_of (List.mem_of_getElem? (i := 293) (by decide +kernel)) rfl, xm_tb_of (List.mem_of_getElem? (i := 295) (by decide +kernel)) rfl, xm_tb_sel (List.mem_of_getElem? (i := 5) (by decide +kernel)) rfl, xm_tb_of (List.mem_of_getElem? (i := 6) (by decide +kernel)) rfl, ⟨by decide +kernel, by decide +kernel, by decide +kernel⟩⟩
theorem k_X6_148 : xm_FVN RX6 148 yX3_shareOf "WindowMatches" cX3_shareOf 2 (some .int) 1 := ⟨xm_tb_of (List.mem_of_getElem? (i := 585) (by decide +kernel)) rfl, xm_nest_of (List.mem_of_getElem? (i := 582) (by decide +kernel)) rfl, xm_tb_of (List.mem_of_getElem? (i := 584) (by decide +kernel)) rfl, xm_tb_sel (List.mem_of_getElem? (i := 40) (by decide +kernel)) rfl, xm_tb_of (List.mem_of_getElem? (i := 6) (by decide +kernel)) rfl, ⟨by decide +kernel, by decide +kernel, by decide +kernel⟩⟩
theorem l_X6_151 : Cond.fieldLinkNest RX6 151 "WindowMatches$Pattern" "rule" "I" "WindowMatches" ∈ xm_nest := xm_nest_of (List.mem_of_getElem? (i := 41) (by decide +kernel)) rfl
theorem l_X6_154 : Cond.fieldLinkNest RX6 154 "WindowMatches$Pattern" "steps" "I" "WindowMatches" ∈ xm_nest := xm_nest_of (List.mem_of_getElem? (i := 45) (by decide +kernel)) rfl
theorem l_X6_157 : Cond.fieldLinkNest RX6 157 "WindowMatches$Pattern" "plainSteps" "I" "WindowMatches" ∈ xm_nest := xm_nest_of (List.mem_of_getElem? (i := 48) (by decide +kernel)) rfl
theorem k_X6_160 : xm_FV RX6 160 yX6_searchFor cX6_searchFor 2 none 1 := ⟨xm_tb_of (List.mem_of_getElem? (i := 520) (by decide +kernel)) rfl, xm_tb_of (List.mem_of_getElem? (i := 517) (by decide +kernel)) rfl, xm_tb_of (List.mem_of_getElem? (i := 519) (by decide +kernel)) rfl, xm_tb_sel (List.mem_of_getElem? (i := 33) (by decide +kernel)) rfl, xm_tb_of (List.mem_of_getElem? (i := 1) (by decide +kernel)) rfl, ⟨by decide +kernel, by decide +kernel, by decide +kernel⟩⟩
theorem l_X6_164 : Cond.fieldLinkNest RX6 164 "WindowMatches$Search" "matches" "I" "WindowMatches" ∈ xm_nest := xm_nest_of (List.mem_of_getElem? (i := 198) (by decide +kernel)) rfl
theorem l_X6_167 : Cond.fieldLinkNest RX6 167 "WindowMatches$Search" "sureMatches" "I" "WindowMatches" ∈ xm_nest := xm_nest_of (List.mem_of_getElem? (i := 200) (by decide +kernel)) rfl
theorem l_X6_170 : Cond.fieldLinkNest RX6 170 "WindowMatches$Search" "branches" "I" "WindowMatches" ∈ xm_nest := xm_nest_of (List.mem_of_getElem? (i := 202) (by decide +kernel)) rfl
theorem l_X6_173 : Cond.fieldLinkNest RX6 173 "WindowMatches$Pattern" "kinds" "[C" "WindowMatches" ∈ xm_nest := xm_nest_of (List.mem_of_getElem? (i := 51) (by decide +kernel)) rfl
theorem l_X6_174 : Cond.fieldLinkNest RX6 174 "WindowMatches$Pattern" "absent" "[Z" "WindowMatches" ∈ xm_nest := xm_nest_of (List.mem_of_getElem? (i := 54) (by decide +kernel)) rfl
theorem k_X6_178 : xm_FVN RX6 178 yX3_want "WindowMatches" cX3_want 3 none 2 := ⟨xm_tb_of (List.mem_of_getElem? (i := 573) (by decide +kernel)) rfl, xm_nest_of (List.mem_of_getElem? (i := 570) (by decide +kernel)) rfl, xm_tb_of (List.mem_of_getElem? (i := 572) (by decide +kernel)) rfl, xm_tb_sel (List.mem_of_getElem? (i := 38) (by decide +kernel)) rfl, xm_tb_of (List.mem_of_getElem? (i := 6) (by decide +kernel)) rfl, ⟨by decide +kernel, by decide +kernel, by decide +kernel⟩⟩
theorem l_X6_185 : Cond.fieldLinkNest RX6 185 "WindowMatches$Search" "wantedEvent" "I" "WindowMatches" ∈ xm_nest := xm_nest_of (List.mem_of_getElem? (i := 190) (by decide +kernel)) rfl
theorem k_X6_188 : xm_FVN RX6 188 yX1_insert "WindowMatches" cX1_insert 6 none 4 := ⟨xm_tb_of (List.mem_of_getElem? (i := 281) (by decide +kernel)) rfl, xm_nest_of (List.mem_of_getElem? (i := 347) (by decide +kernel)) rfl, xm_tb_of (List.mem_of_getElem? (i := 280) (by decide +kernel)) rfl, xm_tb_sel (List.mem_of_getElem? (i := 2) (by decide +kernel)) rfl, xm_tb_of (List.mem_of_getElem? (i := 7) (by decide +kernel)) rfl, ⟨by decide +kernel, by decide +kernel, by decide +kernel⟩⟩
theorem k_X6_195 : xm_FVN RX6 195 yX4_watermark "WindowMatches" cX4_watermark 1 (some .int) 0 := ⟨xm_tb_of (List.mem_of_getElem? (i := 289) (by decide +kernel)) rfl, xm_nest_of (List.mem_of_getElem? (i := 324) (by decide +kernel)) rfl, xm_tb_of (List.mem_of_getElem? (i := 288) (by decide +kernel)) rfl, xm_tb_sel (List.mem_of_getElem? (i := 4) (by decide +kernel)) rfl, xm_tb_of (List.mem_of_getElem? (i := 2) (by decide +kernel)) rfl, ⟨by decide +kernel, by decide +kernel, by decide +kernel⟩⟩
theorem k_X6_199 : xm_FVN RX6 199 yX3_placesWithoutShare "WindowMatches" cX3_placesWithoutShare 3 (some .int) 0 := ⟨xm_tb_of (List.mem_of_getElem? (i := 328) (by decide +kernel)) rfl, xm_nest_of (List.mem_of_getElem? (i := 325) (by decide +kernel)) rfl, xm_tb_of (List.mem_of_getElem? (i := 327) (by decide +kernel)) rfl, xm_tb_sel (List.mem_of_getElem? (i := 12) (by decide +kernel)) rfl, xm_tb_of (List.mem_of_getElem? (i := 6) (by decide +kernel)) rfl, ⟨by decide +kernel, by decide +kernel, by decide +kernel⟩⟩
def f_X3_run (n : Nat) (M : xm_M) (o1 : Nat) : Option xm_M := xm_lt (xm_up M 8 6 (M o1 0)) (fun M1 => xm_lt (xm_up M1 8 7 (M1 o1 1)) (fun M3 => xm_lt (xm_up M3 8 12 0) (fun M5 => xm_lt (xm_up M5 8 13 0) (fun M7 => xm_lt (xm_up M7 8 14 0) (fun M9 => xm_b1 (f_X3_takePlainSteps n M9 o1) (fun M11 => if (M11 8 8) ≤ 0 then some M11 else xm_b2 (f_X3_walkFrom n M11 0) (fun r16 M15 => some M15)))))))
set_option maxHeartbeats 4000000 in
set_option maxRecDepth 100000 in
theorem t_X3_run_0 {l : Launch} {p : Program} {e : Env} {s : State} {m : MethodId} {args : Array Value} {below : List Frame} {meth : Method} {c : Code} {E : xm_E} {a : Nat → Nat} (C : xm_C E (xv E a) p s m args meth c RX3 cX3_run 2 none) {o1 : Nat} (h1 : xm_Pa o1) (n : Nat) (M : xm_M) (M' : xm_M) : f_X3_run n M o1 = some M' → ∀ (H : Heap) (locs : List Loc) (ls : Array Slot), va_P E.1 vwCl (xm_w (xv E a) M) H → va_S (xm_A (xv E a) s.heap.size) s.heap H locs → lv_has ls 2 [(0, .ref (a 8)), (1, .ref (a o1))] → W p l e { frames := 6, cells := 0, slots := 0, locals := 153 } s m args below meth c H locs 0 0 (MQ below (xm_Q E (xv E a) M' s.heap.size none) args s 0 0 (xm_A (xv E a) s.heap.size)) (F0 m 0 ls []) := by
  have C9 := C
  obtain ⟨hx, hb, hml, hown, hts, hr, hlk, hD, hK, hS9⟩ := C9
  intro h H locs ls hP hS hl
  unfold f_X3_run at h
  refine lv_aload_n hx hb dX3_run_0 rfl (lv_at hl 0 rfl) ?_
  refine lv_aload_n hx hb dX3_run_1 rfl (lv_at hl 1 rfl) ?_
  refine xm_getN (V := (xv E a)) (T := TX2) (v := .int (M o1 0)) C hP o1 0 xi_2 rfl l_X3_87 rfl (xp_lt h1 0 (by omega)) ((xp_0 h1 E a) _) (Nat.le_of_ble_eq_true rfl) rfl dX3_run_2 ?_
  obtain ⟨M1, e2, h⟩ := xm_lt_s h
  refine xm_put (V := (xv E a)) (T := TX3) (ty := .int) (x := M o1 0) C hP hS 8 6 xi_3 rfl l_X3_34 rfl tyX3_ok nmX3 (Nat.le_of_ble_eq_true rfl) ((xe_8 E a) _) (Nat.le_of_ble_eq_true rfl) rfl (by decide +kernel) rfl rfl (Nat.le_of_ble_eq_true rfl) ((xe_8 E a) _) dX3_run_5 (fun H locs hP hS => ?_)
  rw [← e2] at hP
  refine lv_aload_n hx hb dX3_run_8 rfl (lv_at hl 0 rfl) ?_
  refine lv_aload_n hx hb dX3_run_9 rfl (lv_at hl 1 rfl) ?_
  refine xm_getN (V := (xv E a)) (T := TX2) (v := .int (M1 o1 1)) C hP o1 1 xi_2 rfl l_X3_90 rfl (xp_lt h1 0 (by omega)) ((xp_0 h1 E a) _) (Nat.le_of_ble_eq_true rfl) rfl dX3_run_10 ?_
  obtain ⟨M3, e4, h⟩ := xm_lt_s h
  refine xm_put (V := (xv E a)) (T := TX3) (ty := .int) (x := M1 o1 1) C hP hS 8 7 xi_3 rfl l_X3_37 rfl tyX3_ok nmX3 (Nat.le_of_ble_eq_true rfl) ((xe_8 E a) _) (Nat.le_of_ble_eq_true rfl) rfl (by decide +kernel) rfl rfl (Nat.le_of_ble_eq_true rfl) ((xe_8 E a) _) dX3_run_13 (fun H locs hP hS => ?_)
  rw [← e4] at hP
  refine lv_aload_n hx hb dX3_run_16 rfl (lv_at hl 0 rfl) ?_
  refine lv_iconst (v := 0) hx hb dX3_run_17 (by decide) ?_
  obtain ⟨M5, e6, h⟩ := xm_lt_s h
  refine xm_put (V := (xv E a)) (T := TX3) (ty := .int) (x := 0) C hP hS 8 12 xi_3 rfl l_X3_54 rfl tyX3_ok nmX3 (Nat.le_of_ble_eq_true rfl) ((xe_8 E a) _) (Nat.le_of_ble_eq_true rfl) rfl (by decide +kernel) rfl rfl (Nat.le_of_ble_eq_true rfl) ((xe_8 E a) _) dX3_run_18 (fun H locs hP hS => ?_)
  rw [← e6] at hP
  refine lv_aload_n hx hb dX3_run_21 rfl (lv_at hl 0 rfl) ?_
  refine lv_iconst (v := 0) hx hb dX3_run_22 (by decide) ?_
  obtain ⟨M7, e8, h⟩ := xm_lt_s h
  refine xm_put (V := (xv E a)) (T := TX3) (ty := .int) (x := 0) C hP hS 8 13 xi_3 rfl l_X3_57 rfl tyX3_ok nmX3 (Nat.le_of_ble_eq_true rfl) ((xe_8 E a) _) (Nat.le_of_ble_eq_true rfl) rfl (by decide +kernel) rfl rfl (Nat.le_of_ble_eq_true rfl) ((xe_8 E a) _) dX3_run_23 (fun H locs hP hS => ?_)
  rw [← e8] at hP
  refine lv_aload_n hx hb dX3_run_26 rfl (lv_at hl 0 rfl) ?_
  refine lv_iconst (v := 0) hx hb dX3_run_27 (by decide) ?_
  obtain ⟨M9, e10, h⟩ := xm_lt_s h
  refine xm_put (V := (xv E a)) (T := TX3) (ty := .int) (x := 0) C hP hS 8 14 xi_3 rfl l_X3_60 rfl tyX3_ok nmX3 (Nat.le_of_ble_eq_true rfl) ((xe_8 E a) _) (Nat.le_of_ble_eq_true rfl) rfl (by decide +kernel) rfl rfl (Nat.le_of_ble_eq_true rfl) ((xe_8 E a) _) dX3_run_28 (fun H locs hP hS => ?_)
  rw [← e10] at hP
  refine lv_aload_n hx hb dX3_run_31 rfl (lv_at hl 0 rfl) ?_
  refine lv_aload_n hx hb dX3_run_32 rfl (lv_at hl 1 rfl) ?_
  obtain ⟨M11, e13, h⟩ := xm_b1_s h
  refine xm_callV C hP hS [.ref (a o1)] [] (c_X3_takePlainSteps hD h1 n M9  M11 e13) k_X3_91 (xm_recv C hP 8 rfl (Nat.le_of_ble_eq_true rfl) ((xe_8 E a) _)) rfl rfl ⟨(Nat.le_of_ble_eq_true rfl), (Nat.le_of_ble_eq_true rfl)⟩ hl.1 (Nat.le_of_ble_eq_true rfl) ⟨Nat.zero_le _, Nat.zero_le _⟩ dX3_run_33 (fun H locs hP hS => ?_)
  change W p l e _ s m _ below meth c H locs 0 0 _ (F0 m 36 ls [])
  refine lv_aload_n hx hb dX3_run_36 rfl (lv_at hl 0 rfl) ?_
  refine xm_get (V := (xv E a)) (T := TX3) (v := .int (M11 8 8)) C hP 8 8 xi_3 rfl l_X3_40 rfl (Nat.le_of_ble_eq_true rfl) ((xe_8 E a) _) (Nat.le_of_ble_eq_true rfl) rfl dX3_run_37 ?_
  refine lv_if_le (tgt := 49) hx hb dX3_run_40 (by decide) (fun c14 => ?_) (fun c14 => ?_)
  · rw [if_pos c14] at h
    cases xm_on h
    exact xm_retV C hP hS dX3_run_49
  · rw [if_neg c14] at h
    refine lv_aload_n hx hb dX3_run_43 rfl (lv_at hl 0 rfl) ?_
    refine lv_iconst (v := 0) hx hb dX3_run_44 (by decide) ?_
    obtain ⟨r16, M15, e17, h⟩ := xm_b2_s h
    refine xm_callS C hP hS [.ref (a 8), .int 0] [] (c_X3_walkFrom hD  n M11 0 r16 M15 e17) k_X3_94  rfl rfl ⟨(Nat.le_of_ble_eq_true rfl), (Nat.le_of_ble_eq_true rfl)⟩ hl.1 (Nat.le_of_ble_eq_true rfl) ⟨Nat.zero_le _, Nat.zero_le _⟩ dX3_run_45 (fun H locs hP hS => ?_)
    change W p l e _ s m _ below meth c H locs 0 0 _ (F0 m 48 ls [.int r16])
    refine lv_pop hx hb dX3_run_48 rfl ?_
    cases xm_on h
    exact xm_retV C hP hS dX3_run_49
theorem c_X3_run {l : Launch} {E : xm_E} {a : Nat → Nat} (hD : xm_D (xv E a)) {o1 : Nat} (h1 : xm_Pa o1) (n : Nat) (M : xm_M) (M' : xm_M) (h : f_X3_run n M o1 = some M') : xm_Met l E (xv E a) yX3_run cX3_run 2 none 6 153 [.ref (a 8), .ref (a o1)] M M' none :=
  xm_met (by decide +kernel) rfl (Nat.le_of_ble_eq_true rfl) hD (fun p e s m below meth c C hP ls hl => t_X3_run_0 C h1 n M M' h _ _ _ hP va_S.rf hl)
def f_X3_runAll_4 : Nat → xm_M → Nat → Int32 → Int32 → Option (Int32 × xm_M)
  | 0, _, _, _, _ => none
  | n + 1, M, o1, x2, x3 => if (M o1 6) ≤ x3 then some (x2, M) else xm_ck (xm_in x3 4) (xm_b1 (f_X3_run n M (o1 + 5 + 3 * x3.toNatClampNeg)) (fun M3 => f_X3_runAll_4 n M3 o1 (x2 + (M3 8 12)) (x3 + 1)))
set_option maxHeartbeats 4000000 in
set_option maxRecDepth 100000 in
theorem t_X3_runAll_4 {l : Launch} {p : Program} {e : Env} {s : State} {m : MethodId} {args : Array Value} {below : List Frame} {meth : Method} {c : Code} {E : xm_E} {a : Nat → Nat} (C : xm_C E (xv E a) p s m args meth c RX3 cX3_runAll 4 (some .int)) {o1 : Nat} (h1 : xm_St o1) : ∀ (n : Nat) (M : xm_M) (x2 : Int32) (x3 : Int32) (r : Int32) (M' : xm_M), f_X3_runAll_4 n M o1 x2 x3 = some (r, M') → ∀ (H : Heap) (locs : List Loc) (ls : Array Slot), va_P E.1 vwCl (xm_w (xv E a) M) H → va_S (xm_A (xv E a) s.heap.size) s.heap H locs → lv_has ls 4 [(0, .ref (a 8)), (1, .ref (a o1)), (2, .int x2), (3, .int x3)] → W p l e { frames := 7, cells := 0, slots := 0, locals := 174 } s m args below meth c H locs 0 0 (MQ below (xm_Q E (xv E a) M' s.heap.size (some r)) args s 0 0 (xm_A (xv E a) s.heap.size)) (F0 m 4 ls []) := by
  have C9 := C
  obtain ⟨hx, hb, hml, hown, hts, hr, hlk, hD, hK, hS9⟩ := C9
  intro n
  induction n with
  | zero =>
    intro M x2 x3 r M' h
    cases h
  | succ n ih =>
    intro M x2 x3 r M' h H locs ls hP hS hl
    rw [f_X3_runAll_4] at h
    refine lv_iload_n hx hb dX3_runAll_4 rfl (lv_at hl 3 rfl) ?_
    refine lv_aload_n hx hb dX3_runAll_5 rfl (lv_at hl 1 rfl) ?_
    refine xm_getN (V := (xv E a)) (T := TX4) (v := .int (M o1 6)) C hP o1 6 xi_4 rfl l_X3_76 rfl (xs_lt h1 0 (by omega)) ((xs_0 h1 E a) _) (Nat.le_of_ble_eq_true rfl) rfl dX3_runAll_6 ?_
    refine lv_icmp_ge (tgt := 35) hx hb dX3_runAll_9 (by decide) (fun c1 => ?_) (fun c1 => ?_)
    · rw [if_pos c1] at h
      refine lv_iload_n hx hb dX3_runAll_35 rfl (lv_at hl 2 rfl) ?_
      obtain ⟨rfl, rfl⟩ := xm_pr h
      exact xm_retI C hP hS dX3_runAll_36
    · rw [if_neg c1] at h
      refine lv_aload_n hx hb dX3_runAll_12 rfl (lv_at hl 0 rfl) ?_
      refine lv_aload_n hx hb dX3_runAll_13 rfl (lv_at hl 1 rfl) ?_
      refine xm_getN (V := (xv E a)) (T := TX4) (v := .ref (a (o1 + 4))) C hP o1 7 xi_4 rfl l_X3_79 rfl (xs_lt h1 0 (by omega)) ((xs_0 h1 E a) _) (Nat.le_of_ble_eq_true rfl) rfl dX3_runAll_14 ?_
      refine lv_iload_n hx hb dX3_runAll_17 rfl (lv_at hl 3 rfl) ?_
      obtain ⟨b2, h⟩ := xm_ck_s h
      refine xm_aald (V := (xv E a)) (K := RX2) (v := a (o1 + 5 + 3 * x3.toNatClampNeg)) C hP (o1 + 4) 4 4 (xs_lt h1 4 (by omega)) (xs_4 h1 E a) rfl b2 (xo_rp_at b2) dX3_runAll_18 ?_
      obtain ⟨M3, e5, h⟩ := xm_b1_s h
      refine xm_callV C hP hS [.ref (a (o1 + 5 + 3 * x3.toNatClampNeg))] [] (c_X3_run hD (xp_s h1 b2) n M  M3 e5) k_X3_83 (xm_recv C hP 8 rfl (Nat.le_of_ble_eq_true rfl) ((xe_8 E a) _)) rfl rfl ⟨(Nat.le_of_ble_eq_true rfl), (Nat.le_of_ble_eq_true rfl)⟩ hl.1 (Nat.le_of_ble_eq_true rfl) ⟨Nat.zero_le _, Nat.zero_le _⟩ dX3_runAll_19 (fun H locs hP hS => ?_)
      change W p l e _ s m _ below meth c H locs 0 0 _ (F0 m 22 ls [])
      refine lv_iload_n hx hb dX3_runAll_22 rfl (lv_at hl 2 rfl) ?_
      refine lv_aload_n hx hb dX3_runAll_23 rfl (lv_at hl 0 rfl) ?_
      refine xm_get (V := (xv E a)) (T := TX3) (v := .int (M3 8 12)) C hP 8 12 xi_3 rfl l_X3_54 rfl (Nat.le_of_ble_eq_true rfl) ((xe_8 E a) _) (Nat.le_of_ble_eq_true rfl) rfl dX3_runAll_24 ?_
      refine lv_iadd hx hb dX3_runAll_27 ?_
      refine lv_istore_n (lv' := [(2, .int (x2 + (M3 8 12))), (0, .ref (a 8)), (1, .ref (a o1)), (3, .int x3)]) hx hb dX3_runAll_28 rfl hl (by decide) rfl (fun ls hl => ?_)
      refine lv_iinc (v := x3 + 1) (lv' := [(3, .int (x3 + 1)), (2, .int (x2 + (M3 8 12))), (0, .ref (a 8)), (1, .ref (a o1))]) hx hb dX3_runAll_29 hl (k := 3) rfl (xm_add (by decide)) (by decide) rfl (fun ls hl => ?_)
      refine lv_goto (tgt := 4) hx hb dX3_runAll_32 (by decide) ?_
      exact ih M3 (x2 + (M3 8 12)) (x3 + 1) r M' h _ _ _ hP hS (lv_sub hl [2, 3, 1, 0] rfl)
def f_X3_runAll (n : Nat) (M : xm_M) (o1 : Nat) : Option (Int32 × xm_M) := f_X3_runAll_4 n M o1 0 0
set_option maxHeartbeats 4000000 in
set_option maxRecDepth 100000 in
theorem t_X3_runAll_0 {l : Launch} {p : Program} {e : Env} {s : State} {m : MethodId} {args : Array Value} {below : List Frame} {meth : Method} {c : Code} {E : xm_E} {a : Nat → Nat} (C : xm_C E (xv E a) p s m args meth c RX3 cX3_runAll 4 (some .int)) {o1 : Nat} (h1 : xm_St o1) (n : Nat) (M : xm_M) (r : Int32) (M' : xm_M) : f_X3_runAll n M o1 = some (r, M') → ∀ (H : Heap) (locs : List Loc) (ls : Array Slot), va_P E.1 vwCl (xm_w (xv E a) M) H → va_S (xm_A (xv E a) s.heap.size) s.heap H locs → lv_has ls 4 [(0, .ref (a 8)), (1, .ref (a o1))] → W p l e { frames := 7, cells := 0, slots := 0, locals := 174 } s m args below meth c H locs 0 0 (MQ below (xm_Q E (xv E a) M' s.heap.size (some r)) args s 0 0 (xm_A (xv E a) s.heap.size)) (F0 m 0 ls []) := by
  have C9 := C
  obtain ⟨hx, hb, hml, hown, hts, hr, hlk, hD, hK, hS9⟩ := C9
  intro h H locs ls hP hS hl
  unfold f_X3_runAll at h
  refine lv_iconst (v := 0) hx hb dX3_runAll_0 (by decide) ?_
  refine lv_istore_n (lv' := [(2, .int 0), (0, .ref (a 8)), (1, .ref (a o1))]) hx hb dX3_runAll_1 rfl hl (by decide) rfl (fun ls hl => ?_)
  refine lv_iconst (v := 0) hx hb dX3_runAll_2 (by decide) ?_
  refine lv_istore_n (lv' := [(3, .int 0), (2, .int 0), (0, .ref (a 8)), (1, .ref (a o1))]) hx hb dX3_runAll_3 rfl hl (by decide) rfl (fun ls hl => ?_)
  exact t_X3_runAll_4 C h1 n M 0 0 r M' h _ _ _ hP hS (lv_sub hl [2, 3, 1, 0] rfl)
theorem c_X3_runAll {l : Launch} {E : xm_E} {a : Nat → Nat} (hD : xm_D (xv E a)) {o1 : Nat} (h1 : xm_St o1) (n : Nat) (M : xm_M) (r : Int32) (M' : xm_M) (h : f_X3_runAll n M o1 = some (r, M')) : xm_Met l E (xv E a) yX3_runAll cX3_runAll 4 (some .int) 7 174 [.ref (a 8), .ref (a o1)] M M' (some r) :=
  xm_met (by decide +kernel) rfl (Nat.le_of_ble_eq_true rfl) hD (fun p e s m below meth c C hP ls hl => t_X3_runAll_0 C h1 n M r M' h _ _ _ hP va_S.rf hl)
def f_X6_isPattern (n : Nat) (M : xm_M) (x1 : Int32) : Option (Int32 × xm_M) := if x1 < 0 then some (0, M) else if (M 18 6) ≤ x1 then some (0, M) else some (1, M)
set_option maxHeartbeats 4000000 in
set_option maxRecDepth 100000 in
theorem t_X6_isPattern_0 {l : Launch} {p : Program} {e : Env} {s : State} {m : MethodId} {args : Array Value} {below : List Frame} {meth : Method} {c : Code} {E : xm_E} {a : Nat → Nat} (C : xm_C E (xv E a) p s m args meth c RX6 cX6_isPattern 2 (some .boolean)) (n : Nat) (M : xm_M) (x1 : Int32) (r : Int32) (M' : xm_M) : f_X6_isPattern n M x1 = some (r, M') → ∀ (H : Heap) (locs : List Loc) (ls : Array Slot), va_P E.1 vwCl (xm_w (xv E a) M) H → va_S (xm_A (xv E a) s.heap.size) s.heap H locs → lv_has ls 2 [(0, .ref (a 0)), (1, .int x1)] → W p l e { frames := 0, cells := 0, slots := 0, locals := 0 } s m args below meth c H locs 0 0 (MQ below (xm_Q E (xv E a) M' s.heap.size (some r)) args s 0 0 (xm_A (xv E a) s.heap.size)) (F0 m 0 ls []) := by
  have C9 := C
  obtain ⟨hx, hb, hml, hown, hts, hr, hlk, hD, hK, hS9⟩ := C9
  intro h H locs ls hP hS hl
  unfold f_X6_isPattern at h
  refine lv_iload_n hx hb dX6_isPattern_0 rfl (lv_at hl 1 rfl) ?_
  refine lv_if_lt (tgt := 19) hx hb dX6_isPattern_1 (by decide) (fun c1 => ?_) (fun c1 => ?_)
  · rw [if_pos c1] at h
    refine lv_iconst (v := 0) hx hb dX6_isPattern_19 (by decide) ?_
    obtain ⟨rfl, rfl⟩ := xm_pr h
    exact xm_retZ C hP hS (by rfl) dX6_isPattern_20
  · rw [if_neg c1] at h
    refine lv_iload_n hx hb dX6_isPattern_4 rfl (lv_at hl 1 rfl) ?_
    refine lv_aload_n hx hb dX6_isPattern_5 rfl (lv_at hl 0 rfl) ?_
    refine xm_get (V := (xv E a)) (T := TX6) (v := .ref (a 18)) C hP 0 0 xi_6 rfl l_X6_10 rfl (Nat.le_of_ble_eq_true rfl) ((xe_0 E a) _) (Nat.le_of_ble_eq_true rfl) rfl dX6_isPattern_6 ?_
    refine xm_getN (V := (xv E a)) (T := TX4) (v := .int (M 18 6)) C hP 18 6 xi_4 rfl l_X6_85 rfl (xs_lt xs_18 0 (by omega)) ((xs_0 xs_18 E a) _) (Nat.le_of_ble_eq_true rfl) rfl dX6_isPattern_9 ?_
    refine lv_icmp_ge (tgt := 19) hx hb dX6_isPattern_12 (by decide) (fun c2 => ?_) (fun c2 => ?_)
    · rw [if_pos c2] at h
      refine lv_iconst (v := 0) hx hb dX6_isPattern_19 (by decide) ?_
      obtain ⟨rfl, rfl⟩ := xm_pr h
      exact xm_retZ C hP hS (by rfl) dX6_isPattern_20
    · rw [if_neg c2] at h
      refine lv_iconst (v := 1) hx hb dX6_isPattern_15 (by decide) ?_
      refine lv_goto (tgt := 20) hx hb dX6_isPattern_16 (by decide) ?_
      obtain ⟨rfl, rfl⟩ := xm_pr h
      exact xm_retZ C hP hS (by rfl) dX6_isPattern_20
theorem c_X6_isPattern {l : Launch} {E : xm_E} {a : Nat → Nat} (hD : xm_D (xv E a)) (n : Nat) (M : xm_M) (x1 : Int32) (r : Int32) (M' : xm_M) (h : f_X6_isPattern n M x1 = some (r, M')) : xm_Met l E (xv E a) yX6_isPattern cX6_isPattern 2 (some .boolean) 0 0 [.ref (a 0), .int x1] M M' (some r) :=
  xm_met (by decide +kernel) rfl (Nat.le_of_ble_eq_true rfl) hD (fun p e s m below meth c C hP ls hl => t_X6_isPattern_0 C  n M x1 r M' h _ _ _ hP va_S.rf hl)
def f_X6_errorOfEvent (n : Nat) (M : xm_M) (x1 : Int32) (x2 : Int32) (x3 : Int32) : Option (Int32 × xm_M) := xm_b2 (f_X6_isKind n M x1) (fun r2 M1 => if r2 = 0 then some ((-2), M1) else xm_b2 (f_X6_isWithin n M1 x2 0 99) (fun r6 M5 => if r6 = 0 then some ((-2), M5) else xm_b2 (f_X6_isWithin n M5 x3 0 9999) (fun r10 M9 => if r10 = 0 then some ((-2), M9) else if ((M9 18 4) - (M9 18 5)) ≤ x3 then some (0, M9) else some ((-4), M9))))
set_option maxHeartbeats 4000000 in
set_option maxRecDepth 100000 in
theorem t_X6_errorOfEvent_0 {l : Launch} {p : Program} {e : Env} {s : State} {m : MethodId} {args : Array Value} {below : List Frame} {meth : Method} {c : Code} {E : xm_E} {a : Nat → Nat} (C : xm_C E (xv E a) p s m args meth c RX6 cX6_errorOfEvent 4 (some .int)) (n : Nat) (M : xm_M) (x1 : Int32) (x2 : Int32) (x3 : Int32) (r : Int32) (M' : xm_M) : f_X6_errorOfEvent n M x1 x2 x3 = some (r, M') → ∀ (H : Heap) (locs : List Loc) (ls : Array Slot), va_P E.1 vwCl (xm_w (xv E a) M) H → va_S (xm_A (xv E a) s.heap.size) s.heap H locs → lv_has ls 4 [(0, .ref (a 0)), (1, .int x1), (2, .int x2), (3, .int x3)] → W p l e { frames := 1, cells := 0, slots := 0, locals := 22 } s m args below meth c H locs 0 0 (MQ below (xm_Q E (xv E a) M' s.heap.size (some r)) args s 0 0 (xm_A (xv E a) s.heap.size)) (F0 m 0 ls []) := by
  have C9 := C
  obtain ⟨hx, hb, hml, hown, hts, hr, hlk, hD, hK, hS9⟩ := C9
  intro h H locs ls hP hS hl
  unfold f_X6_errorOfEvent at h
  refine lv_iload_n hx hb dX6_errorOfEvent_0 rfl (lv_at hl 1 rfl) ?_
  obtain ⟨r2, M1, e3, h⟩ := xm_b2_s h
  refine xm_callS C hP hS [.int x1] [] (c_X6_isKind hD  n M x1 r2 M1 e3) k_X6_202  rfl rfl ⟨(Nat.le_of_ble_eq_true rfl), (Nat.le_of_ble_eq_true rfl)⟩ hl.1 (Nat.le_of_ble_eq_true rfl) ⟨Nat.zero_le _, Nat.zero_le _⟩ dX6_errorOfEvent_1 (fun H locs hP hS => ?_)
  change W p l e _ s m _ below meth c H locs 0 0 _ (F0 m 4 ls [.int r2])
  refine lv_if_eq (tgt := 28) hx hb dX6_errorOfEvent_4 (by decide) (fun c4 => ?_) (fun c4 => ?_)
  · rw [if_pos c4] at h
    refine lv_bipush (v := (-2)) hx hb dX6_errorOfEvent_28 (by decide) ?_
    obtain ⟨rfl, rfl⟩ := xm_pr h
    exact xm_retI C hP hS dX6_errorOfEvent_30
  · rw [if_neg c4] at h
    refine lv_iload_n hx hb dX6_errorOfEvent_7 rfl (lv_at hl 2 rfl) ?_
    refine lv_iconst (v := 0) hx hb dX6_errorOfEvent_8 (by decide) ?_
    refine lv_bipush (v := 99) hx hb dX6_errorOfEvent_9 (by decide) ?_
    obtain ⟨r6, M5, e7, h⟩ := xm_b2_s h
    refine xm_callS C hP hS [.int x2, .int 0, .int 99] [] (c_X6_isWithin hD  n M1 x2 0 99 r6 M5 e7) k_X6_66  rfl rfl ⟨(Nat.le_of_ble_eq_true rfl), (Nat.le_of_ble_eq_true rfl)⟩ hl.1 (Nat.le_of_ble_eq_true rfl) ⟨Nat.zero_le _, Nat.zero_le _⟩ dX6_errorOfEvent_11 (fun H locs hP hS => ?_)
    change W p l e _ s m _ below meth c H locs 0 0 _ (F0 m 14 ls [.int r6])
    refine lv_if_eq (tgt := 28) hx hb dX6_errorOfEvent_14 (by decide) (fun c8 => ?_) (fun c8 => ?_)
    · rw [if_pos c8] at h
      refine lv_bipush (v := (-2)) hx hb dX6_errorOfEvent_28 (by decide) ?_
      obtain ⟨rfl, rfl⟩ := xm_pr h
      exact xm_retI C hP hS dX6_errorOfEvent_30
    · rw [if_neg c8] at h
      refine lv_iload_n hx hb dX6_errorOfEvent_17 rfl (lv_at hl 3 rfl) ?_
      refine lv_iconst (v := 0) hx hb dX6_errorOfEvent_18 (by decide) ?_
      refine lv_sipush (v := 9999) hx hb dX6_errorOfEvent_19 (by decide) ?_
      obtain ⟨r10, M9, e11, h⟩ := xm_b2_s h
      refine xm_callS C hP hS [.int x3, .int 0, .int 9999] [] (c_X6_isWithin hD  n M5 x3 0 9999 r10 M9 e11) k_X6_66  rfl rfl ⟨(Nat.le_of_ble_eq_true rfl), (Nat.le_of_ble_eq_true rfl)⟩ hl.1 (Nat.le_of_ble_eq_true rfl) ⟨Nat.zero_le _, Nat.zero_le _⟩ dX6_errorOfEvent_22 (fun H locs hP hS => ?_)
      change W p l e _ s m _ below meth c H locs 0 0 _ (F0 m 25 ls [.int r10])
      refine lv_if_ne (tgt := 31) hx hb dX6_errorOfEvent_25 (by decide) (fun c12 => ?_) (fun c12 => ?_)
      · rw [if_neg c12] at h
        refine lv_iload_n hx hb dX6_errorOfEvent_31 rfl (lv_at hl 3 rfl) ?_
        refine lv_aload_n hx hb dX6_errorOfEvent_32 rfl (lv_at hl 0 rfl) ?_
        refine xm_get (V := (xv E a)) (T := TX6) (v := .ref (a 18)) C hP 0 0 xi_6 rfl l_X6_10 rfl (Nat.le_of_ble_eq_true rfl) ((xe_0 E a) _) (Nat.le_of_ble_eq_true rfl) rfl dX6_errorOfEvent_33 ?_
        refine xm_getN (V := (xv E a)) (T := TX4) (v := .int (M9 18 4)) C hP 18 4 xi_4 rfl l_X6_192 rfl (xs_lt xs_18 0 (by omega)) ((xs_0 xs_18 E a) _) (Nat.le_of_ble_eq_true rfl) rfl dX6_errorOfEvent_36 ?_
        refine lv_aload_n hx hb dX6_errorOfEvent_39 rfl (lv_at hl 0 rfl) ?_
        refine xm_get (V := (xv E a)) (T := TX6) (v := .ref (a 18)) C hP 0 0 xi_6 rfl l_X6_10 rfl (Nat.le_of_ble_eq_true rfl) ((xe_0 E a) _) (Nat.le_of_ble_eq_true rfl) rfl dX6_errorOfEvent_40 ?_
        refine xm_getN (V := (xv E a)) (T := TX4) (v := .int (M9 18 5)) C hP 18 5 xi_4 rfl l_X6_78 rfl (xs_lt xs_18 0 (by omega)) ((xs_0 xs_18 E a) _) (Nat.le_of_ble_eq_true rfl) rfl dX6_errorOfEvent_43 ?_
        refine lv_isub hx hb dX6_errorOfEvent_46 ?_
        refine lv_icmp_ge (tgt := 55) hx hb dX6_errorOfEvent_47 (by decide) (fun c13 => ?_) (fun c13 => ?_)
        · rw [if_pos c13] at h
          refine lv_iconst (v := 0) hx hb dX6_errorOfEvent_55 (by decide) ?_
          obtain ⟨rfl, rfl⟩ := xm_pr h
          exact xm_retI C hP hS dX6_errorOfEvent_56
        · rw [if_neg c13] at h
          refine lv_bipush (v := (-4)) hx hb dX6_errorOfEvent_50 (by decide) ?_
          refine lv_goto (tgt := 56) hx hb dX6_errorOfEvent_52 (by decide) ?_
          obtain ⟨rfl, rfl⟩ := xm_pr h
          exact xm_retI C hP hS dX6_errorOfEvent_56
      · rw [if_pos c12] at h
        refine lv_bipush (v := (-2)) hx hb dX6_errorOfEvent_28 (by decide) ?_
        obtain ⟨rfl, rfl⟩ := xm_pr h
        exact xm_retI C hP hS dX6_errorOfEvent_30
theorem c_X6_errorOfEvent {l : Launch} {E : xm_E} {a : Nat → Nat} (hD : xm_D (xv E a)) (n : Nat) (M : xm_M) (x1 : Int32) (x2 : Int32) (x3 : Int32) (r : Int32) (M' : xm_M) (h : f_X6_errorOfEvent n M x1 x2 x3 = some (r, M')) : xm_Met l E (xv E a) yX6_errorOfEvent cX6_errorOfEvent 4 (some .int) 1 22 [.ref (a 0), .int x1, .int x2, .int x3] M M' (some r) :=
  xm_met (by decide +kernel) rfl (Nat.le_of_ble_eq_true rfl) hD (fun p e s m below meth c C hP ls hl => t_X6_errorOfEvent_0 C  n M x1 x2 x3 r M' h _ _ _ hP va_S.rf hl)
def f_X6_searchFor (n : Nat) (M : xm_M) (o1 : Nat) : Option xm_M := xm_b1 (f_X3_begin n M 18) (fun M1 => xm_b1 (f_X3_run n M1 o1) (fun M4 => some M4))
set_option maxHeartbeats 4000000 in
set_option maxRecDepth 100000 in
theorem t_X6_searchFor_0 {l : Launch} {p : Program} {e : Env} {s : State} {m : MethodId} {args : Array Value} {below : List Frame} {meth : Method} {c : Code} {E : xm_E} {a : Nat → Nat} (C : xm_C E (xv E a) p s m args meth c RX6 cX6_searchFor 2 none) {o1 : Nat} (h1 : xm_Pa o1) (n : Nat) (M : xm_M) (M' : xm_M) : f_X6_searchFor n M o1 = some M' → ∀ (H : Heap) (locs : List Loc) (ls : Array Slot), va_P E.1 vwCl (xm_w (xv E a) M) H → va_S (xm_A (xv E a) s.heap.size) s.heap H locs → lv_has ls 2 [(0, .ref (a 0)), (1, .ref (a o1))] → W p l e { frames := 7, cells := 0, slots := 0, locals := 174 } s m args below meth c H locs 0 0 (MQ below (xm_Q E (xv E a) M' s.heap.size none) args s 0 0 (xm_A (xv E a) s.heap.size)) (F0 m 0 ls []) := by
  have C9 := C
  obtain ⟨hx, hb, hml, hown, hts, hr, hlk, hD, hK, hS9⟩ := C9
  intro h H locs ls hP hS hl
  unfold f_X6_searchFor at h
  refine lv_aload_n hx hb dX6_searchFor_0 rfl (lv_at hl 0 rfl) ?_
  refine xm_get (V := (xv E a)) (T := TX6) (v := .ref (a 8)) C hP 0 6 xi_6 rfl l_X6_47 rfl (Nat.le_of_ble_eq_true rfl) ((xe_0 E a) _) (Nat.le_of_ble_eq_true rfl) rfl dX6_searchFor_1 ?_
  refine lv_aload_n hx hb dX6_searchFor_4 rfl (lv_at hl 0 rfl) ?_
  refine xm_get (V := (xv E a)) (T := TX6) (v := .ref (a 18)) C hP 0 0 xi_6 rfl l_X6_10 rfl (Nat.le_of_ble_eq_true rfl) ((xe_0 E a) _) (Nat.le_of_ble_eq_true rfl) rfl dX6_searchFor_5 ?_
  obtain ⟨M1, e3, h⟩ := xm_b1_s h
  refine xm_callVN C hP hS [.ref (a 18)] [] (c_X3_begin hD xs_18 n M  M1 e3) k_X6_132 (xm_recv C hP 8 rfl (Nat.le_of_ble_eq_true rfl) ((xe_8 E a) _)) rfl rfl ⟨(Nat.le_of_ble_eq_true rfl), (Nat.le_of_ble_eq_true rfl)⟩ hl.1 (Nat.le_of_ble_eq_true rfl) ⟨Nat.zero_le _, Nat.zero_le _⟩ dX6_searchFor_8 (fun H locs hP hS => ?_)
  change W p l e _ s m _ below meth c H locs 0 0 _ (F0 m 11 ls [])
  refine lv_aload_n hx hb dX6_searchFor_11 rfl (lv_at hl 0 rfl) ?_
  refine xm_get (V := (xv E a)) (T := TX6) (v := .ref (a 8)) C hP 0 6 xi_6 rfl l_X6_47 rfl (Nat.le_of_ble_eq_true rfl) ((xe_0 E a) _) (Nat.le_of_ble_eq_true rfl) rfl dX6_searchFor_12 ?_
  refine lv_aload_n hx hb dX6_searchFor_15 rfl (lv_at hl 1 rfl) ?_
  obtain ⟨M4, e6, h⟩ := xm_b1_s h
  refine xm_callVN C hP hS [.ref (a o1)] [] (c_X3_run hD h1 n M1  M4 e6) k_X6_182 (xm_recv C hP 8 rfl (Nat.le_of_ble_eq_true rfl) ((xe_8 E a) _)) rfl rfl ⟨(Nat.le_of_ble_eq_true rfl), (Nat.le_of_ble_eq_true rfl)⟩ hl.1 (Nat.le_of_ble_eq_true rfl) ⟨Nat.zero_le _, Nat.zero_le _⟩ dX6_searchFor_16 (fun H locs hP hS => ?_)
  change W p l e _ s m _ below meth c H locs 0 0 _ (F0 m 19 ls [])
  cases xm_on h
  exact xm_retV C hP hS dX6_searchFor_19
theorem c_X6_searchFor {l : Launch} {E : xm_E} {a : Nat → Nat} (hD : xm_D (xv E a)) {o1 : Nat} (h1 : xm_Pa o1) (n : Nat) (M : xm_M) (M' : xm_M) (h : f_X6_searchFor n M o1 = some M') : xm_Met l E (xv E a) yX6_searchFor cX6_searchFor 2 none 7 174 [.ref (a 0), .ref (a o1)] M M' none :=
  xm_met (by decide +kernel) rfl (Nat.le_of_ble_eq_true rfl) hD (fun p e s m below meth c C hP ls hl => t_X6_searchFor_0 C h1 n M M' h _ _ _ hP va_S.rf hl)
def f_X6_event (n : Nat) (M : xm_M) (x1 : Int32) (x2 : Int32) (x3 : Int32) : Option (Int32 × xm_M) := xm_b2 (f_X6_errorOfEvent n M x1 x2 x3) (fun r2 M1 => if r2 = 0 then if (M1 18 0) < 24 then xm_b1 (f_X0_record n M1 18) (fun M6 => xm_b2 (f_X4_addEvent n M6 18 x1 x2 x3) (fun r10 M9 => some (r10, M9))) else some ((-3), M1) else some (r2, M1))
set_option maxHeartbeats 4000000 in
set_option maxRecDepth 100000 in
theorem t_X6_event_0 {l : Launch} {p : Program} {e : Env} {s : State} {m : MethodId} {args : Array Value} {below : List Frame} {meth : Method} {c : Code} {E : xm_E} {a : Nat → Nat} (C : xm_C E (xv E a) p s m args meth c RX6 cX6_event 5 (some .int)) (n : Nat) (M : xm_M) (x1 : Int32) (x2 : Int32) (x3 : Int32) (r : Int32) (M' : xm_M) : f_X6_event n M x1 x2 x3 = some (r, M') → ∀ (H : Heap) (locs : List Loc) (ls : Array Slot), va_P E.1 vwCl (xm_w (xv E a) M) H → va_S (xm_A (xv E a) s.heap.size) s.heap H locs → lv_has ls 5 [(0, .ref (a 0)), (1, .int x1), (2, .int x2), (3, .int x3)] → W p l e { frames := 3, cells := 0, slots := 0, locals := 65 } s m args below meth c H locs 0 0 (MQ below (xm_Q E (xv E a) M' s.heap.size (some r)) args s 0 0 (xm_A (xv E a) s.heap.size)) (F0 m 0 ls []) := by
  have C9 := C
  obtain ⟨hx, hb, hml, hown, hts, hr, hlk, hD, hK, hS9⟩ := C9
  intro h H locs ls hP hS hl
  unfold f_X6_event at h
  refine lv_aload_n hx hb dX6_event_0 rfl (lv_at hl 0 rfl) ?_
  refine lv_iload_n hx hb dX6_event_1 rfl (lv_at hl 1 rfl) ?_
  refine lv_iload_n hx hb dX6_event_2 rfl (lv_at hl 2 rfl) ?_
  refine lv_iload_n hx hb dX6_event_3 rfl (lv_at hl 3 rfl) ?_
  obtain ⟨r2, M1, e3, h⟩ := xm_b2_s h
  refine xm_callV C hP hS [.int x1, .int x2, .int x3] [] (c_X6_errorOfEvent hD  n M x1 x2 x3 r2 M1 e3) k_X6_51 (xm_recv C hP 0 rfl (Nat.le_of_ble_eq_true rfl) ((xe_0 E a) _)) rfl rfl ⟨(Nat.le_of_ble_eq_true rfl), (Nat.le_of_ble_eq_true rfl)⟩ hl.1 (Nat.le_of_ble_eq_true rfl) ⟨Nat.zero_le _, Nat.zero_le _⟩ dX6_event_4 (fun H locs hP hS => ?_)
  change W p l e _ s m _ below meth c H locs 0 0 _ (F0 m 7 ls [.int r2])
  refine lv_istore (lv' := [(4, .int r2), (0, .ref (a 0)), (1, .int x1), (2, .int x2), (3, .int x3)]) hx hb dX6_event_7 hl (by decide) rfl (fun ls hl => ?_)
  refine lv_iload hx hb dX6_event_9 (lv_at hl 0 rfl) ?_
  refine lv_if_eq (tgt := 17) hx hb dX6_event_11 (by decide) (fun c4 => ?_) (fun c4 => ?_)
  · rw [if_pos c4] at h
    refine lv_aload_n hx hb dX6_event_17 rfl (lv_at hl 1 rfl) ?_
    refine xm_get (V := (xv E a)) (T := TX6) (v := .ref (a 18)) C hP 0 0 xi_6 rfl l_X6_10 rfl (Nat.le_of_ble_eq_true rfl) ((xe_0 E a) _) (Nat.le_of_ble_eq_true rfl) rfl dX6_event_18 ?_
    refine xm_getN (V := (xv E a)) (T := TX4) (v := .int (M1 18 0)) C hP 18 0 xi_4 rfl l_X6_55 rfl (xs_lt xs_18 0 (by omega)) ((xs_0 xs_18 E a) _) (Nat.le_of_ble_eq_true rfl) rfl dX6_event_21 ?_
    refine lv_bipush (v := 24) hx hb dX6_event_24 (by decide) ?_
    refine lv_icmp_lt (tgt := 32) hx hb dX6_event_26 (by decide) (fun c5 => ?_) (fun c5 => ?_)
    · rw [if_pos c5] at h
      refine lv_aload_n hx hb dX6_event_32 rfl (lv_at hl 1 rfl) ?_
      refine xm_get (V := (xv E a)) (T := TX6) (v := .ref (a 4)) C hP 0 3 xi_6 rfl l_X6_26 rfl (Nat.le_of_ble_eq_true rfl) ((xe_0 E a) _) (Nat.le_of_ble_eq_true rfl) rfl dX6_event_33 ?_
      refine lv_aload_n hx hb dX6_event_36 rfl (lv_at hl 1 rfl) ?_
      refine xm_get (V := (xv E a)) (T := TX6) (v := .ref (a 18)) C hP 0 0 xi_6 rfl l_X6_10 rfl (Nat.le_of_ble_eq_true rfl) ((xe_0 E a) _) (Nat.le_of_ble_eq_true rfl) rfl dX6_event_37 ?_
      obtain ⟨M6, e8, h⟩ := xm_b1_s h
      refine xm_callVN C hP hS [.ref (a 18)] [] (c_X0_record hD xs_18 n M1  M6 e8) k_X6_59 (xm_recv C hP 4 rfl (Nat.le_of_ble_eq_true rfl) ((xe_4 E a) _)) rfl rfl ⟨(Nat.le_of_ble_eq_true rfl), (Nat.le_of_ble_eq_true rfl)⟩ hl.1 (Nat.le_of_ble_eq_true rfl) ⟨Nat.zero_le _, Nat.zero_le _⟩ dX6_event_40 (fun H locs hP hS => ?_)
      change W p l e _ s m _ below meth c H locs 0 0 _ (F0 m 43 ls [])
      refine lv_aload_n hx hb dX6_event_43 rfl (lv_at hl 1 rfl) ?_
      refine xm_get (V := (xv E a)) (T := TX6) (v := .ref (a 18)) C hP 0 0 xi_6 rfl l_X6_10 rfl (Nat.le_of_ble_eq_true rfl) ((xe_0 E a) _) (Nat.le_of_ble_eq_true rfl) rfl dX6_event_44 ?_
      refine lv_iload_n hx hb dX6_event_47 rfl (lv_at hl 2 rfl) ?_
      refine lv_iload_n hx hb dX6_event_48 rfl (lv_at hl 3 rfl) ?_
      refine lv_iload_n hx hb dX6_event_49 rfl (lv_at hl 4 rfl) ?_
      obtain ⟨r10, M9, e11, h⟩ := xm_b2_s h
      refine xm_callVN C hP hS [.int x1, .int x2, .int x3] [] (c_X4_addEvent hD xs_18 n M6 x1 x2 x3 r10 M9 e11) k_X6_63 (xm_recv C hP 18 rfl (xs_lt xs_18 0 (by omega)) ((xs_0 xs_18 E a) _)) rfl rfl ⟨(Nat.le_of_ble_eq_true rfl), (Nat.le_of_ble_eq_true rfl)⟩ hl.1 (Nat.le_of_ble_eq_true rfl) ⟨Nat.zero_le _, Nat.zero_le _⟩ dX6_event_50 (fun H locs hP hS => ?_)
      change W p l e _ s m _ below meth c H locs 0 0 _ (F0 m 53 ls [.int r10])
      obtain ⟨rfl, rfl⟩ := xm_pr h
      exact xm_retI C hP hS dX6_event_53
    · rw [if_neg c5] at h
      refine lv_bipush (v := (-3)) hx hb dX6_event_29 (by decide) ?_
      obtain ⟨rfl, rfl⟩ := xm_pr h
      exact xm_retI C hP hS dX6_event_31
  · rw [if_neg c4] at h
    refine lv_iload hx hb dX6_event_14 (lv_at hl 0 rfl) ?_
    obtain ⟨rfl, rfl⟩ := xm_pr h
    exact xm_retI C hP hS dX6_event_16
theorem c_X6_event {l : Launch} {E : xm_E} {a : Nat → Nat} (hD : xm_D (xv E a)) (n : Nat) (M : xm_M) (x1 : Int32) (x2 : Int32) (x3 : Int32) (r : Int32) (M' : xm_M) (h : f_X6_event n M x1 x2 x3 = some (r, M')) : xm_Met l E (xv E a) yX6_event cX6_event 5 (some .int) 3 65 [.ref (a 0), .int x1, .int x2, .int x3] M M' (some r) :=
  xm_met (by decide +kernel) rfl (Nat.le_of_ble_eq_true rfl) hD (fun p e s m below meth c C hP ls hl => t_X6_event_0 C  n M x1 x2 x3 r M' h _ _ _ hP va_S.rf hl)
def f_X6_forget (n : Nat) (M : xm_M) (x1 : Int32) : Option (Int32 × xm_M) := xm_b2 (f_X6_isWithin n M x1 0 9999) (fun r2 M1 => if r2 = 0 then some ((-2), M1) else xm_b2 (f_X4_eventsAheadOf n M1 18 x1) (fun r6 M5 => if r6 = 0 then some ((-5), M5) else xm_b1 (f_X0_record n M5 18) (fun M9 => xm_b1 (f_X4_removeEventsAheadOf n M9 18 x1) (fun M12 => some (r6, M12)))))
set_option maxHeartbeats 4000000 in
set_option maxRecDepth 100000 in
theorem t_X6_forget_0 {l : Launch} {p : Program} {e : Env} {s : State} {m : MethodId} {args : Array Value} {below : List Frame} {meth : Method} {c : Code} {E : xm_E} {a : Nat → Nat} (C : xm_C E (xv E a) p s m args meth c RX6 cX6_forget 3 (some .int)) (n : Nat) (M : xm_M) (x1 : Int32) (r : Int32) (M' : xm_M) : f_X6_forget n M x1 = some (r, M') → ∀ (H : Heap) (locs : List Loc) (ls : Array Slot), va_P E.1 vwCl (xm_w (xv E a) M) H → va_S (xm_A (xv E a) s.heap.size) s.heap H locs → lv_has ls 3 [(0, .ref (a 0)), (1, .int x1)] → W p l e { frames := 3, cells := 0, slots := 0, locals := 65 } s m args below meth c H locs 0 0 (MQ below (xm_Q E (xv E a) M' s.heap.size (some r)) args s 0 0 (xm_A (xv E a) s.heap.size)) (F0 m 0 ls []) := by
  have C9 := C
  obtain ⟨hx, hb, hml, hown, hts, hr, hlk, hD, hK, hS9⟩ := C9
  intro h H locs ls hP hS hl
  unfold f_X6_forget at h
  refine lv_iload_n hx hb dX6_forget_0 rfl (lv_at hl 1 rfl) ?_
  refine lv_iconst (v := 0) hx hb dX6_forget_1 (by decide) ?_
  refine lv_sipush (v := 9999) hx hb dX6_forget_2 (by decide) ?_
  obtain ⟨r2, M1, e3, h⟩ := xm_b2_s h
  refine xm_callS C hP hS [.int x1, .int 0, .int 9999] [] (c_X6_isWithin hD  n M x1 0 9999 r2 M1 e3) k_X6_66  rfl rfl ⟨(Nat.le_of_ble_eq_true rfl), (Nat.le_of_ble_eq_true rfl)⟩ hl.1 (Nat.le_of_ble_eq_true rfl) ⟨Nat.zero_le _, Nat.zero_le _⟩ dX6_forget_5 (fun H locs hP hS => ?_)
  change W p l e _ s m _ below meth c H locs 0 0 _ (F0 m 8 ls [.int r2])
  refine lv_if_ne (tgt := 14) hx hb dX6_forget_8 (by decide) (fun c4 => ?_) (fun c4 => ?_)
  · rw [if_neg c4] at h
    refine lv_aload_n hx hb dX6_forget_14 rfl (lv_at hl 0 rfl) ?_
    refine xm_get (V := (xv E a)) (T := TX6) (v := .ref (a 18)) C hP 0 0 xi_6 rfl l_X6_10 rfl (Nat.le_of_ble_eq_true rfl) ((xe_0 E a) _) (Nat.le_of_ble_eq_true rfl) rfl dX6_forget_15 ?_
    refine lv_iload_n hx hb dX6_forget_18 rfl (lv_at hl 1 rfl) ?_
    obtain ⟨r6, M5, e7, h⟩ := xm_b2_s h
    refine xm_callVN C hP hS [.int x1] [] (c_X4_eventsAheadOf hD xs_18 n M1 x1 r6 M5 e7) k_X6_70 (xm_recv C hP 18 rfl (xs_lt xs_18 0 (by omega)) ((xs_0 xs_18 E a) _)) rfl rfl ⟨(Nat.le_of_ble_eq_true rfl), (Nat.le_of_ble_eq_true rfl)⟩ hl.1 (Nat.le_of_ble_eq_true rfl) ⟨Nat.zero_le _, Nat.zero_le _⟩ dX6_forget_19 (fun H locs hP hS => ?_)
    change W p l e _ s m _ below meth c H locs 0 0 _ (F0 m 22 ls [.int r6])
    refine lv_istore_n (lv' := [(2, .int r6), (0, .ref (a 0)), (1, .int x1)]) hx hb dX6_forget_22 rfl hl (by decide) rfl (fun ls hl => ?_)
    refine lv_iload_n hx hb dX6_forget_23 rfl (lv_at hl 0 rfl) ?_
    refine lv_if_ne (tgt := 30) hx hb dX6_forget_24 (by decide) (fun c8 => ?_) (fun c8 => ?_)
    · rw [if_neg c8] at h
      refine lv_aload_n hx hb dX6_forget_30 rfl (lv_at hl 1 rfl) ?_
      refine xm_get (V := (xv E a)) (T := TX6) (v := .ref (a 4)) C hP 0 3 xi_6 rfl l_X6_26 rfl (Nat.le_of_ble_eq_true rfl) ((xe_0 E a) _) (Nat.le_of_ble_eq_true rfl) rfl dX6_forget_31 ?_
      refine lv_aload_n hx hb dX6_forget_34 rfl (lv_at hl 1 rfl) ?_
      refine xm_get (V := (xv E a)) (T := TX6) (v := .ref (a 18)) C hP 0 0 xi_6 rfl l_X6_10 rfl (Nat.le_of_ble_eq_true rfl) ((xe_0 E a) _) (Nat.le_of_ble_eq_true rfl) rfl dX6_forget_35 ?_
      obtain ⟨M9, e11, h⟩ := xm_b1_s h
      refine xm_callVN C hP hS [.ref (a 18)] [] (c_X0_record hD xs_18 n M5  M9 e11) k_X6_59 (xm_recv C hP 4 rfl (Nat.le_of_ble_eq_true rfl) ((xe_4 E a) _)) rfl rfl ⟨(Nat.le_of_ble_eq_true rfl), (Nat.le_of_ble_eq_true rfl)⟩ hl.1 (Nat.le_of_ble_eq_true rfl) ⟨Nat.zero_le _, Nat.zero_le _⟩ dX6_forget_38 (fun H locs hP hS => ?_)
      change W p l e _ s m _ below meth c H locs 0 0 _ (F0 m 41 ls [])
      refine lv_aload_n hx hb dX6_forget_41 rfl (lv_at hl 1 rfl) ?_
      refine xm_get (V := (xv E a)) (T := TX6) (v := .ref (a 18)) C hP 0 0 xi_6 rfl l_X6_10 rfl (Nat.le_of_ble_eq_true rfl) ((xe_0 E a) _) (Nat.le_of_ble_eq_true rfl) rfl dX6_forget_42 ?_
      refine lv_iload_n hx hb dX6_forget_45 rfl (lv_at hl 2 rfl) ?_
      obtain ⟨M12, e14, h⟩ := xm_b1_s h
      refine xm_callVN C hP hS [.int x1] [] (c_X4_removeEventsAheadOf hD xs_18 n M9 x1 M12 e14) k_X6_74 (xm_recv C hP 18 rfl (xs_lt xs_18 0 (by omega)) ((xs_0 xs_18 E a) _)) rfl rfl ⟨(Nat.le_of_ble_eq_true rfl), (Nat.le_of_ble_eq_true rfl)⟩ hl.1 (Nat.le_of_ble_eq_true rfl) ⟨Nat.zero_le _, Nat.zero_le _⟩ dX6_forget_46 (fun H locs hP hS => ?_)
      change W p l e _ s m _ below meth c H locs 0 0 _ (F0 m 49 ls [])
      refine lv_iload_n hx hb dX6_forget_49 rfl (lv_at hl 0 rfl) ?_
      obtain ⟨rfl, rfl⟩ := xm_pr h
      exact xm_retI C hP hS dX6_forget_50
    · rw [if_pos c8] at h
      refine lv_bipush (v := (-5)) hx hb dX6_forget_27 (by decide) ?_
      obtain ⟨rfl, rfl⟩ := xm_pr h
      exact xm_retI C hP hS dX6_forget_29
  · rw [if_pos c4] at h
    refine lv_bipush (v := (-2)) hx hb dX6_forget_11 (by decide) ?_
    obtain ⟨rfl, rfl⟩ := xm_pr h
    exact xm_retI C hP hS dX6_forget_13
theorem c_X6_forget {l : Launch} {E : xm_E} {a : Nat → Nat} (hD : xm_D (xv E a)) (n : Nat) (M : xm_M) (x1 : Int32) (r : Int32) (M' : xm_M) (h : f_X6_forget n M x1 = some (r, M')) : xm_Met l E (xv E a) yX6_forget cX6_forget 3 (some .int) 3 65 [.ref (a 0), .int x1] M M' (some r) :=
  xm_met (by decide +kernel) rfl (Nat.le_of_ble_eq_true rfl) hD (fun p e s m below meth c C hP ls hl => t_X6_forget_0 C  n M x1 r M' h _ _ _ hP va_S.rf hl)
def f_X6_setLateness (n : Nat) (M : xm_M) (x1 : Int32) : Option (Int32 × xm_M) := xm_b2 (f_X6_isWithin n M x1 0 500) (fun r2 M1 => if r2 = 0 then some ((-2), M1) else if (M1 18 5) = x1 then some ((-5), M1) else xm_b1 (f_X0_record n M1 18) (fun M6 => xm_lt (xm_up M6 18 5 x1) (fun M9 => some (M1 18 5, M9))))
set_option maxHeartbeats 4000000 in
set_option maxRecDepth 100000 in
theorem t_X6_setLateness_0 {l : Launch} {p : Program} {e : Env} {s : State} {m : MethodId} {args : Array Value} {below : List Frame} {meth : Method} {c : Code} {E : xm_E} {a : Nat → Nat} (C : xm_C E (xv E a) p s m args meth c RX6 cX6_setLateness 3 (some .int)) (n : Nat) (M : xm_M) (x1 : Int32) (r : Int32) (M' : xm_M) : f_X6_setLateness n M x1 = some (r, M') → ∀ (H : Heap) (locs : List Loc) (ls : Array Slot), va_P E.1 vwCl (xm_w (xv E a) M) H → va_S (xm_A (xv E a) s.heap.size) s.heap H locs → lv_has ls 3 [(0, .ref (a 0)), (1, .int x1)] → W p l e { frames := 3, cells := 0, slots := 0, locals := 65 } s m args below meth c H locs 0 0 (MQ below (xm_Q E (xv E a) M' s.heap.size (some r)) args s 0 0 (xm_A (xv E a) s.heap.size)) (F0 m 0 ls []) := by
  have C9 := C
  obtain ⟨hx, hb, hml, hown, hts, hr, hlk, hD, hK, hS9⟩ := C9
  intro h H locs ls hP hS hl
  unfold f_X6_setLateness at h
  refine lv_iload_n hx hb dX6_setLateness_0 rfl (lv_at hl 1 rfl) ?_
  refine lv_iconst (v := 0) hx hb dX6_setLateness_1 (by decide) ?_
  refine lv_sipush (v := 500) hx hb dX6_setLateness_2 (by decide) ?_
  obtain ⟨r2, M1, e3, h⟩ := xm_b2_s h
  refine xm_callS C hP hS [.int x1, .int 0, .int 500] [] (c_X6_isWithin hD  n M x1 0 500 r2 M1 e3) k_X6_66  rfl rfl ⟨(Nat.le_of_ble_eq_true rfl), (Nat.le_of_ble_eq_true rfl)⟩ hl.1 (Nat.le_of_ble_eq_true rfl) ⟨Nat.zero_le _, Nat.zero_le _⟩ dX6_setLateness_5 (fun H locs hP hS => ?_)
  change W p l e _ s m _ below meth c H locs 0 0 _ (F0 m 8 ls [.int r2])
  refine lv_if_ne (tgt := 14) hx hb dX6_setLateness_8 (by decide) (fun c4 => ?_) (fun c4 => ?_)
  · rw [if_neg c4] at h
    refine lv_aload_n hx hb dX6_setLateness_14 rfl (lv_at hl 0 rfl) ?_
    refine xm_get (V := (xv E a)) (T := TX6) (v := .ref (a 18)) C hP 0 0 xi_6 rfl l_X6_10 rfl (Nat.le_of_ble_eq_true rfl) ((xe_0 E a) _) (Nat.le_of_ble_eq_true rfl) rfl dX6_setLateness_15 ?_
    refine xm_getN (V := (xv E a)) (T := TX4) (v := .int (M1 18 5)) C hP 18 5 xi_4 rfl l_X6_78 rfl (xs_lt xs_18 0 (by omega)) ((xs_0 xs_18 E a) _) (Nat.le_of_ble_eq_true rfl) rfl dX6_setLateness_18 ?_
    refine lv_istore_n (lv' := [(2, .int (M1 18 5)), (0, .ref (a 0)), (1, .int x1)]) hx hb dX6_setLateness_21 rfl hl (by decide) rfl (fun ls hl => ?_)
    refine lv_iload_n hx hb dX6_setLateness_22 rfl (lv_at hl 0 rfl) ?_
    refine lv_iload_n hx hb dX6_setLateness_23 rfl (lv_at hl 2 rfl) ?_
    refine lv_icmp_ne (tgt := 30) hx hb dX6_setLateness_24 (by decide) (fun c5 => ?_) (fun c5 => ?_)
    · rw [if_neg c5] at h
      refine lv_aload_n hx hb dX6_setLateness_30 rfl (lv_at hl 1 rfl) ?_
      refine xm_get (V := (xv E a)) (T := TX6) (v := .ref (a 4)) C hP 0 3 xi_6 rfl l_X6_26 rfl (Nat.le_of_ble_eq_true rfl) ((xe_0 E a) _) (Nat.le_of_ble_eq_true rfl) rfl dX6_setLateness_31 ?_
      refine lv_aload_n hx hb dX6_setLateness_34 rfl (lv_at hl 1 rfl) ?_
      refine xm_get (V := (xv E a)) (T := TX6) (v := .ref (a 18)) C hP 0 0 xi_6 rfl l_X6_10 rfl (Nat.le_of_ble_eq_true rfl) ((xe_0 E a) _) (Nat.le_of_ble_eq_true rfl) rfl dX6_setLateness_35 ?_
      obtain ⟨M6, e8, h⟩ := xm_b1_s h
      refine xm_callVN C hP hS [.ref (a 18)] [] (c_X0_record hD xs_18 n M1  M6 e8) k_X6_59 (xm_recv C hP 4 rfl (Nat.le_of_ble_eq_true rfl) ((xe_4 E a) _)) rfl rfl ⟨(Nat.le_of_ble_eq_true rfl), (Nat.le_of_ble_eq_true rfl)⟩ hl.1 (Nat.le_of_ble_eq_true rfl) ⟨Nat.zero_le _, Nat.zero_le _⟩ dX6_setLateness_38 (fun H locs hP hS => ?_)
      change W p l e _ s m _ below meth c H locs 0 0 _ (F0 m 41 ls [])
      refine lv_aload_n hx hb dX6_setLateness_41 rfl (lv_at hl 1 rfl) ?_
      refine xm_get (V := (xv E a)) (T := TX6) (v := .ref (a 18)) C hP 0 0 xi_6 rfl l_X6_10 rfl (Nat.le_of_ble_eq_true rfl) ((xe_0 E a) _) (Nat.le_of_ble_eq_true rfl) rfl dX6_setLateness_42 ?_
      refine lv_iload_n hx hb dX6_setLateness_45 rfl (lv_at hl 2 rfl) ?_
      obtain ⟨M9, e10, h⟩ := xm_lt_s h
      refine xm_putN (V := (xv E a)) (T := TX4) (ty := .int) (x := x1) C hP hS 18 5 xi_4 rfl l_X6_78 rfl tyX4_ok nmX4 (xs_lt xs_18 0 (by omega)) ((xs_0 xs_18 E a) _) (Nat.le_of_ble_eq_true rfl) rfl (by decide +kernel) rfl rfl (Nat.le_of_ble_eq_true rfl) ((xs_0 xs_18 E a) _) dX6_setLateness_46 (fun H locs hP hS => ?_)
      rw [← e10] at hP
      refine lv_iload_n hx hb dX6_setLateness_49 rfl (lv_at hl 0 rfl) ?_
      obtain ⟨rfl, rfl⟩ := xm_pr h
      exact xm_retI C hP hS dX6_setLateness_50
    · rw [if_pos c5] at h
      refine lv_bipush (v := (-5)) hx hb dX6_setLateness_27 (by decide) ?_
      obtain ⟨rfl, rfl⟩ := xm_pr h
      exact xm_retI C hP hS dX6_setLateness_29
  · rw [if_pos c4] at h
    refine lv_bipush (v := (-2)) hx hb dX6_setLateness_11 (by decide) ?_
    obtain ⟨rfl, rfl⟩ := xm_pr h
    exact xm_retI C hP hS dX6_setLateness_13
theorem c_X6_setLateness {l : Launch} {E : xm_E} {a : Nat → Nat} (hD : xm_D (xv E a)) (n : Nat) (M : xm_M) (x1 : Int32) (r : Int32) (M' : xm_M) (h : f_X6_setLateness n M x1 = some (r, M')) : xm_Met l E (xv E a) yX6_setLateness cX6_setLateness 3 (some .int) 3 65 [.ref (a 0), .int x1] M M' (some r) :=
  xm_met (by decide +kernel) rfl (Nat.le_of_ble_eq_true rfl) hD (fun p e s m below meth c C hP ls hl => t_X6_setLateness_0 C  n M x1 r M' h _ _ _ hP va_S.rf hl)
def f_X6_addPattern (n : Nat) (M : xm_M) : Option (Int32 × xm_M) := xm_b2 (f_X5_readInto n M 1) (fun r2 M1 => if r2 = ((-1)) then if (M1 18 6) < 4 then xm_b1 (f_X0_record n M1 18) (fun M6 => xm_b2 (f_X4_addCopyOf n M6 18 1) (fun r10 M9 => some (r10, M9))) else some ((-3), M1) else some (((-100)) - r2, M1))
set_option maxHeartbeats 4000000 in
set_option maxRecDepth 100000 in
theorem t_X6_addPattern_0 {l : Launch} {p : Program} {e : Env} {s : State} {m : MethodId} {args : Array Value} {below : List Frame} {meth : Method} {c : Code} {E : xm_E} {a : Nat → Nat} (C : xm_C E (xv E a) p s m args meth c RX6 cX6_addPattern 2 (some .int)) (n : Nat) (M : xm_M) (r : Int32) (M' : xm_M) : f_X6_addPattern n M = some (r, M') → ∀ (H : Heap) (locs : List Loc) (ls : Array Slot), va_P E.1 vwCl (xm_w (xv E a) M) H → va_S (xm_A (xv E a) s.heap.size) s.heap H locs → lv_has ls 2 [(0, .ref (a 0))] → W p l e { frames := 8, cells := 0, slots := 0, locals := 174 } s m args below meth c H locs 0 0 (MQ below (xm_Q E (xv E a) M' s.heap.size (some r)) args s 0 0 (xm_A (xv E a) s.heap.size)) (F0 m 0 ls []) := by
  have C9 := C
  obtain ⟨hx, hb, hml, hown, hts, hr, hlk, hD, hK, hS9⟩ := C9
  intro h H locs ls hP hS hl
  unfold f_X6_addPattern at h
  refine lv_aload_n hx hb dX6_addPattern_0 rfl (lv_at hl 0 rfl) ?_
  refine xm_get (V := (xv E a)) (T := TX6) (v := .ref (a 6)) C hP 0 4 xi_6 rfl l_X6_33 rfl (Nat.le_of_ble_eq_true rfl) ((xe_0 E a) _) (Nat.le_of_ble_eq_true rfl) rfl dX6_addPattern_1 ?_
  refine lv_aload_n hx hb dX6_addPattern_4 rfl (lv_at hl 0 rfl) ?_
  refine xm_get (V := (xv E a)) (T := TX6) (v := .ref (a 1)) C hP 0 5 xi_6 rfl l_X6_40 rfl (Nat.le_of_ble_eq_true rfl) ((xe_0 E a) _) (Nat.le_of_ble_eq_true rfl) rfl dX6_addPattern_5 ?_
  obtain ⟨r2, M1, e3, h⟩ := xm_b2_s h
  refine xm_callVN C hP hS [.ref (a 1)] [] (c_X5_readInto hD xp_1p n M  r2 M1 e3) k_X6_81 (xm_recv C hP 6 rfl (Nat.le_of_ble_eq_true rfl) ((xe_6 E a) _)) rfl rfl ⟨(Nat.le_of_ble_eq_true rfl), (Nat.le_of_ble_eq_true rfl)⟩ hl.1 (Nat.le_of_ble_eq_true rfl) ⟨Nat.zero_le _, Nat.zero_le _⟩ dX6_addPattern_8 (fun H locs hP hS => ?_)
  change W p l e _ s m _ below meth c H locs 0 0 _ (F0 m 11 ls [.int r2])
  refine lv_istore_n (lv' := [(1, .int r2), (0, .ref (a 0))]) hx hb dX6_addPattern_11 rfl hl (by decide) rfl (fun ls hl => ?_)
  refine lv_iload_n hx hb dX6_addPattern_12 rfl (lv_at hl 0 rfl) ?_
  refine lv_iconst (v := (-1)) hx hb dX6_addPattern_13 (by decide) ?_
  refine lv_icmp_eq (tgt := 22) hx hb dX6_addPattern_14 (by decide) (fun c4 => ?_) (fun c4 => ?_)
  · rw [if_pos c4] at h
    refine lv_aload_n hx hb dX6_addPattern_22 rfl (lv_at hl 1 rfl) ?_
    refine xm_get (V := (xv E a)) (T := TX6) (v := .ref (a 18)) C hP 0 0 xi_6 rfl l_X6_10 rfl (Nat.le_of_ble_eq_true rfl) ((xe_0 E a) _) (Nat.le_of_ble_eq_true rfl) rfl dX6_addPattern_23 ?_
    refine xm_getN (V := (xv E a)) (T := TX4) (v := .int (M1 18 6)) C hP 18 6 xi_4 rfl l_X6_85 rfl (xs_lt xs_18 0 (by omega)) ((xs_0 xs_18 E a) _) (Nat.le_of_ble_eq_true rfl) rfl dX6_addPattern_26 ?_
    refine lv_iconst (v := 4) hx hb dX6_addPattern_29 (by decide) ?_
    refine lv_icmp_lt (tgt := 36) hx hb dX6_addPattern_30 (by decide) (fun c5 => ?_) (fun c5 => ?_)
    · rw [if_pos c5] at h
      refine lv_aload_n hx hb dX6_addPattern_36 rfl (lv_at hl 1 rfl) ?_
      refine xm_get (V := (xv E a)) (T := TX6) (v := .ref (a 4)) C hP 0 3 xi_6 rfl l_X6_26 rfl (Nat.le_of_ble_eq_true rfl) ((xe_0 E a) _) (Nat.le_of_ble_eq_true rfl) rfl dX6_addPattern_37 ?_
      refine lv_aload_n hx hb dX6_addPattern_40 rfl (lv_at hl 1 rfl) ?_
      refine xm_get (V := (xv E a)) (T := TX6) (v := .ref (a 18)) C hP 0 0 xi_6 rfl l_X6_10 rfl (Nat.le_of_ble_eq_true rfl) ((xe_0 E a) _) (Nat.le_of_ble_eq_true rfl) rfl dX6_addPattern_41 ?_
      obtain ⟨M6, e8, h⟩ := xm_b1_s h
      refine xm_callVN C hP hS [.ref (a 18)] [] (c_X0_record hD xs_18 n M1  M6 e8) k_X6_59 (xm_recv C hP 4 rfl (Nat.le_of_ble_eq_true rfl) ((xe_4 E a) _)) rfl rfl ⟨(Nat.le_of_ble_eq_true rfl), (Nat.le_of_ble_eq_true rfl)⟩ hl.1 (Nat.le_of_ble_eq_true rfl) ⟨Nat.zero_le _, Nat.zero_le _⟩ dX6_addPattern_44 (fun H locs hP hS => ?_)
      change W p l e _ s m _ below meth c H locs 0 0 _ (F0 m 47 ls [])
      refine lv_aload_n hx hb dX6_addPattern_47 rfl (lv_at hl 1 rfl) ?_
      refine xm_get (V := (xv E a)) (T := TX6) (v := .ref (a 18)) C hP 0 0 xi_6 rfl l_X6_10 rfl (Nat.le_of_ble_eq_true rfl) ((xe_0 E a) _) (Nat.le_of_ble_eq_true rfl) rfl dX6_addPattern_48 ?_
      refine lv_aload_n hx hb dX6_addPattern_51 rfl (lv_at hl 1 rfl) ?_
      refine xm_get (V := (xv E a)) (T := TX6) (v := .ref (a 1)) C hP 0 5 xi_6 rfl l_X6_40 rfl (Nat.le_of_ble_eq_true rfl) ((xe_0 E a) _) (Nat.le_of_ble_eq_true rfl) rfl dX6_addPattern_52 ?_
      obtain ⟨r10, M9, e11, h⟩ := xm_b2_s h
      refine xm_callVN C hP hS [.ref (a 1)] [] (c_X4_addCopyOf hD xs_18 xp_1p n M6  r10 M9 e11) k_X6_88 (xm_recv C hP 18 rfl (xs_lt xs_18 0 (by omega)) ((xs_0 xs_18 E a) _)) rfl rfl ⟨(Nat.le_of_ble_eq_true rfl), (Nat.le_of_ble_eq_true rfl)⟩ hl.1 (Nat.le_of_ble_eq_true rfl) ⟨Nat.zero_le _, Nat.zero_le _⟩ dX6_addPattern_55 (fun H locs hP hS => ?_)
      change W p l e _ s m _ below meth c H locs 0 0 _ (F0 m 58 ls [.int r10])
      obtain ⟨rfl, rfl⟩ := xm_pr h
      exact xm_retI C hP hS dX6_addPattern_58
    · rw [if_neg c5] at h
      refine lv_bipush (v := (-3)) hx hb dX6_addPattern_33 (by decide) ?_
      obtain ⟨rfl, rfl⟩ := xm_pr h
      exact xm_retI C hP hS dX6_addPattern_35
  · rw [if_neg c4] at h
    refine lv_bipush (v := (-100)) hx hb dX6_addPattern_17 (by decide) ?_
    refine lv_iload_n hx hb dX6_addPattern_19 rfl (lv_at hl 0 rfl) ?_
    refine lv_isub hx hb dX6_addPattern_20 ?_
    obtain ⟨rfl, rfl⟩ := xm_pr h
    exact xm_retI C hP hS dX6_addPattern_21
theorem c_X6_addPattern {l : Launch} {E : xm_E} {a : Nat → Nat} (hD : xm_D (xv E a)) (n : Nat) (M : xm_M) (r : Int32) (M' : xm_M) (h : f_X6_addPattern n M = some (r, M')) : xm_Met l E (xv E a) yX6_addPattern cX6_addPattern 2 (some .int) 8 174 [.ref (a 0)] M M' (some r) :=
  xm_met (by decide +kernel) rfl (Nat.le_of_ble_eq_true rfl) hD (fun p e s m below meth c C hP ls hl => t_X6_addPattern_0 C  n M r M' h _ _ _ hP va_S.rf hl)
def f_X6_dropPattern (n : Nat) (M : xm_M) (x1 : Int32) : Option (Int32 × xm_M) := xm_b2 (f_X6_isPattern n M x1) (fun r2 M1 => if r2 = 0 then some ((-1), M1) else xm_b1 (f_X0_record n M1 18) (fun M5 => xm_b2 (f_X4_removePattern n M5 18 x1) (fun r9 M8 => some (r9, M8))))
set_option maxHeartbeats 4000000 in
set_option maxRecDepth 100000 in
theorem t_X6_dropPattern_0 {l : Launch} {p : Program} {e : Env} {s : State} {m : MethodId} {args : Array Value} {below : List Frame} {meth : Method} {c : Code} {E : xm_E} {a : Nat → Nat} (C : xm_C E (xv E a) p s m args meth c RX6 cX6_dropPattern 2 (some .int)) (n : Nat) (M : xm_M) (x1 : Int32) (r : Int32) (M' : xm_M) : f_X6_dropPattern n M x1 = some (r, M') → ∀ (H : Heap) (locs : List Loc) (ls : Array Slot), va_P E.1 vwCl (xm_w (xv E a) M) H → va_S (xm_A (xv E a) s.heap.size) s.heap H locs → lv_has ls 2 [(0, .ref (a 0)), (1, .int x1)] → W p l e { frames := 3, cells := 0, slots := 0, locals := 65 } s m args below meth c H locs 0 0 (MQ below (xm_Q E (xv E a) M' s.heap.size (some r)) args s 0 0 (xm_A (xv E a) s.heap.size)) (F0 m 0 ls []) := by
  have C9 := C
  obtain ⟨hx, hb, hml, hown, hts, hr, hlk, hD, hK, hS9⟩ := C9
  intro h H locs ls hP hS hl
  unfold f_X6_dropPattern at h
  refine lv_aload_n hx hb dX6_dropPattern_0 rfl (lv_at hl 0 rfl) ?_
  refine lv_iload_n hx hb dX6_dropPattern_1 rfl (lv_at hl 1 rfl) ?_
  obtain ⟨r2, M1, e3, h⟩ := xm_b2_s h
  refine xm_callV C hP hS [.int x1] [] (c_X6_isPattern hD  n M x1 r2 M1 e3) k_X6_91 (xm_recv C hP 0 rfl (Nat.le_of_ble_eq_true rfl) ((xe_0 E a) _)) rfl rfl ⟨(Nat.le_of_ble_eq_true rfl), (Nat.le_of_ble_eq_true rfl)⟩ hl.1 (Nat.le_of_ble_eq_true rfl) ⟨Nat.zero_le _, Nat.zero_le _⟩ dX6_dropPattern_2 (fun H locs hP hS => ?_)
  change W p l e _ s m _ below meth c H locs 0 0 _ (F0 m 5 ls [.int r2])
  refine lv_if_ne (tgt := 10) hx hb dX6_dropPattern_5 (by decide) (fun c4 => ?_) (fun c4 => ?_)
  · rw [if_neg c4] at h
    refine lv_aload_n hx hb dX6_dropPattern_10 rfl (lv_at hl 0 rfl) ?_
    refine xm_get (V := (xv E a)) (T := TX6) (v := .ref (a 4)) C hP 0 3 xi_6 rfl l_X6_26 rfl (Nat.le_of_ble_eq_true rfl) ((xe_0 E a) _) (Nat.le_of_ble_eq_true rfl) rfl dX6_dropPattern_11 ?_
    refine lv_aload_n hx hb dX6_dropPattern_14 rfl (lv_at hl 0 rfl) ?_
    refine xm_get (V := (xv E a)) (T := TX6) (v := .ref (a 18)) C hP 0 0 xi_6 rfl l_X6_10 rfl (Nat.le_of_ble_eq_true rfl) ((xe_0 E a) _) (Nat.le_of_ble_eq_true rfl) rfl dX6_dropPattern_15 ?_
    obtain ⟨M5, e7, h⟩ := xm_b1_s h
    refine xm_callVN C hP hS [.ref (a 18)] [] (c_X0_record hD xs_18 n M1  M5 e7) k_X6_59 (xm_recv C hP 4 rfl (Nat.le_of_ble_eq_true rfl) ((xe_4 E a) _)) rfl rfl ⟨(Nat.le_of_ble_eq_true rfl), (Nat.le_of_ble_eq_true rfl)⟩ hl.1 (Nat.le_of_ble_eq_true rfl) ⟨Nat.zero_le _, Nat.zero_le _⟩ dX6_dropPattern_18 (fun H locs hP hS => ?_)
    change W p l e _ s m _ below meth c H locs 0 0 _ (F0 m 21 ls [])
    refine lv_aload_n hx hb dX6_dropPattern_21 rfl (lv_at hl 0 rfl) ?_
    refine xm_get (V := (xv E a)) (T := TX6) (v := .ref (a 18)) C hP 0 0 xi_6 rfl l_X6_10 rfl (Nat.le_of_ble_eq_true rfl) ((xe_0 E a) _) (Nat.le_of_ble_eq_true rfl) rfl dX6_dropPattern_22 ?_
    refine lv_iload_n hx hb dX6_dropPattern_25 rfl (lv_at hl 1 rfl) ?_
    obtain ⟨r9, M8, e10, h⟩ := xm_b2_s h
    refine xm_callVN C hP hS [.int x1] [] (c_X4_removePattern hD xs_18 n M5 x1 r9 M8 e10) k_X6_95 (xm_recv C hP 18 rfl (xs_lt xs_18 0 (by omega)) ((xs_0 xs_18 E a) _)) rfl rfl ⟨(Nat.le_of_ble_eq_true rfl), (Nat.le_of_ble_eq_true rfl)⟩ hl.1 (Nat.le_of_ble_eq_true rfl) ⟨Nat.zero_le _, Nat.zero_le _⟩ dX6_dropPattern_26 (fun H locs hP hS => ?_)
    change W p l e _ s m _ below meth c H locs 0 0 _ (F0 m 29 ls [.int r9])
    obtain ⟨rfl, rfl⟩ := xm_pr h
    exact xm_retI C hP hS dX6_dropPattern_29
  · rw [if_pos c4] at h
    refine lv_iconst (v := (-1)) hx hb dX6_dropPattern_8 (by decide) ?_
    obtain ⟨rfl, rfl⟩ := xm_pr h
    exact xm_retI C hP hS dX6_dropPattern_9
theorem c_X6_dropPattern {l : Launch} {E : xm_E} {a : Nat → Nat} (hD : xm_D (xv E a)) (n : Nat) (M : xm_M) (x1 : Int32) (r : Int32) (M' : xm_M) (h : f_X6_dropPattern n M x1 = some (r, M')) : xm_Met l E (xv E a) yX6_dropPattern cX6_dropPattern 2 (some .int) 3 65 [.ref (a 0), .int x1] M M' (some r) :=
  xm_met (by decide +kernel) rfl (Nat.le_of_ble_eq_true rfl) hD (fun p e s m below meth c C hP ls hl => t_X6_dropPattern_0 C  n M x1 r M' h _ _ _ hP va_S.rf hl)
def f_X6_setWindow (n : Nat) (M : xm_M) (x1 : Int32) (x2 : Int32) : Option (Int32 × xm_M) := xm_b2 (f_X6_isPattern n M x1) (fun r2 M1 => if r2 = 0 then some ((-1), M1) else xm_b2 (f_X6_isWithin n M1 x2 1 1000) (fun r6 M5 => if r6 = 0 then some ((-2), M5) else xm_ck (xm_in x1 4) (if (M5 (18 + 5 + 3 * x1.toNatClampNeg) 0) = x2 then some ((-5), M5) else xm_b1 (f_X0_record n M5 18) (fun M11 => xm_ck (xm_in x1 4) (xm_lt (xm_up M11 (18 + 5 + 3 * x1.toNatClampNeg) 0 x2) (fun M15 => some (M5 (18 + 5 + 3 * x1.toNatClampNeg) 0, M15)))))))
set_option maxHeartbeats 4000000 in
set_option maxRecDepth 100000 in
theorem t_X6_setWindow_0 {l : Launch} {p : Program} {e : Env} {s : State} {m : MethodId} {args : Array Value} {below : List Frame} {meth : Method} {c : Code} {E : xm_E} {a : Nat → Nat} (C : xm_C E (xv E a) p s m args meth c RX6 cX6_setWindow 4 (some .int)) (n : Nat) (M : xm_M) (x1 : Int32) (x2 : Int32) (r : Int32) (M' : xm_M) : f_X6_setWindow n M x1 x2 = some (r, M') → ∀ (H : Heap) (locs : List Loc) (ls : Array Slot), va_P E.1 vwCl (xm_w (xv E a) M) H → va_S (xm_A (xv E a) s.heap.size) s.heap H locs → lv_has ls 4 [(0, .ref (a 0)), (1, .int x1), (2, .int x2)] → W p l e { frames := 3, cells := 0, slots := 0, locals := 65 } s m args below meth c H locs 0 0 (MQ below (xm_Q E (xv E a) M' s.heap.size (some r)) args s 0 0 (xm_A (xv E a) s.heap.size)) (F0 m 0 ls []) := by
  have C9 := C
  obtain ⟨hx, hb, hml, hown, hts, hr, hlk, hD, hK, hS9⟩ := C9
  intro h H locs ls hP hS hl
  unfold f_X6_setWindow at h
  refine lv_aload_n hx hb dX6_setWindow_0 rfl (lv_at hl 0 rfl) ?_
  refine lv_iload_n hx hb dX6_setWindow_1 rfl (lv_at hl 1 rfl) ?_
  obtain ⟨r2, M1, e3, h⟩ := xm_b2_s h
  refine xm_callV C hP hS [.int x1] [] (c_X6_isPattern hD  n M x1 r2 M1 e3) k_X6_91 (xm_recv C hP 0 rfl (Nat.le_of_ble_eq_true rfl) ((xe_0 E a) _)) rfl rfl ⟨(Nat.le_of_ble_eq_true rfl), (Nat.le_of_ble_eq_true rfl)⟩ hl.1 (Nat.le_of_ble_eq_true rfl) ⟨Nat.zero_le _, Nat.zero_le _⟩ dX6_setWindow_2 (fun H locs hP hS => ?_)
  change W p l e _ s m _ below meth c H locs 0 0 _ (F0 m 5 ls [.int r2])
  refine lv_if_ne (tgt := 10) hx hb dX6_setWindow_5 (by decide) (fun c4 => ?_) (fun c4 => ?_)
  · rw [if_neg c4] at h
    refine lv_iload_n hx hb dX6_setWindow_10 rfl (lv_at hl 2 rfl) ?_
    refine lv_iconst (v := 1) hx hb dX6_setWindow_11 (by decide) ?_
    refine lv_sipush (v := 1000) hx hb dX6_setWindow_12 (by decide) ?_
    obtain ⟨r6, M5, e7, h⟩ := xm_b2_s h
    refine xm_callS C hP hS [.int x2, .int 1, .int 1000] [] (c_X6_isWithin hD  n M1 x2 1 1000 r6 M5 e7) k_X6_66  rfl rfl ⟨(Nat.le_of_ble_eq_true rfl), (Nat.le_of_ble_eq_true rfl)⟩ hl.1 (Nat.le_of_ble_eq_true rfl) ⟨Nat.zero_le _, Nat.zero_le _⟩ dX6_setWindow_15 (fun H locs hP hS => ?_)
    change W p l e _ s m _ below meth c H locs 0 0 _ (F0 m 18 ls [.int r6])
    refine lv_if_ne (tgt := 24) hx hb dX6_setWindow_18 (by decide) (fun c8 => ?_) (fun c8 => ?_)
    · rw [if_neg c8] at h
      refine lv_aload_n hx hb dX6_setWindow_24 rfl (lv_at hl 0 rfl) ?_
      refine xm_get (V := (xv E a)) (T := TX6) (v := .ref (a 18)) C hP 0 0 xi_6 rfl l_X6_10 rfl (Nat.le_of_ble_eq_true rfl) ((xe_0 E a) _) (Nat.le_of_ble_eq_true rfl) rfl dX6_setWindow_25 ?_
      refine xm_getN (V := (xv E a)) (T := TX4) (v := .ref (a (18 + 4))) C hP 18 7 xi_4 rfl l_X6_98 rfl (xs_lt xs_18 0 (by omega)) ((xs_0 xs_18 E a) _) (Nat.le_of_ble_eq_true rfl) rfl dX6_setWindow_28 ?_
      refine lv_iload_n hx hb dX6_setWindow_31 rfl (lv_at hl 1 rfl) ?_
      obtain ⟨b9, h⟩ := xm_ck_s h
      refine xm_aald (V := (xv E a)) (K := RX2) (v := a (18 + 5 + 3 * x1.toNatClampNeg)) C hP (18 + 4) 4 4 (xs_lt xs_18 4 (by omega)) (xs_4 xs_18 E a) rfl b9 (xo_rp_at b9) dX6_setWindow_32 ?_
      refine xm_getN (V := (xv E a)) (T := TX2) (v := .int (M5 (18 + 5 + 3 * x1.toNatClampNeg) 0)) C hP (18 + 5 + 3 * x1.toNatClampNeg) 0 xi_2 rfl l_X6_102 rfl (xp_lt (xp_s xs_18 b9) 0 (by omega)) ((xp_0 (xp_s xs_18 b9) E a) _) (Nat.le_of_ble_eq_true rfl) rfl dX6_setWindow_33 ?_
      refine lv_istore_n (lv' := [(3, .int (M5 (18 + 5 + 3 * x1.toNatClampNeg) 0)), (0, .ref (a 0)), (1, .int x1), (2, .int x2)]) hx hb dX6_setWindow_36 rfl hl (by decide) rfl (fun ls hl => ?_)
      refine lv_iload_n hx hb dX6_setWindow_37 rfl (lv_at hl 0 rfl) ?_
      refine lv_iload_n hx hb dX6_setWindow_38 rfl (lv_at hl 3 rfl) ?_
      refine lv_icmp_ne (tgt := 45) hx hb dX6_setWindow_39 (by decide) (fun c10 => ?_) (fun c10 => ?_)
      · rw [if_neg c10] at h
        refine lv_aload_n hx hb dX6_setWindow_45 rfl (lv_at hl 1 rfl) ?_
        refine xm_get (V := (xv E a)) (T := TX6) (v := .ref (a 4)) C hP 0 3 xi_6 rfl l_X6_26 rfl (Nat.le_of_ble_eq_true rfl) ((xe_0 E a) _) (Nat.le_of_ble_eq_true rfl) rfl dX6_setWindow_46 ?_
        refine lv_aload_n hx hb dX6_setWindow_49 rfl (lv_at hl 1 rfl) ?_
        refine xm_get (V := (xv E a)) (T := TX6) (v := .ref (a 18)) C hP 0 0 xi_6 rfl l_X6_10 rfl (Nat.le_of_ble_eq_true rfl) ((xe_0 E a) _) (Nat.le_of_ble_eq_true rfl) rfl dX6_setWindow_50 ?_
        obtain ⟨M11, e13, h⟩ := xm_b1_s h
        refine xm_callVN C hP hS [.ref (a 18)] [] (c_X0_record hD xs_18 n M5  M11 e13) k_X6_59 (xm_recv C hP 4 rfl (Nat.le_of_ble_eq_true rfl) ((xe_4 E a) _)) rfl rfl ⟨(Nat.le_of_ble_eq_true rfl), (Nat.le_of_ble_eq_true rfl)⟩ hl.1 (Nat.le_of_ble_eq_true rfl) ⟨Nat.zero_le _, Nat.zero_le _⟩ dX6_setWindow_53 (fun H locs hP hS => ?_)
        change W p l e _ s m _ below meth c H locs 0 0 _ (F0 m 56 ls [])
        refine lv_aload_n hx hb dX6_setWindow_56 rfl (lv_at hl 1 rfl) ?_
        refine xm_get (V := (xv E a)) (T := TX6) (v := .ref (a 18)) C hP 0 0 xi_6 rfl l_X6_10 rfl (Nat.le_of_ble_eq_true rfl) ((xe_0 E a) _) (Nat.le_of_ble_eq_true rfl) rfl dX6_setWindow_57 ?_
        refine xm_getN (V := (xv E a)) (T := TX4) (v := .ref (a (18 + 4))) C hP 18 7 xi_4 rfl l_X6_98 rfl (xs_lt xs_18 0 (by omega)) ((xs_0 xs_18 E a) _) (Nat.le_of_ble_eq_true rfl) rfl dX6_setWindow_60 ?_
        refine lv_iload_n hx hb dX6_setWindow_63 rfl (lv_at hl 2 rfl) ?_
        obtain ⟨b14, h⟩ := xm_ck_s h
        refine xm_aald (V := (xv E a)) (K := RX2) (v := a (18 + 5 + 3 * x1.toNatClampNeg)) C hP (18 + 4) 4 4 (xs_lt xs_18 4 (by omega)) (xs_4 xs_18 E a) rfl b14 (xo_rp_at b14) dX6_setWindow_64 ?_
        refine lv_iload_n hx hb dX6_setWindow_65 rfl (lv_at hl 3 rfl) ?_
        obtain ⟨M15, e16, h⟩ := xm_lt_s h
        refine xm_putN (V := (xv E a)) (T := TX2) (ty := .int) (x := x2) C hP hS (18 + 5 + 3 * x1.toNatClampNeg) 0 xi_2 rfl l_X6_102 rfl tyX2_ok nmX2 (xp_lt (xp_s xs_18 b14) 0 (by omega)) ((xp_0 (xp_s xs_18 b14) E a) _) (Nat.le_of_ble_eq_true rfl) rfl (by decide +kernel) rfl rfl (Nat.le_of_ble_eq_true rfl) ((xp_0 (xp_s xs_18 b14) E a) _) dX6_setWindow_66 (fun H locs hP hS => ?_)
        rw [← e16] at hP
        refine lv_iload_n hx hb dX6_setWindow_69 rfl (lv_at hl 0 rfl) ?_
        obtain ⟨rfl, rfl⟩ := xm_pr h
        exact xm_retI C hP hS dX6_setWindow_70
      · rw [if_pos c10] at h
        refine lv_bipush (v := (-5)) hx hb dX6_setWindow_42 (by decide) ?_
        obtain ⟨rfl, rfl⟩ := xm_pr h
        exact xm_retI C hP hS dX6_setWindow_44
    · rw [if_pos c8] at h
      refine lv_bipush (v := (-2)) hx hb dX6_setWindow_21 (by decide) ?_
      obtain ⟨rfl, rfl⟩ := xm_pr h
      exact xm_retI C hP hS dX6_setWindow_23
  · rw [if_pos c4] at h
    refine lv_iconst (v := (-1)) hx hb dX6_setWindow_8 (by decide) ?_
    obtain ⟨rfl, rfl⟩ := xm_pr h
    exact xm_retI C hP hS dX6_setWindow_9
theorem c_X6_setWindow {l : Launch} {E : xm_E} {a : Nat → Nat} (hD : xm_D (xv E a)) (n : Nat) (M : xm_M) (x1 : Int32) (x2 : Int32) (r : Int32) (M' : xm_M) (h : f_X6_setWindow n M x1 x2 = some (r, M')) : xm_Met l E (xv E a) yX6_setWindow cX6_setWindow 4 (some .int) 3 65 [.ref (a 0), .int x1, .int x2] M M' (some r) :=
  xm_met (by decide +kernel) rfl (Nat.le_of_ble_eq_true rfl) hD (fun p e s m below meth c C hP ls hl => t_X6_setWindow_0 C  n M x1 x2 r M' h _ _ _ hP va_S.rf hl)
def f_X6_type (n : Nat) (M : xm_M) (x1 : Int32) : Option (Int32 × xm_M) := xm_b2 (f_X5_append n M x1) (fun r2 M1 => some (r2, M1))
set_option maxHeartbeats 4000000 in
set_option maxRecDepth 100000 in
theorem t_X6_type_0 {l : Launch} {p : Program} {e : Env} {s : State} {m : MethodId} {args : Array Value} {below : List Frame} {meth : Method} {c : Code} {E : xm_E} {a : Nat → Nat} (C : xm_C E (xv E a) p s m args meth c RX6 cX6_type 2 (some .int)) (n : Nat) (M : xm_M) (x1 : Int32) (r : Int32) (M' : xm_M) : f_X6_type n M x1 = some (r, M') → ∀ (H : Heap) (locs : List Loc) (ls : Array Slot), va_P E.1 vwCl (xm_w (xv E a) M) H → va_S (xm_A (xv E a) s.heap.size) s.heap H locs → lv_has ls 2 [(0, .ref (a 0)), (1, .int x1)] → W p l e { frames := 1, cells := 0, slots := 0, locals := 21 } s m args below meth c H locs 0 0 (MQ below (xm_Q E (xv E a) M' s.heap.size (some r)) args s 0 0 (xm_A (xv E a) s.heap.size)) (F0 m 0 ls []) := by
  have C9 := C
  obtain ⟨hx, hb, hml, hown, hts, hr, hlk, hD, hK, hS9⟩ := C9
  intro h H locs ls hP hS hl
  unfold f_X6_type at h
  refine lv_aload_n hx hb dX6_type_0 rfl (lv_at hl 0 rfl) ?_
  refine xm_get (V := (xv E a)) (T := TX6) (v := .ref (a 6)) C hP 0 4 xi_6 rfl l_X6_33 rfl (Nat.le_of_ble_eq_true rfl) ((xe_0 E a) _) (Nat.le_of_ble_eq_true rfl) rfl dX6_type_1 ?_
  refine lv_iload_n hx hb dX6_type_4 rfl (lv_at hl 1 rfl) ?_
  obtain ⟨r2, M1, e3, h⟩ := xm_b2_s h
  refine xm_callVN C hP hS [.int x1] [] (c_X5_append hD  n M x1 r2 M1 e3) k_X6_105 (xm_recv C hP 6 rfl (Nat.le_of_ble_eq_true rfl) ((xe_6 E a) _)) rfl rfl ⟨(Nat.le_of_ble_eq_true rfl), (Nat.le_of_ble_eq_true rfl)⟩ hl.1 (Nat.le_of_ble_eq_true rfl) ⟨Nat.zero_le _, Nat.zero_le _⟩ dX6_type_5 (fun H locs hP hS => ?_)
  change W p l e _ s m _ below meth c H locs 0 0 _ (F0 m 8 ls [.int r2])
  obtain ⟨rfl, rfl⟩ := xm_pr h
  exact xm_retI C hP hS dX6_type_8
theorem c_X6_type {l : Launch} {E : xm_E} {a : Nat → Nat} (hD : xm_D (xv E a)) (n : Nat) (M : xm_M) (x1 : Int32) (r : Int32) (M' : xm_M) (h : f_X6_type n M x1 = some (r, M')) : xm_Met l E (xv E a) yX6_type cX6_type 2 (some .int) 1 21 [.ref (a 0), .int x1] M M' (some r) :=
  xm_met (by decide +kernel) rfl (Nat.le_of_ble_eq_true rfl) hD (fun p e s m below meth c C hP ls hl => t_X6_type_0 C  n M x1 r M' h _ _ _ hP va_S.rf hl)
def f_X6_clearText (n : Nat) (M : xm_M) : Option (Int32 × xm_M) := xm_lt (xm_up M 6 1 0) (fun M1 => some (M 6 1, M1))
set_option maxHeartbeats 4000000 in
set_option maxRecDepth 100000 in
theorem t_X6_clearText_0 {l : Launch} {p : Program} {e : Env} {s : State} {m : MethodId} {args : Array Value} {below : List Frame} {meth : Method} {c : Code} {E : xm_E} {a : Nat → Nat} (C : xm_C E (xv E a) p s m args meth c RX6 cX6_clearText 2 (some .int)) (n : Nat) (M : xm_M) (r : Int32) (M' : xm_M) : f_X6_clearText n M = some (r, M') → ∀ (H : Heap) (locs : List Loc) (ls : Array Slot), va_P E.1 vwCl (xm_w (xv E a) M) H → va_S (xm_A (xv E a) s.heap.size) s.heap H locs → lv_has ls 2 [(0, .ref (a 0))] → W p l e { frames := 0, cells := 0, slots := 0, locals := 0 } s m args below meth c H locs 0 0 (MQ below (xm_Q E (xv E a) M' s.heap.size (some r)) args s 0 0 (xm_A (xv E a) s.heap.size)) (F0 m 0 ls []) := by
  have C9 := C
  obtain ⟨hx, hb, hml, hown, hts, hr, hlk, hD, hK, hS9⟩ := C9
  intro h H locs ls hP hS hl
  unfold f_X6_clearText at h
  refine lv_aload_n hx hb dX6_clearText_0 rfl (lv_at hl 0 rfl) ?_
  refine xm_get (V := (xv E a)) (T := TX6) (v := .ref (a 6)) C hP 0 4 xi_6 rfl l_X6_33 rfl (Nat.le_of_ble_eq_true rfl) ((xe_0 E a) _) (Nat.le_of_ble_eq_true rfl) rfl dX6_clearText_1 ?_
  refine xm_getN (V := (xv E a)) (T := TX5) (v := .int (M 6 1)) C hP 6 1 xi_5 rfl l_X6_109 rfl (Nat.le_of_ble_eq_true rfl) ((xe_6 E a) _) (Nat.le_of_ble_eq_true rfl) rfl dX6_clearText_4 ?_
  refine lv_istore_n (lv' := [(1, .int (M 6 1)), (0, .ref (a 0))]) hx hb dX6_clearText_7 rfl hl (by decide) rfl (fun ls hl => ?_)
  refine lv_aload_n hx hb dX6_clearText_8 rfl (lv_at hl 1 rfl) ?_
  refine xm_get (V := (xv E a)) (T := TX6) (v := .ref (a 6)) C hP 0 4 xi_6 rfl l_X6_33 rfl (Nat.le_of_ble_eq_true rfl) ((xe_0 E a) _) (Nat.le_of_ble_eq_true rfl) rfl dX6_clearText_9 ?_
  refine lv_iconst (v := 0) hx hb dX6_clearText_12 (by decide) ?_
  obtain ⟨M1, e2, h⟩ := xm_lt_s h
  refine xm_putN (V := (xv E a)) (T := TX5) (ty := .int) (x := 0) C hP hS 6 1 xi_5 rfl l_X6_109 rfl tyX5_ok nmX5 (Nat.le_of_ble_eq_true rfl) ((xe_6 E a) _) (Nat.le_of_ble_eq_true rfl) rfl (by decide +kernel) rfl rfl (Nat.le_of_ble_eq_true rfl) ((xe_6 E a) _) dX6_clearText_13 (fun H locs hP hS => ?_)
  rw [← e2] at hP
  refine lv_iload_n hx hb dX6_clearText_16 rfl (lv_at hl 0 rfl) ?_
  obtain ⟨rfl, rfl⟩ := xm_pr h
  exact xm_retI C hP hS dX6_clearText_17
theorem c_X6_clearText {l : Launch} {E : xm_E} {a : Nat → Nat} (hD : xm_D (xv E a)) (n : Nat) (M : xm_M) (r : Int32) (M' : xm_M) (h : f_X6_clearText n M = some (r, M')) : xm_Met l E (xv E a) yX6_clearText cX6_clearText 2 (some .int) 0 0 [.ref (a 0)] M M' (some r) :=
  xm_met (by decide +kernel) rfl (Nat.le_of_ble_eq_true rfl) hD (fun p e s m below meth c C hP ls hl => t_X6_clearText_0 C  n M r M' h _ _ _ hP va_S.rf hl)
def f_X6_undo (n : Nat) (M : xm_M) : Option (Int32 × xm_M) := if (M 4 2) = 0 then some ((-5), M) else xm_b1 (f_X0_removeLatestInto n M 18) (fun M2 => some (M2 4 2, M2))
set_option maxHeartbeats 4000000 in
set_option maxRecDepth 100000 in
theorem t_X6_undo_0 {l : Launch} {p : Program} {e : Env} {s : State} {m : MethodId} {args : Array Value} {below : List Frame} {meth : Method} {c : Code} {E : xm_E} {a : Nat → Nat} (C : xm_C E (xv E a) p s m args meth c RX6 cX6_undo 1 (some .int)) (n : Nat) (M : xm_M) (r : Int32) (M' : xm_M) : f_X6_undo n M = some (r, M') → ∀ (H : Heap) (locs : List Loc) (ls : Array Slot), va_P E.1 vwCl (xm_w (xv E a) M) H → va_S (xm_A (xv E a) s.heap.size) s.heap H locs → lv_has ls 1 [(0, .ref (a 0))] → W p l e { frames := 3, cells := 0, slots := 0, locals := 65 } s m args below meth c H locs 0 0 (MQ below (xm_Q E (xv E a) M' s.heap.size (some r)) args s 0 0 (xm_A (xv E a) s.heap.size)) (F0 m 0 ls []) := by
  have C9 := C
  obtain ⟨hx, hb, hml, hown, hts, hr, hlk, hD, hK, hS9⟩ := C9
  intro h H locs ls hP hS hl
  unfold f_X6_undo at h
  refine lv_aload_n hx hb dX6_undo_0 rfl (lv_at hl 0 rfl) ?_
  refine xm_get (V := (xv E a)) (T := TX6) (v := .ref (a 4)) C hP 0 3 xi_6 rfl l_X6_26 rfl (Nat.le_of_ble_eq_true rfl) ((xe_0 E a) _) (Nat.le_of_ble_eq_true rfl) rfl dX6_undo_1 ?_
  refine xm_getN (V := (xv E a)) (T := TX0) (v := .int (M 4 2)) C hP 4 2 xi_0 rfl l_X6_112 rfl (Nat.le_of_ble_eq_true rfl) ((xe_4 E a) _) (Nat.le_of_ble_eq_true rfl) rfl dX6_undo_4 ?_
  refine lv_if_ne (tgt := 13) hx hb dX6_undo_7 (by decide) (fun c1 => ?_) (fun c1 => ?_)
  · rw [if_neg c1] at h
    refine lv_aload_n hx hb dX6_undo_13 rfl (lv_at hl 0 rfl) ?_
    refine xm_get (V := (xv E a)) (T := TX6) (v := .ref (a 4)) C hP 0 3 xi_6 rfl l_X6_26 rfl (Nat.le_of_ble_eq_true rfl) ((xe_0 E a) _) (Nat.le_of_ble_eq_true rfl) rfl dX6_undo_14 ?_
    refine lv_aload_n hx hb dX6_undo_17 rfl (lv_at hl 0 rfl) ?_
    refine xm_get (V := (xv E a)) (T := TX6) (v := .ref (a 18)) C hP 0 0 xi_6 rfl l_X6_10 rfl (Nat.le_of_ble_eq_true rfl) ((xe_0 E a) _) (Nat.le_of_ble_eq_true rfl) rfl dX6_undo_18 ?_
    obtain ⟨M2, e4, h⟩ := xm_b1_s h
    refine xm_callVN C hP hS [.ref (a 18)] [] (c_X0_removeLatestInto hD xs_18 n M  M2 e4) k_X6_115 (xm_recv C hP 4 rfl (Nat.le_of_ble_eq_true rfl) ((xe_4 E a) _)) rfl rfl ⟨(Nat.le_of_ble_eq_true rfl), (Nat.le_of_ble_eq_true rfl)⟩ hl.1 (Nat.le_of_ble_eq_true rfl) ⟨Nat.zero_le _, Nat.zero_le _⟩ dX6_undo_21 (fun H locs hP hS => ?_)
    change W p l e _ s m _ below meth c H locs 0 0 _ (F0 m 24 ls [])
    refine lv_aload_n hx hb dX6_undo_24 rfl (lv_at hl 0 rfl) ?_
    refine xm_get (V := (xv E a)) (T := TX6) (v := .ref (a 4)) C hP 0 3 xi_6 rfl l_X6_26 rfl (Nat.le_of_ble_eq_true rfl) ((xe_0 E a) _) (Nat.le_of_ble_eq_true rfl) rfl dX6_undo_25 ?_
    refine xm_getN (V := (xv E a)) (T := TX0) (v := .int (M2 4 2)) C hP 4 2 xi_0 rfl l_X6_112 rfl (Nat.le_of_ble_eq_true rfl) ((xe_4 E a) _) (Nat.le_of_ble_eq_true rfl) rfl dX6_undo_28 ?_
    obtain ⟨rfl, rfl⟩ := xm_pr h
    exact xm_retI C hP hS dX6_undo_31
  · rw [if_pos c1] at h
    refine lv_bipush (v := (-5)) hx hb dX6_undo_10 (by decide) ?_
    obtain ⟨rfl, rfl⟩ := xm_pr h
    exact xm_retI C hP hS dX6_undo_12
theorem c_X6_undo {l : Launch} {E : xm_E} {a : Nat → Nat} (hD : xm_D (xv E a)) (n : Nat) (M : xm_M) (r : Int32) (M' : xm_M) (h : f_X6_undo n M = some (r, M')) : xm_Met l E (xv E a) yX6_undo cX6_undo 1 (some .int) 3 65 [.ref (a 0)] M M' (some r) :=
  xm_met (by decide +kernel) rfl (Nat.le_of_ble_eq_true rfl) hD (fun p e s m below meth c C hP ls hl => t_X6_undo_0 C  n M r M' h _ _ _ hP va_S.rf hl)
def f_X6_eventOf (n : Nat) (M : xm_M) (x1 : Int32) (x2 : Int32) : Option (Int32 × xm_M) := if x1 < 0 then some ((-1), M) else if x1 < (M 18 0) then if x2 = 0 then xm_ck (xm_in x1 24) (some (M (18 + 1) x1.toNatClampNeg, M)) else if x2 = 1 then xm_ck (xm_in x1 24) (some (M (18 + 2) x1.toNatClampNeg, M)) else if x2 = 2 then xm_ck (xm_in x1 24) (some (M (18 + 3) x1.toNatClampNeg, M)) else if x2 = 3 then xm_b1 (f_X3_begin n M 18) (fun M10 => xm_b2 (f_X1_placeOf n M10 x1) (fun r14 M13 => some (r14, M13))) else if x2 = 4 then xm_b1 (f_X3_begin n M 18) (fun M17 => xm_b2 (f_X3_runAll n M17 18) (fun r21 M20 => xm_b2 (f_X3_shareOf n M20 x1) (fun r24 M23 => some (r24, M23)))) else some ((-2), M) else some ((-1), M)
set_option maxHeartbeats 4000000 in
set_option maxRecDepth 100000 in
theorem t_X6_eventOf_0 {l : Launch} {p : Program} {e : Env} {s : State} {m : MethodId} {args : Array Value} {below : List Frame} {meth : Method} {c : Code} {E : xm_E} {a : Nat → Nat} (C : xm_C E (xv E a) p s m args meth c RX6 cX6_eventOf 3 (some .int)) (n : Nat) (M : xm_M) (x1 : Int32) (x2 : Int32) (r : Int32) (M' : xm_M) : f_X6_eventOf n M x1 x2 = some (r, M') → ∀ (H : Heap) (locs : List Loc) (ls : Array Slot), va_P E.1 vwCl (xm_w (xv E a) M) H → va_S (xm_A (xv E a) s.heap.size) s.heap H locs → lv_has ls 3 [(0, .ref (a 0)), (1, .int x1), (2, .int x2)] → W p l e { frames := 8, cells := 0, slots := 0, locals := 197 } s m args below meth c H locs 0 0 (MQ below (xm_Q E (xv E a) M' s.heap.size (some r)) args s 0 0 (xm_A (xv E a) s.heap.size)) (F0 m 0 ls []) := by
  have C9 := C
  obtain ⟨hx, hb, hml, hown, hts, hr, hlk, hD, hK, hS9⟩ := C9
  intro h H locs ls hP hS hl
  unfold f_X6_eventOf at h
  refine lv_iload_n hx hb dX6_eventOf_0 rfl (lv_at hl 1 rfl) ?_
  refine lv_if_lt (tgt := 15) hx hb dX6_eventOf_1 (by decide) (fun c1 => ?_) (fun c1 => ?_)
  · rw [if_pos c1] at h
    refine lv_iconst (v := (-1)) hx hb dX6_eventOf_15 (by decide) ?_
    obtain ⟨rfl, rfl⟩ := xm_pr h
    exact xm_retI C hP hS dX6_eventOf_16
  · rw [if_neg c1] at h
    refine lv_iload_n hx hb dX6_eventOf_4 rfl (lv_at hl 1 rfl) ?_
    refine lv_aload_n hx hb dX6_eventOf_5 rfl (lv_at hl 0 rfl) ?_
    refine xm_get (V := (xv E a)) (T := TX6) (v := .ref (a 18)) C hP 0 0 xi_6 rfl l_X6_10 rfl (Nat.le_of_ble_eq_true rfl) ((xe_0 E a) _) (Nat.le_of_ble_eq_true rfl) rfl dX6_eventOf_6 ?_
    refine xm_getN (V := (xv E a)) (T := TX4) (v := .int (M 18 0)) C hP 18 0 xi_4 rfl l_X6_55 rfl (xs_lt xs_18 0 (by omega)) ((xs_0 xs_18 E a) _) (Nat.le_of_ble_eq_true rfl) rfl dX6_eventOf_9 ?_
    refine lv_icmp_lt (tgt := 17) hx hb dX6_eventOf_12 (by decide) (fun c2 => ?_) (fun c2 => ?_)
    · rw [if_pos c2] at h
      refine lv_iload_n hx hb dX6_eventOf_17 rfl (lv_at hl 2 rfl) ?_
      by_cases c3 : x2 = 0
      · rw [if_pos c3] at h
        refine lv_tableIn (tgt := 52) hx hb dX6_eventOf_18 (by rw [c3]; decide) (by rw [c3]; decide) (by rw [c3]; rfl) (by decide) ?_
        refine lv_aload_n hx hb dX6_eventOf_52 rfl (lv_at hl 0 rfl) ?_
        refine xm_get (V := (xv E a)) (T := TX6) (v := .ref (a 18)) C hP 0 0 xi_6 rfl l_X6_10 rfl (Nat.le_of_ble_eq_true rfl) ((xe_0 E a) _) (Nat.le_of_ble_eq_true rfl) rfl dX6_eventOf_53 ?_
        refine xm_getN (V := (xv E a)) (T := TX4) (v := .ref (a (18 + 1))) C hP 18 1 xi_4 rfl l_X6_121 rfl (xs_lt xs_18 0 (by omega)) ((xs_0 xs_18 E a) _) (Nat.le_of_ble_eq_true rfl) rfl dX6_eventOf_56 ?_
        refine lv_iload_n hx hb dX6_eventOf_59 rfl (lv_at hl 1 rfl) ?_
        obtain ⟨b4, h⟩ := xm_ck_s h
        refine xm_cald (V := (xv E a)) C hP (18 + 1) 24 (xs_lt xs_18 1 (by omega)) (xs_1 xs_18 E a) b4 dX6_eventOf_60 ?_
        obtain ⟨rfl, rfl⟩ := xm_pr h
        exact xm_retI C hP hS dX6_eventOf_61
      · rw [if_neg c3] at h
        by_cases c5 : x2 = 1
        · rw [if_pos c5] at h
          refine lv_tableIn (tgt := 62) hx hb dX6_eventOf_18 (by rw [c5]; decide) (by rw [c5]; decide) (by rw [c5]; rfl) (by decide) ?_
          refine lv_aload_n hx hb dX6_eventOf_62 rfl (lv_at hl 0 rfl) ?_
          refine xm_get (V := (xv E a)) (T := TX6) (v := .ref (a 18)) C hP 0 0 xi_6 rfl l_X6_10 rfl (Nat.le_of_ble_eq_true rfl) ((xe_0 E a) _) (Nat.le_of_ble_eq_true rfl) rfl dX6_eventOf_63 ?_
          refine xm_getN (V := (xv E a)) (T := TX4) (v := .ref (a (18 + 2))) C hP 18 2 xi_4 rfl l_X6_125 rfl (xs_lt xs_18 0 (by omega)) ((xs_0 xs_18 E a) _) (Nat.le_of_ble_eq_true rfl) rfl dX6_eventOf_66 ?_
          refine lv_iload_n hx hb dX6_eventOf_69 rfl (lv_at hl 1 rfl) ?_
          obtain ⟨b6, h⟩ := xm_ck_s h
          refine xm_iald (V := (xv E a)) C hP (18 + 2) 24 (xs_lt xs_18 2 (by omega)) (xs_2 xs_18 E a) b6 dX6_eventOf_70 ?_
          obtain ⟨rfl, rfl⟩ := xm_pr h
          exact xm_retI C hP hS dX6_eventOf_71
        · rw [if_neg c5] at h
          by_cases c7 : x2 = 2
          · rw [if_pos c7] at h
            refine lv_tableIn (tgt := 72) hx hb dX6_eventOf_18 (by rw [c7]; decide) (by rw [c7]; decide) (by rw [c7]; rfl) (by decide) ?_
            refine lv_aload_n hx hb dX6_eventOf_72 rfl (lv_at hl 0 rfl) ?_
            refine xm_get (V := (xv E a)) (T := TX6) (v := .ref (a 18)) C hP 0 0 xi_6 rfl l_X6_10 rfl (Nat.le_of_ble_eq_true rfl) ((xe_0 E a) _) (Nat.le_of_ble_eq_true rfl) rfl dX6_eventOf_73 ?_
            refine xm_getN (V := (xv E a)) (T := TX4) (v := .ref (a (18 + 3))) C hP 18 3 xi_4 rfl l_X6_129 rfl (xs_lt xs_18 0 (by omega)) ((xs_0 xs_18 E a) _) (Nat.le_of_ble_eq_true rfl) rfl dX6_eventOf_76 ?_
            refine lv_iload_n hx hb dX6_eventOf_79 rfl (lv_at hl 1 rfl) ?_
            obtain ⟨b8, h⟩ := xm_ck_s h
            refine xm_iald (V := (xv E a)) C hP (18 + 3) 24 (xs_lt xs_18 3 (by omega)) (xs_3 xs_18 E a) b8 dX6_eventOf_80 ?_
            obtain ⟨rfl, rfl⟩ := xm_pr h
            exact xm_retI C hP hS dX6_eventOf_81
          · rw [if_neg c7] at h
            by_cases c9 : x2 = 3
            · rw [if_pos c9] at h
              refine lv_tableIn (tgt := 82) hx hb dX6_eventOf_18 (by rw [c9]; decide) (by rw [c9]; decide) (by rw [c9]; rfl) (by decide) ?_
              refine lv_aload_n hx hb dX6_eventOf_82 rfl (lv_at hl 0 rfl) ?_
              refine xm_get (V := (xv E a)) (T := TX6) (v := .ref (a 8)) C hP 0 6 xi_6 rfl l_X6_47 rfl (Nat.le_of_ble_eq_true rfl) ((xe_0 E a) _) (Nat.le_of_ble_eq_true rfl) rfl dX6_eventOf_83 ?_
              refine lv_aload_n hx hb dX6_eventOf_86 rfl (lv_at hl 0 rfl) ?_
              refine xm_get (V := (xv E a)) (T := TX6) (v := .ref (a 18)) C hP 0 0 xi_6 rfl l_X6_10 rfl (Nat.le_of_ble_eq_true rfl) ((xe_0 E a) _) (Nat.le_of_ble_eq_true rfl) rfl dX6_eventOf_87 ?_
              obtain ⟨M10, e12, h⟩ := xm_b1_s h
              refine xm_callVN C hP hS [.ref (a 18)] [] (c_X3_begin hD xs_18 n M  M10 e12) k_X6_132 (xm_recv C hP 8 rfl (Nat.le_of_ble_eq_true rfl) ((xe_8 E a) _)) rfl rfl ⟨(Nat.le_of_ble_eq_true rfl), (Nat.le_of_ble_eq_true rfl)⟩ hl.1 (Nat.le_of_ble_eq_true rfl) ⟨Nat.zero_le _, Nat.zero_le _⟩ dX6_eventOf_90 (fun H locs hP hS => ?_)
              change W p l e _ s m _ below meth c H locs 0 0 _ (F0 m 93 ls [])
              refine lv_aload_n hx hb dX6_eventOf_93 rfl (lv_at hl 0 rfl) ?_
              refine xm_get (V := (xv E a)) (T := TX6) (v := .ref (a 8)) C hP 0 6 xi_6 rfl l_X6_47 rfl (Nat.le_of_ble_eq_true rfl) ((xe_0 E a) _) (Nat.le_of_ble_eq_true rfl) rfl dX6_eventOf_94 ?_
              refine xm_getN (V := (xv E a)) (T := TX3) (v := .ref (a 13)) C hP 8 0 xi_3 rfl l_X6_135 rfl (Nat.le_of_ble_eq_true rfl) ((xe_8 E a) _) (Nat.le_of_ble_eq_true rfl) rfl dX6_eventOf_97 ?_
              refine lv_iload_n hx hb dX6_eventOf_100 rfl (lv_at hl 1 rfl) ?_
              obtain ⟨r14, M13, e15, h⟩ := xm_b2_s h
              refine xm_callVN C hP hS [.int x1] [] (c_X1_placeOf hD  n M10 x1 r14 M13 e15) k_X6_139 (xm_recv C hP 13 rfl (Nat.le_of_ble_eq_true rfl) ((xe_13 E a) _)) rfl rfl ⟨(Nat.le_of_ble_eq_true rfl), (Nat.le_of_ble_eq_true rfl)⟩ hl.1 (Nat.le_of_ble_eq_true rfl) ⟨Nat.zero_le _, Nat.zero_le _⟩ dX6_eventOf_101 (fun H locs hP hS => ?_)
              change W p l e _ s m _ below meth c H locs 0 0 _ (F0 m 104 ls [.int r14])
              obtain ⟨rfl, rfl⟩ := xm_pr h
              exact xm_retI C hP hS dX6_eventOf_104
            · rw [if_neg c9] at h
              by_cases c16 : x2 = 4
              · rw [if_pos c16] at h
                refine lv_tableIn (tgt := 105) hx hb dX6_eventOf_18 (by rw [c16]; decide) (by rw [c16]; decide) (by rw [c16]; rfl) (by decide) ?_
                refine lv_aload_n hx hb dX6_eventOf_105 rfl (lv_at hl 0 rfl) ?_
                refine xm_get (V := (xv E a)) (T := TX6) (v := .ref (a 8)) C hP 0 6 xi_6 rfl l_X6_47 rfl (Nat.le_of_ble_eq_true rfl) ((xe_0 E a) _) (Nat.le_of_ble_eq_true rfl) rfl dX6_eventOf_106 ?_
                refine lv_aload_n hx hb dX6_eventOf_109 rfl (lv_at hl 0 rfl) ?_
                refine xm_get (V := (xv E a)) (T := TX6) (v := .ref (a 18)) C hP 0 0 xi_6 rfl l_X6_10 rfl (Nat.le_of_ble_eq_true rfl) ((xe_0 E a) _) (Nat.le_of_ble_eq_true rfl) rfl dX6_eventOf_110 ?_
                obtain ⟨M17, e19, h⟩ := xm_b1_s h
                refine xm_callVN C hP hS [.ref (a 18)] [] (c_X3_begin hD xs_18 n M  M17 e19) k_X6_132 (xm_recv C hP 8 rfl (Nat.le_of_ble_eq_true rfl) ((xe_8 E a) _)) rfl rfl ⟨(Nat.le_of_ble_eq_true rfl), (Nat.le_of_ble_eq_true rfl)⟩ hl.1 (Nat.le_of_ble_eq_true rfl) ⟨Nat.zero_le _, Nat.zero_le _⟩ dX6_eventOf_113 (fun H locs hP hS => ?_)
                change W p l e _ s m _ below meth c H locs 0 0 _ (F0 m 116 ls [])
                refine lv_aload_n hx hb dX6_eventOf_116 rfl (lv_at hl 0 rfl) ?_
                refine xm_get (V := (xv E a)) (T := TX6) (v := .ref (a 8)) C hP 0 6 xi_6 rfl l_X6_47 rfl (Nat.le_of_ble_eq_true rfl) ((xe_0 E a) _) (Nat.le_of_ble_eq_true rfl) rfl dX6_eventOf_117 ?_
                refine lv_aload_n hx hb dX6_eventOf_120 rfl (lv_at hl 0 rfl) ?_
                refine xm_get (V := (xv E a)) (T := TX6) (v := .ref (a 18)) C hP 0 0 xi_6 rfl l_X6_10 rfl (Nat.le_of_ble_eq_true rfl) ((xe_0 E a) _) (Nat.le_of_ble_eq_true rfl) rfl dX6_eventOf_121 ?_
                obtain ⟨r21, M20, e22, h⟩ := xm_b2_s h
                refine xm_callVN C hP hS [.ref (a 18)] [] (c_X3_runAll hD xs_18 n M17  r21 M20 e22) k_X6_144 (xm_recv C hP 8 rfl (Nat.le_of_ble_eq_true rfl) ((xe_8 E a) _)) rfl rfl ⟨(Nat.le_of_ble_eq_true rfl), (Nat.le_of_ble_eq_true rfl)⟩ hl.1 (Nat.le_of_ble_eq_true rfl) ⟨Nat.zero_le _, Nat.zero_le _⟩ dX6_eventOf_124 (fun H locs hP hS => ?_)
                change W p l e _ s m _ below meth c H locs 0 0 _ (F0 m 127 ls [.int r21])
                refine lv_pop hx hb dX6_eventOf_127 rfl ?_
                refine lv_aload_n hx hb dX6_eventOf_128 rfl (lv_at hl 0 rfl) ?_
                refine xm_get (V := (xv E a)) (T := TX6) (v := .ref (a 8)) C hP 0 6 xi_6 rfl l_X6_47 rfl (Nat.le_of_ble_eq_true rfl) ((xe_0 E a) _) (Nat.le_of_ble_eq_true rfl) rfl dX6_eventOf_129 ?_
                refine lv_iload_n hx hb dX6_eventOf_132 rfl (lv_at hl 1 rfl) ?_
                obtain ⟨r24, M23, e25, h⟩ := xm_b2_s h
                refine xm_callVN C hP hS [.int x1] [] (c_X3_shareOf hD  n M20 x1 r24 M23 e25) k_X6_148 (xm_recv C hP 8 rfl (Nat.le_of_ble_eq_true rfl) ((xe_8 E a) _)) rfl rfl ⟨(Nat.le_of_ble_eq_true rfl), (Nat.le_of_ble_eq_true rfl)⟩ hl.1 (Nat.le_of_ble_eq_true rfl) ⟨Nat.zero_le _, Nat.zero_le _⟩ dX6_eventOf_133 (fun H locs hP hS => ?_)
                change W p l e _ s m _ below meth c H locs 0 0 _ (F0 m 136 ls [.int r24])
                obtain ⟨rfl, rfl⟩ := xm_pr h
                exact xm_retI C hP hS dX6_eventOf_136
              · rw [if_neg c16] at h
                refine lv_tableOut (tgt := 137) hx hb dX6_eventOf_18 (xm_sw5 c3 c5 c7 c9 c16) (by decide) ?_
                refine lv_bipush (v := (-2)) hx hb dX6_eventOf_137 (by decide) ?_
                obtain ⟨rfl, rfl⟩ := xm_pr h
                exact xm_retI C hP hS dX6_eventOf_139
    · rw [if_neg c2] at h
      refine lv_iconst (v := (-1)) hx hb dX6_eventOf_15 (by decide) ?_
      obtain ⟨rfl, rfl⟩ := xm_pr h
      exact xm_retI C hP hS dX6_eventOf_16
theorem c_X6_eventOf {l : Launch} {E : xm_E} {a : Nat → Nat} (hD : xm_D (xv E a)) (n : Nat) (M : xm_M) (x1 : Int32) (x2 : Int32) (r : Int32) (M' : xm_M) (h : f_X6_eventOf n M x1 x2 = some (r, M')) : xm_Met l E (xv E a) yX6_eventOf cX6_eventOf 3 (some .int) 8 197 [.ref (a 0), .int x1, .int x2] M M' (some r) :=
  xm_met (by decide +kernel) rfl (Nat.le_of_ble_eq_true rfl) hD (fun p e s m below meth c C hP ls hl => t_X6_eventOf_0 C  n M x1 x2 r M' h _ _ _ hP va_S.rf hl)
def f_X6_pattern (n : Nat) (M : xm_M) (x1 : Int32) (x2 : Int32) : Option (Int32 × xm_M) := xm_b2 (f_X6_isPattern n M x1) (fun r2 M1 => if r2 = 0 then some ((-1), M1) else xm_ck (xm_in x1 4) (if x2 = 0 then some (M1 (18 + 5 + 3 * x1.toNatClampNeg) 0, M1) else if x2 = 1 then some (M1 (18 + 5 + 3 * x1.toNatClampNeg) 1, M1) else if x2 = 2 then some (M1 (18 + 5 + 3 * x1.toNatClampNeg) 2, M1) else if x2 = 3 then some (M1 (18 + 5 + 3 * x1.toNatClampNeg) 3, M1) else if x2 = 4 then xm_b1 (f_X6_searchFor n M1 (18 + 5 + 3 * x1.toNatClampNeg)) (fun M11 => some (M11 8 12, M11)) else if x2 = 5 then xm_b1 (f_X6_searchFor n M1 (18 + 5 + 3 * x1.toNatClampNeg)) (fun M15 => some (M15 8 13, M15)) else if x2 = 6 then xm_b1 (f_X6_searchFor n M1 (18 + 5 + 3 * x1.toNatClampNeg)) (fun M19 => some (M19 8 14, M19)) else some ((-2), M1)))
set_option maxHeartbeats 4000000 in
set_option maxRecDepth 100000 in
theorem t_X6_pattern_0 {l : Launch} {p : Program} {e : Env} {s : State} {m : MethodId} {args : Array Value} {below : List Frame} {meth : Method} {c : Code} {E : xm_E} {a : Nat → Nat} (C : xm_C E (xv E a) p s m args meth c RX6 cX6_pattern 4 (some .int)) (n : Nat) (M : xm_M) (x1 : Int32) (x2 : Int32) (r : Int32) (M' : xm_M) : f_X6_pattern n M x1 x2 = some (r, M') → ∀ (H : Heap) (locs : List Loc) (ls : Array Slot), va_P E.1 vwCl (xm_w (xv E a) M) H → va_S (xm_A (xv E a) s.heap.size) s.heap H locs → lv_has ls 4 [(0, .ref (a 0)), (1, .int x1), (2, .int x2)] → W p l e { frames := 8, cells := 0, slots := 0, locals := 195 } s m args below meth c H locs 0 0 (MQ below (xm_Q E (xv E a) M' s.heap.size (some r)) args s 0 0 (xm_A (xv E a) s.heap.size)) (F0 m 0 ls []) := by
  have C9 := C
  obtain ⟨hx, hb, hml, hown, hts, hr, hlk, hD, hK, hS9⟩ := C9
  intro h H locs ls hP hS hl
  unfold f_X6_pattern at h
  refine lv_aload_n hx hb dX6_pattern_0 rfl (lv_at hl 0 rfl) ?_
  refine lv_iload_n hx hb dX6_pattern_1 rfl (lv_at hl 1 rfl) ?_
  obtain ⟨r2, M1, e3, h⟩ := xm_b2_s h
  refine xm_callV C hP hS [.int x1] [] (c_X6_isPattern hD  n M x1 r2 M1 e3) k_X6_91 (xm_recv C hP 0 rfl (Nat.le_of_ble_eq_true rfl) ((xe_0 E a) _)) rfl rfl ⟨(Nat.le_of_ble_eq_true rfl), (Nat.le_of_ble_eq_true rfl)⟩ hl.1 (Nat.le_of_ble_eq_true rfl) ⟨Nat.zero_le _, Nat.zero_le _⟩ dX6_pattern_2 (fun H locs hP hS => ?_)
  change W p l e _ s m _ below meth c H locs 0 0 _ (F0 m 5 ls [.int r2])
  refine lv_if_ne (tgt := 10) hx hb dX6_pattern_5 (by decide) (fun c4 => ?_) (fun c4 => ?_)
  · rw [if_neg c4] at h
    refine lv_aload_n hx hb dX6_pattern_10 rfl (lv_at hl 0 rfl) ?_
    refine xm_get (V := (xv E a)) (T := TX6) (v := .ref (a 18)) C hP 0 0 xi_6 rfl l_X6_10 rfl (Nat.le_of_ble_eq_true rfl) ((xe_0 E a) _) (Nat.le_of_ble_eq_true rfl) rfl dX6_pattern_11 ?_
    refine xm_getN (V := (xv E a)) (T := TX4) (v := .ref (a (18 + 4))) C hP 18 7 xi_4 rfl l_X6_98 rfl (xs_lt xs_18 0 (by omega)) ((xs_0 xs_18 E a) _) (Nat.le_of_ble_eq_true rfl) rfl dX6_pattern_14 ?_
    refine lv_iload_n hx hb dX6_pattern_17 rfl (lv_at hl 1 rfl) ?_
    obtain ⟨b5, h⟩ := xm_ck_s h
    refine xm_aald (V := (xv E a)) (K := RX2) (v := a (18 + 5 + 3 * x1.toNatClampNeg)) C hP (18 + 4) 4 4 (xs_lt xs_18 4 (by omega)) (xs_4 xs_18 E a) rfl b5 (xo_rp_at b5) dX6_pattern_18 ?_
    refine lv_astore_n (lv' := [(3, .ref (a (18 + 5 + 3 * x1.toNatClampNeg))), (0, .ref (a 0)), (1, .int x1), (2, .int x2)]) hx hb dX6_pattern_19 rfl hl (by decide) rfl (fun ls hl => ?_)
    refine lv_iload_n hx hb dX6_pattern_20 rfl (lv_at hl 3 rfl) ?_
    by_cases c6 : x2 = 0
    · rw [if_pos c6] at h
      refine lv_tableIn (tgt := 64) hx hb dX6_pattern_21 (by rw [c6]; decide) (by rw [c6]; decide) (by rw [c6]; rfl) (by decide) ?_
      refine lv_aload_n hx hb dX6_pattern_64 rfl (lv_at hl 0 rfl) ?_
      refine xm_getN (V := (xv E a)) (T := TX2) (v := .int (M1 (18 + 5 + 3 * x1.toNatClampNeg) 0)) C hP (18 + 5 + 3 * x1.toNatClampNeg) 0 xi_2 rfl l_X6_102 rfl (xp_lt (xp_s xs_18 b5) 0 (by omega)) ((xp_0 (xp_s xs_18 b5) E a) _) (Nat.le_of_ble_eq_true rfl) rfl dX6_pattern_65 ?_
      obtain ⟨rfl, rfl⟩ := xm_pr h
      exact xm_retI C hP hS dX6_pattern_68
    · rw [if_neg c6] at h
      by_cases c7 : x2 = 1
      · rw [if_pos c7] at h
        refine lv_tableIn (tgt := 69) hx hb dX6_pattern_21 (by rw [c7]; decide) (by rw [c7]; decide) (by rw [c7]; rfl) (by decide) ?_
        refine lv_aload_n hx hb dX6_pattern_69 rfl (lv_at hl 0 rfl) ?_
        refine xm_getN (V := (xv E a)) (T := TX2) (v := .int (M1 (18 + 5 + 3 * x1.toNatClampNeg) 1)) C hP (18 + 5 + 3 * x1.toNatClampNeg) 1 xi_2 rfl l_X6_151 rfl (xp_lt (xp_s xs_18 b5) 0 (by omega)) ((xp_0 (xp_s xs_18 b5) E a) _) (Nat.le_of_ble_eq_true rfl) rfl dX6_pattern_70 ?_
        obtain ⟨rfl, rfl⟩ := xm_pr h
        exact xm_retI C hP hS dX6_pattern_73
      · rw [if_neg c7] at h
        by_cases c8 : x2 = 2
        · rw [if_pos c8] at h
          refine lv_tableIn (tgt := 74) hx hb dX6_pattern_21 (by rw [c8]; decide) (by rw [c8]; decide) (by rw [c8]; rfl) (by decide) ?_
          refine lv_aload_n hx hb dX6_pattern_74 rfl (lv_at hl 0 rfl) ?_
          refine xm_getN (V := (xv E a)) (T := TX2) (v := .int (M1 (18 + 5 + 3 * x1.toNatClampNeg) 2)) C hP (18 + 5 + 3 * x1.toNatClampNeg) 2 xi_2 rfl l_X6_154 rfl (xp_lt (xp_s xs_18 b5) 0 (by omega)) ((xp_0 (xp_s xs_18 b5) E a) _) (Nat.le_of_ble_eq_true rfl) rfl dX6_pattern_75 ?_
          obtain ⟨rfl, rfl⟩ := xm_pr h
          exact xm_retI C hP hS dX6_pattern_78
        · rw [if_neg c8] at h
          by_cases c9 : x2 = 3
          · rw [if_pos c9] at h
            refine lv_tableIn (tgt := 79) hx hb dX6_pattern_21 (by rw [c9]; decide) (by rw [c9]; decide) (by rw [c9]; rfl) (by decide) ?_
            refine lv_aload_n hx hb dX6_pattern_79 rfl (lv_at hl 0 rfl) ?_
            refine xm_getN (V := (xv E a)) (T := TX2) (v := .int (M1 (18 + 5 + 3 * x1.toNatClampNeg) 3)) C hP (18 + 5 + 3 * x1.toNatClampNeg) 3 xi_2 rfl l_X6_157 rfl (xp_lt (xp_s xs_18 b5) 0 (by omega)) ((xp_0 (xp_s xs_18 b5) E a) _) (Nat.le_of_ble_eq_true rfl) rfl dX6_pattern_80 ?_
            obtain ⟨rfl, rfl⟩ := xm_pr h
            exact xm_retI C hP hS dX6_pattern_83
          · rw [if_neg c9] at h
            by_cases c10 : x2 = 4
            · rw [if_pos c10] at h
              refine lv_tableIn (tgt := 84) hx hb dX6_pattern_21 (by rw [c10]; decide) (by rw [c10]; decide) (by rw [c10]; rfl) (by decide) ?_
              refine lv_aload_n hx hb dX6_pattern_84 rfl (lv_at hl 1 rfl) ?_
              refine lv_aload_n hx hb dX6_pattern_85 rfl (lv_at hl 0 rfl) ?_
              obtain ⟨M11, e13, h⟩ := xm_b1_s h
              refine xm_callV C hP hS [.ref (a (18 + 5 + 3 * x1.toNatClampNeg))] [] (c_X6_searchFor hD (xp_s xs_18 b5) n M1  M11 e13) k_X6_160 (xm_recv C hP 0 rfl (Nat.le_of_ble_eq_true rfl) ((xe_0 E a) _)) rfl rfl ⟨(Nat.le_of_ble_eq_true rfl), (Nat.le_of_ble_eq_true rfl)⟩ hl.1 (Nat.le_of_ble_eq_true rfl) ⟨Nat.zero_le _, Nat.zero_le _⟩ dX6_pattern_86 (fun H locs hP hS => ?_)
              change W p l e _ s m _ below meth c H locs 0 0 _ (F0 m 89 ls [])
              refine lv_aload_n hx hb dX6_pattern_89 rfl (lv_at hl 1 rfl) ?_
              refine xm_get (V := (xv E a)) (T := TX6) (v := .ref (a 8)) C hP 0 6 xi_6 rfl l_X6_47 rfl (Nat.le_of_ble_eq_true rfl) ((xe_0 E a) _) (Nat.le_of_ble_eq_true rfl) rfl dX6_pattern_90 ?_
              refine xm_getN (V := (xv E a)) (T := TX3) (v := .int (M11 8 12)) C hP 8 12 xi_3 rfl l_X6_164 rfl (Nat.le_of_ble_eq_true rfl) ((xe_8 E a) _) (Nat.le_of_ble_eq_true rfl) rfl dX6_pattern_93 ?_
              obtain ⟨rfl, rfl⟩ := xm_pr h
              exact xm_retI C hP hS dX6_pattern_96
            · rw [if_neg c10] at h
              by_cases c14 : x2 = 5
              · rw [if_pos c14] at h
                refine lv_tableIn (tgt := 97) hx hb dX6_pattern_21 (by rw [c14]; decide) (by rw [c14]; decide) (by rw [c14]; rfl) (by decide) ?_
                refine lv_aload_n hx hb dX6_pattern_97 rfl (lv_at hl 1 rfl) ?_
                refine lv_aload_n hx hb dX6_pattern_98 rfl (lv_at hl 0 rfl) ?_
                obtain ⟨M15, e17, h⟩ := xm_b1_s h
                refine xm_callV C hP hS [.ref (a (18 + 5 + 3 * x1.toNatClampNeg))] [] (c_X6_searchFor hD (xp_s xs_18 b5) n M1  M15 e17) k_X6_160 (xm_recv C hP 0 rfl (Nat.le_of_ble_eq_true rfl) ((xe_0 E a) _)) rfl rfl ⟨(Nat.le_of_ble_eq_true rfl), (Nat.le_of_ble_eq_true rfl)⟩ hl.1 (Nat.le_of_ble_eq_true rfl) ⟨Nat.zero_le _, Nat.zero_le _⟩ dX6_pattern_99 (fun H locs hP hS => ?_)
                change W p l e _ s m _ below meth c H locs 0 0 _ (F0 m 102 ls [])
                refine lv_aload_n hx hb dX6_pattern_102 rfl (lv_at hl 1 rfl) ?_
                refine xm_get (V := (xv E a)) (T := TX6) (v := .ref (a 8)) C hP 0 6 xi_6 rfl l_X6_47 rfl (Nat.le_of_ble_eq_true rfl) ((xe_0 E a) _) (Nat.le_of_ble_eq_true rfl) rfl dX6_pattern_103 ?_
                refine xm_getN (V := (xv E a)) (T := TX3) (v := .int (M15 8 13)) C hP 8 13 xi_3 rfl l_X6_167 rfl (Nat.le_of_ble_eq_true rfl) ((xe_8 E a) _) (Nat.le_of_ble_eq_true rfl) rfl dX6_pattern_106 ?_
                obtain ⟨rfl, rfl⟩ := xm_pr h
                exact xm_retI C hP hS dX6_pattern_109
              · rw [if_neg c14] at h
                by_cases c18 : x2 = 6
                · rw [if_pos c18] at h
                  refine lv_tableIn (tgt := 110) hx hb dX6_pattern_21 (by rw [c18]; decide) (by rw [c18]; decide) (by rw [c18]; rfl) (by decide) ?_
                  refine lv_aload_n hx hb dX6_pattern_110 rfl (lv_at hl 1 rfl) ?_
                  refine lv_aload_n hx hb dX6_pattern_111 rfl (lv_at hl 0 rfl) ?_
                  obtain ⟨M19, e21, h⟩ := xm_b1_s h
                  refine xm_callV C hP hS [.ref (a (18 + 5 + 3 * x1.toNatClampNeg))] [] (c_X6_searchFor hD (xp_s xs_18 b5) n M1  M19 e21) k_X6_160 (xm_recv C hP 0 rfl (Nat.le_of_ble_eq_true rfl) ((xe_0 E a) _)) rfl rfl ⟨(Nat.le_of_ble_eq_true rfl), (Nat.le_of_ble_eq_true rfl)⟩ hl.1 (Nat.le_of_ble_eq_true rfl) ⟨Nat.zero_le _, Nat.zero_le _⟩ dX6_pattern_112 (fun H locs hP hS => ?_)
                  change W p l e _ s m _ below meth c H locs 0 0 _ (F0 m 115 ls [])
                  refine lv_aload_n hx hb dX6_pattern_115 rfl (lv_at hl 1 rfl) ?_
                  refine xm_get (V := (xv E a)) (T := TX6) (v := .ref (a 8)) C hP 0 6 xi_6 rfl l_X6_47 rfl (Nat.le_of_ble_eq_true rfl) ((xe_0 E a) _) (Nat.le_of_ble_eq_true rfl) rfl dX6_pattern_116 ?_
                  refine xm_getN (V := (xv E a)) (T := TX3) (v := .int (M19 8 14)) C hP 8 14 xi_3 rfl l_X6_170 rfl (Nat.le_of_ble_eq_true rfl) ((xe_8 E a) _) (Nat.le_of_ble_eq_true rfl) rfl dX6_pattern_119 ?_
                  obtain ⟨rfl, rfl⟩ := xm_pr h
                  exact xm_retI C hP hS dX6_pattern_122
                · rw [if_neg c18] at h
                  refine lv_tableOut (tgt := 123) hx hb dX6_pattern_21 (xm_sw7 c6 c7 c8 c9 c10 c14 c18) (by decide) ?_
                  refine lv_bipush (v := (-2)) hx hb dX6_pattern_123 (by decide) ?_
                  obtain ⟨rfl, rfl⟩ := xm_pr h
                  exact xm_retI C hP hS dX6_pattern_125
  · rw [if_pos c4] at h
    refine lv_iconst (v := (-1)) hx hb dX6_pattern_8 (by decide) ?_
    obtain ⟨rfl, rfl⟩ := xm_pr h
    exact xm_retI C hP hS dX6_pattern_9
theorem c_X6_pattern {l : Launch} {E : xm_E} {a : Nat → Nat} (hD : xm_D (xv E a)) (n : Nat) (M : xm_M) (x1 : Int32) (x2 : Int32) (r : Int32) (M' : xm_M) (h : f_X6_pattern n M x1 x2 = some (r, M')) : xm_Met l E (xv E a) yX6_pattern cX6_pattern 4 (some .int) 8 195 [.ref (a 0), .int x1, .int x2] M M' (some r) :=
  xm_met (by decide +kernel) rfl (Nat.le_of_ble_eq_true rfl) hD (fun p e s m below meth c C hP ls hl => t_X6_pattern_0 C  n M x1 x2 r M' h _ _ _ hP va_S.rf hl)
def f_X6_step (n : Nat) (M : xm_M) (x1 : Int32) (x2 : Int32) (x3 : Int32) : Option (Int32 × xm_M) := xm_b2 (f_X6_isPattern n M x1) (fun r2 M1 => if r2 = 0 then some ((-1), M1) else xm_ck (xm_in x1 4) (if x2 < 0 then some ((-2), M1) else if x2 < (M1 (18 + 5 + 3 * x1.toNatClampNeg) 2) then if x3 = 0 then xm_ck (xm_in x2 8) (some (M1 (18 + 5 + 3 * x1.toNatClampNeg + 1) x2.toNatClampNeg, M1)) else if x3 = 1 then xm_ck (xm_in x2 8) (if (M1 (18 + 5 + 3 * x1.toNatClampNeg + 2) x2.toNatClampNeg) = 0 then some (0, M1) else some (1, M1)) else some ((-2), M1) else some ((-2), M1)))
set_option maxHeartbeats 4000000 in
set_option maxRecDepth 100000 in
theorem t_X6_step_0 {l : Launch} {p : Program} {e : Env} {s : State} {m : MethodId} {args : Array Value} {below : List Frame} {meth : Method} {c : Code} {E : xm_E} {a : Nat → Nat} (C : xm_C E (xv E a) p s m args meth c RX6 cX6_step 5 (some .int)) (n : Nat) (M : xm_M) (x1 : Int32) (x2 : Int32) (x3 : Int32) (r : Int32) (M' : xm_M) : f_X6_step n M x1 x2 x3 = some (r, M') → ∀ (H : Heap) (locs : List Loc) (ls : Array Slot), va_P E.1 vwCl (xm_w (xv E a) M) H → va_S (xm_A (xv E a) s.heap.size) s.heap H locs → lv_has ls 5 [(0, .ref (a 0)), (1, .int x1), (2, .int x2), (3, .int x3)] → W p l e { frames := 1, cells := 0, slots := 0, locals := 21 } s m args below meth c H locs 0 0 (MQ below (xm_Q E (xv E a) M' s.heap.size (some r)) args s 0 0 (xm_A (xv E a) s.heap.size)) (F0 m 0 ls []) := by
  have C9 := C
  obtain ⟨hx, hb, hml, hown, hts, hr, hlk, hD, hK, hS9⟩ := C9
  intro h H locs ls hP hS hl
  unfold f_X6_step at h
  refine lv_aload_n hx hb dX6_step_0 rfl (lv_at hl 0 rfl) ?_
  refine lv_iload_n hx hb dX6_step_1 rfl (lv_at hl 1 rfl) ?_
  obtain ⟨r2, M1, e3, h⟩ := xm_b2_s h
  refine xm_callV C hP hS [.int x1] [] (c_X6_isPattern hD  n M x1 r2 M1 e3) k_X6_91 (xm_recv C hP 0 rfl (Nat.le_of_ble_eq_true rfl) ((xe_0 E a) _)) rfl rfl ⟨(Nat.le_of_ble_eq_true rfl), (Nat.le_of_ble_eq_true rfl)⟩ hl.1 (Nat.le_of_ble_eq_true rfl) ⟨Nat.zero_le _, Nat.zero_le _⟩ dX6_step_2 (fun H locs hP hS => ?_)
  change W p l e _ s m _ below meth c H locs 0 0 _ (F0 m 5 ls [.int r2])
  refine lv_if_ne (tgt := 10) hx hb dX6_step_5 (by decide) (fun c4 => ?_) (fun c4 => ?_)
  · rw [if_neg c4] at h
    refine lv_aload_n hx hb dX6_step_10 rfl (lv_at hl 0 rfl) ?_
    refine xm_get (V := (xv E a)) (T := TX6) (v := .ref (a 18)) C hP 0 0 xi_6 rfl l_X6_10 rfl (Nat.le_of_ble_eq_true rfl) ((xe_0 E a) _) (Nat.le_of_ble_eq_true rfl) rfl dX6_step_11 ?_
    refine xm_getN (V := (xv E a)) (T := TX4) (v := .ref (a (18 + 4))) C hP 18 7 xi_4 rfl l_X6_98 rfl (xs_lt xs_18 0 (by omega)) ((xs_0 xs_18 E a) _) (Nat.le_of_ble_eq_true rfl) rfl dX6_step_14 ?_
    refine lv_iload_n hx hb dX6_step_17 rfl (lv_at hl 1 rfl) ?_
    obtain ⟨b5, h⟩ := xm_ck_s h
    refine xm_aald (V := (xv E a)) (K := RX2) (v := a (18 + 5 + 3 * x1.toNatClampNeg)) C hP (18 + 4) 4 4 (xs_lt xs_18 4 (by omega)) (xs_4 xs_18 E a) rfl b5 (xo_rp_at b5) dX6_step_18 ?_
    refine lv_astore (lv' := [(4, .ref (a (18 + 5 + 3 * x1.toNatClampNeg))), (0, .ref (a 0)), (1, .int x1), (2, .int x2), (3, .int x3)]) hx hb dX6_step_19 hl (by decide) rfl (fun ls hl => ?_)
    refine lv_iload_n hx hb dX6_step_21 rfl (lv_at hl 3 rfl) ?_
    refine lv_if_lt (tgt := 34) hx hb dX6_step_22 (by decide) (fun c6 => ?_) (fun c6 => ?_)
    · rw [if_pos c6] at h
      refine lv_bipush (v := (-2)) hx hb dX6_step_34 (by decide) ?_
      obtain ⟨rfl, rfl⟩ := xm_pr h
      exact xm_retI C hP hS dX6_step_36
    · rw [if_neg c6] at h
      refine lv_iload_n hx hb dX6_step_25 rfl (lv_at hl 3 rfl) ?_
      refine lv_aload hx hb dX6_step_26 (lv_at hl 0 rfl) ?_
      refine xm_getN (V := (xv E a)) (T := TX2) (v := .int (M1 (18 + 5 + 3 * x1.toNatClampNeg) 2)) C hP (18 + 5 + 3 * x1.toNatClampNeg) 2 xi_2 rfl l_X6_154 rfl (xp_lt (xp_s xs_18 b5) 0 (by omega)) ((xp_0 (xp_s xs_18 b5) E a) _) (Nat.le_of_ble_eq_true rfl) rfl dX6_step_28 ?_
      refine lv_icmp_lt (tgt := 37) hx hb dX6_step_31 (by decide) (fun c7 => ?_) (fun c7 => ?_)
      · rw [if_pos c7] at h
        refine lv_iload_n hx hb dX6_step_37 rfl (lv_at hl 4 rfl) ?_
        by_cases c8 : x3 = 0
        · rw [if_pos c8] at h
          refine lv_lookup (tgt := 64) hx hb dX6_step_38 (by decide) (by rw [c8] <;> rfl) (by decide) ?_
          refine lv_aload hx hb dX6_step_64 (lv_at hl 0 rfl) ?_
          refine xm_getN (V := (xv E a)) (T := TX2) (v := .ref (a (18 + 5 + 3 * x1.toNatClampNeg + 1))) C hP (18 + 5 + 3 * x1.toNatClampNeg) 4 xi_2 rfl l_X6_173 rfl (xp_lt (xp_s xs_18 b5) 0 (by omega)) ((xp_0 (xp_s xs_18 b5) E a) _) (Nat.le_of_ble_eq_true rfl) rfl dX6_step_66 ?_
          refine lv_iload_n hx hb dX6_step_69 rfl (lv_at hl 3 rfl) ?_
          obtain ⟨b9, h⟩ := xm_ck_s h
          refine xm_cald (V := (xv E a)) C hP (18 + 5 + 3 * x1.toNatClampNeg + 1) 8 (xp_lt (xp_s xs_18 b5) 1 (by omega)) (xp_1 (xp_s xs_18 b5) E a) b9 dX6_step_70 ?_
          obtain ⟨rfl, rfl⟩ := xm_pr h
          exact xm_retI C hP hS dX6_step_71
        · rw [if_neg c8] at h
          by_cases c10 : x3 = 1
          · rw [if_pos c10] at h
            refine lv_lookup (tgt := 72) hx hb dX6_step_38 (by decide) (by rw [c10] <;> rfl) (by decide) ?_
            refine lv_aload hx hb dX6_step_72 (lv_at hl 0 rfl) ?_
            refine xm_getN (V := (xv E a)) (T := TX2) (v := .ref (a (18 + 5 + 3 * x1.toNatClampNeg + 2))) C hP (18 + 5 + 3 * x1.toNatClampNeg) 5 xi_2 rfl l_X6_174 rfl (xp_lt (xp_s xs_18 b5) 0 (by omega)) ((xp_0 (xp_s xs_18 b5) E a) _) (Nat.le_of_ble_eq_true rfl) rfl dX6_step_74 ?_
            refine lv_iload_n hx hb dX6_step_77 rfl (lv_at hl 3 rfl) ?_
            obtain ⟨b11, h⟩ := xm_ck_s h
            refine xm_zald (V := (xv E a)) C hP (18 + 5 + 3 * x1.toNatClampNeg + 2) 8 (xp_lt (xp_s xs_18 b5) 2 (by omega)) (xp_2 (xp_s xs_18 b5) E a) b11 dX6_step_78 ?_
            refine lv_if_eq (tgt := 86) hx hb dX6_step_79 (by decide) (fun c12 => ?_) (fun c12 => ?_)
            · rw [if_pos c12] at h
              refine lv_iconst (v := 0) hx hb dX6_step_86 (by decide) ?_
              obtain ⟨rfl, rfl⟩ := xm_pr h
              exact xm_retI C hP hS dX6_step_87
            · rw [if_neg c12] at h
              refine lv_iconst (v := 1) hx hb dX6_step_82 (by decide) ?_
              refine lv_goto (tgt := 87) hx hb dX6_step_83 (by decide) ?_
              obtain ⟨rfl, rfl⟩ := xm_pr h
              exact xm_retI C hP hS dX6_step_87
          · rw [if_neg c10] at h
            refine lv_lookup (tgt := 88) hx hb dX6_step_38 (by decide) (xm_lk2 c8 c10) (by decide) ?_
            refine lv_bipush (v := (-2)) hx hb dX6_step_88 (by decide) ?_
            obtain ⟨rfl, rfl⟩ := xm_pr h
            exact xm_retI C hP hS dX6_step_90
      · rw [if_neg c7] at h
        refine lv_bipush (v := (-2)) hx hb dX6_step_34 (by decide) ?_
        obtain ⟨rfl, rfl⟩ := xm_pr h
        exact xm_retI C hP hS dX6_step_36
  · rw [if_pos c4] at h
    refine lv_iconst (v := (-1)) hx hb dX6_step_8 (by decide) ?_
    obtain ⟨rfl, rfl⟩ := xm_pr h
    exact xm_retI C hP hS dX6_step_9
theorem c_X6_step {l : Launch} {E : xm_E} {a : Nat → Nat} (hD : xm_D (xv E a)) (n : Nat) (M : xm_M) (x1 : Int32) (x2 : Int32) (x3 : Int32) (r : Int32) (M' : xm_M) (h : f_X6_step n M x1 x2 x3 = some (r, M')) : xm_Met l E (xv E a) yX6_step cX6_step 5 (some .int) 1 21 [.ref (a 0), .int x1, .int x2, .int x3] M M' (some r) :=
  xm_met (by decide +kernel) rfl (Nat.le_of_ble_eq_true rfl) hD (fun p e s m below meth c C hP ls hl => t_X6_step_0 C  n M x1 x2 x3 r M' h _ _ _ hP va_S.rf hl)
def f_X6_match (n : Nat) (M : xm_M) (x1 : Int32) (x2 : Int32) (x3 : Int32) : Option (Int32 × xm_M) := xm_b2 (f_X6_isPattern n M x1) (fun r2 M1 => if r2 = 0 then some ((-1), M1) else xm_ck (xm_in x1 4) (if x2 < 0 then some ((-2), M1) else if x3 < 0 then some ((-2), M1) else if x3 < (M1 (18 + 5 + 3 * x1.toNatClampNeg) 3) then xm_b1 (f_X3_begin n M1 18) (fun M9 => xm_b1 (f_X3_want n M9 x2 x3) (fun M12 => xm_b1 (f_X3_run n M12 (18 + 5 + 3 * x1.toNatClampNeg)) (fun M15 => some (M15 8 5, M15)))) else some ((-2), M1)))
set_option maxHeartbeats 4000000 in
set_option maxRecDepth 100000 in
theorem t_X6_match_0 {l : Launch} {p : Program} {e : Env} {s : State} {m : MethodId} {args : Array Value} {below : List Frame} {meth : Method} {c : Code} {E : xm_E} {a : Nat → Nat} (C : xm_C E (xv E a) p s m args meth c RX6 cX6_match 5 (some .int)) (n : Nat) (M : xm_M) (x1 : Int32) (x2 : Int32) (x3 : Int32) (r : Int32) (M' : xm_M) : f_X6_match n M x1 x2 x3 = some (r, M') → ∀ (H : Heap) (locs : List Loc) (ls : Array Slot), va_P E.1 vwCl (xm_w (xv E a) M) H → va_S (xm_A (xv E a) s.heap.size) s.heap H locs → lv_has ls 5 [(0, .ref (a 0)), (1, .int x1), (2, .int x2), (3, .int x3)] → W p l e { frames := 7, cells := 0, slots := 0, locals := 174 } s m args below meth c H locs 0 0 (MQ below (xm_Q E (xv E a) M' s.heap.size (some r)) args s 0 0 (xm_A (xv E a) s.heap.size)) (F0 m 0 ls []) := by
  have C9 := C
  obtain ⟨hx, hb, hml, hown, hts, hr, hlk, hD, hK, hS9⟩ := C9
  intro h H locs ls hP hS hl
  unfold f_X6_match at h
  refine lv_aload_n hx hb dX6_match_0 rfl (lv_at hl 0 rfl) ?_
  refine lv_iload_n hx hb dX6_match_1 rfl (lv_at hl 1 rfl) ?_
  obtain ⟨r2, M1, e3, h⟩ := xm_b2_s h
  refine xm_callV C hP hS [.int x1] [] (c_X6_isPattern hD  n M x1 r2 M1 e3) k_X6_91 (xm_recv C hP 0 rfl (Nat.le_of_ble_eq_true rfl) ((xe_0 E a) _)) rfl rfl ⟨(Nat.le_of_ble_eq_true rfl), (Nat.le_of_ble_eq_true rfl)⟩ hl.1 (Nat.le_of_ble_eq_true rfl) ⟨Nat.zero_le _, Nat.zero_le _⟩ dX6_match_2 (fun H locs hP hS => ?_)
  change W p l e _ s m _ below meth c H locs 0 0 _ (F0 m 5 ls [.int r2])
  refine lv_if_ne (tgt := 10) hx hb dX6_match_5 (by decide) (fun c4 => ?_) (fun c4 => ?_)
  · rw [if_neg c4] at h
    refine lv_aload_n hx hb dX6_match_10 rfl (lv_at hl 0 rfl) ?_
    refine xm_get (V := (xv E a)) (T := TX6) (v := .ref (a 18)) C hP 0 0 xi_6 rfl l_X6_10 rfl (Nat.le_of_ble_eq_true rfl) ((xe_0 E a) _) (Nat.le_of_ble_eq_true rfl) rfl dX6_match_11 ?_
    refine xm_getN (V := (xv E a)) (T := TX4) (v := .ref (a (18 + 4))) C hP 18 7 xi_4 rfl l_X6_98 rfl (xs_lt xs_18 0 (by omega)) ((xs_0 xs_18 E a) _) (Nat.le_of_ble_eq_true rfl) rfl dX6_match_14 ?_
    refine lv_iload_n hx hb dX6_match_17 rfl (lv_at hl 1 rfl) ?_
    obtain ⟨b5, h⟩ := xm_ck_s h
    refine xm_aald (V := (xv E a)) (K := RX2) (v := a (18 + 5 + 3 * x1.toNatClampNeg)) C hP (18 + 4) 4 4 (xs_lt xs_18 4 (by omega)) (xs_4 xs_18 E a) rfl b5 (xo_rp_at b5) dX6_match_18 ?_
    refine lv_astore (lv' := [(4, .ref (a (18 + 5 + 3 * x1.toNatClampNeg))), (0, .ref (a 0)), (1, .int x1), (2, .int x2), (3, .int x3)]) hx hb dX6_match_19 hl (by decide) rfl (fun ls hl => ?_)
    refine lv_iload_n hx hb dX6_match_21 rfl (lv_at hl 3 rfl) ?_
    refine lv_if_lt (tgt := 38) hx hb dX6_match_22 (by decide) (fun c6 => ?_) (fun c6 => ?_)
    · rw [if_pos c6] at h
      refine lv_bipush (v := (-2)) hx hb dX6_match_38 (by decide) ?_
      obtain ⟨rfl, rfl⟩ := xm_pr h
      exact xm_retI C hP hS dX6_match_40
    · rw [if_neg c6] at h
      refine lv_iload_n hx hb dX6_match_25 rfl (lv_at hl 4 rfl) ?_
      refine lv_if_lt (tgt := 38) hx hb dX6_match_26 (by decide) (fun c7 => ?_) (fun c7 => ?_)
      · rw [if_pos c7] at h
        refine lv_bipush (v := (-2)) hx hb dX6_match_38 (by decide) ?_
        obtain ⟨rfl, rfl⟩ := xm_pr h
        exact xm_retI C hP hS dX6_match_40
      · rw [if_neg c7] at h
        refine lv_iload_n hx hb dX6_match_29 rfl (lv_at hl 4 rfl) ?_
        refine lv_aload hx hb dX6_match_30 (lv_at hl 0 rfl) ?_
        refine xm_getN (V := (xv E a)) (T := TX2) (v := .int (M1 (18 + 5 + 3 * x1.toNatClampNeg) 3)) C hP (18 + 5 + 3 * x1.toNatClampNeg) 3 xi_2 rfl l_X6_157 rfl (xp_lt (xp_s xs_18 b5) 0 (by omega)) ((xp_0 (xp_s xs_18 b5) E a) _) (Nat.le_of_ble_eq_true rfl) rfl dX6_match_32 ?_
        refine lv_icmp_lt (tgt := 41) hx hb dX6_match_35 (by decide) (fun c8 => ?_) (fun c8 => ?_)
        · rw [if_pos c8] at h
          refine lv_aload_n hx hb dX6_match_41 rfl (lv_at hl 1 rfl) ?_
          refine xm_get (V := (xv E a)) (T := TX6) (v := .ref (a 8)) C hP 0 6 xi_6 rfl l_X6_47 rfl (Nat.le_of_ble_eq_true rfl) ((xe_0 E a) _) (Nat.le_of_ble_eq_true rfl) rfl dX6_match_42 ?_
          refine lv_aload_n hx hb dX6_match_45 rfl (lv_at hl 1 rfl) ?_
          refine xm_get (V := (xv E a)) (T := TX6) (v := .ref (a 18)) C hP 0 0 xi_6 rfl l_X6_10 rfl (Nat.le_of_ble_eq_true rfl) ((xe_0 E a) _) (Nat.le_of_ble_eq_true rfl) rfl dX6_match_46 ?_
          obtain ⟨M9, e11, h⟩ := xm_b1_s h
          refine xm_callVN C hP hS [.ref (a 18)] [] (c_X3_begin hD xs_18 n M1  M9 e11) k_X6_132 (xm_recv C hP 8 rfl (Nat.le_of_ble_eq_true rfl) ((xe_8 E a) _)) rfl rfl ⟨(Nat.le_of_ble_eq_true rfl), (Nat.le_of_ble_eq_true rfl)⟩ hl.1 (Nat.le_of_ble_eq_true rfl) ⟨Nat.zero_le _, Nat.zero_le _⟩ dX6_match_49 (fun H locs hP hS => ?_)
          change W p l e _ s m _ below meth c H locs 0 0 _ (F0 m 52 ls [])
          refine lv_aload_n hx hb dX6_match_52 rfl (lv_at hl 1 rfl) ?_
          refine xm_get (V := (xv E a)) (T := TX6) (v := .ref (a 8)) C hP 0 6 xi_6 rfl l_X6_47 rfl (Nat.le_of_ble_eq_true rfl) ((xe_0 E a) _) (Nat.le_of_ble_eq_true rfl) rfl dX6_match_53 ?_
          refine lv_iload_n hx hb dX6_match_56 rfl (lv_at hl 3 rfl) ?_
          refine lv_iload_n hx hb dX6_match_57 rfl (lv_at hl 4 rfl) ?_
          obtain ⟨M12, e14, h⟩ := xm_b1_s h
          refine xm_callVN C hP hS [.int x2, .int x3] [] (c_X3_want hD  n M9 x2 x3 M12 e14) k_X6_178 (xm_recv C hP 8 rfl (Nat.le_of_ble_eq_true rfl) ((xe_8 E a) _)) rfl rfl ⟨(Nat.le_of_ble_eq_true rfl), (Nat.le_of_ble_eq_true rfl)⟩ hl.1 (Nat.le_of_ble_eq_true rfl) ⟨Nat.zero_le _, Nat.zero_le _⟩ dX6_match_58 (fun H locs hP hS => ?_)
          change W p l e _ s m _ below meth c H locs 0 0 _ (F0 m 61 ls [])
          refine lv_aload_n hx hb dX6_match_61 rfl (lv_at hl 1 rfl) ?_
          refine xm_get (V := (xv E a)) (T := TX6) (v := .ref (a 8)) C hP 0 6 xi_6 rfl l_X6_47 rfl (Nat.le_of_ble_eq_true rfl) ((xe_0 E a) _) (Nat.le_of_ble_eq_true rfl) rfl dX6_match_62 ?_
          refine lv_aload hx hb dX6_match_65 (lv_at hl 0 rfl) ?_
          obtain ⟨M15, e17, h⟩ := xm_b1_s h
          refine xm_callVN C hP hS [.ref (a (18 + 5 + 3 * x1.toNatClampNeg))] [] (c_X3_run hD (xp_s xs_18 b5) n M12  M15 e17) k_X6_182 (xm_recv C hP 8 rfl (Nat.le_of_ble_eq_true rfl) ((xe_8 E a) _)) rfl rfl ⟨(Nat.le_of_ble_eq_true rfl), (Nat.le_of_ble_eq_true rfl)⟩ hl.1 (Nat.le_of_ble_eq_true rfl) ⟨Nat.zero_le _, Nat.zero_le _⟩ dX6_match_67 (fun H locs hP hS => ?_)
          change W p l e _ s m _ below meth c H locs 0 0 _ (F0 m 70 ls [])
          refine lv_aload_n hx hb dX6_match_70 rfl (lv_at hl 1 rfl) ?_
          refine xm_get (V := (xv E a)) (T := TX6) (v := .ref (a 8)) C hP 0 6 xi_6 rfl l_X6_47 rfl (Nat.le_of_ble_eq_true rfl) ((xe_0 E a) _) (Nat.le_of_ble_eq_true rfl) rfl dX6_match_71 ?_
          refine xm_getN (V := (xv E a)) (T := TX3) (v := .int (M15 8 5)) C hP 8 5 xi_3 rfl l_X6_185 rfl (Nat.le_of_ble_eq_true rfl) ((xe_8 E a) _) (Nat.le_of_ble_eq_true rfl) rfl dX6_match_74 ?_
          obtain ⟨rfl, rfl⟩ := xm_pr h
          exact xm_retI C hP hS dX6_match_77
        · rw [if_neg c8] at h
          refine lv_bipush (v := (-2)) hx hb dX6_match_38 (by decide) ?_
          obtain ⟨rfl, rfl⟩ := xm_pr h
          exact xm_retI C hP hS dX6_match_40
  · rw [if_pos c4] at h
    refine lv_iconst (v := (-1)) hx hb dX6_match_8 (by decide) ?_
    obtain ⟨rfl, rfl⟩ := xm_pr h
    exact xm_retI C hP hS dX6_match_9
theorem c_X6_match {l : Launch} {E : xm_E} {a : Nat → Nat} (hD : xm_D (xv E a)) (n : Nat) (M : xm_M) (x1 : Int32) (x2 : Int32) (x3 : Int32) (r : Int32) (M' : xm_M) (h : f_X6_match n M x1 x2 x3 = some (r, M')) : xm_Met l E (xv E a) yX6_match cX6_match 5 (some .int) 7 174 [.ref (a 0), .int x1, .int x2, .int x3] M M' (some r) :=
  xm_met (by decide +kernel) rfl (Nat.le_of_ble_eq_true rfl) hD (fun p e s m below meth c C hP ls hl => t_X6_match_0 C  n M x1 x2 x3 r M' h _ _ _ hP va_S.rf hl)
def f_X6_ifEvent (n : Nat) (M : xm_M) (x1 : Int32) (x2 : Int32) (x3 : Int32) : Option (Int32 × xm_M) := xm_b2 (f_X6_errorOfEvent n M x1 x2 x3) (fun r2 M1 => if r2 = 0 then xm_b1 (f_X3_begin n M1 18) (fun M5 => xm_b1 (f_X1_insert n M5 (M5 18 0) x1 x2 x3) (fun M8 => xm_b2 (f_X3_runAll n M8 18) (fun r12 M11 => some (r12, M11)))) else some (r2, M1))
set_option maxHeartbeats 4000000 in
set_option maxRecDepth 100000 in
theorem t_X6_ifEvent_0 {l : Launch} {p : Program} {e : Env} {s : State} {m : MethodId} {args : Array Value} {below : List Frame} {meth : Method} {c : Code} {E : xm_E} {a : Nat → Nat} (C : xm_C E (xv E a) p s m args meth c RX6 cX6_ifEvent 5 (some .int)) (n : Nat) (M : xm_M) (x1 : Int32) (x2 : Int32) (x3 : Int32) (r : Int32) (M' : xm_M) : f_X6_ifEvent n M x1 x2 x3 = some (r, M') → ∀ (H : Heap) (locs : List Loc) (ls : Array Slot), va_P E.1 vwCl (xm_w (xv E a) M) H → va_S (xm_A (xv E a) s.heap.size) s.heap H locs → lv_has ls 5 [(0, .ref (a 0)), (1, .int x1), (2, .int x2), (3, .int x3)] → W p l e { frames := 8, cells := 0, slots := 0, locals := 197 } s m args below meth c H locs 0 0 (MQ below (xm_Q E (xv E a) M' s.heap.size (some r)) args s 0 0 (xm_A (xv E a) s.heap.size)) (F0 m 0 ls []) := by
  have C9 := C
  obtain ⟨hx, hb, hml, hown, hts, hr, hlk, hD, hK, hS9⟩ := C9
  intro h H locs ls hP hS hl
  unfold f_X6_ifEvent at h
  refine lv_aload_n hx hb dX6_ifEvent_0 rfl (lv_at hl 0 rfl) ?_
  refine lv_iload_n hx hb dX6_ifEvent_1 rfl (lv_at hl 1 rfl) ?_
  refine lv_iload_n hx hb dX6_ifEvent_2 rfl (lv_at hl 2 rfl) ?_
  refine lv_iload_n hx hb dX6_ifEvent_3 rfl (lv_at hl 3 rfl) ?_
  obtain ⟨r2, M1, e3, h⟩ := xm_b2_s h
  refine xm_callV C hP hS [.int x1, .int x2, .int x3] [] (c_X6_errorOfEvent hD  n M x1 x2 x3 r2 M1 e3) k_X6_51 (xm_recv C hP 0 rfl (Nat.le_of_ble_eq_true rfl) ((xe_0 E a) _)) rfl rfl ⟨(Nat.le_of_ble_eq_true rfl), (Nat.le_of_ble_eq_true rfl)⟩ hl.1 (Nat.le_of_ble_eq_true rfl) ⟨Nat.zero_le _, Nat.zero_le _⟩ dX6_ifEvent_4 (fun H locs hP hS => ?_)
  change W p l e _ s m _ below meth c H locs 0 0 _ (F0 m 7 ls [.int r2])
  refine lv_istore (lv' := [(4, .int r2), (0, .ref (a 0)), (1, .int x1), (2, .int x2), (3, .int x3)]) hx hb dX6_ifEvent_7 hl (by decide) rfl (fun ls hl => ?_)
  refine lv_iload hx hb dX6_ifEvent_9 (lv_at hl 0 rfl) ?_
  refine lv_if_eq (tgt := 17) hx hb dX6_ifEvent_11 (by decide) (fun c4 => ?_) (fun c4 => ?_)
  · rw [if_pos c4] at h
    refine lv_aload_n hx hb dX6_ifEvent_17 rfl (lv_at hl 1 rfl) ?_
    refine xm_get (V := (xv E a)) (T := TX6) (v := .ref (a 8)) C hP 0 6 xi_6 rfl l_X6_47 rfl (Nat.le_of_ble_eq_true rfl) ((xe_0 E a) _) (Nat.le_of_ble_eq_true rfl) rfl dX6_ifEvent_18 ?_
    refine lv_aload_n hx hb dX6_ifEvent_21 rfl (lv_at hl 1 rfl) ?_
    refine xm_get (V := (xv E a)) (T := TX6) (v := .ref (a 18)) C hP 0 0 xi_6 rfl l_X6_10 rfl (Nat.le_of_ble_eq_true rfl) ((xe_0 E a) _) (Nat.le_of_ble_eq_true rfl) rfl dX6_ifEvent_22 ?_
    obtain ⟨M5, e7, h⟩ := xm_b1_s h
    refine xm_callVN C hP hS [.ref (a 18)] [] (c_X3_begin hD xs_18 n M1  M5 e7) k_X6_132 (xm_recv C hP 8 rfl (Nat.le_of_ble_eq_true rfl) ((xe_8 E a) _)) rfl rfl ⟨(Nat.le_of_ble_eq_true rfl), (Nat.le_of_ble_eq_true rfl)⟩ hl.1 (Nat.le_of_ble_eq_true rfl) ⟨Nat.zero_le _, Nat.zero_le _⟩ dX6_ifEvent_25 (fun H locs hP hS => ?_)
    change W p l e _ s m _ below meth c H locs 0 0 _ (F0 m 28 ls [])
    refine lv_aload_n hx hb dX6_ifEvent_28 rfl (lv_at hl 1 rfl) ?_
    refine xm_get (V := (xv E a)) (T := TX6) (v := .ref (a 8)) C hP 0 6 xi_6 rfl l_X6_47 rfl (Nat.le_of_ble_eq_true rfl) ((xe_0 E a) _) (Nat.le_of_ble_eq_true rfl) rfl dX6_ifEvent_29 ?_
    refine xm_getN (V := (xv E a)) (T := TX3) (v := .ref (a 13)) C hP 8 0 xi_3 rfl l_X6_135 rfl (Nat.le_of_ble_eq_true rfl) ((xe_8 E a) _) (Nat.le_of_ble_eq_true rfl) rfl dX6_ifEvent_32 ?_
    refine lv_aload_n hx hb dX6_ifEvent_35 rfl (lv_at hl 1 rfl) ?_
    refine xm_get (V := (xv E a)) (T := TX6) (v := .ref (a 18)) C hP 0 0 xi_6 rfl l_X6_10 rfl (Nat.le_of_ble_eq_true rfl) ((xe_0 E a) _) (Nat.le_of_ble_eq_true rfl) rfl dX6_ifEvent_36 ?_
    refine xm_getN (V := (xv E a)) (T := TX4) (v := .int (M5 18 0)) C hP 18 0 xi_4 rfl l_X6_55 rfl (xs_lt xs_18 0 (by omega)) ((xs_0 xs_18 E a) _) (Nat.le_of_ble_eq_true rfl) rfl dX6_ifEvent_39 ?_
    refine lv_iload_n hx hb dX6_ifEvent_42 rfl (lv_at hl 2 rfl) ?_
    refine lv_iload_n hx hb dX6_ifEvent_43 rfl (lv_at hl 3 rfl) ?_
    refine lv_iload_n hx hb dX6_ifEvent_44 rfl (lv_at hl 4 rfl) ?_
    obtain ⟨M8, e10, h⟩ := xm_b1_s h
    refine xm_callVN C hP hS [.int (M5 18 0), .int x1, .int x2, .int x3] [] (c_X1_insert hD  n M5 (M5 18 0) x1 x2 x3 M8 e10) k_X6_188 (xm_recv C hP 13 rfl (Nat.le_of_ble_eq_true rfl) ((xe_13 E a) _)) rfl rfl ⟨(Nat.le_of_ble_eq_true rfl), (Nat.le_of_ble_eq_true rfl)⟩ hl.1 (Nat.le_of_ble_eq_true rfl) ⟨Nat.zero_le _, Nat.zero_le _⟩ dX6_ifEvent_45 (fun H locs hP hS => ?_)
    change W p l e _ s m _ below meth c H locs 0 0 _ (F0 m 48 ls [])
    refine lv_aload_n hx hb dX6_ifEvent_48 rfl (lv_at hl 1 rfl) ?_
    refine xm_get (V := (xv E a)) (T := TX6) (v := .ref (a 8)) C hP 0 6 xi_6 rfl l_X6_47 rfl (Nat.le_of_ble_eq_true rfl) ((xe_0 E a) _) (Nat.le_of_ble_eq_true rfl) rfl dX6_ifEvent_49 ?_
    refine lv_aload_n hx hb dX6_ifEvent_52 rfl (lv_at hl 1 rfl) ?_
    refine xm_get (V := (xv E a)) (T := TX6) (v := .ref (a 18)) C hP 0 0 xi_6 rfl l_X6_10 rfl (Nat.le_of_ble_eq_true rfl) ((xe_0 E a) _) (Nat.le_of_ble_eq_true rfl) rfl dX6_ifEvent_53 ?_
    obtain ⟨r12, M11, e13, h⟩ := xm_b2_s h
    refine xm_callVN C hP hS [.ref (a 18)] [] (c_X3_runAll hD xs_18 n M8  r12 M11 e13) k_X6_144 (xm_recv C hP 8 rfl (Nat.le_of_ble_eq_true rfl) ((xe_8 E a) _)) rfl rfl ⟨(Nat.le_of_ble_eq_true rfl), (Nat.le_of_ble_eq_true rfl)⟩ hl.1 (Nat.le_of_ble_eq_true rfl) ⟨Nat.zero_le _, Nat.zero_le _⟩ dX6_ifEvent_56 (fun H locs hP hS => ?_)
    change W p l e _ s m _ below meth c H locs 0 0 _ (F0 m 59 ls [.int r12])
    obtain ⟨rfl, rfl⟩ := xm_pr h
    exact xm_retI C hP hS dX6_ifEvent_59
  · rw [if_neg c4] at h
    refine lv_iload hx hb dX6_ifEvent_14 (lv_at hl 0 rfl) ?_
    obtain ⟨rfl, rfl⟩ := xm_pr h
    exact xm_retI C hP hS dX6_ifEvent_16
theorem c_X6_ifEvent {l : Launch} {E : xm_E} {a : Nat → Nat} (hD : xm_D (xv E a)) (n : Nat) (M : xm_M) (x1 : Int32) (x2 : Int32) (x3 : Int32) (r : Int32) (M' : xm_M) (h : f_X6_ifEvent n M x1 x2 x3 = some (r, M')) : xm_Met l E (xv E a) yX6_ifEvent cX6_ifEvent 5 (some .int) 8 197 [.ref (a 0), .int x1, .int x2, .int x3] M M' (some r) :=
  xm_met (by decide +kernel) rfl (Nat.le_of_ble_eq_true rfl) hD (fun p e s m below meth c C hP ls hl => t_X6_ifEvent_0 C  n M x1 x2 x3 r M' h _ _ _ hP va_S.rf hl)
def f_X6_count (n : Nat) (M : xm_M) (x1 : Int32) : Option (Int32 × xm_M) := if x1 = 0 then some (M 18 0, M) else if x1 = 1 then some (M 18 6, M) else if x1 = 2 then xm_b1 (f_X3_begin n M 18) (fun M4 => xm_b2 (f_X3_runAll n M4 18) (fun r8 M7 => some (r8, M7))) else if x1 = 3 then some (M 18 4, M) else if x1 = 4 then xm_b2 (f_X4_watermark n M 18) (fun r13 M12 => some (r13, M12)) else if x1 = 5 then some (M 18 5, M) else if x1 = 6 then xm_b1 (f_X3_begin n M 18) (fun M17 => xm_b2 (f_X3_runAll n M17 18) (fun r21 M20 => xm_b2 (f_X3_placesWithoutShare n M20) (fun r24 M23 => some (r24, M23)))) else if x1 = 7 then some (M 4 2, M) else if x1 = 8 then some (M 6 1, M) else some ((-2), M)
set_option maxHeartbeats 4000000 in
set_option maxRecDepth 100000 in
theorem t_X6_count_0 {l : Launch} {p : Program} {e : Env} {s : State} {m : MethodId} {args : Array Value} {below : List Frame} {meth : Method} {c : Code} {E : xm_E} {a : Nat → Nat} (C : xm_C E (xv E a) p s m args meth c RX6 cX6_count 2 (some .int)) (n : Nat) (M : xm_M) (x1 : Int32) (r : Int32) (M' : xm_M) : f_X6_count n M x1 = some (r, M') → ∀ (H : Heap) (locs : List Loc) (ls : Array Slot), va_P E.1 vwCl (xm_w (xv E a) M) H → va_S (xm_A (xv E a) s.heap.size) s.heap H locs → lv_has ls 2 [(0, .ref (a 0)), (1, .int x1)] → W p l e { frames := 8, cells := 0, slots := 0, locals := 197 } s m args below meth c H locs 0 0 (MQ below (xm_Q E (xv E a) M' s.heap.size (some r)) args s 0 0 (xm_A (xv E a) s.heap.size)) (F0 m 0 ls []) := by
  have C9 := C
  obtain ⟨hx, hb, hml, hown, hts, hr, hlk, hD, hK, hS9⟩ := C9
  intro h H locs ls hP hS hl
  unfold f_X6_count at h
  refine lv_iload_n hx hb dX6_count_0 rfl (lv_at hl 1 rfl) ?_
  by_cases c1 : x1 = 0
  · rw [if_pos c1] at h
    refine lv_tableIn (tgt := 52) hx hb dX6_count_1 (by rw [c1]; decide) (by rw [c1]; decide) (by rw [c1]; rfl) (by decide) ?_
    refine lv_aload_n hx hb dX6_count_52 rfl (lv_at hl 0 rfl) ?_
    refine xm_get (V := (xv E a)) (T := TX6) (v := .ref (a 18)) C hP 0 0 xi_6 rfl l_X6_10 rfl (Nat.le_of_ble_eq_true rfl) ((xe_0 E a) _) (Nat.le_of_ble_eq_true rfl) rfl dX6_count_53 ?_
    refine xm_getN (V := (xv E a)) (T := TX4) (v := .int (M 18 0)) C hP 18 0 xi_4 rfl l_X6_55 rfl (xs_lt xs_18 0 (by omega)) ((xs_0 xs_18 E a) _) (Nat.le_of_ble_eq_true rfl) rfl dX6_count_56 ?_
    obtain ⟨rfl, rfl⟩ := xm_pr h
    exact xm_retI C hP hS dX6_count_59
  · rw [if_neg c1] at h
    by_cases c2 : x1 = 1
    · rw [if_pos c2] at h
      refine lv_tableIn (tgt := 60) hx hb dX6_count_1 (by rw [c2]; decide) (by rw [c2]; decide) (by rw [c2]; rfl) (by decide) ?_
      refine lv_aload_n hx hb dX6_count_60 rfl (lv_at hl 0 rfl) ?_
      refine xm_get (V := (xv E a)) (T := TX6) (v := .ref (a 18)) C hP 0 0 xi_6 rfl l_X6_10 rfl (Nat.le_of_ble_eq_true rfl) ((xe_0 E a) _) (Nat.le_of_ble_eq_true rfl) rfl dX6_count_61 ?_
      refine xm_getN (V := (xv E a)) (T := TX4) (v := .int (M 18 6)) C hP 18 6 xi_4 rfl l_X6_85 rfl (xs_lt xs_18 0 (by omega)) ((xs_0 xs_18 E a) _) (Nat.le_of_ble_eq_true rfl) rfl dX6_count_64 ?_
      obtain ⟨rfl, rfl⟩ := xm_pr h
      exact xm_retI C hP hS dX6_count_67
    · rw [if_neg c2] at h
      by_cases c3 : x1 = 2
      · rw [if_pos c3] at h
        refine lv_tableIn (tgt := 68) hx hb dX6_count_1 (by rw [c3]; decide) (by rw [c3]; decide) (by rw [c3]; rfl) (by decide) ?_
        refine lv_aload_n hx hb dX6_count_68 rfl (lv_at hl 0 rfl) ?_
        refine xm_get (V := (xv E a)) (T := TX6) (v := .ref (a 8)) C hP 0 6 xi_6 rfl l_X6_47 rfl (Nat.le_of_ble_eq_true rfl) ((xe_0 E a) _) (Nat.le_of_ble_eq_true rfl) rfl dX6_count_69 ?_
        refine lv_aload_n hx hb dX6_count_72 rfl (lv_at hl 0 rfl) ?_
        refine xm_get (V := (xv E a)) (T := TX6) (v := .ref (a 18)) C hP 0 0 xi_6 rfl l_X6_10 rfl (Nat.le_of_ble_eq_true rfl) ((xe_0 E a) _) (Nat.le_of_ble_eq_true rfl) rfl dX6_count_73 ?_
        obtain ⟨M4, e6, h⟩ := xm_b1_s h
        refine xm_callVN C hP hS [.ref (a 18)] [] (c_X3_begin hD xs_18 n M  M4 e6) k_X6_132 (xm_recv C hP 8 rfl (Nat.le_of_ble_eq_true rfl) ((xe_8 E a) _)) rfl rfl ⟨(Nat.le_of_ble_eq_true rfl), (Nat.le_of_ble_eq_true rfl)⟩ hl.1 (Nat.le_of_ble_eq_true rfl) ⟨Nat.zero_le _, Nat.zero_le _⟩ dX6_count_76 (fun H locs hP hS => ?_)
        change W p l e _ s m _ below meth c H locs 0 0 _ (F0 m 79 ls [])
        refine lv_aload_n hx hb dX6_count_79 rfl (lv_at hl 0 rfl) ?_
        refine xm_get (V := (xv E a)) (T := TX6) (v := .ref (a 8)) C hP 0 6 xi_6 rfl l_X6_47 rfl (Nat.le_of_ble_eq_true rfl) ((xe_0 E a) _) (Nat.le_of_ble_eq_true rfl) rfl dX6_count_80 ?_
        refine lv_aload_n hx hb dX6_count_83 rfl (lv_at hl 0 rfl) ?_
        refine xm_get (V := (xv E a)) (T := TX6) (v := .ref (a 18)) C hP 0 0 xi_6 rfl l_X6_10 rfl (Nat.le_of_ble_eq_true rfl) ((xe_0 E a) _) (Nat.le_of_ble_eq_true rfl) rfl dX6_count_84 ?_
        obtain ⟨r8, M7, e9, h⟩ := xm_b2_s h
        refine xm_callVN C hP hS [.ref (a 18)] [] (c_X3_runAll hD xs_18 n M4  r8 M7 e9) k_X6_144 (xm_recv C hP 8 rfl (Nat.le_of_ble_eq_true rfl) ((xe_8 E a) _)) rfl rfl ⟨(Nat.le_of_ble_eq_true rfl), (Nat.le_of_ble_eq_true rfl)⟩ hl.1 (Nat.le_of_ble_eq_true rfl) ⟨Nat.zero_le _, Nat.zero_le _⟩ dX6_count_87 (fun H locs hP hS => ?_)
        change W p l e _ s m _ below meth c H locs 0 0 _ (F0 m 90 ls [.int r8])
        obtain ⟨rfl, rfl⟩ := xm_pr h
        exact xm_retI C hP hS dX6_count_90
      · rw [if_neg c3] at h
        by_cases c10 : x1 = 3
        · rw [if_pos c10] at h
          refine lv_tableIn (tgt := 91) hx hb dX6_count_1 (by rw [c10]; decide) (by rw [c10]; decide) (by rw [c10]; rfl) (by decide) ?_
          refine lv_aload_n hx hb dX6_count_91 rfl (lv_at hl 0 rfl) ?_
          refine xm_get (V := (xv E a)) (T := TX6) (v := .ref (a 18)) C hP 0 0 xi_6 rfl l_X6_10 rfl (Nat.le_of_ble_eq_true rfl) ((xe_0 E a) _) (Nat.le_of_ble_eq_true rfl) rfl dX6_count_92 ?_
          refine xm_getN (V := (xv E a)) (T := TX4) (v := .int (M 18 4)) C hP 18 4 xi_4 rfl l_X6_192 rfl (xs_lt xs_18 0 (by omega)) ((xs_0 xs_18 E a) _) (Nat.le_of_ble_eq_true rfl) rfl dX6_count_95 ?_
          obtain ⟨rfl, rfl⟩ := xm_pr h
          exact xm_retI C hP hS dX6_count_98
        · rw [if_neg c10] at h
          by_cases c11 : x1 = 4
          · rw [if_pos c11] at h
            refine lv_tableIn (tgt := 99) hx hb dX6_count_1 (by rw [c11]; decide) (by rw [c11]; decide) (by rw [c11]; rfl) (by decide) ?_
            refine lv_aload_n hx hb dX6_count_99 rfl (lv_at hl 0 rfl) ?_
            refine xm_get (V := (xv E a)) (T := TX6) (v := .ref (a 18)) C hP 0 0 xi_6 rfl l_X6_10 rfl (Nat.le_of_ble_eq_true rfl) ((xe_0 E a) _) (Nat.le_of_ble_eq_true rfl) rfl dX6_count_100 ?_
            obtain ⟨r13, M12, e14, h⟩ := xm_b2_s h
            refine xm_callVN C hP hS [] [] (c_X4_watermark hD xs_18 n M  r13 M12 e14) k_X6_195 (xm_recv C hP 18 rfl (xs_lt xs_18 0 (by omega)) ((xs_0 xs_18 E a) _)) rfl rfl ⟨(Nat.le_of_ble_eq_true rfl), (Nat.le_of_ble_eq_true rfl)⟩ hl.1 (Nat.le_of_ble_eq_true rfl) ⟨Nat.zero_le _, Nat.zero_le _⟩ dX6_count_103 (fun H locs hP hS => ?_)
            change W p l e _ s m _ below meth c H locs 0 0 _ (F0 m 106 ls [.int r13])
            obtain ⟨rfl, rfl⟩ := xm_pr h
            exact xm_retI C hP hS dX6_count_106
          · rw [if_neg c11] at h
            by_cases c15 : x1 = 5
            · rw [if_pos c15] at h
              refine lv_tableIn (tgt := 107) hx hb dX6_count_1 (by rw [c15]; decide) (by rw [c15]; decide) (by rw [c15]; rfl) (by decide) ?_
              refine lv_aload_n hx hb dX6_count_107 rfl (lv_at hl 0 rfl) ?_
              refine xm_get (V := (xv E a)) (T := TX6) (v := .ref (a 18)) C hP 0 0 xi_6 rfl l_X6_10 rfl (Nat.le_of_ble_eq_true rfl) ((xe_0 E a) _) (Nat.le_of_ble_eq_true rfl) rfl dX6_count_108 ?_
              refine xm_getN (V := (xv E a)) (T := TX4) (v := .int (M 18 5)) C hP 18 5 xi_4 rfl l_X6_78 rfl (xs_lt xs_18 0 (by omega)) ((xs_0 xs_18 E a) _) (Nat.le_of_ble_eq_true rfl) rfl dX6_count_111 ?_
              obtain ⟨rfl, rfl⟩ := xm_pr h
              exact xm_retI C hP hS dX6_count_114
            · rw [if_neg c15] at h
              by_cases c16 : x1 = 6
              · rw [if_pos c16] at h
                refine lv_tableIn (tgt := 115) hx hb dX6_count_1 (by rw [c16]; decide) (by rw [c16]; decide) (by rw [c16]; rfl) (by decide) ?_
                refine lv_aload_n hx hb dX6_count_115 rfl (lv_at hl 0 rfl) ?_
                refine xm_get (V := (xv E a)) (T := TX6) (v := .ref (a 8)) C hP 0 6 xi_6 rfl l_X6_47 rfl (Nat.le_of_ble_eq_true rfl) ((xe_0 E a) _) (Nat.le_of_ble_eq_true rfl) rfl dX6_count_116 ?_
                refine lv_aload_n hx hb dX6_count_119 rfl (lv_at hl 0 rfl) ?_
                refine xm_get (V := (xv E a)) (T := TX6) (v := .ref (a 18)) C hP 0 0 xi_6 rfl l_X6_10 rfl (Nat.le_of_ble_eq_true rfl) ((xe_0 E a) _) (Nat.le_of_ble_eq_true rfl) rfl dX6_count_120 ?_
                obtain ⟨M17, e19, h⟩ := xm_b1_s h
                refine xm_callVN C hP hS [.ref (a 18)] [] (c_X3_begin hD xs_18 n M  M17 e19) k_X6_132 (xm_recv C hP 8 rfl (Nat.le_of_ble_eq_true rfl) ((xe_8 E a) _)) rfl rfl ⟨(Nat.le_of_ble_eq_true rfl), (Nat.le_of_ble_eq_true rfl)⟩ hl.1 (Nat.le_of_ble_eq_true rfl) ⟨Nat.zero_le _, Nat.zero_le _⟩ dX6_count_123 (fun H locs hP hS => ?_)
                change W p l e _ s m _ below meth c H locs 0 0 _ (F0 m 126 ls [])
                refine lv_aload_n hx hb dX6_count_126 rfl (lv_at hl 0 rfl) ?_
                refine xm_get (V := (xv E a)) (T := TX6) (v := .ref (a 8)) C hP 0 6 xi_6 rfl l_X6_47 rfl (Nat.le_of_ble_eq_true rfl) ((xe_0 E a) _) (Nat.le_of_ble_eq_true rfl) rfl dX6_count_127 ?_
                refine lv_aload_n hx hb dX6_count_130 rfl (lv_at hl 0 rfl) ?_
                refine xm_get (V := (xv E a)) (T := TX6) (v := .ref (a 18)) C hP 0 0 xi_6 rfl l_X6_10 rfl (Nat.le_of_ble_eq_true rfl) ((xe_0 E a) _) (Nat.le_of_ble_eq_true rfl) rfl dX6_count_131 ?_
                obtain ⟨r21, M20, e22, h⟩ := xm_b2_s h
                refine xm_callVN C hP hS [.ref (a 18)] [] (c_X3_runAll hD xs_18 n M17  r21 M20 e22) k_X6_144 (xm_recv C hP 8 rfl (Nat.le_of_ble_eq_true rfl) ((xe_8 E a) _)) rfl rfl ⟨(Nat.le_of_ble_eq_true rfl), (Nat.le_of_ble_eq_true rfl)⟩ hl.1 (Nat.le_of_ble_eq_true rfl) ⟨Nat.zero_le _, Nat.zero_le _⟩ dX6_count_134 (fun H locs hP hS => ?_)
                change W p l e _ s m _ below meth c H locs 0 0 _ (F0 m 137 ls [.int r21])
                refine lv_pop hx hb dX6_count_137 rfl ?_
                refine lv_aload_n hx hb dX6_count_138 rfl (lv_at hl 0 rfl) ?_
                refine xm_get (V := (xv E a)) (T := TX6) (v := .ref (a 8)) C hP 0 6 xi_6 rfl l_X6_47 rfl (Nat.le_of_ble_eq_true rfl) ((xe_0 E a) _) (Nat.le_of_ble_eq_true rfl) rfl dX6_count_139 ?_
                obtain ⟨r24, M23, e25, h⟩ := xm_b2_s h
                refine xm_callVN C hP hS [] [] (c_X3_placesWithoutShare hD  n M20  r24 M23 e25) k_X6_199 (xm_recv C hP 8 rfl (Nat.le_of_ble_eq_true rfl) ((xe_8 E a) _)) rfl rfl ⟨(Nat.le_of_ble_eq_true rfl), (Nat.le_of_ble_eq_true rfl)⟩ hl.1 (Nat.le_of_ble_eq_true rfl) ⟨Nat.zero_le _, Nat.zero_le _⟩ dX6_count_142 (fun H locs hP hS => ?_)
                change W p l e _ s m _ below meth c H locs 0 0 _ (F0 m 145 ls [.int r24])
                obtain ⟨rfl, rfl⟩ := xm_pr h
                exact xm_retI C hP hS dX6_count_145
              · rw [if_neg c16] at h
                by_cases c26 : x1 = 7
                · rw [if_pos c26] at h
                  refine lv_tableIn (tgt := 146) hx hb dX6_count_1 (by rw [c26]; decide) (by rw [c26]; decide) (by rw [c26]; rfl) (by decide) ?_
                  refine lv_aload_n hx hb dX6_count_146 rfl (lv_at hl 0 rfl) ?_
                  refine xm_get (V := (xv E a)) (T := TX6) (v := .ref (a 4)) C hP 0 3 xi_6 rfl l_X6_26 rfl (Nat.le_of_ble_eq_true rfl) ((xe_0 E a) _) (Nat.le_of_ble_eq_true rfl) rfl dX6_count_147 ?_
                  refine xm_getN (V := (xv E a)) (T := TX0) (v := .int (M 4 2)) C hP 4 2 xi_0 rfl l_X6_112 rfl (Nat.le_of_ble_eq_true rfl) ((xe_4 E a) _) (Nat.le_of_ble_eq_true rfl) rfl dX6_count_150 ?_
                  obtain ⟨rfl, rfl⟩ := xm_pr h
                  exact xm_retI C hP hS dX6_count_153
                · rw [if_neg c26] at h
                  by_cases c27 : x1 = 8
                  · rw [if_pos c27] at h
                    refine lv_tableIn (tgt := 154) hx hb dX6_count_1 (by rw [c27]; decide) (by rw [c27]; decide) (by rw [c27]; rfl) (by decide) ?_
                    refine lv_aload_n hx hb dX6_count_154 rfl (lv_at hl 0 rfl) ?_
                    refine xm_get (V := (xv E a)) (T := TX6) (v := .ref (a 6)) C hP 0 4 xi_6 rfl l_X6_33 rfl (Nat.le_of_ble_eq_true rfl) ((xe_0 E a) _) (Nat.le_of_ble_eq_true rfl) rfl dX6_count_155 ?_
                    refine xm_getN (V := (xv E a)) (T := TX5) (v := .int (M 6 1)) C hP 6 1 xi_5 rfl l_X6_109 rfl (Nat.le_of_ble_eq_true rfl) ((xe_6 E a) _) (Nat.le_of_ble_eq_true rfl) rfl dX6_count_158 ?_
                    obtain ⟨rfl, rfl⟩ := xm_pr h
                    exact xm_retI C hP hS dX6_count_161
                  · rw [if_neg c27] at h
                    refine lv_tableOut (tgt := 162) hx hb dX6_count_1 (xm_sw9 c1 c2 c3 c10 c11 c15 c16 c26 c27) (by decide) ?_
                    refine lv_bipush (v := (-2)) hx hb dX6_count_162 (by decide) ?_
                    obtain ⟨rfl, rfl⟩ := xm_pr h
                    exact xm_retI C hP hS dX6_count_164
theorem c_X6_count {l : Launch} {E : xm_E} {a : Nat → Nat} (hD : xm_D (xv E a)) (n : Nat) (M : xm_M) (x1 : Int32) (r : Int32) (M' : xm_M) (h : f_X6_count n M x1 = some (r, M')) : xm_Met l E (xv E a) yX6_count cX6_count 2 (some .int) 8 197 [.ref (a 0), .int x1] M M' (some r) :=
  xm_met (by decide +kernel) rfl (Nat.le_of_ble_eq_true rfl) hD (fun p e s m below meth c C hP ls hl => t_X6_count_0 C  n M x1 r M' h _ _ _ hP va_S.rf hl)
