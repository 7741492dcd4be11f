set_option maxRecDepth 100000 in
theorem km_X8_3 : Cond.methodLink RX8 3 objectInit ∈ tb := tb_in (i := 100) (by decide +kernel) (by decide +kernel)
set_option maxRecDepth 100000 in
theorem kcl_X8_9 : Cond.classLink RX8 9 RX0 ∈ tb := tb_in (i := 103) (by decide +kernel) (by decide +kernel)
set_option maxRecDepth 100000 in
theorem km_X8_11 : Cond.methodLinkNest RX8 11 yX0_init "MergedOutline" ∈ tb := tb_in (i := 105) (by decide +kernel) (by decide +kernel)
set_option maxRecDepth 100000 in
theorem kf_X8_12 : Cond.fieldLink RX8 12 (TX8 0).1 (TX8 0).2.1 (TX8 0).2.2.1 ∈ tb := tb_in (i := 287) (by decide +kernel) (by decide +kernel)
set_option maxRecDepth 100000 in
theorem kf_X8_16 : Cond.fieldLink RX8 16 (TX8 1).1 (TX8 1).2.1 (TX8 1).2.2.1 ∈ tb := tb_in (i := 288) (by decide +kernel) (by decide +kernel)
set_option maxRecDepth 100000 in
theorem kcl_X8_19 : Cond.classLink RX8 19 RX1 ∈ tb := tb_in (i := 149) (by decide +kernel) (by decide +kernel)
set_option maxRecDepth 100000 in
theorem km_X8_21 : Cond.methodLink RX8 21 yX1_init ∈ tb := tb_in (i := 151) (by decide +kernel) (by decide +kernel)
set_option maxRecDepth 100000 in
theorem kf_X8_22 : Cond.fieldLink RX8 22 (TX8 2).1 (TX8 2).2.1 (TX8 2).2.2.1 ∈ tb := tb_in (i := 289) (by decide +kernel) (by decide +kernel)
set_option maxRecDepth 100000 in
theorem kcl_X8_26 : Cond.classLink RX8 26 RX3 ∈ tb := tb_in (i := 169) (by decide +kernel) (by decide +kernel)
set_option maxRecDepth 100000 in
theorem km_X8_28 : Cond.methodLinkNest RX8 28 yX3_init "MergedOutline" ∈ tb := tb_in (i := 171) (by decide +kernel) (by decide +kernel)
set_option maxRecDepth 100000 in
theorem kf_X8_29 : Cond.fieldLink RX8 29 (TX8 3).1 (TX8 3).2.1 (TX8 3).2.2.1 ∈ tb := tb_in (i := 290) (by decide +kernel) (by decide +kernel)
set_option maxRecDepth 100000 in
theorem kcl_X8_33 : Cond.classLink RX8 33 RX5 ∈ tb := tb_in (i := 225) (by decide +kernel) (by decide +kernel)
set_option maxRecDepth 100000 in
theorem km_X8_35 : Cond.methodLinkNest RX8 35 yX5_init "MergedOutline" ∈ tb := tb_in (i := 227) (by decide +kernel) (by decide +kernel)
set_option maxRecDepth 100000 in
theorem kf_X8_36 : Cond.fieldLink RX8 36 (TX8 4).1 (TX8 4).2.1 (TX8 4).2.2.1 ∈ tb := tb_in (i := 291) (by decide +kernel) (by decide +kernel)
set_option maxRecDepth 100000 in
theorem kcl_X8_40 : Cond.classLink RX8 40 RX2 ∈ tb := tb_in (i := 238) (by decide +kernel) (by decide +kernel)
set_option maxRecDepth 100000 in
theorem km_X8_42 : Cond.methodLinkNest RX8 42 yX2_init "MergedOutline" ∈ tb := tb_in (i := 240) (by decide +kernel) (by decide +kernel)
set_option maxRecDepth 100000 in
theorem kf_X8_43 : Cond.fieldLink RX8 43 (TX8 5).1 (TX8 5).2.1 (TX8 5).2.2.1 ∈ tb := tb_in (i := 292) (by decide +kernel) (by decide +kernel)
set_option maxRecDepth 100000 in
theorem kcl_X8_47 : Cond.classLink RX8 47 RX7 ∈ tb := tb_in (i := 254) (by decide +kernel) (by decide +kernel)
set_option maxRecDepth 100000 in
theorem km_X8_49 : Cond.methodLinkNest RX8 49 yX7_init "MergedOutline" ∈ tb := tb_in (i := 256) (by decide +kernel) (by decide +kernel)
set_option maxRecDepth 100000 in
theorem kf_X8_50 : Cond.fieldLink RX8 50 (TX8 6).1 (TX8 6).2.1 (TX8 6).2.2.1 ∈ tb := tb_in (i := 293) (by decide +kernel) (by decide +kernel)
set_option maxRecDepth 100000 in
theorem kf_X8_54 : Cond.fieldLink RX8 54 (TX8 7).1 (TX8 7).2.1 (TX8 7).2.2.1 ∈ tb := tb_in (i := 294) (by decide +kernel) (by decide +kernel)
set_option maxRecDepth 100000 in
theorem kf_X8_58 : Cond.fieldLink RX8 58 (TX8 8).1 (TX8 8).2.1 (TX8 8).2.2.1 ∈ tb := tb_in (i := 295) (by decide +kernel) (by decide +kernel)
set_option maxRecDepth 100000 in
theorem kf_X8_61 : Cond.fieldLink RX8 61 (TX8 9).1 (TX8 9).2.1 (TX8 9).2.2.1 ∈ tb := tb_in (i := 296) (by decide +kernel) (by decide +kernel)
set_option maxRecDepth 100000 in
theorem km_X8_64 : Cond.methodLink RX8 64 yX0_copyFrom ∈ tb := tb_in (i := 322) (by decide +kernel) (by decide +kernel)
set_option maxRecDepth 100000 in
theorem km_X8_68 : Cond.methodLink RX8 68 yX0_add ∈ tb := tb_in (i := 333) (by decide +kernel) (by decide +kernel)
set_option maxRecDepth 100000 in
theorem km_X8_72 : Cond.methodLink RX8 72 yX8_settled ∈ tb := tb_in (i := 379) (by decide +kernel) (by decide +kernel)
set_option maxRecDepth 100000 in
theorem km_X8_76 : Cond.methodLink RX8 76 yX0_move ∈ tb := tb_in (i := 403) (by decide +kernel) (by decide +kernel)
set_option maxRecDepth 100000 in
theorem km_X8_80 : Cond.methodLink RX8 80 yX0_retell ∈ tb := tb_in (i := 421) (by decide +kernel) (by decide +kernel)
set_option maxRecDepth 100000 in
theorem km_X8_83 : Cond.methodLink RX8 83 yX0_delete ∈ tb := tb_in (i := 433) (by decide +kernel) (by decide +kernel)
set_option maxRecDepth 100000 in
theorem km_X8_87 : Cond.methodLink RX8 87 yX0_fork ∈ tb := tb_in (i := 454) (by decide +kernel) (by decide +kernel)
set_option maxRecDepth 100000 in
theorem km_X8_91 : Cond.methodLink RX8 91 yX0_prefer ∈ tb := tb_in (i := 466) (by decide +kernel) (by decide +kernel)
set_option maxRecDepth 100000 in
theorem km_X8_94 : Cond.methodLink RX8 94 yX8_outline ∈ tb := tb_in (i := 475) (by decide +kernel) (by decide +kernel)
set_option maxRecDepth 100000 in
theorem km_X8_98 : Cond.methodLink RX8 98 yX0_adopt ∈ tb := tb_in (i := 583) (by decide +kernel) (by decide +kernel)
set_option maxRecDepth 100000 in
theorem km_X8_102 : Cond.methodLink RX8 102 yX8_isAnyOutline ∈ tb := tb_in (i := 592) (by decide +kernel) (by decide +kernel)
set_option maxRecDepth 100000 in
theorem km_X8_106 : Cond.methodLink RX8 106 yX8_isNumber ∈ tb := tb_in (i := 596) (by decide +kernel) (by decide +kernel)
set_option maxRecDepth 100000 in
theorem km_X8_109 : Cond.methodLink RX8 109 yX8_refuse ∈ tb := tb_in (i := 383) (by decide +kernel) (by decide +kernel)
set_option maxRecDepth 100000 in
theorem km_X8_112 : Cond.methodLink RX8 112 yX4_holds ∈ tb := tb_in (i := 597) (by decide +kernel) (by decide +kernel)
set_option maxRecDepth 100000 in
theorem km_X8_117 : Cond.methodLink RX8 117 yX4_childCount ∈ tb := tb_in (i := 602) (by decide +kernel) (by decide +kernel)
set_option maxRecDepth 100000 in
theorem km_X8_120 : Cond.methodLink RX8 120 yX4_countBelow ∈ tb := tb_in (i := 603) (by decide +kernel) (by decide +kernel)
set_option maxRecDepth 100000 in
theorem km_X8_123 : Cond.methodLink RX8 123 yX4_trait ∈ tb := tb_in (i := 607) (by decide +kernel) (by decide +kernel)
set_option maxRecDepth 100000 in
theorem km_X8_126 : Cond.methodLink RX8 126 yX4_following ∈ tb := tb_in (i := 612) (by decide +kernel) (by decide +kernel)
set_option maxRecDepth 100000 in
theorem km_X8_129 : Cond.methodLink RX8 129 yX4_count ∈ tb := tb_in (i := 624) (by decide +kernel) (by decide +kernel)
set_option maxRecDepth 100000 in
theorem km_X8_132 : Cond.methodLink RX8 132 yX4_depth ∈ tb := tb_in (i := 625) (by decide +kernel) (by decide +kernel)
set_option maxRecDepth 100000 in
theorem km_X8_135 : Cond.methodLink RX8 135 yX4_countShared ∈ tb := tb_in (i := 638) (by decide +kernel) (by decide +kernel)
set_option maxRecDepth 100000 in
theorem km_X8_138 : Cond.methodLink RX8 138 yX8_isRowAsked ∈ tb := tb_in (i := 650) (by decide +kernel) (by decide +kernel)
set_option maxRecDepth 100000 in
theorem km_X8_142 : Cond.methodLink RX8 142 yX3_refresh ∈ tb := tb_in (i := 480) (by decide +kernel) (by decide +kernel)
set_option maxRecDepth 100000 in
theorem kf_X8_145 : Cond.fieldLinkNest RX8 145 (TX3 2).1 (TX3 2).2.1 (TX3 2).2.2.1 "MergedOutline" ∈ tb := tb_in (i := 206) (by decide +kernel) (by decide +kernel)
set_option maxRecDepth 100000 in
theorem km_X8_149 : Cond.methodLink RX8 149 yX6_answer ∈ tb := tb_in (i := 653) (by decide +kernel) (by decide +kernel)
set_option maxRecDepth 100000 in
theorem km_X8_154 : Cond.methodLink RX8 154 yX8_isSide ∈ tb := tb_in (i := 340) (by decide +kernel) (by decide +kernel)
set_option maxRecDepth 100000 in
theorem km_X8_157 : Cond.methodLink RX8 157 yX0_outline ∈ tb := tb_in (i := 479) (by decide +kernel) (by decide +kernel)
set_option maxRecDepth 100000 in
theorem km_X8_158 : Cond.methodLink RX8 158 yX5_write ∈ tb := tb_in (i := 661) (by decide +kernel) (by decide +kernel)
set_option maxRecDepth 100000 in
theorem kf_X8_162 : Cond.fieldLinkNest RX8 162 (TX5 0).1 (TX5 0).2.1 (TX5 0).2.2.1 "MergedOutline" ∈ tb := tb_in (i := 234) (by decide +kernel) (by decide +kernel)
set_option maxRecDepth 100000 in
theorem km_X8_165 : Cond.methodLink RX8 165 yX2_match ∈ tb := tb_in (i := 677) (by decide +kernel) (by decide +kernel)
set_option maxRecDepth 100000 in
theorem km_X8_168 : Cond.methodLink RX8 168 yX2_partnerOf ∈ tb := tb_in (i := 690) (by decide +kernel) (by decide +kernel)
set_option maxRecDepth 100000 in
theorem km_X8_171 : Cond.methodLink RX8 171 yX8_tellDesk ∈ tb := tb_in (i := 699) (by decide +kernel) (by decide +kernel)
set_option maxRecDepth 100000 in
theorem km_X8_174 : Cond.methodLink RX8 174 yX7_append ∈ tb := tb_in (i := 711) (by decide +kernel) (by decide +kernel)
set_option maxRecDepth 100000 in
theorem kf_X8_177 : Cond.fieldLinkNest RX8 177 (TX7 2).1 (TX7 2).2.1 (TX7 2).2.2.1 "MergedOutline" ∈ tb := tb_in (i := 263) (by decide +kernel) (by decide +kernel)
set_option maxRecDepth 100000 in
theorem km_X8_180 : Cond.methodLink RX8 180 yX7_wipe ∈ tb := tb_in (i := 719) (by decide +kernel) (by decide +kernel)
set_option maxRecDepth 100000 in
theorem km_X8_183 : Cond.methodLink RX8 183 yX7_read ∈ tb := tb_in (i := 727) (by decide +kernel) (by decide +kernel)
set_option maxRecDepth 100000 in
theorem kf_X8_186 : Cond.fieldLinkNest RX8 186 (TX7 3).1 (TX7 3).2.1 (TX7 3).2.2.1 "MergedOutline" ∈ tb := tb_in (i := 265) (by decide +kernel) (by decide +kernel)
set_option maxRecDepth 100000 in
theorem km_X8_189 : Cond.methodLink RX8 189 yX8_perform ∈ tb := tb_in (i := 761) (by decide +kernel) (by decide +kernel)
set_option maxRecDepth 100000 in
theorem kf_X8_192 : Cond.fieldLinkNest RX8 192 (TX1 2).1 (TX1 2).2.1 (TX1 2).2.2.1 "MergedOutline" ∈ tb := tb_in (i := 161) (by decide +kernel) (by decide +kernel)
set_option maxRecDepth 100000 in
theorem km_X8_194 : Cond.methodLink RX8 194 yX1_takeBack ∈ tb := tb_in (i := 770) (by decide +kernel) (by decide +kernel)
set_option maxRecDepth 100000 in
theorem kf_X8_197 : Cond.fieldLinkNest RX8 197 (TX3 5).1 (TX3 5).2.1 (TX3 5).2.2.1 "MergedOutline" ∈ tb := tb_in (i := 210) (by decide +kernel) (by decide +kernel)
set_option maxRecDepth 100000 in
theorem km_X8_201 : Cond.methodLink RX8 201 yX8_tellCount ∈ tb := tb_in (i := 778) (by decide +kernel) (by decide +kernel)
set_option maxRecDepth 100000 in
theorem kc_X8_204 : Cond.constantLong RX8 204 (1703) ∈ tb := tb_in (i := 786) (by decide +kernel) (by decide +kernel)
set_option maxRecDepth 100000 in
theorem km_X8_206 : Cond.methodLink RX8 206 yX8_mixed ∈ tb := tb_in (i := 787) (by decide +kernel) (by decide +kernel)
set_option maxRecDepth 100000 in
theorem km_X8_210 : Cond.methodLink RX8 210 yX8_mixedOutline ∈ tb := tb_in (i := 791) (by decide +kernel) (by decide +kernel)
set_option maxRecDepth 100000 in
theorem km_X8_214 : Cond.methodLink RX8 214 yX8_mixedConflicts ∈ tb := tb_in (i := 794) (by decide +kernel) (by decide +kernel)
set_option maxRecDepth 100000 in
theorem kf_X8_218 : Cond.fieldLinkNest RX8 218 (TX6 3).1 (TX6 3).2.1 (TX6 3).2.2.1 "MergedOutline" ∈ tb := tb_in (i := 192) (by decide +kernel) (by decide +kernel)
set_option maxRecDepth 100000 in
theorem km_X8_219 : Cond.methodLink RX8 219 yX1_keep ∈ tb := tb_in (i := 387) (by decide +kernel) (by decide +kernel)
set_option maxRecDepth 100000 in
theorem kf_X8_222 : Cond.fieldLinkNest RX8 222 (TX3 1).1 (TX3 1).2.1 (TX3 1).2.2.1 "MergedOutline" ∈ tb := tb_in (i := 204) (by decide +kernel) (by decide +kernel)
set_option maxRecDepth 100000 in
theorem km_X8_226 : Cond.methodLink RX8 226 yX7_cell ∈ tb := tb_in (i := 765) (by decide +kernel) (by decide +kernel)
set_option maxRecDepth 100000 in
theorem kf_X8_229 : Cond.fieldLinkNest RX8 229 (TX0 3).1 (TX0 3).2.1 (TX0 3).2.2.1 "MergedOutline" ∈ tb := tb_in (i := 135) (by decide +kernel) (by decide +kernel)
set_option maxRecDepth 100000 in
theorem kf_X8_232 : Cond.fieldLinkNest RX8 232 (TX0 4).1 (TX0 4).2.1 (TX0 4).2.2.1 "MergedOutline" ∈ tb := tb_in (i := 137) (by decide +kernel) (by decide +kernel)
set_option maxRecDepth 100000 in
theorem km_X8_235 : Cond.methodLink RX8 235 yX2_countStrangers ∈ tb := tb_in (i := 703) (by decide +kernel) (by decide +kernel)
set_option maxRecDepth 100000 in
theorem kc_X8_238 : Cond.constantLong RX8 238 (31) ∈ tb := tb_in (i := 790) (by decide +kernel) (by decide +kernel)
set_option maxRecDepth 100000 in
theorem km_X8_240 : Cond.methodLink RX8 240 yX8_isOwnOutline ∈ tb := tb_in (i := 595) (by decide +kernel) (by decide +kernel)
set_option maxRecDepth 100000 in
theorem km_X0_3 : Cond.methodLink RX0 3 objectInit ∈ tb := tb_in (i := 108) (by decide +kernel) (by decide +kernel)
set_option maxRecDepth 100000 in
theorem kcl_X0_9 : Cond.classLink RX0 9 RX4 ∈ tb := tb_in (i := 109) (by decide +kernel) (by decide +kernel)
set_option maxRecDepth 100000 in
theorem km_X0_11 : Cond.methodLink RX0 11 yX4_init ∈ tb := tb_in (i := 111) (by decide +kernel) (by decide +kernel)
set_option maxRecDepth 100000 in
theorem kf_X0_12 : Cond.fieldLink RX0 12 (TX0 0).1 (TX0 0).2.1 (TX0 0).2.2.1 ∈ tb := tb_in (i := 128) (by decide +kernel) (by decide +kernel)
set_option maxRecDepth 100000 in
theorem kf_X0_18 : Cond.fieldLink RX0 18 (TX0 1).1 (TX0 1).2.1 (TX0 1).2.2.1 ∈ tb := tb_in (i := 130) (by decide +kernel) (by decide +kernel)
set_option maxRecDepth 100000 in
theorem kf_X0_21 : Cond.fieldLink RX0 21 (TX0 2).1 (TX0 2).2.1 (TX0 2).2.2.1 ∈ tb := tb_in (i := 132) (by decide +kernel) (by decide +kernel)
set_option maxRecDepth 100000 in
theorem kf_X0_24 : Cond.fieldLink RX0 24 (TX0 3).1 (TX0 3).2.1 (TX0 3).2.2.1 ∈ tb := tb_in (i := 134) (by decide +kernel) (by decide +kernel)
set_option maxRecDepth 100000 in
theorem kf_X0_28 : Cond.fieldLink RX0 28 (TX0 4).1 (TX0 4).2.1 (TX0 4).2.2.1 ∈ tb := tb_in (i := 136) (by decide +kernel) (by decide +kernel)
set_option maxRecDepth 100000 in
theorem km_X0_31 : Cond.methodLink RX0 31 yX4_copyFrom ∈ tb := tb_in (i := 326) (by decide +kernel) (by decide +kernel)
set_option maxRecDepth 100000 in
theorem km_X0_35 : Cond.methodLinkNest RX0 35 yX8_isOwnOutline "MergedOutline" ∈ tb := tb_in (i := 337) (by decide +kernel) (by decide +kernel)
set_option maxRecDepth 100000 in
theorem km_X0_39 : Cond.methodLinkNest RX0 39 yX8_isValue "MergedOutline" ∈ tb := tb_in (i := 343) (by decide +kernel) (by decide +kernel)
set_option maxRecDepth 100000 in
theorem km_X0_42 : Cond.methodLink RX0 42 yX0_outline ∈ tb := tb_in (i := 346) (by decide +kernel) (by decide +kernel)
set_option maxRecDepth 100000 in
theorem km_X0_46 : Cond.methodLink RX0 46 yX4_holds ∈ tb := tb_in (i := 350) (by decide +kernel) (by decide +kernel)
set_option maxRecDepth 100000 in
theorem km_X0_49 : Cond.methodLink RX0 49 yX4_childCount ∈ tb := tb_in (i := 354) (by decide +kernel) (by decide +kernel)
set_option maxRecDepth 100000 in
theorem km_X0_53 : Cond.methodLink RX0 53 yX4_attach ∈ tb := tb_in (i := 362) (by decide +kernel) (by decide +kernel)
set_option maxRecDepth 100000 in
theorem km_X0_57 : Cond.methodLink RX0 57 yX4_put ∈ tb := tb_in (i := 378) (by decide +kernel) (by decide +kernel)
set_option maxRecDepth 100000 in
theorem km_X0_60 : Cond.methodLink RX0 60 yX4_isChild ∈ tb := tb_in (i := 407) (by decide +kernel) (by decide +kernel)
set_option maxRecDepth 100000 in
theorem km_X0_64 : Cond.methodLink RX0 64 yX4_isBelow ∈ tb := tb_in (i := 408) (by decide +kernel) (by decide +kernel)
set_option maxRecDepth 100000 in
theorem km_X0_67 : Cond.methodLink RX0 67 yX4_trait ∈ tb := tb_in (i := 412) (by decide +kernel) (by decide +kernel)
set_option maxRecDepth 100000 in
theorem km_X0_71 : Cond.methodLink RX0 71 yX4_detach ∈ tb := tb_in (i := 413) (by decide +kernel) (by decide +kernel)
set_option maxRecDepth 100000 in
theorem km_X0_75 : Cond.methodLink RX0 75 yX4_drop ∈ tb := tb_in (i := 437) (by decide +kernel) (by decide +kernel)
set_option maxRecDepth 100000 in
theorem km_X0_78 : Cond.methodLink RX0 78 yX4_count ∈ tb := tb_in (i := 458) (by decide +kernel) (by decide +kernel)
set_option maxRecDepth 100000 in
theorem km_X0_82 : Cond.methodLinkNest RX0 82 yX8_isSide "MergedOutline" ∈ tb := tb_in (i := 470) (by decide +kernel) (by decide +kernel)
set_option maxRecDepth 100000 in
theorem km_X0_85 : Cond.methodLink RX0 85 yX0_fork ∈ tb := tb_in (i := 587) (by decide +kernel) (by decide +kernel)
set_option maxRecDepth 100000 in
theorem km_X1_3 : Cond.methodLink RX1 3 objectInit ∈ tb := tb_in (i := 154) (by decide +kernel) (by decide +kernel)
set_option maxRecDepth 100000 in
theorem kcl_X1_9 : Cond.classLink RX1 9 RX0 ∈ tb := tb_in (i := 155) (by decide +kernel) (by decide +kernel)
set_option maxRecDepth 100000 in
theorem kf_X1_11 : Cond.fieldLink RX1 11 (TX1 0).1 (TX1 0).2.1 (TX1 0).2.2.1 ∈ tb := tb_in (i := 158) (by decide +kernel) (by decide +kernel)
set_option maxRecDepth 100000 in
theorem kf_X1_17 : Cond.fieldLink RX1 17 (TX1 1).1 (TX1 1).2.1 (TX1 1).2.2.1 ∈ tb := tb_in (i := 159) (by decide +kernel) (by decide +kernel)
set_option maxRecDepth 100000 in
theorem kf_X1_21 : Cond.fieldLink RX1 21 (TX1 2).1 (TX1 2).2.1 (TX1 2).2.2.1 ∈ tb := tb_in (i := 160) (by decide +kernel) (by decide +kernel)
set_option maxRecDepth 100000 in
theorem km_X1_24 : Cond.methodLinkNest RX1 24 yX0_init "MergedOutline" ∈ tb := tb_in (i := 157) (by decide +kernel) (by decide +kernel)
set_option maxRecDepth 100000 in
theorem km_X1_25 : Cond.methodLink RX1 25 yX1_slot ∈ tb := tb_in (i := 391) (by decide +kernel) (by decide +kernel)
set_option maxRecDepth 100000 in
theorem km_X1_29 : Cond.methodLink RX1 29 yX0_copyFrom ∈ tb := tb_in (i := 395) (by decide +kernel) (by decide +kernel)
set_option maxRecDepth 100000 in
theorem km_X1_33 : Cond.methodLink RX1 33 yJ9_min_7cf53 ∈ tb := tb_in (i := 396) (by decide +kernel) (by decide +kernel)
set_option maxRecDepth 100000 in
theorem km_X2_3 : Cond.methodLink RX2 3 objectInit ∈ tb := tb_in (i := 243) (by decide +kernel) (by decide +kernel)
set_option maxRecDepth 100000 in
theorem kf_X2_9 : Cond.fieldLink RX2 9 (TX2 0).1 (TX2 0).2.1 (TX2 0).2.2.1 ∈ tb := tb_in (i := 244) (by decide +kernel) (by decide +kernel)
set_option maxRecDepth 100000 in
theorem kf_X2_15 : Cond.fieldLink RX2 15 (TX2 1).1 (TX2 1).2.1 (TX2 1).2.2.1 ∈ tb := tb_in (i := 245) (by decide +kernel) (by decide +kernel)
set_option maxRecDepth 100000 in
theorem kf_X2_18 : Cond.fieldLink RX2 18 (TX2 2).1 (TX2 2).2.1 (TX2 2).2.2.1 ∈ tb := tb_in (i := 246) (by decide +kernel) (by decide +kernel)
set_option maxRecDepth 100000 in
theorem km_X2_22 : Cond.methodLink RX2 22 yX4_holds ∈ tb := tb_in (i := 681) (by decide +kernel) (by decide +kernel)
set_option maxRecDepth 100000 in
theorem km_X2_28 : Cond.methodLink RX2 28 yX2_score ∈ tb := tb_in (i := 682) (by decide +kernel) (by decide +kernel)
set_option maxRecDepth 100000 in
theorem km_X2_32 : Cond.methodLink RX2 32 yX2_pairAll ∈ tb := tb_in (i := 686) (by decide +kernel) (by decide +kernel)
set_option maxRecDepth 100000 in
theorem km_X2_36 : Cond.methodLink RX2 36 yX4_trait ∈ tb := tb_in (i := 685) (by decide +kernel) (by decide +kernel)
set_option maxRecDepth 100000 in
theorem km_X2_40 : Cond.methodLinkNest RX2 40 yX8_isNumber "MergedOutline" ∈ tb := tb_in (i := 694) (by decide +kernel) (by decide +kernel)
set_option maxRecDepth 100000 in
theorem km_X3_3 : Cond.methodLink RX3 3 objectInit ∈ tb := tb_in (i := 174) (by decide +kernel) (by decide +kernel)
set_option maxRecDepth 100000 in
theorem kcl_X3_9 : Cond.classLink RX3 9 RX0 ∈ tb := tb_in (i := 175) (by decide +kernel) (by decide +kernel)
set_option maxRecDepth 100000 in
theorem km_X3_11 : Cond.methodLinkNest RX3 11 yX0_init "MergedOutline" ∈ tb := tb_in (i := 176) (by decide +kernel) (by decide +kernel)
set_option maxRecDepth 100000 in
theorem kf_X3_12 : Cond.fieldLink RX3 12 (TX3 0).1 (TX3 0).2.1 (TX3 0).2.2.1 ∈ tb := tb_in (i := 202) (by decide +kernel) (by decide +kernel)
set_option maxRecDepth 100000 in
theorem kcl_X3_18 : Cond.classLink RX3 18 RX4 ∈ tb := tb_in (i := 177) (by decide +kernel) (by decide +kernel)
set_option maxRecDepth 100000 in
theorem km_X3_20 : Cond.methodLink RX3 20 yX4_init ∈ tb := tb_in (i := 178) (by decide +kernel) (by decide +kernel)
set_option maxRecDepth 100000 in
theorem kf_X3_21 : Cond.fieldLink RX3 21 (TX3 1).1 (TX3 1).2.1 (TX3 1).2.2.1 ∈ tb := tb_in (i := 203) (by decide +kernel) (by decide +kernel)
set_option maxRecDepth 100000 in
theorem kcl_X3_25 : Cond.classLink RX3 25 RX6 ∈ tb := tb_in (i := 179) (by decide +kernel) (by decide +kernel)
set_option maxRecDepth 100000 in
theorem km_X3_27 : Cond.methodLink RX3 27 yX6_init ∈ tb := tb_in (i := 181) (by decide +kernel) (by decide +kernel)
set_option maxRecDepth 100000 in
theorem kf_X3_30 : Cond.fieldLink RX3 30 (TX3 2).1 (TX3 2).2.1 (TX3 2).2.2.1 ∈ tb := tb_in (i := 205) (by decide +kernel) (by decide +kernel)
set_option maxRecDepth 100000 in
theorem kf_X3_34 : Cond.fieldLink RX3 34 (TX3 3).1 (TX3 3).2.1 (TX3 3).2.2.1 ∈ tb := tb_in (i := 207) (by decide +kernel) (by decide +kernel)
set_option maxRecDepth 100000 in
theorem kf_X3_38 : Cond.fieldLink RX3 38 (TX3 4).1 (TX3 4).2.1 (TX3 4).2.2.1 ∈ tb := tb_in (i := 208) (by decide +kernel) (by decide +kernel)
set_option maxRecDepth 100000 in
theorem kf_X3_42 : Cond.fieldLink RX3 42 (TX3 5).1 (TX3 5).2.1 (TX3 5).2.2.1 ∈ tb := tb_in (i := 209) (by decide +kernel) (by decide +kernel)
set_option maxRecDepth 100000 in
theorem km_X3_46 : Cond.methodLink RX3 46 yX0_copyFrom ∈ tb := tb_in (i := 484) (by decide +kernel) (by decide +kernel)
set_option maxRecDepth 100000 in
theorem km_X3_50 : Cond.methodLink RX3 50 yX4_reset ∈ tb := tb_in (i := 485) (by decide +kernel) (by decide +kernel)
set_option maxRecDepth 100000 in
theorem km_X3_53 : Cond.methodLink RX3 53 yX6_wipe ∈ tb := tb_in (i := 486) (by decide +kernel) (by decide +kernel)
set_option maxRecDepth 100000 in
theorem km_X3_56 : Cond.methodLink RX3 56 yX3_chooseSections ∈ tb := tb_in (i := 490) (by decide +kernel) (by decide +kernel)
set_option maxRecDepth 100000 in
theorem km_X3_59 : Cond.methodLink RX3 59 yX3_chooseTraits ∈ tb := tb_in (i := 514) (by decide +kernel) (by decide +kernel)
set_option maxRecDepth 100000 in
theorem km_X3_63 : Cond.methodLink RX3 63 yX3_rehang ∈ tb := tb_in (i := 535) (by decide +kernel) (by decide +kernel)
set_option maxRecDepth 100000 in
theorem km_X3_66 : Cond.methodLink RX3 66 yX3_undoRings ∈ tb := tb_in (i := 543) (by decide +kernel) (by decide +kernel)
set_option maxRecDepth 100000 in
theorem km_X3_69 : Cond.methodLink RX3 69 yX3_orderChildren ∈ tb := tb_in (i := 567) (by decide +kernel) (by decide +kernel)
set_option maxRecDepth 100000 in
theorem kf_X3_72 : Cond.fieldLinkNest RX3 72 (TX0 1).1 (TX0 1).2.1 (TX0 1).2.2.1 "MergedOutline" ∈ tb := tb_in (i := 131) (by decide +kernel) (by decide +kernel)
set_option maxRecDepth 100000 in
theorem km_X3_75 : Cond.methodLink RX3 75 yX4_holds ∈ tb := tb_in (i := 494) (by decide +kernel) (by decide +kernel)
set_option maxRecDepth 100000 in
theorem kf_X3_79 : Cond.fieldLinkNest RX3 79 (TX0 2).1 (TX0 2).2.1 (TX0 2).2.2.1 "MergedOutline" ∈ tb := tb_in (i := 133) (by decide +kernel) (by decide +kernel)
set_option maxRecDepth 100000 in
theorem kf_X3_82 : Cond.fieldLinkNest RX3 82 (TX0 0).1 (TX0 0).2.1 (TX0 0).2.2.1 "MergedOutline" ∈ tb := tb_in (i := 129) (by decide +kernel) (by decide +kernel)
set_option maxRecDepth 100000 in
theorem km_X3_85 : Cond.methodLink RX3 85 yX4_include ∈ tb := tb_in (i := 495) (by decide +kernel) (by decide +kernel)
set_option maxRecDepth 100000 in
theorem km_X3_88 : Cond.methodLink RX3 88 yX3_isChanged ∈ tb := tb_in (i := 496) (by decide +kernel) (by decide +kernel)
set_option maxRecDepth 100000 in
theorem km_X3_92 : Cond.methodLink RX3 92 yX6_tell ∈ tb := tb_in (i := 510) (by decide +kernel) (by decide +kernel)
set_option maxRecDepth 100000 in
theorem km_X3_96 : Cond.methodLink RX3 96 yX3_isOther ∈ tb := tb_in (i := 500) (by decide +kernel) (by decide +kernel)
set_option maxRecDepth 100000 in
theorem km_X3_100 : Cond.methodLink RX3 100 yX3_hasNewChild ∈ tb := tb_in (i := 505) (by decide +kernel) (by decide +kernel)
set_option maxRecDepth 100000 in
theorem km_X3_103 : Cond.methodLink RX3 103 yX4_trait ∈ tb := tb_in (i := 504) (by decide +kernel) (by decide +kernel)
set_option maxRecDepth 100000 in
theorem km_X3_107 : Cond.methodLink RX3 107 yX4_isChild ∈ tb := tb_in (i := 509) (by decide +kernel) (by decide +kernel)
set_option maxRecDepth 100000 in
theorem km_X3_111 : Cond.methodLink RX3 111 yX3_sourceOf ∈ tb := tb_in (i := 518) (by decide +kernel) (by decide +kernel)
set_option maxRecDepth 100000 in
theorem km_X3_115 : Cond.methodLink RX3 115 yX4_put ∈ tb := tb_in (i := 530) (by decide +kernel) (by decide +kernel)
set_option maxRecDepth 100000 in
theorem km_X3_118 : Cond.methodLink RX3 118 yX3_isDisputed ∈ tb := tb_in (i := 531) (by decide +kernel) (by decide +kernel)
set_option maxRecDepth 100000 in
theorem km_X3_121 : Cond.methodLink RX3 121 yX0_otherSide ∈ tb := tb_in (i := 526) (by decide +kernel) (by decide +kernel)
set_option maxRecDepth 100000 in
theorem km_X3_125 : Cond.methodLink RX3 125 yX0_preferredSide ∈ tb := tb_in (i := 522) (by decide +kernel) (by decide +kernel)
set_option maxRecDepth 100000 in
theorem km_X3_128 : Cond.methodLink RX3 128 yX3_nearest ∈ tb := tb_in (i := 539) (by decide +kernel) (by decide +kernel)
set_option maxRecDepth 100000 in
theorem km_X3_132 : Cond.methodLink RX3 132 yX3_leastInRing ∈ tb := tb_in (i := 547) (by decide +kernel) (by decide +kernel)
set_option maxRecDepth 100000 in
theorem km_X3_136 : Cond.methodLink RX3 136 yX3_leastToPutBack ∈ tb := tb_in (i := 552) (by decide +kernel) (by decide +kernel)
set_option maxRecDepth 100000 in
theorem km_X3_139 : Cond.methodLinkNest RX3 139 yX8_isNumber "MergedOutline" ∈ tb := tb_in (i := 560) (by decide +kernel) (by decide +kernel)
set_option maxRecDepth 100000 in
theorem km_X3_142 : Cond.methodLink RX3 142 yX3_rehangFromRing ∈ tb := tb_in (i := 563) (by decide +kernel) (by decide +kernel)
set_option maxRecDepth 100000 in
theorem km_X3_145 : Cond.methodLink RX3 145 yX4_isBelow ∈ tb := tb_in (i := 551) (by decide +kernel) (by decide +kernel)
set_option maxRecDepth 100000 in
theorem km_X3_148 : Cond.methodLink RX3 148 yX3_isMoveOfOther ∈ tb := tb_in (i := 556) (by decide +kernel) (by decide +kernel)
set_option maxRecDepth 100000 in
theorem km_X3_151 : Cond.methodLink RX3 151 yX3_keyOf ∈ tb := tb_in (i := 571) (by decide +kernel) (by decide +kernel)
set_option maxRecDepth 100000 in
theorem km_X3_154 : Cond.methodLink RX3 154 yX3_countAhead ∈ tb := tb_in (i := 575) (by decide +kernel) (by decide +kernel)
set_option maxRecDepth 100000 in
theorem km_X3_157 : Cond.methodLink RX3 157 yX3_isAhead ∈ tb := tb_in (i := 579) (by decide +kernel) (by decide +kernel)
set_option maxRecDepth 100000 in
theorem km_X4_3 : Cond.methodLink RX4 3 objectInit ∈ tb := tb_in (i := 114) (by decide +kernel) (by decide +kernel)
set_option maxRecDepth 100000 in
theorem kf_X4_9 : Cond.fieldLink RX4 9 (TX4 0).1 (TX4 0).2.1 (TX4 0).2.2.1 ∈ tb := tb_in (i := 123) (by decide +kernel) (by decide +kernel)
set_option maxRecDepth 100000 in
theorem km_X4_15 : Cond.methodLink RX4 15 yX4_reset ∈ tb := tb_in (i := 115) (by decide +kernel) (by decide +kernel)
set_option maxRecDepth 100000 in
theorem km_X4_18 : Cond.methodLink RX4 18 yX4_put ∈ tb := tb_in (i := 119) (by decide +kernel) (by decide +kernel)
set_option maxRecDepth 100000 in
theorem km_X4_22 : Cond.methodLink RX4 22 arraycopyName ∈ tb := tb_in (i := 330) (by decide +kernel) (by decide +kernel)
set_option maxRecDepth 100000 in
theorem km_X4_28 : Cond.methodLink RX4 28 yX4_holds ∈ tb := tb_in (i := 441) (by decide +kernel) (by decide +kernel)
set_option maxRecDepth 100000 in
theorem km_X4_32 : Cond.methodLink RX4 32 yX4_isChild ∈ tb := tb_in (i := 358) (by decide +kernel) (by decide +kernel)
set_option maxRecDepth 100000 in
theorem km_X4_36 : Cond.methodLink RX4 36 yX4_trait ∈ tb := tb_in (i := 370) (by decide +kernel) (by decide +kernel)
set_option maxRecDepth 100000 in
theorem km_X4_40 : Cond.methodLink RX4 40 yX4_isBelow ∈ tb := tb_in (i := 442) (by decide +kernel) (by decide +kernel)
set_option maxRecDepth 100000 in
theorem km_X4_43 : Cond.methodLink RX4 43 yX4_depthOf ∈ tb := tb_in (i := 629) (by decide +kernel) (by decide +kernel)
set_option maxRecDepth 100000 in
theorem km_X4_47 : Cond.methodLink RX4 47 yJ9_max_7cf53 ∈ tb := tb_in (i := 633) (by decide +kernel) (by decide +kernel)
set_option maxRecDepth 100000 in
theorem km_X4_52 : Cond.methodLink RX4 52 yX4_childAt ∈ tb := tb_in (i := 616) (by decide +kernel) (by decide +kernel)
set_option maxRecDepth 100000 in
theorem km_X4_55 : Cond.methodLink RX4 55 yX4_isSame ∈ tb := tb_in (i := 642) (by decide +kernel) (by decide +kernel)
set_option maxRecDepth 100000 in
theorem km_X4_59 : Cond.methodLink RX4 59 yX4_shift ∈ tb := tb_in (i := 366) (by decide +kernel) (by decide +kernel)
set_option maxRecDepth 100000 in
theorem km_X4_62 : Cond.methodLink RX4 62 yX4_include ∈ tb := tb_in (i := 374) (by decide +kernel) (by decide +kernel)
set_option maxRecDepth 100000 in
theorem km_X4_66 : Cond.methodLink RX4 66 yX4_detach ∈ tb := tb_in (i := 443) (by decide +kernel) (by decide +kernel)
set_option maxRecDepth 100000 in
theorem km_X4_69 : Cond.methodLink RX4 69 yJ6_bitCount_0f7a4 ∈ tb := tb_in (i := 444) (by decide +kernel) (by decide +kernel)
set_option maxRecDepth 100000 in
theorem km_X5_3 : Cond.methodLink RX5 3 objectInit ∈ tb := tb_in (i := 230) (by decide +kernel) (by decide +kernel)
set_option maxRecDepth 100000 in
theorem kcl_X5_9 : Cond.classLink RX5 9 RX6 ∈ tb := tb_in (i := 231) (by decide +kernel) (by decide +kernel)
set_option maxRecDepth 100000 in
theorem km_X5_11 : Cond.methodLink RX5 11 yX6_init ∈ tb := tb_in (i := 232) (by decide +kernel) (by decide +kernel)
set_option maxRecDepth 100000 in
theorem kf_X5_14 : Cond.fieldLink RX5 14 (TX5 0).1 (TX5 0).2.1 (TX5 0).2.2.1 ∈ tb := tb_in (i := 233) (by decide +kernel) (by decide +kernel)
set_option maxRecDepth 100000 in
theorem km_X5_20 : Cond.methodLink RX5 20 yX6_wipe ∈ tb := tb_in (i := 665) (by decide +kernel) (by decide +kernel)
set_option maxRecDepth 100000 in
theorem km_X5_23 : Cond.methodLink RX5 23 yX4_holds ∈ tb := tb_in (i := 666) (by decide +kernel) (by decide +kernel)
set_option maxRecDepth 100000 in
theorem km_X5_29 : Cond.methodLink RX5 29 yX5_writeChange ∈ tb := tb_in (i := 667) (by decide +kernel) (by decide +kernel)
set_option maxRecDepth 100000 in
theorem km_X5_33 : Cond.methodLink RX5 33 yX6_tell ∈ tb := tb_in (i := 672) (by decide +kernel) (by decide +kernel)
set_option maxRecDepth 100000 in
theorem km_X5_37 : Cond.methodLink RX5 37 yX4_trait ∈ tb := tb_in (i := 671) (by decide +kernel) (by decide +kernel)
set_option maxRecDepth 100000 in
theorem km_X6_3 : Cond.methodLink RX6 3 objectInit ∈ tb := tb_in (i := 184) (by decide +kernel) (by decide +kernel)
set_option maxRecDepth 100000 in
theorem kf_X6_9 : Cond.fieldLink RX6 9 (TX6 3).1 (TX6 3).2.1 (TX6 3).2.2.1 ∈ tb := tb_in (i := 191) (by decide +kernel) (by decide +kernel)
set_option maxRecDepth 100000 in
theorem km_X6_15 : Cond.methodLink RX6 15 yJ9_max_7cf53 ∈ tb := tb_in (i := 185) (by decide +kernel) (by decide +kernel)
set_option maxRecDepth 100000 in
theorem kf_X6_21 : Cond.fieldLink RX6 21 (TX6 0).1 (TX6 0).2.1 (TX6 0).2.2.1 ∈ tb := tb_in (i := 188) (by decide +kernel) (by decide +kernel)
set_option maxRecDepth 100000 in
theorem kf_X6_25 : Cond.fieldLink RX6 25 (TX6 1).1 (TX6 1).2.1 (TX6 1).2.2.1 ∈ tb := tb_in (i := 189) (by decide +kernel) (by decide +kernel)
set_option maxRecDepth 100000 in
theorem kf_X6_28 : Cond.fieldLink RX6 28 (TX6 2).1 (TX6 2).2.1 (TX6 2).2.2.1 ∈ tb := tb_in (i := 190) (by decide +kernel) (by decide +kernel)
set_option maxRecDepth 100000 in
theorem km_X7_3 : Cond.methodLink RX7 3 objectInit ∈ tb := tb_in (i := 259) (by decide +kernel) (by decide +kernel)
set_option maxRecDepth 100000 in
theorem kf_X7_9 : Cond.fieldLink RX7 9 (TX7 0).1 (TX7 0).2.1 (TX7 0).2.2.1 ∈ tb := tb_in (i := 260) (by decide +kernel) (by decide +kernel)
set_option maxRecDepth 100000 in
theorem kf_X7_15 : Cond.fieldLink RX7 15 (TX7 1).1 (TX7 1).2.1 (TX7 1).2.2.1 ∈ tb := tb_in (i := 261) (by decide +kernel) (by decide +kernel)
set_option maxRecDepth 100000 in
theorem kf_X7_18 : Cond.fieldLink RX7 18 (TX7 2).1 (TX7 2).2.1 (TX7 2).2.2.1 ∈ tb := tb_in (i := 262) (by decide +kernel) (by decide +kernel)
set_option maxRecDepth 100000 in
theorem kf_X7_22 : Cond.fieldLink RX7 22 (TX7 3).1 (TX7 3).2.1 (TX7 3).2.2.1 ∈ tb := tb_in (i := 264) (by decide +kernel) (by decide +kernel)
set_option maxRecDepth 100000 in
theorem kf_X7_25 : Cond.fieldLink RX7 25 (TX7 4).1 (TX7 4).2.1 (TX7 4).2.2.1 ∈ tb := tb_in (i := 266) (by decide +kernel) (by decide +kernel)
set_option maxRecDepth 100000 in
theorem kf_X7_29 : Cond.fieldLink RX7 29 (TX7 5).1 (TX7 5).2.1 (TX7 5).2.2.1 ∈ tb := tb_in (i := 267) (by decide +kernel) (by decide +kernel)
set_option maxRecDepth 100000 in
theorem kf_X7_32 : Cond.fieldLink RX7 32 (TX7 6).1 (TX7 6).2.1 (TX7 6).2.2.1 ∈ tb := tb_in (i := 268) (by decide +kernel) (by decide +kernel)
set_option maxRecDepth 100000 in
theorem kf_X7_35 : Cond.fieldLink RX7 35 (TX7 7).1 (TX7 7).2.1 (TX7 7).2.2.1 ∈ tb := tb_in (i := 269) (by decide +kernel) (by decide +kernel)
set_option maxRecDepth 100000 in
theorem km_X7_38 : Cond.methodLink RX7 38 yX7_takes ∈ tb := tb_in (i := 731) (by decide +kernel) (by decide +kernel)
set_option maxRecDepth 100000 in
theorem km_X7_42 : Cond.methodLink RX7 42 yX7_opens ∈ tb := tb_in (i := 735) (by decide +kernel) (by decide +kernel)
set_option maxRecDepth 100000 in
theorem km_X7_45 : Cond.methodLink RX7 45 yX7_takesFigure ∈ tb := tb_in (i := 749) (by decide +kernel) (by decide +kernel)
set_option maxRecDepth 100000 in
theorem km_X7_48 : Cond.methodLink RX7 48 yX7_closes ∈ tb := tb_in (i := 757) (by decide +kernel) (by decide +kernel)
set_option maxRecDepth 100000 in
theorem km_X7_52 : Cond.methodLink RX7 52 yX7_numbersOf ∈ tb := tb_in (i := 739) (by decide +kernel) (by decide +kernel)
set_option maxRecDepth 100000 in
theorem km_X7_56 : Cond.methodLink RX7 56 yX7_put ∈ tb := tb_in (i := 742) (by decide +kernel) (by decide +kernel)
set_option maxRecDepth 100000 in
theorem km_X7_60 : Cond.methodLink RX7 60 yX7_cell ∈ tb := tb_in (i := 753) (by decide +kernel) (by decide +kernel)
set_option maxRecDepth 100000 in
theorem km_X7_64 : Cond.methodLink RX7 64 yX7_isCell ∈ tb := tb_in (i := 746) (by decide +kernel) (by decide +kernel)
set_option maxRecDepth 100000 in
theorem kcl_L_7 : Cond.classLink RL 7 RX8 ∈ tb := tb_in (i := 95) (by decide +kernel) (by decide +kernel)
set_option maxRecDepth 100000 in
theorem km_L_9 : Cond.methodLink RL 9 yX8_init ∈ tb := tb_in (i := 97) (by decide +kernel) (by decide +kernel)
set_option maxRecDepth 100000 in
theorem kcl_L_10 : Cond.classLink RL 10 RX9 ∈ tb := tb_in (i := 797) (by decide +kernel) (by decide +kernel)
set_option maxRecDepth 100000 in
theorem km_L_12 : Cond.methodLink RL 12 yX9_init ∈ tb := tb_in (i := 799) (by decide +kernel) (by decide +kernel)
set_option maxRecDepth 100000 in
theorem km_L_13 : Cond.methodLink RL 13 yX8_adds ∈ tb := tb_in (i := 318) (by decide +kernel) (by decide +kernel)
set_option maxRecDepth 100000 in
theorem km_L_17 : Cond.methodLink RL 17 yX9_adds ∈ tb := tb_in (i := 870) (by decide +kernel) (by decide +kernel)
set_option maxRecDepth 100000 in
theorem km_L_18 : Cond.methodLink RL 18 yX8_moves ∈ tb := tb_in (i := 399) (by decide +kernel) (by decide +kernel)
set_option maxRecDepth 100000 in
theorem km_L_22 : Cond.methodLink RL 22 yX9_moves ∈ tb := tb_in (i := 933) (by decide +kernel) (by decide +kernel)
set_option maxRecDepth 100000 in
theorem km_L_23 : Cond.methodLink RL 23 yX8_renames ∈ tb := tb_in (i := 417) (by decide +kernel) (by decide +kernel)
set_option maxRecDepth 100000 in
theorem km_L_27 : Cond.methodLink RL 27 yX9_renames ∈ tb := tb_in (i := 949) (by decide +kernel) (by decide +kernel)
set_option maxRecDepth 100000 in
theorem km_L_28 : Cond.methodLink RL 28 yX8_edits ∈ tb := tb_in (i := 425) (by decide +kernel) (by decide +kernel)
set_option maxRecDepth 100000 in
theorem km_L_31 : Cond.methodLink RL 31 yX9_edits ∈ tb := tb_in (i := 957) (by decide +kernel) (by decide +kernel)
set_option maxRecDepth 100000 in
theorem km_L_32 : Cond.methodLink RL 32 yX8_deletes ∈ tb := tb_in (i := 429) (by decide +kernel) (by decide +kernel)
set_option maxRecDepth 100000 in
theorem km_L_36 : Cond.methodLink RL 36 yX9_deletes ∈ tb := tb_in (i := 961) (by decide +kernel) (by decide +kernel)
set_option maxRecDepth 100000 in
theorem km_L_37 : Cond.methodLink RL 37 yX8_forks ∈ tb := tb_in (i := 450) (by decide +kernel) (by decide +kernel)
set_option maxRecDepth 100000 in
theorem km_L_41 : Cond.methodLink RL 41 yX9_forks ∈ tb := tb_in (i := 972) (by decide +kernel) (by decide +kernel)
set_option maxRecDepth 100000 in
theorem km_L_42 : Cond.methodLink RL 42 yX8_prefers ∈ tb := tb_in (i := 462) (by decide +kernel) (by decide +kernel)
set_option maxRecDepth 100000 in
theorem km_L_46 : Cond.methodLink RL 46 yX9_prefers ∈ tb := tb_in (i := 984) (by decide +kernel) (by decide +kernel)
set_option maxRecDepth 100000 in
theorem km_L_47 : Cond.methodLink RL 47 yX8_adopts ∈ tb := tb_in (i := 471) (by decide +kernel) (by decide +kernel)
set_option maxRecDepth 100000 in
theorem km_L_50 : Cond.methodLink RL 50 yX9_adopts ∈ tb := tb_in (i := 992) (by decide +kernel) (by decide +kernel)
set_option maxRecDepth 100000 in
theorem km_L_51 : Cond.methodLink RL 51 yX8_has ∈ tb := tb_in (i := 588) (by decide +kernel) (by decide +kernel)
set_option maxRecDepth 100000 in
theorem km_L_54 : Cond.methodLink RL 54 yX9_has ∈ tb := tb_in (i := 1044) (by decide +kernel) (by decide +kernel)
set_option maxRecDepth 100000 in
theorem km_L_55 : Cond.methodLink RL 55 yX8_of ∈ tb := tb_in (i := 598) (by decide +kernel) (by decide +kernel)
set_option maxRecDepth 100000 in
theorem km_L_58 : Cond.methodLink RL 58 yX9_of ∈ tb := tb_in (i := 1052) (by decide +kernel) (by decide +kernel)
set_option maxRecDepth 100000 in
theorem km_L_59 : Cond.methodLink RL 59 yX8_walk ∈ tb := tb_in (i := 608) (by decide +kernel) (by decide +kernel)
set_option maxRecDepth 100000 in
theorem km_L_62 : Cond.methodLink RL 62 yX9_walk ∈ tb := tb_in (i := 1060) (by decide +kernel) (by decide +kernel)
set_option maxRecDepth 100000 in
theorem km_L_63 : Cond.methodLink RL 63 yX8_size ∈ tb := tb_in (i := 620) (by decide +kernel) (by decide +kernel)
set_option maxRecDepth 100000 in
theorem km_L_66 : Cond.methodLink RL 66 yX9_size ∈ tb := tb_in (i := 1068) (by decide +kernel) (by decide +kernel)
set_option maxRecDepth 100000 in
theorem km_L_67 : Cond.methodLink RL 67 yX8_alike ∈ tb := tb_in (i := 634) (by decide +kernel) (by decide +kernel)
set_option maxRecDepth 100000 in
theorem km_L_70 : Cond.methodLink RL 70 yX9_alike ∈ tb := tb_in (i := 1076) (by decide +kernel) (by decide +kernel)
set_option maxRecDepth 100000 in
theorem km_L_71 : Cond.methodLink RL 71 yX8_conflicts ∈ tb := tb_in (i := 646) (by decide +kernel) (by decide +kernel)
set_option maxRecDepth 100000 in
theorem km_L_74 : Cond.methodLink RL 74 yX9_conflicts ∈ tb := tb_in (i := 1080) (by decide +kernel) (by decide +kernel)
set_option maxRecDepth 100000 in
theorem km_L_75 : Cond.methodLink RL 75 yX8_script ∈ tb := tb_in (i := 657) (by decide +kernel) (by decide +kernel)
set_option maxRecDepth 100000 in
theorem km_L_78 : Cond.methodLink RL 78 yX9_script ∈ tb := tb_in (i := 1084) (by decide +kernel) (by decide +kernel)
set_option maxRecDepth 100000 in
theorem km_L_79 : Cond.methodLink RL 79 yX8_matches ∈ tb := tb_in (i := 673) (by decide +kernel) (by decide +kernel)
set_option maxRecDepth 100000 in
theorem km_L_82 : Cond.methodLink RL 82 yX9_matches ∈ tb := tb_in (i := 1096) (by decide +kernel) (by decide +kernel)
set_option maxRecDepth 100000 in
theorem km_L_83 : Cond.methodLink RL 83 yX8_told ∈ tb := tb_in (i := 695) (by decide +kernel) (by decide +kernel)
set_option maxRecDepth 100000 in
theorem km_L_86 : Cond.methodLink RL 86 yX9_told ∈ tb := tb_in (i := 1108) (by decide +kernel) (by decide +kernel)
set_option maxRecDepth 100000 in
theorem km_L_87 : Cond.methodLink RL 87 yX8_type ∈ tb := tb_in (i := 707) (by decide +kernel) (by decide +kernel)
set_option maxRecDepth 100000 in
theorem km_L_90 : Cond.methodLink RL 90 yX9_type ∈ tb := tb_in (i := 1120) (by decide +kernel) (by decide +kernel)
set_option maxRecDepth 100000 in
theorem km_L_91 : Cond.methodLink RL 91 yX8_clear ∈ tb := tb_in (i := 715) (by decide +kernel) (by decide +kernel)
set_option maxRecDepth 100000 in
theorem km_L_94 : Cond.methodLink RL 94 yX9_clear ∈ tb := tb_in (i := 1124) (by decide +kernel) (by decide +kernel)
set_option maxRecDepth 100000 in
theorem km_L_95 : Cond.methodLink RL 95 yX8_does ∈ tb := tb_in (i := 723) (by decide +kernel) (by decide +kernel)
set_option maxRecDepth 100000 in
theorem km_L_98 : Cond.methodLink RL 98 yX9_does ∈ tb := tb_in (i := 1128) (by decide +kernel) (by decide +kernel)
set_option maxRecDepth 100000 in
theorem km_L_99 : Cond.methodLink RL 99 yX8_back ∈ tb := tb_in (i := 766) (by decide +kernel) (by decide +kernel)
set_option maxRecDepth 100000 in
theorem km_L_102 : Cond.methodLink RL 102 yX9_back ∈ tb := tb_in (i := 1151) (by decide +kernel) (by decide +kernel)
set_option maxRecDepth 100000 in
theorem km_L_103 : Cond.methodLink RL 103 yX8_refused ∈ tb := tb_in (i := 774) (by decide +kernel) (by decide +kernel)
set_option maxRecDepth 100000 in
theorem km_L_106 : Cond.methodLink RL 106 yX9_refused ∈ tb := tb_in (i := 1155) (by decide +kernel) (by decide +kernel)
set_option maxRecDepth 100000 in
theorem km_L_107 : Cond.methodLink RL 107 yX8_digest ∈ tb := tb_in (i := 782) (by decide +kernel) (by decide +kernel)
set_option maxRecDepth 100000 in
theorem km_L_111 : Cond.methodLink RL 111 yX9_digest ∈ tb := tb_in (i := 1163) (by decide +kernel) (by decide +kernel)
set_option maxRecDepth 100000 in
theorem km_X9_1 : Cond.methodLink RX9 1 objectInit ∈ tb := tb_in (i := 802) (by decide +kernel) (by decide +kernel)
set_option maxRecDepth 100000 in
theorem kf_X9_7 : Cond.fieldLink RX9 7 (TX9 0).1 (TX9 0).2.1 (TX9 0).2.2.1 ∈ tb := tb_in (i := 803) (by decide +kernel) (by decide +kernel)
set_option maxRecDepth 100000 in
theorem kf_X9_13 : Cond.fieldLink RX9 13 (TX9 1).1 (TX9 1).2.1 (TX9 1).2.2.1 ∈ tb := tb_in (i := 804) (by decide +kernel) (by decide +kernel)
set_option maxRecDepth 100000 in
theorem kf_X9_16 : Cond.fieldLink RX9 16 (TX9 2).1 (TX9 2).2.1 (TX9 2).2.2.1 ∈ tb := tb_in (i := 805) (by decide +kernel) (by decide +kernel)
set_option maxRecDepth 100000 in
theorem kf_X9_19 : Cond.fieldLink RX9 19 (TX9 3).1 (TX9 3).2.1 (TX9 3).2.2.1 ∈ tb := tb_in (i := 806) (by decide +kernel) (by decide +kernel)
set_option maxRecDepth 100000 in
theorem kf_X9_22 : Cond.fieldLink RX9 22 (TX9 5).1 (TX9 5).2.1 (TX9 5).2.2.1 ∈ tb := tb_in (i := 808) (by decide +kernel) (by decide +kernel)
set_option maxRecDepth 100000 in
theorem kf_X9_25 : Cond.fieldLink RX9 25 (TX9 6).1 (TX9 6).2.1 (TX9 6).2.2.1 ∈ tb := tb_in (i := 809) (by decide +kernel) (by decide +kernel)
set_option maxRecDepth 100000 in
theorem kf_X9_28 : Cond.fieldLink RX9 28 (TX9 8).1 (TX9 8).2.1 (TX9 8).2.2.1 ∈ tb := tb_in (i := 811) (by decide +kernel) (by decide +kernel)
set_option maxRecDepth 100000 in
theorem kf_X9_31 : Cond.fieldLink RX9 31 (TX9 9).1 (TX9 9).2.1 (TX9 9).2.2.1 ∈ tb := tb_in (i := 812) (by decide +kernel) (by decide +kernel)
set_option maxRecDepth 100000 in
theorem kf_X9_34 : Cond.fieldLink RX9 34 (TX9 10).1 (TX9 10).2.1 (TX9 10).2.2.1 ∈ tb := tb_in (i := 813) (by decide +kernel) (by decide +kernel)
set_option maxRecDepth 100000 in
theorem kf_X9_37 : Cond.fieldLink RX9 37 (TX9 12).1 (TX9 12).2.1 (TX9 12).2.2.1 ∈ tb := tb_in (i := 815) (by decide +kernel) (by decide +kernel)
set_option maxRecDepth 100000 in
theorem kf_X9_40 : Cond.fieldLink RX9 40 (TX9 14).1 (TX9 14).2.1 (TX9 14).2.2.1 ∈ tb := tb_in (i := 817) (by decide +kernel) (by decide +kernel)
set_option maxRecDepth 100000 in
theorem kf_X9_43 : Cond.fieldLink RX9 43 (TX9 15).1 (TX9 15).2.1 (TX9 15).2.2.1 ∈ tb := tb_in (i := 818) (by decide +kernel) (by decide +kernel)
set_option maxRecDepth 100000 in
theorem kf_X9_46 : Cond.fieldLink RX9 46 (TX9 16).1 (TX9 16).2.1 (TX9 16).2.2.1 ∈ tb := tb_in (i := 819) (by decide +kernel) (by decide +kernel)
set_option maxRecDepth 100000 in
theorem kf_X9_49 : Cond.fieldLink RX9 49 (TX9 18).1 (TX9 18).2.1 (TX9 18).2.2.1 ∈ tb := tb_in (i := 821) (by decide +kernel) (by decide +kernel)
set_option maxRecDepth 100000 in
theorem km_X9_52 : Cond.methodLink RX9 52 yX9_bring ∈ tb := tb_in (i := 878) (by decide +kernel) (by decide +kernel)
set_option maxRecDepth 100000 in
theorem km_X9_56 : Cond.methodLink RX9 56 yX9_isRefused ∈ tb := tb_in (i := 926) (by decide +kernel) (by decide +kernel)
set_option maxRecDepth 100000 in
theorem km_X9_60 : Cond.methodLink RX9 60 yX9_refuse ∈ tb := tb_in (i := 929) (by decide +kernel) (by decide +kernel)
set_option maxRecDepth 100000 in
theorem kf_X9_64 : Cond.fieldLink RX9 64 (TX9 4).1 (TX9 4).2.1 (TX9 4).2.2.1 ∈ tb := tb_in (i := 807) (by decide +kernel) (by decide +kernel)
set_option maxRecDepth 100000 in
theorem km_X9_68 : Cond.methodLink RX9 68 yX9_in ∈ tb := tb_in (i := 888) (by decide +kernel) (by decide +kernel)
set_option maxRecDepth 100000 in
theorem km_X9_72 : Cond.methodLink RX9 72 yX9_isIn ∈ tb := tb_in (i := 895) (by decide +kernel) (by decide +kernel)
set_option maxRecDepth 100000 in
theorem km_X9_76 : Cond.methodLink RX9 76 yX9_parentOf ∈ tb := tb_in (i := 903) (by decide +kernel) (by decide +kernel)
set_option maxRecDepth 100000 in
theorem km_X9_80 : Cond.methodLink RX9 80 yX9_placeOf ∈ tb := tb_in (i := 918) (by decide +kernel) (by decide +kernel)
set_option maxRecDepth 100000 in
theorem km_X9_83 : Cond.methodLink RX9 83 yX9_push ∈ tb := tb_in (i := 914) (by decide +kernel) (by decide +kernel)
set_option maxRecDepth 100000 in
theorem km_X9_87 : Cond.methodLink RX9 87 yX9_isOutline ∈ tb := tb_in (i := 885) (by decide +kernel) (by decide +kernel)
set_option maxRecDepth 100000 in
theorem km_X9_90 : Cond.methodLink RX9 90 yX9_isThere ∈ tb := tb_in (i := 891) (by decide +kernel) (by decide +kernel)
set_option maxRecDepth 100000 in
theorem km_X9_93 : Cond.methodLink RX9 93 yX9_childrenOf ∈ tb := tb_in (i := 899) (by decide +kernel) (by decide +kernel)
set_option maxRecDepth 100000 in
theorem km_X9_96 : Cond.methodLink RX9 96 yX9_isWord ∈ tb := tb_in (i := 907) (by decide +kernel) (by decide +kernel)
set_option maxRecDepth 100000 in
theorem km_X9_99 : Cond.methodLink RX9 99 yX9_hang ∈ tb := tb_in (i := 910) (by decide +kernel) (by decide +kernel)
set_option maxRecDepth 100000 in
theorem km_X9_102 : Cond.methodLink RX9 102 yX9_belowOf ∈ tb := tb_in (i := 941) (by decide +kernel) (by decide +kernel)
set_option maxRecDepth 100000 in
theorem km_X9_105 : Cond.methodLink RX9 105 yX9_unhang ∈ tb := tb_in (i := 945) (by decide +kernel) (by decide +kernel)
set_option maxRecDepth 100000 in
theorem km_X9_109 : Cond.methodLink RX9 109 yX9_ones ∈ tb := tb_in (i := 969) (by decide +kernel) (by decide +kernel)
set_option maxRecDepth 100000 in
theorem km_X9_112 : Cond.methodLink RX9 112 yX9_manyIn ∈ tb := tb_in (i := 980) (by decide +kernel) (by decide +kernel)
set_option maxRecDepth 100000 in
theorem km_X9_115 : Cond.methodLink RX9 115 yX9_save ∈ tb := tb_in (i := 874) (by decide +kernel) (by decide +kernel)
set_option maxRecDepth 100000 in
theorem km_X9_118 : Cond.methodLink RX9 118 yX9_add ∈ tb := tb_in (i := 881) (by decide +kernel) (by decide +kernel)
set_option maxRecDepth 100000 in
theorem km_X9_122 : Cond.methodLink RX9 122 yX9_finish ∈ tb := tb_in (i := 922) (by decide +kernel) (by decide +kernel)
set_option maxRecDepth 100000 in
theorem km_X9_125 : Cond.methodLink RX9 125 yX9_move ∈ tb := tb_in (i := 937) (by decide +kernel) (by decide +kernel)
set_option maxRecDepth 100000 in
theorem km_X9_129 : Cond.methodLink RX9 129 yX9_put ∈ tb := tb_in (i := 953) (by decide +kernel) (by decide +kernel)
set_option maxRecDepth 100000 in
theorem km_X9_132 : Cond.methodLink RX9 132 yX9_delete ∈ tb := tb_in (i := 965) (by decide +kernel) (by decide +kernel)
set_option maxRecDepth 100000 in
theorem km_X9_135 : Cond.methodLink RX9 135 yX9_fork ∈ tb := tb_in (i := 976) (by decide +kernel) (by decide +kernel)
set_option maxRecDepth 100000 in
theorem km_X9_139 : Cond.methodLink RX9 139 yX9_prefer ∈ tb := tb_in (i := 988) (by decide +kernel) (by decide +kernel)
set_option maxRecDepth 100000 in
theorem km_X9_142 : Cond.methodLink RX9 142 yX9_merge ∈ tb := tb_in (i := 996) (by decide +kernel) (by decide +kernel)
set_option maxRecDepth 100000 in
theorem kf_X9_145 : Cond.fieldLink RX9 145 (TX9 13).1 (TX9 13).2.1 (TX9 13).2.2.1 ∈ tb := tb_in (i := 816) (by decide +kernel) (by decide +kernel)
set_option maxRecDepth 100000 in
theorem km_X9_148 : Cond.methodLink RX9 148 yX9_nameOf ∈ tb := tb_in (i := 1008) (by decide +kernel) (by decide +kernel)
set_option maxRecDepth 100000 in
theorem km_X9_151 : Cond.methodLink RX9 151 yX9_textOf ∈ tb := tb_in (i := 1012) (by decide +kernel) (by decide +kernel)
set_option maxRecDepth 100000 in
theorem km_X9_154 : Cond.methodLink RX9 154 yX9_isChanged ∈ tb := tb_in (i := 1004) (by decide +kernel) (by decide +kernel)
set_option maxRecDepth 100000 in
theorem km_X9_157 : Cond.methodLink RX9 157 yX9_conflict ∈ tb := tb_in (i := 1016) (by decide +kernel) (by decide +kernel)
set_option maxRecDepth 100000 in
theorem km_X9_161 : Cond.methodLink RX9 161 yX9_isOnRing ∈ tb := tb_in (i := 1032) (by decide +kernel) (by decide +kernel)
set_option maxRecDepth 100000 in
theorem km_X9_164 : Cond.methodLink RX9 164 yX9_ringFrom ∈ tb := tb_in (i := 1036) (by decide +kernel) (by decide +kernel)
set_option maxRecDepth 100000 in
theorem km_X9_167 : Cond.methodLink RX9 167 yX9_nearest ∈ tb := tb_in (i := 1024) (by decide +kernel) (by decide +kernel)
set_option maxRecDepth 100000 in
theorem km_X9_170 : Cond.methodLink RX9 170 yX9_mergeIn ∈ tb := tb_in (i := 1000) (by decide +kernel) (by decide +kernel)
set_option maxRecDepth 100000 in
theorem km_X9_174 : Cond.methodLink RX9 174 yX9_settle ∈ tb := tb_in (i := 1020) (by decide +kernel) (by decide +kernel)
set_option maxRecDepth 100000 in
theorem km_X9_177 : Cond.methodLink RX9 177 yX9_breakRings ∈ tb := tb_in (i := 1028) (by decide +kernel) (by decide +kernel)
set_option maxRecDepth 100000 in
theorem km_X9_180 : Cond.methodLink RX9 180 yX9_keyOf ∈ tb := tb_in (i := 1040) (by decide +kernel) (by decide +kernel)
set_option maxRecDepth 100000 in
theorem km_X9_183 : Cond.methodLink RX9 183 yX9_isAsked ∈ tb := tb_in (i := 1048) (by decide +kernel) (by decide +kernel)
set_option maxRecDepth 100000 in
theorem km_X9_186 : Cond.methodLink RX9 186 yX9_ofSection ∈ tb := tb_in (i := 1056) (by decide +kernel) (by decide +kernel)
set_option maxRecDepth 100000 in
theorem km_X9_190 : Cond.methodLink RX9 190 yX9_walkAll ∈ tb := tb_in (i := 1064) (by decide +kernel) (by decide +kernel)
set_option maxRecDepth 100000 in
theorem km_X9_193 : Cond.methodLink RX9 193 yX9_deepOf ∈ tb := tb_in (i := 1072) (by decide +kernel) (by decide +kernel)
set_option maxRecDepth 100000 in
theorem kf_X9_196 : Cond.fieldLink RX9 196 (TX9 17).1 (TX9 17).2.1 (TX9 17).2.2.1 ∈ tb := tb_in (i := 820) (by decide +kernel) (by decide +kernel)
set_option maxRecDepth 100000 in
theorem km_X9_199 : Cond.methodLink RX9 199 yX9_step ∈ tb := tb_in (i := 1092) (by decide +kernel) (by decide +kernel)
set_option maxRecDepth 100000 in
theorem km_X9_202 : Cond.methodLink RX9 202 yX9_layScript ∈ tb := tb_in (i := 1088) (by decide +kernel) (by decide +kernel)
set_option maxRecDepth 100000 in
theorem km_X9_205 : Cond.methodLink RX9 205 yX9_scoreOf ∈ tb := tb_in (i := 1104) (by decide +kernel) (by decide +kernel)
set_option maxRecDepth 100000 in
theorem km_X9_208 : Cond.methodLink RX9 208 yX9_layMatches ∈ tb := tb_in (i := 1100) (by decide +kernel) (by decide +kernel)
set_option maxRecDepth 100000 in
theorem km_X9_211 : Cond.methodLink RX9 211 yX9_strangers ∈ tb := tb_in (i := 1116) (by decide +kernel) (by decide +kernel)
set_option maxRecDepth 100000 in
theorem km_X9_214 : Cond.methodLink RX9 214 yX9_toldOf ∈ tb := tb_in (i := 1112) (by decide +kernel) (by decide +kernel)
set_option maxRecDepth 100000 in
theorem kf_X9_217 : Cond.fieldLink RX9 217 (TX9 7).1 (TX9 7).2.1 (TX9 7).2.2.1 ∈ tb := tb_in (i := 810) (by decide +kernel) (by decide +kernel)
set_option maxRecDepth 100000 in
theorem kf_X9_220 : Cond.fieldLink RX9 220 (TX9 19).1 (TX9 19).2.1 (TX9 19).2.2.1 ∈ tb := tb_in (i := 822) (by decide +kernel) (by decide +kernel)
set_option maxRecDepth 100000 in
theorem kf_X9_223 : Cond.fieldLink RX9 223 (TX9 20).1 (TX9 20).2.1 (TX9 20).2.2.1 ∈ tb := tb_in (i := 823) (by decide +kernel) (by decide +kernel)
set_option maxRecDepth 100000 in
theorem kf_X9_226 : Cond.fieldLink RX9 226 (TX9 21).1 (TX9 21).2.1 (TX9 21).2.2.1 ∈ tb := tb_in (i := 824) (by decide +kernel) (by decide +kernel)
set_option maxRecDepth 100000 in
theorem kf_X9_229 : Cond.fieldLink RX9 229 (TX9 11).1 (TX9 11).2.1 (TX9 11).2.2.1 ∈ tb := tb_in (i := 814) (by decide +kernel) (by decide +kernel)
set_option maxRecDepth 100000 in
theorem km_X9_232 : Cond.methodLink RX9 232 yX9_wantsOf ∈ tb := tb_in (i := 1140) (by decide +kernel) (by decide +kernel)
set_option maxRecDepth 100000 in
theorem km_X9_235 : Cond.methodLink RX9 235 yX9_readByte ∈ tb := tb_in (i := 1136) (by decide +kernel) (by decide +kernel)
set_option maxRecDepth 100000 in
theorem km_X9_238 : Cond.methodLink RX9 238 yX9_numberOf ∈ tb := tb_in (i := 1147) (by decide +kernel) (by decide +kernel)
set_option maxRecDepth 100000 in
theorem km_X9_241 : Cond.methodLink RX9 241 yX9_readText ∈ tb := tb_in (i := 1132) (by decide +kernel) (by decide +kernel)
set_option maxRecDepth 100000 in
theorem km_X9_244 : Cond.methodLink RX9 244 yX9_doOrder ∈ tb := tb_in (i := 1143) (by decide +kernel) (by decide +kernel)
set_option maxRecDepth 100000 in
theorem km_X9_247 : Cond.methodLink RX9 247 yX9_refusedOf ∈ tb := tb_in (i := 1159) (by decide +kernel) (by decide +kernel)
set_option maxRecDepth 100000 in
theorem kc_X9_250 : Cond.constantLong RX9 250 (1703) ∈ tb := tb_in (i := 1167) (by decide +kernel) (by decide +kernel)
set_option maxRecDepth 100000 in
theorem kc_X9_252 : Cond.constantLong RX9 252 (31) ∈ tb := tb_in (i := 1168) (by decide +kernel) (by decide +kernel)
set_option maxRecDepth 100000 in
theorem kc_J6_265 : Cond.constant RJ6 265 (1431655765) ∈ tb := tb_in (i := 447) (by decide +kernel) (by decide +kernel)
set_option maxRecDepth 100000 in
theorem kc_J6_266 : Cond.constant RJ6 266 (858993459) ∈ tb := tb_in (i := 448) (by decide +kernel) (by decide +kernel)
set_option maxRecDepth 100000 in
theorem kc_J6_267 : Cond.constant RJ6 267 (252645135) ∈ tb := tb_in (i := 449) (by decide +kernel) (by decide +kernel)
set_option maxRecDepth 100000 in
theorem mwc_X8_init : Cond.code yX8_init cX8_init 1 none ∈ tb := tb_in (i := 99) (by decide +kernel) (by decide +kernel)
set_option maxRecDepth 100000 in
theorem mwi_X8_init : Cond.instanceMethod yX8_init ∈ tb := tb_in (i := 98) (by decide +kernel) (by decide +kernel)
set_option maxRecDepth 100000 in
theorem mw_X8_adds : MWi yX8_adds cX8_adds 6 (some .int) 5 := ⟨tb_in (i := 321) (by decide +kernel) (by decide +kernel), tb_in (i := 82) (by decide +kernel) (by decide +kernel), tb_in (i := 319) (by decide +kernel) (by decide +kernel), tb_in (i := 320) (by decide +kernel) (by decide +kernel), (by decide +kernel), (by decide +kernel), (by decide +kernel)⟩
set_option maxRecDepth 100000 in
theorem mw_X8_moves : MWi yX8_moves cX8_moves 5 (some .int) 4 := ⟨tb_in (i := 402) (by decide +kernel) (by decide +kernel), tb_in (i := 82) (by decide +kernel) (by decide +kernel), tb_in (i := 400) (by decide +kernel) (by decide +kernel), tb_in (i := 401) (by decide +kernel) (by decide +kernel), (by decide +kernel), (by decide +kernel), (by decide +kernel)⟩
set_option maxRecDepth 100000 in
theorem mw_X8_renames : MWi yX8_renames cX8_renames 4 (some .int) 3 := ⟨tb_in (i := 420) (by decide +kernel) (by decide +kernel), tb_in (i := 82) (by decide +kernel) (by decide +kernel), tb_in (i := 418) (by decide +kernel) (by decide +kernel), tb_in (i := 419) (by decide +kernel) (by decide +kernel), (by decide +kernel), (by decide +kernel), (by decide +kernel)⟩
set_option maxRecDepth 100000 in
theorem mw_X8_edits : MWi yX8_edits cX8_edits 4 (some .int) 3 := ⟨tb_in (i := 428) (by decide +kernel) (by decide +kernel), tb_in (i := 82) (by decide +kernel) (by decide +kernel), tb_in (i := 426) (by decide +kernel) (by decide +kernel), tb_in (i := 427) (by decide +kernel) (by decide +kernel), (by decide +kernel), (by decide +kernel), (by decide +kernel)⟩
set_option maxRecDepth 100000 in
theorem mw_X8_deletes : MWi yX8_deletes cX8_deletes 3 (some .int) 2 := ⟨tb_in (i := 432) (by decide +kernel) (by decide +kernel), tb_in (i := 82) (by decide +kernel) (by decide +kernel), tb_in (i := 430) (by decide +kernel) (by decide +kernel), tb_in (i := 431) (by decide +kernel) (by decide +kernel), (by decide +kernel), (by decide +kernel), (by decide +kernel)⟩
set_option maxRecDepth 100000 in
theorem mw_X8_forks : MWi yX8_forks cX8_forks 1 (some .int) 0 := ⟨tb_in (i := 453) (by decide +kernel) (by decide +kernel), tb_in (i := 82) (by decide +kernel) (by decide +kernel), tb_in (i := 451) (by decide +kernel) (by decide +kernel), tb_in (i := 452) (by decide +kernel) (by decide +kernel), (by decide +kernel), (by decide +kernel), (by decide +kernel)⟩
set_option maxRecDepth 100000 in
theorem mw_X8_prefers : MWi yX8_prefers cX8_prefers 2 (some .int) 1 := ⟨tb_in (i := 465) (by decide +kernel) (by decide +kernel), tb_in (i := 82) (by decide +kernel) (by decide +kernel), tb_in (i := 463) (by decide +kernel) (by decide +kernel), tb_in (i := 464) (by decide +kernel) (by decide +kernel), (by decide +kernel), (by decide +kernel), (by decide +kernel)⟩
set_option maxRecDepth 100000 in
theorem mw_X8_adopts : MWi yX8_adopts cX8_adopts 1 (some .int) 0 := ⟨tb_in (i := 474) (by decide +kernel) (by decide +kernel), tb_in (i := 82) (by decide +kernel) (by decide +kernel), tb_in (i := 472) (by decide +kernel) (by decide +kernel), tb_in (i := 473) (by decide +kernel) (by decide +kernel), (by decide +kernel), (by decide +kernel), (by decide +kernel)⟩
set_option maxRecDepth 100000 in
theorem mw_X8_has : MWi yX8_has cX8_has 3 (some .int) 2 := ⟨tb_in (i := 591) (by decide +kernel) (by decide +kernel), tb_in (i := 82) (by decide +kernel) (by decide +kernel), tb_in (i := 589) (by decide +kernel) (by decide +kernel), tb_in (i := 590) (by decide +kernel) (by decide +kernel), (by decide +kernel), (by decide +kernel), (by decide +kernel)⟩
set_option maxRecDepth 100000 in
theorem mw_X8_of : MWi yX8_of cX8_of 5 (some .int) 3 := ⟨tb_in (i := 601) (by decide +kernel) (by decide +kernel), tb_in (i := 82) (by decide +kernel) (by decide +kernel), tb_in (i := 599) (by decide +kernel) (by decide +kernel), tb_in (i := 600) (by decide +kernel) (by decide +kernel), (by decide +kernel), (by decide +kernel), (by decide +kernel)⟩
set_option maxRecDepth 100000 in
theorem mw_X8_walk : MWi yX8_walk cX8_walk 6 (some .int) 2 := ⟨tb_in (i := 611) (by decide +kernel) (by decide +kernel), tb_in (i := 82) (by decide +kernel) (by decide +kernel), tb_in (i := 609) (by decide +kernel) (by decide +kernel), tb_in (i := 610) (by decide +kernel) (by decide +kernel), (by decide +kernel), (by decide +kernel), (by decide +kernel)⟩
set_option maxRecDepth 100000 in
theorem mw_X8_size : MWi yX8_size cX8_size 3 (some .int) 2 := ⟨tb_in (i := 623) (by decide +kernel) (by decide +kernel), tb_in (i := 82) (by decide +kernel) (by decide +kernel), tb_in (i := 621) (by decide +kernel) (by decide +kernel), tb_in (i := 622) (by decide +kernel) (by decide +kernel), (by decide +kernel), (by decide +kernel), (by decide +kernel)⟩
set_option maxRecDepth 100000 in
theorem mw_X8_alike : MWi yX8_alike cX8_alike 3 (some .int) 2 := ⟨tb_in (i := 637) (by decide +kernel) (by decide +kernel), tb_in (i := 82) (by decide +kernel) (by decide +kernel), tb_in (i := 635) (by decide +kernel) (by decide +kernel), tb_in (i := 636) (by decide +kernel) (by decide +kernel), (by decide +kernel), (by decide +kernel), (by decide +kernel)⟩
set_option maxRecDepth 100000 in
theorem mw_X8_conflicts : MWi yX8_conflicts cX8_conflicts 3 (some .int) 2 := ⟨tb_in (i := 649) (by decide +kernel) (by decide +kernel), tb_in (i := 82) (by decide +kernel) (by decide +kernel), tb_in (i := 647) (by decide +kernel) (by decide +kernel), tb_in (i := 648) (by decide +kernel) (by decide +kernel), (by decide +kernel), (by decide +kernel), (by decide +kernel)⟩
set_option maxRecDepth 100000 in
theorem mw_X8_script : MWi yX8_script cX8_script 4 (some .int) 3 := ⟨tb_in (i := 660) (by decide +kernel) (by decide +kernel), tb_in (i := 82) (by decide +kernel) (by decide +kernel), tb_in (i := 658) (by decide +kernel) (by decide +kernel), tb_in (i := 659) (by decide +kernel) (by decide +kernel), (by decide +kernel), (by decide +kernel), (by decide +kernel)⟩
set_option maxRecDepth 100000 in
theorem mw_X8_matches : MWi yX8_matches cX8_matches 3 (some .int) 2 := ⟨tb_in (i := 676) (by decide +kernel) (by decide +kernel), tb_in (i := 82) (by decide +kernel) (by decide +kernel), tb_in (i := 674) (by decide +kernel) (by decide +kernel), tb_in (i := 675) (by decide +kernel) (by decide +kernel), (by decide +kernel), (by decide +kernel), (by decide +kernel)⟩
set_option maxRecDepth 100000 in
theorem mw_X8_told : MWi yX8_told cX8_told 2 (some .int) 1 := ⟨tb_in (i := 698) (by decide +kernel) (by decide +kernel), tb_in (i := 82) (by decide +kernel) (by decide +kernel), tb_in (i := 696) (by decide +kernel) (by decide +kernel), tb_in (i := 697) (by decide +kernel) (by decide +kernel), (by decide +kernel), (by decide +kernel), (by decide +kernel)⟩
set_option maxRecDepth 100000 in
theorem mw_X8_type : MWi yX8_type cX8_type 2 (some .int) 1 := ⟨tb_in (i := 710) (by decide +kernel) (by decide +kernel), tb_in (i := 82) (by decide +kernel) (by decide +kernel), tb_in (i := 708) (by decide +kernel) (by decide +kernel), tb_in (i := 709) (by decide +kernel) (by decide +kernel), (by decide +kernel), (by decide +kernel), (by decide +kernel)⟩
set_option maxRecDepth 100000 in
theorem mw_X8_clear : MWi yX8_clear cX8_clear 1 (some .int) 0 := ⟨tb_in (i := 718) (by decide +kernel) (by decide +kernel), tb_in (i := 82) (by decide +kernel) (by decide +kernel), tb_in (i := 716) (by decide +kernel) (by decide +kernel), tb_in (i := 717) (by decide +kernel) (by decide +kernel), (by decide +kernel), (by decide +kernel), (by decide +kernel)⟩
set_option maxRecDepth 100000 in
theorem mw_X8_does : MWi yX8_does cX8_does 3 (some .int) 0 := ⟨tb_in (i := 726) (by decide +kernel) (by decide +kernel), tb_in (i := 82) (by decide +kernel) (by decide +kernel), tb_in (i := 724) (by decide +kernel) (by decide +kernel), tb_in (i := 725) (by decide +kernel) (by decide +kernel), (by decide +kernel), (by decide +kernel), (by decide +kernel)⟩
set_option maxRecDepth 100000 in
theorem mw_X8_back : MWi yX8_back cX8_back 1 (some .int) 0 := ⟨tb_in (i := 769) (by decide +kernel) (by decide +kernel), tb_in (i := 82) (by decide +kernel) (by decide +kernel), tb_in (i := 767) (by decide +kernel) (by decide +kernel), tb_in (i := 768) (by decide +kernel) (by decide +kernel), (by decide +kernel), (by decide +kernel), (by decide +kernel)⟩
set_option maxRecDepth 100000 in
theorem mw_X8_refused : MWi yX8_refused cX8_refused 2 (some .int) 1 := ⟨tb_in (i := 777) (by decide +kernel) (by decide +kernel), tb_in (i := 82) (by decide +kernel) (by decide +kernel), tb_in (i := 775) (by decide +kernel) (by decide +kernel), tb_in (i := 776) (by decide +kernel) (by decide +kernel), (by decide +kernel), (by decide +kernel), (by decide +kernel)⟩
set_option maxRecDepth 100000 in
theorem mw_X8_digest : MWi yX8_digest cX8_digest 4 (some .long) 0 := ⟨tb_in (i := 785) (by decide +kernel) (by decide +kernel), tb_in (i := 82) (by decide +kernel) (by decide +kernel), tb_in (i := 783) (by decide +kernel) (by decide +kernel), tb_in (i := 784) (by decide +kernel) (by decide +kernel), (by decide +kernel), (by decide +kernel), (by decide +kernel)⟩
set_option maxRecDepth 100000 in
theorem mw_X8_settled : MWi yX8_settled cX8_settled 2 (some .int) 1 := ⟨tb_in (i := 382) (by decide +kernel) (by decide +kernel), tb_in (i := 82) (by decide +kernel) (by decide +kernel), tb_in (i := 381) (by decide +kernel) (by decide +kernel), tb_in (i := 1) (by decide +kernel) (by decide +kernel), (by decide +kernel), (by decide +kernel), (by decide +kernel)⟩
set_option maxRecDepth 100000 in
theorem mw_X8_refuse : MWi yX8_refuse cX8_refuse 2 (some .int) 1 := ⟨tb_in (i := 386) (by decide +kernel) (by decide +kernel), tb_in (i := 82) (by decide +kernel) (by decide +kernel), tb_in (i := 385) (by decide +kernel) (by decide +kernel), tb_in (i := 2) (by decide +kernel) (by decide +kernel), (by decide +kernel), (by decide +kernel), (by decide +kernel)⟩
set_option maxRecDepth 100000 in
theorem mw_X8_outline : MWi yX8_outline cX8_outline 2 (some (.object "MergedOutline$Outline")) 1 := ⟨tb_in (i := 478) (by decide +kernel) (by decide +kernel), tb_in (i := 82) (by decide +kernel) (by decide +kernel), tb_in (i := 477) (by decide +kernel) (by decide +kernel), tb_in (i := 4) (by decide +kernel) (by decide +kernel), (by decide +kernel), (by decide +kernel), (by decide +kernel)⟩
set_option maxRecDepth 100000 in
theorem mw_X8_perform : MWi yX8_perform cX8_perform 6 (some .int) 1 := ⟨tb_in (i := 764) (by decide +kernel) (by decide +kernel), tb_in (i := 82) (by decide +kernel) (by decide +kernel), tb_in (i := 763) (by decide +kernel) (by decide +kernel), tb_in (i := 33) (by decide +kernel) (by decide +kernel), (by decide +kernel), (by decide +kernel), (by decide +kernel)⟩
set_option maxRecDepth 100000 in
theorem mw_X8_tellCount : MWi yX8_tellCount cX8_tellCount 2 (some .int) 1 := ⟨tb_in (i := 781) (by decide +kernel) (by decide +kernel), tb_in (i := 82) (by decide +kernel) (by decide +kernel), tb_in (i := 780) (by decide +kernel) (by decide +kernel), tb_in (i := 34) (by decide +kernel) (by decide +kernel), (by decide +kernel), (by decide +kernel), (by decide +kernel)⟩
set_option maxRecDepth 100000 in
theorem mw_X8_tellDesk : MWi yX8_tellDesk cX8_tellDesk 2 (some .int) 1 := ⟨tb_in (i := 702) (by decide +kernel) (by decide +kernel), tb_in (i := 82) (by decide +kernel) (by decide +kernel), tb_in (i := 701) (by decide +kernel) (by decide +kernel), tb_in (i := 27) (by decide +kernel) (by decide +kernel), (by decide +kernel), (by decide +kernel), (by decide +kernel)⟩
set_option maxRecDepth 100000 in
theorem mw_X8_mixed : MWs yX8_mixed cX8_mixed 3 (some .long) 2 := ⟨tb_in (i := 789) (by decide +kernel) (by decide +kernel), tb_in (i := 82) (by decide +kernel) (by decide +kernel), tb_in (i := 788) (by decide +kernel) (by decide +kernel), (by decide +kernel), (by decide +kernel), (by decide +kernel)⟩
set_option maxRecDepth 100000 in
theorem mw_X8_mixedOutline : MWs yX8_mixedOutline cX8_mixedOutline 9 (some .long) 2 := ⟨tb_in (i := 793) (by decide +kernel) (by decide +kernel), tb_in (i := 82) (by decide +kernel) (by decide +kernel), tb_in (i := 792) (by decide +kernel) (by decide +kernel), (by decide +kernel), (by decide +kernel), (by decide +kernel)⟩
set_option maxRecDepth 100000 in
theorem mw_X8_mixedConflicts : MWs yX8_mixedConflicts cX8_mixedConflicts 7 (some .long) 2 := ⟨tb_in (i := 796) (by decide +kernel) (by decide +kernel), tb_in (i := 82) (by decide +kernel) (by decide +kernel), tb_in (i := 795) (by decide +kernel) (by decide +kernel), (by decide +kernel), (by decide +kernel), (by decide +kernel)⟩
set_option maxRecDepth 100000 in
theorem mw_X8_isRowAsked : MWs yX8_isRowAsked cX8_isRowAsked 3 (some .boolean) 3 := ⟨tb_in (i := 652) (by decide +kernel) (by decide +kernel), tb_in (i := 82) (by decide +kernel) (by decide +kernel), tb_in (i := 651) (by decide +kernel) (by decide +kernel), (by decide +kernel), (by decide +kernel), (by decide +kernel)⟩
set_option maxRecDepth 100000 in
theorem mw_X8_isNumber : MWs yX8_isNumber cX8_isNumber 1 (some .boolean) 1 := ⟨tb_in (i := 562) (by decide +kernel) (by decide +kernel), tb_in (i := 82) (by decide +kernel) (by decide +kernel), tb_in (i := 561) (by decide +kernel) (by decide +kernel), (by decide +kernel), (by decide +kernel), (by decide +kernel)⟩
set_option maxRecDepth 100000 in
theorem mw_X8_isValue : MWs yX8_isValue cX8_isValue 1 (some .boolean) 1 := ⟨tb_in (i := 345) (by decide +kernel) (by decide +kernel), tb_in (i := 82) (by decide +kernel) (by decide +kernel), tb_in (i := 344) (by decide +kernel) (by decide +kernel), (by decide +kernel), (by decide +kernel), (by decide +kernel)⟩
set_option maxRecDepth 100000 in
theorem mw_X8_isSide : MWs yX8_isSide cX8_isSide 1 (some .boolean) 1 := ⟨tb_in (i := 342) (by decide +kernel) (by decide +kernel), tb_in (i := 82) (by decide +kernel) (by decide +kernel), tb_in (i := 341) (by decide +kernel) (by decide +kernel), (by decide +kernel), (by decide +kernel), (by decide +kernel)⟩
set_option maxRecDepth 100000 in
theorem mw_X8_isOwnOutline : MWs yX8_isOwnOutline cX8_isOwnOutline 1 (some .boolean) 1 := ⟨tb_in (i := 339) (by decide +kernel) (by decide +kernel), tb_in (i := 82) (by decide +kernel) (by decide +kernel), tb_in (i := 338) (by decide +kernel) (by decide +kernel), (by decide +kernel), (by decide +kernel), (by decide +kernel)⟩
set_option maxRecDepth 100000 in
theorem mw_X8_isAnyOutline : MWs yX8_isAnyOutline cX8_isAnyOutline 1 (some .boolean) 1 := ⟨tb_in (i := 594) (by decide +kernel) (by decide +kernel), tb_in (i := 82) (by decide +kernel) (by decide +kernel), tb_in (i := 593) (by decide +kernel) (by decide +kernel), (by decide +kernel), (by decide +kernel), (by decide +kernel)⟩
set_option maxRecDepth 100000 in
theorem mwc_X9_init : Cond.code yX9_init cX9_init 3 none ∈ tb := tb_in (i := 801) (by decide +kernel) (by decide +kernel)
set_option maxRecDepth 100000 in
theorem mwi_X9_init : Cond.instanceMethod yX9_init ∈ tb := tb_in (i := 800) (by decide +kernel) (by decide +kernel)
set_option maxRecDepth 100000 in
theorem mw_X9_in : MWs yX9_in cX9_in 3 (some .boolean) 3 := ⟨tb_in (i := 890) (by decide +kernel) (by decide +kernel), tb_in (i := 92) (by decide +kernel) (by decide +kernel), tb_in (i := 889) (by decide +kernel) (by decide +kernel), (by decide +kernel), (by decide +kernel), (by decide +kernel)⟩
set_option maxRecDepth 100000 in
theorem mw_X9_bring : MWs yX9_bring cX9_bring 6 none 5 := ⟨tb_in (i := 880) (by decide +kernel) (by decide +kernel), tb_in (i := 92) (by decide +kernel) (by decide +kernel), tb_in (i := 879) (by decide +kernel) (by decide +kernel), (by decide +kernel), (by decide +kernel), (by decide +kernel)⟩
set_option maxRecDepth 100000 in
theorem mw_X9_refuse : MWi yX9_refuse cX9_refuse 2 (some .int) 1 := ⟨tb_in (i := 932) (by decide +kernel) (by decide +kernel), tb_in (i := 92) (by decide +kernel) (by decide +kernel), tb_in (i := 931) (by decide +kernel) (by decide +kernel), tb_in (i := 45) (by decide +kernel) (by decide +kernel), (by decide +kernel), (by decide +kernel), (by decide +kernel)⟩
set_option maxRecDepth 100000 in
theorem mw_X9_save : MWi yX9_save cX9_save 1 none 0 := ⟨tb_in (i := 877) (by decide +kernel) (by decide +kernel), tb_in (i := 92) (by decide +kernel) (by decide +kernel), tb_in (i := 876) (by decide +kernel) (by decide +kernel), tb_in (i := 35) (by decide +kernel) (by decide +kernel), (by decide +kernel), (by decide +kernel), (by decide +kernel)⟩
set_option maxRecDepth 100000 in
theorem mw_X9_isRefused : MWs yX9_isRefused cX9_isRefused 1 (some .boolean) 1 := ⟨tb_in (i := 928) (by decide +kernel) (by decide +kernel), tb_in (i := 92) (by decide +kernel) (by decide +kernel), tb_in (i := 927) (by decide +kernel) (by decide +kernel), (by decide +kernel), (by decide +kernel), (by decide +kernel)⟩
set_option maxRecDepth 100000 in
theorem mw_X9_finish : MWi yX9_finish cX9_finish 2 (some .int) 1 := ⟨tb_in (i := 925) (by decide +kernel) (by decide +kernel), tb_in (i := 92) (by decide +kernel) (by decide +kernel), tb_in (i := 924) (by decide +kernel) (by decide +kernel), tb_in (i := 44) (by decide +kernel) (by decide +kernel), (by decide +kernel), (by decide +kernel), (by decide +kernel)⟩
set_option maxRecDepth 100000 in
theorem mw_X9_isIn : MWi yX9_isIn cX9_isIn 3 (some .boolean) 2 := ⟨tb_in (i := 898) (by decide +kernel) (by decide +kernel), tb_in (i := 92) (by decide +kernel) (by decide +kernel), tb_in (i := 897) (by decide +kernel) (by decide +kernel), tb_in (i := 38) (by decide +kernel) (by decide +kernel), (by decide +kernel), (by decide +kernel), (by decide +kernel)⟩
set_option maxRecDepth 100000 in
theorem mw_X9_isThere : MWi yX9_isThere cX9_isThere 3 (some .boolean) 2 := ⟨tb_in (i := 894) (by decide +kernel) (by decide +kernel), tb_in (i := 92) (by decide +kernel) (by decide +kernel), tb_in (i := 893) (by decide +kernel) (by decide +kernel), tb_in (i := 37) (by decide +kernel) (by decide +kernel), (by decide +kernel), (by decide +kernel), (by decide +kernel)⟩
set_option maxRecDepth 100000 in
theorem mw_X9_parentOf : MWi yX9_parentOf cX9_parentOf 3 (some .int) 2 := ⟨tb_in (i := 906) (by decide +kernel) (by decide +kernel), tb_in (i := 92) (by decide +kernel) (by decide +kernel), tb_in (i := 905) (by decide +kernel) (by decide +kernel), tb_in (i := 40) (by decide +kernel) (by decide +kernel), (by decide +kernel), (by decide +kernel), (by decide +kernel)⟩
set_option maxRecDepth 100000 in
theorem mw_X9_placeOf : MWi yX9_placeOf cX9_placeOf 3 (some .int) 2 := ⟨tb_in (i := 921) (by decide +kernel) (by decide +kernel), tb_in (i := 92) (by decide +kernel) (by decide +kernel), tb_in (i := 920) (by decide +kernel) (by decide +kernel), tb_in (i := 43) (by decide +kernel) (by decide +kernel), (by decide +kernel), (by decide +kernel), (by decide +kernel)⟩
set_option maxRecDepth 100000 in
theorem mw_X9_nameOf : MWi yX9_nameOf cX9_nameOf 3 (some .int) 2 := ⟨tb_in (i := 1011) (by decide +kernel) (by decide +kernel), tb_in (i := 92) (by decide +kernel) (by decide +kernel), tb_in (i := 1010) (by decide +kernel) (by decide +kernel), tb_in (i := 57) (by decide +kernel) (by decide +kernel), (by decide +kernel), (by decide +kernel), (by decide +kernel)⟩
set_option maxRecDepth 100000 in
theorem mw_X9_textOf : MWi yX9_textOf cX9_textOf 3 (some .int) 2 := ⟨tb_in (i := 1015) (by decide +kernel) (by decide +kernel), tb_in (i := 92) (by decide +kernel) (by decide +kernel), tb_in (i := 1014) (by decide +kernel) (by decide +kernel), tb_in (i := 58) (by decide +kernel) (by decide +kernel), (by decide +kernel), (by decide +kernel), (by decide +kernel)⟩
set_option maxRecDepth 100000 in
theorem mw_X9_childrenOf : MWi yX9_childrenOf cX9_childrenOf 5 (some .int) 2 := ⟨tb_in (i := 902) (by decide +kernel) (by decide +kernel), tb_in (i := 92) (by decide +kernel) (by decide +kernel), tb_in (i := 901) (by decide +kernel) (by decide +kernel), tb_in (i := 39) (by decide +kernel) (by decide +kernel), (by decide +kernel), (by decide +kernel), (by decide +kernel)⟩
set_option maxRecDepth 100000 in
theorem mw_X9_manyIn : MWi yX9_manyIn cX9_manyIn 4 (some .int) 1 := ⟨tb_in (i := 983) (by decide +kernel) (by decide +kernel), tb_in (i := 92) (by decide +kernel) (by decide +kernel), tb_in (i := 982) (by decide +kernel) (by decide +kernel), tb_in (i := 52) (by decide +kernel) (by decide +kernel), (by decide +kernel), (by decide +kernel), (by decide +kernel)⟩
set_option maxRecDepth 100000 in
theorem mw_X9_belowOf : MWi yX9_belowOf cX9_belowOf 6 (some .int) 2 := ⟨tb_in (i := 944) (by decide +kernel) (by decide +kernel), tb_in (i := 92) (by decide +kernel) (by decide +kernel), tb_in (i := 943) (by decide +kernel) (by decide +kernel), tb_in (i := 47) (by decide +kernel) (by decide +kernel), (by decide +kernel), (by decide +kernel), (by decide +kernel)⟩
set_option maxRecDepth 100000 in
theorem mw_X9_ones : MWs yX9_ones cX9_ones 3 (some .int) 1 := ⟨tb_in (i := 971) (by decide +kernel) (by decide +kernel), tb_in (i := 92) (by decide +kernel) (by decide +kernel), tb_in (i := 970) (by decide +kernel) (by decide +kernel), (by decide +kernel), (by decide +kernel), (by decide +kernel)⟩
set_option maxRecDepth 100000 in
theorem mw_X9_push : MWi yX9_push cX9_push 6 none 4 := ⟨tb_in (i := 917) (by decide +kernel) (by decide +kernel), tb_in (i := 92) (by decide +kernel) (by decide +kernel), tb_in (i := 916) (by decide +kernel) (by decide +kernel), tb_in (i := 42) (by decide +kernel) (by decide +kernel), (by decide +kernel), (by decide +kernel), (by decide +kernel)⟩
set_option maxRecDepth 100000 in
theorem mw_X9_hang : MWi yX9_hang cX9_hang 5 none 4 := ⟨tb_in (i := 913) (by decide +kernel) (by decide +kernel), tb_in (i := 92) (by decide +kernel) (by decide +kernel), tb_in (i := 912) (by decide +kernel) (by decide +kernel), tb_in (i := 41) (by decide +kernel) (by decide +kernel), (by decide +kernel), (by decide +kernel), (by decide +kernel)⟩
set_option maxRecDepth 100000 in
theorem mw_X9_unhang : MWi yX9_unhang cX9_unhang 5 none 2 := ⟨tb_in (i := 948) (by decide +kernel) (by decide +kernel), tb_in (i := 92) (by decide +kernel) (by decide +kernel), tb_in (i := 947) (by decide +kernel) (by decide +kernel), tb_in (i := 48) (by decide +kernel) (by decide +kernel), (by decide +kernel), (by decide +kernel), (by decide +kernel)⟩
set_option maxRecDepth 100000 in
theorem mw_X9_isOutline : MWs yX9_isOutline cX9_isOutline 1 (some .boolean) 1 := ⟨tb_in (i := 887) (by decide +kernel) (by decide +kernel), tb_in (i := 92) (by decide +kernel) (by decide +kernel), tb_in (i := 886) (by decide +kernel) (by decide +kernel), (by decide +kernel), (by decide +kernel), (by decide +kernel)⟩
set_option maxRecDepth 100000 in
theorem mw_X9_isWord : MWs yX9_isWord cX9_isWord 1 (some .boolean) 1 := ⟨tb_in (i := 909) (by decide +kernel) (by decide +kernel), tb_in (i := 92) (by decide +kernel) (by decide +kernel), tb_in (i := 908) (by decide +kernel) (by decide +kernel), (by decide +kernel), (by decide +kernel), (by decide +kernel)⟩
set_option maxRecDepth 100000 in
theorem mw_X9_add : MWi yX9_add cX9_add 7 (some .int) 5 := ⟨tb_in (i := 884) (by decide +kernel) (by decide +kernel), tb_in (i := 92) (by decide +kernel) (by decide +kernel), tb_in (i := 883) (by decide +kernel) (by decide +kernel), tb_in (i := 36) (by decide +kernel) (by decide +kernel), (by decide +kernel), (by decide +kernel), (by decide +kernel)⟩
set_option maxRecDepth 100000 in
theorem mw_X9_move : MWi yX9_move cX9_move 7 (some .int) 4 := ⟨tb_in (i := 940) (by decide +kernel) (by decide +kernel), tb_in (i := 92) (by decide +kernel) (by decide +kernel), tb_in (i := 939) (by decide +kernel) (by decide +kernel), tb_in (i := 46) (by decide +kernel) (by decide +kernel), (by decide +kernel), (by decide +kernel), (by decide +kernel)⟩
set_option maxRecDepth 100000 in
theorem mw_X9_put : MWi yX9_put cX9_put 6 (some .int) 4 := ⟨tb_in (i := 956) (by decide +kernel) (by decide +kernel), tb_in (i := 92) (by decide +kernel) (by decide +kernel), tb_in (i := 955) (by decide +kernel) (by decide +kernel), tb_in (i := 49) (by decide +kernel) (by decide +kernel), (by decide +kernel), (by decide +kernel), (by decide +kernel)⟩
set_option maxRecDepth 100000 in
theorem mw_X9_delete : MWi yX9_delete cX9_delete 5 (some .int) 2 := ⟨tb_in (i := 968) (by decide +kernel) (by decide +kernel), tb_in (i := 92) (by decide +kernel) (by decide +kernel), tb_in (i := 967) (by decide +kernel) (by decide +kernel), tb_in (i := 50) (by decide +kernel) (by decide +kernel), (by decide +kernel), (by decide +kernel), (by decide +kernel)⟩
set_option maxRecDepth 100000 in
theorem mw_X9_fork : MWi yX9_fork cX9_fork 1 (some .int) 0 := ⟨tb_in (i := 979) (by decide +kernel) (by decide +kernel), tb_in (i := 92) (by decide +kernel) (by decide +kernel), tb_in (i := 978) (by decide +kernel) (by decide +kernel), tb_in (i := 51) (by decide +kernel) (by decide +kernel), (by decide +kernel), (by decide +kernel), (by decide +kernel)⟩
set_option maxRecDepth 100000 in
theorem mw_X9_prefer : MWi yX9_prefer cX9_prefer 3 (some .int) 1 := ⟨tb_in (i := 991) (by decide +kernel) (by decide +kernel), tb_in (i := 92) (by decide +kernel) (by decide +kernel), tb_in (i := 990) (by decide +kernel) (by decide +kernel), tb_in (i := 53) (by decide +kernel) (by decide +kernel), (by decide +kernel), (by decide +kernel), (by decide +kernel)⟩
set_option maxRecDepth 100000 in
theorem mw_X9_adds : MWi yX9_adds cX9_adds 6 (some .int) 5 := ⟨tb_in (i := 873) (by decide +kernel) (by decide +kernel), tb_in (i := 92) (by decide +kernel) (by decide +kernel), tb_in (i := 871) (by decide +kernel) (by decide +kernel), tb_in (i := 872) (by decide +kernel) (by decide +kernel), (by decide +kernel), (by decide +kernel), (by decide +kernel)⟩
set_option maxRecDepth 100000 in
theorem mw_X9_moves : MWi yX9_moves cX9_moves 5 (some .int) 4 := ⟨tb_in (i := 936) (by decide +kernel) (by decide +kernel), tb_in (i := 92) (by decide +kernel) (by decide +kernel), tb_in (i := 934) (by decide +kernel) (by decide +kernel), tb_in (i := 935) (by decide +kernel) (by decide +kernel), (by decide +kernel), (by decide +kernel), (by decide +kernel)⟩
set_option maxRecDepth 100000 in
theorem mw_X9_renames : MWi yX9_renames cX9_renames 4 (some .int) 3 := ⟨tb_in (i := 952) (by decide +kernel) (by decide +kernel), tb_in (i := 92) (by decide +kernel) (by decide +kernel), tb_in (i := 950) (by decide +kernel) (by decide +kernel), tb_in (i := 951) (by decide +kernel) (by decide +kernel), (by decide +kernel), (by decide +kernel), (by decide +kernel)⟩
set_option maxRecDepth 100000 in
theorem mw_X9_edits : MWi yX9_edits cX9_edits 4 (some .int) 3 := ⟨tb_in (i := 960) (by decide +kernel) (by decide +kernel), tb_in (i := 92) (by decide +kernel) (by decide +kernel), tb_in (i := 958) (by decide +kernel) (by decide +kernel), tb_in (i := 959) (by decide +kernel) (by decide +kernel), (by decide +kernel), (by decide +kernel), (by decide +kernel)⟩
set_option maxRecDepth 100000 in
theorem mw_X9_deletes : MWi yX9_deletes cX9_deletes 3 (some .int) 2 := ⟨tb_in (i := 964) (by decide +kernel) (by decide +kernel), tb_in (i := 92) (by decide +kernel) (by decide +kernel), tb_in (i := 962) (by decide +kernel) (by decide +kernel), tb_in (i := 963) (by decide +kernel) (by decide +kernel), (by decide +kernel), (by decide +kernel), (by decide +kernel)⟩
set_option maxRecDepth 100000 in
theorem mw_X9_forks : MWi yX9_forks cX9_forks 1 (some .int) 0 := ⟨tb_in (i := 975) (by decide +kernel) (by decide +kernel), tb_in (i := 92) (by decide +kernel) (by decide +kernel), tb_in (i := 973) (by decide +kernel) (by decide +kernel), tb_in (i := 974) (by decide +kernel) (by decide +kernel), (by decide +kernel), (by decide +kernel), (by decide +kernel)⟩
set_option maxRecDepth 100000 in
theorem mw_X9_prefers : MWi yX9_prefers cX9_prefers 2 (some .int) 1 := ⟨tb_in (i := 987) (by decide +kernel) (by decide +kernel), tb_in (i := 92) (by decide +kernel) (by decide +kernel), tb_in (i := 985) (by decide +kernel) (by decide +kernel), tb_in (i := 986) (by decide +kernel) (by decide +kernel), (by decide +kernel), (by decide +kernel), (by decide +kernel)⟩
set_option maxRecDepth 100000 in
theorem mw_X9_adopts : MWi yX9_adopts cX9_adopts 1 (some .int) 0 := ⟨tb_in (i := 995) (by decide +kernel) (by decide +kernel), tb_in (i := 92) (by decide +kernel) (by decide +kernel), tb_in (i := 993) (by decide +kernel) (by decide +kernel), tb_in (i := 994) (by decide +kernel) (by decide +kernel), (by decide +kernel), (by decide +kernel), (by decide +kernel)⟩
set_option maxRecDepth 100000 in
theorem mw_X9_conflict : MWi yX9_conflict cX9_conflict 4 none 3 := ⟨tb_in (i := 1019) (by decide +kernel) (by decide +kernel), tb_in (i := 92) (by decide +kernel) (by decide +kernel), tb_in (i := 1018) (by decide +kernel) (by decide +kernel), tb_in (i := 59) (by decide +kernel) (by decide +kernel), (by decide +kernel), (by decide +kernel), (by decide +kernel)⟩
set_option maxRecDepth 100000 in
theorem mw_X9_isChanged : MWi yX9_isChanged cX9_isChanged 5 (some .boolean) 2 := ⟨tb_in (i := 1007) (by decide +kernel) (by decide +kernel), tb_in (i := 92) (by decide +kernel) (by decide +kernel), tb_in (i := 1006) (by decide +kernel) (by decide +kernel), tb_in (i := 56) (by decide +kernel) (by decide +kernel), (by decide +kernel), (by decide +kernel), (by decide +kernel)⟩
set_option maxRecDepth 100000 in
theorem mw_X9_mergeIn : MWi yX9_mergeIn cX9_mergeIn 6 none 1 := ⟨tb_in (i := 1003) (by decide +kernel) (by decide +kernel), tb_in (i := 92) (by decide +kernel) (by decide +kernel), tb_in (i := 1002) (by decide +kernel) (by decide +kernel), tb_in (i := 55) (by decide +kernel) (by decide +kernel), (by decide +kernel), (by decide +kernel), (by decide +kernel)⟩
set_option maxRecDepth 100000 in
theorem mw_X9_settle : MWi yX9_settle cX9_settle 11 none 3 := ⟨tb_in (i := 1023) (by decide +kernel) (by decide +kernel), tb_in (i := 92) (by decide +kernel) (by decide +kernel), tb_in (i := 1022) (by decide +kernel) (by decide +kernel), tb_in (i := 60) (by decide +kernel) (by decide +kernel), (by decide +kernel), (by decide +kernel), (by decide +kernel)⟩
set_option maxRecDepth 100000 in
theorem mw_X9_nearest : MWi yX9_nearest cX9_nearest 3 (some .int) 1 := ⟨tb_in (i := 1027) (by decide +kernel) (by decide +kernel), tb_in (i := 92) (by decide +kernel) (by decide +kernel), tb_in (i := 1026) (by decide +kernel) (by decide +kernel), tb_in (i := 61) (by decide +kernel) (by decide +kernel), (by decide +kernel), (by decide +kernel), (by decide +kernel)⟩
set_option maxRecDepth 100000 in
theorem mw_X9_isOnRing : MWi yX9_isOnRing cX9_isOnRing 4 (some .boolean) 1 := ⟨tb_in (i := 1035) (by decide +kernel) (by decide +kernel), tb_in (i := 92) (by decide +kernel) (by decide +kernel), tb_in (i := 1034) (by decide +kernel) (by decide +kernel), tb_in (i := 63) (by decide +kernel) (by decide +kernel), (by decide +kernel), (by decide +kernel), (by decide +kernel)⟩
set_option maxRecDepth 100000 in
theorem mw_X9_ringFrom : MWi yX9_ringFrom cX9_ringFrom 4 (some .int) 1 := ⟨tb_in (i := 1039) (by decide +kernel) (by decide +kernel), tb_in (i := 92) (by decide +kernel) (by decide +kernel), tb_in (i := 1038) (by decide +kernel) (by decide +kernel), tb_in (i := 64) (by decide +kernel) (by decide +kernel), (by decide +kernel), (by decide +kernel), (by decide +kernel)⟩
set_option maxRecDepth 100000 in
theorem mw_X9_breakRings : MWi yX9_breakRings cX9_breakRings 8 none 0 := ⟨tb_in (i := 1031) (by decide +kernel) (by decide +kernel), tb_in (i := 92) (by decide +kernel) (by decide +kernel), tb_in (i := 1030) (by decide +kernel) (by decide +kernel), tb_in (i := 62) (by decide +kernel) (by decide +kernel), (by decide +kernel), (by decide +kernel), (by decide +kernel)⟩
set_option maxRecDepth 100000 in
theorem mw_X9_keyOf : MWi yX9_keyOf cX9_keyOf 5 (some .int) 1 := ⟨tb_in (i := 1043) (by decide +kernel) (by decide +kernel), tb_in (i := 92) (by decide +kernel) (by decide +kernel), tb_in (i := 1042) (by decide +kernel) (by decide +kernel), tb_in (i := 65) (by decide +kernel) (by decide +kernel), (by decide +kernel), (by decide +kernel), (by decide +kernel)⟩
set_option maxRecDepth 100000 in
theorem mw_X9_merge : MWi yX9_merge cX9_merge 5 none 0 := ⟨tb_in (i := 999) (by decide +kernel) (by decide +kernel), tb_in (i := 92) (by decide +kernel) (by decide +kernel), tb_in (i := 998) (by decide +kernel) (by decide +kernel), tb_in (i := 54) (by decide +kernel) (by decide +kernel), (by decide +kernel), (by decide +kernel), (by decide +kernel)⟩
set_option maxRecDepth 100000 in
theorem mw_X9_isAsked : MWi yX9_isAsked cX9_isAsked 2 (some .boolean) 1 := ⟨tb_in (i := 1051) (by decide +kernel) (by decide +kernel), tb_in (i := 92) (by decide +kernel) (by decide +kernel), tb_in (i := 1050) (by decide +kernel) (by decide +kernel), tb_in (i := 66) (by decide +kernel) (by decide +kernel), (by decide +kernel), (by decide +kernel), (by decide +kernel)⟩
set_option maxRecDepth 100000 in
theorem mw_X9_has : MWi yX9_has cX9_has 3 (some .int) 2 := ⟨tb_in (i := 1047) (by decide +kernel) (by decide +kernel), tb_in (i := 92) (by decide +kernel) (by decide +kernel), tb_in (i := 1045) (by decide +kernel) (by decide +kernel), tb_in (i := 1046) (by decide +kernel) (by decide +kernel), (by decide +kernel), (by decide +kernel), (by decide +kernel)⟩
set_option maxRecDepth 100000 in
theorem mw_X9_ofSection : MWi yX9_ofSection cX9_ofSection 4 (some .int) 3 := ⟨tb_in (i := 1059) (by decide +kernel) (by decide +kernel), tb_in (i := 92) (by decide +kernel) (by decide +kernel), tb_in (i := 1058) (by decide +kernel) (by decide +kernel), tb_in (i := 67) (by decide +kernel) (by decide +kernel), (by decide +kernel), (by decide +kernel), (by decide +kernel)⟩
set_option maxRecDepth 100000 in
theorem mw_X9_of : MWi yX9_of cX9_of 4 (some .int) 3 := ⟨tb_in (i := 1055) (by decide +kernel) (by decide +kernel), tb_in (i := 92) (by decide +kernel) (by decide +kernel), tb_in (i := 1053) (by decide +kernel) (by decide +kernel), tb_in (i := 1054) (by decide +kernel) (by decide +kernel), (by decide +kernel), (by decide +kernel), (by decide +kernel)⟩
set_option maxRecDepth 100000 in
theorem mw_X9_walkAll : MWi yX9_walkAll cX9_walkAll 7 (some .int) 1 := ⟨tb_in (i := 1067) (by decide +kernel) (by decide +kernel), tb_in (i := 92) (by decide +kernel) (by decide +kernel), tb_in (i := 1066) (by decide +kernel) (by decide +kernel), tb_in (i := 68) (by decide +kernel) (by decide +kernel), (by decide +kernel), (by decide +kernel), (by decide +kernel)⟩
set_option maxRecDepth 100000 in
theorem mw_X9_walk : MWi yX9_walk cX9_walk 3 (some .int) 2 := ⟨tb_in (i := 1063) (by decide +kernel) (by decide +kernel), tb_in (i := 92) (by decide +kernel) (by decide +kernel), tb_in (i := 1061) (by decide +kernel) (by decide +kernel), tb_in (i := 1062) (by decide +kernel) (by decide +kernel), (by decide +kernel), (by decide +kernel), (by decide +kernel)⟩
set_option maxRecDepth 100000 in
theorem mw_X9_deepOf : MWi yX9_deepOf cX9_deepOf 6 (some .int) 1 := ⟨tb_in (i := 1075) (by decide +kernel) (by decide +kernel), tb_in (i := 92) (by decide +kernel) (by decide +kernel), tb_in (i := 1074) (by decide +kernel) (by decide +kernel), tb_in (i := 69) (by decide +kernel) (by decide +kernel), (by decide +kernel), (by decide +kernel), (by decide +kernel)⟩
set_option maxRecDepth 100000 in
theorem mw_X9_size : MWi yX9_size cX9_size 3 (some .int) 2 := ⟨tb_in (i := 1071) (by decide +kernel) (by decide +kernel), tb_in (i := 92) (by decide +kernel) (by decide +kernel), tb_in (i := 1069) (by decide +kernel) (by decide +kernel), tb_in (i := 1070) (by decide +kernel) (by decide +kernel), (by decide +kernel), (by decide +kernel), (by decide +kernel)⟩
set_option maxRecDepth 100000 in
theorem mw_X9_alike : MWi yX9_alike cX9_alike 6 (some .int) 2 := ⟨tb_in (i := 1079) (by decide +kernel) (by decide +kernel), tb_in (i := 92) (by decide +kernel) (by decide +kernel), tb_in (i := 1077) (by decide +kernel) (by decide +kernel), tb_in (i := 1078) (by decide +kernel) (by decide +kernel), (by decide +kernel), (by decide +kernel), (by decide +kernel)⟩
set_option maxRecDepth 100000 in
theorem mw_X9_conflicts : MWi yX9_conflicts cX9_conflicts 3 (some .int) 2 := ⟨tb_in (i := 1083) (by decide +kernel) (by decide +kernel), tb_in (i := 92) (by decide +kernel) (by decide +kernel), tb_in (i := 1081) (by decide +kernel) (by decide +kernel), tb_in (i := 1082) (by decide +kernel) (by decide +kernel), (by decide +kernel), (by decide +kernel), (by decide +kernel)⟩
set_option maxRecDepth 100000 in
theorem mw_X9_step : MWi yX9_step cX9_step 3 none 2 := ⟨tb_in (i := 1095) (by decide +kernel) (by decide +kernel), tb_in (i := 92) (by decide +kernel) (by decide +kernel), tb_in (i := 1094) (by decide +kernel) (by decide +kernel), tb_in (i := 71) (by decide +kernel) (by decide +kernel), (by decide +kernel), (by decide +kernel), (by decide +kernel)⟩
set_option maxRecDepth 100000 in
theorem mw_X9_layScript : MWi yX9_layScript cX9_layScript 5 none 1 := ⟨tb_in (i := 1091) (by decide +kernel) (by decide +kernel), tb_in (i := 92) (by decide +kernel) (by decide +kernel), tb_in (i := 1090) (by decide +kernel) (by decide +kernel), tb_in (i := 70) (by decide +kernel) (by decide +kernel), (by decide +kernel), (by decide +kernel), (by decide +kernel)⟩
set_option maxRecDepth 100000 in
theorem mw_X9_script : MWi yX9_script cX9_script 4 (some .int) 3 := ⟨tb_in (i := 1087) (by decide +kernel) (by decide +kernel), tb_in (i := 92) (by decide +kernel) (by decide +kernel), tb_in (i := 1085) (by decide +kernel) (by decide +kernel), tb_in (i := 1086) (by decide +kernel) (by decide +kernel), (by decide +kernel), (by decide +kernel), (by decide +kernel)⟩
set_option maxRecDepth 100000 in
theorem mw_X9_scoreOf : MWi yX9_scoreOf cX9_scoreOf 5 (some .int) 3 := ⟨tb_in (i := 1107) (by decide +kernel) (by decide +kernel), tb_in (i := 92) (by decide +kernel) (by decide +kernel), tb_in (i := 1106) (by decide +kernel) (by decide +kernel), tb_in (i := 73) (by decide +kernel) (by decide +kernel), (by decide +kernel), (by decide +kernel), (by decide +kernel)⟩
set_option maxRecDepth 100000 in
theorem mw_X9_layMatches : MWi yX9_layMatches cX9_layMatches 7 none 1 := ⟨tb_in (i := 1103) (by decide +kernel) (by decide +kernel), tb_in (i := 92) (by decide +kernel) (by decide +kernel), tb_in (i := 1102) (by decide +kernel) (by decide +kernel), tb_in (i := 72) (by decide +kernel) (by decide +kernel), (by decide +kernel), (by decide +kernel), (by decide +kernel)⟩
set_option maxRecDepth 100000 in
theorem mw_X9_matches : MWi yX9_matches cX9_matches 3 (some .int) 2 := ⟨tb_in (i := 1099) (by decide +kernel) (by decide +kernel), tb_in (i := 92) (by decide +kernel) (by decide +kernel), tb_in (i := 1097) (by decide +kernel) (by decide +kernel), tb_in (i := 1098) (by decide +kernel) (by decide +kernel), (by decide +kernel), (by decide +kernel), (by decide +kernel)⟩
set_option maxRecDepth 100000 in
theorem mw_X9_strangers : MWi yX9_strangers cX9_strangers 4 (some .int) 1 := ⟨tb_in (i := 1119) (by decide +kernel) (by decide +kernel), tb_in (i := 92) (by decide +kernel) (by decide +kernel), tb_in (i := 1118) (by decide +kernel) (by decide +kernel), tb_in (i := 75) (by decide +kernel) (by decide +kernel), (by decide +kernel), (by decide +kernel), (by decide +kernel)⟩
set_option maxRecDepth 100000 in
theorem mw_X9_toldOf : MWi yX9_toldOf cX9_toldOf 2 (some .int) 1 := ⟨tb_in (i := 1115) (by decide +kernel) (by decide +kernel), tb_in (i := 92) (by decide +kernel) (by decide +kernel), tb_in (i := 1114) (by decide +kernel) (by decide +kernel), tb_in (i := 74) (by decide +kernel) (by decide +kernel), (by decide +kernel), (by decide +kernel), (by decide +kernel)⟩
set_option maxRecDepth 100000 in
theorem mw_X9_told : MWi yX9_told cX9_told 2 (some .int) 1 := ⟨tb_in (i := 1111) (by decide +kernel) (by decide +kernel), tb_in (i := 92) (by decide +kernel) (by decide +kernel), tb_in (i := 1109) (by decide +kernel) (by decide +kernel), tb_in (i := 1110) (by decide +kernel) (by decide +kernel), (by decide +kernel), (by decide +kernel), (by decide +kernel)⟩
set_option maxRecDepth 100000 in
theorem mw_X9_type : MWi yX9_type cX9_type 2 (some .int) 1 := ⟨tb_in (i := 1123) (by decide +kernel) (by decide +kernel), tb_in (i := 92) (by decide +kernel) (by decide +kernel), tb_in (i := 1121) (by decide +kernel) (by decide +kernel), tb_in (i := 1122) (by decide +kernel) (by decide +kernel), (by decide +kernel), (by decide +kernel), (by decide +kernel)⟩
set_option maxRecDepth 100000 in
theorem mw_X9_clear : MWi yX9_clear cX9_clear 2 (some .int) 0 := ⟨tb_in (i := 1127) (by decide +kernel) (by decide +kernel), tb_in (i := 92) (by decide +kernel) (by decide +kernel), tb_in (i := 1125) (by decide +kernel) (by decide +kernel), tb_in (i := 1126) (by decide +kernel) (by decide +kernel), (by decide +kernel), (by decide +kernel), (by decide +kernel)⟩
set_option maxRecDepth 100000 in
theorem mw_X9_wantsOf : MWs yX9_wantsOf cX9_wantsOf 1 (some .int) 1 := ⟨tb_in (i := 1142) (by decide +kernel) (by decide +kernel), tb_in (i := 92) (by decide +kernel) (by decide +kernel), tb_in (i := 1141) (by decide +kernel) (by decide +kernel), (by decide +kernel), (by decide +kernel), (by decide +kernel)⟩
set_option maxRecDepth 100000 in
theorem mw_X9_readByte : MWi yX9_readByte cX9_readByte 3 (some .boolean) 1 := ⟨tb_in (i := 1139) (by decide +kernel) (by decide +kernel), tb_in (i := 92) (by decide +kernel) (by decide +kernel), tb_in (i := 1138) (by decide +kernel) (by decide +kernel), tb_in (i := 77) (by decide +kernel) (by decide +kernel), (by decide +kernel), (by decide +kernel), (by decide +kernel)⟩
set_option maxRecDepth 100000 in
theorem mw_X9_readText : MWi yX9_readText cX9_readText 2 (some .int) 0 := ⟨tb_in (i := 1135) (by decide +kernel) (by decide +kernel), tb_in (i := 92) (by decide +kernel) (by decide +kernel), tb_in (i := 1134) (by decide +kernel) (by decide +kernel), tb_in (i := 76) (by decide +kernel) (by decide +kernel), (by decide +kernel), (by decide +kernel), (by decide +kernel)⟩
set_option maxRecDepth 100000 in
theorem mw_X9_numberOf : MWi yX9_numberOf cX9_numberOf 3 (some .int) 2 := ⟨tb_in (i := 1150) (by decide +kernel) (by decide +kernel), tb_in (i := 92) (by decide +kernel) (by decide +kernel), tb_in (i := 1149) (by decide +kernel) (by decide +kernel), tb_in (i := 79) (by decide +kernel) (by decide +kernel), (by decide +kernel), (by decide +kernel), (by decide +kernel)⟩
set_option maxRecDepth 100000 in
theorem mw_X9_doOrder : MWi yX9_doOrder cX9_doOrder 6 (some .int) 1 := ⟨tb_in (i := 1146) (by decide +kernel) (by decide +kernel), tb_in (i := 92) (by decide +kernel) (by decide +kernel), tb_in (i := 1145) (by decide +kernel) (by decide +kernel), tb_in (i := 78) (by decide +kernel) (by decide +kernel), (by decide +kernel), (by decide +kernel), (by decide +kernel)⟩
set_option maxRecDepth 100000 in
theorem mw_X9_does : MWi yX9_does cX9_does 3 (some .int) 0 := ⟨tb_in (i := 1131) (by decide +kernel) (by decide +kernel), tb_in (i := 92) (by decide +kernel) (by decide +kernel), tb_in (i := 1129) (by decide +kernel) (by decide +kernel), tb_in (i := 1130) (by decide +kernel) (by decide +kernel), (by decide +kernel), (by decide +kernel), (by decide +kernel)⟩
set_option maxRecDepth 100000 in
theorem mw_X9_back : MWi yX9_back cX9_back 1 (some .int) 0 := ⟨tb_in (i := 1154) (by decide +kernel) (by decide +kernel), tb_in (i := 92) (by decide +kernel) (by decide +kernel), tb_in (i := 1152) (by decide +kernel) (by decide +kernel), tb_in (i := 1153) (by decide +kernel) (by decide +kernel), (by decide +kernel), (by decide +kernel), (by decide +kernel)⟩
set_option maxRecDepth 100000 in
theorem mw_X9_refusedOf : MWi yX9_refusedOf cX9_refusedOf 2 (some .int) 1 := ⟨tb_in (i := 1162) (by decide +kernel) (by decide +kernel), tb_in (i := 92) (by decide +kernel) (by decide +kernel), tb_in (i := 1161) (by decide +kernel) (by decide +kernel), tb_in (i := 80) (by decide +kernel) (by decide +kernel), (by decide +kernel), (by decide +kernel), (by decide +kernel)⟩
set_option maxRecDepth 100000 in
theorem mw_X9_refused : MWi yX9_refused cX9_refused 2 (some .int) 1 := ⟨tb_in (i := 1158) (by decide +kernel) (by decide +kernel), tb_in (i := 92) (by decide +kernel) (by decide +kernel), tb_in (i := 1156) (by decide +kernel) (by decide +kernel), tb_in (i := 1157) (by decide +kernel) (by decide +kernel), (by decide +kernel), (by decide +kernel), (by decide +kernel)⟩
set_option maxRecDepth 100000 in
theorem mw_X9_digest : MWi yX9_digest cX9_digest 7 (some .long) 0 := ⟨tb_in (i := 1166) (by decide +kernel) (by decide +kernel), tb_in (i := 92) (by decide +kernel) (by decide +kernel), tb_in (i := 1164) (by decide +kernel) (by decide +kernel), tb_in (i := 1165) (by decide +kernel) (by decide +kernel), (by decide +kernel), (by decide +kernel), (by decide +kernel)⟩
set_option maxRecDepth 100000 in
theorem mwc_X0_init : Cond.code yX0_init cX0_init 1 none ∈ tb := tb_in (i := 107) (by decide +kernel) (by decide +kernel)
set_option maxRecDepth 100000 in
theorem mwi_X0_init : Cond.instanceMethod yX0_init ∈ tb := tb_in (i := 106) (by decide +kernel) (by decide +kernel)
set_option maxRecDepth 100000 in
theorem mw_X0_copyFrom : MWi yX0_copyFrom cX0_copyFrom 2 none 1 := ⟨tb_in (i := 325) (by decide +kernel) (by decide +kernel), tb_in (i := 83) (by decide +kernel) (by decide +kernel), tb_in (i := 323) (by decide +kernel) (by decide +kernel), tb_in (i := 324) (by decide +kernel) (by decide +kernel), (by decide +kernel), (by decide +kernel), (by decide +kernel)⟩
set_option maxRecDepth 100000 in
theorem mw_X0_outline : MWi yX0_outline cX0_outline 2 (some (.object "MergedOutline$Outline")) 1 := ⟨tb_in (i := 349) (by decide +kernel) (by decide +kernel), tb_in (i := 83) (by decide +kernel) (by decide +kernel), tb_in (i := 347) (by decide +kernel) (by decide +kernel), tb_in (i := 348) (by decide +kernel) (by decide +kernel), (by decide +kernel), (by decide +kernel), (by decide +kernel)⟩
set_option maxRecDepth 100000 in
theorem mw_X0_preferredSide : MWi yX0_preferredSide cX0_preferredSide 1 (some (.object "MergedOutline$Outline")) 0 := ⟨tb_in (i := 525) (by decide +kernel) (by decide +kernel), tb_in (i := 83) (by decide +kernel) (by decide +kernel), tb_in (i := 523) (by decide +kernel) (by decide +kernel), tb_in (i := 524) (by decide +kernel) (by decide +kernel), (by decide +kernel), (by decide +kernel), (by decide +kernel)⟩
set_option maxRecDepth 100000 in
theorem mw_X0_otherSide : MWi yX0_otherSide cX0_otherSide 1 (some (.object "MergedOutline$Outline")) 0 := ⟨tb_in (i := 529) (by decide +kernel) (by decide +kernel), tb_in (i := 83) (by decide +kernel) (by decide +kernel), tb_in (i := 527) (by decide +kernel) (by decide +kernel), tb_in (i := 528) (by decide +kernel) (by decide +kernel), (by decide +kernel), (by decide +kernel), (by decide +kernel)⟩
set_option maxRecDepth 100000 in
theorem mw_X0_add : MWi yX0_add cX0_add 8 (some .int) 5 := ⟨tb_in (i := 336) (by decide +kernel) (by decide +kernel), tb_in (i := 83) (by decide +kernel) (by decide +kernel), tb_in (i := 334) (by decide +kernel) (by decide +kernel), tb_in (i := 335) (by decide +kernel) (by decide +kernel), (by decide +kernel), (by decide +kernel), (by decide +kernel)⟩
set_option maxRecDepth 100000 in
theorem mw_X0_move : MWi yX0_move cX0_move 8 (some .int) 4 := ⟨tb_in (i := 406) (by decide +kernel) (by decide +kernel), tb_in (i := 83) (by decide +kernel) (by decide +kernel), tb_in (i := 404) (by decide +kernel) (by decide +kernel), tb_in (i := 405) (by decide +kernel) (by decide +kernel), (by decide +kernel), (by decide +kernel), (by decide +kernel)⟩
set_option maxRecDepth 100000 in
theorem mw_X0_retell : MWi yX0_retell cX0_retell 7 (some .int) 4 := ⟨tb_in (i := 424) (by decide +kernel) (by decide +kernel), tb_in (i := 83) (by decide +kernel) (by decide +kernel), tb_in (i := 422) (by decide +kernel) (by decide +kernel), tb_in (i := 423) (by decide +kernel) (by decide +kernel), (by decide +kernel), (by decide +kernel), (by decide +kernel)⟩
set_option maxRecDepth 100000 in
theorem mw_X0_delete : MWi yX0_delete cX0_delete 3 (some .int) 2 := ⟨tb_in (i := 436) (by decide +kernel) (by decide +kernel), tb_in (i := 83) (by decide +kernel) (by decide +kernel), tb_in (i := 434) (by decide +kernel) (by decide +kernel), tb_in (i := 435) (by decide +kernel) (by decide +kernel), (by decide +kernel), (by decide +kernel), (by decide +kernel)⟩
set_option maxRecDepth 100000 in
theorem mw_X0_fork : MWi yX0_fork cX0_fork 1 (some .int) 0 := ⟨tb_in (i := 457) (by decide +kernel) (by decide +kernel), tb_in (i := 83) (by decide +kernel) (by decide +kernel), tb_in (i := 455) (by decide +kernel) (by decide +kernel), tb_in (i := 456) (by decide +kernel) (by decide +kernel), (by decide +kernel), (by decide +kernel), (by decide +kernel)⟩
set_option maxRecDepth 100000 in
theorem mw_X0_prefer : MWi yX0_prefer cX0_prefer 3 (some .int) 1 := ⟨tb_in (i := 469) (by decide +kernel) (by decide +kernel), tb_in (i := 83) (by decide +kernel) (by decide +kernel), tb_in (i := 467) (by decide +kernel) (by decide +kernel), tb_in (i := 468) (by decide +kernel) (by decide +kernel), (by decide +kernel), (by decide +kernel), (by decide +kernel)⟩
set_option maxRecDepth 100000 in
theorem mw_X0_adopt : MWi yX0_adopt cX0_adopt 2 (some .int) 1 := ⟨tb_in (i := 586) (by decide +kernel) (by decide +kernel), tb_in (i := 83) (by decide +kernel) (by decide +kernel), tb_in (i := 584) (by decide +kernel) (by decide +kernel), tb_in (i := 585) (by decide +kernel) (by decide +kernel), (by decide +kernel), (by decide +kernel), (by decide +kernel)⟩
set_option maxRecDepth 100000 in
theorem mwc_X1_init : Cond.code yX1_init cX1_init 2 none ∈ tb := tb_in (i := 153) (by decide +kernel) (by decide +kernel)
set_option maxRecDepth 100000 in
theorem mwi_X1_init : Cond.instanceMethod yX1_init ∈ tb := tb_in (i := 152) (by decide +kernel) (by decide +kernel)
set_option maxRecDepth 100000 in
theorem mw_X1_keep : MWi yX1_keep cX1_keep 3 none 1 := ⟨tb_in (i := 390) (by decide +kernel) (by decide +kernel), tb_in (i := 85) (by decide +kernel) (by decide +kernel), tb_in (i := 388) (by decide +kernel) (by decide +kernel), tb_in (i := 389) (by decide +kernel) (by decide +kernel), (by decide +kernel), (by decide +kernel), (by decide +kernel)⟩
set_option maxRecDepth 100000 in
theorem mw_X1_takeBack : MWi yX1_takeBack cX1_takeBack 3 none 1 := ⟨tb_in (i := 773) (by decide +kernel) (by decide +kernel), tb_in (i := 85) (by decide +kernel) (by decide +kernel), tb_in (i := 771) (by decide +kernel) (by decide +kernel), tb_in (i := 772) (by decide +kernel) (by decide +kernel), (by decide +kernel), (by decide +kernel), (by decide +kernel)⟩
set_option maxRecDepth 100000 in
theorem mw_X1_slot : MWi yX1_slot cX1_slot 2 (some (.object "MergedOutline$Desk")) 1 := ⟨tb_in (i := 394) (by decide +kernel) (by decide +kernel), tb_in (i := 85) (by decide +kernel) (by decide +kernel), tb_in (i := 393) (by decide +kernel) (by decide +kernel), tb_in (i := 3) (by decide +kernel) (by decide +kernel), (by decide +kernel), (by decide +kernel), (by decide +kernel)⟩
set_option maxRecDepth 100000 in
theorem mwc_X2_init : Cond.code yX2_init cX2_init 1 none ∈ tb := tb_in (i := 242) (by decide +kernel) (by decide +kernel)
set_option maxRecDepth 100000 in
theorem mwi_X2_init : Cond.instanceMethod yX2_init ∈ tb := tb_in (i := 241) (by decide +kernel) (by decide +kernel)
set_option maxRecDepth 100000 in
theorem mw_X2_match : MWi yX2_match cX2_match 5 none 2 := ⟨tb_in (i := 680) (by decide +kernel) (by decide +kernel), tb_in (i := 90) (by decide +kernel) (by decide +kernel), tb_in (i := 678) (by decide +kernel) (by decide +kernel), tb_in (i := 679) (by decide +kernel) (by decide +kernel), (by decide +kernel), (by decide +kernel), (by decide +kernel)⟩
set_option maxRecDepth 100000 in
theorem mw_X2_score : MWs yX2_score cX2_score 7 (some .int) 4 := ⟨tb_in (i := 684) (by decide +kernel) (by decide +kernel), tb_in (i := 90) (by decide +kernel) (by decide +kernel), tb_in (i := 683) (by decide +kernel) (by decide +kernel), (by decide +kernel), (by decide +kernel), (by decide +kernel)⟩
set_option maxRecDepth 100000 in
theorem mw_X2_pairAll : MWi yX2_pairAll cX2_pairAll 4 none 1 := ⟨tb_in (i := 689) (by decide +kernel) (by decide +kernel), tb_in (i := 90) (by decide +kernel) (by decide +kernel), tb_in (i := 688) (by decide +kernel) (by decide +kernel), tb_in (i := 26) (by decide +kernel) (by decide +kernel), (by decide +kernel), (by decide +kernel), (by decide +kernel)⟩
set_option maxRecDepth 100000 in
theorem mw_X2_partnerOf : MWi yX2_partnerOf cX2_partnerOf 2 (some .int) 1 := ⟨tb_in (i := 693) (by decide +kernel) (by decide +kernel), tb_in (i := 90) (by decide +kernel) (by decide +kernel), tb_in (i := 691) (by decide +kernel) (by decide +kernel), tb_in (i := 692) (by decide +kernel) (by decide +kernel), (by decide +kernel), (by decide +kernel), (by decide +kernel)⟩
set_option maxRecDepth 100000 in
theorem mw_X2_countStrangers : MWi yX2_countStrangers cX2_countStrangers 3 (some .int) 0 := ⟨tb_in (i := 706) (by decide +kernel) (by decide +kernel), tb_in (i := 90) (by decide +kernel) (by decide +kernel), tb_in (i := 704) (by decide +kernel) (by decide +kernel), tb_in (i := 705) (by decide +kernel) (by decide +kernel), (by decide +kernel), (by decide +kernel), (by decide +kernel)⟩
set_option maxRecDepth 100000 in
theorem mwc_X3_init : Cond.code yX3_init cX3_init 1 none ∈ tb := tb_in (i := 173) (by decide +kernel) (by decide +kernel)
set_option maxRecDepth 100000 in
theorem mwi_X3_init : Cond.instanceMethod yX3_init ∈ tb := tb_in (i := 172) (by decide +kernel) (by decide +kernel)
set_option maxRecDepth 100000 in
theorem mw_X3_refresh : MWi yX3_refresh cX3_refresh 2 none 1 := ⟨tb_in (i := 483) (by decide +kernel) (by decide +kernel), tb_in (i := 86) (by decide +kernel) (by decide +kernel), tb_in (i := 481) (by decide +kernel) (by decide +kernel), tb_in (i := 482) (by decide +kernel) (by decide +kernel), (by decide +kernel), (by decide +kernel), (by decide +kernel)⟩
set_option maxRecDepth 100000 in
theorem mw_X3_chooseSections : MWi yX3_chooseSections cX3_chooseSections 4 none 0 := ⟨tb_in (i := 493) (by decide +kernel) (by decide +kernel), tb_in (i := 86) (by decide +kernel) (by decide +kernel), tb_in (i := 492) (by decide +kernel) (by decide +kernel), tb_in (i := 5) (by decide +kernel) (by decide +kernel), (by decide +kernel), (by decide +kernel), (by decide +kernel)⟩
set_option maxRecDepth 100000 in
theorem mw_X3_isChanged : MWi yX3_isChanged cX3_isChanged 3 (some .boolean) 2 := ⟨tb_in (i := 499) (by decide +kernel) (by decide +kernel), tb_in (i := 86) (by decide +kernel) (by decide +kernel), tb_in (i := 498) (by decide +kernel) (by decide +kernel), tb_in (i := 6) (by decide +kernel) (by decide +kernel), (by decide +kernel), (by decide +kernel), (by decide +kernel)⟩
set_option maxRecDepth 100000 in
theorem mw_X3_isOther : MWi yX3_isOther cX3_isOther 4 (some .boolean) 3 := ⟨tb_in (i := 503) (by decide +kernel) (by decide +kernel), tb_in (i := 86) (by decide +kernel) (by decide +kernel), tb_in (i := 502) (by decide +kernel) (by decide +kernel), tb_in (i := 7) (by decide +kernel) (by decide +kernel), (by decide +kernel), (by decide +kernel), (by decide +kernel)⟩
set_option maxRecDepth 100000 in
theorem mw_X3_hasNewChild : MWi yX3_hasNewChild cX3_hasNewChild 4 (some .boolean) 2 := ⟨tb_in (i := 508) (by decide +kernel) (by decide +kernel), tb_in (i := 86) (by decide +kernel) (by decide +kernel), tb_in (i := 507) (by decide +kernel) (by decide +kernel), tb_in (i := 8) (by decide +kernel) (by decide +kernel), (by decide +kernel), (by decide +kernel), (by decide +kernel)⟩
set_option maxRecDepth 100000 in
theorem mw_X3_chooseTraits : MWi yX3_chooseTraits cX3_chooseTraits 6 none 2 := ⟨tb_in (i := 517) (by decide +kernel) (by decide +kernel), tb_in (i := 86) (by decide +kernel) (by decide +kernel), tb_in (i := 516) (by decide +kernel) (by decide +kernel), tb_in (i := 9) (by decide +kernel) (by decide +kernel), (by decide +kernel), (by decide +kernel), (by decide +kernel)⟩
set_option maxRecDepth 100000 in
theorem mw_X3_sourceOf : MWi yX3_sourceOf cX3_sourceOf 6 (some (.object "MergedOutline$Outline")) 2 := ⟨tb_in (i := 521) (by decide +kernel) (by decide +kernel), tb_in (i := 86) (by decide +kernel) (by decide +kernel), tb_in (i := 520) (by decide +kernel) (by decide +kernel), tb_in (i := 10) (by decide +kernel) (by decide +kernel), (by decide +kernel), (by decide +kernel), (by decide +kernel)⟩
set_option maxRecDepth 100000 in
theorem mw_X3_isDisputed : MWi yX3_isDisputed cX3_isDisputed 5 (some .boolean) 2 := ⟨tb_in (i := 534) (by decide +kernel) (by decide +kernel), tb_in (i := 86) (by decide +kernel) (by decide +kernel), tb_in (i := 533) (by decide +kernel) (by decide +kernel), tb_in (i := 11) (by decide +kernel) (by decide +kernel), (by decide +kernel), (by decide +kernel), (by decide +kernel)⟩
set_option maxRecDepth 100000 in
theorem mw_X3_rehang : MWi yX3_rehang cX3_rehang 3 none 0 := ⟨tb_in (i := 538) (by decide +kernel) (by decide +kernel), tb_in (i := 86) (by decide +kernel) (by decide +kernel), tb_in (i := 537) (by decide +kernel) (by decide +kernel), tb_in (i := 12) (by decide +kernel) (by decide +kernel), (by decide +kernel), (by decide +kernel), (by decide +kernel)⟩
set_option maxRecDepth 100000 in
theorem mw_X3_nearest : MWi yX3_nearest cX3_nearest 4 (some .int) 1 := ⟨tb_in (i := 542) (by decide +kernel) (by decide +kernel), tb_in (i := 86) (by decide +kernel) (by decide +kernel), tb_in (i := 541) (by decide +kernel) (by decide +kernel), tb_in (i := 13) (by decide +kernel) (by decide +kernel), (by decide +kernel), (by decide +kernel), (by decide +kernel)⟩
set_option maxRecDepth 100000 in
theorem mw_X3_undoRings : MWi yX3_undoRings cX3_undoRings 4 none 0 := ⟨tb_in (i := 546) (by decide +kernel) (by decide +kernel), tb_in (i := 86) (by decide +kernel) (by decide +kernel), tb_in (i := 545) (by decide +kernel) (by decide +kernel), tb_in (i := 14) (by decide +kernel) (by decide +kernel), (by decide +kernel), (by decide +kernel), (by decide +kernel)⟩
set_option maxRecDepth 100000 in
theorem mw_X3_leastInRing : MWi yX3_leastInRing cX3_leastInRing 2 (some .int) 0 := ⟨tb_in (i := 550) (by decide +kernel) (by decide +kernel), tb_in (i := 86) (by decide +kernel) (by decide +kernel), tb_in (i := 549) (by decide +kernel) (by decide +kernel), tb_in (i := 15) (by decide +kernel) (by decide +kernel), (by decide +kernel), (by decide +kernel), (by decide +kernel)⟩
set_option maxRecDepth 100000 in
theorem mw_X3_rehangFromRing : MWi yX3_rehangFromRing cX3_rehangFromRing 3 none 2 := ⟨tb_in (i := 566) (by decide +kernel) (by decide +kernel), tb_in (i := 86) (by decide +kernel) (by decide +kernel), tb_in (i := 565) (by decide +kernel) (by decide +kernel), tb_in (i := 18) (by decide +kernel) (by decide +kernel), (by decide +kernel), (by decide +kernel), (by decide +kernel)⟩
set_option maxRecDepth 100000 in
theorem mw_X3_leastToPutBack : MWi yX3_leastToPutBack cX3_leastToPutBack 3 (some .int) 1 := ⟨tb_in (i := 555) (by decide +kernel) (by decide +kernel), tb_in (i := 86) (by decide +kernel) (by decide +kernel), tb_in (i := 554) (by decide +kernel) (by decide +kernel), tb_in (i := 16) (by decide +kernel) (by decide +kernel), (by decide +kernel), (by decide +kernel), (by decide +kernel)⟩
set_option maxRecDepth 100000 in
theorem mw_X3_isMoveOfOther : MWi yX3_isMoveOfOther cX3_isMoveOfOther 4 (some .boolean) 1 := ⟨tb_in (i := 559) (by decide +kernel) (by decide +kernel), tb_in (i := 86) (by decide +kernel) (by decide +kernel), tb_in (i := 558) (by decide +kernel) (by decide +kernel), tb_in (i := 17) (by decide +kernel) (by decide +kernel), (by decide +kernel), (by decide +kernel), (by decide +kernel)⟩
set_option maxRecDepth 100000 in
theorem mw_X3_orderChildren : MWi yX3_orderChildren cX3_orderChildren 2 none 0 := ⟨tb_in (i := 570) (by decide +kernel) (by decide +kernel), tb_in (i := 86) (by decide +kernel) (by decide +kernel), tb_in (i := 569) (by decide +kernel) (by decide +kernel), tb_in (i := 19) (by decide +kernel) (by decide +kernel), (by decide +kernel), (by decide +kernel), (by decide +kernel)⟩
set_option maxRecDepth 100000 in
theorem mw_X3_keyOf : MWi yX3_keyOf cX3_keyOf 5 (some .int) 1 := ⟨tb_in (i := 574) (by decide +kernel) (by decide +kernel), tb_in (i := 86) (by decide +kernel) (by decide +kernel), tb_in (i := 573) (by decide +kernel) (by decide +kernel), tb_in (i := 20) (by decide +kernel) (by decide +kernel), (by decide +kernel), (by decide +kernel), (by decide +kernel)⟩
set_option maxRecDepth 100000 in
theorem mw_X3_countAhead : MWi yX3_countAhead cX3_countAhead 5 (some .int) 1 := ⟨tb_in (i := 578) (by decide +kernel) (by decide +kernel), tb_in (i := 86) (by decide +kernel) (by decide +kernel), tb_in (i := 577) (by decide +kernel) (by decide +kernel), tb_in (i := 21) (by decide +kernel) (by decide +kernel), (by decide +kernel), (by decide +kernel), (by decide +kernel)⟩
set_option maxRecDepth 100000 in
theorem mw_X3_isAhead : MWi yX3_isAhead cX3_isAhead 3 (some .boolean) 2 := ⟨tb_in (i := 582) (by decide +kernel) (by decide +kernel), tb_in (i := 86) (by decide +kernel) (by decide +kernel), tb_in (i := 581) (by decide +kernel) (by decide +kernel), tb_in (i := 22) (by decide +kernel) (by decide +kernel), (by decide +kernel), (by decide +kernel), (by decide +kernel)⟩
set_option maxRecDepth 100000 in
theorem mwc_X4_init : Cond.code yX4_init cX4_init 1 none ∈ tb := tb_in (i := 113) (by decide +kernel) (by decide +kernel)
set_option maxRecDepth 100000 in
theorem mwi_X4_init : Cond.instanceMethod yX4_init ∈ tb := tb_in (i := 112) (by decide +kernel) (by decide +kernel)
set_option maxRecDepth 100000 in
theorem mw_X4_reset : MWi yX4_reset cX4_reset 2 none 0 := ⟨tb_in (i := 118) (by decide +kernel) (by decide +kernel), tb_in (i := 84) (by decide +kernel) (by decide +kernel), tb_in (i := 116) (by decide +kernel) (by decide +kernel), tb_in (i := 117) (by decide +kernel) (by decide +kernel), (by decide +kernel), (by decide +kernel), (by decide +kernel)⟩
set_option maxRecDepth 100000 in
theorem mw_X4_copyFrom : MWi yX4_copyFrom cX4_copyFrom 2 none 1 := ⟨tb_in (i := 329) (by decide +kernel) (by decide +kernel), tb_in (i := 84) (by decide +kernel) (by decide +kernel), tb_in (i := 327) (by decide +kernel) (by decide +kernel), tb_in (i := 328) (by decide +kernel) (by decide +kernel), (by decide +kernel), (by decide +kernel), (by decide +kernel)⟩
set_option maxRecDepth 100000 in
theorem mw_X4_holds : MWi yX4_holds cX4_holds 2 (some .boolean) 1 := ⟨tb_in (i := 353) (by decide +kernel) (by decide +kernel), tb_in (i := 84) (by decide +kernel) (by decide +kernel), tb_in (i := 351) (by decide +kernel) (by decide +kernel), tb_in (i := 352) (by decide +kernel) (by decide +kernel), (by decide +kernel), (by decide +kernel), (by decide +kernel)⟩
set_option maxRecDepth 100000 in
theorem mw_X4_trait : MWi yX4_trait cX4_trait 3 (some .int) 2 := ⟨tb_in (i := 373) (by decide +kernel) (by decide +kernel), tb_in (i := 84) (by decide +kernel) (by decide +kernel), tb_in (i := 371) (by decide +kernel) (by decide +kernel), tb_in (i := 372) (by decide +kernel) (by decide +kernel), (by decide +kernel), (by decide +kernel), (by decide +kernel)⟩
set_option maxRecDepth 100000 in
theorem mw_X4_put : MWi yX4_put cX4_put 4 none 3 := ⟨tb_in (i := 122) (by decide +kernel) (by decide +kernel), tb_in (i := 84) (by decide +kernel) (by decide +kernel), tb_in (i := 120) (by decide +kernel) (by decide +kernel), tb_in (i := 121) (by decide +kernel) (by decide +kernel), (by decide +kernel), (by decide +kernel), (by decide +kernel)⟩
set_option maxRecDepth 100000 in
theorem mw_X4_include : MWi yX4_include cX4_include 2 none 1 := ⟨tb_in (i := 377) (by decide +kernel) (by decide +kernel), tb_in (i := 84) (by decide +kernel) (by decide +kernel), tb_in (i := 375) (by decide +kernel) (by decide +kernel), tb_in (i := 376) (by decide +kernel) (by decide +kernel), (by decide +kernel), (by decide +kernel), (by decide +kernel)⟩
set_option maxRecDepth 100000 in
theorem mw_X4_count : MWi yX4_count cX4_count 3 (some .int) 0 := ⟨tb_in (i := 461) (by decide +kernel) (by decide +kernel), tb_in (i := 84) (by decide +kernel) (by decide +kernel), tb_in (i := 459) (by decide +kernel) (by decide +kernel), tb_in (i := 460) (by decide +kernel) (by decide +kernel), (by decide +kernel), (by decide +kernel), (by decide +kernel)⟩
set_option maxRecDepth 100000 in
theorem mw_X4_isChild : MWi yX4_isChild cX4_isChild 3 (some .boolean) 2 := ⟨tb_in (i := 361) (by decide +kernel) (by decide +kernel), tb_in (i := 84) (by decide +kernel) (by decide +kernel), tb_in (i := 359) (by decide +kernel) (by decide +kernel), tb_in (i := 360) (by decide +kernel) (by decide +kernel), (by decide +kernel), (by decide +kernel), (by decide +kernel)⟩
set_option maxRecDepth 100000 in
theorem mw_X4_childCount : MWi yX4_childCount cX4_childCount 4 (some .int) 1 := ⟨tb_in (i := 357) (by decide +kernel) (by decide +kernel), tb_in (i := 84) (by decide +kernel) (by decide +kernel), tb_in (i := 355) (by decide +kernel) (by decide +kernel), tb_in (i := 356) (by decide +kernel) (by decide +kernel), (by decide +kernel), (by decide +kernel), (by decide +kernel)⟩
set_option maxRecDepth 100000 in
theorem mw_X4_childAt : MWi yX4_childAt cX4_childAt 4 (some .int) 2 := ⟨tb_in (i := 619) (by decide +kernel) (by decide +kernel), tb_in (i := 84) (by decide +kernel) (by decide +kernel), tb_in (i := 617) (by decide +kernel) (by decide +kernel), tb_in (i := 618) (by decide +kernel) (by decide +kernel), (by decide +kernel), (by decide +kernel), (by decide +kernel)⟩
set_option maxRecDepth 100000 in
theorem mw_X4_isBelow : MWi yX4_isBelow cX4_isBelow 5 (some .boolean) 2 := ⟨tb_in (i := 411) (by decide +kernel) (by decide +kernel), tb_in (i := 84) (by decide +kernel) (by decide +kernel), tb_in (i := 409) (by decide +kernel) (by decide +kernel), tb_in (i := 410) (by decide +kernel) (by decide +kernel), (by decide +kernel), (by decide +kernel), (by decide +kernel)⟩
set_option maxRecDepth 100000 in
theorem mw_X4_countBelow : MWi yX4_countBelow cX4_countBelow 4 (some .int) 1 := ⟨tb_in (i := 606) (by decide +kernel) (by decide +kernel), tb_in (i := 84) (by decide +kernel) (by decide +kernel), tb_in (i := 604) (by decide +kernel) (by decide +kernel), tb_in (i := 605) (by decide +kernel) (by decide +kernel), (by decide +kernel), (by decide +kernel), (by decide +kernel)⟩
set_option maxRecDepth 100000 in
theorem mw_X4_depth : MWi yX4_depth cX4_depth 3 (some .int) 0 := ⟨tb_in (i := 628) (by decide +kernel) (by decide +kernel), tb_in (i := 84) (by decide +kernel) (by decide +kernel), tb_in (i := 626) (by decide +kernel) (by decide +kernel), tb_in (i := 627) (by decide +kernel) (by decide +kernel), (by decide +kernel), (by decide +kernel), (by decide +kernel)⟩
set_option maxRecDepth 100000 in
theorem mw_X4_depthOf : MWi yX4_depthOf cX4_depthOf 5 (some .int) 1 := ⟨tb_in (i := 632) (by decide +kernel) (by decide +kernel), tb_in (i := 84) (by decide +kernel) (by decide +kernel), tb_in (i := 631) (by decide +kernel) (by decide +kernel), tb_in (i := 23) (by decide +kernel) (by decide +kernel), (by decide +kernel), (by decide +kernel), (by decide +kernel)⟩
set_option maxRecDepth 100000 in
theorem mw_X4_following : MWi yX4_following cX4_following 5 (some .int) 1 := ⟨tb_in (i := 615) (by decide +kernel) (by decide +kernel), tb_in (i := 84) (by decide +kernel) (by decide +kernel), tb_in (i := 613) (by decide +kernel) (by decide +kernel), tb_in (i := 614) (by decide +kernel) (by decide +kernel), (by decide +kernel), (by decide +kernel), (by decide +kernel)⟩
set_option maxRecDepth 100000 in
theorem mw_X4_countShared : MWi yX4_countShared cX4_countShared 4 (some .int) 1 := ⟨tb_in (i := 641) (by decide +kernel) (by decide +kernel), tb_in (i := 84) (by decide +kernel) (by decide +kernel), tb_in (i := 639) (by decide +kernel) (by decide +kernel), tb_in (i := 640) (by decide +kernel) (by decide +kernel), (by decide +kernel), (by decide +kernel), (by decide +kernel)⟩
set_option maxRecDepth 100000 in
theorem mw_X4_isSame : MWi yX4_isSame cX4_isSame 4 (some .boolean) 2 := ⟨tb_in (i := 645) (by decide +kernel) (by decide +kernel), tb_in (i := 84) (by decide +kernel) (by decide +kernel), tb_in (i := 644) (by decide +kernel) (by decide +kernel), tb_in (i := 24) (by decide +kernel) (by decide +kernel), (by decide +kernel), (by decide +kernel), (by decide +kernel)⟩
set_option maxRecDepth 100000 in
theorem mw_X4_attach : MWi yX4_attach cX4_attach 4 none 3 := ⟨tb_in (i := 365) (by decide +kernel) (by decide +kernel), tb_in (i := 84) (by decide +kernel) (by decide +kernel), tb_in (i := 363) (by decide +kernel) (by decide +kernel), tb_in (i := 364) (by decide +kernel) (by decide +kernel), (by decide +kernel), (by decide +kernel), (by decide +kernel)⟩
set_option maxRecDepth 100000 in
theorem mw_X4_detach : MWi yX4_detach cX4_detach 4 none 1 := ⟨tb_in (i := 416) (by decide +kernel) (by decide +kernel), tb_in (i := 84) (by decide +kernel) (by decide +kernel), tb_in (i := 414) (by decide +kernel) (by decide +kernel), tb_in (i := 415) (by decide +kernel) (by decide +kernel), (by decide +kernel), (by decide +kernel), (by decide +kernel)⟩
set_option maxRecDepth 100000 in
theorem mw_X4_shift : MWi yX4_shift cX4_shift 5 none 3 := ⟨tb_in (i := 369) (by decide +kernel) (by decide +kernel), tb_in (i := 84) (by decide +kernel) (by decide +kernel), tb_in (i := 368) (by decide +kernel) (by decide +kernel), tb_in (i := 0) (by decide +kernel) (by decide +kernel), (by decide +kernel), (by decide +kernel), (by decide +kernel)⟩
set_option maxRecDepth 100000 in
theorem mw_X4_drop : MWi yX4_drop cX4_drop 4 (some .int) 1 := ⟨tb_in (i := 440) (by decide +kernel) (by decide +kernel), tb_in (i := 84) (by decide +kernel) (by decide +kernel), tb_in (i := 438) (by decide +kernel) (by decide +kernel), tb_in (i := 439) (by decide +kernel) (by decide +kernel), (by decide +kernel), (by decide +kernel), (by decide +kernel)⟩
set_option maxRecDepth 100000 in
theorem mwc_X5_init : Cond.code yX5_init cX5_init 1 none ∈ tb := tb_in (i := 229) (by decide +kernel) (by decide +kernel)
set_option maxRecDepth 100000 in
theorem mwi_X5_init : Cond.instanceMethod yX5_init ∈ tb := tb_in (i := 228) (by decide +kernel) (by decide +kernel)
set_option maxRecDepth 100000 in
theorem mw_X5_write : MWi yX5_write cX5_write 4 none 2 := ⟨tb_in (i := 664) (by decide +kernel) (by decide +kernel), tb_in (i := 89) (by decide +kernel) (by decide +kernel), tb_in (i := 662) (by decide +kernel) (by decide +kernel), tb_in (i := 663) (by decide +kernel) (by decide +kernel), (by decide +kernel), (by decide +kernel), (by decide +kernel)⟩
set_option maxRecDepth 100000 in
theorem mw_X5_writeChange : MWi yX5_writeChange cX5_writeChange 6 none 5 := ⟨tb_in (i := 670) (by decide +kernel) (by decide +kernel), tb_in (i := 89) (by decide +kernel) (by decide +kernel), tb_in (i := 669) (by decide +kernel) (by decide +kernel), tb_in (i := 25) (by decide +kernel) (by decide +kernel), (by decide +kernel), (by decide +kernel), (by decide +kernel)⟩
set_option maxRecDepth 100000 in
theorem mwc_X6_init : Cond.code yX6_init cX6_init 3 none ∈ tb := tb_in (i := 183) (by decide +kernel) (by decide +kernel)
set_option maxRecDepth 100000 in
theorem mwi_X6_init : Cond.instanceMethod yX6_init ∈ tb := tb_in (i := 182) (by decide +kernel) (by decide +kernel)
set_option maxRecDepth 100000 in
theorem mw_X6_wipe : MWi yX6_wipe cX6_wipe 1 none 0 := ⟨tb_in (i := 489) (by decide +kernel) (by decide +kernel), tb_in (i := 87) (by decide +kernel) (by decide +kernel), tb_in (i := 487) (by decide +kernel) (by decide +kernel), tb_in (i := 488) (by decide +kernel) (by decide +kernel), (by decide +kernel), (by decide +kernel), (by decide +kernel)⟩
set_option maxRecDepth 100000 in
theorem mw_X6_tell : MWi yX6_tell cX6_tell 4 none 3 := ⟨tb_in (i := 513) (by decide +kernel) (by decide +kernel), tb_in (i := 87) (by decide +kernel) (by decide +kernel), tb_in (i := 511) (by decide +kernel) (by decide +kernel), tb_in (i := 512) (by decide +kernel) (by decide +kernel), (by decide +kernel), (by decide +kernel), (by decide +kernel)⟩
set_option maxRecDepth 100000 in
theorem mw_X6_answer : MWi yX6_answer cX6_answer 3 (some .int) 2 := ⟨tb_in (i := 656) (by decide +kernel) (by decide +kernel), tb_in (i := 87) (by decide +kernel) (by decide +kernel), tb_in (i := 654) (by decide +kernel) (by decide +kernel), tb_in (i := 655) (by decide +kernel) (by decide +kernel), (by decide +kernel), (by decide +kernel), (by decide +kernel)⟩
set_option maxRecDepth 100000 in
theorem mwc_X7_init : Cond.code yX7_init cX7_init 1 none ∈ tb := tb_in (i := 258) (by decide +kernel) (by decide +kernel)
set_option maxRecDepth 100000 in
theorem mwi_X7_init : Cond.instanceMethod yX7_init ∈ tb := tb_in (i := 257) (by decide +kernel) (by decide +kernel)
set_option maxRecDepth 100000 in
theorem mw_X7_append : MWi yX7_append cX7_append 2 (some .boolean) 1 := ⟨tb_in (i := 714) (by decide +kernel) (by decide +kernel), tb_in (i := 91) (by decide +kernel) (by decide +kernel), tb_in (i := 712) (by decide +kernel) (by decide +kernel), tb_in (i := 713) (by decide +kernel) (by decide +kernel), (by decide +kernel), (by decide +kernel), (by decide +kernel)⟩
set_option maxRecDepth 100000 in
theorem mw_X7_wipe : MWi yX7_wipe cX7_wipe 2 (some .int) 0 := ⟨tb_in (i := 722) (by decide +kernel) (by decide +kernel), tb_in (i := 91) (by decide +kernel) (by decide +kernel), tb_in (i := 720) (by decide +kernel) (by decide +kernel), tb_in (i := 721) (by decide +kernel) (by decide +kernel), (by decide +kernel), (by decide +kernel), (by decide +kernel)⟩
set_option maxRecDepth 100000 in
theorem mw_X7_read : MWi yX7_read cX7_read 2 (some .int) 0 := ⟨tb_in (i := 730) (by decide +kernel) (by decide +kernel), tb_in (i := 91) (by decide +kernel) (by decide +kernel), tb_in (i := 728) (by decide +kernel) (by decide +kernel), tb_in (i := 729) (by decide +kernel) (by decide +kernel), (by decide +kernel), (by decide +kernel), (by decide +kernel)⟩
set_option maxRecDepth 100000 in
theorem mw_X7_takes : MWi yX7_takes cX7_takes 2 (some .boolean) 1 := ⟨tb_in (i := 734) (by decide +kernel) (by decide +kernel), tb_in (i := 91) (by decide +kernel) (by decide +kernel), tb_in (i := 733) (by decide +kernel) (by decide +kernel), tb_in (i := 28) (by decide +kernel) (by decide +kernel), (by decide +kernel), (by decide +kernel), (by decide +kernel)⟩
set_option maxRecDepth 100000 in
theorem mw_X7_opens : MWi yX7_opens cX7_opens 3 (some .boolean) 1 := ⟨tb_in (i := 738) (by decide +kernel) (by decide +kernel), tb_in (i := 91) (by decide +kernel) (by decide +kernel), tb_in (i := 737) (by decide +kernel) (by decide +kernel), tb_in (i := 29) (by decide +kernel) (by decide +kernel), (by decide +kernel), (by decide +kernel), (by decide +kernel)⟩
set_option maxRecDepth 100000 in
theorem mw_X7_numbersOf : MWs yX7_numbersOf cX7_numbersOf 1 (some .int) 1 := ⟨tb_in (i := 741) (by decide +kernel) (by decide +kernel), tb_in (i := 91) (by decide +kernel) (by decide +kernel), tb_in (i := 740) (by decide +kernel) (by decide +kernel), (by decide +kernel), (by decide +kernel), (by decide +kernel)⟩
set_option maxRecDepth 100000 in
theorem mw_X7_takesFigure : MWi yX7_takesFigure cX7_takesFigure 2 (some .boolean) 1 := ⟨tb_in (i := 752) (by decide +kernel) (by decide +kernel), tb_in (i := 91) (by decide +kernel) (by decide +kernel), tb_in (i := 751) (by decide +kernel) (by decide +kernel), tb_in (i := 31) (by decide +kernel) (by decide +kernel), (by decide +kernel), (by decide +kernel), (by decide +kernel)⟩
set_option maxRecDepth 100000 in
theorem mw_X7_closes : MWi yX7_closes cX7_closes 1 (some .boolean) 0 := ⟨tb_in (i := 760) (by decide +kernel) (by decide +kernel), tb_in (i := 91) (by decide +kernel) (by decide +kernel), tb_in (i := 759) (by decide +kernel) (by decide +kernel), tb_in (i := 32) (by decide +kernel) (by decide +kernel), (by decide +kernel), (by decide +kernel), (by decide +kernel)⟩
set_option maxRecDepth 100000 in
theorem mw_X7_put : MWi yX7_put cX7_put 4 none 3 := ⟨tb_in (i := 745) (by decide +kernel) (by decide +kernel), tb_in (i := 91) (by decide +kernel) (by decide +kernel), tb_in (i := 744) (by decide +kernel) (by decide +kernel), tb_in (i := 30) (by decide +kernel) (by decide +kernel), (by decide +kernel), (by decide +kernel), (by decide +kernel)⟩
set_option maxRecDepth 100000 in
theorem mw_X7_cell : MWi yX7_cell cX7_cell 3 (some .int) 2 := ⟨tb_in (i := 756) (by decide +kernel) (by decide +kernel), tb_in (i := 91) (by decide +kernel) (by decide +kernel), tb_in (i := 754) (by decide +kernel) (by decide +kernel), tb_in (i := 755) (by decide +kernel) (by decide +kernel), (by decide +kernel), (by decide +kernel), (by decide +kernel)⟩
set_option maxRecDepth 100000 in
theorem mw_X7_isCell : MWs yX7_isCell cX7_isCell 2 (some .boolean) 2 := ⟨tb_in (i := 748) (by decide +kernel) (by decide +kernel), tb_in (i := 91) (by decide +kernel) (by decide +kernel), tb_in (i := 747) (by decide +kernel) (by decide +kernel), (by decide +kernel), (by decide +kernel), (by decide +kernel)⟩
set_option maxRecDepth 100000 in
theorem mw_J6_bitCount_0f7a4 : MWs yJ6_bitCount_0f7a4 cJ6_bitCount_0f7a4 1 (some .int) 1 := ⟨tb_in (i := 446) (by decide +kernel) (by decide +kernel), tb_in (i := 94) (by decide +kernel) (by decide +kernel), tb_in (i := 445) (by decide +kernel) (by decide +kernel), (by decide +kernel), (by decide +kernel), (by decide +kernel)⟩
set_option maxRecDepth 100000 in
theorem ki_X0 : Cond.initialized RX0 ∈ tb := tb_in (i := 83) (by decide +kernel) (by decide +kernel)
set_option maxRecDepth 100000 in
theorem kn_X0 : Cond.instantiable RX0 5 ∈ tb := tb_in (i := 104) (by decide +kernel) (by decide +kernel)
set_option maxRecDepth 100000 in
theorem ki_X1 : Cond.initialized RX1 ∈ tb := tb_in (i := 85) (by decide +kernel) (by decide +kernel)
set_option maxRecDepth 100000 in
theorem kn_X1 : Cond.instantiable RX1 3 ∈ tb := tb_in (i := 150) (by decide +kernel) (by decide +kernel)
set_option maxRecDepth 100000 in
theorem ki_X2 : Cond.initialized RX2 ∈ tb := tb_in (i := 90) (by decide +kernel) (by decide +kernel)
set_option maxRecDepth 100000 in
theorem kn_X2 : Cond.instantiable RX2 3 ∈ tb := tb_in (i := 239) (by decide +kernel) (by decide +kernel)
set_option maxRecDepth 100000 in
theorem ki_X3 : Cond.initialized RX3 ∈ tb := tb_in (i := 86) (by decide +kernel) (by decide +kernel)
set_option maxRecDepth 100000 in
theorem kn_X3 : Cond.instantiable RX3 6 ∈ tb := tb_in (i := 170) (by decide +kernel) (by decide +kernel)
set_option maxRecDepth 100000 in
theorem ki_X4 : Cond.initialized RX4 ∈ tb := tb_in (i := 84) (by decide +kernel) (by decide +kernel)
set_option maxRecDepth 100000 in
theorem kn_X4 : Cond.instantiable RX4 1 ∈ tb := tb_in (i := 110) (by decide +kernel) (by decide +kernel)
set_option maxRecDepth 100000 in
theorem ki_X5 : Cond.initialized RX5 ∈ tb := tb_in (i := 89) (by decide +kernel) (by decide +kernel)
set_option maxRecDepth 100000 in
theorem kn_X5 : Cond.instantiable RX5 1 ∈ tb := tb_in (i := 226) (by decide +kernel) (by decide +kernel)
set_option maxRecDepth 100000 in
theorem ki_X6 : Cond.initialized RX6 ∈ tb := tb_in (i := 87) (by decide +kernel) (by decide +kernel)
set_option maxRecDepth 100000 in
theorem kn_X6 : Cond.instantiable RX6 4 ∈ tb := tb_in (i := 180) (by decide +kernel) (by decide +kernel)
set_option maxRecDepth 100000 in
theorem ki_X7 : Cond.initialized RX7 ∈ tb := tb_in (i := 91) (by decide +kernel) (by decide +kernel)
set_option maxRecDepth 100000 in
theorem kn_X7 : Cond.instantiable RX7 8 ∈ tb := tb_in (i := 255) (by decide +kernel) (by decide +kernel)
set_option maxRecDepth 100000 in
theorem ki_X8 : Cond.initialized RX8 ∈ tb := tb_in (i := 82) (by decide +kernel) (by decide +kernel)
set_option maxRecDepth 100000 in
theorem kn_X8 : Cond.instantiable RX8 10 ∈ tb := tb_in (i := 96) (by decide +kernel) (by decide +kernel)
set_option maxRecDepth 100000 in
theorem ki_X9 : Cond.initialized RX9 ∈ tb := tb_in (i := 92) (by decide +kernel) (by decide +kernel)
set_option maxRecDepth 100000 in
theorem kn_X9 : Cond.instantiable RX9 22 ∈ tb := tb_in (i := 798) (by decide +kernel) (by decide +kernel)
set_option maxRecDepth 100000 in
theorem ki_J6 : Cond.initialized RJ6 ∈ tb := tb_in (i := 94) (by decide +kernel) (by decide +kernel)
set_option maxRecDepth 100000 in
theorem ki_J9 : Cond.initialized RJ9 ∈ tb := tb_in (i := 88) (by decide +kernel) (by decide +kernel)
set_option maxRecDepth 100000 in
theorem ki_J10 : Cond.initialized RJ10 ∈ tb := tb_in (i := 93) (by decide +kernel) (by decide +kernel)
set_option maxRecDepth 100000 in
theorem ki_L : Cond.initialized RL ∈ tb := tb_in (i := 81) (by decide +kernel) (by decide +kernel)
set_option maxRecDepth 100000 in
theorem k_acn : Cond.native arraycopyName ∈ tb := tb_in (i := 332) (by decide +kernel) (by decide +kernel)
set_option maxRecDepth 100000 in
theorem k_acs : Cond.static arraycopyName ∈ tb := tb_in (i := 331) (by decide +kernel) (by decide +kernel)
set_option maxRecDepth 100000 in
theorem k_maxs : Cond.static Lib.Math.max.name ∈ tb := tb_in (i := 186) (by decide +kernel) (by decide +kernel)
set_option maxRecDepth 100000 in
theorem k_maxc : Cond.code Lib.Math.max.name Lib.Math.max.code 2 (some .int) ∈ tb := tb_in (i := 187) (by decide +kernel) (by decide +kernel)
set_option maxRecDepth 100000 in
theorem k_mins : Cond.static Lib.Math.min.name ∈ tb := tb_in (i := 397) (by decide +kernel) (by decide +kernel)
set_option maxRecDepth 100000 in
theorem k_minc : Cond.code Lib.Math.min.name Lib.Math.min.code 2 (some .int) ∈ tb := tb_in (i := 398) (by decide +kernel) (by decide +kernel)
set_option maxRecDepth 100000 in
theorem k_oic : Cond.code objectInit ⟨#[0xb1]⟩ 1 none ∈ tb := tb_in (i := 102) (by decide +kernel) (by decide +kernel)
set_option maxRecDepth 100000 in
theorem k_oii : Cond.instanceMethod objectInit ∈ tb := tb_in (i := 101) (by decide +kernel) (by decide +kernel)
set_option maxRecDepth 100000 in
theorem k_ac_int : Cond.arrayClass .int ∈ tb := tb_in (i := 127) (by decide +kernel) (by decide +kernel)
set_option maxRecDepth 100000 in
theorem k_ac_boolean : Cond.arrayClass .boolean ∈ tb := tb_in (i := 224) (by decide +kernel) (by decide +kernel)
