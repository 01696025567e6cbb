theorem mlM_75 : Cond.methodLink "WordCheckerModel" 75 yM_in ∈ gT := gT_1 (i := 802) (by decide +kernel) rfl
theorem flM_79 : Cond.fieldLink "WordCheckerModel" 79 "WordCheckerModel" "size" "I" ∈ gT := gT_1 (i := 714) (by decide +kernel) rfl
theorem flM_7 : Cond.fieldLink "WordCheckerModel" 7 "WordCheckerModel" "typed" "[I" ∈ gT := gT_1 (i := 713) (by decide +kernel) rfl
theorem flM_82 : Cond.fieldLink "WordCheckerModel" 82 "WordCheckerModel" "words" "I" ∈ gT := gT_1 (i := 715) (by decide +kernel) rfl
theorem flM_13 : Cond.fieldLink "WordCheckerModel" 13 "WordCheckerModel" "from" "[I" ∈ gT := gT_1 (i := 716) (by decide +kernel) rfl
theorem flM_16 : Cond.fieldLink "WordCheckerModel" 16 "WordCheckerModel" "to" "[I" ∈ gT := gT_1 (i := 717) (by decide +kernel) rfl
theorem mlM_85 : Cond.methodLink "WordCheckerModel" 85 yM_digits ∈ gT := gT_1 (i := 821) (by decide +kernel) rfl
theorem clM_89 : Cond.constantLong "WordCheckerModel" 89 32 ∈ gT := gT_1 (i := 833) (by decide +kernel) rfl
theorem clM_91 : Cond.constantLong "WordCheckerModel" 91 96 ∈ gT := gT_1 (i := 834) (by decide +kernel) rfl
theorem clM_93 : Cond.constantLong "WordCheckerModel" 93 638548 ∈ gT := gT_1 (i := 838) (by decide +kernel) rfl
theorem clM_95 : Cond.constantLong "WordCheckerModel" 95 9913012 ∈ gT := gT_1 (i := 839) (by decide +kernel) rfl
theorem clM_97 : Cond.constantLong "WordCheckerModel" 97 20579973 ∈ gT := gT_1 (i := 840) (by decide +kernel) rfl
theorem clM_99 : Cond.constantLong "WordCheckerModel" 99 116870788 ∈ gT := gT_1 (i := 841) (by decide +kernel) rfl
theorem clM_101 : Cond.constantLong "WordCheckerModel" 101 14836 ∈ gT := gT_1 (i := 842) (by decide +kernel) rfl
theorem clM_103 : Cond.constantLong "WordCheckerModel" 103 14503 ∈ gT := gT_1 (i := 843) (by decide +kernel) rfl
theorem clM_105 : Cond.constantLong "WordCheckerModel" 105 19042802 ∈ gT := gT_1 (i := 844) (by decide +kernel) rfl
theorem clM_107 : Cond.constantLong "WordCheckerModel" 107 1476 ∈ gT := gT_1 (i := 845) (by decide +kernel) rfl
theorem clM_109 : Cond.constantLong "WordCheckerModel" 109 498 ∈ gT := gT_1 (i := 846) (by decide +kernel) rfl
theorem clM_111 : Cond.constantLong "WordCheckerModel" 111 25074 ∈ gT := gT_1 (i := 847) (by decide +kernel) rfl
theorem clM_113 : Cond.constantLong "WordCheckerModel" 113 1156 ∈ gT := gT_1 (i := 848) (by decide +kernel) rfl
theorem clM_115 : Cond.constantLong "WordCheckerModel" 115 20130 ∈ gT := gT_1 (i := 849) (by decide +kernel) rfl
theorem clM_117 : Cond.constantLong "WordCheckerModel" 117 13996 ∈ gT := gT_1 (i := 850) (by decide +kernel) rfl
theorem clM_119 : Cond.constantLong "WordCheckerModel" 119 692534 ∈ gT := gT_1 (i := 851) (by decide +kernel) rfl
theorem clM_121 : Cond.constantLong "WordCheckerModel" 121 706733 ∈ gT := gT_1 (i := 852) (by decide +kernel) rfl
theorem clM_123 : Cond.constantLong "WordCheckerModel" 123 19852 ∈ gT := gT_1 (i := 853) (by decide +kernel) rfl
theorem clM_125 : Cond.constantLong "WordCheckerModel" 125 20044 ∈ gT := gT_1 (i := 854) (by decide +kernel) rfl
theorem clM_127 : Cond.constantLong "WordCheckerModel" 127 177 ∈ gT := gT_1 (i := 855) (by decide +kernel) rfl
theorem clM_129 : Cond.constantLong "WordCheckerModel" 129 21908 ∈ gT := gT_1 (i := 856) (by decide +kernel) rfl
theorem clM_131 : Cond.constantLong "WordCheckerModel" 131 19860 ∈ gT := gT_1 (i := 857) (by decide +kernel) rfl
theorem clM_133 : Cond.constantLong "WordCheckerModel" 133 116853812 ∈ gT := gT_1 (i := 858) (by decide +kernel) rfl
theorem clM_135 : Cond.constantLong "WordCheckerModel" 135 20325477 ∈ gT := gT_1 (i := 859) (by decide +kernel) rfl
theorem clM_137 : Cond.constantLong "WordCheckerModel" 137 694036 ∈ gT := gT_1 (i := 860) (by decide +kernel) rfl
theorem clM_139 : Cond.constantLong "WordCheckerModel" 139 628500 ∈ gT := gT_1 (i := 861) (by decide +kernel) rfl
theorem clM_141 : Cond.constantLong "WordCheckerModel" 141 9861 ∈ gT := gT_1 (i := 862) (by decide +kernel) rfl
theorem clM_143 : Cond.constantLong "WordCheckerModel" 143 594980 ∈ gT := gT_1 (i := 863) (by decide +kernel) rfl
theorem clM_145 : Cond.constantLong "WordCheckerModel" 145 24716933 ∈ gT := gT_1 (i := 864) (by decide +kernel) rfl
theorem clM_147 : Cond.constantLong "WordCheckerModel" 147 309556 ∈ gT := gT_1 (i := 865) (by decide +kernel) rfl
theorem clM_149 : Cond.constantLong "WordCheckerModel" 149 464660 ∈ gT := gT_1 (i := 866) (by decide +kernel) rfl
theorem clM_151 : Cond.constantLong "WordCheckerModel" 151 2084 ∈ gT := gT_1 (i := 867) (by decide +kernel) rfl
theorem clM_153 : Cond.constantLong "WordCheckerModel" 153 122547918120404 ∈ gT := gT_1 (i := 868) (by decide +kernel) rfl
theorem flM_155 : Cond.fieldLink "WordCheckerModel" 155 "WordCheckerModel" "lines" "I" ∈ gT := gT_1 (i := 719) (by decide +kernel) rfl
theorem flM_19 : Cond.fieldLink "WordCheckerModel" 19 "WordCheckerModel" "id" "[I" ∈ gT := gT_1 (i := 720) (by decide +kernel) rfl
theorem flM_22 : Cond.fieldLink "WordCheckerModel" 22 "WordCheckerModel" "kind" "[I" ∈ gT := gT_1 (i := 721) (by decide +kernel) rfl
theorem flM_53 : Cond.fieldLink "WordCheckerModel" 53 "WordCheckerModel" "array" "[Z" ∈ gT := gT_1 (i := 731) (by decide +kernel) rfl
theorem flM_56 : Cond.fieldLink "WordCheckerModel" 56 "WordCheckerModel" "width" "[I" ∈ gT := gT_1 (i := 732) (by decide +kernel) rfl
theorem flM_158 : Cond.fieldLink "WordCheckerModel" 158 "WordCheckerModel" "at" "I" ∈ gT := gT_1 (i := 718) (by decide +kernel) rfl
theorem mlM_161 : Cond.methodLink "WordCheckerModel" 161 yM_number ∈ gT := gT_1 (i := 817) (by decide +kernel) rfl
theorem mlM_165 : Cond.methodLink "WordCheckerModel" 165 yM_lineOf ∈ gT := gT_1 (i := 879) (by decide +kernel) rfl
theorem flM_168 : Cond.fieldLink "WordCheckerModel" 168 "WordCheckerModel" "turned" "Z" ∈ gT := gT_1 (i := 733) (by decide +kernel) rfl
theorem mlM_172 : Cond.methodLink "WordCheckerModel" 172 yM_isNode ∈ gT := gT_1 (i := 907) (by decide +kernel) rfl
theorem flM_25 : Cond.fieldLink "WordCheckerModel" 25 "WordCheckerModel" "sort" "[I" ∈ gT := gT_1 (i := 722) (by decide +kernel) rfl
theorem mlM_176 : Cond.methodLink "WordCheckerModel" 176 yM_nodeWord ∈ gT := gT_1 (i := 903) (by decide +kernel) rfl
theorem flM_28 : Cond.fieldLink "WordCheckerModel" 28 "WordCheckerModel" "a" "[I" ∈ gT := gT_1 (i := 723) (by decide +kernel) rfl
theorem flM_37 : Cond.fieldLink "WordCheckerModel" 37 "WordCheckerModel" "turnA" "[Z" ∈ gT := gT_1 (i := 726) (by decide +kernel) rfl
theorem mlM_180 : Cond.methodLink "WordCheckerModel" 180 yM_sameSort ∈ gT := gT_1 (i := 911) (by decide +kernel) rfl
theorem mlM_184 : Cond.methodLink "WordCheckerModel" 184 yM_on ∈ gT := gT_1 (i := 825) (by decide +kernel) rfl
theorem flM_31 : Cond.fieldLink "WordCheckerModel" 31 "WordCheckerModel" "b" "[I" ∈ gT := gT_1 (i := 724) (by decide +kernel) rfl
theorem flM_41 : Cond.fieldLink "WordCheckerModel" 41 "WordCheckerModel" "turnB" "[Z" ∈ gT := gT_1 (i := 727) (by decide +kernel) rfl
theorem mlM_188 : Cond.methodLink "WordCheckerModel" 188 yM_isBits ∈ gT := gT_1 (i := 883) (by decide +kernel) rfl
theorem mlM_191 : Cond.methodLink "WordCheckerModel" 191 yM_letters ∈ gT := gT_1 (i := 829) (by decide +kernel) rfl
theorem clM_195 : Cond.constantLong "WordCheckerModel" 195 1656889 ∈ gT := gT_1 (i := 873) (by decide +kernel) rfl
theorem clM_197 : Cond.constantLong "WordCheckerModel" 197 77224099 ∈ gT := gT_1 (i := 874) (by decide +kernel) rfl
theorem mlM_199 : Cond.methodLink "WordCheckerModel" 199 yM_sortWord ∈ gT := gT_1 (i := 875) (by decide +kernel) rfl
theorem mlM_202 : Cond.methodLink "WordCheckerModel" 202 yM_bits ∈ gT := gT_1 (i := 895) (by decide +kernel) rfl
theorem mlM_205 : Cond.methodLink "WordCheckerModel" 205 yM_total ∈ gT := gT_1 (i := 891) (by decide +kernel) rfl
theorem flM_62 : Cond.fieldLink "WordCheckerModel" 62 "WordCheckerModel" "after" "[I" ∈ gT := gT_1 (i := 735) (by decide +kernel) rfl
theorem mlM_208 : Cond.methodLink "WordCheckerModel" 208 yM_seenFree ∈ gT := gT_1 (i := 923) (by decide +kernel) rfl
theorem flM_34 : Cond.fieldLink "WordCheckerModel" 34 "WordCheckerModel" "c" "[I" ∈ gT := gT_1 (i := 725) (by decide +kernel) rfl
theorem mlM_211 : Cond.methodLink "WordCheckerModel" 211 yM_has ∈ gT := gT_1 (i := 915) (by decide +kernel) rfl
theorem mlM_214 : Cond.methodLink "WordCheckerModel" 214 yM_fixed ∈ gT := gT_1 (i := 919) (by decide +kernel) rfl
theorem mlM_217 : Cond.methodLink "WordCheckerModel" 217 yM_bitsA ∈ gT := gT_1 (i := 927) (by decide +kernel) rfl
theorem flM_47 : Cond.fieldLink "WordCheckerModel" 47 "WordCheckerModel" "u" "[I" ∈ gT := gT_1 (i := 729) (by decide +kernel) rfl
theorem flM_50 : Cond.fieldLink "WordCheckerModel" 50 "WordCheckerModel" "l" "[I" ∈ gT := gT_1 (i := 730) (by decide +kernel) rfl
theorem mlM_220 : Cond.methodLink "WordCheckerModel" 220 yM_bitsB ∈ gT := gT_1 (i := 950) (by decide +kernel) rfl
theorem flM_44 : Cond.fieldLink "WordCheckerModel" 44 "WordCheckerModel" "turnC" "[Z" ∈ gT := gT_1 (i := 728) (by decide +kernel) rfl
theorem mlM_223 : Cond.methodLink "WordCheckerModel" 223 yM_readA ∈ gT := gT_1 (i := 938) (by decide +kernel) rfl
theorem mlM_227 : Cond.methodLink "WordCheckerModel" 227 yM_readB ∈ gT := gT_1 (i := 942) (by decide +kernel) rfl
theorem mlM_230 : Cond.methodLink "WordCheckerModel" 230 yM_readConcat ∈ gT := gT_1 (i := 946) (by decide +kernel) rfl
theorem mlM_234 : Cond.methodLink "WordCheckerModel" 234 yM_readSlice ∈ gT := gT_1 (i := 954) (by decide +kernel) rfl
theorem mlM_237 : Cond.methodLink "WordCheckerModel" 237 yM_readExtended ∈ gT := gT_1 (i := 958) (by decide +kernel) rfl
theorem mlM_240 : Cond.methodLink "WordCheckerModel" 240 yM_readIte ∈ gT := gT_1 (i := 962) (by decide +kernel) rfl
theorem mlM_243 : Cond.methodLink "WordCheckerModel" 243 yM_readPlace ∈ gT := gT_1 (i := 966) (by decide +kernel) rfl
theorem mlM_246 : Cond.methodLink "WordCheckerModel" 246 yM_kindOf ∈ gT := gT_1 (i := 835) (by decide +kernel) rfl
theorem mlM_250 : Cond.methodLink "WordCheckerModel" 250 yM_readSort ∈ gT := gT_1 (i := 869) (by decide +kernel) rfl
theorem mlM_253 : Cond.methodLink "WordCheckerModel" 253 yM_readState ∈ gT := gT_1 (i := 887) (by decide +kernel) rfl
theorem mlM_256 : Cond.methodLink "WordCheckerModel" 256 yM_readInit ∈ gT := gT_1 (i := 899) (by decide +kernel) rfl
theorem mlM_259 : Cond.methodLink "WordCheckerModel" 259 yM_asked ∈ gT := gT_1 (i := 931) (by decide +kernel) rfl
theorem mlM_262 : Cond.methodLink "WordCheckerModel" 262 yM_readRest ∈ gT := gT_1 (i := 934) (by decide +kernel) rfl
theorem mlM_265 : Cond.methodLink "WordCheckerModel" 265 yM_split ∈ gT := gT_1 (i := 809) (by decide +kernel) rfl
theorem mlM_268 : Cond.methodLink "WordCheckerModel" 268 yM_readLine ∈ gT := gT_1 (i := 813) (by decide +kernel) rfl
theorem flM_271 : Cond.fieldLink "WordCheckerModel" 271 "WordCheckerModel" "running" "Z" ∈ gT := gT_1 (i := 736) (by decide +kernel) rfl
theorem flM_68 : Cond.fieldLink "WordCheckerModel" 68 "WordCheckerModel" "keptSteps" "I" ∈ gT := gT_1 (i := 738) (by decide +kernel) rfl
theorem flM_59 : Cond.fieldLink "WordCheckerModel" 59 "WordCheckerModel" "value" "[I" ∈ gT := gT_1 (i := 734) (by decide +kernel) rfl
theorem mlM_274 : Cond.methodLink "WordCheckerModel" 274 yM_get ∈ gT := gT_1 (i := 990) (by decide +kernel) rfl
theorem mlM_278 : Cond.methodLink "WordCheckerModel" 278 yM_elementOf ∈ gT := gT_1 (i := 998) (by decide +kernel) rfl
theorem mlM_282 : Cond.methodLink "WordCheckerModel" 282 yM_sign ∈ gT := gT_1 (i := 994) (by decide +kernel) rfl
theorem mlM_285 : Cond.methodLink "WordCheckerModel" 285 yM_written ∈ gT := gT_1 (i := 1002) (by decide +kernel) rfl
theorem mlM_288 : Cond.methodLink "WordCheckerModel" 288 yM_binary ∈ gT := gT_1 (i := 1006) (by decide +kernel) rfl
theorem mlM_292 : Cond.methodLink "WordCheckerModel" 292 yM_compute ∈ gT := gT_1 (i := 986) (by decide +kernel) rfl
theorem mlM_295 : Cond.methodLink "WordCheckerModel" 295 yM_settle ∈ gT := gT_1 (i := 982) (by decide +kernel) rfl
theorem mlM_298 : Cond.methodLink "WordCheckerModel" 298 yM_chosen ∈ gT := gT_1 (i := 1014) (by decide +kernel) rfl
theorem flM_65 : Cond.fieldLink "WordCheckerModel" 65 "WordCheckerModel" "hand" "[I" ∈ gT := gT_1 (i := 737) (by decide +kernel) rfl
theorem mlM_301 : Cond.methodLink "WordCheckerModel" 301 yM_initz ∈ gT := gT_1 (i := 978) (by decide +kernel) rfl
theorem mlM_304 : Cond.methodLink "WordCheckerModel" 304 yM_deal ∈ gT := gT_1 (i := 1010) (by decide +kernel) rfl
theorem mlM_308 : Cond.methodLink "WordCheckerModel" 308 yM_remember ∈ gT := gT_1 (i := 1018) (by decide +kernel) rfl
theorem mlM_311 : Cond.methodLink "WordCheckerModel" 311 yM_recall ∈ gT := gT_1 (i := 1026) (by decide +kernel) rfl
theorem mlM_314 : Cond.methodLink "WordCheckerModel" 314 yM_advance ∈ gT := gT_1 (i := 1034) (by decide +kernel) rfl
theorem mlM_317 : Cond.methodLink "WordCheckerModel" 317 yM_start ∈ gT := gT_1 (i := 1058) (by decide +kernel) rfl
theorem mlM_321 : Cond.methodLink "WordCheckerModel" 321 yM_put ∈ gT := gT_1 (i := 1062) (by decide +kernel) rfl
theorem mlM_324 : Cond.methodLink "WordCheckerModel" 324 yM_holds ∈ gT := gT_1 (i := 1066) (by decide +kernel) rfl
theorem mlM_327 : Cond.methodLink "WordCheckerModel" 327 yM_isBad ∈ gT := gT_1 (i := 1070) (by decide +kernel) rfl
theorem flM_72 : Cond.fieldLink "WordCheckerModel" 72 "WordCheckerModel" "seen" "[I" ∈ gT := gT_1 (i := 740) (by decide +kernel) rfl
theorem mlM_330 : Cond.methodLink "WordCheckerModel" 330 yM_states ∈ gT := gT_1 (i := 1087) (by decide +kernel) rfl
theorem mlM_333 : Cond.methodLink "WordCheckerModel" 333 yM_width ∈ gT := gT_1 (i := 1050) (by decide +kernel) rfl
theorem mlM_336 : Cond.methodLink "WordCheckerModel" 336 yM_places ∈ gT := gT_1 (i := 1046) (by decide +kernel) rfl
theorem mlM_339 : Cond.methodLink "WordCheckerModel" 339 yM_leads ∈ gT := gT_1 (i := 1054) (by decide +kernel) rfl
theorem flM_342 : Cond.fieldLink "WordCheckerModel" 342 "WordCheckerModel" "keptNumber" "I" ∈ gT := gT_1 (i := 739) (by decide +kernel) rfl
theorem mlM_345 : Cond.methodLink "WordCheckerModel" 345 yM_find ∈ gT := gT_1 (i := 1082) (by decide +kernel) rfl
theorem mlM_348 : Cond.methodLink "WordCheckerModel" 348 yM_isStretch ∈ gT := gT_1 (i := 1083) (by decide +kernel) rfl
