theorem flT_22 : Cond.fieldLink "WordChecker$Text" 22 "WordChecker$Text" "count" "I" ∈ gT := gT_1 (i := 34) (by decide +kernel) rfl
theorem mlT_26 : Cond.methodLink "WordChecker$Text" 26 yT_byteOf ∈ gT := gT_1 (i := 280) (by decide +kernel) rfl
theorem flT_9 : Cond.fieldLink "WordChecker$Text" 9 "WordChecker$Text" "typed" "[C" ∈ gT := gT_1 (i := 31) (by decide +kernel) rfl
theorem flC_12 : Cond.fieldLink "WordChecker" 12 "WordChecker" "text" "LWordChecker$Text;" ∈ gT := gT_1 (i := 250) (by decide +kernel) rfl
theorem mlC_41 : Cond.methodLink "WordChecker" 41 yT_append ∈ gT := gT_1 (i := 276) (by decide +kernel) rfl
theorem flB_11 : Cond.fieldLink "WordChecker$Book" 11 "WordChecker$Book" "rows" "[LWordChecker$Line;" ∈ gT := gT_1 (i := 134) (by decide +kernel) rfl
theorem fnB_123 {A : Nat → Prop} {kd sd vd : Nat → Nat} {kA lA wA : Nat} {s : State} (z : ZX A kd sd vd kA lA wA s) : va_Nw (.fieldLinkNest "WordChecker$Book" 123 "WordChecker$Draft" "nodes" "[I" "WordChecker") s := z.1 _ (nestW_in (i := 190) (by decide +kernel) rfl)
theorem fnB_135 {A : Nat → Prop} {kd sd vd : Nat → Nat} {kA lA wA : Nat} {s : State} (z : ZX A kd sd vd kA lA wA s) : va_Nw (.fieldLinkNest "WordChecker$Book" 135 "WordChecker$Line" "wires" "[J" "WordChecker") s := z.1 _ (nestW_in (i := 115) (by decide +kernel) rfl)
theorem fnB_148 {A : Nat → Prop} {kd sd vd : Nat → Nat} {kA lA wA : Nat} {s : State} (z : ZX A kd sd vd kA lA wA s) : va_Nw (.fieldLinkNest "WordChecker$Book" 148 "WordChecker$Draft" "turned" "[Z" "WordChecker") s := z.1 _ (nestW_in (i := 193) (by decide +kernel) rfl)
theorem clB_35 : Cond.constantLong "WordChecker$Book" 35 (-1) ∈ gT := gT_1 (i := 133) (by decide +kernel) rfl
theorem flB_28 : Cond.fieldLink "WordChecker$Book" 28 "WordChecker$Book" "bad" "[J" ∈ gT := gT_1 (i := 149) (by decide +kernel) rfl
theorem mlB_152 : Cond.methodLink "WordChecker$Book" 152 yB_wireOf ∈ gT := gT_1 (i := 493) (by decide +kernel) rfl
theorem flB_31 : Cond.fieldLink "WordChecker$Book" 31 "WordChecker$Book" "allowed" "[J" ∈ gT := gT_1 (i := 151) (by decide +kernel) rfl
theorem mlC_111 : Cond.methodLink "WordChecker" 111 yC_isArray ∈ gT := gT_1 (i := 408) (by decide +kernel) rfl
theorem flB_126 : Cond.fieldLink "WordChecker$Book" 126 "WordChecker$Book" "inputBits" "I" ∈ gT := gT_1 (i := 142) (by decide +kernel) rfl
theorem fnB_129 {A : Nat → Prop} {kd sd vd : Nat → Nat} {kA lA wA : Nat} {s : State} (z : ZX A kd sd vd kA lA wA s) : va_Nw (.fieldLinkNest "WordChecker$Book" 129 "WordChecker$Line" "place" "I" "WordChecker") s := z.1 _ (nestW_in (i := 107) (by decide +kernel) rfl)
theorem fnB_61 {A : Nat → Prop} {kd sd vd : Nat → Nat} {kA lA wA : Nat} {s : State} (z : ZX A kd sd vd kA lA wA s) : va_Nw (.fieldLinkNest "WordChecker$Book" 61 "WordChecker$Line" "sort" "I" "WordChecker") s := z.1 _ (nestW_in (i := 103) (by decide +kernel) rfl)
theorem mnB_132 {A : Nat → Prop} {kd sd vd : Nat → Nat} {kA lA wA : Nat} {s : State} (z : ZX A kd sd vd kA lA wA s) : va_Nw (.methodLinkNest "WordChecker$Book" 132 yC_bitsOf "WordChecker") s := z.1 _ (nestW_in (i := 479) (by decide +kernel) rfl)
theorem mnB_138 {A : Nat → Prop} {kd sd vd : Nat → Nat} {kA lA wA : Nat} {s : State} (z : ZX A kd sd vd kA lA wA s) : va_Nw (.methodLinkNest "WordChecker$Book" 138 yC_has "WordChecker") s := z.1 _ (nestW_in (i := 480) (by decide +kernel) rfl)
theorem flB_142 : Cond.fieldLink "WordChecker$Book" 142 "WordChecker$Book" "stateBits" "I" ∈ gT := gT_1 (i := 145) (by decide +kernel) rfl
theorem fnB_145 {A : Nat → Prop} {kd sd vd : Nat → Nat} {kA lA wA : Nat} {s : State} (z : ZX A kd sd vd kA lA wA s) : va_Nw (.fieldLinkNest "WordChecker$Book" 145 "WordChecker" "LANES" "[J" "WordChecker") s := z.1 _ (nestW_in (i := 487) (by decide +kernel) rfl)
theorem flB_24 : Cond.fieldLink "WordChecker$Book" 24 "WordChecker$Book" "later" "[J" ∈ gT := gT_1 (i := 148) (by decide +kernel) rfl
theorem fnB_120 {A : Nat → Prop} {kd sd vd : Nat → Nat} {kA lA wA : Nat} {s : State} (z : ZX A kd sd vd kA lA wA s) : va_Nw (.fieldLinkNest "WordChecker$Book" 120 "WordChecker$Draft" "nodeCount" "I" "WordChecker") s := z.1 _ (nestW_in (i := 196) (by decide +kernel) rfl)
theorem fnB_76 {A : Nat → Prop} {kd sd vd : Nat → Nat} {kA lA wA : Nat} {s : State} (z : ZX A kd sd vd kA lA wA s) : va_Nw (.fieldLinkNest "WordChecker$Book" 76 "WordChecker$Line" "fixed" "Z" "WordChecker") s := z.1 _ (nestW_in (i := 105) (by decide +kernel) rfl)
theorem fnB_68 {A : Nat → Prop} {kd sd vd : Nat → Nat} {kA lA wA : Nat} {s : State} (z : ZX A kd sd vd kA lA wA s) : va_Nw (.fieldLinkNest "WordChecker$Book" 68 "WordChecker$Draft" "sort" "I" "WordChecker") s := z.1 _ (nestW_in (i := 187) (by decide +kernel) rfl)
theorem fnB_156 {A : Nat → Prop} {kd sd vd : Nat → Nat} {kA lA wA : Nat} {s : State} (z : ZX A kd sd vd kA lA wA s) : va_Nw (.fieldLinkNest "WordChecker$Book" 156 "WordChecker$Line" "init" "I" "WordChecker") s := z.1 _ (nestW_in (i := 110) (by decide +kernel) rfl)
theorem fnB_159 {A : Nat → Prop} {kd sd vd : Nat → Nat} {kA lA wA : Nat} {s : State} (z : ZX A kd sd vd kA lA wA s) : va_Nw (.fieldLinkNest "WordChecker$Book" 159 "WordChecker$Line" "hasNext" "Z" "WordChecker") s := z.1 _ (nestW_in (i := 112) (by decide +kernel) rfl)
theorem clG_81 : Cond.constantLong "WordChecker$Gates" 81 (-1) ∈ gT := gT_1 (i := 524) (by decide +kernel) rfl
theorem flG_40 : Cond.fieldLink "WordChecker$Gates" 40 "WordChecker$Gates" "width" "I" ∈ gT := gT_1 (i := 70) (by decide +kernel) rfl
theorem flG_83 : Cond.fieldLink "WordChecker$Gates" 83 "WordChecker$1" "$SwitchMap$WordChecker$Kind" "[I" ∈ gT := gT_1 (i := 529) (by decide +kernel) rfl
theorem mlG_92 : Cond.methodLink "WordChecker$Gates" 92 ⟨"WordChecker$Kind", "ordinal", "()I"⟩ ∈ gT := gT_1 (i := 530) (by decide +kernel) rfl
theorem flG_21 : Cond.fieldLink "WordChecker$Gates" 21 "WordChecker$Gates" "out" "[J" ∈ gT := gT_1 (i := 67) (by decide +kernel) rfl
theorem flG_50 : Cond.fieldLink "WordChecker$Gates" 50 "WordChecker$Gates" "widthB" "I" ∈ gT := gT_1 (i := 72) (by decide +kernel) rfl
theorem flG_15 : Cond.fieldLink "WordChecker$Gates" 15 "WordChecker$Gates" "b" "[J" ∈ gT := gT_1 (i := 65) (by decide +kernel) rfl
theorem flG_9 : Cond.fieldLink "WordChecker$Gates" 9 "WordChecker$Gates" "a" "[J" ∈ gT := gT_1 (i := 64) (by decide +kernel) rfl
theorem flG_47 : Cond.fieldLink "WordChecker$Gates" 47 "WordChecker$Gates" "widthA" "I" ∈ gT := gT_1 (i := 71) (by decide +kernel) rfl
theorem mlG_130 : Cond.methodLink "WordChecker$Gates" 130 yG_choose ∈ gT := gT_1 (i := 548) (by decide +kernel) rfl
theorem flG_18 : Cond.fieldLink "WordChecker$Gates" 18 "WordChecker$Gates" "c" "[J" ∈ gT := gT_1 (i := 66) (by decide +kernel) rfl
theorem mlG_134 : Cond.methodLink "WordChecker$Gates" 134 yG_equal ∈ gT := gT_1 (i := 555) (by decide +kernel) rfl
theorem mlG_138 : Cond.methodLink "WordChecker$Gates" 138 yG_swapHighest ∈ gT := gT_1 (i := 559) (by decide +kernel) rfl
theorem mlG_141 : Cond.methodLink "WordChecker$Gates" 141 yG_below ∈ gT := gT_1 (i := 563) (by decide +kernel) rfl
theorem mnG_122 {A : Nat → Prop} {kd sd vd : Nat → Nat} {kA lA wA : Nat} {s : State} (z : ZX A kd sd vd kA lA wA s) : va_Nw (.methodLinkNest "WordChecker$Gates" 122 yC_has "WordChecker") s := z.1 _ (nestW_in (i := 535) (by decide +kernel) rfl)
theorem mlG_126 : Cond.methodLink "WordChecker$Gates" 126 yG_joinBit ∈ gT := gT_1 (i := 544) (by decide +kernel) rfl
theorem mlG_164 : Cond.methodLink "WordChecker$Gates" 164 yG_carryOf ∈ gT := gT_1 (i := 579) (by decide +kernel) rfl
theorem flG_24 : Cond.fieldLink "WordChecker$Gates" 24 "WordChecker$Gates" "rest" "[J" ∈ gT := gT_1 (i := 68) (by decide +kernel) rfl
theorem flG_27 : Cond.fieldLink "WordChecker$Gates" 27 "WordChecker$Gates" "less" "[J" ∈ gT := gT_1 (i := 69) (by decide +kernel) rfl
theorem mlG_57 : Cond.methodLink "WordChecker$Gates" 57 yG_clear ∈ gT := gT_1 (i := 521) (by decide +kernel) rfl
theorem mlG_167 : Cond.methodLink "WordChecker$Gates" 167 yG_takeAway ∈ gT := gT_1 (i := 591) (by decide +kernel) rfl
theorem mlG_170 : Cond.methodLink "WordChecker$Gates" 170 arraycopyName ∈ gT := gT_1 (i := 595) (by decide +kernel) rfl
theorem mlG_144 : Cond.methodLink "WordChecker$Gates" 144 yG_addUp ∈ gT := gT_1 (i := 575) (by decide +kernel) rfl
theorem mlG_148 : Cond.methodLink "WordChecker$Gates" 148 yG_multiply ∈ gT := gT_1 (i := 582) (by decide +kernel) rfl
theorem flG_151 : Cond.fieldLink "WordChecker$Gates" 151 "WordChecker$Kind" "UREM" "LWordChecker$Kind;" ∈ gT := gT_1 (i := 586) (by decide +kernel) rfl
theorem mlG_154 : Cond.methodLink "WordChecker$Gates" 154 yG_divide ∈ gT := gT_1 (i := 587) (by decide +kernel) rfl
theorem mlG_158 : Cond.methodLink "WordChecker$Gates" 158 yG_shiftLeft ∈ gT := gT_1 (i := 598) (by decide +kernel) rfl
theorem mlG_161 : Cond.methodLink "WordChecker$Gates" 161 yG_shiftRight ∈ gT := gT_1 (i := 602) (by decide +kernel) rfl
theorem fnG_88 {A : Nat → Prop} {kd sd vd : Nat → Nat} {kA lA wA : Nat} {s : State} (z : ZX A kd sd vd kA lA wA s) : va_Nw (.fieldLinkNest "WordChecker$Gates" 88 "WordChecker$Draft" "kind" "LWordChecker$Kind;" "WordChecker") s := z.1 _ (nestW_in (i := 185) (by decide +kernel) rfl)
theorem fnG_98 {A : Nat → Prop} {kd sd vd : Nat → Nat} {kA lA wA : Nat} {s : State} (z : ZX A kd sd vd kA lA wA s) : va_Nw (.fieldLinkNest "WordChecker$Gates" 98 "WordChecker$Draft" "number" "I" "WordChecker") s := z.1 _ (nestW_in (i := 199) (by decide +kernel) rfl)
theorem mlG_101 : Cond.methodLink "WordChecker$Gates" 101 yG_constant ∈ gT := gT_1 (i := 531) (by decide +kernel) rfl
theorem mlG_105 : Cond.methodLink "WordChecker$Gates" 105 yG_cut ∈ gT := gT_1 (i := 536) (by decide +kernel) rfl
theorem mlG_108 : Cond.methodLink "WordChecker$Gates" 108 yG_joinByBits ∈ gT := gT_1 (i := 540) (by decide +kernel) rfl
theorem mlG_112 : Cond.methodLink "WordChecker$Gates" 112 yG_compare ∈ gT := gT_1 (i := 551) (by decide +kernel) rfl
theorem mlG_116 : Cond.methodLink "WordChecker$Gates" 116 yG_arrange ∈ gT := gT_1 (i := 567) (by decide +kernel) rfl
theorem mlG_119 : Cond.methodLink "WordChecker$Gates" 119 yG_reckon ∈ gT := gT_1 (i := 571) (by decide +kernel) rfl
theorem fnG_68 {A : Nat → Prop} {kd sd vd : Nat → Nat} {kA lA wA : Nat} {s : State} (z : ZX A kd sd vd kA lA wA s) : va_Nw (.fieldLinkNest "WordChecker$Gates" 68 "WordChecker$Draft" "nodeCount" "I" "WordChecker") s := z.1 _ (nestW_in (i := 195) (by decide +kernel) rfl)
theorem fnG_73 {A : Nat → Prop} {kd sd vd : Nat → Nat} {kA lA wA : Nat} {s : State} (z : ZX A kd sd vd kA lA wA s) : va_Nw (.fieldLinkNest "WordChecker$Gates" 73 "WordChecker$Draft" "nodes" "[I" "WordChecker") s := z.1 _ (nestW_in (i := 189) (by decide +kernel) rfl)
theorem fnG_30 {A : Nat → Prop} {kd sd vd : Nat → Nat} {kA lA wA : Nat} {s : State} (z : ZX A kd sd vd kA lA wA s) : va_Nw (.fieldLinkNest "WordChecker$Gates" 30 "WordChecker$Line" "sort" "I" "WordChecker") s := z.1 _ (nestW_in (i := 101) (by decide +kernel) rfl)
theorem mnG_36 {A : Nat → Prop} {kd sd vd : Nat → Nat} {kA lA wA : Nat} {s : State} (z : ZX A kd sd vd kA lA wA s) : va_Nw (.methodLinkNest "WordChecker$Gates" 36 yC_bitsOf "WordChecker") s := z.1 _ (nestW_in (i := 514) (by decide +kernel) rfl)
theorem mlG_43 : Cond.methodLink "WordChecker$Gates" 43 yG_widthOf ∈ gT := gT_1 (i := 515) (by decide +kernel) rfl
theorem fnG_65 {A : Nat → Prop} {kd sd vd : Nat → Nat} {kA lA wA : Nat} {s : State} (z : ZX A kd sd vd kA lA wA s) : va_Nw (.fieldLinkNest "WordChecker$Gates" 65 "WordChecker$Line" "wires" "[J" "WordChecker") s := z.1 _ (nestW_in (i := 114) (by decide +kernel) rfl)
theorem fnG_77 {A : Nat → Prop} {kd sd vd : Nat → Nat} {kA lA wA : Nat} {s : State} (z : ZX A kd sd vd kA lA wA s) : va_Nw (.fieldLinkNest "WordChecker$Gates" 77 "WordChecker$Draft" "turned" "[Z" "WordChecker") s := z.1 _ (nestW_in (i := 192) (by decide +kernel) rfl)
theorem mlG_53 : Cond.methodLink "WordChecker$Gates" 53 yG_load ∈ gT := gT_1 (i := 518) (by decide +kernel) rfl
theorem mlG_61 : Cond.methodLink "WordChecker$Gates" 61 yG_join ∈ gT := gT_1 (i := 525) (by decide +kernel) rfl
theorem flK_7 : Cond.fieldLink "WordChecker$Kind" 7 "WordChecker$Kind" "INPUT" "LWordChecker$Kind;" ∈ gT := gT_1 (i := 460) (by decide +kernel) rfl
theorem flK_10 : Cond.fieldLink "WordChecker$Kind" 10 "WordChecker$Kind" "STATE" "LWordChecker$Kind;" ∈ gT := gT_1 (i := 462) (by decide +kernel) rfl
theorem flK_40 : Cond.fieldLink "WordChecker$Kind" 40 "WordChecker$Kind" "MUL" "LWordChecker$Kind;" ∈ gT := gT_1 (i := 365) (by decide +kernel) rfl
theorem flK_43 : Cond.fieldLink "WordChecker$Kind" 43 "WordChecker$Kind" "UDIV" "LWordChecker$Kind;" ∈ gT := gT_1 (i := 367) (by decide +kernel) rfl
theorem flK_46 : Cond.fieldLink "WordChecker$Kind" 46 "WordChecker$Kind" "UREM" "LWordChecker$Kind;" ∈ gT := gT_1 (i := 369) (by decide +kernel) rfl
theorem flB_37 : Cond.fieldLink "WordChecker$Book" 37 "WordChecker$Book" "count" "I" ∈ gT := gT_1 (i := 137) (by decide +kernel) rfl
theorem fnB_64 {A : Nat → Prop} {kd sd vd : Nat → Nat} {kA lA wA : Nat} {s : State} (z : ZX A kd sd vd kA lA wA s) : va_Nw (.fieldLinkNest "WordChecker$Book" 64 "WordChecker$Draft" "id" "I" "WordChecker") s := z.1 _ (nestW_in (i := 182) (by decide +kernel) rfl)
theorem fnB_41 {A : Nat → Prop} {kd sd vd : Nat → Nat} {kA lA wA : Nat} {s : State} (z : ZX A kd sd vd kA lA wA s) : va_Nw (.fieldLinkNest "WordChecker$Book" 41 "WordChecker$Line" "id" "I" "WordChecker") s := z.1 _ (nestW_in (i := 98) (by decide +kernel) rfl)
theorem fnB_67 {A : Nat → Prop} {kd sd vd : Nat → Nat} {kA lA wA : Nat} {s : State} (z : ZX A kd sd vd kA lA wA s) : va_Nw (.fieldLinkNest "WordChecker$Book" 67 "WordChecker$Draft" "kind" "LWordChecker$Kind;" "WordChecker") s := z.1 _ (nestW_in (i := 184) (by decide +kernel) rfl)
theorem fnB_48 {A : Nat → Prop} {kd sd vd : Nat → Nat} {kA lA wA : Nat} {s : State} (z : ZX A kd sd vd kA lA wA s) : va_Nw (.fieldLinkNest "WordChecker$Book" 48 "WordChecker$Line" "kind" "LWordChecker$Kind;" "WordChecker") s := z.1 _ (nestW_in (i := 99) (by decide +kernel) rfl)
theorem mlB_69 : Cond.methodLink "WordChecker$Book" 69 yK_isFree ∈ gT := gT_1 (i := 456) (by decide +kernel) rfl
theorem mlB_72 : Cond.methodLink "WordChecker$Book" 72 yB_allFixed ∈ gT := gT_1 (i := 463) (by decide +kernel) rfl
theorem flB_80 : Cond.fieldLink "WordChecker$Book" 80 "WordChecker$1" "$SwitchMap$WordChecker$Kind" "[I" ∈ gT := gT_1 (i := 467) (by decide +kernel) rfl
theorem mlB_86 : Cond.methodLink "WordChecker$Book" 86 ⟨"WordChecker$Kind", "ordinal", "()I"⟩ ∈ gT := gT_1 (i := 469) (by decide +kernel) rfl
theorem mlB_90 : Cond.methodLink "WordChecker$Book" 90 yB_addInput ∈ gT := gT_1 (i := 475) (by decide +kernel) rfl
theorem mlB_94 : Cond.methodLink "WordChecker$Book" 94 yB_addState ∈ gT := gT_1 (i := 483) (by decide +kernel) rfl
theorem mlB_97 : Cond.methodLink "WordChecker$Book" 97 yB_setInit ∈ gT := gT_1 (i := 489) (by decide +kernel) rfl
theorem mlB_101 : Cond.methodLink "WordChecker$Book" 101 yB_setNext ∈ gT := gT_1 (i := 497) (by decide +kernel) rfl
theorem mlB_104 : Cond.methodLink "WordChecker$Book" 104 yB_addBad ∈ gT := gT_1 (i := 501) (by decide +kernel) rfl
theorem mlB_107 : Cond.methodLink "WordChecker$Book" 107 yB_addConstraint ∈ gT := gT_1 (i := 505) (by decide +kernel) rfl
theorem flB_110 : Cond.fieldLink "WordChecker$Book" 110 "WordChecker$Book" "hardLines" "I" ∈ gT := gT_1 (i := 147) (by decide +kernel) rfl
theorem mlB_113 : Cond.methodLink "WordChecker$Book" 113 yK_isHard ∈ gT := gT_1 (i := 509) (by decide +kernel) rfl
theorem flB_20 : Cond.fieldLink "WordChecker$Book" 20 "WordChecker$Book" "gates" "LWordChecker$Gates;" ∈ gT := gT_1 (i := 136) (by decide +kernel) rfl
theorem mlB_116 : Cond.methodLink "WordChecker$Book" 116 yG_build ∈ gT := gT_1 (i := 510) (by decide +kernel) rfl
theorem flD_19 : Cond.fieldLink "WordChecker$Draft" 19 "WordChecker$Draft" "text" "LWordChecker$Text;" ∈ gT := gT_1 (i := 178) (by decide +kernel) rfl
theorem fnD_101 {A : Nat → Prop} {kd sd vd : Nat → Nat} {kA lA wA : Nat} {s : State} (z : ZX A kd sd vd kA lA wA s) : va_Nw (.fieldLinkNest "WordChecker$Draft" 101 "WordChecker$Text" "words" "I" "WordChecker") s := z.1 _ (nestW_in (i := 35) (by decide +kernel) rfl)
theorem flK_3 : Cond.fieldLink "WordChecker$Kind" 3 "WordChecker$Kind" "SORT" "LWordChecker$Kind;" ∈ gT := gT_1 (i := 429) (by decide +kernel) rfl
theorem flK_85 : Cond.fieldLink "WordChecker$Kind" 85 "WordChecker$Kind" "INIT" "LWordChecker$Kind;" ∈ gT := gT_1 (i := 430) (by decide +kernel) rfl
theorem flK_88 : Cond.fieldLink "WordChecker$Kind" 88 "WordChecker$Kind" "NEXT" "LWordChecker$Kind;" ∈ gT := gT_1 (i := 432) (by decide +kernel) rfl
theorem flK_91 : Cond.fieldLink "WordChecker$Kind" 91 "WordChecker$Kind" "BAD" "LWordChecker$Kind;" ∈ gT := gT_1 (i := 434) (by decide +kernel) rfl
theorem flK_94 : Cond.fieldLink "WordChecker$Kind" 94 "WordChecker$Kind" "CONSTRAINT" "LWordChecker$Kind;" ∈ gT := gT_1 (i := 436) (by decide +kernel) rfl
theorem mlB_44 : Cond.methodLink "WordChecker$Book" 44 yB_rowWith ∈ gT := gT_1 (i := 387) (by decide +kernel) rfl
theorem mlB_52 : Cond.methodLink "WordChecker$Book" 52 yK_isNode ∈ gT := gT_1 (i := 425) (by decide +kernel) rfl
theorem fnD_175 {A : Nat → Prop} {kd sd vd : Nat → Nat} {kA lA wA : Nat} {s : State} (z : ZX A kd sd vd kA lA wA s) : va_Nw (.fieldLinkNest "WordChecker$Draft" 175 "WordChecker$Line" "kind" "LWordChecker$Kind;" "WordChecker") s := z.1 _ (nestW_in (i := 100) (by decide +kernel) rfl)
theorem flD_176 : Cond.fieldLink "WordChecker$Draft" 176 "WordChecker$Kind" "STATE" "LWordChecker$Kind;" ∈ gT := gT_1 (i := 446) (by decide +kernel) rfl
theorem fnD_154 {A : Nat → Prop} {kd sd vd : Nat → Nat} {kA lA wA : Nat} {s : State} (z : ZX A kd sd vd kA lA wA s) : va_Nw (.fieldLinkNest "WordChecker$Draft" 154 "WordChecker$Line" "sort" "I" "WordChecker") s := z.1 _ (nestW_in (i := 104) (by decide +kernel) rfl)
theorem flD_106 : Cond.fieldLink "WordChecker$Draft" 106 "WordChecker$Draft" "sort" "I" ∈ gT := gT_1 (i := 186) (by decide +kernel) rfl
theorem mnD_114 {A : Nat → Prop} {kd sd vd : Nat → Nat} {kA lA wA : Nat} {s : State} (z : ZX A kd sd vd kA lA wA s) : va_Nw (.methodLinkNest "WordChecker$Draft" 114 yC_isArray "WordChecker") s := z.1 _ (nestW_in (i := 392) (by decide +kernel) rfl)
theorem flD_141 : Cond.fieldLink "WordChecker$Draft" 141 "WordChecker$Draft" "nodeSort" "I" ∈ gT := gT_1 (i := 197) (by decide +kernel) rfl
theorem mlD_161 : Cond.methodLink "WordChecker$Draft" 161 yD_isStateAsS ∈ gT := gT_1 (i := 442) (by decide +kernel) rfl
theorem fnD_165 {A : Nat → Prop} {kd sd vd : Nat → Nat} {kA lA wA : Nat} {s : State} (z : ZX A kd sd vd kA lA wA s) : va_Nw (.fieldLinkNest "WordChecker$Draft" 165 "WordChecker$Line" "init" "I" "WordChecker") s := z.1 _ (nestW_in (i := 109) (by decide +kernel) rfl)
theorem fnD_168 {A : Nat → Prop} {kd sd vd : Nat → Nat} {kA lA wA : Nat} {s : State} (z : ZX A kd sd vd kA lA wA s) : va_Nw (.fieldLinkNest "WordChecker$Draft" 168 "WordChecker$Line" "hasNext" "Z" "WordChecker") s := z.1 _ (nestW_in (i := 111) (by decide +kernel) rfl)
theorem fnD_172 {A : Nat → Prop} {kd sd vd : Nat → Nat} {kA lA wA : Nat} {s : State} (z : ZX A kd sd vd kA lA wA s) : va_Nw (.fieldLinkNest "WordChecker$Draft" 172 "WordChecker$Line" "fixed" "Z" "WordChecker") s := z.1 _ (nestW_in (i := 106) (by decide +kernel) rfl)
theorem flT_30 : Cond.fieldLink "WordChecker$Text" 30 "WordChecker$Text" "words" "I" ∈ gT := gT_1 (i := 36) (by decide +kernel) rfl
theorem flT_15 : Cond.fieldLink "WordChecker$Text" 15 "WordChecker$Text" "from" "[I" ∈ gT := gT_1 (i := 32) (by decide +kernel) rfl
theorem flT_19 : Cond.fieldLink "WordChecker$Text" 19 "WordChecker$Text" "to" "[I" ∈ gT := gT_1 (i := 33) (by decide +kernel) rfl
theorem mlD_144 : Cond.methodLink "WordChecker$Draft" 144 yT_hasMinus ∈ gT := gT_1 (i := 417) (by decide +kernel) rfl
theorem flD_23 : Cond.fieldLink "WordChecker$Draft" 23 "WordChecker$Draft" "book" "LWordChecker$Book;" ∈ gT := gT_1 (i := 179) (by decide +kernel) rfl
theorem mlD_31 : Cond.methodLink "WordChecker$Draft" 31 yT_number ∈ gT := gT_1 (i := 295) (by decide +kernel) rfl
theorem mlD_147 : Cond.methodLink "WordChecker$Draft" 147 yB_nodeWith ∈ gT := gT_1 (i := 421) (by decide +kernel) rfl
theorem flD_27 : Cond.fieldLink "WordChecker$Draft" 27 "WordChecker$Draft" "nodeCount" "I" ∈ gT := gT_1 (i := 194) (by decide +kernel) rfl
theorem flD_9 : Cond.fieldLink "WordChecker$Draft" 9 "WordChecker$Draft" "nodes" "[I" ∈ gT := gT_1 (i := 188) (by decide +kernel) rfl
theorem fnD_150 {A : Nat → Prop} {kd sd vd : Nat → Nat} {kA lA wA : Nat} {s : State} (z : ZX A kd sd vd kA lA wA s) : va_Nw (.fieldLinkNest "WordChecker$Draft" 150 "WordChecker$Book" "rows" "[LWordChecker$Line;" "WordChecker") s := z.1 _ (nestW_in (i := 135) (by decide +kernel) rfl)
theorem mlD_157 : Cond.methodLink "WordChecker$Draft" 157 yD_suits ∈ gT := gT_1 (i := 438) (by decide +kernel) rfl
theorem flD_15 : Cond.fieldLink "WordChecker$Draft" 15 "WordChecker$Draft" "turned" "[Z" ∈ gT := gT_1 (i := 191) (by decide +kernel) rfl
theorem flD_136 : Cond.fieldLink "WordChecker$Draft" 136 "WordChecker$Draft" "number" "I" ∈ gT := gT_1 (i := 198) (by decide +kernel) rfl
theorem flD_138 : Cond.fieldLink "WordChecker$Draft" 138 "WordChecker$Draft" "upper" "I" ∈ gT := gT_1 (i := 200) (by decide +kernel) rfl
theorem flB_58 : Cond.fieldLink "WordChecker$Book" 58 "WordChecker$Kind" "SORT" "LWordChecker$Kind;" ∈ gT := gT_1 (i := 391) (by decide +kernel) rfl
theorem mlD_111 : Cond.methodLink "WordChecker$Draft" 111 yB_sortOf ∈ gT := gT_1 (i := 383) (by decide +kernel) rfl
theorem fnD_127 {A : Nat → Prop} {kd sd vd : Nat → Nat} {kA lA wA : Nat} {s : State} (z : ZX A kd sd vd kA lA wA s) : va_Nw (.fieldLinkNest "WordChecker$Draft" 127 "WordChecker$Book" "inputBits" "I" "WordChecker") s := z.1 _ (nestW_in (i := 141) (by decide +kernel) rfl)
theorem mnD_130 {A : Nat → Prop} {kd sd vd : Nat → Nat} {kA lA wA : Nat} {s : State} (z : ZX A kd sd vd kA lA wA s) : va_Nw (.methodLinkNest "WordChecker$Draft" 130 yC_bitsOf "WordChecker") s := z.1 _ (nestW_in (i := 405) (by decide +kernel) rfl)
theorem fnD_133 {A : Nat → Prop} {kd sd vd : Nat → Nat} {kA lA wA : Nat} {s : State} (z : ZX A kd sd vd kA lA wA s) : va_Nw (.fieldLinkNest "WordChecker$Draft" 133 "WordChecker$Book" "stateBits" "I" "WordChecker") s := z.1 _ (nestW_in (i := 144) (by decide +kernel) rfl)
theorem mlD_118 : Cond.methodLink "WordChecker$Draft" 118 yD_sortFits ∈ gT := gT_1 (i := 401) (by decide +kernel) rfl
theorem mlD_121 : Cond.methodLink "WordChecker$Draft" 121 yD_numberFits ∈ gT := gT_1 (i := 409) (by decide +kernel) rfl
theorem mlD_124 : Cond.methodLink "WordChecker$Draft" 124 yD_nodeFits ∈ gT := gT_1 (i := 413) (by decide +kernel) rfl
theorem mlT_33 : Cond.methodLink "WordChecker$Text" 33 ⟨"java/lang/String", "length", "()I"⟩ ∈ gT := gT_1 (i := 313) (by decide +kernel) rfl
theorem mlT_39 : Cond.methodLink "WordChecker$Text" 39 ⟨"java/lang/String", "charAt", "(I)C"⟩ ∈ gT := gT_1 (i := 323) (by decide +kernel) rfl
theorem fnD_90 {A : Nat → Prop} {kd sd vd : Nat → Nat} {kA lA wA : Nat} {s : State} (z : ZX A kd sd vd kA lA wA s) : va_Nw (.fieldLinkNest "WordChecker$Draft" 90 "WordChecker" "KINDS" "[LWordChecker$Kind;" "WordChecker") s := z.1 _ (nestW_in (i := 307) (by decide +kernel) rfl)
theorem fnD_94 {A : Nat → Prop} {kd sd vd : Nat → Nat} {kA lA wA : Nat} {s : State} (z : ZX A kd sd vd kA lA wA s) : va_Nw (.fieldLinkNest "WordChecker$Draft" 94 "WordChecker$Kind" "word" "Ljava/lang/String;" "WordChecker") s := z.1 _ (nestW_in (i := 1091) (by decide +kernel) rfl)
theorem mlD_97 : Cond.methodLink "WordChecker$Draft" 97 yT_isWord ∈ gT := gT_1 (i := 309) (by decide +kernel) rfl
theorem mlD_86 : Cond.methodLink "WordChecker$Draft" 86 yD_faultOfLength ∈ gT := gT_1 (i := 378) (by decide +kernel) rfl
theorem flD_37 : Cond.fieldLink "WordChecker$Draft" 37 "WordChecker$Draft" "id" "I" ∈ gT := gT_1 (i := 180) (by decide +kernel) rfl
theorem mlD_40 : Cond.methodLink "WordChecker$Draft" 40 yB_lastId ∈ gT := gT_1 (i := 299) (by decide +kernel) rfl
theorem mlD_46 : Cond.methodLink "WordChecker$Draft" 46 yD_kindOfWord ∈ gT := gT_1 (i := 303) (by decide +kernel) rfl
theorem flD_50 : Cond.fieldLink "WordChecker$Draft" 50 "WordChecker$Draft" "kind" "LWordChecker$Kind;" ∈ gT := gT_1 (i := 183) (by decide +kernel) rfl
theorem mlD_54 : Cond.methodLink "WordChecker$Draft" 54 yK_isHard ∈ gT := gT_1 (i := 361) (by decide +kernel) rfl
theorem fnD_60 {A : Nat → Prop} {kd sd vd : Nat → Nat} {kA lA wA : Nat} {s : State} (z : ZX A kd sd vd kA lA wA s) : va_Nw (.fieldLinkNest "WordChecker$Draft" 60 "WordChecker$Book" "hardLines" "I" "WordChecker") s := z.1 _ (nestW_in (i := 146) (by decide +kernel) rfl)
theorem flD_63 : Cond.fieldLink "WordChecker$Draft" 63 "WordChecker$Kind" "SORT" "LWordChecker$Kind;" ∈ gT := gT_1 (i := 371) (by decide +kernel) rfl
theorem mlD_66 : Cond.methodLink "WordChecker$Draft" 66 yD_sortLineFault ∈ gT := gT_1 (i := 373) (by decide +kernel) rfl
theorem fnD_69 {A : Nat → Prop} {kd sd vd : Nat → Nat} {kA lA wA : Nat} {s : State} (z : ZX A kd sd vd kA lA wA s) : va_Nw (.fieldLinkNest "WordChecker$Draft" 69 "WordChecker$Kind" "form" "Ljava/lang/String;" "WordChecker") s := z.1 _ (nestW_in (i := 1094) (by decide +kernel) rfl)
theorem mlD_73 : Cond.methodLink "WordChecker$Draft" 73 ⟨"java/lang/String", "length", "()I"⟩ ∈ gT := gT_1 (i := 395) (by decide +kernel) rfl
theorem mlD_78 : Cond.methodLink "WordChecker$Draft" 78 ⟨"java/lang/String", "charAt", "(I)C"⟩ ∈ gT := gT_1 (i := 396) (by decide +kernel) rfl
theorem mlD_82 : Cond.methodLink "WordChecker$Draft" 82 yD_fits ∈ gT := gT_1 (i := 397) (by decide +kernel) rfl
theorem flS_26 : Cond.fieldLink "WordChecker$Search" 26 "WordChecker$Search" "steps" "I" ∈ gT := gT_1 (i := 237) (by decide +kernel) rfl
theorem mlC_45 : Cond.methodLink "WordChecker" 45 yT_split ∈ gT := gT_1 (i := 287) (by decide +kernel) rfl
theorem flC_28 : Cond.fieldLink "WordChecker" 28 "WordChecker" "draft" "LWordChecker$Draft;" ∈ gT := gT_1 (i := 252) (by decide +kernel) rfl
theorem mlC_48 : Cond.methodLink "WordChecker" 48 yD_firstFault ∈ gT := gT_1 (i := 291) (by decide +kernel) rfl
theorem mlC_52 : Cond.methodLink "WordChecker" 52 yT_clear ∈ gT := gT_1 (i := 448) (by decide +kernel) rfl
theorem flC_19 : Cond.fieldLink "WordChecker" 19 "WordChecker" "book" "LWordChecker$Book;" ∈ gT := gT_1 (i := 251) (by decide +kernel) rfl
theorem fnC_55 {A : Nat → Prop} {kd sd vd : Nat → Nat} {kA lA wA : Nat} {s : State} (z : ZX A kd sd vd kA lA wA s) : va_Nw (.fieldLinkNest "WordChecker" 55 "WordChecker$Book" "count" "I" "WordChecker") s := z.1 _ (nestW_in (i := 138) (by decide +kernel) rfl)
theorem mlC_59 : Cond.methodLink "WordChecker" 59 yB_take ∈ gT := gT_1 (i := 452) (by decide +kernel) rfl
theorem flC_63 : Cond.fieldLink "WordChecker" 63 "WordChecker" "running" "Z" ∈ gT := gT_1 (i := 254) (by decide +kernel) rfl
theorem flC_37 : Cond.fieldLink "WordChecker" 37 "WordChecker" "search" "LWordChecker$Search;" ∈ gT := gT_1 (i := 253) (by decide +kernel) rfl
theorem mlC_67 : Cond.methodLink "WordChecker" 67 yS_drop ∈ gT := gT_1 (i := 606) (by decide +kernel) rfl
theorem fnC_70 {A : Nat → Prop} {kd sd vd : Nat → Nat} {kA lA wA : Nat} {s : State} (z : ZX A kd sd vd kA lA wA s) : va_Nw (.fieldLinkNest "WordChecker" 70 "WordChecker$Draft" "id" "I" "WordChecker") s := z.1 _ (nestW_in (i := 181) (by decide +kernel) rfl)
theorem flB_162 : Cond.fieldLink "WordChecker$Book" 162 "WordChecker$Kind" "STATE" "LWordChecker$Kind;" ∈ gT := gT_1 (i := 623) (by decide +kernel) rfl
theorem mlC_73 : Cond.methodLink "WordChecker" 73 yB_startWith ∈ gT := gT_1 (i := 619) (by decide +kernel) rfl
theorem flC_77 : Cond.fieldLink "WordChecker" 77 "WordChecker" "state" "I" ∈ gT := gT_1 (i := 255) (by decide +kernel) rfl
theorem flC_80 : Cond.fieldLink "WordChecker" 80 "WordChecker" "input" "I" ∈ gT := gT_1 (i := 256) (by decide +kernel) rfl
theorem fnC_83 {A : Nat → Prop} {kd sd vd : Nat → Nat} {kA lA wA : Nat} {s : State} (z : ZX A kd sd vd kA lA wA s) : va_Nw (.fieldLinkNest "WordChecker" 83 "WordChecker$Book" "inputBits" "I" "WordChecker") s := z.1 _ (nestW_in (i := 140) (by decide +kernel) rfl)
theorem mlC_86 : Cond.methodLink "WordChecker" 86 yB_after ∈ gT := gT_1 (i := 632) (by decide +kernel) rfl
theorem flL_19 : Cond.fieldLink "WordChecker$Line" 19 "WordChecker$Line" "sort" "I" ∈ gT := gT_1 (i := 102) (by decide +kernel) rfl
theorem mnL_22 {A : Nat → Prop} {kd sd vd : Nat → Nat} {kA lA wA : Nat} {s : State} (z : ZX A kd sd vd kA lA wA s) : va_Nw (.methodLinkNest "WordChecker$Line" 22 yC_bitsOf "WordChecker") s := z.1 _ (nestW_in (i := 649) (by decide +kernel) rfl)
theorem flL_15 : Cond.fieldLink "WordChecker$Line" 15 "WordChecker$Line" "wires" "[J" ∈ gT := gT_1 (i := 113) (by decide +kernel) rfl
theorem mnL_26 {A : Nat → Prop} {kd sd vd : Nat → Nat} {kA lA wA : Nat} {s : State} (z : ZX A kd sd vd kA lA wA s) : va_Nw (.methodLinkNest "WordChecker$Line" 26 yC_has "WordChecker") s := z.1 _ (nestW_in (i := 650) (by decide +kernel) rfl)
theorem mlB_165 : Cond.methodLink "WordChecker$Book" 165 yB_nodeWith ∈ gT := gT_1 (i := 644) (by decide +kernel) rfl
theorem mlB_168 : Cond.methodLink "WordChecker$Book" 168 yL_valueAt ∈ gT := gT_1 (i := 645) (by decide +kernel) rfl
theorem mlC_90 : Cond.methodLink "WordChecker" 90 yB_valueOf ∈ gT := gT_1 (i := 640) (by decide +kernel) rfl
theorem flS_22 : Cond.fieldLink "WordChecker$Search" 22 "WordChecker$Search" "book" "LWordChecker$Book;" ∈ gT := gT_1 (i := 231) (by decide +kernel) rfl
theorem fnS_61 {A : Nat → Prop} {kd sd vd : Nat → Nat} {kA lA wA : Nat} {s : State} (z : ZX A kd sd vd kA lA wA s) : va_Nw (.fieldLinkNest "WordChecker$Search" 61 "WordChecker$Book" "allowed" "[J" "WordChecker") s := z.1 _ (nestW_in (i := 152) (by decide +kernel) rfl)
theorem mnS_64 {A : Nat → Prop} {kd sd vd : Nat → Nat} {kA lA wA : Nat} {s : State} (z : ZX A kd sd vd kA lA wA s) : va_Nw (.methodLinkNest "WordChecker$Search" 64 yC_has "WordChecker") s := z.1 _ (nestW_in (i := 672) (by decide +kernel) rfl)
theorem fnS_68 {A : Nat → Prop} {kd sd vd : Nat → Nat} {kA lA wA : Nat} {s : State} (z : ZX A kd sd vd kA lA wA s) : va_Nw (.fieldLinkNest "WordChecker$Search" 68 "WordChecker$Book" "bad" "[J" "WordChecker") s := z.1 _ (nestW_in (i := 150) (by decide +kernel) rfl)
theorem flS_9 : Cond.fieldLink "WordChecker$Search" 9 "WordChecker$Search" "near" "[J" ∈ gT := gT_1 (i := 232) (by decide +kernel) rfl
theorem mlS_71 : Cond.methodLink "WordChecker$Search" 71 yB_after ∈ gT := gT_1 (i := 673) (by decide +kernel) rfl
theorem fnS_51 {A : Nat → Prop} {kd sd vd : Nat → Nat} {kA lA wA : Nat} {s : State} (z : ZX A kd sd vd kA lA wA s) : va_Nw (.fieldLinkNest "WordChecker$Search" 51 "WordChecker$Book" "stateBits" "I" "WordChecker") s := z.1 _ (nestW_in (i := 143) (by decide +kernel) rfl)
theorem fnS_54 {A : Nat → Prop} {kd sd vd : Nat → Nat} {kA lA wA : Nat} {s : State} (z : ZX A kd sd vd kA lA wA s) : va_Nw (.fieldLinkNest "WordChecker$Search" 54 "WordChecker$Book" "inputBits" "I" "WordChecker") s := z.1 _ (nestW_in (i := 139) (by decide +kernel) rfl)
theorem mlS_57 : Cond.methodLink "WordChecker$Search" 57 yS_leads ∈ gT := gT_1 (i := 668) (by decide +kernel) rfl
theorem flB_172 : Cond.fieldLink "WordChecker$Book" 172 "WordChecker$Kind" "INPUT" "LWordChecker$Kind;" ∈ gT := gT_1 (i := 690) (by decide +kernel) rfl
theorem mlS_78 : Cond.methodLink "WordChecker$Search" 78 yB_inputAt ∈ gT := gT_1 (i := 686) (by decide +kernel) rfl
theorem flS_15 : Cond.fieldLink "WordChecker$Search" 15 "WordChecker$Search" "states" "[I" ∈ gT := gT_1 (i := 233) (by decide +kernel) rfl
theorem flS_19 : Cond.fieldLink "WordChecker$Search" 19 "WordChecker$Search" "inputs" "[I" ∈ gT := gT_1 (i := 235) (by decide +kernel) rfl
theorem mlS_75 : Cond.methodLink "WordChecker$Search" 75 yS_leastInput ∈ gT := gT_1 (i := 682) (by decide +kernel) rfl
theorem mlS_30 : Cond.methodLink "WordChecker$Search" 30 yS_drop ∈ gT := gT_1 (i := 659) (by decide +kernel) rfl
theorem mlS_33 : Cond.methodLink "WordChecker$Search" 33 yB_starts ∈ gT := gT_1 (i := 660) (by decide +kernel) rfl
theorem mlS_39 : Cond.methodLink "WordChecker$Search" 39 yS_gather ∈ gT := gT_1 (i := 664) (by decide +kernel) rfl
theorem mlS_43 : Cond.methodLink "WordChecker$Search" 43 yB_leastOf ∈ gT := gT_1 (i := 674) (by decide +kernel) rfl
theorem mlS_47 : Cond.methodLink "WordChecker$Search" 47 yS_keep ∈ gT := gT_1 (i := 678) (by decide +kernel) rfl
theorem mlC_94 : Cond.methodLink "WordChecker" 94 yS_leastBad ∈ gT := gT_1 (i := 655) (by decide +kernel) rfl
theorem fnC_97 {A : Nat → Prop} {kd sd vd : Nat → Nat} {kA lA wA : Nat} {s : State} (z : ZX A kd sd vd kA lA wA s) : va_Nw (.fieldLinkNest "WordChecker" 97 "WordChecker$Search" "steps" "I" "WordChecker") s := z.1 _ (nestW_in (i := 238) (by decide +kernel) rfl)
theorem fnC_100 {A : Nat → Prop} {kd sd vd : Nat → Nat} {kA lA wA : Nat} {s : State} (z : ZX A kd sd vd kA lA wA s) : va_Nw (.fieldLinkNest "WordChecker" 100 "WordChecker$Search" "states" "[I" "WordChecker") s := z.1 _ (nestW_in (i := 234) (by decide +kernel) rfl)
theorem fnC_104 {A : Nat → Prop} {kd sd vd : Nat → Nat} {kA lA wA : Nat} {s : State} (z : ZX A kd sd vd kA lA wA s) : va_Nw (.fieldLinkNest "WordChecker" 104 "WordChecker$Search" "inputs" "[I" "WordChecker") s := z.1 _ (nestW_in (i := 236) (by decide +kernel) rfl)
theorem mlS_82 : Cond.methodLink "WordChecker$Search" 82 yS_stretches ∈ gT := gT_1 (i := 703) (by decide +kernel) rfl
theorem mlC_107 : Cond.methodLink "WordChecker" 107 yS_hasStretch ∈ gT := gT_1 (i := 699) (by decide +kernel) rfl
