abbrev cD_numberFits : ByteArray := prog_4_method_8_code
def yD_numberFits : MethodName := ⟨"WordChecker$Draft", "numberFits", "(II)Z"⟩
theorem calD_numberFits : CalV gT yD_numberFits cD_numberFits 3 (some .boolean) 2 := ⟨⟨gT_1 (i := 412) (by decide +kernel) rfl, gT_1 (i := 6) (by decide +kernel) rfl, by decide +kernel⟩, gT_1 (i := 411) (by decide +kernel) rfl, gT_s (q := (yD_numberFits, 11)) (by decide +kernel)⟩
theorem dD_numberFits_0 : decode cD_numberFits 0 = .ok (.aload_n 0, 1) := by decide +kernel
theorem dD_numberFits_1 : decode cD_numberFits 1 = .ok (.aload_n 0, 1) := by decide +kernel
theorem dD_numberFits_2 : decode cD_numberFits 2 = .ok (.getfield 136, 3) := by decide +kernel
theorem dD_numberFits_5 : decode cD_numberFits 5 = .ok (.putfield 138, 3) := by decide +kernel
theorem dD_numberFits_8 : decode cD_numberFits 8 = .ok (.aload_n 0, 1) := by decide +kernel
theorem dD_numberFits_9 : decode cD_numberFits 9 = .ok (.aload_n 0, 1) := by decide +kernel
theorem dD_numberFits_10 : decode cD_numberFits 10 = .ok (.getfield 19, 3) := by decide +kernel
theorem dD_numberFits_13 : decode cD_numberFits 13 = .ok (.iload_n 2, 1) := by decide +kernel
theorem dD_numberFits_14 : decode cD_numberFits 14 = .ok (.iconst 0, 1) := by decide +kernel
theorem dD_numberFits_15 : decode cD_numberFits 15 = .ok (.invokevirtual 31, 3) := by decide +kernel
theorem dD_numberFits_18 : decode cD_numberFits 18 = .ok (.putfield 136, 3) := by decide +kernel
theorem dD_numberFits_21 : decode cD_numberFits 21 = .ok (.aload_n 0, 1) := by decide +kernel
theorem dD_numberFits_22 : decode cD_numberFits 22 = .ok (.getfield 136, 3) := by decide +kernel
theorem dD_numberFits_25 : decode cD_numberFits 25 = .ok (.iconst (-1), 1) := by decide +kernel
theorem dD_numberFits_26 : decode cD_numberFits 26 = .ok (.if_icmp .ne 5, 3) := by decide +kernel
theorem dD_numberFits_29 : decode cD_numberFits 29 = .ok (.iconst 0, 1) := by decide +kernel
theorem dD_numberFits_30 : decode cD_numberFits 30 = .ok (.ireturn, 1) := by decide +kernel
theorem dD_numberFits_31 : decode cD_numberFits 31 = .ok (.iload_n 1, 1) := by decide +kernel
theorem dD_numberFits_32 : decode cD_numberFits 32 = .ok (.lookupswitch 126 #[(76, 80), (78, 104), (85, 63), (86, 44)], 44) := by decide +kernel
theorem dD_numberFits_76 : decode cD_numberFits 76 = .ok (.aload_n 0, 1) := by decide +kernel
theorem dD_numberFits_77 : decode cD_numberFits 77 = .ok (.getfield 136, 3) := by decide +kernel
theorem dD_numberFits_80 : decode cD_numberFits 80 = .ok (.iconst 1, 1) := by decide +kernel
theorem dD_numberFits_81 : decode cD_numberFits 81 = .ok (.aload_n 0, 1) := by decide +kernel
theorem dD_numberFits_82 : decode cD_numberFits 82 = .ok (.getfield 106, 3) := by decide +kernel
theorem dD_numberFits_85 : decode cD_numberFits 85 = .ok (.ishl, 1) := by decide +kernel
theorem dD_numberFits_86 : decode cD_numberFits 86 = .ok (.if_icmp .ge 7, 3) := by decide +kernel
theorem dD_numberFits_89 : decode cD_numberFits 89 = .ok (.iconst 1, 1) := by decide +kernel
theorem dD_numberFits_90 : decode cD_numberFits 90 = .ok (.goto 4, 3) := by decide +kernel
theorem dD_numberFits_93 : decode cD_numberFits 93 = .ok (.iconst 0, 1) := by decide +kernel
theorem dD_numberFits_94 : decode cD_numberFits 94 = .ok (.ireturn, 1) := by decide +kernel
theorem dD_numberFits_95 : decode cD_numberFits 95 = .ok (.aload_n 0, 1) := by decide +kernel
theorem dD_numberFits_96 : decode cD_numberFits 96 = .ok (.getfield 136, 3) := by decide +kernel
theorem dD_numberFits_99 : decode cD_numberFits 99 = .ok (.aload_n 0, 1) := by decide +kernel
theorem dD_numberFits_100 : decode cD_numberFits 100 = .ok (.getfield 141, 3) := by decide +kernel
theorem dD_numberFits_103 : decode cD_numberFits 103 = .ok (.if_icmp .ge 7, 3) := by decide +kernel
theorem dD_numberFits_106 : decode cD_numberFits 106 = .ok (.iconst 1, 1) := by decide +kernel
theorem dD_numberFits_107 : decode cD_numberFits 107 = .ok (.goto 4, 3) := by decide +kernel
theorem dD_numberFits_110 : decode cD_numberFits 110 = .ok (.iconst 0, 1) := by decide +kernel
theorem dD_numberFits_111 : decode cD_numberFits 111 = .ok (.ireturn, 1) := by decide +kernel
theorem dD_numberFits_112 : decode cD_numberFits 112 = .ok (.aload_n 0, 1) := by decide +kernel
theorem dD_numberFits_113 : decode cD_numberFits 113 = .ok (.getfield 138, 3) := by decide +kernel
theorem dD_numberFits_116 : decode cD_numberFits 116 = .ok (.aload_n 0, 1) := by decide +kernel
theorem dD_numberFits_117 : decode cD_numberFits 117 = .ok (.getfield 136, 3) := by decide +kernel
theorem dD_numberFits_120 : decode cD_numberFits 120 = .ok (.isub, 1) := by decide +kernel
theorem dD_numberFits_121 : decode cD_numberFits 121 = .ok (.iconst 1, 1) := by decide +kernel
theorem dD_numberFits_122 : decode cD_numberFits 122 = .ok (.iadd, 1) := by decide +kernel
theorem dD_numberFits_123 : decode cD_numberFits 123 = .ok (.aload_n 0, 1) := by decide +kernel
theorem dD_numberFits_124 : decode cD_numberFits 124 = .ok (.getfield 106, 3) := by decide +kernel
theorem dD_numberFits_127 : decode cD_numberFits 127 = .ok (.if_icmp .ne 7, 3) := by decide +kernel
theorem dD_numberFits_130 : decode cD_numberFits 130 = .ok (.iconst 1, 1) := by decide +kernel
theorem dD_numberFits_131 : decode cD_numberFits 131 = .ok (.goto 4, 3) := by decide +kernel
theorem dD_numberFits_134 : decode cD_numberFits 134 = .ok (.iconst 0, 1) := by decide +kernel
theorem dD_numberFits_135 : decode cD_numberFits 135 = .ok (.ireturn, 1) := by decide +kernel
theorem dD_numberFits_136 : decode cD_numberFits 136 = .ok (.aload_n 0, 1) := by decide +kernel
theorem dD_numberFits_137 : decode cD_numberFits 137 = .ok (.getfield 141, 3) := by decide +kernel
theorem dD_numberFits_140 : decode cD_numberFits 140 = .ok (.aload_n 0, 1) := by decide +kernel
theorem dD_numberFits_141 : decode cD_numberFits 141 = .ok (.getfield 136, 3) := by decide +kernel
theorem dD_numberFits_144 : decode cD_numberFits 144 = .ok (.iadd, 1) := by decide +kernel
theorem dD_numberFits_145 : decode cD_numberFits 145 = .ok (.aload_n 0, 1) := by decide +kernel
theorem dD_numberFits_146 : decode cD_numberFits 146 = .ok (.getfield 106, 3) := by decide +kernel
theorem dD_numberFits_149 : decode cD_numberFits 149 = .ok (.if_icmp .ne 7, 3) := by decide +kernel
theorem dD_numberFits_152 : decode cD_numberFits 152 = .ok (.iconst 1, 1) := by decide +kernel
theorem dD_numberFits_153 : decode cD_numberFits 153 = .ok (.goto 4, 3) := by decide +kernel
theorem dD_numberFits_156 : decode cD_numberFits 156 = .ok (.iconst 0, 1) := by decide +kernel
theorem dD_numberFits_157 : decode cD_numberFits 157 = .ok (.ireturn, 1) := by decide +kernel
theorem dD_numberFits_158 : decode cD_numberFits 158 = .ok (.iconst 0, 1) := by decide +kernel
theorem dD_numberFits_159 : decode cD_numberFits 159 = .ok (.ireturn, 1) := by decide +kernel
abbrev cB_sortOf : ByteArray := prog_3_method_5_code
def yB_sortOf : MethodName := ⟨"WordChecker$Book", "sortOf", "(I)I"⟩
theorem calB_sortOf : CalV gT yB_sortOf cB_sortOf 3 (some .int) 1 := ⟨⟨gT_1 (i := 386) (by decide +kernel) rfl, gT_1 (i := 3) (by decide +kernel) rfl, by decide +kernel⟩, gT_1 (i := 384) (by decide +kernel) rfl, gT_1 (i := 385) (by decide +kernel) rfl⟩
theorem dB_sortOf_0 : decode cB_sortOf 0 = .ok (.aload_n 0, 1) := by decide +kernel
theorem dB_sortOf_1 : decode cB_sortOf 1 = .ok (.iload_n 1, 1) := by decide +kernel
theorem dB_sortOf_2 : decode cB_sortOf 2 = .ok (.invokevirtual 44, 3) := by decide +kernel
theorem dB_sortOf_5 : decode cB_sortOf 5 = .ok (.istore_n 2, 1) := by decide +kernel
theorem dB_sortOf_6 : decode cB_sortOf 6 = .ok (.iload_n 2, 1) := by decide +kernel
theorem dB_sortOf_7 : decode cB_sortOf 7 = .ok (.iconst (-1), 1) := by decide +kernel
theorem dB_sortOf_8 : decode cB_sortOf 8 = .ok (.if_icmp .eq 30, 3) := by decide +kernel
theorem dB_sortOf_11 : decode cB_sortOf 11 = .ok (.aload_n 0, 1) := by decide +kernel
theorem dB_sortOf_12 : decode cB_sortOf 12 = .ok (.getfield 11, 3) := by decide +kernel
theorem dB_sortOf_15 : decode cB_sortOf 15 = .ok (.iload_n 2, 1) := by decide +kernel
theorem dB_sortOf_16 : decode cB_sortOf 16 = .ok (.aaload, 1) := by decide +kernel
theorem dB_sortOf_17 : decode cB_sortOf 17 = .ok (.getfield 48, 3) := by decide +kernel
theorem dB_sortOf_20 : decode cB_sortOf 20 = .ok (.getstatic 58, 3) := by decide +kernel
theorem dB_sortOf_23 : decode cB_sortOf 23 = .ok (.if_acmp .ne 15, 3) := by decide +kernel
theorem dB_sortOf_26 : decode cB_sortOf 26 = .ok (.aload_n 0, 1) := by decide +kernel
theorem dB_sortOf_27 : decode cB_sortOf 27 = .ok (.getfield 11, 3) := by decide +kernel
theorem dB_sortOf_30 : decode cB_sortOf 30 = .ok (.iload_n 2, 1) := by decide +kernel
theorem dB_sortOf_31 : decode cB_sortOf 31 = .ok (.aaload, 1) := by decide +kernel
theorem dB_sortOf_32 : decode cB_sortOf 32 = .ok (.getfield 61, 3) := by decide +kernel
theorem dB_sortOf_35 : decode cB_sortOf 35 = .ok (.goto 4, 3) := by decide +kernel
theorem dB_sortOf_38 : decode cB_sortOf 38 = .ok (.iconst (-1), 1) := by decide +kernel
theorem dB_sortOf_39 : decode cB_sortOf 39 = .ok (.ireturn, 1) := by decide +kernel
abbrev cD_sortFits : ByteArray := prog_4_method_7_code
def yD_sortFits : MethodName := ⟨"WordChecker$Draft", "sortFits", "(II)Z"⟩
theorem calD_sortFits : CalV gT yD_sortFits cD_sortFits 3 (some .boolean) 2 := ⟨⟨gT_1 (i := 404) (by decide +kernel) rfl, gT_1 (i := 6) (by decide +kernel) rfl, by decide +kernel⟩, gT_1 (i := 403) (by decide +kernel) rfl, gT_s (q := (yD_sortFits, 11)) (by decide +kernel)⟩
theorem dD_sortFits_0 : decode cD_sortFits 0 = .ok (.aload_n 0, 1) := by decide +kernel
theorem dD_sortFits_1 : decode cD_sortFits 1 = .ok (.aload_n 0, 1) := by decide +kernel
theorem dD_sortFits_2 : decode cD_sortFits 2 = .ok (.getfield 23, 3) := by decide +kernel
theorem dD_sortFits_5 : decode cD_sortFits 5 = .ok (.aload_n 0, 1) := by decide +kernel
theorem dD_sortFits_6 : decode cD_sortFits 6 = .ok (.getfield 19, 3) := by decide +kernel
theorem dD_sortFits_9 : decode cD_sortFits 9 = .ok (.iload_n 2, 1) := by decide +kernel
theorem dD_sortFits_10 : decode cD_sortFits 10 = .ok (.iconst 0, 1) := by decide +kernel
theorem dD_sortFits_11 : decode cD_sortFits 11 = .ok (.invokevirtual 31, 3) := by decide +kernel
theorem dD_sortFits_14 : decode cD_sortFits 14 = .ok (.invokevirtual 111, 3) := by decide +kernel
theorem dD_sortFits_17 : decode cD_sortFits 17 = .ok (.putfield 106, 3) := by decide +kernel
theorem dD_sortFits_20 : decode cD_sortFits 20 = .ok (.aload_n 0, 1) := by decide +kernel
theorem dD_sortFits_21 : decode cD_sortFits 21 = .ok (.getfield 106, 3) := by decide +kernel
theorem dD_sortFits_24 : decode cD_sortFits 24 = .ok (.iconst (-1), 1) := by decide +kernel
theorem dD_sortFits_25 : decode cD_sortFits 25 = .ok (.if_icmp .ne 5, 3) := by decide +kernel
theorem dD_sortFits_28 : decode cD_sortFits 28 = .ok (.iconst 0, 1) := by decide +kernel
theorem dD_sortFits_29 : decode cD_sortFits 29 = .ok (.ireturn, 1) := by decide +kernel
theorem dD_sortFits_30 : decode cD_sortFits 30 = .ok (.iload_n 1, 1) := by decide +kernel
theorem dD_sortFits_31 : decode cD_sortFits 31 = .ok (.lookupswitch 158 #[(66, 59), (73, 97), (79, 75), (83, 57), (84, 132), (89, 89)], 57) := by decide +kernel
theorem dD_sortFits_88 : decode cD_sortFits 88 = .ok (.iconst 1, 1) := by decide +kernel
theorem dD_sortFits_89 : decode cD_sortFits 89 = .ok (.ireturn, 1) := by decide +kernel
theorem dD_sortFits_90 : decode cD_sortFits 90 = .ok (.aload_n 0, 1) := by decide +kernel
theorem dD_sortFits_91 : decode cD_sortFits 91 = .ok (.getfield 106, 3) := by decide +kernel
theorem dD_sortFits_94 : decode cD_sortFits 94 = .ok (.invokestatic 114, 3) := by decide +kernel
theorem dD_sortFits_97 : decode cD_sortFits 97 = .ok (.ifCond .ne 7, 3) := by decide +kernel
theorem dD_sortFits_100 : decode cD_sortFits 100 = .ok (.iconst 1, 1) := by decide +kernel
theorem dD_sortFits_101 : decode cD_sortFits 101 = .ok (.goto 4, 3) := by decide +kernel
theorem dD_sortFits_104 : decode cD_sortFits 104 = .ok (.iconst 0, 1) := by decide +kernel
theorem dD_sortFits_105 : decode cD_sortFits 105 = .ok (.ireturn, 1) := by decide +kernel
theorem dD_sortFits_106 : decode cD_sortFits 106 = .ok (.aload_n 0, 1) := by decide +kernel
theorem dD_sortFits_107 : decode cD_sortFits 107 = .ok (.getfield 106, 3) := by decide +kernel
theorem dD_sortFits_110 : decode cD_sortFits 110 = .ok (.iconst 1, 1) := by decide +kernel
theorem dD_sortFits_111 : decode cD_sortFits 111 = .ok (.if_icmp .ne 7, 3) := by decide +kernel
theorem dD_sortFits_114 : decode cD_sortFits 114 = .ok (.iconst 1, 1) := by decide +kernel
theorem dD_sortFits_115 : decode cD_sortFits 115 = .ok (.goto 4, 3) := by decide +kernel
theorem dD_sortFits_118 : decode cD_sortFits 118 = .ok (.iconst 0, 1) := by decide +kernel
theorem dD_sortFits_119 : decode cD_sortFits 119 = .ok (.ireturn, 1) := by decide +kernel
theorem dD_sortFits_120 : decode cD_sortFits 120 = .ok (.aload_n 0, 1) := by decide +kernel
theorem dD_sortFits_121 : decode cD_sortFits 121 = .ok (.getfield 106, 3) := by decide +kernel
theorem dD_sortFits_124 : decode cD_sortFits 124 = .ok (.invokestatic 114, 3) := by decide +kernel
theorem dD_sortFits_127 : decode cD_sortFits 127 = .ok (.ireturn, 1) := by decide +kernel
theorem dD_sortFits_128 : decode cD_sortFits 128 = .ok (.aload_n 0, 1) := by decide +kernel
theorem dD_sortFits_129 : decode cD_sortFits 129 = .ok (.getfield 106, 3) := by decide +kernel
theorem dD_sortFits_132 : decode cD_sortFits 132 = .ok (.invokestatic 114, 3) := by decide +kernel
theorem dD_sortFits_135 : decode cD_sortFits 135 = .ok (.ifCond .ne 26, 3) := by decide +kernel
theorem dD_sortFits_138 : decode cD_sortFits 138 = .ok (.aload_n 0, 1) := by decide +kernel
theorem dD_sortFits_139 : decode cD_sortFits 139 = .ok (.getfield 23, 3) := by decide +kernel
theorem dD_sortFits_142 : decode cD_sortFits 142 = .ok (.getfield 127, 3) := by decide +kernel
theorem dD_sortFits_145 : decode cD_sortFits 145 = .ok (.aload_n 0, 1) := by decide +kernel
theorem dD_sortFits_146 : decode cD_sortFits 146 = .ok (.getfield 106, 3) := by decide +kernel
theorem dD_sortFits_149 : decode cD_sortFits 149 = .ok (.invokestatic 130, 3) := by decide +kernel
theorem dD_sortFits_152 : decode cD_sortFits 152 = .ok (.iadd, 1) := by decide +kernel
theorem dD_sortFits_153 : decode cD_sortFits 153 = .ok (.iconst 2, 1) := by decide +kernel
theorem dD_sortFits_154 : decode cD_sortFits 154 = .ok (.if_icmp .gt 7, 3) := by decide +kernel
theorem dD_sortFits_157 : decode cD_sortFits 157 = .ok (.iconst 1, 1) := by decide +kernel
theorem dD_sortFits_158 : decode cD_sortFits 158 = .ok (.goto 4, 3) := by decide +kernel
theorem dD_sortFits_161 : decode cD_sortFits 161 = .ok (.iconst 0, 1) := by decide +kernel
theorem dD_sortFits_162 : decode cD_sortFits 162 = .ok (.ireturn, 1) := by decide +kernel
theorem dD_sortFits_163 : decode cD_sortFits 163 = .ok (.aload_n 0, 1) := by decide +kernel
theorem dD_sortFits_164 : decode cD_sortFits 164 = .ok (.getfield 23, 3) := by decide +kernel
theorem dD_sortFits_167 : decode cD_sortFits 167 = .ok (.getfield 133, 3) := by decide +kernel
theorem dD_sortFits_170 : decode cD_sortFits 170 = .ok (.aload_n 0, 1) := by decide +kernel
theorem dD_sortFits_171 : decode cD_sortFits 171 = .ok (.getfield 106, 3) := by decide +kernel
theorem dD_sortFits_174 : decode cD_sortFits 174 = .ok (.invokestatic 130, 3) := by decide +kernel
theorem dD_sortFits_177 : decode cD_sortFits 177 = .ok (.iadd, 1) := by decide +kernel
theorem dD_sortFits_178 : decode cD_sortFits 178 = .ok (.bipush 6, 2) := by decide +kernel
theorem dD_sortFits_180 : decode cD_sortFits 180 = .ok (.if_icmp .gt 7, 3) := by decide +kernel
theorem dD_sortFits_183 : decode cD_sortFits 183 = .ok (.iconst 1, 1) := by decide +kernel
theorem dD_sortFits_184 : decode cD_sortFits 184 = .ok (.goto 4, 3) := by decide +kernel
theorem dD_sortFits_187 : decode cD_sortFits 187 = .ok (.iconst 0, 1) := by decide +kernel
theorem dD_sortFits_188 : decode cD_sortFits 188 = .ok (.ireturn, 1) := by decide +kernel
theorem dD_sortFits_189 : decode cD_sortFits 189 = .ok (.iconst 0, 1) := by decide +kernel
theorem dD_sortFits_190 : decode cD_sortFits 190 = .ok (.ireturn, 1) := by decide +kernel
abbrev cD_fits : ByteArray := prog_4_method_6_code
def yD_fits : MethodName := ⟨"WordChecker$Draft", "fits", "(II)Z"⟩
theorem calD_fits : CalV gT yD_fits cD_fits 3 (some .boolean) 2 := ⟨⟨gT_1 (i := 400) (by decide +kernel) rfl, gT_1 (i := 6) (by decide +kernel) rfl, by decide +kernel⟩, gT_1 (i := 399) (by decide +kernel) rfl, gT_s (q := (yD_fits, 11)) (by decide +kernel)⟩
theorem dD_fits_0 : decode cD_fits 0 = .ok (.iload_n 1, 1) := by decide +kernel
theorem dD_fits_1 : decode cD_fits 1 = .ok (.tableswitch 125 66 89 #[111, 125, 125, 125, 125, 125, 125, 111, 125, 125, 118, 125, 118, 111, 125, 125, 125, 111, 111, 118, 118, 125, 125, 111], 111) := by decide +kernel
theorem dD_fits_112 : decode cD_fits 112 = .ok (.aload_n 0, 1) := by decide +kernel
theorem dD_fits_113 : decode cD_fits 113 = .ok (.iload_n 1, 1) := by decide +kernel
theorem dD_fits_114 : decode cD_fits 114 = .ok (.iload_n 2, 1) := by decide +kernel
theorem dD_fits_115 : decode cD_fits 115 = .ok (.invokevirtual 118, 3) := by decide +kernel
theorem dD_fits_118 : decode cD_fits 118 = .ok (.ireturn, 1) := by decide +kernel
theorem dD_fits_119 : decode cD_fits 119 = .ok (.aload_n 0, 1) := by decide +kernel
theorem dD_fits_120 : decode cD_fits 120 = .ok (.iload_n 1, 1) := by decide +kernel
theorem dD_fits_121 : decode cD_fits 121 = .ok (.iload_n 2, 1) := by decide +kernel
theorem dD_fits_122 : decode cD_fits 122 = .ok (.invokevirtual 121, 3) := by decide +kernel
theorem dD_fits_125 : decode cD_fits 125 = .ok (.ireturn, 1) := by decide +kernel
theorem dD_fits_126 : decode cD_fits 126 = .ok (.aload_n 0, 1) := by decide +kernel
theorem dD_fits_127 : decode cD_fits 127 = .ok (.iload_n 1, 1) := by decide +kernel
theorem dD_fits_128 : decode cD_fits 128 = .ok (.iload_n 2, 1) := by decide +kernel
theorem dD_fits_129 : decode cD_fits 129 = .ok (.invokevirtual 124, 3) := by decide +kernel
theorem dD_fits_132 : decode cD_fits 132 = .ok (.ireturn, 1) := by decide +kernel
abbrev cT_isWord : ByteArray := prog_9_method_6_code
def yT_isWord : MethodName := ⟨"WordChecker$Text", "isWord", "(ILjava/lang/String;)Z"⟩
theorem calT_isWord : CalV gT yT_isWord cT_isWord 4 (some .boolean) 2 := ⟨⟨gT_1 (i := 312) (by decide +kernel) rfl, gT_1 (i := 2) (by decide +kernel) rfl, by decide +kernel⟩, gT_1 (i := 310) (by decide +kernel) rfl, gT_1 (i := 311) (by decide +kernel) rfl⟩
theorem dT_isWord_0 : decode cT_isWord 0 = .ok (.iload_n 1, 1) := by decide +kernel
theorem dT_isWord_1 : decode cT_isWord 1 = .ok (.aload_n 0, 1) := by decide +kernel
theorem dT_isWord_2 : decode cT_isWord 2 = .ok (.getfield 30, 3) := by decide +kernel
theorem dT_isWord_5 : decode cT_isWord 5 = .ok (.if_icmp .ge 23, 3) := by decide +kernel
theorem dT_isWord_8 : decode cT_isWord 8 = .ok (.aload_n 0, 1) := by decide +kernel
theorem dT_isWord_9 : decode cT_isWord 9 = .ok (.getfield 19, 3) := by decide +kernel
theorem dT_isWord_12 : decode cT_isWord 12 = .ok (.iload_n 1, 1) := by decide +kernel
theorem dT_isWord_13 : decode cT_isWord 13 = .ok (.iaload, 1) := by decide +kernel
theorem dT_isWord_14 : decode cT_isWord 14 = .ok (.aload_n 0, 1) := by decide +kernel
theorem dT_isWord_15 : decode cT_isWord 15 = .ok (.getfield 15, 3) := by decide +kernel
theorem dT_isWord_18 : decode cT_isWord 18 = .ok (.iload_n 1, 1) := by decide +kernel
theorem dT_isWord_19 : decode cT_isWord 19 = .ok (.iaload, 1) := by decide +kernel
theorem dT_isWord_20 : decode cT_isWord 20 = .ok (.isub, 1) := by decide +kernel
theorem dT_isWord_21 : decode cT_isWord 21 = .ok (.aload_n 2, 1) := by decide +kernel
theorem dT_isWord_22 : decode cT_isWord 22 = .ok (.invokevirtual 33, 3) := by decide +kernel
theorem dT_isWord_25 : decode cT_isWord 25 = .ok (.if_icmp .eq 5, 3) := by decide +kernel
theorem dT_isWord_28 : decode cT_isWord 28 = .ok (.iconst 0, 1) := by decide +kernel
theorem dT_isWord_29 : decode cT_isWord 29 = .ok (.ireturn, 1) := by decide +kernel
theorem dT_isWord_30 : decode cT_isWord 30 = .ok (.iconst 0, 1) := by decide +kernel
theorem dT_isWord_31 : decode cT_isWord 31 = .ok (.istore_n 3, 1) := by decide +kernel
theorem dT_isWord_32 : decode cT_isWord 32 = .ok (.iload_n 3, 1) := by decide +kernel
theorem dT_isWord_33 : decode cT_isWord 33 = .ok (.aload_n 2, 1) := by decide +kernel
theorem dT_isWord_34 : decode cT_isWord 34 = .ok (.invokevirtual 33, 3) := by decide +kernel
theorem dT_isWord_37 : decode cT_isWord 37 = .ok (.if_icmp .ge 32, 3) := by decide +kernel
theorem dT_isWord_40 : decode cT_isWord 40 = .ok (.aload_n 0, 1) := by decide +kernel
theorem dT_isWord_41 : decode cT_isWord 41 = .ok (.getfield 9, 3) := by decide +kernel
theorem dT_isWord_44 : decode cT_isWord 44 = .ok (.aload_n 0, 1) := by decide +kernel
theorem dT_isWord_45 : decode cT_isWord 45 = .ok (.getfield 15, 3) := by decide +kernel
theorem dT_isWord_48 : decode cT_isWord 48 = .ok (.iload_n 1, 1) := by decide +kernel
theorem dT_isWord_49 : decode cT_isWord 49 = .ok (.iaload, 1) := by decide +kernel
theorem dT_isWord_50 : decode cT_isWord 50 = .ok (.iload_n 3, 1) := by decide +kernel
theorem dT_isWord_51 : decode cT_isWord 51 = .ok (.iadd, 1) := by decide +kernel
theorem dT_isWord_52 : decode cT_isWord 52 = .ok (.caload, 1) := by decide +kernel
theorem dT_isWord_53 : decode cT_isWord 53 = .ok (.aload_n 2, 1) := by decide +kernel
theorem dT_isWord_54 : decode cT_isWord 54 = .ok (.iload_n 3, 1) := by decide +kernel
theorem dT_isWord_55 : decode cT_isWord 55 = .ok (.invokevirtual 39, 3) := by decide +kernel
theorem dT_isWord_58 : decode cT_isWord 58 = .ok (.if_icmp .eq 5, 3) := by decide +kernel
theorem dT_isWord_61 : decode cT_isWord 61 = .ok (.iconst 0, 1) := by decide +kernel
theorem dT_isWord_62 : decode cT_isWord 62 = .ok (.ireturn, 1) := by decide +kernel
theorem dT_isWord_63 : decode cT_isWord 63 = .ok (.iinc 3 1, 3) := by decide +kernel
theorem dT_isWord_66 : decode cT_isWord 66 = .ok (.goto (-34), 3) := by decide +kernel
theorem dT_isWord_69 : decode cT_isWord 69 = .ok (.iconst 1, 1) := by decide +kernel
theorem dT_isWord_70 : decode cT_isWord 70 = .ok (.ireturn, 1) := by decide +kernel
abbrev cD_kindOfWord : ByteArray := prog_4_method_3_code
def yD_kindOfWord : MethodName := ⟨"WordChecker$Draft", "kindOfWord", "()LWordChecker$Kind;"⟩
theorem calD_kindOfWord : CalV gT yD_kindOfWord cD_kindOfWord 2 (some (.object "WordChecker$Kind")) 0 := ⟨⟨gT_1 (i := 306) (by decide +kernel) rfl, gT_1 (i := 6) (by decide +kernel) rfl, by decide +kernel⟩, gT_1 (i := 305) (by decide +kernel) rfl, gT_s (q := (yD_kindOfWord, 11)) (by decide +kernel)⟩
theorem dD_kindOfWord_0 : decode cD_kindOfWord 0 = .ok (.iconst 0, 1) := by decide +kernel
theorem dD_kindOfWord_1 : decode cD_kindOfWord 1 = .ok (.istore_n 1, 1) := by decide +kernel
theorem dD_kindOfWord_2 : decode cD_kindOfWord 2 = .ok (.iload_n 1, 1) := by decide +kernel
theorem dD_kindOfWord_3 : decode cD_kindOfWord 3 = .ok (.getstatic 90, 3) := by decide +kernel
theorem dD_kindOfWord_6 : decode cD_kindOfWord 6 = .ok (.arraylength, 1) := by decide +kernel
theorem dD_kindOfWord_7 : decode cD_kindOfWord 7 = .ok (.if_icmp .ge 34, 3) := by decide +kernel
theorem dD_kindOfWord_10 : decode cD_kindOfWord 10 = .ok (.aload_n 0, 1) := by decide +kernel
theorem dD_kindOfWord_11 : decode cD_kindOfWord 11 = .ok (.getfield 19, 3) := by decide +kernel
theorem dD_kindOfWord_14 : decode cD_kindOfWord 14 = .ok (.iconst 1, 1) := by decide +kernel
theorem dD_kindOfWord_15 : decode cD_kindOfWord 15 = .ok (.getstatic 90, 3) := by decide +kernel
theorem dD_kindOfWord_18 : decode cD_kindOfWord 18 = .ok (.iload_n 1, 1) := by decide +kernel
theorem dD_kindOfWord_19 : decode cD_kindOfWord 19 = .ok (.aaload, 1) := by decide +kernel
theorem dD_kindOfWord_20 : decode cD_kindOfWord 20 = .ok (.getfield 94, 3) := by decide +kernel
theorem dD_kindOfWord_23 : decode cD_kindOfWord 23 = .ok (.invokevirtual 97, 3) := by decide +kernel
theorem dD_kindOfWord_26 : decode cD_kindOfWord 26 = .ok (.ifCond .eq 9, 3) := by decide +kernel
theorem dD_kindOfWord_29 : decode cD_kindOfWord 29 = .ok (.getstatic 90, 3) := by decide +kernel
theorem dD_kindOfWord_32 : decode cD_kindOfWord 32 = .ok (.iload_n 1, 1) := by decide +kernel
theorem dD_kindOfWord_33 : decode cD_kindOfWord 33 = .ok (.aaload, 1) := by decide +kernel
theorem dD_kindOfWord_34 : decode cD_kindOfWord 34 = .ok (.areturn, 1) := by decide +kernel
theorem dD_kindOfWord_35 : decode cD_kindOfWord 35 = .ok (.iinc 1 1, 3) := by decide +kernel
theorem dD_kindOfWord_38 : decode cD_kindOfWord 38 = .ok (.goto (-36), 3) := by decide +kernel
theorem dD_kindOfWord_41 : decode cD_kindOfWord 41 = .ok (.aconst_null, 1) := by decide +kernel
theorem dD_kindOfWord_42 : decode cD_kindOfWord 42 = .ok (.areturn, 1) := by decide +kernel
abbrev cD_sortLineFault : ByteArray := prog_4_method_5_code
def yD_sortLineFault : MethodName := ⟨"WordChecker$Draft", "sortLineFault", "()I"⟩
theorem calD_sortLineFault : CalV gT yD_sortLineFault cD_sortLineFault 2 (some .int) 0 := ⟨⟨gT_1 (i := 376) (by decide +kernel) rfl, gT_1 (i := 6) (by decide +kernel) rfl, by decide +kernel⟩, gT_1 (i := 375) (by decide +kernel) rfl, gT_s (q := (yD_sortLineFault, 11)) (by decide +kernel)⟩
theorem dD_sortLineFault_0 : decode cD_sortLineFault 0 = .ok (.aload_n 0, 1) := by decide +kernel
theorem dD_sortLineFault_1 : decode cD_sortLineFault 1 = .ok (.getfield 19, 3) := by decide +kernel
theorem dD_sortLineFault_4 : decode cD_sortLineFault 4 = .ok (.iconst 2, 1) := by decide +kernel
theorem dD_sortLineFault_5 : decode cD_sortLineFault 5 = .ok (.ldc 104, 2) := by decide +kernel
theorem dD_sortLineFault_7 : decode cD_sortLineFault 7 = .ok (.invokevirtual 97, 3) := by decide +kernel
theorem dD_sortLineFault_10 : decode cD_sortLineFault 10 = .ok (.ifCond .eq 42, 3) := by decide +kernel
theorem dD_sortLineFault_13 : decode cD_sortLineFault 13 = .ok (.aload_n 0, 1) := by decide +kernel
theorem dD_sortLineFault_14 : decode cD_sortLineFault 14 = .ok (.aload_n 0, 1) := by decide +kernel
theorem dD_sortLineFault_15 : decode cD_sortLineFault 15 = .ok (.getfield 19, 3) := by decide +kernel
theorem dD_sortLineFault_18 : decode cD_sortLineFault 18 = .ok (.iconst 3, 1) := by decide +kernel
theorem dD_sortLineFault_19 : decode cD_sortLineFault 19 = .ok (.iconst 0, 1) := by decide +kernel
theorem dD_sortLineFault_20 : decode cD_sortLineFault 20 = .ok (.invokevirtual 31, 3) := by decide +kernel
theorem dD_sortLineFault_23 : decode cD_sortLineFault 23 = .ok (.putfield 106, 3) := by decide +kernel
theorem dD_sortLineFault_26 : decode cD_sortLineFault 26 = .ok (.aload_n 0, 1) := by decide +kernel
theorem dD_sortLineFault_27 : decode cD_sortLineFault 27 = .ok (.getfield 106, 3) := by decide +kernel
theorem dD_sortLineFault_30 : decode cD_sortLineFault 30 = .ok (.iconst 1, 1) := by decide +kernel
theorem dD_sortLineFault_31 : decode cD_sortLineFault 31 = .ok (.if_icmp .lt 11, 3) := by decide +kernel
theorem dD_sortLineFault_34 : decode cD_sortLineFault 34 = .ok (.aload_n 0, 1) := by decide +kernel
theorem dD_sortLineFault_35 : decode cD_sortLineFault 35 = .ok (.getfield 106, 3) := by decide +kernel
theorem dD_sortLineFault_38 : decode cD_sortLineFault 38 = .ok (.iconst 3, 1) := by decide +kernel
theorem dD_sortLineFault_39 : decode cD_sortLineFault 39 = .ok (.if_icmp .le 7, 3) := by decide +kernel
theorem dD_sortLineFault_42 : decode cD_sortLineFault 42 = .ok (.iconst 3, 1) := by decide +kernel
theorem dD_sortLineFault_43 : decode cD_sortLineFault 43 = .ok (.goto 8, 3) := by decide +kernel
theorem dD_sortLineFault_46 : decode cD_sortLineFault 46 = .ok (.aload_n 0, 1) := by decide +kernel
theorem dD_sortLineFault_47 : decode cD_sortLineFault 47 = .ok (.iconst 4, 1) := by decide +kernel
theorem dD_sortLineFault_48 : decode cD_sortLineFault 48 = .ok (.invokevirtual 86, 3) := by decide +kernel
theorem dD_sortLineFault_51 : decode cD_sortLineFault 51 = .ok (.ireturn, 1) := by decide +kernel
theorem dD_sortLineFault_52 : decode cD_sortLineFault 52 = .ok (.aload_n 0, 1) := by decide +kernel
theorem dD_sortLineFault_53 : decode cD_sortLineFault 53 = .ok (.getfield 19, 3) := by decide +kernel
theorem dD_sortLineFault_56 : decode cD_sortLineFault 56 = .ok (.iconst 2, 1) := by decide +kernel
theorem dD_sortLineFault_57 : decode cD_sortLineFault 57 = .ok (.ldc 109, 2) := by decide +kernel
theorem dD_sortLineFault_59 : decode cD_sortLineFault 59 = .ok (.invokevirtual 97, 3) := by decide +kernel
theorem dD_sortLineFault_62 : decode cD_sortLineFault 62 = .ok (.ifCond .ne 5, 3) := by decide +kernel
theorem dD_sortLineFault_65 : decode cD_sortLineFault 65 = .ok (.iconst 2, 1) := by decide +kernel
theorem dD_sortLineFault_66 : decode cD_sortLineFault 66 = .ok (.ireturn, 1) := by decide +kernel
theorem dD_sortLineFault_67 : decode cD_sortLineFault 67 = .ok (.aload_n 0, 1) := by decide +kernel
theorem dD_sortLineFault_68 : decode cD_sortLineFault 68 = .ok (.getfield 23, 3) := by decide +kernel
theorem dD_sortLineFault_71 : decode cD_sortLineFault 71 = .ok (.aload_n 0, 1) := by decide +kernel
theorem dD_sortLineFault_72 : decode cD_sortLineFault 72 = .ok (.getfield 19, 3) := by decide +kernel
theorem dD_sortLineFault_75 : decode cD_sortLineFault 75 = .ok (.iconst 3, 1) := by decide +kernel
theorem dD_sortLineFault_76 : decode cD_sortLineFault 76 = .ok (.iconst 0, 1) := by decide +kernel
theorem dD_sortLineFault_77 : decode cD_sortLineFault 77 = .ok (.invokevirtual 31, 3) := by decide +kernel
theorem dD_sortLineFault_80 : decode cD_sortLineFault 80 = .ok (.invokevirtual 111, 3) := by decide +kernel
theorem dD_sortLineFault_83 : decode cD_sortLineFault 83 = .ok (.iconst 1, 1) := by decide +kernel
theorem dD_sortLineFault_84 : decode cD_sortLineFault 84 = .ok (.if_icmp .eq 5, 3) := by decide +kernel
theorem dD_sortLineFault_87 : decode cD_sortLineFault 87 = .ok (.iconst 3, 1) := by decide +kernel
theorem dD_sortLineFault_88 : decode cD_sortLineFault 88 = .ok (.ireturn, 1) := by decide +kernel
theorem dD_sortLineFault_89 : decode cD_sortLineFault 89 = .ok (.aload_n 0, 1) := by decide +kernel
theorem dD_sortLineFault_90 : decode cD_sortLineFault 90 = .ok (.getfield 23, 3) := by decide +kernel
theorem dD_sortLineFault_93 : decode cD_sortLineFault 93 = .ok (.aload_n 0, 1) := by decide +kernel
theorem dD_sortLineFault_94 : decode cD_sortLineFault 94 = .ok (.getfield 19, 3) := by decide +kernel
theorem dD_sortLineFault_97 : decode cD_sortLineFault 97 = .ok (.iconst 4, 1) := by decide +kernel
theorem dD_sortLineFault_98 : decode cD_sortLineFault 98 = .ok (.iconst 0, 1) := by decide +kernel
theorem dD_sortLineFault_99 : decode cD_sortLineFault 99 = .ok (.invokevirtual 31, 3) := by decide +kernel
theorem dD_sortLineFault_102 : decode cD_sortLineFault 102 = .ok (.invokevirtual 111, 3) := by decide +kernel
theorem dD_sortLineFault_105 : decode cD_sortLineFault 105 = .ok (.istore_n 1, 1) := by decide +kernel
theorem dD_sortLineFault_106 : decode cD_sortLineFault 106 = .ok (.iload_n 1, 1) := by decide +kernel
theorem dD_sortLineFault_107 : decode cD_sortLineFault 107 = .ok (.iconst (-1), 1) := by decide +kernel
theorem dD_sortLineFault_108 : decode cD_sortLineFault 108 = .ok (.if_icmp .eq 10, 3) := by decide +kernel
theorem dD_sortLineFault_111 : decode cD_sortLineFault 111 = .ok (.iload_n 1, 1) := by decide +kernel
theorem dD_sortLineFault_112 : decode cD_sortLineFault 112 = .ok (.invokestatic 114, 3) := by decide +kernel
theorem dD_sortLineFault_115 : decode cD_sortLineFault 115 = .ok (.ifCond .eq 5, 3) := by decide +kernel
theorem dD_sortLineFault_118 : decode cD_sortLineFault 118 = .ok (.iconst 4, 1) := by decide +kernel
theorem dD_sortLineFault_119 : decode cD_sortLineFault 119 = .ok (.ireturn, 1) := by decide +kernel
theorem dD_sortLineFault_120 : decode cD_sortLineFault 120 = .ok (.aload_n 0, 1) := by decide +kernel
theorem dD_sortLineFault_121 : decode cD_sortLineFault 121 = .ok (.iconst 4, 1) := by decide +kernel
theorem dD_sortLineFault_122 : decode cD_sortLineFault 122 = .ok (.iload_n 1, 1) := by decide +kernel
theorem dD_sortLineFault_123 : decode cD_sortLineFault 123 = .ok (.iadd, 1) := by decide +kernel
theorem dD_sortLineFault_124 : decode cD_sortLineFault 124 = .ok (.putfield 106, 3) := by decide +kernel
theorem dD_sortLineFault_127 : decode cD_sortLineFault 127 = .ok (.aload_n 0, 1) := by decide +kernel
theorem dD_sortLineFault_128 : decode cD_sortLineFault 128 = .ok (.iconst 5, 1) := by decide +kernel
theorem dD_sortLineFault_129 : decode cD_sortLineFault 129 = .ok (.invokevirtual 86, 3) := by decide +kernel
theorem dD_sortLineFault_132 : decode cD_sortLineFault 132 = .ok (.ireturn, 1) := by decide +kernel
abbrev cD_firstFault : ByteArray := prog_4_method_2_code
def yD_firstFault : MethodName := ⟨"WordChecker$Draft", "firstFault", "()I"⟩
theorem calD_firstFault : CalV gT yD_firstFault cD_firstFault 2 (some .int) 0 := ⟨⟨gT_1 (i := 294) (by decide +kernel) rfl, gT_1 (i := 6) (by decide +kernel) rfl, by decide +kernel⟩, gT_1 (i := 292) (by decide +kernel) rfl, gT_1 (i := 293) (by decide +kernel) rfl⟩
theorem dD_firstFault_0 : decode cD_firstFault 0 = .ok (.aload_n 0, 1) := by decide +kernel
theorem dD_firstFault_1 : decode cD_firstFault 1 = .ok (.iconst 0, 1) := by decide +kernel
theorem dD_firstFault_2 : decode cD_firstFault 2 = .ok (.putfield 27, 3) := by decide +kernel
theorem dD_firstFault_5 : decode cD_firstFault 5 = .ok (.aload_n 0, 1) := by decide +kernel
theorem dD_firstFault_6 : decode cD_firstFault 6 = .ok (.aload_n 0, 1) := by decide +kernel
theorem dD_firstFault_7 : decode cD_firstFault 7 = .ok (.getfield 19, 3) := by decide +kernel
theorem dD_firstFault_10 : decode cD_firstFault 10 = .ok (.iconst 0, 1) := by decide +kernel
theorem dD_firstFault_11 : decode cD_firstFault 11 = .ok (.iconst 0, 1) := by decide +kernel
theorem dD_firstFault_12 : decode cD_firstFault 12 = .ok (.invokevirtual 31, 3) := by decide +kernel
theorem dD_firstFault_15 : decode cD_firstFault 15 = .ok (.putfield 37, 3) := by decide +kernel
theorem dD_firstFault_18 : decode cD_firstFault 18 = .ok (.aload_n 0, 1) := by decide +kernel
theorem dD_firstFault_19 : decode cD_firstFault 19 = .ok (.getfield 37, 3) := by decide +kernel
theorem dD_firstFault_22 : decode cD_firstFault 22 = .ok (.aload_n 0, 1) := by decide +kernel
theorem dD_firstFault_23 : decode cD_firstFault 23 = .ok (.getfield 23, 3) := by decide +kernel
theorem dD_firstFault_26 : decode cD_firstFault 26 = .ok (.invokevirtual 40, 3) := by decide +kernel
theorem dD_firstFault_29 : decode cD_firstFault 29 = .ok (.if_icmp .gt 5, 3) := by decide +kernel
theorem dD_firstFault_32 : decode cD_firstFault 32 = .ok (.iconst 0, 1) := by decide +kernel
theorem dD_firstFault_33 : decode cD_firstFault 33 = .ok (.ireturn, 1) := by decide +kernel
theorem dD_firstFault_34 : decode cD_firstFault 34 = .ok (.aload_n 0, 1) := by decide +kernel
theorem dD_firstFault_35 : decode cD_firstFault 35 = .ok (.aload_n 0, 1) := by decide +kernel
theorem dD_firstFault_36 : decode cD_firstFault 36 = .ok (.invokevirtual 46, 3) := by decide +kernel
theorem dD_firstFault_39 : decode cD_firstFault 39 = .ok (.putfield 50, 3) := by decide +kernel
theorem dD_firstFault_42 : decode cD_firstFault 42 = .ok (.aload_n 0, 1) := by decide +kernel
theorem dD_firstFault_43 : decode cD_firstFault 43 = .ok (.getfield 50, 3) := by decide +kernel
theorem dD_firstFault_46 : decode cD_firstFault 46 = .ok (.ifnull 24, 3) := by decide +kernel
theorem dD_firstFault_49 : decode cD_firstFault 49 = .ok (.aload_n 0, 1) := by decide +kernel
theorem dD_firstFault_50 : decode cD_firstFault 50 = .ok (.getfield 50, 3) := by decide +kernel
theorem dD_firstFault_53 : decode cD_firstFault 53 = .ok (.invokevirtual 54, 3) := by decide +kernel
theorem dD_firstFault_56 : decode cD_firstFault 56 = .ok (.ifCond .eq 16, 3) := by decide +kernel
theorem dD_firstFault_59 : decode cD_firstFault 59 = .ok (.aload_n 0, 1) := by decide +kernel
theorem dD_firstFault_60 : decode cD_firstFault 60 = .ok (.getfield 23, 3) := by decide +kernel
theorem dD_firstFault_63 : decode cD_firstFault 63 = .ok (.getfield 60, 3) := by decide +kernel
theorem dD_firstFault_66 : decode cD_firstFault 66 = .ok (.iconst 2, 1) := by decide +kernel
theorem dD_firstFault_67 : decode cD_firstFault 67 = .ok (.if_icmp .lt 5, 3) := by decide +kernel
theorem dD_firstFault_70 : decode cD_firstFault 70 = .ok (.iconst 1, 1) := by decide +kernel
theorem dD_firstFault_71 : decode cD_firstFault 71 = .ok (.ireturn, 1) := by decide +kernel
theorem dD_firstFault_72 : decode cD_firstFault 72 = .ok (.aload_n 0, 1) := by decide +kernel
theorem dD_firstFault_73 : decode cD_firstFault 73 = .ok (.getfield 50, 3) := by decide +kernel
theorem dD_firstFault_76 : decode cD_firstFault 76 = .ok (.getstatic 63, 3) := by decide +kernel
theorem dD_firstFault_79 : decode cD_firstFault 79 = .ok (.if_acmp .ne 8, 3) := by decide +kernel
theorem dD_firstFault_82 : decode cD_firstFault 82 = .ok (.aload_n 0, 1) := by decide +kernel
theorem dD_firstFault_83 : decode cD_firstFault 83 = .ok (.invokevirtual 66, 3) := by decide +kernel
theorem dD_firstFault_86 : decode cD_firstFault 86 = .ok (.ireturn, 1) := by decide +kernel
theorem dD_firstFault_87 : decode cD_firstFault 87 = .ok (.iconst 0, 1) := by decide +kernel
theorem dD_firstFault_88 : decode cD_firstFault 88 = .ok (.istore_n 1, 1) := by decide +kernel
theorem dD_firstFault_89 : decode cD_firstFault 89 = .ok (.iload_n 1, 1) := by decide +kernel
theorem dD_firstFault_90 : decode cD_firstFault 90 = .ok (.aload_n 0, 1) := by decide +kernel
theorem dD_firstFault_91 : decode cD_firstFault 91 = .ok (.getfield 50, 3) := by decide +kernel
theorem dD_firstFault_94 : decode cD_firstFault 94 = .ok (.getfield 69, 3) := by decide +kernel
theorem dD_firstFault_97 : decode cD_firstFault 97 = .ok (.invokevirtual 73, 3) := by decide +kernel
theorem dD_firstFault_100 : decode cD_firstFault 100 = .ok (.if_icmp .ge 34, 3) := by decide +kernel
theorem dD_firstFault_103 : decode cD_firstFault 103 = .ok (.aload_n 0, 1) := by decide +kernel
theorem dD_firstFault_104 : decode cD_firstFault 104 = .ok (.aload_n 0, 1) := by decide +kernel
theorem dD_firstFault_105 : decode cD_firstFault 105 = .ok (.getfield 50, 3) := by decide +kernel
theorem dD_firstFault_108 : decode cD_firstFault 108 = .ok (.getfield 69, 3) := by decide +kernel
theorem dD_firstFault_111 : decode cD_firstFault 111 = .ok (.iload_n 1, 1) := by decide +kernel
theorem dD_firstFault_112 : decode cD_firstFault 112 = .ok (.invokevirtual 78, 3) := by decide +kernel
theorem dD_firstFault_115 : decode cD_firstFault 115 = .ok (.iload_n 1, 1) := by decide +kernel
theorem dD_firstFault_116 : decode cD_firstFault 116 = .ok (.iconst 2, 1) := by decide +kernel
theorem dD_firstFault_117 : decode cD_firstFault 117 = .ok (.iadd, 1) := by decide +kernel
theorem dD_firstFault_118 : decode cD_firstFault 118 = .ok (.invokevirtual 82, 3) := by decide +kernel
theorem dD_firstFault_121 : decode cD_firstFault 121 = .ok (.ifCond .ne 7, 3) := by decide +kernel
theorem dD_firstFault_124 : decode cD_firstFault 124 = .ok (.iload_n 1, 1) := by decide +kernel
theorem dD_firstFault_125 : decode cD_firstFault 125 = .ok (.iconst 2, 1) := by decide +kernel
theorem dD_firstFault_126 : decode cD_firstFault 126 = .ok (.iadd, 1) := by decide +kernel
theorem dD_firstFault_127 : decode cD_firstFault 127 = .ok (.ireturn, 1) := by decide +kernel
theorem dD_firstFault_128 : decode cD_firstFault 128 = .ok (.iinc 1 1, 3) := by decide +kernel
theorem dD_firstFault_131 : decode cD_firstFault 131 = .ok (.goto (-42), 3) := by decide +kernel
theorem dD_firstFault_134 : decode cD_firstFault 134 = .ok (.aload_n 0, 1) := by decide +kernel
theorem dD_firstFault_135 : decode cD_firstFault 135 = .ok (.iconst 2, 1) := by decide +kernel
theorem dD_firstFault_136 : decode cD_firstFault 136 = .ok (.aload_n 0, 1) := by decide +kernel
theorem dD_firstFault_137 : decode cD_firstFault 137 = .ok (.getfield 50, 3) := by decide +kernel
theorem dD_firstFault_140 : decode cD_firstFault 140 = .ok (.getfield 69, 3) := by decide +kernel
theorem dD_firstFault_143 : decode cD_firstFault 143 = .ok (.invokevirtual 73, 3) := by decide +kernel
theorem dD_firstFault_146 : decode cD_firstFault 146 = .ok (.iadd, 1) := by decide +kernel
theorem dD_firstFault_147 : decode cD_firstFault 147 = .ok (.invokevirtual 86, 3) := by decide +kernel
theorem dD_firstFault_150 : decode cD_firstFault 150 = .ok (.ireturn, 1) := by decide +kernel
abbrev cS_drop : ByteArray := prog_8_method_2_code
def yS_drop : MethodName := ⟨"WordChecker$Search", "drop", "()V"⟩
theorem calS_drop : CalV gT yS_drop cS_drop 1 none 0 := ⟨⟨gT_1 (i := 609) (by decide +kernel) rfl, gT_1 (i := 7) (by decide +kernel) rfl, by decide +kernel⟩, gT_1 (i := 607) (by decide +kernel) rfl, gT_1 (i := 608) (by decide +kernel) rfl⟩
theorem dS_drop_0 : decode cS_drop 0 = .ok (.aload_n 0, 1) := by decide +kernel
theorem dS_drop_1 : decode cS_drop 1 = .ok (.iconst 0, 1) := by decide +kernel
theorem dS_drop_2 : decode cS_drop 2 = .ok (.putfield 26, 3) := by decide +kernel
theorem dS_drop_5 : decode cS_drop 5 = .ok (.return_, 1) := by decide +kernel
abbrev cT_clear : ByteArray := prog_9_method_4_code
def yT_clear : MethodName := ⟨"WordChecker$Text", "clear", "()V"⟩
theorem calT_clear : CalV gT yT_clear cT_clear 1 none 0 := ⟨⟨gT_1 (i := 451) (by decide +kernel) rfl, gT_1 (i := 2) (by decide +kernel) rfl, by decide +kernel⟩, gT_1 (i := 449) (by decide +kernel) rfl, gT_1 (i := 450) (by decide +kernel) rfl⟩
theorem dT_clear_0 : decode cT_clear 0 = .ok (.aload_n 0, 1) := by decide +kernel
theorem dT_clear_1 : decode cT_clear 1 = .ok (.iconst 0, 1) := by decide +kernel
theorem dT_clear_2 : decode cT_clear 2 = .ok (.putfield 22, 3) := by decide +kernel
theorem dT_clear_5 : decode cT_clear 5 = .ok (.aload_n 0, 1) := by decide +kernel
theorem dT_clear_6 : decode cT_clear 6 = .ok (.iconst 0, 1) := by decide +kernel
theorem dT_clear_7 : decode cT_clear 7 = .ok (.putfield 30, 3) := by decide +kernel
theorem dT_clear_10 : decode cT_clear 10 = .ok (.return_, 1) := by decide +kernel
abbrev cT_split : ByteArray := prog_9_method_5_code
def yT_split : MethodName := ⟨"WordChecker$Text", "split", "()V"⟩
theorem calT_split : CalV gT yT_split cT_split 3 none 0 := ⟨⟨gT_1 (i := 290) (by decide +kernel) rfl, gT_1 (i := 2) (by decide +kernel) rfl, by decide +kernel⟩, gT_1 (i := 288) (by decide +kernel) rfl, gT_1 (i := 289) (by decide +kernel) rfl⟩
theorem dT_split_0 : decode cT_split 0 = .ok (.aload_n 0, 1) := by decide +kernel
theorem dT_split_1 : decode cT_split 1 = .ok (.iconst 0, 1) := by decide +kernel
theorem dT_split_2 : decode cT_split 2 = .ok (.putfield 30, 3) := by decide +kernel
theorem dT_split_5 : decode cT_split 5 = .ok (.iconst 0, 1) := by decide +kernel
theorem dT_split_6 : decode cT_split 6 = .ok (.istore_n 1, 1) := by decide +kernel
theorem dT_split_7 : decode cT_split 7 = .ok (.iload_n 1, 1) := by decide +kernel
theorem dT_split_8 : decode cT_split 8 = .ok (.aload_n 0, 1) := by decide +kernel
theorem dT_split_9 : decode cT_split 9 = .ok (.getfield 22, 3) := by decide +kernel
theorem dT_split_12 : decode cT_split 12 = .ok (.if_icmp .ge 108, 3) := by decide +kernel
theorem dT_split_15 : decode cT_split 15 = .ok (.aload_n 0, 1) := by decide +kernel
theorem dT_split_16 : decode cT_split 16 = .ok (.getfield 9, 3) := by decide +kernel
theorem dT_split_19 : decode cT_split 19 = .ok (.iload_n 1, 1) := by decide +kernel
theorem dT_split_20 : decode cT_split 20 = .ok (.caload, 1) := by decide +kernel
theorem dT_split_21 : decode cT_split 21 = .ok (.bipush 32, 2) := by decide +kernel
theorem dT_split_23 : decode cT_split 23 = .ok (.if_icmp .eq 24, 3) := by decide +kernel
theorem dT_split_26 : decode cT_split 26 = .ok (.iload_n 1, 1) := by decide +kernel
theorem dT_split_27 : decode cT_split 27 = .ok (.ifCond .eq 16, 3) := by decide +kernel
theorem dT_split_30 : decode cT_split 30 = .ok (.aload_n 0, 1) := by decide +kernel
theorem dT_split_31 : decode cT_split 31 = .ok (.getfield 9, 3) := by decide +kernel
theorem dT_split_34 : decode cT_split 34 = .ok (.iload_n 1, 1) := by decide +kernel
theorem dT_split_35 : decode cT_split 35 = .ok (.iconst 1, 1) := by decide +kernel
theorem dT_split_36 : decode cT_split 36 = .ok (.isub, 1) := by decide +kernel
theorem dT_split_37 : decode cT_split 37 = .ok (.caload, 1) := by decide +kernel
theorem dT_split_38 : decode cT_split 38 = .ok (.bipush 32, 2) := by decide +kernel
theorem dT_split_40 : decode cT_split 40 = .ok (.if_icmp .ne 7, 3) := by decide +kernel
theorem dT_split_43 : decode cT_split 43 = .ok (.iconst 1, 1) := by decide +kernel
theorem dT_split_44 : decode cT_split 44 = .ok (.goto 4, 3) := by decide +kernel
theorem dT_split_47 : decode cT_split 47 = .ok (.iconst 0, 1) := by decide +kernel
theorem dT_split_48 : decode cT_split 48 = .ok (.istore_n 2, 1) := by decide +kernel
theorem dT_split_49 : decode cT_split 49 = .ok (.iload_n 2, 1) := by decide +kernel
theorem dT_split_50 : decode cT_split 50 = .ok (.ifCond .eq 32, 3) := by decide +kernel
theorem dT_split_53 : decode cT_split 53 = .ok (.aload_n 0, 1) := by decide +kernel
theorem dT_split_54 : decode cT_split 54 = .ok (.getfield 30, 3) := by decide +kernel
theorem dT_split_57 : decode cT_split 57 = .ok (.bipush 20, 2) := by decide +kernel
theorem dT_split_59 : decode cT_split 59 = .ok (.if_icmp .ge 23, 3) := by decide +kernel
theorem dT_split_62 : decode cT_split 62 = .ok (.aload_n 0, 1) := by decide +kernel
theorem dT_split_63 : decode cT_split 63 = .ok (.getfield 15, 3) := by decide +kernel
theorem dT_split_66 : decode cT_split 66 = .ok (.aload_n 0, 1) := by decide +kernel
theorem dT_split_67 : decode cT_split 67 = .ok (.getfield 30, 3) := by decide +kernel
theorem dT_split_70 : decode cT_split 70 = .ok (.iload_n 1, 1) := by decide +kernel
theorem dT_split_71 : decode cT_split 71 = .ok (.iastore, 1) := by decide +kernel
theorem dT_split_72 : decode cT_split 72 = .ok (.aload_n 0, 1) := by decide +kernel
theorem dT_split_73 : decode cT_split 73 = .ok (.dup, 1) := by decide +kernel
theorem dT_split_74 : decode cT_split 74 = .ok (.getfield 30, 3) := by decide +kernel
theorem dT_split_77 : decode cT_split 77 = .ok (.iconst 1, 1) := by decide +kernel
theorem dT_split_78 : decode cT_split 78 = .ok (.iadd, 1) := by decide +kernel
theorem dT_split_79 : decode cT_split 79 = .ok (.putfield 30, 3) := by decide +kernel
theorem dT_split_82 : decode cT_split 82 = .ok (.aload_n 0, 1) := by decide +kernel
theorem dT_split_83 : decode cT_split 83 = .ok (.getfield 9, 3) := by decide +kernel
theorem dT_split_86 : decode cT_split 86 = .ok (.iload_n 1, 1) := by decide +kernel
theorem dT_split_87 : decode cT_split 87 = .ok (.caload, 1) := by decide +kernel
theorem dT_split_88 : decode cT_split 88 = .ok (.bipush 32, 2) := by decide +kernel
theorem dT_split_90 : decode cT_split 90 = .ok (.if_icmp .eq 24, 3) := by decide +kernel
theorem dT_split_93 : decode cT_split 93 = .ok (.aload_n 0, 1) := by decide +kernel
theorem dT_split_94 : decode cT_split 94 = .ok (.getfield 30, 3) := by decide +kernel
theorem dT_split_97 : decode cT_split 97 = .ok (.ifCond .le 17, 3) := by decide +kernel
theorem dT_split_100 : decode cT_split 100 = .ok (.aload_n 0, 1) := by decide +kernel
theorem dT_split_101 : decode cT_split 101 = .ok (.getfield 19, 3) := by decide +kernel
theorem dT_split_104 : decode cT_split 104 = .ok (.aload_n 0, 1) := by decide +kernel
theorem dT_split_105 : decode cT_split 105 = .ok (.getfield 30, 3) := by decide +kernel
theorem dT_split_108 : decode cT_split 108 = .ok (.iconst 1, 1) := by decide +kernel
theorem dT_split_109 : decode cT_split 109 = .ok (.isub, 1) := by decide +kernel
theorem dT_split_110 : decode cT_split 110 = .ok (.iload_n 1, 1) := by decide +kernel
theorem dT_split_111 : decode cT_split 111 = .ok (.iconst 1, 1) := by decide +kernel
theorem dT_split_112 : decode cT_split 112 = .ok (.iadd, 1) := by decide +kernel
theorem dT_split_113 : decode cT_split 113 = .ok (.iastore, 1) := by decide +kernel
theorem dT_split_114 : decode cT_split 114 = .ok (.iinc 1 1, 3) := by decide +kernel
theorem dT_split_117 : decode cT_split 117 = .ok (.goto (-110), 3) := by decide +kernel
theorem dT_split_120 : decode cT_split 120 = .ok (.return_, 1) := by decide +kernel
abbrev cC_line : ByteArray := prog_1_method_3_code
def yC_line : MethodName := ⟨"WordChecker", "line", "()I"⟩
theorem calC_line : CalV gT yC_line cC_line 2 (some .int) 0 := ⟨⟨gT_1 (i := 286) (by decide +kernel) rfl, gT_1 (i := 1) (by decide +kernel) rfl, by decide +kernel⟩, gT_1 (i := 284) (by decide +kernel) rfl, gT_1 (i := 285) (by decide +kernel) rfl⟩
theorem dC_line_0 : decode cC_line 0 = .ok (.aload_n 0, 1) := by decide +kernel
theorem dC_line_1 : decode cC_line 1 = .ok (.getfield 12, 3) := by decide +kernel
theorem dC_line_4 : decode cC_line 4 = .ok (.invokevirtual 45, 3) := by decide +kernel
theorem dC_line_7 : decode cC_line 7 = .ok (.aload_n 0, 1) := by decide +kernel
theorem dC_line_8 : decode cC_line 8 = .ok (.getfield 28, 3) := by decide +kernel
theorem dC_line_11 : decode cC_line 11 = .ok (.invokevirtual 48, 3) := by decide +kernel
theorem dC_line_14 : decode cC_line 14 = .ok (.istore_n 1, 1) := by decide +kernel
theorem dC_line_15 : decode cC_line 15 = .ok (.aload_n 0, 1) := by decide +kernel
theorem dC_line_16 : decode cC_line 16 = .ok (.getfield 12, 3) := by decide +kernel
theorem dC_line_19 : decode cC_line 19 = .ok (.invokevirtual 52, 3) := by decide +kernel
theorem dC_line_22 : decode cC_line 22 = .ok (.iload_n 1, 1) := by decide +kernel
theorem dC_line_23 : decode cC_line 23 = .ok (.ifCond .lt 7, 3) := by decide +kernel
theorem dC_line_26 : decode cC_line 26 = .ok (.iconst (-1), 1) := by decide +kernel
theorem dC_line_27 : decode cC_line 27 = .ok (.iload_n 1, 1) := by decide +kernel
theorem dC_line_28 : decode cC_line 28 = .ok (.isub, 1) := by decide +kernel
theorem dC_line_29 : decode cC_line 29 = .ok (.ireturn, 1) := by decide +kernel
theorem dC_line_30 : decode cC_line 30 = .ok (.aload_n 0, 1) := by decide +kernel
theorem dC_line_31 : decode cC_line 31 = .ok (.getfield 19, 3) := by decide +kernel
theorem dC_line_34 : decode cC_line 34 = .ok (.getfield 55, 3) := by decide +kernel
theorem dC_line_37 : decode cC_line 37 = .ok (.bipush 20, 2) := by decide +kernel
theorem dC_line_39 : decode cC_line 39 = .ok (.if_icmp .lt 6, 3) := by decide +kernel
theorem dC_line_42 : decode cC_line 42 = .ok (.bipush (-100), 2) := by decide +kernel
theorem dC_line_44 : decode cC_line 44 = .ok (.ireturn, 1) := by decide +kernel
theorem dC_line_45 : decode cC_line 45 = .ok (.aload_n 0, 1) := by decide +kernel
theorem dC_line_46 : decode cC_line 46 = .ok (.getfield 19, 3) := by decide +kernel
theorem dC_line_49 : decode cC_line 49 = .ok (.aload_n 0, 1) := by decide +kernel
theorem dC_line_50 : decode cC_line 50 = .ok (.getfield 28, 3) := by decide +kernel
theorem dC_line_53 : decode cC_line 53 = .ok (.invokevirtual 59, 3) := by decide +kernel
theorem dC_line_56 : decode cC_line 56 = .ok (.aload_n 0, 1) := by decide +kernel
theorem dC_line_57 : decode cC_line 57 = .ok (.iconst 0, 1) := by decide +kernel
theorem dC_line_58 : decode cC_line 58 = .ok (.putfield 63, 3) := by decide +kernel
theorem dC_line_61 : decode cC_line 61 = .ok (.aload_n 0, 1) := by decide +kernel
theorem dC_line_62 : decode cC_line 62 = .ok (.getfield 37, 3) := by decide +kernel
theorem dC_line_65 : decode cC_line 65 = .ok (.invokevirtual 67, 3) := by decide +kernel
theorem dC_line_68 : decode cC_line 68 = .ok (.aload_n 0, 1) := by decide +kernel
theorem dC_line_69 : decode cC_line 69 = .ok (.getfield 28, 3) := by decide +kernel
theorem dC_line_72 : decode cC_line 72 = .ok (.getfield 70, 3) := by decide +kernel
theorem dC_line_75 : decode cC_line 75 = .ok (.ireturn, 1) := by decide +kernel
abbrev cC_lines : ByteArray := prog_1_method_4_code
def yC_lines : MethodName := ⟨"WordChecker", "lines", "()I"⟩
theorem calC_lines : CalV gT yC_lines cC_lines 1 (some .int) 0 := ⟨⟨gT_1 (i := 614) (by decide +kernel) rfl, gT_1 (i := 1) (by decide +kernel) rfl, by decide +kernel⟩, gT_1 (i := 612) (by decide +kernel) rfl, gT_1 (i := 613) (by decide +kernel) rfl⟩
theorem dC_lines_0 : decode cC_lines 0 = .ok (.aload_n 0, 1) := by decide +kernel
theorem dC_lines_1 : decode cC_lines 1 = .ok (.getfield 19, 3) := by decide +kernel
theorem dC_lines_4 : decode cC_lines 4 = .ok (.getfield 55, 3) := by decide +kernel
theorem dC_lines_7 : decode cC_lines 7 = .ok (.ireturn, 1) := by decide +kernel
abbrev cB_startWith : ByteArray := prog_3_method_15_code
def yB_startWith : MethodName := ⟨"WordChecker$Book", "startWith", "(I)I"⟩
theorem calB_startWith : CalV gT yB_startWith cB_startWith 7 (some .int) 1 := ⟨⟨gT_1 (i := 622) (by decide +kernel) rfl, gT_1 (i := 3) (by decide +kernel) rfl, by decide +kernel⟩, gT_1 (i := 620) (by decide +kernel) rfl, gT_1 (i := 621) (by decide +kernel) rfl⟩
theorem dB_startWith_0 : decode cB_startWith 0 = .ok (.iconst 0, 1) := by decide +kernel
theorem dB_startWith_1 : decode cB_startWith 1 = .ok (.istore_n 2, 1) := by decide +kernel
theorem dB_startWith_2 : decode cB_startWith 2 = .ok (.iload_n 1, 1) := by decide +kernel
theorem dB_startWith_3 : decode cB_startWith 3 = .ok (.istore_n 3, 1) := by decide +kernel
theorem dB_startWith_4 : decode cB_startWith 4 = .ok (.iconst 0, 1) := by decide +kernel
theorem dB_startWith_5 : decode cB_startWith 5 = .ok (.istore 4, 2) := by decide +kernel
theorem dB_startWith_7 : decode cB_startWith 7 = .ok (.iload 4, 2) := by decide +kernel
theorem dB_startWith_9 : decode cB_startWith 9 = .ok (.aload_n 0, 1) := by decide +kernel
theorem dB_startWith_10 : decode cB_startWith 10 = .ok (.getfield 37, 3) := by decide +kernel
theorem dB_startWith_13 : decode cB_startWith 13 = .ok (.if_icmp .ge 98, 3) := by decide +kernel
theorem dB_startWith_16 : decode cB_startWith 16 = .ok (.aload_n 0, 1) := by decide +kernel
theorem dB_startWith_17 : decode cB_startWith 17 = .ok (.getfield 11, 3) := by decide +kernel
theorem dB_startWith_20 : decode cB_startWith 20 = .ok (.iload 4, 2) := by decide +kernel
theorem dB_startWith_22 : decode cB_startWith 22 = .ok (.aaload, 1) := by decide +kernel
theorem dB_startWith_23 : decode cB_startWith 23 = .ok (.astore 5, 2) := by decide +kernel
theorem dB_startWith_25 : decode cB_startWith 25 = .ok (.aload 5, 2) := by decide +kernel
theorem dB_startWith_27 : decode cB_startWith 27 = .ok (.getfield 48, 3) := by decide +kernel
theorem dB_startWith_30 : decode cB_startWith 30 = .ok (.getstatic 162, 3) := by decide +kernel
theorem dB_startWith_33 : decode cB_startWith 33 = .ok (.if_acmp .ne 29, 3) := by decide +kernel
theorem dB_startWith_36 : decode cB_startWith 36 = .ok (.aload 5, 2) := by decide +kernel
theorem dB_startWith_38 : decode cB_startWith 38 = .ok (.getfield 156, 3) := by decide +kernel
theorem dB_startWith_41 : decode cB_startWith 41 = .ok (.iconst (-1), 1) := by decide +kernel
theorem dB_startWith_42 : decode cB_startWith 42 = .ok (.if_icmp .eq 20, 3) := by decide +kernel
theorem dB_startWith_45 : decode cB_startWith 45 = .ok (.iload_n 2, 1) := by decide +kernel
theorem dB_startWith_46 : decode cB_startWith 46 = .ok (.aload 5, 2) := by decide +kernel
theorem dB_startWith_48 : decode cB_startWith 48 = .ok (.getfield 156, 3) := by decide +kernel
theorem dB_startWith_51 : decode cB_startWith 51 = .ok (.aload 5, 2) := by decide +kernel
theorem dB_startWith_53 : decode cB_startWith 53 = .ok (.getfield 129, 3) := by decide +kernel
theorem dB_startWith_56 : decode cB_startWith 56 = .ok (.ishl, 1) := by decide +kernel
theorem dB_startWith_57 : decode cB_startWith 57 = .ok (.ior, 1) := by decide +kernel
theorem dB_startWith_58 : decode cB_startWith 58 = .ok (.istore_n 2, 1) := by decide +kernel
theorem dB_startWith_59 : decode cB_startWith 59 = .ok (.goto 46, 3) := by decide +kernel
theorem dB_startWith_62 : decode cB_startWith 62 = .ok (.aload 5, 2) := by decide +kernel
theorem dB_startWith_64 : decode cB_startWith 64 = .ok (.getfield 48, 3) := by decide +kernel
theorem dB_startWith_67 : decode cB_startWith 67 = .ok (.getstatic 162, 3) := by decide +kernel
theorem dB_startWith_70 : decode cB_startWith 70 = .ok (.if_acmp .ne 35, 3) := by decide +kernel
theorem dB_startWith_73 : decode cB_startWith 73 = .ok (.aload 5, 2) := by decide +kernel
theorem dB_startWith_75 : decode cB_startWith 75 = .ok (.getfield 61, 3) := by decide +kernel
theorem dB_startWith_78 : decode cB_startWith 78 = .ok (.invokestatic 132, 3) := by decide +kernel
theorem dB_startWith_81 : decode cB_startWith 81 = .ok (.istore 6, 2) := by decide +kernel
theorem dB_startWith_83 : decode cB_startWith 83 = .ok (.iload_n 2, 1) := by decide +kernel
theorem dB_startWith_84 : decode cB_startWith 84 = .ok (.iload_n 3, 1) := by decide +kernel
theorem dB_startWith_85 : decode cB_startWith 85 = .ok (.iconst 1, 1) := by decide +kernel
theorem dB_startWith_86 : decode cB_startWith 86 = .ok (.iload 6, 2) := by decide +kernel
theorem dB_startWith_88 : decode cB_startWith 88 = .ok (.ishl, 1) := by decide +kernel
theorem dB_startWith_89 : decode cB_startWith 89 = .ok (.iconst 1, 1) := by decide +kernel
theorem dB_startWith_90 : decode cB_startWith 90 = .ok (.isub, 1) := by decide +kernel
theorem dB_startWith_91 : decode cB_startWith 91 = .ok (.iand, 1) := by decide +kernel
theorem dB_startWith_92 : decode cB_startWith 92 = .ok (.aload 5, 2) := by decide +kernel
theorem dB_startWith_94 : decode cB_startWith 94 = .ok (.getfield 129, 3) := by decide +kernel
theorem dB_startWith_97 : decode cB_startWith 97 = .ok (.ishl, 1) := by decide +kernel
theorem dB_startWith_98 : decode cB_startWith 98 = .ok (.ior, 1) := by decide +kernel
theorem dB_startWith_99 : decode cB_startWith 99 = .ok (.istore_n 2, 1) := by decide +kernel
theorem dB_startWith_100 : decode cB_startWith 100 = .ok (.iload_n 3, 1) := by decide +kernel
theorem dB_startWith_101 : decode cB_startWith 101 = .ok (.iload 6, 2) := by decide +kernel
theorem dB_startWith_103 : decode cB_startWith 103 = .ok (.iushr, 1) := by decide +kernel
theorem dB_startWith_104 : decode cB_startWith 104 = .ok (.istore_n 3, 1) := by decide +kernel
theorem dB_startWith_105 : decode cB_startWith 105 = .ok (.iinc 4 1, 3) := by decide +kernel
theorem dB_startWith_108 : decode cB_startWith 108 = .ok (.goto (-101), 3) := by decide +kernel
theorem dB_startWith_111 : decode cB_startWith 111 = .ok (.iload_n 2, 1) := by decide +kernel
theorem dB_startWith_112 : decode cB_startWith 112 = .ok (.ireturn, 1) := by decide +kernel
