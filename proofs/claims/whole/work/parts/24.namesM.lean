abbrev cM_sameSort : ByteArray := prog_11_method_12_code
def yM_sameSort : MethodName := ⟨"WordCheckerModel", "sameSort", "(II)Z"⟩
theorem calM_sameSort : CalV gT yM_sameSort cM_sameSort 3 (some .boolean) 2 := ⟨⟨gT_1 (i := 914) (by decide +kernel) rfl, gT_1 (i := 8) (by decide +kernel) rfl, by decide +kernel⟩, gT_1 (i := 913) (by decide +kernel) rfl, gT_s (q := (yM_sameSort, 28)) (by decide +kernel)⟩
theorem dM_sameSort_0 : decode cM_sameSort 0 = .ok (.aload_n 0, 1) := by decide +kernel
theorem dM_sameSort_1 : decode cM_sameSort 1 = .ok (.getfield 53, 3) := by decide +kernel
theorem dM_sameSort_4 : decode cM_sameSort 4 = .ok (.iload_n 1, 1) := by decide +kernel
theorem dM_sameSort_5 : decode cM_sameSort 5 = .ok (.baload, 1) := by decide +kernel
theorem dM_sameSort_6 : decode cM_sameSort 6 = .ok (.aload_n 0, 1) := by decide +kernel
theorem dM_sameSort_7 : decode cM_sameSort 7 = .ok (.getfield 53, 3) := by decide +kernel
theorem dM_sameSort_10 : decode cM_sameSort 10 = .ok (.iload_n 2, 1) := by decide +kernel
theorem dM_sameSort_11 : decode cM_sameSort 11 = .ok (.baload, 1) := by decide +kernel
theorem dM_sameSort_12 : decode cM_sameSort 12 = .ok (.if_icmp .ne 22, 3) := by decide +kernel
theorem dM_sameSort_15 : decode cM_sameSort 15 = .ok (.aload_n 0, 1) := by decide +kernel
theorem dM_sameSort_16 : decode cM_sameSort 16 = .ok (.getfield 56, 3) := by decide +kernel
theorem dM_sameSort_19 : decode cM_sameSort 19 = .ok (.iload_n 1, 1) := by decide +kernel
theorem dM_sameSort_20 : decode cM_sameSort 20 = .ok (.iaload, 1) := by decide +kernel
theorem dM_sameSort_21 : decode cM_sameSort 21 = .ok (.aload_n 0, 1) := by decide +kernel
theorem dM_sameSort_22 : decode cM_sameSort 22 = .ok (.getfield 56, 3) := by decide +kernel
theorem dM_sameSort_25 : decode cM_sameSort 25 = .ok (.iload_n 2, 1) := by decide +kernel
theorem dM_sameSort_26 : decode cM_sameSort 26 = .ok (.iaload, 1) := by decide +kernel
theorem dM_sameSort_27 : decode cM_sameSort 27 = .ok (.if_icmp .ne 7, 3) := by decide +kernel
theorem dM_sameSort_30 : decode cM_sameSort 30 = .ok (.iconst 1, 1) := by decide +kernel
theorem dM_sameSort_31 : decode cM_sameSort 31 = .ok (.goto 4, 3) := by decide +kernel
theorem dM_sameSort_34 : decode cM_sameSort 34 = .ok (.iconst 0, 1) := by decide +kernel
theorem dM_sameSort_35 : decode cM_sameSort 35 = .ok (.ireturn, 1) := by decide +kernel
abbrev cM_bits : ByteArray := prog_11_method_13_code
def yM_bits : MethodName := ⟨"WordCheckerModel", "bits", "(I)I"⟩
theorem calM_bits : CalV gT yM_bits cM_bits 2 (some .int) 1 := ⟨⟨gT_1 (i := 898) (by decide +kernel) rfl, gT_1 (i := 8) (by decide +kernel) rfl, by decide +kernel⟩, gT_1 (i := 897) (by decide +kernel) rfl, gT_s (q := (yM_bits, 28)) (by decide +kernel)⟩
theorem dM_bits_0 : decode cM_bits 0 = .ok (.aload_n 0, 1) := by decide +kernel
theorem dM_bits_1 : decode cM_bits 1 = .ok (.getfield 53, 3) := by decide +kernel
theorem dM_bits_4 : decode cM_bits 4 = .ok (.iload_n 1, 1) := by decide +kernel
theorem dM_bits_5 : decode cM_bits 5 = .ok (.baload, 1) := by decide +kernel
theorem dM_bits_6 : decode cM_bits 6 = .ok (.ifCond .eq 14, 3) := by decide +kernel
theorem dM_bits_9 : decode cM_bits 9 = .ok (.iconst 2, 1) := by decide +kernel
theorem dM_bits_10 : decode cM_bits 10 = .ok (.aload_n 0, 1) := by decide +kernel
theorem dM_bits_11 : decode cM_bits 11 = .ok (.getfield 56, 3) := by decide +kernel
theorem dM_bits_14 : decode cM_bits 14 = .ok (.iload_n 1, 1) := by decide +kernel
theorem dM_bits_15 : decode cM_bits 15 = .ok (.iaload, 1) := by decide +kernel
theorem dM_bits_16 : decode cM_bits 16 = .ok (.imul, 1) := by decide +kernel
theorem dM_bits_17 : decode cM_bits 17 = .ok (.goto 9, 3) := by decide +kernel
theorem dM_bits_20 : decode cM_bits 20 = .ok (.aload_n 0, 1) := by decide +kernel
theorem dM_bits_21 : decode cM_bits 21 = .ok (.getfield 56, 3) := by decide +kernel
theorem dM_bits_24 : decode cM_bits 24 = .ok (.iload_n 1, 1) := by decide +kernel
theorem dM_bits_25 : decode cM_bits 25 = .ok (.iaload, 1) := by decide +kernel
theorem dM_bits_26 : decode cM_bits 26 = .ok (.ireturn, 1) := by decide +kernel
abbrev cM_sortWord : ByteArray := prog_11_method_14_code
def yM_sortWord : MethodName := ⟨"WordCheckerModel", "sortWord", "()I"⟩
theorem calM_sortWord : CalV gT yM_sortWord cM_sortWord 3 (some .int) 0 := ⟨⟨gT_1 (i := 878) (by decide +kernel) rfl, gT_1 (i := 8) (by decide +kernel) rfl, by decide +kernel⟩, gT_1 (i := 877) (by decide +kernel) rfl, gT_s (q := (yM_sortWord, 28)) (by decide +kernel)⟩
theorem dM_sortWord_0 : decode cM_sortWord 0 = .ok (.aload_n 0, 1) := by decide +kernel
theorem dM_sortWord_1 : decode cM_sortWord 1 = .ok (.aload_n 0, 1) := by decide +kernel
theorem dM_sortWord_2 : decode cM_sortWord 2 = .ok (.getfield 158, 3) := by decide +kernel
theorem dM_sortWord_5 : decode cM_sortWord 5 = .ok (.invokevirtual 161, 3) := by decide +kernel
theorem dM_sortWord_8 : decode cM_sortWord 8 = .ok (.istore_n 1, 1) := by decide +kernel
theorem dM_sortWord_9 : decode cM_sortWord 9 = .ok (.iload_n 1, 1) := by decide +kernel
theorem dM_sortWord_10 : decode cM_sortWord 10 = .ok (.ifCond .ge 7, 3) := by decide +kernel
theorem dM_sortWord_13 : decode cM_sortWord 13 = .ok (.iconst (-1), 1) := by decide +kernel
theorem dM_sortWord_14 : decode cM_sortWord 14 = .ok (.goto 8, 3) := by decide +kernel
theorem dM_sortWord_17 : decode cM_sortWord 17 = .ok (.aload_n 0, 1) := by decide +kernel
theorem dM_sortWord_18 : decode cM_sortWord 18 = .ok (.iload_n 1, 1) := by decide +kernel
theorem dM_sortWord_19 : decode cM_sortWord 19 = .ok (.invokevirtual 165, 3) := by decide +kernel
theorem dM_sortWord_22 : decode cM_sortWord 22 = .ok (.istore_n 2, 1) := by decide +kernel
theorem dM_sortWord_23 : decode cM_sortWord 23 = .ok (.iload_n 2, 1) := by decide +kernel
theorem dM_sortWord_24 : decode cM_sortWord 24 = .ok (.ifCond .lt 16, 3) := by decide +kernel
theorem dM_sortWord_27 : decode cM_sortWord 27 = .ok (.aload_n 0, 1) := by decide +kernel
theorem dM_sortWord_28 : decode cM_sortWord 28 = .ok (.getfield 22, 3) := by decide +kernel
theorem dM_sortWord_31 : decode cM_sortWord 31 = .ok (.iload_n 2, 1) := by decide +kernel
theorem dM_sortWord_32 : decode cM_sortWord 32 = .ok (.iaload, 1) := by decide +kernel
theorem dM_sortWord_33 : decode cM_sortWord 33 = .ok (.ifCond .ne 7, 3) := by decide +kernel
theorem dM_sortWord_36 : decode cM_sortWord 36 = .ok (.iload_n 2, 1) := by decide +kernel
theorem dM_sortWord_37 : decode cM_sortWord 37 = .ok (.goto 4, 3) := by decide +kernel
theorem dM_sortWord_40 : decode cM_sortWord 40 = .ok (.iconst (-1), 1) := by decide +kernel
theorem dM_sortWord_41 : decode cM_sortWord 41 = .ok (.ireturn, 1) := by decide +kernel
abbrev cM_nodeWord : ByteArray := prog_11_method_15_code
def yM_nodeWord : MethodName := ⟨"WordCheckerModel", "nodeWord", "()I"⟩
theorem calM_nodeWord : CalV gT yM_nodeWord cM_nodeWord 4 (some .int) 0 := ⟨⟨gT_1 (i := 906) (by decide +kernel) rfl, gT_1 (i := 8) (by decide +kernel) rfl, by decide +kernel⟩, gT_1 (i := 905) (by decide +kernel) rfl, gT_s (q := (yM_nodeWord, 28)) (by decide +kernel)⟩
theorem dM_nodeWord_0 : decode cM_nodeWord 0 = .ok (.aload_n 0, 1) := by decide +kernel
theorem dM_nodeWord_1 : decode cM_nodeWord 1 = .ok (.aload_n 0, 1) := by decide +kernel
theorem dM_nodeWord_2 : decode cM_nodeWord 2 = .ok (.getfield 158, 3) := by decide +kernel
theorem dM_nodeWord_5 : decode cM_nodeWord 5 = .ok (.aload_n 0, 1) := by decide +kernel
theorem dM_nodeWord_6 : decode cM_nodeWord 6 = .ok (.getfield 82, 3) := by decide +kernel
theorem dM_nodeWord_9 : decode cM_nodeWord 9 = .ok (.if_icmp .ge 26, 3) := by decide +kernel
theorem dM_nodeWord_12 : decode cM_nodeWord 12 = .ok (.aload_n 0, 1) := by decide +kernel
theorem dM_nodeWord_13 : decode cM_nodeWord 13 = .ok (.getfield 7, 3) := by decide +kernel
theorem dM_nodeWord_16 : decode cM_nodeWord 16 = .ok (.aload_n 0, 1) := by decide +kernel
theorem dM_nodeWord_17 : decode cM_nodeWord 17 = .ok (.getfield 13, 3) := by decide +kernel
theorem dM_nodeWord_20 : decode cM_nodeWord 20 = .ok (.aload_n 0, 1) := by decide +kernel
theorem dM_nodeWord_21 : decode cM_nodeWord 21 = .ok (.getfield 158, 3) := by decide +kernel
theorem dM_nodeWord_24 : decode cM_nodeWord 24 = .ok (.iaload, 1) := by decide +kernel
theorem dM_nodeWord_25 : decode cM_nodeWord 25 = .ok (.iaload, 1) := by decide +kernel
theorem dM_nodeWord_26 : decode cM_nodeWord 26 = .ok (.bipush 45, 2) := by decide +kernel
theorem dM_nodeWord_28 : decode cM_nodeWord 28 = .ok (.if_icmp .ne 7, 3) := by decide +kernel
theorem dM_nodeWord_31 : decode cM_nodeWord 31 = .ok (.iconst 1, 1) := by decide +kernel
theorem dM_nodeWord_32 : decode cM_nodeWord 32 = .ok (.goto 4, 3) := by decide +kernel
theorem dM_nodeWord_35 : decode cM_nodeWord 35 = .ok (.iconst 0, 1) := by decide +kernel
theorem dM_nodeWord_36 : decode cM_nodeWord 36 = .ok (.putfield 168, 3) := by decide +kernel
theorem dM_nodeWord_39 : decode cM_nodeWord 39 = .ok (.aload_n 0, 1) := by decide +kernel
theorem dM_nodeWord_40 : decode cM_nodeWord 40 = .ok (.getfield 158, 3) := by decide +kernel
theorem dM_nodeWord_43 : decode cM_nodeWord 43 = .ok (.aload_n 0, 1) := by decide +kernel
theorem dM_nodeWord_44 : decode cM_nodeWord 44 = .ok (.getfield 82, 3) := by decide +kernel
theorem dM_nodeWord_47 : decode cM_nodeWord 47 = .ok (.if_icmp .lt 7, 3) := by decide +kernel
theorem dM_nodeWord_50 : decode cM_nodeWord 50 = .ok (.iconst (-1), 1) := by decide +kernel
theorem dM_nodeWord_51 : decode cM_nodeWord 51 = .ok (.goto 45, 3) := by decide +kernel
theorem dM_nodeWord_54 : decode cM_nodeWord 54 = .ok (.aload_n 0, 1) := by decide +kernel
theorem dM_nodeWord_55 : decode cM_nodeWord 55 = .ok (.getfield 168, 3) := by decide +kernel
theorem dM_nodeWord_58 : decode cM_nodeWord 58 = .ok (.ifCond .eq 30, 3) := by decide +kernel
theorem dM_nodeWord_61 : decode cM_nodeWord 61 = .ok (.aload_n 0, 1) := by decide +kernel
theorem dM_nodeWord_62 : decode cM_nodeWord 62 = .ok (.aload_n 0, 1) := by decide +kernel
theorem dM_nodeWord_63 : decode cM_nodeWord 63 = .ok (.getfield 13, 3) := by decide +kernel
theorem dM_nodeWord_66 : decode cM_nodeWord 66 = .ok (.aload_n 0, 1) := by decide +kernel
theorem dM_nodeWord_67 : decode cM_nodeWord 67 = .ok (.getfield 158, 3) := by decide +kernel
theorem dM_nodeWord_70 : decode cM_nodeWord 70 = .ok (.iaload, 1) := by decide +kernel
theorem dM_nodeWord_71 : decode cM_nodeWord 71 = .ok (.iconst 1, 1) := by decide +kernel
theorem dM_nodeWord_72 : decode cM_nodeWord 72 = .ok (.iadd, 1) := by decide +kernel
theorem dM_nodeWord_73 : decode cM_nodeWord 73 = .ok (.aload_n 0, 1) := by decide +kernel
theorem dM_nodeWord_74 : decode cM_nodeWord 74 = .ok (.getfield 16, 3) := by decide +kernel
theorem dM_nodeWord_77 : decode cM_nodeWord 77 = .ok (.aload_n 0, 1) := by decide +kernel
theorem dM_nodeWord_78 : decode cM_nodeWord 78 = .ok (.getfield 158, 3) := by decide +kernel
theorem dM_nodeWord_81 : decode cM_nodeWord 81 = .ok (.iaload, 1) := by decide +kernel
theorem dM_nodeWord_82 : decode cM_nodeWord 82 = .ok (.invokevirtual 85, 3) := by decide +kernel
theorem dM_nodeWord_85 : decode cM_nodeWord 85 = .ok (.goto 11, 3) := by decide +kernel
theorem dM_nodeWord_88 : decode cM_nodeWord 88 = .ok (.aload_n 0, 1) := by decide +kernel
theorem dM_nodeWord_89 : decode cM_nodeWord 89 = .ok (.aload_n 0, 1) := by decide +kernel
theorem dM_nodeWord_90 : decode cM_nodeWord 90 = .ok (.getfield 158, 3) := by decide +kernel
theorem dM_nodeWord_93 : decode cM_nodeWord 93 = .ok (.invokevirtual 161, 3) := by decide +kernel
theorem dM_nodeWord_96 : decode cM_nodeWord 96 = .ok (.istore_n 1, 1) := by decide +kernel
theorem dM_nodeWord_97 : decode cM_nodeWord 97 = .ok (.iload_n 1, 1) := by decide +kernel
theorem dM_nodeWord_98 : decode cM_nodeWord 98 = .ok (.ifCond .ge 7, 3) := by decide +kernel
theorem dM_nodeWord_101 : decode cM_nodeWord 101 = .ok (.iconst (-1), 1) := by decide +kernel
theorem dM_nodeWord_102 : decode cM_nodeWord 102 = .ok (.goto 8, 3) := by decide +kernel
theorem dM_nodeWord_105 : decode cM_nodeWord 105 = .ok (.aload_n 0, 1) := by decide +kernel
theorem dM_nodeWord_106 : decode cM_nodeWord 106 = .ok (.iload_n 1, 1) := by decide +kernel
theorem dM_nodeWord_107 : decode cM_nodeWord 107 = .ok (.invokevirtual 165, 3) := by decide +kernel
theorem dM_nodeWord_110 : decode cM_nodeWord 110 = .ok (.istore_n 2, 1) := by decide +kernel
theorem dM_nodeWord_111 : decode cM_nodeWord 111 = .ok (.aload_n 0, 1) := by decide +kernel
theorem dM_nodeWord_112 : decode cM_nodeWord 112 = .ok (.iload_n 2, 1) := by decide +kernel
theorem dM_nodeWord_113 : decode cM_nodeWord 113 = .ok (.invokevirtual 172, 3) := by decide +kernel
theorem dM_nodeWord_116 : decode cM_nodeWord 116 = .ok (.ifCond .eq 28, 3) := by decide +kernel
theorem dM_nodeWord_119 : decode cM_nodeWord 119 = .ok (.aload_n 0, 1) := by decide +kernel
theorem dM_nodeWord_120 : decode cM_nodeWord 120 = .ok (.getfield 168, 3) := by decide +kernel
theorem dM_nodeWord_123 : decode cM_nodeWord 123 = .ok (.ifCond .eq 17, 3) := by decide +kernel
theorem dM_nodeWord_126 : decode cM_nodeWord 126 = .ok (.aload_n 0, 1) := by decide +kernel
theorem dM_nodeWord_127 : decode cM_nodeWord 127 = .ok (.getfield 53, 3) := by decide +kernel
theorem dM_nodeWord_130 : decode cM_nodeWord 130 = .ok (.aload_n 0, 1) := by decide +kernel
theorem dM_nodeWord_131 : decode cM_nodeWord 131 = .ok (.getfield 25, 3) := by decide +kernel
theorem dM_nodeWord_134 : decode cM_nodeWord 134 = .ok (.iload_n 2, 1) := by decide +kernel
theorem dM_nodeWord_135 : decode cM_nodeWord 135 = .ok (.iaload, 1) := by decide +kernel
theorem dM_nodeWord_136 : decode cM_nodeWord 136 = .ok (.baload, 1) := by decide +kernel
theorem dM_nodeWord_137 : decode cM_nodeWord 137 = .ok (.ifCond .ne 7, 3) := by decide +kernel
theorem dM_nodeWord_140 : decode cM_nodeWord 140 = .ok (.iconst 1, 1) := by decide +kernel
theorem dM_nodeWord_141 : decode cM_nodeWord 141 = .ok (.goto 4, 3) := by decide +kernel
theorem dM_nodeWord_144 : decode cM_nodeWord 144 = .ok (.iconst 0, 1) := by decide +kernel
theorem dM_nodeWord_145 : decode cM_nodeWord 145 = .ok (.istore_n 3, 1) := by decide +kernel
theorem dM_nodeWord_146 : decode cM_nodeWord 146 = .ok (.iload_n 3, 1) := by decide +kernel
theorem dM_nodeWord_147 : decode cM_nodeWord 147 = .ok (.ifCond .eq 7, 3) := by decide +kernel
theorem dM_nodeWord_150 : decode cM_nodeWord 150 = .ok (.iload_n 2, 1) := by decide +kernel
theorem dM_nodeWord_151 : decode cM_nodeWord 151 = .ok (.goto 4, 3) := by decide +kernel
theorem dM_nodeWord_154 : decode cM_nodeWord 154 = .ok (.iconst (-1), 1) := by decide +kernel
theorem dM_nodeWord_155 : decode cM_nodeWord 155 = .ok (.ireturn, 1) := by decide +kernel
abbrev cM_on : ByteArray := prog_11_method_16_code
def yM_on : MethodName := ⟨"WordCheckerModel", "on", "(Z)Z"⟩
theorem calM_on : CalV gT yM_on cM_on 2 (some .boolean) 1 := ⟨⟨gT_1 (i := 828) (by decide +kernel) rfl, gT_1 (i := 8) (by decide +kernel) rfl, by decide +kernel⟩, gT_1 (i := 827) (by decide +kernel) rfl, gT_s (q := (yM_on, 28)) (by decide +kernel)⟩
theorem dM_on_0 : decode cM_on 0 = .ok (.aload_n 0, 1) := by decide +kernel
theorem dM_on_1 : decode cM_on 1 = .ok (.iload_n 1, 1) := by decide +kernel
theorem dM_on_2 : decode cM_on 2 = .ok (.ifCond .eq 12, 3) := by decide +kernel
theorem dM_on_5 : decode cM_on 5 = .ok (.aload_n 0, 1) := by decide +kernel
theorem dM_on_6 : decode cM_on 6 = .ok (.getfield 158, 3) := by decide +kernel
theorem dM_on_9 : decode cM_on 9 = .ok (.iconst 1, 1) := by decide +kernel
theorem dM_on_10 : decode cM_on 10 = .ok (.iadd, 1) := by decide +kernel
theorem dM_on_11 : decode cM_on 11 = .ok (.goto 7, 3) := by decide +kernel
theorem dM_on_14 : decode cM_on 14 = .ok (.aload_n 0, 1) := by decide +kernel
theorem dM_on_15 : decode cM_on 15 = .ok (.getfield 158, 3) := by decide +kernel
theorem dM_on_18 : decode cM_on 18 = .ok (.putfield 158, 3) := by decide +kernel
theorem dM_on_21 : decode cM_on 21 = .ok (.iload_n 1, 1) := by decide +kernel
theorem dM_on_22 : decode cM_on 22 = .ok (.ireturn, 1) := by decide +kernel
abbrev cM_readA : ByteArray := prog_11_method_17_code
def yM_readA : MethodName := ⟨"WordCheckerModel", "readA", "(ZI)Z"⟩
theorem calM_readA : CalV gT yM_readA cM_readA 4 (some .boolean) 2 := ⟨⟨gT_1 (i := 941) (by decide +kernel) rfl, gT_1 (i := 8) (by decide +kernel) rfl, by decide +kernel⟩, gT_1 (i := 940) (by decide +kernel) rfl, gT_s (q := (yM_readA, 28)) (by decide +kernel)⟩
theorem dM_readA_0 : decode cM_readA 0 = .ok (.aload_n 0, 1) := by decide +kernel
theorem dM_readA_1 : decode cM_readA 1 = .ok (.invokevirtual 176, 3) := by decide +kernel
theorem dM_readA_4 : decode cM_readA 4 = .ok (.istore_n 3, 1) := by decide +kernel
theorem dM_readA_5 : decode cM_readA 5 = .ok (.aload_n 0, 1) := by decide +kernel
theorem dM_readA_6 : decode cM_readA 6 = .ok (.getfield 28, 3) := by decide +kernel
theorem dM_readA_9 : decode cM_readA 9 = .ok (.aload_n 0, 1) := by decide +kernel
theorem dM_readA_10 : decode cM_readA 10 = .ok (.getfield 155, 3) := by decide +kernel
theorem dM_readA_13 : decode cM_readA 13 = .ok (.iload_n 3, 1) := by decide +kernel
theorem dM_readA_14 : decode cM_readA 14 = .ok (.iastore, 1) := by decide +kernel
theorem dM_readA_15 : decode cM_readA 15 = .ok (.aload_n 0, 1) := by decide +kernel
theorem dM_readA_16 : decode cM_readA 16 = .ok (.getfield 37, 3) := by decide +kernel
theorem dM_readA_19 : decode cM_readA 19 = .ok (.aload_n 0, 1) := by decide +kernel
theorem dM_readA_20 : decode cM_readA 20 = .ok (.getfield 155, 3) := by decide +kernel
theorem dM_readA_23 : decode cM_readA 23 = .ok (.aload_n 0, 1) := by decide +kernel
theorem dM_readA_24 : decode cM_readA 24 = .ok (.getfield 168, 3) := by decide +kernel
theorem dM_readA_27 : decode cM_readA 27 = .ok (.bastore, 1) := by decide +kernel
theorem dM_readA_28 : decode cM_readA 28 = .ok (.aload_n 0, 1) := by decide +kernel
theorem dM_readA_29 : decode cM_readA 29 = .ok (.iload_n 3, 1) := by decide +kernel
theorem dM_readA_30 : decode cM_readA 30 = .ok (.ifCond .lt 25, 3) := by decide +kernel
theorem dM_readA_33 : decode cM_readA 33 = .ok (.iload_n 1, 1) := by decide +kernel
theorem dM_readA_34 : decode cM_readA 34 = .ok (.ifCond .ne 17, 3) := by decide +kernel
theorem dM_readA_37 : decode cM_readA 37 = .ok (.aload_n 0, 1) := by decide +kernel
theorem dM_readA_38 : decode cM_readA 38 = .ok (.aload_n 0, 1) := by decide +kernel
theorem dM_readA_39 : decode cM_readA 39 = .ok (.getfield 25, 3) := by decide +kernel
theorem dM_readA_42 : decode cM_readA 42 = .ok (.iload_n 3, 1) := by decide +kernel
theorem dM_readA_43 : decode cM_readA 43 = .ok (.iaload, 1) := by decide +kernel
theorem dM_readA_44 : decode cM_readA 44 = .ok (.iload_n 2, 1) := by decide +kernel
theorem dM_readA_45 : decode cM_readA 45 = .ok (.invokevirtual 180, 3) := by decide +kernel
theorem dM_readA_48 : decode cM_readA 48 = .ok (.ifCond .eq 7, 3) := by decide +kernel
theorem dM_readA_51 : decode cM_readA 51 = .ok (.iconst 1, 1) := by decide +kernel
theorem dM_readA_52 : decode cM_readA 52 = .ok (.goto 4, 3) := by decide +kernel
theorem dM_readA_55 : decode cM_readA 55 = .ok (.iconst 0, 1) := by decide +kernel
theorem dM_readA_56 : decode cM_readA 56 = .ok (.invokevirtual 184, 3) := by decide +kernel
theorem dM_readA_59 : decode cM_readA 59 = .ok (.ireturn, 1) := by decide +kernel
abbrev cM_readB : ByteArray := prog_11_method_18_code
def yM_readB : MethodName := ⟨"WordCheckerModel", "readB", "(I)Z"⟩
theorem calM_readB : CalV gT yM_readB cM_readB 3 (some .boolean) 1 := ⟨⟨gT_1 (i := 945) (by decide +kernel) rfl, gT_1 (i := 8) (by decide +kernel) rfl, by decide +kernel⟩, gT_1 (i := 944) (by decide +kernel) rfl, gT_s (q := (yM_readB, 28)) (by decide +kernel)⟩
theorem dM_readB_0 : decode cM_readB 0 = .ok (.aload_n 0, 1) := by decide +kernel
theorem dM_readB_1 : decode cM_readB 1 = .ok (.invokevirtual 176, 3) := by decide +kernel
theorem dM_readB_4 : decode cM_readB 4 = .ok (.istore_n 2, 1) := by decide +kernel
theorem dM_readB_5 : decode cM_readB 5 = .ok (.aload_n 0, 1) := by decide +kernel
theorem dM_readB_6 : decode cM_readB 6 = .ok (.getfield 31, 3) := by decide +kernel
theorem dM_readB_9 : decode cM_readB 9 = .ok (.aload_n 0, 1) := by decide +kernel
theorem dM_readB_10 : decode cM_readB 10 = .ok (.getfield 155, 3) := by decide +kernel
theorem dM_readB_13 : decode cM_readB 13 = .ok (.iload_n 2, 1) := by decide +kernel
theorem dM_readB_14 : decode cM_readB 14 = .ok (.iastore, 1) := by decide +kernel
theorem dM_readB_15 : decode cM_readB 15 = .ok (.aload_n 0, 1) := by decide +kernel
theorem dM_readB_16 : decode cM_readB 16 = .ok (.getfield 41, 3) := by decide +kernel
theorem dM_readB_19 : decode cM_readB 19 = .ok (.aload_n 0, 1) := by decide +kernel
theorem dM_readB_20 : decode cM_readB 20 = .ok (.getfield 155, 3) := by decide +kernel
theorem dM_readB_23 : decode cM_readB 23 = .ok (.aload_n 0, 1) := by decide +kernel
theorem dM_readB_24 : decode cM_readB 24 = .ok (.getfield 168, 3) := by decide +kernel
theorem dM_readB_27 : decode cM_readB 27 = .ok (.bastore, 1) := by decide +kernel
theorem dM_readB_28 : decode cM_readB 28 = .ok (.aload_n 0, 1) := by decide +kernel
theorem dM_readB_29 : decode cM_readB 29 = .ok (.iload_n 2, 1) := by decide +kernel
theorem dM_readB_30 : decode cM_readB 30 = .ok (.ifCond .lt 21, 3) := by decide +kernel
theorem dM_readB_33 : decode cM_readB 33 = .ok (.aload_n 0, 1) := by decide +kernel
theorem dM_readB_34 : decode cM_readB 34 = .ok (.aload_n 0, 1) := by decide +kernel
theorem dM_readB_35 : decode cM_readB 35 = .ok (.getfield 25, 3) := by decide +kernel
theorem dM_readB_38 : decode cM_readB 38 = .ok (.iload_n 2, 1) := by decide +kernel
theorem dM_readB_39 : decode cM_readB 39 = .ok (.iaload, 1) := by decide +kernel
theorem dM_readB_40 : decode cM_readB 40 = .ok (.iload_n 1, 1) := by decide +kernel
theorem dM_readB_41 : decode cM_readB 41 = .ok (.invokevirtual 180, 3) := by decide +kernel
theorem dM_readB_44 : decode cM_readB 44 = .ok (.ifCond .eq 7, 3) := by decide +kernel
theorem dM_readB_47 : decode cM_readB 47 = .ok (.iconst 1, 1) := by decide +kernel
theorem dM_readB_48 : decode cM_readB 48 = .ok (.goto 4, 3) := by decide +kernel
theorem dM_readB_51 : decode cM_readB 51 = .ok (.iconst 0, 1) := by decide +kernel
theorem dM_readB_52 : decode cM_readB 52 = .ok (.invokevirtual 184, 3) := by decide +kernel
theorem dM_readB_55 : decode cM_readB 55 = .ok (.ireturn, 1) := by decide +kernel
abbrev cM_bitsA : ByteArray := prog_11_method_19_code
def yM_bitsA : MethodName := ⟨"WordCheckerModel", "bitsA", "(I)Z"⟩
theorem calM_bitsA : CalV gT yM_bitsA cM_bitsA 3 (some .boolean) 1 := ⟨⟨gT_1 (i := 930) (by decide +kernel) rfl, gT_1 (i := 8) (by decide +kernel) rfl, by decide +kernel⟩, gT_1 (i := 929) (by decide +kernel) rfl, gT_s (q := (yM_bitsA, 28)) (by decide +kernel)⟩
theorem dM_bitsA_0 : decode cM_bitsA 0 = .ok (.aload_n 0, 1) := by decide +kernel
theorem dM_bitsA_1 : decode cM_bitsA 1 = .ok (.invokevirtual 176, 3) := by decide +kernel
theorem dM_bitsA_4 : decode cM_bitsA 4 = .ok (.istore_n 2, 1) := by decide +kernel
theorem dM_bitsA_5 : decode cM_bitsA 5 = .ok (.aload_n 0, 1) := by decide +kernel
theorem dM_bitsA_6 : decode cM_bitsA 6 = .ok (.getfield 28, 3) := by decide +kernel
theorem dM_bitsA_9 : decode cM_bitsA 9 = .ok (.aload_n 0, 1) := by decide +kernel
theorem dM_bitsA_10 : decode cM_bitsA 10 = .ok (.getfield 155, 3) := by decide +kernel
theorem dM_bitsA_13 : decode cM_bitsA 13 = .ok (.iload_n 2, 1) := by decide +kernel
theorem dM_bitsA_14 : decode cM_bitsA 14 = .ok (.iastore, 1) := by decide +kernel
theorem dM_bitsA_15 : decode cM_bitsA 15 = .ok (.aload_n 0, 1) := by decide +kernel
theorem dM_bitsA_16 : decode cM_bitsA 16 = .ok (.getfield 37, 3) := by decide +kernel
theorem dM_bitsA_19 : decode cM_bitsA 19 = .ok (.aload_n 0, 1) := by decide +kernel
theorem dM_bitsA_20 : decode cM_bitsA 20 = .ok (.getfield 155, 3) := by decide +kernel
theorem dM_bitsA_23 : decode cM_bitsA 23 = .ok (.aload_n 0, 1) := by decide +kernel
theorem dM_bitsA_24 : decode cM_bitsA 24 = .ok (.getfield 168, 3) := by decide +kernel
theorem dM_bitsA_27 : decode cM_bitsA 27 = .ok (.bastore, 1) := by decide +kernel
theorem dM_bitsA_28 : decode cM_bitsA 28 = .ok (.aload_n 0, 1) := by decide +kernel
theorem dM_bitsA_29 : decode cM_bitsA 29 = .ok (.iload_n 2, 1) := by decide +kernel
theorem dM_bitsA_30 : decode cM_bitsA 30 = .ok (.ifCond .lt 39, 3) := by decide +kernel
theorem dM_bitsA_33 : decode cM_bitsA 33 = .ok (.aload_n 0, 1) := by decide +kernel
theorem dM_bitsA_34 : decode cM_bitsA 34 = .ok (.aload_n 0, 1) := by decide +kernel
theorem dM_bitsA_35 : decode cM_bitsA 35 = .ok (.getfield 25, 3) := by decide +kernel
theorem dM_bitsA_38 : decode cM_bitsA 38 = .ok (.iload_n 2, 1) := by decide +kernel
theorem dM_bitsA_39 : decode cM_bitsA 39 = .ok (.iaload, 1) := by decide +kernel
theorem dM_bitsA_40 : decode cM_bitsA 40 = .ok (.invokevirtual 188, 3) := by decide +kernel
theorem dM_bitsA_43 : decode cM_bitsA 43 = .ok (.ifCond .eq 26, 3) := by decide +kernel
theorem dM_bitsA_46 : decode cM_bitsA 46 = .ok (.iload_n 1, 1) := by decide +kernel
theorem dM_bitsA_47 : decode cM_bitsA 47 = .ok (.ifCond .eq 18, 3) := by decide +kernel
theorem dM_bitsA_50 : decode cM_bitsA 50 = .ok (.aload_n 0, 1) := by decide +kernel
theorem dM_bitsA_51 : decode cM_bitsA 51 = .ok (.getfield 56, 3) := by decide +kernel
theorem dM_bitsA_54 : decode cM_bitsA 54 = .ok (.aload_n 0, 1) := by decide +kernel
theorem dM_bitsA_55 : decode cM_bitsA 55 = .ok (.getfield 25, 3) := by decide +kernel
theorem dM_bitsA_58 : decode cM_bitsA 58 = .ok (.iload_n 2, 1) := by decide +kernel
theorem dM_bitsA_59 : decode cM_bitsA 59 = .ok (.iaload, 1) := by decide +kernel
theorem dM_bitsA_60 : decode cM_bitsA 60 = .ok (.iaload, 1) := by decide +kernel
theorem dM_bitsA_61 : decode cM_bitsA 61 = .ok (.iload_n 1, 1) := by decide +kernel
theorem dM_bitsA_62 : decode cM_bitsA 62 = .ok (.if_icmp .ne 7, 3) := by decide +kernel
theorem dM_bitsA_65 : decode cM_bitsA 65 = .ok (.iconst 1, 1) := by decide +kernel
theorem dM_bitsA_66 : decode cM_bitsA 66 = .ok (.goto 4, 3) := by decide +kernel
theorem dM_bitsA_69 : decode cM_bitsA 69 = .ok (.iconst 0, 1) := by decide +kernel
theorem dM_bitsA_70 : decode cM_bitsA 70 = .ok (.invokevirtual 184, 3) := by decide +kernel
theorem dM_bitsA_73 : decode cM_bitsA 73 = .ok (.ireturn, 1) := by decide +kernel
abbrev cM_bitsB : ByteArray := prog_11_method_20_code
def yM_bitsB : MethodName := ⟨"WordCheckerModel", "bitsB", "(I)Z"⟩
theorem calM_bitsB : CalV gT yM_bitsB cM_bitsB 3 (some .boolean) 1 := ⟨⟨gT_1 (i := 953) (by decide +kernel) rfl, gT_1 (i := 8) (by decide +kernel) rfl, by decide +kernel⟩, gT_1 (i := 952) (by decide +kernel) rfl, gT_s (q := (yM_bitsB, 28)) (by decide +kernel)⟩
theorem dM_bitsB_0 : decode cM_bitsB 0 = .ok (.aload_n 0, 1) := by decide +kernel
theorem dM_bitsB_1 : decode cM_bitsB 1 = .ok (.invokevirtual 176, 3) := by decide +kernel
theorem dM_bitsB_4 : decode cM_bitsB 4 = .ok (.istore_n 2, 1) := by decide +kernel
theorem dM_bitsB_5 : decode cM_bitsB 5 = .ok (.aload_n 0, 1) := by decide +kernel
theorem dM_bitsB_6 : decode cM_bitsB 6 = .ok (.getfield 31, 3) := by decide +kernel
theorem dM_bitsB_9 : decode cM_bitsB 9 = .ok (.aload_n 0, 1) := by decide +kernel
theorem dM_bitsB_10 : decode cM_bitsB 10 = .ok (.getfield 155, 3) := by decide +kernel
theorem dM_bitsB_13 : decode cM_bitsB 13 = .ok (.iload_n 2, 1) := by decide +kernel
theorem dM_bitsB_14 : decode cM_bitsB 14 = .ok (.iastore, 1) := by decide +kernel
theorem dM_bitsB_15 : decode cM_bitsB 15 = .ok (.aload_n 0, 1) := by decide +kernel
theorem dM_bitsB_16 : decode cM_bitsB 16 = .ok (.getfield 41, 3) := by decide +kernel
theorem dM_bitsB_19 : decode cM_bitsB 19 = .ok (.aload_n 0, 1) := by decide +kernel
theorem dM_bitsB_20 : decode cM_bitsB 20 = .ok (.getfield 155, 3) := by decide +kernel
theorem dM_bitsB_23 : decode cM_bitsB 23 = .ok (.aload_n 0, 1) := by decide +kernel
theorem dM_bitsB_24 : decode cM_bitsB 24 = .ok (.getfield 168, 3) := by decide +kernel
theorem dM_bitsB_27 : decode cM_bitsB 27 = .ok (.bastore, 1) := by decide +kernel
theorem dM_bitsB_28 : decode cM_bitsB 28 = .ok (.aload_n 0, 1) := by decide +kernel
theorem dM_bitsB_29 : decode cM_bitsB 29 = .ok (.iload_n 2, 1) := by decide +kernel
theorem dM_bitsB_30 : decode cM_bitsB 30 = .ok (.ifCond .lt 35, 3) := by decide +kernel
theorem dM_bitsB_33 : decode cM_bitsB 33 = .ok (.aload_n 0, 1) := by decide +kernel
theorem dM_bitsB_34 : decode cM_bitsB 34 = .ok (.aload_n 0, 1) := by decide +kernel
theorem dM_bitsB_35 : decode cM_bitsB 35 = .ok (.getfield 25, 3) := by decide +kernel
theorem dM_bitsB_38 : decode cM_bitsB 38 = .ok (.iload_n 2, 1) := by decide +kernel
theorem dM_bitsB_39 : decode cM_bitsB 39 = .ok (.iaload, 1) := by decide +kernel
theorem dM_bitsB_40 : decode cM_bitsB 40 = .ok (.invokevirtual 188, 3) := by decide +kernel
theorem dM_bitsB_43 : decode cM_bitsB 43 = .ok (.ifCond .eq 22, 3) := by decide +kernel
theorem dM_bitsB_46 : decode cM_bitsB 46 = .ok (.aload_n 0, 1) := by decide +kernel
theorem dM_bitsB_47 : decode cM_bitsB 47 = .ok (.getfield 56, 3) := by decide +kernel
theorem dM_bitsB_50 : decode cM_bitsB 50 = .ok (.aload_n 0, 1) := by decide +kernel
theorem dM_bitsB_51 : decode cM_bitsB 51 = .ok (.getfield 25, 3) := by decide +kernel
theorem dM_bitsB_54 : decode cM_bitsB 54 = .ok (.iload_n 2, 1) := by decide +kernel
theorem dM_bitsB_55 : decode cM_bitsB 55 = .ok (.iaload, 1) := by decide +kernel
theorem dM_bitsB_56 : decode cM_bitsB 56 = .ok (.iaload, 1) := by decide +kernel
theorem dM_bitsB_57 : decode cM_bitsB 57 = .ok (.iload_n 1, 1) := by decide +kernel
theorem dM_bitsB_58 : decode cM_bitsB 58 = .ok (.if_icmp .ne 7, 3) := by decide +kernel
theorem dM_bitsB_61 : decode cM_bitsB 61 = .ok (.iconst 1, 1) := by decide +kernel
theorem dM_bitsB_62 : decode cM_bitsB 62 = .ok (.goto 4, 3) := by decide +kernel
theorem dM_bitsB_65 : decode cM_bitsB 65 = .ok (.iconst 0, 1) := by decide +kernel
theorem dM_bitsB_66 : decode cM_bitsB 66 = .ok (.invokevirtual 184, 3) := by decide +kernel
theorem dM_bitsB_69 : decode cM_bitsB 69 = .ok (.ireturn, 1) := by decide +kernel
abbrev cM_readSort : ByteArray := prog_11_method_21_code
def yM_readSort : MethodName := ⟨"WordCheckerModel", "readSort", "()Z"⟩
theorem calM_readSort : CalV gT yM_readSort cM_readSort 6 (some .boolean) 0 := ⟨⟨gT_1 (i := 872) (by decide +kernel) rfl, gT_1 (i := 8) (by decide +kernel) rfl, by decide +kernel⟩, gT_1 (i := 871) (by decide +kernel) rfl, gT_s (q := (yM_readSort, 28)) (by decide +kernel)⟩
theorem dM_readSort_0 : decode cM_readSort 0 = .ok (.aload_n 0, 1) := by decide +kernel
theorem dM_readSort_1 : decode cM_readSort 1 = .ok (.aload_n 0, 1) := by decide +kernel
theorem dM_readSort_2 : decode cM_readSort 2 = .ok (.getfield 158, 3) := by decide +kernel
theorem dM_readSort_5 : decode cM_readSort 5 = .ok (.invokevirtual 191, 3) := by decide +kernel
theorem dM_readSort_8 : decode cM_readSort 8 = .ok (.lstore_n 1, 1) := by decide +kernel
theorem dM_readSort_9 : decode cM_readSort 9 = .ok (.lload_n 1, 1) := by decide +kernel
theorem dM_readSort_10 : decode cM_readSort 10 = .ok (.ldc2_w 195, 3) := by decide +kernel
theorem dM_readSort_13 : decode cM_readSort 13 = .ok (.lcmp, 1) := by decide +kernel
theorem dM_readSort_14 : decode cM_readSort 14 = .ok (.ifCond .ne 7, 3) := by decide +kernel
theorem dM_readSort_17 : decode cM_readSort 17 = .ok (.iconst 1, 1) := by decide +kernel
theorem dM_readSort_18 : decode cM_readSort 18 = .ok (.goto 4, 3) := by decide +kernel
theorem dM_readSort_21 : decode cM_readSort 21 = .ok (.iconst 0, 1) := by decide +kernel
theorem dM_readSort_22 : decode cM_readSort 22 = .ok (.istore_n 3, 1) := by decide +kernel
theorem dM_readSort_23 : decode cM_readSort 23 = .ok (.aload_n 0, 1) := by decide +kernel
theorem dM_readSort_24 : decode cM_readSort 24 = .ok (.iload_n 3, 1) := by decide +kernel
theorem dM_readSort_25 : decode cM_readSort 25 = .ok (.ifCond .ne 11, 3) := by decide +kernel
theorem dM_readSort_28 : decode cM_readSort 28 = .ok (.lload_n 1, 1) := by decide +kernel
theorem dM_readSort_29 : decode cM_readSort 29 = .ok (.ldc2_w 197, 3) := by decide +kernel
theorem dM_readSort_32 : decode cM_readSort 32 = .ok (.lcmp, 1) := by decide +kernel
theorem dM_readSort_33 : decode cM_readSort 33 = .ok (.ifCond .ne 7, 3) := by decide +kernel
theorem dM_readSort_36 : decode cM_readSort 36 = .ok (.iconst 1, 1) := by decide +kernel
theorem dM_readSort_37 : decode cM_readSort 37 = .ok (.goto 4, 3) := by decide +kernel
theorem dM_readSort_40 : decode cM_readSort 40 = .ok (.iconst 0, 1) := by decide +kernel
theorem dM_readSort_41 : decode cM_readSort 41 = .ok (.invokevirtual 184, 3) := by decide +kernel
theorem dM_readSort_44 : decode cM_readSort 44 = .ok (.ifCond .ne 5, 3) := by decide +kernel
theorem dM_readSort_47 : decode cM_readSort 47 = .ok (.iconst 0, 1) := by decide +kernel
theorem dM_readSort_48 : decode cM_readSort 48 = .ok (.ireturn, 1) := by decide +kernel
theorem dM_readSort_49 : decode cM_readSort 49 = .ok (.aload_n 0, 1) := by decide +kernel
theorem dM_readSort_50 : decode cM_readSort 50 = .ok (.getfield 53, 3) := by decide +kernel
theorem dM_readSort_53 : decode cM_readSort 53 = .ok (.aload_n 0, 1) := by decide +kernel
theorem dM_readSort_54 : decode cM_readSort 54 = .ok (.getfield 155, 3) := by decide +kernel
theorem dM_readSort_57 : decode cM_readSort 57 = .ok (.iload_n 3, 1) := by decide +kernel
theorem dM_readSort_58 : decode cM_readSort 58 = .ok (.bastore, 1) := by decide +kernel
theorem dM_readSort_59 : decode cM_readSort 59 = .ok (.iload_n 3, 1) := by decide +kernel
theorem dM_readSort_60 : decode cM_readSort 60 = .ok (.ifCond .ne 36, 3) := by decide +kernel
theorem dM_readSort_63 : decode cM_readSort 63 = .ok (.aload_n 0, 1) := by decide +kernel
theorem dM_readSort_64 : decode cM_readSort 64 = .ok (.aload_n 0, 1) := by decide +kernel
theorem dM_readSort_65 : decode cM_readSort 65 = .ok (.getfield 158, 3) := by decide +kernel
theorem dM_readSort_68 : decode cM_readSort 68 = .ok (.invokevirtual 161, 3) := by decide +kernel
theorem dM_readSort_71 : decode cM_readSort 71 = .ok (.istore 4, 2) := by decide +kernel
theorem dM_readSort_73 : decode cM_readSort 73 = .ok (.aload_n 0, 1) := by decide +kernel
theorem dM_readSort_74 : decode cM_readSort 74 = .ok (.getfield 56, 3) := by decide +kernel
theorem dM_readSort_77 : decode cM_readSort 77 = .ok (.aload_n 0, 1) := by decide +kernel
theorem dM_readSort_78 : decode cM_readSort 78 = .ok (.getfield 155, 3) := by decide +kernel
theorem dM_readSort_81 : decode cM_readSort 81 = .ok (.iload 4, 2) := by decide +kernel
theorem dM_readSort_83 : decode cM_readSort 83 = .ok (.iastore, 1) := by decide +kernel
theorem dM_readSort_84 : decode cM_readSort 84 = .ok (.aload_n 0, 1) := by decide +kernel
theorem dM_readSort_85 : decode cM_readSort 85 = .ok (.iload 4, 2) := by decide +kernel
theorem dM_readSort_87 : decode cM_readSort 87 = .ok (.iconst 1, 1) := by decide +kernel
theorem dM_readSort_88 : decode cM_readSort 88 = .ok (.iconst 3, 1) := by decide +kernel
theorem dM_readSort_89 : decode cM_readSort 89 = .ok (.invokestatic 75, 3) := by decide +kernel
theorem dM_readSort_92 : decode cM_readSort 92 = .ok (.invokevirtual 184, 3) := by decide +kernel
theorem dM_readSort_95 : decode cM_readSort 95 = .ok (.ireturn, 1) := by decide +kernel
theorem dM_readSort_96 : decode cM_readSort 96 = .ok (.aload_n 0, 1) := by decide +kernel
theorem dM_readSort_97 : decode cM_readSort 97 = .ok (.invokevirtual 199, 3) := by decide +kernel
theorem dM_readSort_100 : decode cM_readSort 100 = .ok (.istore 4, 2) := by decide +kernel
theorem dM_readSort_102 : decode cM_readSort 102 = .ok (.aload_n 0, 1) := by decide +kernel
theorem dM_readSort_103 : decode cM_readSort 103 = .ok (.iload 4, 2) := by decide +kernel
theorem dM_readSort_105 : decode cM_readSort 105 = .ok (.ifCond .lt 27, 3) := by decide +kernel
theorem dM_readSort_108 : decode cM_readSort 108 = .ok (.aload_n 0, 1) := by decide +kernel
theorem dM_readSort_109 : decode cM_readSort 109 = .ok (.iload 4, 2) := by decide +kernel
theorem dM_readSort_111 : decode cM_readSort 111 = .ok (.invokevirtual 188, 3) := by decide +kernel
theorem dM_readSort_114 : decode cM_readSort 114 = .ok (.ifCond .eq 18, 3) := by decide +kernel
theorem dM_readSort_117 : decode cM_readSort 117 = .ok (.aload_n 0, 1) := by decide +kernel
theorem dM_readSort_118 : decode cM_readSort 118 = .ok (.getfield 56, 3) := by decide +kernel
theorem dM_readSort_121 : decode cM_readSort 121 = .ok (.iload 4, 2) := by decide +kernel
theorem dM_readSort_123 : decode cM_readSort 123 = .ok (.iaload, 1) := by decide +kernel
theorem dM_readSort_124 : decode cM_readSort 124 = .ok (.iconst 1, 1) := by decide +kernel
theorem dM_readSort_125 : decode cM_readSort 125 = .ok (.if_icmp .ne 7, 3) := by decide +kernel
theorem dM_readSort_128 : decode cM_readSort 128 = .ok (.iconst 1, 1) := by decide +kernel
theorem dM_readSort_129 : decode cM_readSort 129 = .ok (.goto 4, 3) := by decide +kernel
theorem dM_readSort_132 : decode cM_readSort 132 = .ok (.iconst 0, 1) := by decide +kernel
theorem dM_readSort_133 : decode cM_readSort 133 = .ok (.invokevirtual 184, 3) := by decide +kernel
theorem dM_readSort_136 : decode cM_readSort 136 = .ok (.ifCond .ne 5, 3) := by decide +kernel
theorem dM_readSort_139 : decode cM_readSort 139 = .ok (.iconst 0, 1) := by decide +kernel
theorem dM_readSort_140 : decode cM_readSort 140 = .ok (.ireturn, 1) := by decide +kernel
theorem dM_readSort_141 : decode cM_readSort 141 = .ok (.aload_n 0, 1) := by decide +kernel
theorem dM_readSort_142 : decode cM_readSort 142 = .ok (.invokevirtual 199, 3) := by decide +kernel
theorem dM_readSort_145 : decode cM_readSort 145 = .ok (.istore 5, 2) := by decide +kernel
theorem dM_readSort_147 : decode cM_readSort 147 = .ok (.aload_n 0, 1) := by decide +kernel
theorem dM_readSort_148 : decode cM_readSort 148 = .ok (.getfield 56, 3) := by decide +kernel
theorem dM_readSort_151 : decode cM_readSort 151 = .ok (.aload_n 0, 1) := by decide +kernel
theorem dM_readSort_152 : decode cM_readSort 152 = .ok (.getfield 155, 3) := by decide +kernel
theorem dM_readSort_155 : decode cM_readSort 155 = .ok (.iload 5, 2) := by decide +kernel
theorem dM_readSort_157 : decode cM_readSort 157 = .ok (.ifCond .ge 7, 3) := by decide +kernel
theorem dM_readSort_160 : decode cM_readSort 160 = .ok (.iconst 0, 1) := by decide +kernel
theorem dM_readSort_161 : decode cM_readSort 161 = .ok (.goto 10, 3) := by decide +kernel
theorem dM_readSort_164 : decode cM_readSort 164 = .ok (.aload_n 0, 1) := by decide +kernel
theorem dM_readSort_165 : decode cM_readSort 165 = .ok (.getfield 56, 3) := by decide +kernel
theorem dM_readSort_168 : decode cM_readSort 168 = .ok (.iload 5, 2) := by decide +kernel
theorem dM_readSort_170 : decode cM_readSort 170 = .ok (.iaload, 1) := by decide +kernel
theorem dM_readSort_171 : decode cM_readSort 171 = .ok (.iastore, 1) := by decide +kernel
theorem dM_readSort_172 : decode cM_readSort 172 = .ok (.aload_n 0, 1) := by decide +kernel
theorem dM_readSort_173 : decode cM_readSort 173 = .ok (.iload 5, 2) := by decide +kernel
theorem dM_readSort_175 : decode cM_readSort 175 = .ok (.ifCond .lt 16, 3) := by decide +kernel
theorem dM_readSort_178 : decode cM_readSort 178 = .ok (.aload_n 0, 1) := by decide +kernel
theorem dM_readSort_179 : decode cM_readSort 179 = .ok (.iload 5, 2) := by decide +kernel
theorem dM_readSort_181 : decode cM_readSort 181 = .ok (.invokevirtual 188, 3) := by decide +kernel
theorem dM_readSort_184 : decode cM_readSort 184 = .ok (.ifCond .eq 7, 3) := by decide +kernel
theorem dM_readSort_187 : decode cM_readSort 187 = .ok (.iconst 1, 1) := by decide +kernel
theorem dM_readSort_188 : decode cM_readSort 188 = .ok (.goto 4, 3) := by decide +kernel
theorem dM_readSort_191 : decode cM_readSort 191 = .ok (.iconst 0, 1) := by decide +kernel
theorem dM_readSort_192 : decode cM_readSort 192 = .ok (.invokevirtual 184, 3) := by decide +kernel
theorem dM_readSort_195 : decode cM_readSort 195 = .ok (.ireturn, 1) := by decide +kernel
abbrev cM_total : ByteArray := prog_11_method_22_code
def yM_total : MethodName := ⟨"WordCheckerModel", "total", "(I)I"⟩
theorem calM_total : CalV gT yM_total cM_total 4 (some .int) 1 := ⟨⟨gT_1 (i := 894) (by decide +kernel) rfl, gT_1 (i := 8) (by decide +kernel) rfl, by decide +kernel⟩, gT_1 (i := 893) (by decide +kernel) rfl, gT_s (q := (yM_total, 28)) (by decide +kernel)⟩
theorem dM_total_0 : decode cM_total 0 = .ok (.iconst 0, 1) := by decide +kernel
theorem dM_total_1 : decode cM_total 1 = .ok (.istore_n 2, 1) := by decide +kernel
theorem dM_total_2 : decode cM_total 2 = .ok (.iconst 0, 1) := by decide +kernel
theorem dM_total_3 : decode cM_total 3 = .ok (.istore_n 3, 1) := by decide +kernel
theorem dM_total_4 : decode cM_total 4 = .ok (.iload_n 3, 1) := by decide +kernel
theorem dM_total_5 : decode cM_total 5 = .ok (.aload_n 0, 1) := by decide +kernel
theorem dM_total_6 : decode cM_total 6 = .ok (.getfield 155, 3) := by decide +kernel
theorem dM_total_9 : decode cM_total 9 = .ok (.if_icmp .ge 36, 3) := by decide +kernel
theorem dM_total_12 : decode cM_total 12 = .ok (.aload_n 0, 1) := by decide +kernel
theorem dM_total_13 : decode cM_total 13 = .ok (.getfield 22, 3) := by decide +kernel
theorem dM_total_16 : decode cM_total 16 = .ok (.iload_n 3, 1) := by decide +kernel
theorem dM_total_17 : decode cM_total 17 = .ok (.iaload, 1) := by decide +kernel
theorem dM_total_18 : decode cM_total 18 = .ok (.iload_n 1, 1) := by decide +kernel
theorem dM_total_19 : decode cM_total 19 = .ok (.if_icmp .ne 18, 3) := by decide +kernel
theorem dM_total_22 : decode cM_total 22 = .ok (.iload_n 2, 1) := by decide +kernel
theorem dM_total_23 : decode cM_total 23 = .ok (.aload_n 0, 1) := by decide +kernel
theorem dM_total_24 : decode cM_total 24 = .ok (.aload_n 0, 1) := by decide +kernel
theorem dM_total_25 : decode cM_total 25 = .ok (.getfield 25, 3) := by decide +kernel
theorem dM_total_28 : decode cM_total 28 = .ok (.iload_n 3, 1) := by decide +kernel
theorem dM_total_29 : decode cM_total 29 = .ok (.iaload, 1) := by decide +kernel
theorem dM_total_30 : decode cM_total 30 = .ok (.invokevirtual 202, 3) := by decide +kernel
theorem dM_total_33 : decode cM_total 33 = .ok (.iadd, 1) := by decide +kernel
theorem dM_total_34 : decode cM_total 34 = .ok (.goto 4, 3) := by decide +kernel
theorem dM_total_37 : decode cM_total 37 = .ok (.iload_n 2, 1) := by decide +kernel
theorem dM_total_38 : decode cM_total 38 = .ok (.istore_n 2, 1) := by decide +kernel
theorem dM_total_39 : decode cM_total 39 = .ok (.iinc 3 1, 3) := by decide +kernel
theorem dM_total_42 : decode cM_total 42 = .ok (.goto (-38), 3) := by decide +kernel
theorem dM_total_45 : decode cM_total 45 = .ok (.iload_n 2, 1) := by decide +kernel
theorem dM_total_46 : decode cM_total 46 = .ok (.ireturn, 1) := by decide +kernel
abbrev cM_readState : ByteArray := prog_11_method_23_code
def yM_readState : MethodName := ⟨"WordCheckerModel", "readState", "(I)Z"⟩
theorem calM_readState : CalV gT yM_readState cM_readState 3 (some .boolean) 1 := ⟨⟨gT_1 (i := 890) (by decide +kernel) rfl, gT_1 (i := 8) (by decide +kernel) rfl, by decide +kernel⟩, gT_1 (i := 889) (by decide +kernel) rfl, gT_s (q := (yM_readState, 28)) (by decide +kernel)⟩
theorem dM_readState_0 : decode cM_readState 0 = .ok (.aload_n 0, 1) := by decide +kernel
theorem dM_readState_1 : decode cM_readState 1 = .ok (.invokevirtual 199, 3) := by decide +kernel
theorem dM_readState_4 : decode cM_readState 4 = .ok (.istore_n 2, 1) := by decide +kernel
theorem dM_readState_5 : decode cM_readState 5 = .ok (.aload_n 0, 1) := by decide +kernel
theorem dM_readState_6 : decode cM_readState 6 = .ok (.getfield 25, 3) := by decide +kernel
theorem dM_readState_9 : decode cM_readState 9 = .ok (.aload_n 0, 1) := by decide +kernel
theorem dM_readState_10 : decode cM_readState 10 = .ok (.getfield 155, 3) := by decide +kernel
theorem dM_readState_13 : decode cM_readState 13 = .ok (.iload_n 2, 1) := by decide +kernel
theorem dM_readState_14 : decode cM_readState 14 = .ok (.iastore, 1) := by decide +kernel
theorem dM_readState_15 : decode cM_readState 15 = .ok (.aload_n 0, 1) := by decide +kernel
theorem dM_readState_16 : decode cM_readState 16 = .ok (.iload_n 2, 1) := by decide +kernel
theorem dM_readState_17 : decode cM_readState 17 = .ok (.ifCond .lt 45, 3) := by decide +kernel
theorem dM_readState_20 : decode cM_readState 20 = .ok (.iload_n 1, 1) := by decide +kernel
theorem dM_readState_21 : decode cM_readState 21 = .ok (.iconst 2, 1) := by decide +kernel
theorem dM_readState_22 : decode cM_readState 22 = .ok (.if_icmp .eq 11, 3) := by decide +kernel
theorem dM_readState_25 : decode cM_readState 25 = .ok (.aload_n 0, 1) := by decide +kernel
theorem dM_readState_26 : decode cM_readState 26 = .ok (.iload_n 2, 1) := by decide +kernel
theorem dM_readState_27 : decode cM_readState 27 = .ok (.invokevirtual 188, 3) := by decide +kernel
theorem dM_readState_30 : decode cM_readState 30 = .ok (.ifCond .eq 32, 3) := by decide +kernel
theorem dM_readState_33 : decode cM_readState 33 = .ok (.aload_n 0, 1) := by decide +kernel
theorem dM_readState_34 : decode cM_readState 34 = .ok (.iload_n 1, 1) := by decide +kernel
theorem dM_readState_35 : decode cM_readState 35 = .ok (.invokevirtual 205, 3) := by decide +kernel
theorem dM_readState_38 : decode cM_readState 38 = .ok (.aload_n 0, 1) := by decide +kernel
theorem dM_readState_39 : decode cM_readState 39 = .ok (.iload_n 2, 1) := by decide +kernel
theorem dM_readState_40 : decode cM_readState 40 = .ok (.invokevirtual 202, 3) := by decide +kernel
theorem dM_readState_43 : decode cM_readState 43 = .ok (.iadd, 1) := by decide +kernel
theorem dM_readState_44 : decode cM_readState 44 = .ok (.iload_n 1, 1) := by decide +kernel
theorem dM_readState_45 : decode cM_readState 45 = .ok (.iconst 2, 1) := by decide +kernel
theorem dM_readState_46 : decode cM_readState 46 = .ok (.if_icmp .ne 8, 3) := by decide +kernel
theorem dM_readState_49 : decode cM_readState 49 = .ok (.bipush 6, 2) := by decide +kernel
theorem dM_readState_51 : decode cM_readState 51 = .ok (.goto 4, 3) := by decide +kernel
theorem dM_readState_54 : decode cM_readState 54 = .ok (.iconst 2, 1) := by decide +kernel
theorem dM_readState_55 : decode cM_readState 55 = .ok (.if_icmp .gt 7, 3) := by decide +kernel
theorem dM_readState_58 : decode cM_readState 58 = .ok (.iconst 1, 1) := by decide +kernel
theorem dM_readState_59 : decode cM_readState 59 = .ok (.goto 4, 3) := by decide +kernel
theorem dM_readState_62 : decode cM_readState 62 = .ok (.iconst 0, 1) := by decide +kernel
theorem dM_readState_63 : decode cM_readState 63 = .ok (.invokevirtual 184, 3) := by decide +kernel
theorem dM_readState_66 : decode cM_readState 66 = .ok (.ireturn, 1) := by decide +kernel
abbrev cM_seenFree : ByteArray := prog_11_method_25_code
def yM_seenFree : MethodName := ⟨"WordCheckerModel", "seenFree", "(I)Z"⟩
theorem calM_seenFree : CalV gT yM_seenFree cM_seenFree 2 (some .boolean) 1 := ⟨⟨gT_1 (i := 926) (by decide +kernel) rfl, gT_1 (i := 8) (by decide +kernel) rfl, by decide +kernel⟩, gT_1 (i := 925) (by decide +kernel) rfl, gT_s (q := (yM_seenFree, 28)) (by decide +kernel)⟩
theorem dM_seenFree_0 : decode cM_seenFree 0 = .ok (.aload_n 0, 1) := by decide +kernel
theorem dM_seenFree_1 : decode cM_seenFree 1 = .ok (.getfield 62, 3) := by decide +kernel
theorem dM_seenFree_4 : decode cM_seenFree 4 = .ok (.iload_n 1, 1) := by decide +kernel
theorem dM_seenFree_5 : decode cM_seenFree 5 = .ok (.iaload, 1) := by decide +kernel
theorem dM_seenFree_6 : decode cM_seenFree 6 = .ok (.iconst 1, 1) := by decide +kernel
theorem dM_seenFree_7 : decode cM_seenFree 7 = .ok (.if_icmp .ne 7, 3) := by decide +kernel
theorem dM_seenFree_10 : decode cM_seenFree 10 = .ok (.iconst 1, 1) := by decide +kernel
theorem dM_seenFree_11 : decode cM_seenFree 11 = .ok (.goto 4, 3) := by decide +kernel
theorem dM_seenFree_14 : decode cM_seenFree 14 = .ok (.iconst 0, 1) := by decide +kernel
theorem dM_seenFree_15 : decode cM_seenFree 15 = .ok (.ireturn, 1) := by decide +kernel
abbrev cM_fixed : ByteArray := prog_11_method_24_code
def yM_fixed : MethodName := ⟨"WordCheckerModel", "fixed", "(I)Z"⟩
theorem calM_fixed : CalV gT yM_fixed cM_fixed 6 (some .boolean) 1 := ⟨⟨gT_1 (i := 922) (by decide +kernel) rfl, gT_1 (i := 8) (by decide +kernel) rfl, by decide +kernel⟩, gT_1 (i := 921) (by decide +kernel) rfl, gT_s (q := (yM_fixed, 28)) (by decide +kernel)⟩
theorem dM_fixed_0 : decode cM_fixed 0 = .ok (.aload_n 0, 1) := by decide +kernel
theorem dM_fixed_1 : decode cM_fixed 1 = .ok (.getfield 22, 3) := by decide +kernel
theorem dM_fixed_4 : decode cM_fixed 4 = .ok (.iload_n 1, 1) := by decide +kernel
theorem dM_fixed_5 : decode cM_fixed 5 = .ok (.iaload, 1) := by decide +kernel
theorem dM_fixed_6 : decode cM_fixed 6 = .ok (.iconst 3, 1) := by decide +kernel
theorem dM_fixed_7 : decode cM_fixed 7 = .ok (.if_icmp .ne 5, 3) := by decide +kernel
theorem dM_fixed_10 : decode cM_fixed 10 = .ok (.iconst 1, 1) := by decide +kernel
theorem dM_fixed_11 : decode cM_fixed 11 = .ok (.ireturn, 1) := by decide +kernel
theorem dM_fixed_12 : decode cM_fixed 12 = .ok (.iconst 1, 1) := by decide +kernel
theorem dM_fixed_13 : decode cM_fixed 13 = .ok (.istore_n 2, 1) := by decide +kernel
theorem dM_fixed_14 : decode cM_fixed 14 = .ok (.iconst 0, 1) := by decide +kernel
theorem dM_fixed_15 : decode cM_fixed 15 = .ok (.istore_n 3, 1) := by decide +kernel
theorem dM_fixed_16 : decode cM_fixed 16 = .ok (.iload_n 3, 1) := by decide +kernel
theorem dM_fixed_17 : decode cM_fixed 17 = .ok (.iload_n 1, 1) := by decide +kernel
theorem dM_fixed_18 : decode cM_fixed 18 = .ok (.if_icmp .gt 185, 3) := by decide +kernel
theorem dM_fixed_21 : decode cM_fixed 21 = .ok (.aload_n 0, 1) := by decide +kernel
theorem dM_fixed_22 : decode cM_fixed 22 = .ok (.getfield 22, 3) := by decide +kernel
theorem dM_fixed_25 : decode cM_fixed 25 = .ok (.iload_n 3, 1) := by decide +kernel
theorem dM_fixed_26 : decode cM_fixed 26 = .ok (.iaload, 1) := by decide +kernel
theorem dM_fixed_27 : decode cM_fixed 27 = .ok (.iconst 1, 1) := by decide +kernel
theorem dM_fixed_28 : decode cM_fixed 28 = .ok (.if_icmp .eq 13, 3) := by decide +kernel
theorem dM_fixed_31 : decode cM_fixed 31 = .ok (.aload_n 0, 1) := by decide +kernel
theorem dM_fixed_32 : decode cM_fixed 32 = .ok (.getfield 22, 3) := by decide +kernel
theorem dM_fixed_35 : decode cM_fixed 35 = .ok (.iload_n 3, 1) := by decide +kernel
theorem dM_fixed_36 : decode cM_fixed 36 = .ok (.iaload, 1) := by decide +kernel
theorem dM_fixed_37 : decode cM_fixed 37 = .ok (.iconst 2, 1) := by decide +kernel
theorem dM_fixed_38 : decode cM_fixed 38 = .ok (.if_icmp .ne 7, 3) := by decide +kernel
theorem dM_fixed_41 : decode cM_fixed 41 = .ok (.iconst 1, 1) := by decide +kernel
theorem dM_fixed_42 : decode cM_fixed 42 = .ok (.goto 4, 3) := by decide +kernel
theorem dM_fixed_45 : decode cM_fixed 45 = .ok (.iconst 0, 1) := by decide +kernel
theorem dM_fixed_46 : decode cM_fixed 46 = .ok (.istore 4, 2) := by decide +kernel
theorem dM_fixed_48 : decode cM_fixed 48 = .ok (.aload_n 0, 1) := by decide +kernel
theorem dM_fixed_49 : decode cM_fixed 49 = .ok (.iload_n 3, 1) := by decide +kernel
theorem dM_fixed_50 : decode cM_fixed 50 = .ok (.invokevirtual 172, 3) := by decide +kernel
theorem dM_fixed_53 : decode cM_fixed 53 = .ok (.ifCond .eq 22, 3) := by decide +kernel
theorem dM_fixed_56 : decode cM_fixed 56 = .ok (.aload_n 0, 1) := by decide +kernel
theorem dM_fixed_57 : decode cM_fixed 57 = .ok (.getfield 22, 3) := by decide +kernel
theorem dM_fixed_60 : decode cM_fixed 60 = .ok (.iload_n 3, 1) := by decide +kernel
theorem dM_fixed_61 : decode cM_fixed 61 = .ok (.iaload, 1) := by decide +kernel
theorem dM_fixed_62 : decode cM_fixed 62 = .ok (.iconst 3, 1) := by decide +kernel
theorem dM_fixed_63 : decode cM_fixed 63 = .ok (.if_icmp .eq 12, 3) := by decide +kernel
theorem dM_fixed_66 : decode cM_fixed 66 = .ok (.iload 4, 2) := by decide +kernel
theorem dM_fixed_68 : decode cM_fixed 68 = .ok (.ifCond .ne 7, 3) := by decide +kernel
theorem dM_fixed_71 : decode cM_fixed 71 = .ok (.iconst 1, 1) := by decide +kernel
theorem dM_fixed_72 : decode cM_fixed 72 = .ok (.goto 4, 3) := by decide +kernel
theorem dM_fixed_75 : decode cM_fixed 75 = .ok (.iconst 0, 1) := by decide +kernel
theorem dM_fixed_76 : decode cM_fixed 76 = .ok (.istore 5, 2) := by decide +kernel
theorem dM_fixed_78 : decode cM_fixed 78 = .ok (.iload 4, 2) := by decide +kernel
theorem dM_fixed_80 : decode cM_fixed 80 = .ok (.ifCond .ne 74, 3) := by decide +kernel
theorem dM_fixed_83 : decode cM_fixed 83 = .ok (.iload 5, 2) := by decide +kernel
theorem dM_fixed_85 : decode cM_fixed 85 = .ok (.ifCond .eq 73, 3) := by decide +kernel
theorem dM_fixed_88 : decode cM_fixed 88 = .ok (.aload_n 0, 1) := by decide +kernel
theorem dM_fixed_89 : decode cM_fixed 89 = .ok (.getfield 28, 3) := by decide +kernel
theorem dM_fixed_92 : decode cM_fixed 92 = .ok (.iload_n 3, 1) := by decide +kernel
theorem dM_fixed_93 : decode cM_fixed 93 = .ok (.iaload, 1) := by decide +kernel
theorem dM_fixed_94 : decode cM_fixed 94 = .ok (.ifCond .lt 16, 3) := by decide +kernel
theorem dM_fixed_97 : decode cM_fixed 97 = .ok (.aload_n 0, 1) := by decide +kernel
theorem dM_fixed_98 : decode cM_fixed 98 = .ok (.aload_n 0, 1) := by decide +kernel
theorem dM_fixed_99 : decode cM_fixed 99 = .ok (.getfield 28, 3) := by decide +kernel
theorem dM_fixed_102 : decode cM_fixed 102 = .ok (.iload_n 3, 1) := by decide +kernel
theorem dM_fixed_103 : decode cM_fixed 103 = .ok (.iaload, 1) := by decide +kernel
theorem dM_fixed_104 : decode cM_fixed 104 = .ok (.invokevirtual 208, 3) := by decide +kernel
theorem dM_fixed_107 : decode cM_fixed 107 = .ok (.ifCond .ne 47, 3) := by decide +kernel
theorem dM_fixed_110 : decode cM_fixed 110 = .ok (.aload_n 0, 1) := by decide +kernel
theorem dM_fixed_111 : decode cM_fixed 111 = .ok (.getfield 31, 3) := by decide +kernel
theorem dM_fixed_114 : decode cM_fixed 114 = .ok (.iload_n 3, 1) := by decide +kernel
theorem dM_fixed_115 : decode cM_fixed 115 = .ok (.iaload, 1) := by decide +kernel
theorem dM_fixed_116 : decode cM_fixed 116 = .ok (.ifCond .lt 16, 3) := by decide +kernel
theorem dM_fixed_119 : decode cM_fixed 119 = .ok (.aload_n 0, 1) := by decide +kernel
theorem dM_fixed_120 : decode cM_fixed 120 = .ok (.aload_n 0, 1) := by decide +kernel
theorem dM_fixed_121 : decode cM_fixed 121 = .ok (.getfield 31, 3) := by decide +kernel
theorem dM_fixed_124 : decode cM_fixed 124 = .ok (.iload_n 3, 1) := by decide +kernel
theorem dM_fixed_125 : decode cM_fixed 125 = .ok (.iaload, 1) := by decide +kernel
theorem dM_fixed_126 : decode cM_fixed 126 = .ok (.invokevirtual 208, 3) := by decide +kernel
theorem dM_fixed_129 : decode cM_fixed 129 = .ok (.ifCond .ne 25, 3) := by decide +kernel
theorem dM_fixed_132 : decode cM_fixed 132 = .ok (.aload_n 0, 1) := by decide +kernel
theorem dM_fixed_133 : decode cM_fixed 133 = .ok (.getfield 34, 3) := by decide +kernel
theorem dM_fixed_136 : decode cM_fixed 136 = .ok (.iload_n 3, 1) := by decide +kernel
theorem dM_fixed_137 : decode cM_fixed 137 = .ok (.iaload, 1) := by decide +kernel
theorem dM_fixed_138 : decode cM_fixed 138 = .ok (.ifCond .lt 20, 3) := by decide +kernel
theorem dM_fixed_141 : decode cM_fixed 141 = .ok (.aload_n 0, 1) := by decide +kernel
theorem dM_fixed_142 : decode cM_fixed 142 = .ok (.aload_n 0, 1) := by decide +kernel
theorem dM_fixed_143 : decode cM_fixed 143 = .ok (.getfield 34, 3) := by decide +kernel
theorem dM_fixed_146 : decode cM_fixed 146 = .ok (.iload_n 3, 1) := by decide +kernel
theorem dM_fixed_147 : decode cM_fixed 147 = .ok (.iaload, 1) := by decide +kernel
theorem dM_fixed_148 : decode cM_fixed 148 = .ok (.invokevirtual 208, 3) := by decide +kernel
theorem dM_fixed_151 : decode cM_fixed 151 = .ok (.ifCond .eq 7, 3) := by decide +kernel
theorem dM_fixed_154 : decode cM_fixed 154 = .ok (.iconst 1, 1) := by decide +kernel
theorem dM_fixed_155 : decode cM_fixed 155 = .ok (.goto 4, 3) := by decide +kernel
theorem dM_fixed_158 : decode cM_fixed 158 = .ok (.iconst 0, 1) := by decide +kernel
theorem dM_fixed_159 : decode cM_fixed 159 = .ok (.istore 4, 2) := by decide +kernel
theorem dM_fixed_161 : decode cM_fixed 161 = .ok (.aload_n 0, 1) := by decide +kernel
theorem dM_fixed_162 : decode cM_fixed 162 = .ok (.getfield 62, 3) := by decide +kernel
theorem dM_fixed_165 : decode cM_fixed 165 = .ok (.iload_n 3, 1) := by decide +kernel
theorem dM_fixed_166 : decode cM_fixed 166 = .ok (.iload 4, 2) := by decide +kernel
theorem dM_fixed_168 : decode cM_fixed 168 = .ok (.ifCond .eq 7, 3) := by decide +kernel
theorem dM_fixed_171 : decode cM_fixed 171 = .ok (.iconst 1, 1) := by decide +kernel
theorem dM_fixed_172 : decode cM_fixed 172 = .ok (.goto 4, 3) := by decide +kernel
theorem dM_fixed_175 : decode cM_fixed 175 = .ok (.iconst 0, 1) := by decide +kernel
theorem dM_fixed_176 : decode cM_fixed 176 = .ok (.iastore, 1) := by decide +kernel
theorem dM_fixed_177 : decode cM_fixed 177 = .ok (.iload_n 3, 1) := by decide +kernel
theorem dM_fixed_178 : decode cM_fixed 178 = .ok (.iload_n 1, 1) := by decide +kernel
theorem dM_fixed_179 : decode cM_fixed 179 = .ok (.if_icmp .ne 16, 3) := by decide +kernel
theorem dM_fixed_182 : decode cM_fixed 182 = .ok (.iload 4, 2) := by decide +kernel
theorem dM_fixed_184 : decode cM_fixed 184 = .ok (.ifCond .ne 7, 3) := by decide +kernel
theorem dM_fixed_187 : decode cM_fixed 187 = .ok (.iconst 1, 1) := by decide +kernel
theorem dM_fixed_188 : decode cM_fixed 188 = .ok (.goto 8, 3) := by decide +kernel
theorem dM_fixed_191 : decode cM_fixed 191 = .ok (.iconst 0, 1) := by decide +kernel
theorem dM_fixed_192 : decode cM_fixed 192 = .ok (.goto 4, 3) := by decide +kernel
theorem dM_fixed_195 : decode cM_fixed 195 = .ok (.iload_n 2, 1) := by decide +kernel
theorem dM_fixed_196 : decode cM_fixed 196 = .ok (.istore_n 2, 1) := by decide +kernel
theorem dM_fixed_197 : decode cM_fixed 197 = .ok (.iinc 3 1, 3) := by decide +kernel
theorem dM_fixed_200 : decode cM_fixed 200 = .ok (.goto (-184), 3) := by decide +kernel
theorem dM_fixed_203 : decode cM_fixed 203 = .ok (.iload_n 2, 1) := by decide +kernel
theorem dM_fixed_204 : decode cM_fixed 204 = .ok (.ireturn, 1) := by decide +kernel
