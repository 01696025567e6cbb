abbrev cM_has : ByteArray := prog_11_method_26_code
def yM_has : MethodName := ⟨"WordCheckerModel", "has", "(II)Z"⟩
theorem calM_has : CalV gT yM_has cM_has 5 (some .boolean) 2 := ⟨⟨gT_1 (i := 918) (by decide +kernel) rfl, gT_1 (i := 8) (by decide +kernel) rfl, by decide +kernel⟩, gT_1 (i := 917) (by decide +kernel) rfl, gT_s (q := (yM_has, 28)) (by decide +kernel)⟩
theorem dM_has_0 : decode cM_has 0 = .ok (.iconst 0, 1) := by decide +kernel
theorem dM_has_1 : decode cM_has 1 = .ok (.istore_n 3, 1) := by decide +kernel
theorem dM_has_2 : decode cM_has 2 = .ok (.iconst 0, 1) := by decide +kernel
theorem dM_has_3 : decode cM_has 3 = .ok (.istore 4, 2) := by decide +kernel
theorem dM_has_5 : decode cM_has 5 = .ok (.iload 4, 2) := by decide +kernel
theorem dM_has_7 : decode cM_has 7 = .ok (.aload_n 0, 1) := by decide +kernel
theorem dM_has_8 : decode cM_has 8 = .ok (.getfield 155, 3) := by decide +kernel
theorem dM_has_11 : decode cM_has 11 = .ok (.if_icmp .ge 41, 3) := by decide +kernel
theorem dM_has_14 : decode cM_has 14 = .ok (.iload_n 3, 1) := by decide +kernel
theorem dM_has_15 : decode cM_has 15 = .ok (.ifCond .ne 25, 3) := by decide +kernel
theorem dM_has_18 : decode cM_has 18 = .ok (.aload_n 0, 1) := by decide +kernel
theorem dM_has_19 : decode cM_has 19 = .ok (.getfield 22, 3) := by decide +kernel
theorem dM_has_22 : decode cM_has 22 = .ok (.iload 4, 2) := by decide +kernel
theorem dM_has_24 : decode cM_has 24 = .ok (.iaload, 1) := by decide +kernel
theorem dM_has_25 : decode cM_has 25 = .ok (.iload_n 1, 1) := by decide +kernel
theorem dM_has_26 : decode cM_has 26 = .ok (.if_icmp .ne 18, 3) := by decide +kernel
theorem dM_has_29 : decode cM_has 29 = .ok (.aload_n 0, 1) := by decide +kernel
theorem dM_has_30 : decode cM_has 30 = .ok (.getfield 28, 3) := by decide +kernel
theorem dM_has_33 : decode cM_has 33 = .ok (.iload 4, 2) := by decide +kernel
theorem dM_has_35 : decode cM_has 35 = .ok (.iaload, 1) := by decide +kernel
theorem dM_has_36 : decode cM_has 36 = .ok (.iload_n 2, 1) := by decide +kernel
theorem dM_has_37 : decode cM_has 37 = .ok (.if_icmp .ne 7, 3) := by decide +kernel
theorem dM_has_40 : decode cM_has 40 = .ok (.iconst 1, 1) := by decide +kernel
theorem dM_has_41 : decode cM_has 41 = .ok (.goto 4, 3) := by decide +kernel
theorem dM_has_44 : decode cM_has 44 = .ok (.iconst 0, 1) := by decide +kernel
theorem dM_has_45 : decode cM_has 45 = .ok (.istore_n 3, 1) := by decide +kernel
theorem dM_has_46 : decode cM_has 46 = .ok (.iinc 4 1, 3) := by decide +kernel
theorem dM_has_49 : decode cM_has 49 = .ok (.goto (-44), 3) := by decide +kernel
theorem dM_has_52 : decode cM_has 52 = .ok (.iload_n 3, 1) := by decide +kernel
theorem dM_has_53 : decode cM_has 53 = .ok (.ireturn, 1) := by decide +kernel
abbrev cM_readInit : ByteArray := prog_11_method_27_code
def yM_readInit : MethodName := ⟨"WordCheckerModel", "readInit", "(I)Z"⟩
theorem calM_readInit : CalV gT yM_readInit cM_readInit 5 (some .boolean) 1 := ⟨⟨gT_1 (i := 902) (by decide +kernel) rfl, gT_1 (i := 8) (by decide +kernel) rfl, by decide +kernel⟩, gT_1 (i := 901) (by decide +kernel) rfl, gT_s (q := (yM_readInit, 28)) (by decide +kernel)⟩
theorem dM_readInit_0 : decode cM_readInit 0 = .ok (.aload_n 0, 1) := by decide +kernel
theorem dM_readInit_1 : decode cM_readInit 1 = .ok (.invokevirtual 199, 3) := by decide +kernel
theorem dM_readInit_4 : decode cM_readInit 4 = .ok (.istore_n 2, 1) := by decide +kernel
theorem dM_readInit_5 : decode cM_readInit 5 = .ok (.aload_n 0, 1) := by decide +kernel
theorem dM_readInit_6 : decode cM_readInit 6 = .ok (.iload_n 2, 1) := by decide +kernel
theorem dM_readInit_7 : decode cM_readInit 7 = .ok (.ifCond .lt 7, 3) := by decide +kernel
theorem dM_readInit_10 : decode cM_readInit 10 = .ok (.iconst 1, 1) := by decide +kernel
theorem dM_readInit_11 : decode cM_readInit 11 = .ok (.goto 4, 3) := by decide +kernel
theorem dM_readInit_14 : decode cM_readInit 14 = .ok (.iconst 0, 1) := by decide +kernel
theorem dM_readInit_15 : decode cM_readInit 15 = .ok (.invokevirtual 184, 3) := by decide +kernel
theorem dM_readInit_18 : decode cM_readInit 18 = .ok (.ifCond .ne 5, 3) := by decide +kernel
theorem dM_readInit_21 : decode cM_readInit 21 = .ok (.iconst 0, 1) := by decide +kernel
theorem dM_readInit_22 : decode cM_readInit 22 = .ok (.ireturn, 1) := by decide +kernel
theorem dM_readInit_23 : decode cM_readInit 23 = .ok (.aload_n 0, 1) := by decide +kernel
theorem dM_readInit_24 : decode cM_readInit 24 = .ok (.invokevirtual 176, 3) := by decide +kernel
theorem dM_readInit_27 : decode cM_readInit 27 = .ok (.istore_n 3, 1) := by decide +kernel
theorem dM_readInit_28 : decode cM_readInit 28 = .ok (.aload_n 0, 1) := by decide +kernel
theorem dM_readInit_29 : decode cM_readInit 29 = .ok (.getfield 28, 3) := by decide +kernel
theorem dM_readInit_32 : decode cM_readInit 32 = .ok (.aload_n 0, 1) := by decide +kernel
theorem dM_readInit_33 : decode cM_readInit 33 = .ok (.getfield 155, 3) := by decide +kernel
theorem dM_readInit_36 : decode cM_readInit 36 = .ok (.iload_n 3, 1) := by decide +kernel
theorem dM_readInit_37 : decode cM_readInit 37 = .ok (.iastore, 1) := by decide +kernel
theorem dM_readInit_38 : decode cM_readInit 38 = .ok (.aload_n 0, 1) := by decide +kernel
theorem dM_readInit_39 : decode cM_readInit 39 = .ok (.iload_n 3, 1) := by decide +kernel
theorem dM_readInit_40 : decode cM_readInit 40 = .ok (.ifCond .lt 47, 3) := by decide +kernel
theorem dM_readInit_43 : decode cM_readInit 43 = .ok (.aload_n 0, 1) := by decide +kernel
theorem dM_readInit_44 : decode cM_readInit 44 = .ok (.getfield 168, 3) := by decide +kernel
theorem dM_readInit_47 : decode cM_readInit 47 = .ok (.ifCond .ne 40, 3) := by decide +kernel
theorem dM_readInit_50 : decode cM_readInit 50 = .ok (.aload_n 0, 1) := by decide +kernel
theorem dM_readInit_51 : decode cM_readInit 51 = .ok (.getfield 22, 3) := by decide +kernel
theorem dM_readInit_54 : decode cM_readInit 54 = .ok (.iload_n 3, 1) := by decide +kernel
theorem dM_readInit_55 : decode cM_readInit 55 = .ok (.iaload, 1) := by decide +kernel
theorem dM_readInit_56 : decode cM_readInit 56 = .ok (.iconst 2, 1) := by decide +kernel
theorem dM_readInit_57 : decode cM_readInit 57 = .ok (.if_icmp .ne 30, 3) := by decide +kernel
theorem dM_readInit_60 : decode cM_readInit 60 = .ok (.aload_n 0, 1) := by decide +kernel
theorem dM_readInit_61 : decode cM_readInit 61 = .ok (.aload_n 0, 1) := by decide +kernel
theorem dM_readInit_62 : decode cM_readInit 62 = .ok (.getfield 25, 3) := by decide +kernel
theorem dM_readInit_65 : decode cM_readInit 65 = .ok (.iload_n 3, 1) := by decide +kernel
theorem dM_readInit_66 : decode cM_readInit 66 = .ok (.iaload, 1) := by decide +kernel
theorem dM_readInit_67 : decode cM_readInit 67 = .ok (.iload_n 2, 1) := by decide +kernel
theorem dM_readInit_68 : decode cM_readInit 68 = .ok (.invokevirtual 180, 3) := by decide +kernel
theorem dM_readInit_71 : decode cM_readInit 71 = .ok (.ifCond .eq 16, 3) := by decide +kernel
theorem dM_readInit_74 : decode cM_readInit 74 = .ok (.aload_n 0, 1) := by decide +kernel
theorem dM_readInit_75 : decode cM_readInit 75 = .ok (.iload_n 1, 1) := by decide +kernel
theorem dM_readInit_76 : decode cM_readInit 76 = .ok (.iload_n 3, 1) := by decide +kernel
theorem dM_readInit_77 : decode cM_readInit 77 = .ok (.invokevirtual 211, 3) := by decide +kernel
theorem dM_readInit_80 : decode cM_readInit 80 = .ok (.ifCond .ne 7, 3) := by decide +kernel
theorem dM_readInit_83 : decode cM_readInit 83 = .ok (.iconst 1, 1) := by decide +kernel
theorem dM_readInit_84 : decode cM_readInit 84 = .ok (.goto 4, 3) := by decide +kernel
theorem dM_readInit_87 : decode cM_readInit 87 = .ok (.iconst 0, 1) := by decide +kernel
theorem dM_readInit_88 : decode cM_readInit 88 = .ok (.invokevirtual 184, 3) := by decide +kernel
theorem dM_readInit_91 : decode cM_readInit 91 = .ok (.ifCond .ne 5, 3) := by decide +kernel
theorem dM_readInit_94 : decode cM_readInit 94 = .ok (.iconst 0, 1) := by decide +kernel
theorem dM_readInit_95 : decode cM_readInit 95 = .ok (.ireturn, 1) := by decide +kernel
theorem dM_readInit_96 : decode cM_readInit 96 = .ok (.aload_n 0, 1) := by decide +kernel
theorem dM_readInit_97 : decode cM_readInit 97 = .ok (.invokevirtual 176, 3) := by decide +kernel
theorem dM_readInit_100 : decode cM_readInit 100 = .ok (.istore 4, 2) := by decide +kernel
theorem dM_readInit_102 : decode cM_readInit 102 = .ok (.aload_n 0, 1) := by decide +kernel
theorem dM_readInit_103 : decode cM_readInit 103 = .ok (.getfield 31, 3) := by decide +kernel
theorem dM_readInit_106 : decode cM_readInit 106 = .ok (.aload_n 0, 1) := by decide +kernel
theorem dM_readInit_107 : decode cM_readInit 107 = .ok (.getfield 155, 3) := by decide +kernel
theorem dM_readInit_110 : decode cM_readInit 110 = .ok (.iload 4, 2) := by decide +kernel
theorem dM_readInit_112 : decode cM_readInit 112 = .ok (.iastore, 1) := by decide +kernel
theorem dM_readInit_113 : decode cM_readInit 113 = .ok (.aload_n 0, 1) := by decide +kernel
theorem dM_readInit_114 : decode cM_readInit 114 = .ok (.getfield 41, 3) := by decide +kernel
theorem dM_readInit_117 : decode cM_readInit 117 = .ok (.aload_n 0, 1) := by decide +kernel
theorem dM_readInit_118 : decode cM_readInit 118 = .ok (.getfield 155, 3) := by decide +kernel
theorem dM_readInit_121 : decode cM_readInit 121 = .ok (.aload_n 0, 1) := by decide +kernel
theorem dM_readInit_122 : decode cM_readInit 122 = .ok (.getfield 168, 3) := by decide +kernel
theorem dM_readInit_125 : decode cM_readInit 125 = .ok (.bastore, 1) := by decide +kernel
theorem dM_readInit_126 : decode cM_readInit 126 = .ok (.aload_n 0, 1) := by decide +kernel
theorem dM_readInit_127 : decode cM_readInit 127 = .ok (.iload 4, 2) := by decide +kernel
theorem dM_readInit_129 : decode cM_readInit 129 = .ok (.ifCond .lt 37, 3) := by decide +kernel
theorem dM_readInit_132 : decode cM_readInit 132 = .ok (.aload_n 0, 1) := by decide +kernel
theorem dM_readInit_133 : decode cM_readInit 133 = .ok (.aload_n 0, 1) := by decide +kernel
theorem dM_readInit_134 : decode cM_readInit 134 = .ok (.getfield 25, 3) := by decide +kernel
theorem dM_readInit_137 : decode cM_readInit 137 = .ok (.iload 4, 2) := by decide +kernel
theorem dM_readInit_139 : decode cM_readInit 139 = .ok (.iaload, 1) := by decide +kernel
theorem dM_readInit_140 : decode cM_readInit 140 = .ok (.iload_n 2, 1) := by decide +kernel
theorem dM_readInit_141 : decode cM_readInit 141 = .ok (.invokevirtual 180, 3) := by decide +kernel
theorem dM_readInit_144 : decode cM_readInit 144 = .ok (.ifCond .eq 22, 3) := by decide +kernel
theorem dM_readInit_147 : decode cM_readInit 147 = .ok (.iload_n 1, 1) := by decide +kernel
theorem dM_readInit_148 : decode cM_readInit 148 = .ok (.bipush 28, 2) := by decide +kernel
theorem dM_readInit_150 : decode cM_readInit 150 = .ok (.if_icmp .eq 12, 3) := by decide +kernel
theorem dM_readInit_153 : decode cM_readInit 153 = .ok (.aload_n 0, 1) := by decide +kernel
theorem dM_readInit_154 : decode cM_readInit 154 = .ok (.iload 4, 2) := by decide +kernel
theorem dM_readInit_156 : decode cM_readInit 156 = .ok (.invokevirtual 214, 3) := by decide +kernel
theorem dM_readInit_159 : decode cM_readInit 159 = .ok (.ifCond .eq 7, 3) := by decide +kernel
theorem dM_readInit_162 : decode cM_readInit 162 = .ok (.iconst 1, 1) := by decide +kernel
theorem dM_readInit_163 : decode cM_readInit 163 = .ok (.goto 4, 3) := by decide +kernel
theorem dM_readInit_166 : decode cM_readInit 166 = .ok (.iconst 0, 1) := by decide +kernel
theorem dM_readInit_167 : decode cM_readInit 167 = .ok (.invokevirtual 184, 3) := by decide +kernel
theorem dM_readInit_170 : decode cM_readInit 170 = .ok (.ireturn, 1) := by decide +kernel
abbrev cM_readSlice : ByteArray := prog_11_method_28_code
def yM_readSlice : MethodName := ⟨"WordCheckerModel", "readSlice", "()Z"⟩
theorem calM_readSlice : CalV gT yM_readSlice cM_readSlice 2 (some .boolean) 0 := ⟨⟨gT_1 (i := 957) (by decide +kernel) rfl, gT_1 (i := 8) (by decide +kernel) rfl, by decide +kernel⟩, gT_1 (i := 956) (by decide +kernel) rfl, gT_s (q := (yM_readSlice, 28)) (by decide +kernel)⟩
theorem dM_readSlice_0 : decode cM_readSlice 0 = .ok (.aload_n 0, 1) := by decide +kernel
theorem dM_readSlice_1 : decode cM_readSlice 1 = .ok (.iconst 0, 1) := by decide +kernel
theorem dM_readSlice_2 : decode cM_readSlice 2 = .ok (.invokevirtual 217, 3) := by decide +kernel
theorem dM_readSlice_5 : decode cM_readSlice 5 = .ok (.ifCond .ne 5, 3) := by decide +kernel
theorem dM_readSlice_8 : decode cM_readSlice 8 = .ok (.iconst 0, 1) := by decide +kernel
theorem dM_readSlice_9 : decode cM_readSlice 9 = .ok (.ireturn, 1) := by decide +kernel
theorem dM_readSlice_10 : decode cM_readSlice 10 = .ok (.aload_n 0, 1) := by decide +kernel
theorem dM_readSlice_11 : decode cM_readSlice 11 = .ok (.aload_n 0, 1) := by decide +kernel
theorem dM_readSlice_12 : decode cM_readSlice 12 = .ok (.getfield 158, 3) := by decide +kernel
theorem dM_readSlice_15 : decode cM_readSlice 15 = .ok (.invokevirtual 161, 3) := by decide +kernel
theorem dM_readSlice_18 : decode cM_readSlice 18 = .ok (.istore_n 1, 1) := by decide +kernel
theorem dM_readSlice_19 : decode cM_readSlice 19 = .ok (.aload_n 0, 1) := by decide +kernel
theorem dM_readSlice_20 : decode cM_readSlice 20 = .ok (.getfield 47, 3) := by decide +kernel
theorem dM_readSlice_23 : decode cM_readSlice 23 = .ok (.aload_n 0, 1) := by decide +kernel
theorem dM_readSlice_24 : decode cM_readSlice 24 = .ok (.getfield 155, 3) := by decide +kernel
theorem dM_readSlice_27 : decode cM_readSlice 27 = .ok (.iload_n 1, 1) := by decide +kernel
theorem dM_readSlice_28 : decode cM_readSlice 28 = .ok (.iastore, 1) := by decide +kernel
theorem dM_readSlice_29 : decode cM_readSlice 29 = .ok (.aload_n 0, 1) := by decide +kernel
theorem dM_readSlice_30 : decode cM_readSlice 30 = .ok (.iload_n 1, 1) := by decide +kernel
theorem dM_readSlice_31 : decode cM_readSlice 31 = .ok (.ifCond .lt 30, 3) := by decide +kernel
theorem dM_readSlice_34 : decode cM_readSlice 34 = .ok (.iload_n 1, 1) := by decide +kernel
theorem dM_readSlice_35 : decode cM_readSlice 35 = .ok (.aload_n 0, 1) := by decide +kernel
theorem dM_readSlice_36 : decode cM_readSlice 36 = .ok (.getfield 56, 3) := by decide +kernel
theorem dM_readSlice_39 : decode cM_readSlice 39 = .ok (.aload_n 0, 1) := by decide +kernel
theorem dM_readSlice_40 : decode cM_readSlice 40 = .ok (.getfield 25, 3) := by decide +kernel
theorem dM_readSlice_43 : decode cM_readSlice 43 = .ok (.aload_n 0, 1) := by decide +kernel
theorem dM_readSlice_44 : decode cM_readSlice 44 = .ok (.getfield 28, 3) := by decide +kernel
theorem dM_readSlice_47 : decode cM_readSlice 47 = .ok (.aload_n 0, 1) := by decide +kernel
theorem dM_readSlice_48 : decode cM_readSlice 48 = .ok (.getfield 155, 3) := by decide +kernel
theorem dM_readSlice_51 : decode cM_readSlice 51 = .ok (.iaload, 1) := by decide +kernel
theorem dM_readSlice_52 : decode cM_readSlice 52 = .ok (.iaload, 1) := by decide +kernel
theorem dM_readSlice_53 : decode cM_readSlice 53 = .ok (.iaload, 1) := by decide +kernel
theorem dM_readSlice_54 : decode cM_readSlice 54 = .ok (.if_icmp .ge 7, 3) := by decide +kernel
theorem dM_readSlice_57 : decode cM_readSlice 57 = .ok (.iconst 1, 1) := by decide +kernel
theorem dM_readSlice_58 : decode cM_readSlice 58 = .ok (.goto 4, 3) := by decide +kernel
theorem dM_readSlice_61 : decode cM_readSlice 61 = .ok (.iconst 0, 1) := by decide +kernel
theorem dM_readSlice_62 : decode cM_readSlice 62 = .ok (.invokevirtual 184, 3) := by decide +kernel
theorem dM_readSlice_65 : decode cM_readSlice 65 = .ok (.ifCond .ne 5, 3) := by decide +kernel
theorem dM_readSlice_68 : decode cM_readSlice 68 = .ok (.iconst 0, 1) := by decide +kernel
theorem dM_readSlice_69 : decode cM_readSlice 69 = .ok (.ireturn, 1) := by decide +kernel
theorem dM_readSlice_70 : decode cM_readSlice 70 = .ok (.aload_n 0, 1) := by decide +kernel
theorem dM_readSlice_71 : decode cM_readSlice 71 = .ok (.aload_n 0, 1) := by decide +kernel
theorem dM_readSlice_72 : decode cM_readSlice 72 = .ok (.getfield 158, 3) := by decide +kernel
theorem dM_readSlice_75 : decode cM_readSlice 75 = .ok (.invokevirtual 161, 3) := by decide +kernel
theorem dM_readSlice_78 : decode cM_readSlice 78 = .ok (.istore_n 1, 1) := by decide +kernel
theorem dM_readSlice_79 : decode cM_readSlice 79 = .ok (.aload_n 0, 1) := by decide +kernel
theorem dM_readSlice_80 : decode cM_readSlice 80 = .ok (.getfield 50, 3) := by decide +kernel
theorem dM_readSlice_83 : decode cM_readSlice 83 = .ok (.aload_n 0, 1) := by decide +kernel
theorem dM_readSlice_84 : decode cM_readSlice 84 = .ok (.getfield 155, 3) := by decide +kernel
theorem dM_readSlice_87 : decode cM_readSlice 87 = .ok (.iload_n 1, 1) := by decide +kernel
theorem dM_readSlice_88 : decode cM_readSlice 88 = .ok (.iastore, 1) := by decide +kernel
theorem dM_readSlice_89 : decode cM_readSlice 89 = .ok (.aload_n 0, 1) := by decide +kernel
theorem dM_readSlice_90 : decode cM_readSlice 90 = .ok (.iload_n 1, 1) := by decide +kernel
theorem dM_readSlice_91 : decode cM_readSlice 91 = .ok (.ifCond .lt 37, 3) := by decide +kernel
theorem dM_readSlice_94 : decode cM_readSlice 94 = .ok (.aload_n 0, 1) := by decide +kernel
theorem dM_readSlice_95 : decode cM_readSlice 95 = .ok (.getfield 47, 3) := by decide +kernel
theorem dM_readSlice_98 : decode cM_readSlice 98 = .ok (.aload_n 0, 1) := by decide +kernel
theorem dM_readSlice_99 : decode cM_readSlice 99 = .ok (.getfield 155, 3) := by decide +kernel
theorem dM_readSlice_102 : decode cM_readSlice 102 = .ok (.iaload, 1) := by decide +kernel
theorem dM_readSlice_103 : decode cM_readSlice 103 = .ok (.iload_n 1, 1) := by decide +kernel
theorem dM_readSlice_104 : decode cM_readSlice 104 = .ok (.isub, 1) := by decide +kernel
theorem dM_readSlice_105 : decode cM_readSlice 105 = .ok (.iconst 1, 1) := by decide +kernel
theorem dM_readSlice_106 : decode cM_readSlice 106 = .ok (.iadd, 1) := by decide +kernel
theorem dM_readSlice_107 : decode cM_readSlice 107 = .ok (.aload_n 0, 1) := by decide +kernel
theorem dM_readSlice_108 : decode cM_readSlice 108 = .ok (.getfield 56, 3) := by decide +kernel
theorem dM_readSlice_111 : decode cM_readSlice 111 = .ok (.aload_n 0, 1) := by decide +kernel
theorem dM_readSlice_112 : decode cM_readSlice 112 = .ok (.getfield 25, 3) := by decide +kernel
theorem dM_readSlice_115 : decode cM_readSlice 115 = .ok (.aload_n 0, 1) := by decide +kernel
theorem dM_readSlice_116 : decode cM_readSlice 116 = .ok (.getfield 155, 3) := by decide +kernel
theorem dM_readSlice_119 : decode cM_readSlice 119 = .ok (.iaload, 1) := by decide +kernel
theorem dM_readSlice_120 : decode cM_readSlice 120 = .ok (.iaload, 1) := by decide +kernel
theorem dM_readSlice_121 : decode cM_readSlice 121 = .ok (.if_icmp .ne 7, 3) := by decide +kernel
theorem dM_readSlice_124 : decode cM_readSlice 124 = .ok (.iconst 1, 1) := by decide +kernel
theorem dM_readSlice_125 : decode cM_readSlice 125 = .ok (.goto 4, 3) := by decide +kernel
theorem dM_readSlice_128 : decode cM_readSlice 128 = .ok (.iconst 0, 1) := by decide +kernel
theorem dM_readSlice_129 : decode cM_readSlice 129 = .ok (.invokevirtual 184, 3) := by decide +kernel
theorem dM_readSlice_132 : decode cM_readSlice 132 = .ok (.ireturn, 1) := by decide +kernel
abbrev cM_readExtended : ByteArray := prog_11_method_29_code
def yM_readExtended : MethodName := ⟨"WordCheckerModel", "readExtended", "()Z"⟩
theorem calM_readExtended : CalV gT yM_readExtended cM_readExtended 2 (some .boolean) 0 := ⟨⟨gT_1 (i := 961) (by decide +kernel) rfl, gT_1 (i := 8) (by decide +kernel) rfl, by decide +kernel⟩, gT_1 (i := 960) (by decide +kernel) rfl, gT_s (q := (yM_readExtended, 28)) (by decide +kernel)⟩
theorem dM_readExtended_0 : decode cM_readExtended 0 = .ok (.aload_n 0, 1) := by decide +kernel
theorem dM_readExtended_1 : decode cM_readExtended 1 = .ok (.iconst 0, 1) := by decide +kernel
theorem dM_readExtended_2 : decode cM_readExtended 2 = .ok (.invokevirtual 217, 3) := by decide +kernel
theorem dM_readExtended_5 : decode cM_readExtended 5 = .ok (.ifCond .ne 5, 3) := by decide +kernel
theorem dM_readExtended_8 : decode cM_readExtended 8 = .ok (.iconst 0, 1) := by decide +kernel
theorem dM_readExtended_9 : decode cM_readExtended 9 = .ok (.ireturn, 1) := by decide +kernel
theorem dM_readExtended_10 : decode cM_readExtended 10 = .ok (.aload_n 0, 1) := by decide +kernel
theorem dM_readExtended_11 : decode cM_readExtended 11 = .ok (.aload_n 0, 1) := by decide +kernel
theorem dM_readExtended_12 : decode cM_readExtended 12 = .ok (.getfield 158, 3) := by decide +kernel
theorem dM_readExtended_15 : decode cM_readExtended 15 = .ok (.invokevirtual 161, 3) := by decide +kernel
theorem dM_readExtended_18 : decode cM_readExtended 18 = .ok (.istore_n 1, 1) := by decide +kernel
theorem dM_readExtended_19 : decode cM_readExtended 19 = .ok (.aload_n 0, 1) := by decide +kernel
theorem dM_readExtended_20 : decode cM_readExtended 20 = .ok (.iload_n 1, 1) := by decide +kernel
theorem dM_readExtended_21 : decode cM_readExtended 21 = .ok (.ifCond .lt 45, 3) := by decide +kernel
theorem dM_readExtended_24 : decode cM_readExtended 24 = .ok (.aload_n 0, 1) := by decide +kernel
theorem dM_readExtended_25 : decode cM_readExtended 25 = .ok (.getfield 56, 3) := by decide +kernel
theorem dM_readExtended_28 : decode cM_readExtended 28 = .ok (.aload_n 0, 1) := by decide +kernel
theorem dM_readExtended_29 : decode cM_readExtended 29 = .ok (.getfield 25, 3) := by decide +kernel
theorem dM_readExtended_32 : decode cM_readExtended 32 = .ok (.aload_n 0, 1) := by decide +kernel
theorem dM_readExtended_33 : decode cM_readExtended 33 = .ok (.getfield 28, 3) := by decide +kernel
theorem dM_readExtended_36 : decode cM_readExtended 36 = .ok (.aload_n 0, 1) := by decide +kernel
theorem dM_readExtended_37 : decode cM_readExtended 37 = .ok (.getfield 155, 3) := by decide +kernel
theorem dM_readExtended_40 : decode cM_readExtended 40 = .ok (.iaload, 1) := by decide +kernel
theorem dM_readExtended_41 : decode cM_readExtended 41 = .ok (.iaload, 1) := by decide +kernel
theorem dM_readExtended_42 : decode cM_readExtended 42 = .ok (.iaload, 1) := by decide +kernel
theorem dM_readExtended_43 : decode cM_readExtended 43 = .ok (.iload_n 1, 1) := by decide +kernel
theorem dM_readExtended_44 : decode cM_readExtended 44 = .ok (.iadd, 1) := by decide +kernel
theorem dM_readExtended_45 : decode cM_readExtended 45 = .ok (.aload_n 0, 1) := by decide +kernel
theorem dM_readExtended_46 : decode cM_readExtended 46 = .ok (.getfield 56, 3) := by decide +kernel
theorem dM_readExtended_49 : decode cM_readExtended 49 = .ok (.aload_n 0, 1) := by decide +kernel
theorem dM_readExtended_50 : decode cM_readExtended 50 = .ok (.getfield 25, 3) := by decide +kernel
theorem dM_readExtended_53 : decode cM_readExtended 53 = .ok (.aload_n 0, 1) := by decide +kernel
theorem dM_readExtended_54 : decode cM_readExtended 54 = .ok (.getfield 155, 3) := by decide +kernel
theorem dM_readExtended_57 : decode cM_readExtended 57 = .ok (.iaload, 1) := by decide +kernel
theorem dM_readExtended_58 : decode cM_readExtended 58 = .ok (.iaload, 1) := by decide +kernel
theorem dM_readExtended_59 : decode cM_readExtended 59 = .ok (.if_icmp .ne 7, 3) := by decide +kernel
theorem dM_readExtended_62 : decode cM_readExtended 62 = .ok (.iconst 1, 1) := by decide +kernel
theorem dM_readExtended_63 : decode cM_readExtended 63 = .ok (.goto 4, 3) := by decide +kernel
theorem dM_readExtended_66 : decode cM_readExtended 66 = .ok (.iconst 0, 1) := by decide +kernel
theorem dM_readExtended_67 : decode cM_readExtended 67 = .ok (.invokevirtual 184, 3) := by decide +kernel
theorem dM_readExtended_70 : decode cM_readExtended 70 = .ok (.ireturn, 1) := by decide +kernel
abbrev cM_readConcat : ByteArray := prog_11_method_30_code
def yM_readConcat : MethodName := ⟨"WordCheckerModel", "readConcat", "()Z"⟩
theorem calM_readConcat : CalV gT yM_readConcat cM_readConcat 3 (some .boolean) 0 := ⟨⟨gT_1 (i := 949) (by decide +kernel) rfl, gT_1 (i := 8) (by decide +kernel) rfl, by decide +kernel⟩, gT_1 (i := 948) (by decide +kernel) rfl, gT_s (q := (yM_readConcat, 28)) (by decide +kernel)⟩
theorem dM_readConcat_0 : decode cM_readConcat 0 = .ok (.aload_n 0, 1) := by decide +kernel
theorem dM_readConcat_1 : decode cM_readConcat 1 = .ok (.invokevirtual 176, 3) := by decide +kernel
theorem dM_readConcat_4 : decode cM_readConcat 4 = .ok (.istore_n 1, 1) := by decide +kernel
theorem dM_readConcat_5 : decode cM_readConcat 5 = .ok (.aload_n 0, 1) := by decide +kernel
theorem dM_readConcat_6 : decode cM_readConcat 6 = .ok (.getfield 28, 3) := by decide +kernel
theorem dM_readConcat_9 : decode cM_readConcat 9 = .ok (.aload_n 0, 1) := by decide +kernel
theorem dM_readConcat_10 : decode cM_readConcat 10 = .ok (.getfield 155, 3) := by decide +kernel
theorem dM_readConcat_13 : decode cM_readConcat 13 = .ok (.iload_n 1, 1) := by decide +kernel
theorem dM_readConcat_14 : decode cM_readConcat 14 = .ok (.iastore, 1) := by decide +kernel
theorem dM_readConcat_15 : decode cM_readConcat 15 = .ok (.aload_n 0, 1) := by decide +kernel
theorem dM_readConcat_16 : decode cM_readConcat 16 = .ok (.getfield 37, 3) := by decide +kernel
theorem dM_readConcat_19 : decode cM_readConcat 19 = .ok (.aload_n 0, 1) := by decide +kernel
theorem dM_readConcat_20 : decode cM_readConcat 20 = .ok (.getfield 155, 3) := by decide +kernel
theorem dM_readConcat_23 : decode cM_readConcat 23 = .ok (.aload_n 0, 1) := by decide +kernel
theorem dM_readConcat_24 : decode cM_readConcat 24 = .ok (.getfield 168, 3) := by decide +kernel
theorem dM_readConcat_27 : decode cM_readConcat 27 = .ok (.bastore, 1) := by decide +kernel
theorem dM_readConcat_28 : decode cM_readConcat 28 = .ok (.aload_n 0, 1) := by decide +kernel
theorem dM_readConcat_29 : decode cM_readConcat 29 = .ok (.getfield 56, 3) := by decide +kernel
theorem dM_readConcat_32 : decode cM_readConcat 32 = .ok (.aload_n 0, 1) := by decide +kernel
theorem dM_readConcat_33 : decode cM_readConcat 33 = .ok (.getfield 25, 3) := by decide +kernel
theorem dM_readConcat_36 : decode cM_readConcat 36 = .ok (.aload_n 0, 1) := by decide +kernel
theorem dM_readConcat_37 : decode cM_readConcat 37 = .ok (.getfield 155, 3) := by decide +kernel
theorem dM_readConcat_40 : decode cM_readConcat 40 = .ok (.iaload, 1) := by decide +kernel
theorem dM_readConcat_41 : decode cM_readConcat 41 = .ok (.iaload, 1) := by decide +kernel
theorem dM_readConcat_42 : decode cM_readConcat 42 = .ok (.istore_n 2, 1) := by decide +kernel
theorem dM_readConcat_43 : decode cM_readConcat 43 = .ok (.aload_n 0, 1) := by decide +kernel
theorem dM_readConcat_44 : decode cM_readConcat 44 = .ok (.iload_n 1, 1) := by decide +kernel
theorem dM_readConcat_45 : decode cM_readConcat 45 = .ok (.ifCond .lt 35, 3) := by decide +kernel
theorem dM_readConcat_48 : decode cM_readConcat 48 = .ok (.aload_n 0, 1) := by decide +kernel
theorem dM_readConcat_49 : decode cM_readConcat 49 = .ok (.aload_n 0, 1) := by decide +kernel
theorem dM_readConcat_50 : decode cM_readConcat 50 = .ok (.getfield 25, 3) := by decide +kernel
theorem dM_readConcat_53 : decode cM_readConcat 53 = .ok (.iload_n 1, 1) := by decide +kernel
theorem dM_readConcat_54 : decode cM_readConcat 54 = .ok (.iaload, 1) := by decide +kernel
theorem dM_readConcat_55 : decode cM_readConcat 55 = .ok (.invokevirtual 188, 3) := by decide +kernel
theorem dM_readConcat_58 : decode cM_readConcat 58 = .ok (.ifCond .eq 22, 3) := by decide +kernel
theorem dM_readConcat_61 : decode cM_readConcat 61 = .ok (.aload_n 0, 1) := by decide +kernel
theorem dM_readConcat_62 : decode cM_readConcat 62 = .ok (.getfield 56, 3) := by decide +kernel
theorem dM_readConcat_65 : decode cM_readConcat 65 = .ok (.aload_n 0, 1) := by decide +kernel
theorem dM_readConcat_66 : decode cM_readConcat 66 = .ok (.getfield 25, 3) := by decide +kernel
theorem dM_readConcat_69 : decode cM_readConcat 69 = .ok (.iload_n 1, 1) := by decide +kernel
theorem dM_readConcat_70 : decode cM_readConcat 70 = .ok (.iaload, 1) := by decide +kernel
theorem dM_readConcat_71 : decode cM_readConcat 71 = .ok (.iaload, 1) := by decide +kernel
theorem dM_readConcat_72 : decode cM_readConcat 72 = .ok (.iload_n 2, 1) := by decide +kernel
theorem dM_readConcat_73 : decode cM_readConcat 73 = .ok (.if_icmp .ge 7, 3) := by decide +kernel
theorem dM_readConcat_76 : decode cM_readConcat 76 = .ok (.iconst 1, 1) := by decide +kernel
theorem dM_readConcat_77 : decode cM_readConcat 77 = .ok (.goto 4, 3) := by decide +kernel
theorem dM_readConcat_80 : decode cM_readConcat 80 = .ok (.iconst 0, 1) := by decide +kernel
theorem dM_readConcat_81 : decode cM_readConcat 81 = .ok (.invokevirtual 184, 3) := by decide +kernel
theorem dM_readConcat_84 : decode cM_readConcat 84 = .ok (.ifCond .ne 5, 3) := by decide +kernel
theorem dM_readConcat_87 : decode cM_readConcat 87 = .ok (.iconst 0, 1) := by decide +kernel
theorem dM_readConcat_88 : decode cM_readConcat 88 = .ok (.ireturn, 1) := by decide +kernel
theorem dM_readConcat_89 : decode cM_readConcat 89 = .ok (.aload_n 0, 1) := by decide +kernel
theorem dM_readConcat_90 : decode cM_readConcat 90 = .ok (.iload_n 2, 1) := by decide +kernel
theorem dM_readConcat_91 : decode cM_readConcat 91 = .ok (.aload_n 0, 1) := by decide +kernel
theorem dM_readConcat_92 : decode cM_readConcat 92 = .ok (.getfield 56, 3) := by decide +kernel
theorem dM_readConcat_95 : decode cM_readConcat 95 = .ok (.aload_n 0, 1) := by decide +kernel
theorem dM_readConcat_96 : decode cM_readConcat 96 = .ok (.getfield 25, 3) := by decide +kernel
theorem dM_readConcat_99 : decode cM_readConcat 99 = .ok (.aload_n 0, 1) := by decide +kernel
theorem dM_readConcat_100 : decode cM_readConcat 100 = .ok (.getfield 28, 3) := by decide +kernel
theorem dM_readConcat_103 : decode cM_readConcat 103 = .ok (.aload_n 0, 1) := by decide +kernel
theorem dM_readConcat_104 : decode cM_readConcat 104 = .ok (.getfield 155, 3) := by decide +kernel
theorem dM_readConcat_107 : decode cM_readConcat 107 = .ok (.iaload, 1) := by decide +kernel
theorem dM_readConcat_108 : decode cM_readConcat 108 = .ok (.iaload, 1) := by decide +kernel
theorem dM_readConcat_109 : decode cM_readConcat 109 = .ok (.iaload, 1) := by decide +kernel
theorem dM_readConcat_110 : decode cM_readConcat 110 = .ok (.isub, 1) := by decide +kernel
theorem dM_readConcat_111 : decode cM_readConcat 111 = .ok (.invokevirtual 220, 3) := by decide +kernel
theorem dM_readConcat_114 : decode cM_readConcat 114 = .ok (.ireturn, 1) := by decide +kernel
abbrev cM_readIte : ByteArray := prog_11_method_31_code
def yM_readIte : MethodName := ⟨"WordCheckerModel", "readIte", "(I)Z"⟩
theorem calM_readIte : CalV gT yM_readIte cM_readIte 3 (some .boolean) 1 := ⟨⟨gT_1 (i := 965) (by decide +kernel) rfl, gT_1 (i := 8) (by decide +kernel) rfl, by decide +kernel⟩, gT_1 (i := 964) (by decide +kernel) rfl, gT_s (q := (yM_readIte, 28)) (by decide +kernel)⟩
theorem dM_readIte_0 : decode cM_readIte 0 = .ok (.aload_n 0, 1) := by decide +kernel
theorem dM_readIte_1 : decode cM_readIte 1 = .ok (.invokevirtual 176, 3) := by decide +kernel
theorem dM_readIte_4 : decode cM_readIte 4 = .ok (.istore_n 2, 1) := by decide +kernel
theorem dM_readIte_5 : decode cM_readIte 5 = .ok (.aload_n 0, 1) := by decide +kernel
theorem dM_readIte_6 : decode cM_readIte 6 = .ok (.getfield 34, 3) := by decide +kernel
theorem dM_readIte_9 : decode cM_readIte 9 = .ok (.aload_n 0, 1) := by decide +kernel
theorem dM_readIte_10 : decode cM_readIte 10 = .ok (.getfield 155, 3) := by decide +kernel
theorem dM_readIte_13 : decode cM_readIte 13 = .ok (.iload_n 2, 1) := by decide +kernel
theorem dM_readIte_14 : decode cM_readIte 14 = .ok (.iastore, 1) := by decide +kernel
theorem dM_readIte_15 : decode cM_readIte 15 = .ok (.aload_n 0, 1) := by decide +kernel
theorem dM_readIte_16 : decode cM_readIte 16 = .ok (.getfield 44, 3) := by decide +kernel
theorem dM_readIte_19 : decode cM_readIte 19 = .ok (.aload_n 0, 1) := by decide +kernel
theorem dM_readIte_20 : decode cM_readIte 20 = .ok (.getfield 155, 3) := by decide +kernel
theorem dM_readIte_23 : decode cM_readIte 23 = .ok (.aload_n 0, 1) := by decide +kernel
theorem dM_readIte_24 : decode cM_readIte 24 = .ok (.getfield 168, 3) := by decide +kernel
theorem dM_readIte_27 : decode cM_readIte 27 = .ok (.bastore, 1) := by decide +kernel
theorem dM_readIte_28 : decode cM_readIte 28 = .ok (.aload_n 0, 1) := by decide +kernel
theorem dM_readIte_29 : decode cM_readIte 29 = .ok (.iload_n 2, 1) := by decide +kernel
theorem dM_readIte_30 : decode cM_readIte 30 = .ok (.ifCond .lt 35, 3) := by decide +kernel
theorem dM_readIte_33 : decode cM_readIte 33 = .ok (.aload_n 0, 1) := by decide +kernel
theorem dM_readIte_34 : decode cM_readIte 34 = .ok (.aload_n 0, 1) := by decide +kernel
theorem dM_readIte_35 : decode cM_readIte 35 = .ok (.getfield 25, 3) := by decide +kernel
theorem dM_readIte_38 : decode cM_readIte 38 = .ok (.iload_n 2, 1) := by decide +kernel
theorem dM_readIte_39 : decode cM_readIte 39 = .ok (.iaload, 1) := by decide +kernel
theorem dM_readIte_40 : decode cM_readIte 40 = .ok (.invokevirtual 188, 3) := by decide +kernel
theorem dM_readIte_43 : decode cM_readIte 43 = .ok (.ifCond .eq 22, 3) := by decide +kernel
theorem dM_readIte_46 : decode cM_readIte 46 = .ok (.aload_n 0, 1) := by decide +kernel
theorem dM_readIte_47 : decode cM_readIte 47 = .ok (.getfield 56, 3) := by decide +kernel
theorem dM_readIte_50 : decode cM_readIte 50 = .ok (.aload_n 0, 1) := by decide +kernel
theorem dM_readIte_51 : decode cM_readIte 51 = .ok (.getfield 25, 3) := by decide +kernel
theorem dM_readIte_54 : decode cM_readIte 54 = .ok (.iload_n 2, 1) := by decide +kernel
theorem dM_readIte_55 : decode cM_readIte 55 = .ok (.iaload, 1) := by decide +kernel
theorem dM_readIte_56 : decode cM_readIte 56 = .ok (.iaload, 1) := by decide +kernel
theorem dM_readIte_57 : decode cM_readIte 57 = .ok (.iconst 1, 1) := by decide +kernel
theorem dM_readIte_58 : decode cM_readIte 58 = .ok (.if_icmp .ne 7, 3) := by decide +kernel
theorem dM_readIte_61 : decode cM_readIte 61 = .ok (.iconst 1, 1) := by decide +kernel
theorem dM_readIte_62 : decode cM_readIte 62 = .ok (.goto 4, 3) := by decide +kernel
theorem dM_readIte_65 : decode cM_readIte 65 = .ok (.iconst 0, 1) := by decide +kernel
theorem dM_readIte_66 : decode cM_readIte 66 = .ok (.invokevirtual 184, 3) := by decide +kernel
theorem dM_readIte_69 : decode cM_readIte 69 = .ok (.ifCond .eq 24, 3) := by decide +kernel
theorem dM_readIte_72 : decode cM_readIte 72 = .ok (.aload_n 0, 1) := by decide +kernel
theorem dM_readIte_73 : decode cM_readIte 73 = .ok (.iconst 0, 1) := by decide +kernel
theorem dM_readIte_74 : decode cM_readIte 74 = .ok (.iload_n 1, 1) := by decide +kernel
theorem dM_readIte_75 : decode cM_readIte 75 = .ok (.invokevirtual 223, 3) := by decide +kernel
theorem dM_readIte_78 : decode cM_readIte 78 = .ok (.ifCond .eq 15, 3) := by decide +kernel
theorem dM_readIte_81 : decode cM_readIte 81 = .ok (.aload_n 0, 1) := by decide +kernel
theorem dM_readIte_82 : decode cM_readIte 82 = .ok (.iload_n 1, 1) := by decide +kernel
theorem dM_readIte_83 : decode cM_readIte 83 = .ok (.invokevirtual 227, 3) := by decide +kernel
theorem dM_readIte_86 : decode cM_readIte 86 = .ok (.ifCond .eq 7, 3) := by decide +kernel
theorem dM_readIte_89 : decode cM_readIte 89 = .ok (.iconst 1, 1) := by decide +kernel
theorem dM_readIte_90 : decode cM_readIte 90 = .ok (.goto 4, 3) := by decide +kernel
theorem dM_readIte_93 : decode cM_readIte 93 = .ok (.iconst 0, 1) := by decide +kernel
theorem dM_readIte_94 : decode cM_readIte 94 = .ok (.ireturn, 1) := by decide +kernel
abbrev cM_readPlace : ByteArray := prog_11_method_32_code
def yM_readPlace : MethodName := ⟨"WordCheckerModel", "readPlace", "(II)Z"⟩
theorem calM_readPlace : CalV gT yM_readPlace cM_readPlace 5 (some .boolean) 2 := ⟨⟨gT_1 (i := 969) (by decide +kernel) rfl, gT_1 (i := 8) (by decide +kernel) rfl, by decide +kernel⟩, gT_1 (i := 968) (by decide +kernel) rfl, gT_s (q := (yM_readPlace, 28)) (by decide +kernel)⟩
theorem dM_readPlace_0 : decode cM_readPlace 0 = .ok (.aload_n 0, 1) := by decide +kernel
theorem dM_readPlace_1 : decode cM_readPlace 1 = .ok (.invokevirtual 176, 3) := by decide +kernel
theorem dM_readPlace_4 : decode cM_readPlace 4 = .ok (.istore_n 3, 1) := by decide +kernel
theorem dM_readPlace_5 : decode cM_readPlace 5 = .ok (.aload_n 0, 1) := by decide +kernel
theorem dM_readPlace_6 : decode cM_readPlace 6 = .ok (.getfield 28, 3) := by decide +kernel
theorem dM_readPlace_9 : decode cM_readPlace 9 = .ok (.aload_n 0, 1) := by decide +kernel
theorem dM_readPlace_10 : decode cM_readPlace 10 = .ok (.getfield 155, 3) := by decide +kernel
theorem dM_readPlace_13 : decode cM_readPlace 13 = .ok (.iload_n 3, 1) := by decide +kernel
theorem dM_readPlace_14 : decode cM_readPlace 14 = .ok (.iastore, 1) := by decide +kernel
theorem dM_readPlace_15 : decode cM_readPlace 15 = .ok (.aload_n 0, 1) := by decide +kernel
theorem dM_readPlace_16 : decode cM_readPlace 16 = .ok (.getfield 37, 3) := by decide +kernel
theorem dM_readPlace_19 : decode cM_readPlace 19 = .ok (.aload_n 0, 1) := by decide +kernel
theorem dM_readPlace_20 : decode cM_readPlace 20 = .ok (.getfield 155, 3) := by decide +kernel
theorem dM_readPlace_23 : decode cM_readPlace 23 = .ok (.iconst 0, 1) := by decide +kernel
theorem dM_readPlace_24 : decode cM_readPlace 24 = .ok (.bastore, 1) := by decide +kernel
theorem dM_readPlace_25 : decode cM_readPlace 25 = .ok (.iload_n 3, 1) := by decide +kernel
theorem dM_readPlace_26 : decode cM_readPlace 26 = .ok (.ifCond .lt 41, 3) := by decide +kernel
theorem dM_readPlace_29 : decode cM_readPlace 29 = .ok (.aload_n 0, 1) := by decide +kernel
theorem dM_readPlace_30 : decode cM_readPlace 30 = .ok (.getfield 53, 3) := by decide +kernel
theorem dM_readPlace_33 : decode cM_readPlace 33 = .ok (.aload_n 0, 1) := by decide +kernel
theorem dM_readPlace_34 : decode cM_readPlace 34 = .ok (.getfield 25, 3) := by decide +kernel
theorem dM_readPlace_37 : decode cM_readPlace 37 = .ok (.iload_n 3, 1) := by decide +kernel
theorem dM_readPlace_38 : decode cM_readPlace 38 = .ok (.iaload, 1) := by decide +kernel
theorem dM_readPlace_39 : decode cM_readPlace 39 = .ok (.baload, 1) := by decide +kernel
theorem dM_readPlace_40 : decode cM_readPlace 40 = .ok (.ifCond .eq 27, 3) := by decide +kernel
theorem dM_readPlace_43 : decode cM_readPlace 43 = .ok (.aload_n 0, 1) := by decide +kernel
theorem dM_readPlace_44 : decode cM_readPlace 44 = .ok (.getfield 56, 3) := by decide +kernel
theorem dM_readPlace_47 : decode cM_readPlace 47 = .ok (.aload_n 0, 1) := by decide +kernel
theorem dM_readPlace_48 : decode cM_readPlace 48 = .ok (.getfield 25, 3) := by decide +kernel
theorem dM_readPlace_51 : decode cM_readPlace 51 = .ok (.iload_n 3, 1) := by decide +kernel
theorem dM_readPlace_52 : decode cM_readPlace 52 = .ok (.iaload, 1) := by decide +kernel
theorem dM_readPlace_53 : decode cM_readPlace 53 = .ok (.iaload, 1) := by decide +kernel
theorem dM_readPlace_54 : decode cM_readPlace 54 = .ok (.aload_n 0, 1) := by decide +kernel
theorem dM_readPlace_55 : decode cM_readPlace 55 = .ok (.getfield 56, 3) := by decide +kernel
theorem dM_readPlace_58 : decode cM_readPlace 58 = .ok (.iload_n 2, 1) := by decide +kernel
theorem dM_readPlace_59 : decode cM_readPlace 59 = .ok (.iaload, 1) := by decide +kernel
theorem dM_readPlace_60 : decode cM_readPlace 60 = .ok (.if_icmp .ne 7, 3) := by decide +kernel
theorem dM_readPlace_63 : decode cM_readPlace 63 = .ok (.iconst 1, 1) := by decide +kernel
theorem dM_readPlace_64 : decode cM_readPlace 64 = .ok (.goto 4, 3) := by decide +kernel
theorem dM_readPlace_67 : decode cM_readPlace 67 = .ok (.iconst 0, 1) := by decide +kernel
theorem dM_readPlace_68 : decode cM_readPlace 68 = .ok (.istore 4, 2) := by decide +kernel
theorem dM_readPlace_70 : decode cM_readPlace 70 = .ok (.aload_n 0, 1) := by decide +kernel
theorem dM_readPlace_71 : decode cM_readPlace 71 = .ok (.iload 4, 2) := by decide +kernel
theorem dM_readPlace_73 : decode cM_readPlace 73 = .ok (.invokevirtual 184, 3) := by decide +kernel
theorem dM_readPlace_76 : decode cM_readPlace 76 = .ok (.ifCond .eq 11, 3) := by decide +kernel
theorem dM_readPlace_79 : decode cM_readPlace 79 = .ok (.aload_n 0, 1) := by decide +kernel
theorem dM_readPlace_80 : decode cM_readPlace 80 = .ok (.iconst 1, 1) := by decide +kernel
theorem dM_readPlace_81 : decode cM_readPlace 81 = .ok (.invokevirtual 220, 3) := by decide +kernel
theorem dM_readPlace_84 : decode cM_readPlace 84 = .ok (.ifCond .ne 5, 3) := by decide +kernel
theorem dM_readPlace_87 : decode cM_readPlace 87 = .ok (.iconst 0, 1) := by decide +kernel
theorem dM_readPlace_88 : decode cM_readPlace 88 = .ok (.ireturn, 1) := by decide +kernel
theorem dM_readPlace_89 : decode cM_readPlace 89 = .ok (.iload_n 1, 1) := by decide +kernel
theorem dM_readPlace_90 : decode cM_readPlace 90 = .ok (.bipush 25, 2) := by decide +kernel
theorem dM_readPlace_92 : decode cM_readPlace 92 = .ok (.if_icmp .ne 5, 3) := by decide +kernel
theorem dM_readPlace_95 : decode cM_readPlace 95 = .ok (.iconst 1, 1) := by decide +kernel
theorem dM_readPlace_96 : decode cM_readPlace 96 = .ok (.ireturn, 1) := by decide +kernel
theorem dM_readPlace_97 : decode cM_readPlace 97 = .ok (.aload_n 0, 1) := by decide +kernel
theorem dM_readPlace_98 : decode cM_readPlace 98 = .ok (.invokevirtual 176, 3) := by decide +kernel
theorem dM_readPlace_101 : decode cM_readPlace 101 = .ok (.istore_n 3, 1) := by decide +kernel
theorem dM_readPlace_102 : decode cM_readPlace 102 = .ok (.aload_n 0, 1) := by decide +kernel
theorem dM_readPlace_103 : decode cM_readPlace 103 = .ok (.getfield 34, 3) := by decide +kernel
theorem dM_readPlace_106 : decode cM_readPlace 106 = .ok (.aload_n 0, 1) := by decide +kernel
theorem dM_readPlace_107 : decode cM_readPlace 107 = .ok (.getfield 155, 3) := by decide +kernel
theorem dM_readPlace_110 : decode cM_readPlace 110 = .ok (.iload_n 3, 1) := by decide +kernel
theorem dM_readPlace_111 : decode cM_readPlace 111 = .ok (.iastore, 1) := by decide +kernel
theorem dM_readPlace_112 : decode cM_readPlace 112 = .ok (.aload_n 0, 1) := by decide +kernel
theorem dM_readPlace_113 : decode cM_readPlace 113 = .ok (.getfield 44, 3) := by decide +kernel
theorem dM_readPlace_116 : decode cM_readPlace 116 = .ok (.aload_n 0, 1) := by decide +kernel
theorem dM_readPlace_117 : decode cM_readPlace 117 = .ok (.getfield 155, 3) := by decide +kernel
theorem dM_readPlace_120 : decode cM_readPlace 120 = .ok (.aload_n 0, 1) := by decide +kernel
theorem dM_readPlace_121 : decode cM_readPlace 121 = .ok (.getfield 168, 3) := by decide +kernel
theorem dM_readPlace_124 : decode cM_readPlace 124 = .ok (.bastore, 1) := by decide +kernel
theorem dM_readPlace_125 : decode cM_readPlace 125 = .ok (.aload_n 0, 1) := by decide +kernel
theorem dM_readPlace_126 : decode cM_readPlace 126 = .ok (.iload_n 3, 1) := by decide +kernel
theorem dM_readPlace_127 : decode cM_readPlace 127 = .ok (.ifCond .lt 40, 3) := by decide +kernel
theorem dM_readPlace_130 : decode cM_readPlace 130 = .ok (.aload_n 0, 1) := by decide +kernel
theorem dM_readPlace_131 : decode cM_readPlace 131 = .ok (.aload_n 0, 1) := by decide +kernel
theorem dM_readPlace_132 : decode cM_readPlace 132 = .ok (.getfield 25, 3) := by decide +kernel
theorem dM_readPlace_135 : decode cM_readPlace 135 = .ok (.iload_n 3, 1) := by decide +kernel
theorem dM_readPlace_136 : decode cM_readPlace 136 = .ok (.iaload, 1) := by decide +kernel
theorem dM_readPlace_137 : decode cM_readPlace 137 = .ok (.invokevirtual 188, 3) := by decide +kernel
theorem dM_readPlace_140 : decode cM_readPlace 140 = .ok (.ifCond .eq 27, 3) := by decide +kernel
theorem dM_readPlace_143 : decode cM_readPlace 143 = .ok (.aload_n 0, 1) := by decide +kernel
theorem dM_readPlace_144 : decode cM_readPlace 144 = .ok (.getfield 56, 3) := by decide +kernel
theorem dM_readPlace_147 : decode cM_readPlace 147 = .ok (.aload_n 0, 1) := by decide +kernel
theorem dM_readPlace_148 : decode cM_readPlace 148 = .ok (.getfield 25, 3) := by decide +kernel
theorem dM_readPlace_151 : decode cM_readPlace 151 = .ok (.iload_n 3, 1) := by decide +kernel
theorem dM_readPlace_152 : decode cM_readPlace 152 = .ok (.iaload, 1) := by decide +kernel
theorem dM_readPlace_153 : decode cM_readPlace 153 = .ok (.iaload, 1) := by decide +kernel
theorem dM_readPlace_154 : decode cM_readPlace 154 = .ok (.aload_n 0, 1) := by decide +kernel
theorem dM_readPlace_155 : decode cM_readPlace 155 = .ok (.getfield 56, 3) := by decide +kernel
theorem dM_readPlace_158 : decode cM_readPlace 158 = .ok (.iload_n 2, 1) := by decide +kernel
theorem dM_readPlace_159 : decode cM_readPlace 159 = .ok (.iaload, 1) := by decide +kernel
theorem dM_readPlace_160 : decode cM_readPlace 160 = .ok (.if_icmp .ne 7, 3) := by decide +kernel
theorem dM_readPlace_163 : decode cM_readPlace 163 = .ok (.iconst 1, 1) := by decide +kernel
theorem dM_readPlace_164 : decode cM_readPlace 164 = .ok (.goto 4, 3) := by decide +kernel
theorem dM_readPlace_167 : decode cM_readPlace 167 = .ok (.iconst 0, 1) := by decide +kernel
theorem dM_readPlace_168 : decode cM_readPlace 168 = .ok (.invokevirtual 184, 3) := by decide +kernel
theorem dM_readPlace_171 : decode cM_readPlace 171 = .ok (.ireturn, 1) := by decide +kernel
abbrev cM_readRest : ByteArray := prog_11_method_33_code
def yM_readRest : MethodName := ⟨"WordCheckerModel", "readRest", "(II)Z"⟩
theorem calM_readRest : CalV gT yM_readRest cM_readRest 4 (some .boolean) 2 := ⟨⟨gT_1 (i := 937) (by decide +kernel) rfl, gT_1 (i := 8) (by decide +kernel) rfl, by decide +kernel⟩, gT_1 (i := 936) (by decide +kernel) rfl, gT_s (q := (yM_readRest, 28)) (by decide +kernel)⟩
theorem dM_readRest_0 : decode cM_readRest 0 = .ok (.iload_n 1, 1) := by decide +kernel
theorem dM_readRest_1 : decode cM_readRest 1 = .ok (.iconst 3, 1) := by decide +kernel
theorem dM_readRest_2 : decode cM_readRest 2 = .ok (.if_icmp .ne 48, 3) := by decide +kernel
theorem dM_readRest_5 : decode cM_readRest 5 = .ok (.aload_n 0, 1) := by decide +kernel
theorem dM_readRest_6 : decode cM_readRest 6 = .ok (.aload_n 0, 1) := by decide +kernel
theorem dM_readRest_7 : decode cM_readRest 7 = .ok (.getfield 158, 3) := by decide +kernel
theorem dM_readRest_10 : decode cM_readRest 10 = .ok (.invokevirtual 161, 3) := by decide +kernel
theorem dM_readRest_13 : decode cM_readRest 13 = .ok (.istore_n 3, 1) := by decide +kernel
theorem dM_readRest_14 : decode cM_readRest 14 = .ok (.aload_n 0, 1) := by decide +kernel
theorem dM_readRest_15 : decode cM_readRest 15 = .ok (.getfield 47, 3) := by decide +kernel
theorem dM_readRest_18 : decode cM_readRest 18 = .ok (.aload_n 0, 1) := by decide +kernel
theorem dM_readRest_19 : decode cM_readRest 19 = .ok (.getfield 155, 3) := by decide +kernel
theorem dM_readRest_22 : decode cM_readRest 22 = .ok (.iload_n 3, 1) := by decide +kernel
theorem dM_readRest_23 : decode cM_readRest 23 = .ok (.iastore, 1) := by decide +kernel
theorem dM_readRest_24 : decode cM_readRest 24 = .ok (.aload_n 0, 1) := by decide +kernel
theorem dM_readRest_25 : decode cM_readRest 25 = .ok (.iload_n 3, 1) := by decide +kernel
theorem dM_readRest_26 : decode cM_readRest 26 = .ok (.ifCond .lt 19, 3) := by decide +kernel
theorem dM_readRest_29 : decode cM_readRest 29 = .ok (.iload_n 3, 1) := by decide +kernel
theorem dM_readRest_30 : decode cM_readRest 30 = .ok (.iconst 1, 1) := by decide +kernel
theorem dM_readRest_31 : decode cM_readRest 31 = .ok (.aload_n 0, 1) := by decide +kernel
theorem dM_readRest_32 : decode cM_readRest 32 = .ok (.getfield 56, 3) := by decide +kernel
theorem dM_readRest_35 : decode cM_readRest 35 = .ok (.iload_n 2, 1) := by decide +kernel
theorem dM_readRest_36 : decode cM_readRest 36 = .ok (.iaload, 1) := by decide +kernel
theorem dM_readRest_37 : decode cM_readRest 37 = .ok (.ishl, 1) := by decide +kernel
theorem dM_readRest_38 : decode cM_readRest 38 = .ok (.if_icmp .ge 7, 3) := by decide +kernel
theorem dM_readRest_41 : decode cM_readRest 41 = .ok (.iconst 1, 1) := by decide +kernel
theorem dM_readRest_42 : decode cM_readRest 42 = .ok (.goto 4, 3) := by decide +kernel
theorem dM_readRest_45 : decode cM_readRest 45 = .ok (.iconst 0, 1) := by decide +kernel
theorem dM_readRest_46 : decode cM_readRest 46 = .ok (.invokevirtual 184, 3) := by decide +kernel
theorem dM_readRest_49 : decode cM_readRest 49 = .ok (.ireturn, 1) := by decide +kernel
theorem dM_readRest_50 : decode cM_readRest 50 = .ok (.iload_n 1, 1) := by decide +kernel
theorem dM_readRest_51 : decode cM_readRest 51 = .ok (.iconst 4, 1) := by decide +kernel
theorem dM_readRest_52 : decode cM_readRest 52 = .ok (.if_icmp .eq 8, 3) := by decide +kernel
theorem dM_readRest_55 : decode cM_readRest 55 = .ok (.iload_n 1, 1) := by decide +kernel
theorem dM_readRest_56 : decode cM_readRest 56 = .ok (.iconst 5, 1) := by decide +kernel
theorem dM_readRest_57 : decode cM_readRest 57 = .ok (.if_icmp .ne 10, 3) := by decide +kernel
theorem dM_readRest_60 : decode cM_readRest 60 = .ok (.aload_n 0, 1) := by decide +kernel
theorem dM_readRest_61 : decode cM_readRest 61 = .ok (.iconst 0, 1) := by decide +kernel
theorem dM_readRest_62 : decode cM_readRest 62 = .ok (.iload_n 2, 1) := by decide +kernel
theorem dM_readRest_63 : decode cM_readRest 63 = .ok (.invokevirtual 223, 3) := by decide +kernel
theorem dM_readRest_66 : decode cM_readRest 66 = .ok (.ireturn, 1) := by decide +kernel
theorem dM_readRest_67 : decode cM_readRest 67 = .ok (.iload_n 1, 1) := by decide +kernel
theorem dM_readRest_68 : decode cM_readRest 68 = .ok (.bipush 6, 2) := by decide +kernel
theorem dM_readRest_70 : decode cM_readRest 70 = .ok (.if_icmp .ne 9, 3) := by decide +kernel
theorem dM_readRest_73 : decode cM_readRest 73 = .ok (.aload_n 0, 1) := by decide +kernel
theorem dM_readRest_74 : decode cM_readRest 74 = .ok (.iconst 0, 1) := by decide +kernel
theorem dM_readRest_75 : decode cM_readRest 75 = .ok (.invokevirtual 217, 3) := by decide +kernel
theorem dM_readRest_78 : decode cM_readRest 78 = .ok (.ireturn, 1) := by decide +kernel
theorem dM_readRest_79 : decode cM_readRest 79 = .ok (.iload_n 1, 1) := by decide +kernel
theorem dM_readRest_80 : decode cM_readRest 80 = .ok (.bipush 16, 2) := by decide +kernel
theorem dM_readRest_82 : decode cM_readRest 82 = .ok (.if_icmp .gt 26, 3) := by decide +kernel
theorem dM_readRest_85 : decode cM_readRest 85 = .ok (.aload_n 0, 1) := by decide +kernel
theorem dM_readRest_86 : decode cM_readRest 86 = .ok (.iconst 0, 1) := by decide +kernel
theorem dM_readRest_87 : decode cM_readRest 87 = .ok (.iload_n 2, 1) := by decide +kernel
theorem dM_readRest_88 : decode cM_readRest 88 = .ok (.invokevirtual 223, 3) := by decide +kernel
theorem dM_readRest_91 : decode cM_readRest 91 = .ok (.ifCond .eq 15, 3) := by decide +kernel
theorem dM_readRest_94 : decode cM_readRest 94 = .ok (.aload_n 0, 1) := by decide +kernel
theorem dM_readRest_95 : decode cM_readRest 95 = .ok (.iload_n 2, 1) := by decide +kernel
theorem dM_readRest_96 : decode cM_readRest 96 = .ok (.invokevirtual 227, 3) := by decide +kernel
theorem dM_readRest_99 : decode cM_readRest 99 = .ok (.ifCond .eq 7, 3) := by decide +kernel
theorem dM_readRest_102 : decode cM_readRest 102 = .ok (.iconst 1, 1) := by decide +kernel
theorem dM_readRest_103 : decode cM_readRest 103 = .ok (.goto 4, 3) := by decide +kernel
theorem dM_readRest_106 : decode cM_readRest 106 = .ok (.iconst 0, 1) := by decide +kernel
theorem dM_readRest_107 : decode cM_readRest 107 = .ok (.ireturn, 1) := by decide +kernel
theorem dM_readRest_108 : decode cM_readRest 108 = .ok (.iload_n 1, 1) := by decide +kernel
theorem dM_readRest_109 : decode cM_readRest 109 = .ok (.bipush 17, 2) := by decide +kernel
theorem dM_readRest_111 : decode cM_readRest 111 = .ok (.if_icmp .ne 39, 3) := by decide +kernel
theorem dM_readRest_114 : decode cM_readRest 114 = .ok (.aload_n 0, 1) := by decide +kernel
theorem dM_readRest_115 : decode cM_readRest 115 = .ok (.iconst 1, 1) := by decide +kernel
theorem dM_readRest_116 : decode cM_readRest 116 = .ok (.iload_n 2, 1) := by decide +kernel
theorem dM_readRest_117 : decode cM_readRest 117 = .ok (.invokevirtual 223, 3) := by decide +kernel
theorem dM_readRest_120 : decode cM_readRest 120 = .ok (.ifCond .eq 28, 3) := by decide +kernel
theorem dM_readRest_123 : decode cM_readRest 123 = .ok (.aload_n 0, 1) := by decide +kernel
theorem dM_readRest_124 : decode cM_readRest 124 = .ok (.aload_n 0, 1) := by decide +kernel
theorem dM_readRest_125 : decode cM_readRest 125 = .ok (.getfield 25, 3) := by decide +kernel
theorem dM_readRest_128 : decode cM_readRest 128 = .ok (.aload_n 0, 1) := by decide +kernel
theorem dM_readRest_129 : decode cM_readRest 129 = .ok (.getfield 28, 3) := by decide +kernel
theorem dM_readRest_132 : decode cM_readRest 132 = .ok (.aload_n 0, 1) := by decide +kernel
theorem dM_readRest_133 : decode cM_readRest 133 = .ok (.getfield 155, 3) := by decide +kernel
theorem dM_readRest_136 : decode cM_readRest 136 = .ok (.iaload, 1) := by decide +kernel
theorem dM_readRest_137 : decode cM_readRest 137 = .ok (.iaload, 1) := by decide +kernel
theorem dM_readRest_138 : decode cM_readRest 138 = .ok (.invokevirtual 227, 3) := by decide +kernel
theorem dM_readRest_141 : decode cM_readRest 141 = .ok (.ifCond .eq 7, 3) := by decide +kernel
theorem dM_readRest_144 : decode cM_readRest 144 = .ok (.iconst 1, 1) := by decide +kernel
theorem dM_readRest_145 : decode cM_readRest 145 = .ok (.goto 4, 3) := by decide +kernel
theorem dM_readRest_148 : decode cM_readRest 148 = .ok (.iconst 0, 1) := by decide +kernel
theorem dM_readRest_149 : decode cM_readRest 149 = .ok (.ireturn, 1) := by decide +kernel
theorem dM_readRest_150 : decode cM_readRest 150 = .ok (.iload_n 1, 1) := by decide +kernel
theorem dM_readRest_151 : decode cM_readRest 151 = .ok (.bipush 18, 2) := by decide +kernel
theorem dM_readRest_153 : decode cM_readRest 153 = .ok (.if_icmp .eq 9, 3) := by decide +kernel
theorem dM_readRest_156 : decode cM_readRest 156 = .ok (.iload_n 1, 1) := by decide +kernel
theorem dM_readRest_157 : decode cM_readRest 157 = .ok (.bipush 19, 2) := by decide +kernel
theorem dM_readRest_159 : decode cM_readRest 159 = .ok (.if_icmp .ne 38, 3) := by decide +kernel
theorem dM_readRest_162 : decode cM_readRest 162 = .ok (.aload_n 0, 1) := by decide +kernel
theorem dM_readRest_163 : decode cM_readRest 163 = .ok (.iconst 0, 1) := by decide +kernel
theorem dM_readRest_164 : decode cM_readRest 164 = .ok (.invokevirtual 217, 3) := by decide +kernel
theorem dM_readRest_167 : decode cM_readRest 167 = .ok (.ifCond .eq 28, 3) := by decide +kernel
theorem dM_readRest_170 : decode cM_readRest 170 = .ok (.aload_n 0, 1) := by decide +kernel
theorem dM_readRest_171 : decode cM_readRest 171 = .ok (.aload_n 0, 1) := by decide +kernel
theorem dM_readRest_172 : decode cM_readRest 172 = .ok (.getfield 25, 3) := by decide +kernel
theorem dM_readRest_175 : decode cM_readRest 175 = .ok (.aload_n 0, 1) := by decide +kernel
theorem dM_readRest_176 : decode cM_readRest 176 = .ok (.getfield 28, 3) := by decide +kernel
theorem dM_readRest_179 : decode cM_readRest 179 = .ok (.aload_n 0, 1) := by decide +kernel
theorem dM_readRest_180 : decode cM_readRest 180 = .ok (.getfield 155, 3) := by decide +kernel
theorem dM_readRest_183 : decode cM_readRest 183 = .ok (.iaload, 1) := by decide +kernel
theorem dM_readRest_184 : decode cM_readRest 184 = .ok (.iaload, 1) := by decide +kernel
theorem dM_readRest_185 : decode cM_readRest 185 = .ok (.invokevirtual 227, 3) := by decide +kernel
theorem dM_readRest_188 : decode cM_readRest 188 = .ok (.ifCond .eq 7, 3) := by decide +kernel
theorem dM_readRest_191 : decode cM_readRest 191 = .ok (.iconst 1, 1) := by decide +kernel
theorem dM_readRest_192 : decode cM_readRest 192 = .ok (.goto 4, 3) := by decide +kernel
theorem dM_readRest_195 : decode cM_readRest 195 = .ok (.iconst 0, 1) := by decide +kernel
theorem dM_readRest_196 : decode cM_readRest 196 = .ok (.ireturn, 1) := by decide +kernel
theorem dM_readRest_197 : decode cM_readRest 197 = .ok (.iload_n 1, 1) := by decide +kernel
theorem dM_readRest_198 : decode cM_readRest 198 = .ok (.bipush 20, 2) := by decide +kernel
theorem dM_readRest_200 : decode cM_readRest 200 = .ok (.if_icmp .ne 8, 3) := by decide +kernel
theorem dM_readRest_203 : decode cM_readRest 203 = .ok (.aload_n 0, 1) := by decide +kernel
theorem dM_readRest_204 : decode cM_readRest 204 = .ok (.invokevirtual 230, 3) := by decide +kernel
theorem dM_readRest_207 : decode cM_readRest 207 = .ok (.ireturn, 1) := by decide +kernel
theorem dM_readRest_208 : decode cM_readRest 208 = .ok (.iload_n 1, 1) := by decide +kernel
theorem dM_readRest_209 : decode cM_readRest 209 = .ok (.bipush 21, 2) := by decide +kernel
theorem dM_readRest_211 : decode cM_readRest 211 = .ok (.if_icmp .ne 8, 3) := by decide +kernel
theorem dM_readRest_214 : decode cM_readRest 214 = .ok (.aload_n 0, 1) := by decide +kernel
theorem dM_readRest_215 : decode cM_readRest 215 = .ok (.invokevirtual 234, 3) := by decide +kernel
theorem dM_readRest_218 : decode cM_readRest 218 = .ok (.ireturn, 1) := by decide +kernel
theorem dM_readRest_219 : decode cM_readRest 219 = .ok (.iload_n 1, 1) := by decide +kernel
theorem dM_readRest_220 : decode cM_readRest 220 = .ok (.bipush 22, 2) := by decide +kernel
theorem dM_readRest_222 : decode cM_readRest 222 = .ok (.if_icmp .eq 9, 3) := by decide +kernel
theorem dM_readRest_225 : decode cM_readRest 225 = .ok (.iload_n 1, 1) := by decide +kernel
theorem dM_readRest_226 : decode cM_readRest 226 = .ok (.bipush 23, 2) := by decide +kernel
theorem dM_readRest_228 : decode cM_readRest 228 = .ok (.if_icmp .ne 8, 3) := by decide +kernel
theorem dM_readRest_231 : decode cM_readRest 231 = .ok (.aload_n 0, 1) := by decide +kernel
theorem dM_readRest_232 : decode cM_readRest 232 = .ok (.invokevirtual 237, 3) := by decide +kernel
theorem dM_readRest_235 : decode cM_readRest 235 = .ok (.ireturn, 1) := by decide +kernel
theorem dM_readRest_236 : decode cM_readRest 236 = .ok (.iload_n 1, 1) := by decide +kernel
theorem dM_readRest_237 : decode cM_readRest 237 = .ok (.bipush 24, 2) := by decide +kernel
theorem dM_readRest_239 : decode cM_readRest 239 = .ok (.if_icmp .ne 11, 3) := by decide +kernel
theorem dM_readRest_242 : decode cM_readRest 242 = .ok (.aload_n 0, 1) := by decide +kernel
theorem dM_readRest_243 : decode cM_readRest 243 = .ok (.iload_n 2, 1) := by decide +kernel
theorem dM_readRest_244 : decode cM_readRest 244 = .ok (.invokevirtual 240, 3) := by decide +kernel
theorem dM_readRest_247 : decode cM_readRest 247 = .ok (.goto 9, 3) := by decide +kernel
theorem dM_readRest_250 : decode cM_readRest 250 = .ok (.aload_n 0, 1) := by decide +kernel
theorem dM_readRest_251 : decode cM_readRest 251 = .ok (.iload_n 1, 1) := by decide +kernel
theorem dM_readRest_252 : decode cM_readRest 252 = .ok (.iload_n 2, 1) := by decide +kernel
theorem dM_readRest_253 : decode cM_readRest 253 = .ok (.invokevirtual 243, 3) := by decide +kernel
theorem dM_readRest_256 : decode cM_readRest 256 = .ok (.ireturn, 1) := by decide +kernel
