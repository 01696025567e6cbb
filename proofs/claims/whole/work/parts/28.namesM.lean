abbrev cM_isStretch : ByteArray := prog_11_method_62_code
def yM_isStretch : MethodName := ⟨"WordCheckerModel", "isStretch", "(III)Z"⟩
theorem calM_isStretch : CalV gT yM_isStretch cM_isStretch 8 (some .boolean) 3 := ⟨⟨gT_1 (i := 1086) (by decide +kernel) rfl, gT_1 (i := 8) (by decide +kernel) rfl, by decide +kernel⟩, gT_1 (i := 1085) (by decide +kernel) rfl, gT_s (q := (yM_isStretch, 28)) (by decide +kernel)⟩
theorem dM_isStretch_0 : decode cM_isStretch 0 = .ok (.aload_n 0, 1) := by decide +kernel
theorem dM_isStretch_1 : decode cM_isStretch 1 = .ok (.iload_n 1, 1) := by decide +kernel
theorem dM_isStretch_2 : decode cM_isStretch 2 = .ok (.iload_n 2, 1) := by decide +kernel
theorem dM_isStretch_3 : decode cM_isStretch 3 = .ok (.iconst 1, 1) := by decide +kernel
theorem dM_isStretch_4 : decode cM_isStretch 4 = .ok (.invokevirtual 317, 3) := by decide +kernel
theorem dM_isStretch_7 : decode cM_isStretch 7 = .ok (.istore 4, 2) := by decide +kernel
theorem dM_isStretch_9 : decode cM_isStretch 9 = .ok (.iconst 0, 1) := by decide +kernel
theorem dM_isStretch_10 : decode cM_isStretch 10 = .ok (.istore 5, 2) := by decide +kernel
theorem dM_isStretch_12 : decode cM_isStretch 12 = .ok (.iload 5, 2) := by decide +kernel
theorem dM_isStretch_14 : decode cM_isStretch 14 = .ok (.iload_n 3, 1) := by decide +kernel
theorem dM_isStretch_15 : decode cM_isStretch 15 = .ok (.iconst 1, 1) := by decide +kernel
theorem dM_isStretch_16 : decode cM_isStretch 16 = .ok (.iadd, 1) := by decide +kernel
theorem dM_isStretch_17 : decode cM_isStretch 17 = .ok (.if_icmp .gt 120, 3) := by decide +kernel
theorem dM_isStretch_20 : decode cM_isStretch 20 = .ok (.iload 5, 2) := by decide +kernel
theorem dM_isStretch_22 : decode cM_isStretch 22 = .ok (.ifCond .le 7, 3) := by decide +kernel
theorem dM_isStretch_25 : decode cM_isStretch 25 = .ok (.aload_n 0, 1) := by decide +kernel
theorem dM_isStretch_26 : decode cM_isStretch 26 = .ok (.invokevirtual 314, 3) := by decide +kernel
theorem dM_isStretch_29 : decode cM_isStretch 29 = .ok (.aload_n 0, 1) := by decide +kernel
theorem dM_isStretch_30 : decode cM_isStretch 30 = .ok (.iload_n 1, 1) := by decide +kernel
theorem dM_isStretch_31 : decode cM_isStretch 31 = .ok (.iload 4, 2) := by decide +kernel
theorem dM_isStretch_33 : decode cM_isStretch 33 = .ok (.invokevirtual 321, 3) := by decide +kernel
theorem dM_isStretch_36 : decode cM_isStretch 36 = .ok (.istore 4, 2) := by decide +kernel
theorem dM_isStretch_38 : decode cM_isStretch 38 = .ok (.aload_n 0, 1) := by decide +kernel
theorem dM_isStretch_39 : decode cM_isStretch 39 = .ok (.getfield 72, 3) := by decide +kernel
theorem dM_isStretch_42 : decode cM_isStretch 42 = .ok (.iload 5, 2) := by decide +kernel
theorem dM_isStretch_44 : decode cM_isStretch 44 = .ok (.aload_n 0, 1) := by decide +kernel
theorem dM_isStretch_45 : decode cM_isStretch 45 = .ok (.invokevirtual 330, 3) := by decide +kernel
theorem dM_isStretch_48 : decode cM_isStretch 48 = .ok (.iastore, 1) := by decide +kernel
theorem dM_isStretch_49 : decode cM_isStretch 49 = .ok (.iconst 1, 1) := by decide +kernel
theorem dM_isStretch_50 : decode cM_isStretch 50 = .ok (.istore 6, 2) := by decide +kernel
theorem dM_isStretch_52 : decode cM_isStretch 52 = .ok (.iconst 0, 1) := by decide +kernel
theorem dM_isStretch_53 : decode cM_isStretch 53 = .ok (.istore 7, 2) := by decide +kernel
theorem dM_isStretch_55 : decode cM_isStretch 55 = .ok (.iload 7, 2) := by decide +kernel
theorem dM_isStretch_57 : decode cM_isStretch 57 = .ok (.iload 5, 2) := by decide +kernel
theorem dM_isStretch_59 : decode cM_isStretch 59 = .ok (.if_icmp .ge 38, 3) := by decide +kernel
theorem dM_isStretch_62 : decode cM_isStretch 62 = .ok (.iload 6, 2) := by decide +kernel
theorem dM_isStretch_64 : decode cM_isStretch 64 = .ok (.ifCond .eq 24, 3) := by decide +kernel
theorem dM_isStretch_67 : decode cM_isStretch 67 = .ok (.aload_n 0, 1) := by decide +kernel
theorem dM_isStretch_68 : decode cM_isStretch 68 = .ok (.getfield 72, 3) := by decide +kernel
theorem dM_isStretch_71 : decode cM_isStretch 71 = .ok (.iload 7, 2) := by decide +kernel
theorem dM_isStretch_73 : decode cM_isStretch 73 = .ok (.iaload, 1) := by decide +kernel
theorem dM_isStretch_74 : decode cM_isStretch 74 = .ok (.aload_n 0, 1) := by decide +kernel
theorem dM_isStretch_75 : decode cM_isStretch 75 = .ok (.getfield 72, 3) := by decide +kernel
theorem dM_isStretch_78 : decode cM_isStretch 78 = .ok (.iload 5, 2) := by decide +kernel
theorem dM_isStretch_80 : decode cM_isStretch 80 = .ok (.iaload, 1) := by decide +kernel
theorem dM_isStretch_81 : decode cM_isStretch 81 = .ok (.if_icmp .eq 7, 3) := by decide +kernel
theorem dM_isStretch_84 : decode cM_isStretch 84 = .ok (.iconst 1, 1) := by decide +kernel
theorem dM_isStretch_85 : decode cM_isStretch 85 = .ok (.goto 4, 3) := by decide +kernel
theorem dM_isStretch_88 : decode cM_isStretch 88 = .ok (.iconst 0, 1) := by decide +kernel
theorem dM_isStretch_89 : decode cM_isStretch 89 = .ok (.istore 6, 2) := by decide +kernel
theorem dM_isStretch_91 : decode cM_isStretch 91 = .ok (.iinc 7 1, 3) := by decide +kernel
theorem dM_isStretch_94 : decode cM_isStretch 94 = .ok (.goto (-39), 3) := by decide +kernel
theorem dM_isStretch_97 : decode cM_isStretch 97 = .ok (.iload 6, 2) := by decide +kernel
theorem dM_isStretch_99 : decode cM_isStretch 99 = .ok (.ifCond .eq 30, 3) := by decide +kernel
theorem dM_isStretch_102 : decode cM_isStretch 102 = .ok (.aload_n 0, 1) := by decide +kernel
theorem dM_isStretch_103 : decode cM_isStretch 103 = .ok (.invokevirtual 324, 3) := by decide +kernel
theorem dM_isStretch_106 : decode cM_isStretch 106 = .ok (.ifCond .eq 23, 3) := by decide +kernel
theorem dM_isStretch_109 : decode cM_isStretch 109 = .ok (.aload_n 0, 1) := by decide +kernel
theorem dM_isStretch_110 : decode cM_isStretch 110 = .ok (.invokevirtual 327, 3) := by decide +kernel
theorem dM_isStretch_113 : decode cM_isStretch 113 = .ok (.iload 5, 2) := by decide +kernel
theorem dM_isStretch_115 : decode cM_isStretch 115 = .ok (.iload_n 3, 1) := by decide +kernel
theorem dM_isStretch_116 : decode cM_isStretch 116 = .ok (.iconst 1, 1) := by decide +kernel
theorem dM_isStretch_117 : decode cM_isStretch 117 = .ok (.iadd, 1) := by decide +kernel
theorem dM_isStretch_118 : decode cM_isStretch 118 = .ok (.if_icmp .ne 7, 3) := by decide +kernel
theorem dM_isStretch_121 : decode cM_isStretch 121 = .ok (.iconst 1, 1) := by decide +kernel
theorem dM_isStretch_122 : decode cM_isStretch 122 = .ok (.goto 4, 3) := by decide +kernel
theorem dM_isStretch_125 : decode cM_isStretch 125 = .ok (.iconst 0, 1) := by decide +kernel
theorem dM_isStretch_126 : decode cM_isStretch 126 = .ok (.if_icmp .eq 5, 3) := by decide +kernel
theorem dM_isStretch_129 : decode cM_isStretch 129 = .ok (.iconst 0, 1) := by decide +kernel
theorem dM_isStretch_130 : decode cM_isStretch 130 = .ok (.ireturn, 1) := by decide +kernel
theorem dM_isStretch_131 : decode cM_isStretch 131 = .ok (.iinc 5 1, 3) := by decide +kernel
theorem dM_isStretch_134 : decode cM_isStretch 134 = .ok (.goto (-122), 3) := by decide +kernel
theorem dM_isStretch_137 : decode cM_isStretch 137 = .ok (.iconst 1, 1) := by decide +kernel
theorem dM_isStretch_138 : decode cM_isStretch 138 = .ok (.ireturn, 1) := by decide +kernel
abbrev cM_places : ByteArray := prog_11_method_63_code
def yM_places : MethodName := ⟨"WordCheckerModel", "places", "(IZ)I"⟩
theorem calM_places : CalV gT yM_places cM_places 4 (some .int) 2 := ⟨⟨gT_1 (i := 1049) (by decide +kernel) rfl, gT_1 (i := 8) (by decide +kernel) rfl, by decide +kernel⟩, gT_1 (i := 1048) (by decide +kernel) rfl, gT_s (q := (yM_places, 28)) (by decide +kernel)⟩
theorem dM_places_0 : decode cM_places 0 = .ok (.aload_n 0, 1) := by decide +kernel
theorem dM_places_1 : decode cM_places 1 = .ok (.iconst 1, 1) := by decide +kernel
theorem dM_places_2 : decode cM_places 2 = .ok (.invokevirtual 205, 3) := by decide +kernel
theorem dM_places_5 : decode cM_places 5 = .ok (.istore_n 3, 1) := by decide +kernel
theorem dM_places_6 : decode cM_places 6 = .ok (.aload_n 0, 1) := by decide +kernel
theorem dM_places_7 : decode cM_places 7 = .ok (.iload_n 2, 1) := by decide +kernel
theorem dM_places_8 : decode cM_places 8 = .ok (.invokevirtual 333, 3) := by decide +kernel
theorem dM_places_11 : decode cM_places 11 = .ok (.iload_n 1, 1) := by decide +kernel
theorem dM_places_12 : decode cM_places 12 = .ok (.iconst 1, 1) := by decide +kernel
theorem dM_places_13 : decode cM_places 13 = .ok (.iadd, 1) := by decide +kernel
theorem dM_places_14 : decode cM_places 14 = .ok (.iload_n 3, 1) := by decide +kernel
theorem dM_places_15 : decode cM_places 15 = .ok (.imul, 1) := by decide +kernel
theorem dM_places_16 : decode cM_places 16 = .ok (.iadd, 1) := by decide +kernel
theorem dM_places_17 : decode cM_places 17 = .ok (.ireturn, 1) := by decide +kernel
abbrev cM_find : ByteArray := prog_11_method_64_code
def yM_find : MethodName := ⟨"WordCheckerModel", "find", "(I)I"⟩
theorem calM_find : CalV gT yM_find cM_find 5 (some .int) 1 := ⟨⟨gT_1 (i := 1045) (by decide +kernel) rfl, gT_1 (i := 8) (by decide +kernel) rfl, by decide +kernel⟩, gT_1 (i := 1043) (by decide +kernel) rfl, gT_1 (i := 1044) (by decide +kernel) rfl⟩
theorem dM_find_0 : decode cM_find 0 = .ok (.iload_n 1, 1) := by decide +kernel
theorem dM_find_1 : decode cM_find 1 = .ok (.iconst 0, 1) := by decide +kernel
theorem dM_find_2 : decode cM_find 2 = .ok (.iconst 3, 1) := by decide +kernel
theorem dM_find_3 : decode cM_find 3 = .ok (.invokestatic 75, 3) := by decide +kernel
theorem dM_find_6 : decode cM_find 6 = .ok (.ifCond .ne 6, 3) := by decide +kernel
theorem dM_find_9 : decode cM_find 9 = .ok (.bipush (-2), 2) := by decide +kernel
theorem dM_find_11 : decode cM_find 11 = .ok (.ireturn, 1) := by decide +kernel
theorem dM_find_12 : decode cM_find 12 = .ok (.aload_n 0, 1) := by decide +kernel
theorem dM_find_13 : decode cM_find 13 = .ok (.iconst (-1), 1) := by decide +kernel
theorem dM_find_14 : decode cM_find 14 = .ok (.putfield 68, 3) := by decide +kernel
theorem dM_find_17 : decode cM_find 17 = .ok (.iconst 0, 1) := by decide +kernel
theorem dM_find_18 : decode cM_find 18 = .ok (.istore_n 2, 1) := by decide +kernel
theorem dM_find_19 : decode cM_find 19 = .ok (.iload_n 2, 1) := by decide +kernel
theorem dM_find_20 : decode cM_find 20 = .ok (.iload_n 1, 1) := by decide +kernel
theorem dM_find_21 : decode cM_find 21 = .ok (.if_icmp .gt 57, 3) := by decide +kernel
theorem dM_find_24 : decode cM_find 24 = .ok (.aload_n 0, 1) := by decide +kernel
theorem dM_find_25 : decode cM_find 25 = .ok (.iload_n 2, 1) := by decide +kernel
theorem dM_find_26 : decode cM_find 26 = .ok (.iconst 0, 1) := by decide +kernel
theorem dM_find_27 : decode cM_find 27 = .ok (.invokevirtual 336, 3) := by decide +kernel
theorem dM_find_30 : decode cM_find 30 = .ok (.istore_n 3, 1) := by decide +kernel
theorem dM_find_31 : decode cM_find 31 = .ok (.iconst 0, 1) := by decide +kernel
theorem dM_find_32 : decode cM_find 32 = .ok (.istore 4, 2) := by decide +kernel
theorem dM_find_34 : decode cM_find 34 = .ok (.iload 4, 2) := by decide +kernel
theorem dM_find_36 : decode cM_find 36 = .ok (.iconst 1, 1) := by decide +kernel
theorem dM_find_37 : decode cM_find 37 = .ok (.iload_n 3, 1) := by decide +kernel
theorem dM_find_38 : decode cM_find 38 = .ok (.ishl, 1) := by decide +kernel
theorem dM_find_39 : decode cM_find 39 = .ok (.if_icmp .ge 33, 3) := by decide +kernel
theorem dM_find_42 : decode cM_find 42 = .ok (.aload_n 0, 1) := by decide +kernel
theorem dM_find_43 : decode cM_find 43 = .ok (.iload 4, 2) := by decide +kernel
theorem dM_find_45 : decode cM_find 45 = .ok (.iload_n 3, 1) := by decide +kernel
theorem dM_find_46 : decode cM_find 46 = .ok (.iload_n 2, 1) := by decide +kernel
theorem dM_find_47 : decode cM_find 47 = .ok (.invokevirtual 339, 3) := by decide +kernel
theorem dM_find_50 : decode cM_find 50 = .ok (.ifCond .eq 16, 3) := by decide +kernel
theorem dM_find_53 : decode cM_find 53 = .ok (.aload_n 0, 1) := by decide +kernel
theorem dM_find_54 : decode cM_find 54 = .ok (.iload_n 2, 1) := by decide +kernel
theorem dM_find_55 : decode cM_find 55 = .ok (.putfield 68, 3) := by decide +kernel
theorem dM_find_58 : decode cM_find 58 = .ok (.aload_n 0, 1) := by decide +kernel
theorem dM_find_59 : decode cM_find 59 = .ok (.iload 4, 2) := by decide +kernel
theorem dM_find_61 : decode cM_find 61 = .ok (.putfield 342, 3) := by decide +kernel
theorem dM_find_64 : decode cM_find 64 = .ok (.iload_n 2, 1) := by decide +kernel
theorem dM_find_65 : decode cM_find 65 = .ok (.ireturn, 1) := by decide +kernel
theorem dM_find_66 : decode cM_find 66 = .ok (.iinc 4 1, 3) := by decide +kernel
theorem dM_find_69 : decode cM_find 69 = .ok (.goto (-35), 3) := by decide +kernel
theorem dM_find_72 : decode cM_find 72 = .ok (.iinc 2 1, 3) := by decide +kernel
theorem dM_find_75 : decode cM_find 75 = .ok (.goto (-56), 3) := by decide +kernel
theorem dM_find_78 : decode cM_find 78 = .ok (.iconst (-1), 1) := by decide +kernel
theorem dM_find_79 : decode cM_find 79 = .ok (.ireturn, 1) := by decide +kernel
abbrev cM_shown : ByteArray := prog_11_method_65_code
def yM_shown : MethodName := ⟨"WordCheckerModel", "shown", "(II)I"⟩
theorem calM_shown : CalV gT yM_shown cM_shown 7 (some .int) 2 := ⟨⟨gT_1 (i := 1077) (by decide +kernel) rfl, gT_1 (i := 8) (by decide +kernel) rfl, by decide +kernel⟩, gT_1 (i := 1075) (by decide +kernel) rfl, gT_1 (i := 1076) (by decide +kernel) rfl⟩
theorem dM_shown_0 : decode cM_shown 0 = .ok (.aload_n 0, 1) := by decide +kernel
theorem dM_shown_1 : decode cM_shown 1 = .ok (.iload_n 2, 1) := by decide +kernel
theorem dM_shown_2 : decode cM_shown 2 = .ok (.invokevirtual 165, 3) := by decide +kernel
theorem dM_shown_5 : decode cM_shown 5 = .ok (.istore_n 3, 1) := by decide +kernel
theorem dM_shown_6 : decode cM_shown 6 = .ok (.aload_n 0, 1) := by decide +kernel
theorem dM_shown_7 : decode cM_shown 7 = .ok (.iload_n 3, 1) := by decide +kernel
theorem dM_shown_8 : decode cM_shown 8 = .ok (.invokevirtual 172, 3) := by decide +kernel
theorem dM_shown_11 : decode cM_shown 11 = .ok (.ifCond .eq 15, 3) := by decide +kernel
theorem dM_shown_14 : decode cM_shown 14 = .ok (.iload_n 1, 1) := by decide +kernel
theorem dM_shown_15 : decode cM_shown 15 = .ok (.iconst 0, 1) := by decide +kernel
theorem dM_shown_16 : decode cM_shown 16 = .ok (.aload_n 0, 1) := by decide +kernel
theorem dM_shown_17 : decode cM_shown 17 = .ok (.getfield 68, 3) := by decide +kernel
theorem dM_shown_20 : decode cM_shown 20 = .ok (.invokestatic 75, 3) := by decide +kernel
theorem dM_shown_23 : decode cM_shown 23 = .ok (.ifCond .ne 5, 3) := by decide +kernel
theorem dM_shown_26 : decode cM_shown 26 = .ok (.iconst (-1), 1) := by decide +kernel
theorem dM_shown_27 : decode cM_shown 27 = .ok (.ireturn, 1) := by decide +kernel
theorem dM_shown_28 : decode cM_shown 28 = .ok (.aload_n 0, 1) := by decide +kernel
theorem dM_shown_29 : decode cM_shown 29 = .ok (.aload_n 0, 1) := by decide +kernel
theorem dM_shown_30 : decode cM_shown 30 = .ok (.getfield 68, 3) := by decide +kernel
theorem dM_shown_33 : decode cM_shown 33 = .ok (.iconst 0, 1) := by decide +kernel
theorem dM_shown_34 : decode cM_shown 34 = .ok (.invokevirtual 336, 3) := by decide +kernel
theorem dM_shown_37 : decode cM_shown 37 = .ok (.istore 4, 2) := by decide +kernel
theorem dM_shown_39 : decode cM_shown 39 = .ok (.aload_n 0, 1) := by decide +kernel
theorem dM_shown_40 : decode cM_shown 40 = .ok (.aload_n 0, 1) := by decide +kernel
theorem dM_shown_41 : decode cM_shown 41 = .ok (.getfield 342, 3) := by decide +kernel
theorem dM_shown_44 : decode cM_shown 44 = .ok (.iload 4, 2) := by decide +kernel
theorem dM_shown_46 : decode cM_shown 46 = .ok (.iconst 0, 1) := by decide +kernel
theorem dM_shown_47 : decode cM_shown 47 = .ok (.invokevirtual 317, 3) := by decide +kernel
theorem dM_shown_50 : decode cM_shown 50 = .ok (.istore 5, 2) := by decide +kernel
theorem dM_shown_52 : decode cM_shown 52 = .ok (.aload_n 0, 1) := by decide +kernel
theorem dM_shown_53 : decode cM_shown 53 = .ok (.aload_n 0, 1) := by decide +kernel
theorem dM_shown_54 : decode cM_shown 54 = .ok (.getfield 342, 3) := by decide +kernel
theorem dM_shown_57 : decode cM_shown 57 = .ok (.iload 5, 2) := by decide +kernel
theorem dM_shown_59 : decode cM_shown 59 = .ok (.invokevirtual 321, 3) := by decide +kernel
theorem dM_shown_62 : decode cM_shown 62 = .ok (.istore 5, 2) := by decide +kernel
theorem dM_shown_64 : decode cM_shown 64 = .ok (.iconst 1, 1) := by decide +kernel
theorem dM_shown_65 : decode cM_shown 65 = .ok (.istore 6, 2) := by decide +kernel
theorem dM_shown_67 : decode cM_shown 67 = .ok (.iload 6, 2) := by decide +kernel
theorem dM_shown_69 : decode cM_shown 69 = .ok (.iload_n 1, 1) := by decide +kernel
theorem dM_shown_70 : decode cM_shown 70 = .ok (.if_icmp .gt 25, 3) := by decide +kernel
theorem dM_shown_73 : decode cM_shown 73 = .ok (.aload_n 0, 1) := by decide +kernel
theorem dM_shown_74 : decode cM_shown 74 = .ok (.invokevirtual 314, 3) := by decide +kernel
theorem dM_shown_77 : decode cM_shown 77 = .ok (.aload_n 0, 1) := by decide +kernel
theorem dM_shown_78 : decode cM_shown 78 = .ok (.aload_n 0, 1) := by decide +kernel
theorem dM_shown_79 : decode cM_shown 79 = .ok (.getfield 342, 3) := by decide +kernel
theorem dM_shown_82 : decode cM_shown 82 = .ok (.iload 5, 2) := by decide +kernel
theorem dM_shown_84 : decode cM_shown 84 = .ok (.invokevirtual 321, 3) := by decide +kernel
theorem dM_shown_87 : decode cM_shown 87 = .ok (.istore 5, 2) := by decide +kernel
theorem dM_shown_89 : decode cM_shown 89 = .ok (.iinc 6 1, 3) := by decide +kernel
theorem dM_shown_92 : decode cM_shown 92 = .ok (.goto (-25), 3) := by decide +kernel
theorem dM_shown_95 : decode cM_shown 95 = .ok (.aload_n 0, 1) := by decide +kernel
theorem dM_shown_96 : decode cM_shown 96 = .ok (.getfield 59, 3) := by decide +kernel
theorem dM_shown_99 : decode cM_shown 99 = .ok (.iload_n 3, 1) := by decide +kernel
theorem dM_shown_100 : decode cM_shown 100 = .ok (.iaload, 1) := by decide +kernel
theorem dM_shown_101 : decode cM_shown 101 = .ok (.ireturn, 1) := by decide +kernel
abbrev cM_prove : ByteArray := prog_11_method_66_code
def yM_prove : MethodName := ⟨"WordCheckerModel", "prove", "(I)I"⟩
theorem calM_prove : CalV gT yM_prove cM_prove 4 (some .int) 1 := ⟨⟨gT_1 (i := 1081) (by decide +kernel) rfl, gT_1 (i := 8) (by decide +kernel) rfl, by decide +kernel⟩, gT_1 (i := 1079) (by decide +kernel) rfl, gT_1 (i := 1080) (by decide +kernel) rfl⟩
theorem dM_prove_0 : decode cM_prove 0 = .ok (.iload_n 1, 1) := by decide +kernel
theorem dM_prove_1 : decode cM_prove 1 = .ok (.iconst 0, 1) := by decide +kernel
theorem dM_prove_2 : decode cM_prove 2 = .ok (.iconst 2, 1) := by decide +kernel
theorem dM_prove_3 : decode cM_prove 3 = .ok (.invokestatic 75, 3) := by decide +kernel
theorem dM_prove_6 : decode cM_prove 6 = .ok (.ifCond .ne 6, 3) := by decide +kernel
theorem dM_prove_9 : decode cM_prove 9 = .ok (.bipush (-2), 2) := by decide +kernel
theorem dM_prove_11 : decode cM_prove 11 = .ok (.ireturn, 1) := by decide +kernel
theorem dM_prove_12 : decode cM_prove 12 = .ok (.aload_n 0, 1) := by decide +kernel
theorem dM_prove_13 : decode cM_prove 13 = .ok (.iload_n 1, 1) := by decide +kernel
theorem dM_prove_14 : decode cM_prove 14 = .ok (.invokevirtual 345, 3) := by decide +kernel
theorem dM_prove_17 : decode cM_prove 17 = .ok (.ifCond .lt 5, 3) := by decide +kernel
theorem dM_prove_20 : decode cM_prove 20 = .ok (.iconst 2, 1) := by decide +kernel
theorem dM_prove_21 : decode cM_prove 21 = .ok (.ireturn, 1) := by decide +kernel
theorem dM_prove_22 : decode cM_prove 22 = .ok (.aload_n 0, 1) := by decide +kernel
theorem dM_prove_23 : decode cM_prove 23 = .ok (.iload_n 1, 1) := by decide +kernel
theorem dM_prove_24 : decode cM_prove 24 = .ok (.iconst 1, 1) := by decide +kernel
theorem dM_prove_25 : decode cM_prove 25 = .ok (.iadd, 1) := by decide +kernel
theorem dM_prove_26 : decode cM_prove 26 = .ok (.iconst 1, 1) := by decide +kernel
theorem dM_prove_27 : decode cM_prove 27 = .ok (.invokevirtual 336, 3) := by decide +kernel
theorem dM_prove_30 : decode cM_prove 30 = .ok (.istore_n 2, 1) := by decide +kernel
theorem dM_prove_31 : decode cM_prove 31 = .ok (.iconst 0, 1) := by decide +kernel
theorem dM_prove_32 : decode cM_prove 32 = .ok (.istore_n 3, 1) := by decide +kernel
theorem dM_prove_33 : decode cM_prove 33 = .ok (.iload_n 3, 1) := by decide +kernel
theorem dM_prove_34 : decode cM_prove 34 = .ok (.iconst 1, 1) := by decide +kernel
theorem dM_prove_35 : decode cM_prove 35 = .ok (.iload_n 2, 1) := by decide +kernel
theorem dM_prove_36 : decode cM_prove 36 = .ok (.ishl, 1) := by decide +kernel
theorem dM_prove_37 : decode cM_prove 37 = .ok (.if_icmp .ge 21, 3) := by decide +kernel
theorem dM_prove_40 : decode cM_prove 40 = .ok (.aload_n 0, 1) := by decide +kernel
theorem dM_prove_41 : decode cM_prove 41 = .ok (.iload_n 3, 1) := by decide +kernel
theorem dM_prove_42 : decode cM_prove 42 = .ok (.iload_n 2, 1) := by decide +kernel
theorem dM_prove_43 : decode cM_prove 43 = .ok (.iload_n 1, 1) := by decide +kernel
theorem dM_prove_44 : decode cM_prove 44 = .ok (.invokevirtual 348, 3) := by decide +kernel
theorem dM_prove_47 : decode cM_prove 47 = .ok (.ifCond .eq 5, 3) := by decide +kernel
theorem dM_prove_50 : decode cM_prove 50 = .ok (.iconst 0, 1) := by decide +kernel
theorem dM_prove_51 : decode cM_prove 51 = .ok (.ireturn, 1) := by decide +kernel
theorem dM_prove_52 : decode cM_prove 52 = .ok (.iinc 3 1, 3) := by decide +kernel
theorem dM_prove_55 : decode cM_prove 55 = .ok (.goto (-22), 3) := by decide +kernel
theorem dM_prove_58 : decode cM_prove 58 = .ok (.iconst 1, 1) := by decide +kernel
theorem dM_prove_59 : decode cM_prove 59 = .ok (.ireturn, 1) := by decide +kernel
