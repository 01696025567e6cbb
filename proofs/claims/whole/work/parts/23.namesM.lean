abbrev cM_in : ByteArray := prog_11_method_2_code
def yM_in : MethodName := ⟨"WordCheckerModel", "in", "(III)Z"⟩
theorem calM_in : CalS gT yM_in cM_in 3 (some .boolean) 3 := ⟨⟨gT_1 (i := 804) (by decide +kernel) rfl, gT_1 (i := 8) (by decide +kernel) rfl, by decide +kernel⟩, gT_1 (i := 803) (by decide +kernel) rfl⟩
theorem dM_in_0 : decode cM_in 0 = .ok (.iload_n 0, 1) := by decide +kernel
theorem dM_in_1 : decode cM_in 1 = .ok (.iload_n 1, 1) := by decide +kernel
theorem dM_in_2 : decode cM_in 2 = .ok (.if_icmp .lt 12, 3) := by decide +kernel
theorem dM_in_5 : decode cM_in 5 = .ok (.iload_n 0, 1) := by decide +kernel
theorem dM_in_6 : decode cM_in 6 = .ok (.iload_n 2, 1) := by decide +kernel
theorem dM_in_7 : decode cM_in 7 = .ok (.if_icmp .gt 7, 3) := by decide +kernel
theorem dM_in_10 : decode cM_in 10 = .ok (.iconst 1, 1) := by decide +kernel
theorem dM_in_11 : decode cM_in 11 = .ok (.goto 4, 3) := by decide +kernel
theorem dM_in_14 : decode cM_in 14 = .ok (.iconst 0, 1) := by decide +kernel
theorem dM_in_15 : decode cM_in 15 = .ok (.ireturn, 1) := by decide +kernel
abbrev cM_type : ByteArray := prog_11_method_3_code
def yM_type : MethodName := ⟨"WordCheckerModel", "type", "(II)Z"⟩
theorem calM_type : CalV gT yM_type cM_type 5 (some .boolean) 2 := ⟨⟨gT_1 (i := 801) (by decide +kernel) rfl, gT_1 (i := 8) (by decide +kernel) rfl, by decide +kernel⟩, gT_1 (i := 799) (by decide +kernel) rfl, gT_1 (i := 800) (by decide +kernel) rfl⟩
theorem dM_type_0 : decode cM_type 0 = .ok (.iload_n 2, 1) := by decide +kernel
theorem dM_type_1 : decode cM_type 1 = .ok (.iconst 1, 1) := by decide +kernel
theorem dM_type_2 : decode cM_type 2 = .ok (.iconst 4, 1) := by decide +kernel
theorem dM_type_3 : decode cM_type 3 = .ok (.invokestatic 75, 3) := by decide +kernel
theorem dM_type_6 : decode cM_type 6 = .ok (.ifCond .eq 18, 3) := by decide +kernel
theorem dM_type_9 : decode cM_type 9 = .ok (.aload_n 0, 1) := by decide +kernel
theorem dM_type_10 : decode cM_type 10 = .ok (.getfield 79, 3) := by decide +kernel
theorem dM_type_13 : decode cM_type 13 = .ok (.iload_n 2, 1) := by decide +kernel
theorem dM_type_14 : decode cM_type 14 = .ok (.iadd, 1) := by decide +kernel
theorem dM_type_15 : decode cM_type 15 = .ok (.bipush 40, 2) := by decide +kernel
theorem dM_type_17 : decode cM_type 17 = .ok (.if_icmp .gt 7, 3) := by decide +kernel
theorem dM_type_20 : decode cM_type 20 = .ok (.iconst 1, 1) := by decide +kernel
theorem dM_type_21 : decode cM_type 21 = .ok (.goto 4, 3) := by decide +kernel
theorem dM_type_24 : decode cM_type 24 = .ok (.iconst 0, 1) := by decide +kernel
theorem dM_type_25 : decode cM_type 25 = .ok (.istore_n 3, 1) := by decide +kernel
theorem dM_type_26 : decode cM_type 26 = .ok (.iconst 0, 1) := by decide +kernel
theorem dM_type_27 : decode cM_type 27 = .ok (.istore 4, 2) := by decide +kernel
theorem dM_type_29 : decode cM_type 29 = .ok (.iload 4, 2) := by decide +kernel
theorem dM_type_31 : decode cM_type 31 = .ok (.iload_n 2, 1) := by decide +kernel
theorem dM_type_32 : decode cM_type 32 = .ok (.if_icmp .ge 32, 3) := by decide +kernel
theorem dM_type_35 : decode cM_type 35 = .ok (.iload_n 3, 1) := by decide +kernel
theorem dM_type_36 : decode cM_type 36 = .ok (.ifCond .eq 28, 3) := by decide +kernel
theorem dM_type_39 : decode cM_type 39 = .ok (.iload_n 1, 1) := by decide +kernel
theorem dM_type_40 : decode cM_type 40 = .ok (.bipush 8, 2) := by decide +kernel
theorem dM_type_42 : decode cM_type 42 = .ok (.iload 4, 2) := by decide +kernel
theorem dM_type_44 : decode cM_type 44 = .ok (.imul, 1) := by decide +kernel
theorem dM_type_45 : decode cM_type 45 = .ok (.ishr, 1) := by decide +kernel
theorem dM_type_46 : decode cM_type 46 = .ok (.sipush 255, 3) := by decide +kernel
theorem dM_type_49 : decode cM_type 49 = .ok (.iand, 1) := by decide +kernel
theorem dM_type_50 : decode cM_type 50 = .ok (.bipush 32, 2) := by decide +kernel
theorem dM_type_52 : decode cM_type 52 = .ok (.bipush 126, 2) := by decide +kernel
theorem dM_type_54 : decode cM_type 54 = .ok (.invokestatic 75, 3) := by decide +kernel
theorem dM_type_57 : decode cM_type 57 = .ok (.istore_n 3, 1) := by decide +kernel
theorem dM_type_58 : decode cM_type 58 = .ok (.iinc 4 1, 3) := by decide +kernel
theorem dM_type_61 : decode cM_type 61 = .ok (.goto (-32), 3) := by decide +kernel
theorem dM_type_64 : decode cM_type 64 = .ok (.iload_n 2, 1) := by decide +kernel
theorem dM_type_65 : decode cM_type 65 = .ok (.iconst 1, 1) := by decide +kernel
theorem dM_type_66 : decode cM_type 66 = .ok (.isub, 1) := by decide +kernel
theorem dM_type_67 : decode cM_type 67 = .ok (.istore 4, 2) := by decide +kernel
theorem dM_type_69 : decode cM_type 69 = .ok (.iload 4, 2) := by decide +kernel
theorem dM_type_71 : decode cM_type 71 = .ok (.ifCond .lt 43, 3) := by decide +kernel
theorem dM_type_74 : decode cM_type 74 = .ok (.iload_n 3, 1) := by decide +kernel
theorem dM_type_75 : decode cM_type 75 = .ok (.ifCond .eq 39, 3) := by decide +kernel
theorem dM_type_78 : decode cM_type 78 = .ok (.aload_n 0, 1) := by decide +kernel
theorem dM_type_79 : decode cM_type 79 = .ok (.getfield 7, 3) := by decide +kernel
theorem dM_type_82 : decode cM_type 82 = .ok (.aload_n 0, 1) := by decide +kernel
theorem dM_type_83 : decode cM_type 83 = .ok (.getfield 79, 3) := by decide +kernel
theorem dM_type_86 : decode cM_type 86 = .ok (.iload_n 1, 1) := by decide +kernel
theorem dM_type_87 : decode cM_type 87 = .ok (.bipush 8, 2) := by decide +kernel
theorem dM_type_89 : decode cM_type 89 = .ok (.iload 4, 2) := by decide +kernel
theorem dM_type_91 : decode cM_type 91 = .ok (.imul, 1) := by decide +kernel
theorem dM_type_92 : decode cM_type 92 = .ok (.ishr, 1) := by decide +kernel
theorem dM_type_93 : decode cM_type 93 = .ok (.sipush 255, 3) := by decide +kernel
theorem dM_type_96 : decode cM_type 96 = .ok (.iand, 1) := by decide +kernel
theorem dM_type_97 : decode cM_type 97 = .ok (.iastore, 1) := by decide +kernel
theorem dM_type_98 : decode cM_type 98 = .ok (.aload_n 0, 1) := by decide +kernel
theorem dM_type_99 : decode cM_type 99 = .ok (.aload_n 0, 1) := by decide +kernel
theorem dM_type_100 : decode cM_type 100 = .ok (.getfield 79, 3) := by decide +kernel
theorem dM_type_103 : decode cM_type 103 = .ok (.iconst 1, 1) := by decide +kernel
theorem dM_type_104 : decode cM_type 104 = .ok (.iadd, 1) := by decide +kernel
theorem dM_type_105 : decode cM_type 105 = .ok (.putfield 79, 3) := by decide +kernel
theorem dM_type_108 : decode cM_type 108 = .ok (.iinc 4 (-1), 3) := by decide +kernel
theorem dM_type_111 : decode cM_type 111 = .ok (.goto (-42), 3) := by decide +kernel
theorem dM_type_114 : decode cM_type 114 = .ok (.iload_n 3, 1) := by decide +kernel
theorem dM_type_115 : decode cM_type 115 = .ok (.ireturn, 1) := by decide +kernel
abbrev cM_split : ByteArray := prog_11_method_4_code
def yM_split : MethodName := ⟨"WordCheckerModel", "split", "()V"⟩
theorem calM_split : CalV gT yM_split cM_split 3 none 0 := ⟨⟨gT_1 (i := 812) (by decide +kernel) rfl, gT_1 (i := 8) (by decide +kernel) rfl, by decide +kernel⟩, gT_1 (i := 811) (by decide +kernel) rfl, gT_s (q := (yM_split, 28)) (by decide +kernel)⟩
theorem dM_split_0 : decode cM_split 0 = .ok (.aload_n 0, 1) := by decide +kernel
theorem dM_split_1 : decode cM_split 1 = .ok (.iconst 0, 1) := by decide +kernel
theorem dM_split_2 : decode cM_split 2 = .ok (.putfield 82, 3) := by decide +kernel
theorem dM_split_5 : decode cM_split 5 = .ok (.iconst 0, 1) := by decide +kernel
theorem dM_split_6 : decode cM_split 6 = .ok (.istore_n 1, 1) := by decide +kernel
theorem dM_split_7 : decode cM_split 7 = .ok (.iload_n 1, 1) := by decide +kernel
theorem dM_split_8 : decode cM_split 8 = .ok (.aload_n 0, 1) := by decide +kernel
theorem dM_split_9 : decode cM_split 9 = .ok (.getfield 79, 3) := by decide +kernel
theorem dM_split_12 : decode cM_split 12 = .ok (.if_icmp .ge 92, 3) := by decide +kernel
theorem dM_split_15 : decode cM_split 15 = .ok (.aload_n 0, 1) := by decide +kernel
theorem dM_split_16 : decode cM_split 16 = .ok (.getfield 7, 3) := by decide +kernel
theorem dM_split_19 : decode cM_split 19 = .ok (.iload_n 1, 1) := by decide +kernel
theorem dM_split_20 : decode cM_split 20 = .ok (.iaload, 1) := by decide +kernel
theorem dM_split_21 : decode cM_split 21 = .ok (.bipush 32, 2) := by decide +kernel
theorem dM_split_23 : decode cM_split 23 = .ok (.if_icmp .eq 24, 3) := by decide +kernel
theorem dM_split_26 : decode cM_split 26 = .ok (.iload_n 1, 1) := by decide +kernel
theorem dM_split_27 : decode cM_split 27 = .ok (.ifCond .eq 16, 3) := by decide +kernel
theorem dM_split_30 : decode cM_split 30 = .ok (.aload_n 0, 1) := by decide +kernel
theorem dM_split_31 : decode cM_split 31 = .ok (.getfield 7, 3) := by decide +kernel
theorem dM_split_34 : decode cM_split 34 = .ok (.iload_n 1, 1) := by decide +kernel
theorem dM_split_35 : decode cM_split 35 = .ok (.iconst 1, 1) := by decide +kernel
theorem dM_split_36 : decode cM_split 36 = .ok (.isub, 1) := by decide +kernel
theorem dM_split_37 : decode cM_split 37 = .ok (.iaload, 1) := by decide +kernel
theorem dM_split_38 : decode cM_split 38 = .ok (.bipush 32, 2) := by decide +kernel
theorem dM_split_40 : decode cM_split 40 = .ok (.if_icmp .ne 7, 3) := by decide +kernel
theorem dM_split_43 : decode cM_split 43 = .ok (.iconst 1, 1) := by decide +kernel
theorem dM_split_44 : decode cM_split 44 = .ok (.goto 4, 3) := by decide +kernel
theorem dM_split_47 : decode cM_split 47 = .ok (.iconst 0, 1) := by decide +kernel
theorem dM_split_48 : decode cM_split 48 = .ok (.istore_n 2, 1) := by decide +kernel
theorem dM_split_49 : decode cM_split 49 = .ok (.iload_n 2, 1) := by decide +kernel
theorem dM_split_50 : decode cM_split 50 = .ok (.ifCond .eq 23, 3) := by decide +kernel
theorem dM_split_53 : decode cM_split 53 = .ok (.aload_n 0, 1) := by decide +kernel
theorem dM_split_54 : decode cM_split 54 = .ok (.getfield 13, 3) := by decide +kernel
theorem dM_split_57 : decode cM_split 57 = .ok (.aload_n 0, 1) := by decide +kernel
theorem dM_split_58 : decode cM_split 58 = .ok (.getfield 82, 3) := by decide +kernel
theorem dM_split_61 : decode cM_split 61 = .ok (.iload_n 1, 1) := by decide +kernel
theorem dM_split_62 : decode cM_split 62 = .ok (.iastore, 1) := by decide +kernel
theorem dM_split_63 : decode cM_split 63 = .ok (.aload_n 0, 1) := by decide +kernel
theorem dM_split_64 : decode cM_split 64 = .ok (.aload_n 0, 1) := by decide +kernel
theorem dM_split_65 : decode cM_split 65 = .ok (.getfield 82, 3) := by decide +kernel
theorem dM_split_68 : decode cM_split 68 = .ok (.iconst 1, 1) := by decide +kernel
theorem dM_split_69 : decode cM_split 69 = .ok (.iadd, 1) := by decide +kernel
theorem dM_split_70 : decode cM_split 70 = .ok (.putfield 82, 3) := by decide +kernel
theorem dM_split_73 : decode cM_split 73 = .ok (.aload_n 0, 1) := by decide +kernel
theorem dM_split_74 : decode cM_split 74 = .ok (.getfield 7, 3) := by decide +kernel
theorem dM_split_77 : decode cM_split 77 = .ok (.iload_n 1, 1) := by decide +kernel
theorem dM_split_78 : decode cM_split 78 = .ok (.iaload, 1) := by decide +kernel
theorem dM_split_79 : decode cM_split 79 = .ok (.bipush 32, 2) := by decide +kernel
theorem dM_split_81 : decode cM_split 81 = .ok (.if_icmp .eq 17, 3) := by decide +kernel
theorem dM_split_84 : decode cM_split 84 = .ok (.aload_n 0, 1) := by decide +kernel
theorem dM_split_85 : decode cM_split 85 = .ok (.getfield 16, 3) := by decide +kernel
theorem dM_split_88 : decode cM_split 88 = .ok (.aload_n 0, 1) := by decide +kernel
theorem dM_split_89 : decode cM_split 89 = .ok (.getfield 82, 3) := by decide +kernel
theorem dM_split_92 : decode cM_split 92 = .ok (.iconst 1, 1) := by decide +kernel
theorem dM_split_93 : decode cM_split 93 = .ok (.isub, 1) := by decide +kernel
theorem dM_split_94 : decode cM_split 94 = .ok (.iload_n 1, 1) := by decide +kernel
theorem dM_split_95 : decode cM_split 95 = .ok (.iconst 1, 1) := by decide +kernel
theorem dM_split_96 : decode cM_split 96 = .ok (.iadd, 1) := by decide +kernel
theorem dM_split_97 : decode cM_split 97 = .ok (.iastore, 1) := by decide +kernel
theorem dM_split_98 : decode cM_split 98 = .ok (.iinc 1 1, 3) := by decide +kernel
theorem dM_split_101 : decode cM_split 101 = .ok (.goto (-94), 3) := by decide +kernel
theorem dM_split_104 : decode cM_split 104 = .ok (.aload_n 0, 1) := by decide +kernel
theorem dM_split_105 : decode cM_split 105 = .ok (.iconst 0, 1) := by decide +kernel
theorem dM_split_106 : decode cM_split 106 = .ok (.putfield 79, 3) := by decide +kernel
theorem dM_split_109 : decode cM_split 109 = .ok (.return_, 1) := by decide +kernel
abbrev cM_digits : ByteArray := prog_11_method_5_code
def yM_digits : MethodName := ⟨"WordCheckerModel", "digits", "(II)I"⟩
theorem calM_digits : CalV gT yM_digits cM_digits 6 (some .int) 2 := ⟨⟨gT_1 (i := 824) (by decide +kernel) rfl, gT_1 (i := 8) (by decide +kernel) rfl, by decide +kernel⟩, gT_1 (i := 823) (by decide +kernel) rfl, gT_s (q := (yM_digits, 28)) (by decide +kernel)⟩
theorem dM_digits_0 : decode cM_digits 0 = .ok (.iload_n 2, 1) := by decide +kernel
theorem dM_digits_1 : decode cM_digits 1 = .ok (.iload_n 1, 1) := by decide +kernel
theorem dM_digits_2 : decode cM_digits 2 = .ok (.isub, 1) := by decide +kernel
theorem dM_digits_3 : decode cM_digits 3 = .ok (.iconst 1, 1) := by decide +kernel
theorem dM_digits_4 : decode cM_digits 4 = .ok (.iconst 2, 1) := by decide +kernel
theorem dM_digits_5 : decode cM_digits 5 = .ok (.invokestatic 75, 3) := by decide +kernel
theorem dM_digits_8 : decode cM_digits 8 = .ok (.ifCond .eq 25, 3) := by decide +kernel
theorem dM_digits_11 : decode cM_digits 11 = .ok (.iload_n 2, 1) := by decide +kernel
theorem dM_digits_12 : decode cM_digits 12 = .ok (.iload_n 1, 1) := by decide +kernel
theorem dM_digits_13 : decode cM_digits 13 = .ok (.isub, 1) := by decide +kernel
theorem dM_digits_14 : decode cM_digits 14 = .ok (.iconst 2, 1) := by decide +kernel
theorem dM_digits_15 : decode cM_digits 15 = .ok (.if_icmp .ne 14, 3) := by decide +kernel
theorem dM_digits_18 : decode cM_digits 18 = .ok (.aload_n 0, 1) := by decide +kernel
theorem dM_digits_19 : decode cM_digits 19 = .ok (.getfield 7, 3) := by decide +kernel
theorem dM_digits_22 : decode cM_digits 22 = .ok (.iload_n 1, 1) := by decide +kernel
theorem dM_digits_23 : decode cM_digits 23 = .ok (.iaload, 1) := by decide +kernel
theorem dM_digits_24 : decode cM_digits 24 = .ok (.bipush 48, 2) := by decide +kernel
theorem dM_digits_26 : decode cM_digits 26 = .ok (.if_icmp .eq 7, 3) := by decide +kernel
theorem dM_digits_29 : decode cM_digits 29 = .ok (.iconst 1, 1) := by decide +kernel
theorem dM_digits_30 : decode cM_digits 30 = .ok (.goto 4, 3) := by decide +kernel
theorem dM_digits_33 : decode cM_digits 33 = .ok (.iconst 0, 1) := by decide +kernel
theorem dM_digits_34 : decode cM_digits 34 = .ok (.istore_n 3, 1) := by decide +kernel
theorem dM_digits_35 : decode cM_digits 35 = .ok (.iconst 0, 1) := by decide +kernel
theorem dM_digits_36 : decode cM_digits 36 = .ok (.istore 4, 2) := by decide +kernel
theorem dM_digits_38 : decode cM_digits 38 = .ok (.iload_n 1, 1) := by decide +kernel
theorem dM_digits_39 : decode cM_digits 39 = .ok (.istore 5, 2) := by decide +kernel
theorem dM_digits_41 : decode cM_digits 41 = .ok (.iload 5, 2) := by decide +kernel
theorem dM_digits_43 : decode cM_digits 43 = .ok (.iload_n 2, 1) := by decide +kernel
theorem dM_digits_44 : decode cM_digits 44 = .ok (.if_icmp .ge 46, 3) := by decide +kernel
theorem dM_digits_47 : decode cM_digits 47 = .ok (.iload_n 3, 1) := by decide +kernel
theorem dM_digits_48 : decode cM_digits 48 = .ok (.ifCond .eq 42, 3) := by decide +kernel
theorem dM_digits_51 : decode cM_digits 51 = .ok (.aload_n 0, 1) := by decide +kernel
theorem dM_digits_52 : decode cM_digits 52 = .ok (.getfield 7, 3) := by decide +kernel
theorem dM_digits_55 : decode cM_digits 55 = .ok (.iload 5, 2) := by decide +kernel
theorem dM_digits_57 : decode cM_digits 57 = .ok (.iaload, 1) := by decide +kernel
theorem dM_digits_58 : decode cM_digits 58 = .ok (.bipush 48, 2) := by decide +kernel
theorem dM_digits_60 : decode cM_digits 60 = .ok (.bipush 57, 2) := by decide +kernel
theorem dM_digits_62 : decode cM_digits 62 = .ok (.invokestatic 75, 3) := by decide +kernel
theorem dM_digits_65 : decode cM_digits 65 = .ok (.istore_n 3, 1) := by decide +kernel
theorem dM_digits_66 : decode cM_digits 66 = .ok (.bipush 10, 2) := by decide +kernel
theorem dM_digits_68 : decode cM_digits 68 = .ok (.iload 4, 2) := by decide +kernel
theorem dM_digits_70 : decode cM_digits 70 = .ok (.imul, 1) := by decide +kernel
theorem dM_digits_71 : decode cM_digits 71 = .ok (.aload_n 0, 1) := by decide +kernel
theorem dM_digits_72 : decode cM_digits 72 = .ok (.getfield 7, 3) := by decide +kernel
theorem dM_digits_75 : decode cM_digits 75 = .ok (.iload 5, 2) := by decide +kernel
theorem dM_digits_77 : decode cM_digits 77 = .ok (.iaload, 1) := by decide +kernel
theorem dM_digits_78 : decode cM_digits 78 = .ok (.iadd, 1) := by decide +kernel
theorem dM_digits_79 : decode cM_digits 79 = .ok (.bipush 48, 2) := by decide +kernel
theorem dM_digits_81 : decode cM_digits 81 = .ok (.isub, 1) := by decide +kernel
theorem dM_digits_82 : decode cM_digits 82 = .ok (.istore 4, 2) := by decide +kernel
theorem dM_digits_84 : decode cM_digits 84 = .ok (.iinc 5 1, 3) := by decide +kernel
theorem dM_digits_87 : decode cM_digits 87 = .ok (.goto (-46), 3) := by decide +kernel
theorem dM_digits_90 : decode cM_digits 90 = .ok (.iload_n 3, 1) := by decide +kernel
theorem dM_digits_91 : decode cM_digits 91 = .ok (.ifCond .eq 8, 3) := by decide +kernel
theorem dM_digits_94 : decode cM_digits 94 = .ok (.iload 4, 2) := by decide +kernel
theorem dM_digits_96 : decode cM_digits 96 = .ok (.goto 4, 3) := by decide +kernel
theorem dM_digits_99 : decode cM_digits 99 = .ok (.iconst (-1), 1) := by decide +kernel
theorem dM_digits_100 : decode cM_digits 100 = .ok (.ireturn, 1) := by decide +kernel
abbrev cM_number : ByteArray := prog_11_method_6_code
def yM_number : MethodName := ⟨"WordCheckerModel", "number", "(I)I"⟩
theorem calM_number : CalV gT yM_number cM_number 2 (some .int) 1 := ⟨⟨gT_1 (i := 820) (by decide +kernel) rfl, gT_1 (i := 8) (by decide +kernel) rfl, by decide +kernel⟩, gT_1 (i := 819) (by decide +kernel) rfl, gT_s (q := (yM_number, 28)) (by decide +kernel)⟩
theorem dM_number_0 : decode cM_number 0 = .ok (.iload_n 1, 1) := by decide +kernel
theorem dM_number_1 : decode cM_number 1 = .ok (.aload_n 0, 1) := by decide +kernel
theorem dM_number_2 : decode cM_number 2 = .ok (.getfield 82, 3) := by decide +kernel
theorem dM_number_5 : decode cM_number 5 = .ok (.if_icmp .ge 22, 3) := by decide +kernel
theorem dM_number_8 : decode cM_number 8 = .ok (.aload_n 0, 1) := by decide +kernel
theorem dM_number_9 : decode cM_number 9 = .ok (.aload_n 0, 1) := by decide +kernel
theorem dM_number_10 : decode cM_number 10 = .ok (.getfield 13, 3) := by decide +kernel
theorem dM_number_13 : decode cM_number 13 = .ok (.iload_n 1, 1) := by decide +kernel
theorem dM_number_14 : decode cM_number 14 = .ok (.iaload, 1) := by decide +kernel
theorem dM_number_15 : decode cM_number 15 = .ok (.aload_n 0, 1) := by decide +kernel
theorem dM_number_16 : decode cM_number 16 = .ok (.getfield 16, 3) := by decide +kernel
theorem dM_number_19 : decode cM_number 19 = .ok (.iload_n 1, 1) := by decide +kernel
theorem dM_number_20 : decode cM_number 20 = .ok (.iaload, 1) := by decide +kernel
theorem dM_number_21 : decode cM_number 21 = .ok (.invokevirtual 85, 3) := by decide +kernel
theorem dM_number_24 : decode cM_number 24 = .ok (.goto 4, 3) := by decide +kernel
theorem dM_number_27 : decode cM_number 27 = .ok (.iconst (-1), 1) := by decide +kernel
theorem dM_number_28 : decode cM_number 28 = .ok (.ireturn, 1) := by decide +kernel
abbrev cM_letters : ByteArray := prog_11_method_7_code
def yM_letters : MethodName := ⟨"WordCheckerModel", "letters", "(I)J"⟩
theorem calM_letters : CalV gT yM_letters cM_letters 6 (some .long) 1 := ⟨⟨gT_1 (i := 832) (by decide +kernel) rfl, gT_1 (i := 8) (by decide +kernel) rfl, by decide +kernel⟩, gT_1 (i := 831) (by decide +kernel) rfl, gT_s (q := (yM_letters, 28)) (by decide +kernel)⟩
theorem dM_letters_0 : decode cM_letters 0 = .ok (.lconst 0, 1) := by decide +kernel
theorem dM_letters_1 : decode cM_letters 1 = .ok (.lstore_n 2, 1) := by decide +kernel
theorem dM_letters_2 : decode cM_letters 2 = .ok (.iload_n 1, 1) := by decide +kernel
theorem dM_letters_3 : decode cM_letters 3 = .ok (.aload_n 0, 1) := by decide +kernel
theorem dM_letters_4 : decode cM_letters 4 = .ok (.getfield 82, 3) := by decide +kernel
theorem dM_letters_7 : decode cM_letters 7 = .ok (.if_icmp .ge 25, 3) := by decide +kernel
theorem dM_letters_10 : decode cM_letters 10 = .ok (.aload_n 0, 1) := by decide +kernel
theorem dM_letters_11 : decode cM_letters 11 = .ok (.getfield 16, 3) := by decide +kernel
theorem dM_letters_14 : decode cM_letters 14 = .ok (.iload_n 1, 1) := by decide +kernel
theorem dM_letters_15 : decode cM_letters 15 = .ok (.iaload, 1) := by decide +kernel
theorem dM_letters_16 : decode cM_letters 16 = .ok (.aload_n 0, 1) := by decide +kernel
theorem dM_letters_17 : decode cM_letters 17 = .ok (.getfield 13, 3) := by decide +kernel
theorem dM_letters_20 : decode cM_letters 20 = .ok (.iload_n 1, 1) := by decide +kernel
theorem dM_letters_21 : decode cM_letters 21 = .ok (.iaload, 1) := by decide +kernel
theorem dM_letters_22 : decode cM_letters 22 = .ok (.isub, 1) := by decide +kernel
theorem dM_letters_23 : decode cM_letters 23 = .ok (.bipush 10, 2) := by decide +kernel
theorem dM_letters_25 : decode cM_letters 25 = .ok (.if_icmp .gt 7, 3) := by decide +kernel
theorem dM_letters_28 : decode cM_letters 28 = .ok (.iconst 1, 1) := by decide +kernel
theorem dM_letters_29 : decode cM_letters 29 = .ok (.goto 4, 3) := by decide +kernel
theorem dM_letters_32 : decode cM_letters 32 = .ok (.iconst 0, 1) := by decide +kernel
theorem dM_letters_33 : decode cM_letters 33 = .ok (.istore 4, 2) := by decide +kernel
theorem dM_letters_35 : decode cM_letters 35 = .ok (.iload 4, 2) := by decide +kernel
theorem dM_letters_37 : decode cM_letters 37 = .ok (.ifCond .eq 12, 3) := by decide +kernel
theorem dM_letters_40 : decode cM_letters 40 = .ok (.aload_n 0, 1) := by decide +kernel
theorem dM_letters_41 : decode cM_letters 41 = .ok (.getfield 13, 3) := by decide +kernel
theorem dM_letters_44 : decode cM_letters 44 = .ok (.iload_n 1, 1) := by decide +kernel
theorem dM_letters_45 : decode cM_letters 45 = .ok (.iaload, 1) := by decide +kernel
theorem dM_letters_46 : decode cM_letters 46 = .ok (.goto 4, 3) := by decide +kernel
theorem dM_letters_49 : decode cM_letters 49 = .ok (.iconst 0, 1) := by decide +kernel
theorem dM_letters_50 : decode cM_letters 50 = .ok (.istore 5, 2) := by decide +kernel
theorem dM_letters_52 : decode cM_letters 52 = .ok (.iload 4, 2) := by decide +kernel
theorem dM_letters_54 : decode cM_letters 54 = .ok (.ifCond .eq 55, 3) := by decide +kernel
theorem dM_letters_57 : decode cM_letters 57 = .ok (.iload 5, 2) := by decide +kernel
theorem dM_letters_59 : decode cM_letters 59 = .ok (.aload_n 0, 1) := by decide +kernel
theorem dM_letters_60 : decode cM_letters 60 = .ok (.getfield 16, 3) := by decide +kernel
theorem dM_letters_63 : decode cM_letters 63 = .ok (.iload_n 1, 1) := by decide +kernel
theorem dM_letters_64 : decode cM_letters 64 = .ok (.iaload, 1) := by decide +kernel
theorem dM_letters_65 : decode cM_letters 65 = .ok (.if_icmp .ge 44, 3) := by decide +kernel
theorem dM_letters_68 : decode cM_letters 68 = .ok (.aload_n 0, 1) := by decide +kernel
theorem dM_letters_69 : decode cM_letters 69 = .ok (.getfield 7, 3) := by decide +kernel
theorem dM_letters_72 : decode cM_letters 72 = .ok (.iload 5, 2) := by decide +kernel
theorem dM_letters_74 : decode cM_letters 74 = .ok (.iaload, 1) := by decide +kernel
theorem dM_letters_75 : decode cM_letters 75 = .ok (.bipush 97, 2) := by decide +kernel
theorem dM_letters_77 : decode cM_letters 77 = .ok (.bipush 122, 2) := by decide +kernel
theorem dM_letters_79 : decode cM_letters 79 = .ok (.invokestatic 75, 3) := by decide +kernel
theorem dM_letters_82 : decode cM_letters 82 = .ok (.istore 4, 2) := by decide +kernel
theorem dM_letters_84 : decode cM_letters 84 = .ok (.ldc2_w 89, 3) := by decide +kernel
theorem dM_letters_87 : decode cM_letters 87 = .ok (.lload_n 2, 1) := by decide +kernel
theorem dM_letters_88 : decode cM_letters 88 = .ok (.lmul, 1) := by decide +kernel
theorem dM_letters_89 : decode cM_letters 89 = .ok (.aload_n 0, 1) := by decide +kernel
theorem dM_letters_90 : decode cM_letters 90 = .ok (.getfield 7, 3) := by decide +kernel
theorem dM_letters_93 : decode cM_letters 93 = .ok (.iload 5, 2) := by decide +kernel
theorem dM_letters_95 : decode cM_letters 95 = .ok (.iaload, 1) := by decide +kernel
theorem dM_letters_96 : decode cM_letters 96 = .ok (.i2l, 1) := by decide +kernel
theorem dM_letters_97 : decode cM_letters 97 = .ok (.ladd, 1) := by decide +kernel
theorem dM_letters_98 : decode cM_letters 98 = .ok (.ldc2_w 91, 3) := by decide +kernel
theorem dM_letters_101 : decode cM_letters 101 = .ok (.lsub, 1) := by decide +kernel
theorem dM_letters_102 : decode cM_letters 102 = .ok (.lstore_n 2, 1) := by decide +kernel
theorem dM_letters_103 : decode cM_letters 103 = .ok (.iinc 5 1, 3) := by decide +kernel
theorem dM_letters_106 : decode cM_letters 106 = .ok (.goto (-54), 3) := by decide +kernel
theorem dM_letters_109 : decode cM_letters 109 = .ok (.iload 4, 2) := by decide +kernel
theorem dM_letters_111 : decode cM_letters 111 = .ok (.ifCond .eq 7, 3) := by decide +kernel
theorem dM_letters_114 : decode cM_letters 114 = .ok (.lload_n 2, 1) := by decide +kernel
theorem dM_letters_115 : decode cM_letters 115 = .ok (.goto 4, 3) := by decide +kernel
theorem dM_letters_118 : decode cM_letters 118 = .ok (.lconst 0, 1) := by decide +kernel
theorem dM_letters_119 : decode cM_letters 119 = .ok (.lreturn, 1) := by decide +kernel
abbrev cM_kindOf : ByteArray := prog_11_method_8_code
def yM_kindOf : MethodName := ⟨"WordCheckerModel", "kindOf", "(J)I"⟩
theorem calM_kindOf : CalS gT yM_kindOf cM_kindOf 3 (some .int) 1 := ⟨⟨gT_1 (i := 837) (by decide +kernel) rfl, gT_1 (i := 8) (by decide +kernel) rfl, by decide +kernel⟩, gT_1 (i := 836) (by decide +kernel) rfl⟩
theorem dM_kindOf_0 : decode cM_kindOf 0 = .ok (.iconst (-1), 1) := by decide +kernel
theorem dM_kindOf_1 : decode cM_kindOf 1 = .ok (.istore_n 2, 1) := by decide +kernel
theorem dM_kindOf_2 : decode cM_kindOf 2 = .ok (.lload_n 0, 1) := by decide +kernel
theorem dM_kindOf_3 : decode cM_kindOf 3 = .ok (.ldc2_w 93, 3) := by decide +kernel
theorem dM_kindOf_6 : decode cM_kindOf 6 = .ok (.lcmp, 1) := by decide +kernel
theorem dM_kindOf_7 : decode cM_kindOf 7 = .ok (.ifCond .ne 7, 3) := by decide +kernel
theorem dM_kindOf_10 : decode cM_kindOf 10 = .ok (.iconst 0, 1) := by decide +kernel
theorem dM_kindOf_11 : decode cM_kindOf 11 = .ok (.goto 4, 3) := by decide +kernel
theorem dM_kindOf_14 : decode cM_kindOf 14 = .ok (.iload_n 2, 1) := by decide +kernel
theorem dM_kindOf_15 : decode cM_kindOf 15 = .ok (.istore_n 2, 1) := by decide +kernel
theorem dM_kindOf_16 : decode cM_kindOf 16 = .ok (.lload_n 0, 1) := by decide +kernel
theorem dM_kindOf_17 : decode cM_kindOf 17 = .ok (.ldc2_w 95, 3) := by decide +kernel
theorem dM_kindOf_20 : decode cM_kindOf 20 = .ok (.lcmp, 1) := by decide +kernel
theorem dM_kindOf_21 : decode cM_kindOf 21 = .ok (.ifCond .ne 7, 3) := by decide +kernel
theorem dM_kindOf_24 : decode cM_kindOf 24 = .ok (.iconst 1, 1) := by decide +kernel
theorem dM_kindOf_25 : decode cM_kindOf 25 = .ok (.goto 4, 3) := by decide +kernel
theorem dM_kindOf_28 : decode cM_kindOf 28 = .ok (.iload_n 2, 1) := by decide +kernel
theorem dM_kindOf_29 : decode cM_kindOf 29 = .ok (.istore_n 2, 1) := by decide +kernel
theorem dM_kindOf_30 : decode cM_kindOf 30 = .ok (.lload_n 0, 1) := by decide +kernel
theorem dM_kindOf_31 : decode cM_kindOf 31 = .ok (.ldc2_w 97, 3) := by decide +kernel
theorem dM_kindOf_34 : decode cM_kindOf 34 = .ok (.lcmp, 1) := by decide +kernel
theorem dM_kindOf_35 : decode cM_kindOf 35 = .ok (.ifCond .ne 7, 3) := by decide +kernel
theorem dM_kindOf_38 : decode cM_kindOf 38 = .ok (.iconst 2, 1) := by decide +kernel
theorem dM_kindOf_39 : decode cM_kindOf 39 = .ok (.goto 4, 3) := by decide +kernel
theorem dM_kindOf_42 : decode cM_kindOf 42 = .ok (.iload_n 2, 1) := by decide +kernel
theorem dM_kindOf_43 : decode cM_kindOf 43 = .ok (.istore_n 2, 1) := by decide +kernel
theorem dM_kindOf_44 : decode cM_kindOf 44 = .ok (.lload_n 0, 1) := by decide +kernel
theorem dM_kindOf_45 : decode cM_kindOf 45 = .ok (.ldc2_w 99, 3) := by decide +kernel
theorem dM_kindOf_48 : decode cM_kindOf 48 = .ok (.lcmp, 1) := by decide +kernel
theorem dM_kindOf_49 : decode cM_kindOf 49 = .ok (.ifCond .ne 7, 3) := by decide +kernel
theorem dM_kindOf_52 : decode cM_kindOf 52 = .ok (.iconst 3, 1) := by decide +kernel
theorem dM_kindOf_53 : decode cM_kindOf 53 = .ok (.goto 4, 3) := by decide +kernel
theorem dM_kindOf_56 : decode cM_kindOf 56 = .ok (.iload_n 2, 1) := by decide +kernel
theorem dM_kindOf_57 : decode cM_kindOf 57 = .ok (.istore_n 2, 1) := by decide +kernel
theorem dM_kindOf_58 : decode cM_kindOf 58 = .ok (.lload_n 0, 1) := by decide +kernel
theorem dM_kindOf_59 : decode cM_kindOf 59 = .ok (.ldc2_w 101, 3) := by decide +kernel
theorem dM_kindOf_62 : decode cM_kindOf 62 = .ok (.lcmp, 1) := by decide +kernel
theorem dM_kindOf_63 : decode cM_kindOf 63 = .ok (.ifCond .ne 7, 3) := by decide +kernel
theorem dM_kindOf_66 : decode cM_kindOf 66 = .ok (.iconst 4, 1) := by decide +kernel
theorem dM_kindOf_67 : decode cM_kindOf 67 = .ok (.goto 4, 3) := by decide +kernel
theorem dM_kindOf_70 : decode cM_kindOf 70 = .ok (.iload_n 2, 1) := by decide +kernel
theorem dM_kindOf_71 : decode cM_kindOf 71 = .ok (.istore_n 2, 1) := by decide +kernel
theorem dM_kindOf_72 : decode cM_kindOf 72 = .ok (.lload_n 0, 1) := by decide +kernel
theorem dM_kindOf_73 : decode cM_kindOf 73 = .ok (.ldc2_w 103, 3) := by decide +kernel
theorem dM_kindOf_76 : decode cM_kindOf 76 = .ok (.lcmp, 1) := by decide +kernel
theorem dM_kindOf_77 : decode cM_kindOf 77 = .ok (.ifCond .ne 7, 3) := by decide +kernel
theorem dM_kindOf_80 : decode cM_kindOf 80 = .ok (.iconst 5, 1) := by decide +kernel
theorem dM_kindOf_81 : decode cM_kindOf 81 = .ok (.goto 4, 3) := by decide +kernel
theorem dM_kindOf_84 : decode cM_kindOf 84 = .ok (.iload_n 2, 1) := by decide +kernel
theorem dM_kindOf_85 : decode cM_kindOf 85 = .ok (.istore_n 2, 1) := by decide +kernel
theorem dM_kindOf_86 : decode cM_kindOf 86 = .ok (.lload_n 0, 1) := by decide +kernel
theorem dM_kindOf_87 : decode cM_kindOf 87 = .ok (.ldc2_w 105, 3) := by decide +kernel
theorem dM_kindOf_90 : decode cM_kindOf 90 = .ok (.lcmp, 1) := by decide +kernel
theorem dM_kindOf_91 : decode cM_kindOf 91 = .ok (.ifCond .ne 8, 3) := by decide +kernel
theorem dM_kindOf_94 : decode cM_kindOf 94 = .ok (.bipush 6, 2) := by decide +kernel
theorem dM_kindOf_96 : decode cM_kindOf 96 = .ok (.goto 4, 3) := by decide +kernel
theorem dM_kindOf_99 : decode cM_kindOf 99 = .ok (.iload_n 2, 1) := by decide +kernel
theorem dM_kindOf_100 : decode cM_kindOf 100 = .ok (.istore_n 2, 1) := by decide +kernel
theorem dM_kindOf_101 : decode cM_kindOf 101 = .ok (.lload_n 0, 1) := by decide +kernel
theorem dM_kindOf_102 : decode cM_kindOf 102 = .ok (.ldc2_w 107, 3) := by decide +kernel
theorem dM_kindOf_105 : decode cM_kindOf 105 = .ok (.lcmp, 1) := by decide +kernel
theorem dM_kindOf_106 : decode cM_kindOf 106 = .ok (.ifCond .ne 8, 3) := by decide +kernel
theorem dM_kindOf_109 : decode cM_kindOf 109 = .ok (.bipush 7, 2) := by decide +kernel
theorem dM_kindOf_111 : decode cM_kindOf 111 = .ok (.goto 4, 3) := by decide +kernel
theorem dM_kindOf_114 : decode cM_kindOf 114 = .ok (.iload_n 2, 1) := by decide +kernel
theorem dM_kindOf_115 : decode cM_kindOf 115 = .ok (.istore_n 2, 1) := by decide +kernel
theorem dM_kindOf_116 : decode cM_kindOf 116 = .ok (.lload_n 0, 1) := by decide +kernel
theorem dM_kindOf_117 : decode cM_kindOf 117 = .ok (.ldc2_w 109, 3) := by decide +kernel
theorem dM_kindOf_120 : decode cM_kindOf 120 = .ok (.lcmp, 1) := by decide +kernel
theorem dM_kindOf_121 : decode cM_kindOf 121 = .ok (.ifCond .ne 8, 3) := by decide +kernel
theorem dM_kindOf_124 : decode cM_kindOf 124 = .ok (.bipush 8, 2) := by decide +kernel
theorem dM_kindOf_126 : decode cM_kindOf 126 = .ok (.goto 4, 3) := by decide +kernel
theorem dM_kindOf_129 : decode cM_kindOf 129 = .ok (.iload_n 2, 1) := by decide +kernel
theorem dM_kindOf_130 : decode cM_kindOf 130 = .ok (.istore_n 2, 1) := by decide +kernel
theorem dM_kindOf_131 : decode cM_kindOf 131 = .ok (.lload_n 0, 1) := by decide +kernel
theorem dM_kindOf_132 : decode cM_kindOf 132 = .ok (.ldc2_w 111, 3) := by decide +kernel
theorem dM_kindOf_135 : decode cM_kindOf 135 = .ok (.lcmp, 1) := by decide +kernel
theorem dM_kindOf_136 : decode cM_kindOf 136 = .ok (.ifCond .ne 8, 3) := by decide +kernel
theorem dM_kindOf_139 : decode cM_kindOf 139 = .ok (.bipush 9, 2) := by decide +kernel
theorem dM_kindOf_141 : decode cM_kindOf 141 = .ok (.goto 4, 3) := by decide +kernel
theorem dM_kindOf_144 : decode cM_kindOf 144 = .ok (.iload_n 2, 1) := by decide +kernel
theorem dM_kindOf_145 : decode cM_kindOf 145 = .ok (.istore_n 2, 1) := by decide +kernel
theorem dM_kindOf_146 : decode cM_kindOf 146 = .ok (.lload_n 0, 1) := by decide +kernel
theorem dM_kindOf_147 : decode cM_kindOf 147 = .ok (.ldc2_w 113, 3) := by decide +kernel
theorem dM_kindOf_150 : decode cM_kindOf 150 = .ok (.lcmp, 1) := by decide +kernel
theorem dM_kindOf_151 : decode cM_kindOf 151 = .ok (.ifCond .ne 8, 3) := by decide +kernel
theorem dM_kindOf_154 : decode cM_kindOf 154 = .ok (.bipush 10, 2) := by decide +kernel
theorem dM_kindOf_156 : decode cM_kindOf 156 = .ok (.goto 4, 3) := by decide +kernel
theorem dM_kindOf_159 : decode cM_kindOf 159 = .ok (.iload_n 2, 1) := by decide +kernel
theorem dM_kindOf_160 : decode cM_kindOf 160 = .ok (.istore_n 2, 1) := by decide +kernel
theorem dM_kindOf_161 : decode cM_kindOf 161 = .ok (.lload_n 0, 1) := by decide +kernel
theorem dM_kindOf_162 : decode cM_kindOf 162 = .ok (.ldc2_w 115, 3) := by decide +kernel
theorem dM_kindOf_165 : decode cM_kindOf 165 = .ok (.lcmp, 1) := by decide +kernel
theorem dM_kindOf_166 : decode cM_kindOf 166 = .ok (.ifCond .ne 8, 3) := by decide +kernel
theorem dM_kindOf_169 : decode cM_kindOf 169 = .ok (.bipush 11, 2) := by decide +kernel
theorem dM_kindOf_171 : decode cM_kindOf 171 = .ok (.goto 4, 3) := by decide +kernel
theorem dM_kindOf_174 : decode cM_kindOf 174 = .ok (.iload_n 2, 1) := by decide +kernel
theorem dM_kindOf_175 : decode cM_kindOf 175 = .ok (.istore_n 2, 1) := by decide +kernel
theorem dM_kindOf_176 : decode cM_kindOf 176 = .ok (.lload_n 0, 1) := by decide +kernel
theorem dM_kindOf_177 : decode cM_kindOf 177 = .ok (.ldc2_w 117, 3) := by decide +kernel
theorem dM_kindOf_180 : decode cM_kindOf 180 = .ok (.lcmp, 1) := by decide +kernel
theorem dM_kindOf_181 : decode cM_kindOf 181 = .ok (.ifCond .ne 8, 3) := by decide +kernel
theorem dM_kindOf_184 : decode cM_kindOf 184 = .ok (.bipush 12, 2) := by decide +kernel
theorem dM_kindOf_186 : decode cM_kindOf 186 = .ok (.goto 4, 3) := by decide +kernel
theorem dM_kindOf_189 : decode cM_kindOf 189 = .ok (.iload_n 2, 1) := by decide +kernel
theorem dM_kindOf_190 : decode cM_kindOf 190 = .ok (.istore_n 2, 1) := by decide +kernel
theorem dM_kindOf_191 : decode cM_kindOf 191 = .ok (.lload_n 0, 1) := by decide +kernel
theorem dM_kindOf_192 : decode cM_kindOf 192 = .ok (.ldc2_w 119, 3) := by decide +kernel
theorem dM_kindOf_195 : decode cM_kindOf 195 = .ok (.lcmp, 1) := by decide +kernel
theorem dM_kindOf_196 : decode cM_kindOf 196 = .ok (.ifCond .ne 8, 3) := by decide +kernel
theorem dM_kindOf_199 : decode cM_kindOf 199 = .ok (.bipush 13, 2) := by decide +kernel
theorem dM_kindOf_201 : decode cM_kindOf 201 = .ok (.goto 4, 3) := by decide +kernel
theorem dM_kindOf_204 : decode cM_kindOf 204 = .ok (.iload_n 2, 1) := by decide +kernel
theorem dM_kindOf_205 : decode cM_kindOf 205 = .ok (.istore_n 2, 1) := by decide +kernel
theorem dM_kindOf_206 : decode cM_kindOf 206 = .ok (.lload_n 0, 1) := by decide +kernel
theorem dM_kindOf_207 : decode cM_kindOf 207 = .ok (.ldc2_w 121, 3) := by decide +kernel
theorem dM_kindOf_210 : decode cM_kindOf 210 = .ok (.lcmp, 1) := by decide +kernel
theorem dM_kindOf_211 : decode cM_kindOf 211 = .ok (.ifCond .ne 8, 3) := by decide +kernel
theorem dM_kindOf_214 : decode cM_kindOf 214 = .ok (.bipush 14, 2) := by decide +kernel
theorem dM_kindOf_216 : decode cM_kindOf 216 = .ok (.goto 4, 3) := by decide +kernel
theorem dM_kindOf_219 : decode cM_kindOf 219 = .ok (.iload_n 2, 1) := by decide +kernel
theorem dM_kindOf_220 : decode cM_kindOf 220 = .ok (.istore_n 2, 1) := by decide +kernel
theorem dM_kindOf_221 : decode cM_kindOf 221 = .ok (.lload_n 0, 1) := by decide +kernel
theorem dM_kindOf_222 : decode cM_kindOf 222 = .ok (.ldc2_w 123, 3) := by decide +kernel
theorem dM_kindOf_225 : decode cM_kindOf 225 = .ok (.lcmp, 1) := by decide +kernel
theorem dM_kindOf_226 : decode cM_kindOf 226 = .ok (.ifCond .ne 8, 3) := by decide +kernel
theorem dM_kindOf_229 : decode cM_kindOf 229 = .ok (.bipush 15, 2) := by decide +kernel
theorem dM_kindOf_231 : decode cM_kindOf 231 = .ok (.goto 4, 3) := by decide +kernel
theorem dM_kindOf_234 : decode cM_kindOf 234 = .ok (.iload_n 2, 1) := by decide +kernel
theorem dM_kindOf_235 : decode cM_kindOf 235 = .ok (.istore_n 2, 1) := by decide +kernel
theorem dM_kindOf_236 : decode cM_kindOf 236 = .ok (.lload_n 0, 1) := by decide +kernel
theorem dM_kindOf_237 : decode cM_kindOf 237 = .ok (.ldc2_w 125, 3) := by decide +kernel
theorem dM_kindOf_240 : decode cM_kindOf 240 = .ok (.lcmp, 1) := by decide +kernel
theorem dM_kindOf_241 : decode cM_kindOf 241 = .ok (.ifCond .ne 8, 3) := by decide +kernel
theorem dM_kindOf_244 : decode cM_kindOf 244 = .ok (.bipush 16, 2) := by decide +kernel
theorem dM_kindOf_246 : decode cM_kindOf 246 = .ok (.goto 4, 3) := by decide +kernel
theorem dM_kindOf_249 : decode cM_kindOf 249 = .ok (.iload_n 2, 1) := by decide +kernel
theorem dM_kindOf_250 : decode cM_kindOf 250 = .ok (.istore_n 2, 1) := by decide +kernel
theorem dM_kindOf_251 : decode cM_kindOf 251 = .ok (.lload_n 0, 1) := by decide +kernel
theorem dM_kindOf_252 : decode cM_kindOf 252 = .ok (.ldc2_w 127, 3) := by decide +kernel
theorem dM_kindOf_255 : decode cM_kindOf 255 = .ok (.lcmp, 1) := by decide +kernel
theorem dM_kindOf_256 : decode cM_kindOf 256 = .ok (.ifCond .ne 8, 3) := by decide +kernel
theorem dM_kindOf_259 : decode cM_kindOf 259 = .ok (.bipush 17, 2) := by decide +kernel
theorem dM_kindOf_261 : decode cM_kindOf 261 = .ok (.goto 4, 3) := by decide +kernel
theorem dM_kindOf_264 : decode cM_kindOf 264 = .ok (.iload_n 2, 1) := by decide +kernel
theorem dM_kindOf_265 : decode cM_kindOf 265 = .ok (.istore_n 2, 1) := by decide +kernel
theorem dM_kindOf_266 : decode cM_kindOf 266 = .ok (.lload_n 0, 1) := by decide +kernel
theorem dM_kindOf_267 : decode cM_kindOf 267 = .ok (.ldc2_w 129, 3) := by decide +kernel
theorem dM_kindOf_270 : decode cM_kindOf 270 = .ok (.lcmp, 1) := by decide +kernel
theorem dM_kindOf_271 : decode cM_kindOf 271 = .ok (.ifCond .ne 8, 3) := by decide +kernel
theorem dM_kindOf_274 : decode cM_kindOf 274 = .ok (.bipush 18, 2) := by decide +kernel
theorem dM_kindOf_276 : decode cM_kindOf 276 = .ok (.goto 4, 3) := by decide +kernel
theorem dM_kindOf_279 : decode cM_kindOf 279 = .ok (.iload_n 2, 1) := by decide +kernel
theorem dM_kindOf_280 : decode cM_kindOf 280 = .ok (.istore_n 2, 1) := by decide +kernel
theorem dM_kindOf_281 : decode cM_kindOf 281 = .ok (.lload_n 0, 1) := by decide +kernel
theorem dM_kindOf_282 : decode cM_kindOf 282 = .ok (.ldc2_w 131, 3) := by decide +kernel
theorem dM_kindOf_285 : decode cM_kindOf 285 = .ok (.lcmp, 1) := by decide +kernel
theorem dM_kindOf_286 : decode cM_kindOf 286 = .ok (.ifCond .ne 8, 3) := by decide +kernel
theorem dM_kindOf_289 : decode cM_kindOf 289 = .ok (.bipush 19, 2) := by decide +kernel
theorem dM_kindOf_291 : decode cM_kindOf 291 = .ok (.goto 4, 3) := by decide +kernel
theorem dM_kindOf_294 : decode cM_kindOf 294 = .ok (.iload_n 2, 1) := by decide +kernel
theorem dM_kindOf_295 : decode cM_kindOf 295 = .ok (.istore_n 2, 1) := by decide +kernel
theorem dM_kindOf_296 : decode cM_kindOf 296 = .ok (.lload_n 0, 1) := by decide +kernel
theorem dM_kindOf_297 : decode cM_kindOf 297 = .ok (.ldc2_w 133, 3) := by decide +kernel
theorem dM_kindOf_300 : decode cM_kindOf 300 = .ok (.lcmp, 1) := by decide +kernel
theorem dM_kindOf_301 : decode cM_kindOf 301 = .ok (.ifCond .ne 8, 3) := by decide +kernel
theorem dM_kindOf_304 : decode cM_kindOf 304 = .ok (.bipush 20, 2) := by decide +kernel
theorem dM_kindOf_306 : decode cM_kindOf 306 = .ok (.goto 4, 3) := by decide +kernel
theorem dM_kindOf_309 : decode cM_kindOf 309 = .ok (.iload_n 2, 1) := by decide +kernel
theorem dM_kindOf_310 : decode cM_kindOf 310 = .ok (.istore_n 2, 1) := by decide +kernel
theorem dM_kindOf_311 : decode cM_kindOf 311 = .ok (.lload_n 0, 1) := by decide +kernel
theorem dM_kindOf_312 : decode cM_kindOf 312 = .ok (.ldc2_w 135, 3) := by decide +kernel
theorem dM_kindOf_315 : decode cM_kindOf 315 = .ok (.lcmp, 1) := by decide +kernel
theorem dM_kindOf_316 : decode cM_kindOf 316 = .ok (.ifCond .ne 8, 3) := by decide +kernel
theorem dM_kindOf_319 : decode cM_kindOf 319 = .ok (.bipush 21, 2) := by decide +kernel
theorem dM_kindOf_321 : decode cM_kindOf 321 = .ok (.goto 4, 3) := by decide +kernel
theorem dM_kindOf_324 : decode cM_kindOf 324 = .ok (.iload_n 2, 1) := by decide +kernel
theorem dM_kindOf_325 : decode cM_kindOf 325 = .ok (.istore_n 2, 1) := by decide +kernel
theorem dM_kindOf_326 : decode cM_kindOf 326 = .ok (.lload_n 0, 1) := by decide +kernel
theorem dM_kindOf_327 : decode cM_kindOf 327 = .ok (.ldc2_w 137, 3) := by decide +kernel
theorem dM_kindOf_330 : decode cM_kindOf 330 = .ok (.lcmp, 1) := by decide +kernel
theorem dM_kindOf_331 : decode cM_kindOf 331 = .ok (.ifCond .ne 8, 3) := by decide +kernel
theorem dM_kindOf_334 : decode cM_kindOf 334 = .ok (.bipush 22, 2) := by decide +kernel
theorem dM_kindOf_336 : decode cM_kindOf 336 = .ok (.goto 4, 3) := by decide +kernel
theorem dM_kindOf_339 : decode cM_kindOf 339 = .ok (.iload_n 2, 1) := by decide +kernel
theorem dM_kindOf_340 : decode cM_kindOf 340 = .ok (.istore_n 2, 1) := by decide +kernel
theorem dM_kindOf_341 : decode cM_kindOf 341 = .ok (.lload_n 0, 1) := by decide +kernel
theorem dM_kindOf_342 : decode cM_kindOf 342 = .ok (.ldc2_w 139, 3) := by decide +kernel
theorem dM_kindOf_345 : decode cM_kindOf 345 = .ok (.lcmp, 1) := by decide +kernel
theorem dM_kindOf_346 : decode cM_kindOf 346 = .ok (.ifCond .ne 8, 3) := by decide +kernel
theorem dM_kindOf_349 : decode cM_kindOf 349 = .ok (.bipush 23, 2) := by decide +kernel
theorem dM_kindOf_351 : decode cM_kindOf 351 = .ok (.goto 4, 3) := by decide +kernel
theorem dM_kindOf_354 : decode cM_kindOf 354 = .ok (.iload_n 2, 1) := by decide +kernel
theorem dM_kindOf_355 : decode cM_kindOf 355 = .ok (.istore_n 2, 1) := by decide +kernel
theorem dM_kindOf_356 : decode cM_kindOf 356 = .ok (.lload_n 0, 1) := by decide +kernel
theorem dM_kindOf_357 : decode cM_kindOf 357 = .ok (.ldc2_w 141, 3) := by decide +kernel
theorem dM_kindOf_360 : decode cM_kindOf 360 = .ok (.lcmp, 1) := by decide +kernel
theorem dM_kindOf_361 : decode cM_kindOf 361 = .ok (.ifCond .ne 8, 3) := by decide +kernel
theorem dM_kindOf_364 : decode cM_kindOf 364 = .ok (.bipush 24, 2) := by decide +kernel
theorem dM_kindOf_366 : decode cM_kindOf 366 = .ok (.goto 4, 3) := by decide +kernel
theorem dM_kindOf_369 : decode cM_kindOf 369 = .ok (.iload_n 2, 1) := by decide +kernel
theorem dM_kindOf_370 : decode cM_kindOf 370 = .ok (.istore_n 2, 1) := by decide +kernel
theorem dM_kindOf_371 : decode cM_kindOf 371 = .ok (.lload_n 0, 1) := by decide +kernel
theorem dM_kindOf_372 : decode cM_kindOf 372 = .ok (.ldc2_w 143, 3) := by decide +kernel
theorem dM_kindOf_375 : decode cM_kindOf 375 = .ok (.lcmp, 1) := by decide +kernel
theorem dM_kindOf_376 : decode cM_kindOf 376 = .ok (.ifCond .ne 8, 3) := by decide +kernel
theorem dM_kindOf_379 : decode cM_kindOf 379 = .ok (.bipush 25, 2) := by decide +kernel
theorem dM_kindOf_381 : decode cM_kindOf 381 = .ok (.goto 4, 3) := by decide +kernel
theorem dM_kindOf_384 : decode cM_kindOf 384 = .ok (.iload_n 2, 1) := by decide +kernel
theorem dM_kindOf_385 : decode cM_kindOf 385 = .ok (.istore_n 2, 1) := by decide +kernel
theorem dM_kindOf_386 : decode cM_kindOf 386 = .ok (.lload_n 0, 1) := by decide +kernel
theorem dM_kindOf_387 : decode cM_kindOf 387 = .ok (.ldc2_w 145, 3) := by decide +kernel
theorem dM_kindOf_390 : decode cM_kindOf 390 = .ok (.lcmp, 1) := by decide +kernel
theorem dM_kindOf_391 : decode cM_kindOf 391 = .ok (.ifCond .ne 8, 3) := by decide +kernel
theorem dM_kindOf_394 : decode cM_kindOf 394 = .ok (.bipush 26, 2) := by decide +kernel
theorem dM_kindOf_396 : decode cM_kindOf 396 = .ok (.goto 4, 3) := by decide +kernel
theorem dM_kindOf_399 : decode cM_kindOf 399 = .ok (.iload_n 2, 1) := by decide +kernel
theorem dM_kindOf_400 : decode cM_kindOf 400 = .ok (.istore_n 2, 1) := by decide +kernel
theorem dM_kindOf_401 : decode cM_kindOf 401 = .ok (.lload_n 0, 1) := by decide +kernel
theorem dM_kindOf_402 : decode cM_kindOf 402 = .ok (.ldc2_w 147, 3) := by decide +kernel
theorem dM_kindOf_405 : decode cM_kindOf 405 = .ok (.lcmp, 1) := by decide +kernel
theorem dM_kindOf_406 : decode cM_kindOf 406 = .ok (.ifCond .ne 8, 3) := by decide +kernel
theorem dM_kindOf_409 : decode cM_kindOf 409 = .ok (.bipush 27, 2) := by decide +kernel
theorem dM_kindOf_411 : decode cM_kindOf 411 = .ok (.goto 4, 3) := by decide +kernel
theorem dM_kindOf_414 : decode cM_kindOf 414 = .ok (.iload_n 2, 1) := by decide +kernel
theorem dM_kindOf_415 : decode cM_kindOf 415 = .ok (.istore_n 2, 1) := by decide +kernel
theorem dM_kindOf_416 : decode cM_kindOf 416 = .ok (.lload_n 0, 1) := by decide +kernel
theorem dM_kindOf_417 : decode cM_kindOf 417 = .ok (.ldc2_w 149, 3) := by decide +kernel
theorem dM_kindOf_420 : decode cM_kindOf 420 = .ok (.lcmp, 1) := by decide +kernel
theorem dM_kindOf_421 : decode cM_kindOf 421 = .ok (.ifCond .ne 8, 3) := by decide +kernel
theorem dM_kindOf_424 : decode cM_kindOf 424 = .ok (.bipush 28, 2) := by decide +kernel
theorem dM_kindOf_426 : decode cM_kindOf 426 = .ok (.goto 4, 3) := by decide +kernel
theorem dM_kindOf_429 : decode cM_kindOf 429 = .ok (.iload_n 2, 1) := by decide +kernel
theorem dM_kindOf_430 : decode cM_kindOf 430 = .ok (.istore_n 2, 1) := by decide +kernel
theorem dM_kindOf_431 : decode cM_kindOf 431 = .ok (.lload_n 0, 1) := by decide +kernel
theorem dM_kindOf_432 : decode cM_kindOf 432 = .ok (.ldc2_w 151, 3) := by decide +kernel
theorem dM_kindOf_435 : decode cM_kindOf 435 = .ok (.lcmp, 1) := by decide +kernel
theorem dM_kindOf_436 : decode cM_kindOf 436 = .ok (.ifCond .ne 8, 3) := by decide +kernel
theorem dM_kindOf_439 : decode cM_kindOf 439 = .ok (.bipush 29, 2) := by decide +kernel
theorem dM_kindOf_441 : decode cM_kindOf 441 = .ok (.goto 4, 3) := by decide +kernel
theorem dM_kindOf_444 : decode cM_kindOf 444 = .ok (.iload_n 2, 1) := by decide +kernel
theorem dM_kindOf_445 : decode cM_kindOf 445 = .ok (.istore_n 2, 1) := by decide +kernel
theorem dM_kindOf_446 : decode cM_kindOf 446 = .ok (.lload_n 0, 1) := by decide +kernel
theorem dM_kindOf_447 : decode cM_kindOf 447 = .ok (.ldc2_w 153, 3) := by decide +kernel
theorem dM_kindOf_450 : decode cM_kindOf 450 = .ok (.lcmp, 1) := by decide +kernel
theorem dM_kindOf_451 : decode cM_kindOf 451 = .ok (.ifCond .ne 8, 3) := by decide +kernel
theorem dM_kindOf_454 : decode cM_kindOf 454 = .ok (.bipush 30, 2) := by decide +kernel
theorem dM_kindOf_456 : decode cM_kindOf 456 = .ok (.goto 4, 3) := by decide +kernel
theorem dM_kindOf_459 : decode cM_kindOf 459 = .ok (.iload_n 2, 1) := by decide +kernel
theorem dM_kindOf_460 : decode cM_kindOf 460 = .ok (.istore_n 2, 1) := by decide +kernel
theorem dM_kindOf_461 : decode cM_kindOf 461 = .ok (.iload_n 2, 1) := by decide +kernel
theorem dM_kindOf_462 : decode cM_kindOf 462 = .ok (.ireturn, 1) := by decide +kernel
abbrev cM_lineOf : ByteArray := prog_11_method_9_code
def yM_lineOf : MethodName := ⟨"WordCheckerModel", "lineOf", "(I)I"⟩
theorem calM_lineOf : CalV gT yM_lineOf cM_lineOf 4 (some .int) 1 := ⟨⟨gT_1 (i := 882) (by decide +kernel) rfl, gT_1 (i := 8) (by decide +kernel) rfl, by decide +kernel⟩, gT_1 (i := 881) (by decide +kernel) rfl, gT_s (q := (yM_lineOf, 28)) (by decide +kernel)⟩
theorem dM_lineOf_0 : decode cM_lineOf 0 = .ok (.iconst (-1), 1) := by decide +kernel
theorem dM_lineOf_1 : decode cM_lineOf 1 = .ok (.istore_n 2, 1) := by decide +kernel
theorem dM_lineOf_2 : decode cM_lineOf 2 = .ok (.iconst 0, 1) := by decide +kernel
theorem dM_lineOf_3 : decode cM_lineOf 3 = .ok (.istore_n 3, 1) := by decide +kernel
theorem dM_lineOf_4 : decode cM_lineOf 4 = .ok (.iload_n 3, 1) := by decide +kernel
theorem dM_lineOf_5 : decode cM_lineOf 5 = .ok (.aload_n 0, 1) := by decide +kernel
theorem dM_lineOf_6 : decode cM_lineOf 6 = .ok (.getfield 155, 3) := by decide +kernel
theorem dM_lineOf_9 : decode cM_lineOf 9 = .ok (.if_icmp .ge 25, 3) := by decide +kernel
theorem dM_lineOf_12 : decode cM_lineOf 12 = .ok (.aload_n 0, 1) := by decide +kernel
theorem dM_lineOf_13 : decode cM_lineOf 13 = .ok (.getfield 19, 3) := by decide +kernel
theorem dM_lineOf_16 : decode cM_lineOf 16 = .ok (.iload_n 3, 1) := by decide +kernel
theorem dM_lineOf_17 : decode cM_lineOf 17 = .ok (.iaload, 1) := by decide +kernel
theorem dM_lineOf_18 : decode cM_lineOf 18 = .ok (.iload_n 1, 1) := by decide +kernel
theorem dM_lineOf_19 : decode cM_lineOf 19 = .ok (.if_icmp .ne 7, 3) := by decide +kernel
theorem dM_lineOf_22 : decode cM_lineOf 22 = .ok (.iload_n 3, 1) := by decide +kernel
theorem dM_lineOf_23 : decode cM_lineOf 23 = .ok (.goto 4, 3) := by decide +kernel
theorem dM_lineOf_26 : decode cM_lineOf 26 = .ok (.iload_n 2, 1) := by decide +kernel
theorem dM_lineOf_27 : decode cM_lineOf 27 = .ok (.istore_n 2, 1) := by decide +kernel
theorem dM_lineOf_28 : decode cM_lineOf 28 = .ok (.iinc 3 1, 3) := by decide +kernel
theorem dM_lineOf_31 : decode cM_lineOf 31 = .ok (.goto (-27), 3) := by decide +kernel
theorem dM_lineOf_34 : decode cM_lineOf 34 = .ok (.iload_n 2, 1) := by decide +kernel
theorem dM_lineOf_35 : decode cM_lineOf 35 = .ok (.ireturn, 1) := by decide +kernel
abbrev cM_isNode : ByteArray := prog_11_method_10_code
def yM_isNode : MethodName := ⟨"WordCheckerModel", "isNode", "(I)Z"⟩
theorem calM_isNode : CalV gT yM_isNode cM_isNode 2 (some .boolean) 1 := ⟨⟨gT_1 (i := 910) (by decide +kernel) rfl, gT_1 (i := 8) (by decide +kernel) rfl, by decide +kernel⟩, gT_1 (i := 909) (by decide +kernel) rfl, gT_s (q := (yM_isNode, 28)) (by decide +kernel)⟩
theorem dM_isNode_0 : decode cM_isNode 0 = .ok (.iload_n 1, 1) := by decide +kernel
theorem dM_isNode_1 : decode cM_isNode 1 = .ok (.ifCond .lt 27, 3) := by decide +kernel
theorem dM_isNode_4 : decode cM_isNode 4 = .ok (.aload_n 0, 1) := by decide +kernel
theorem dM_isNode_5 : decode cM_isNode 5 = .ok (.getfield 22, 3) := by decide +kernel
theorem dM_isNode_8 : decode cM_isNode 8 = .ok (.iload_n 1, 1) := by decide +kernel
theorem dM_isNode_9 : decode cM_isNode 9 = .ok (.iaload, 1) := by decide +kernel
theorem dM_isNode_10 : decode cM_isNode 10 = .ok (.ifCond .eq 18, 3) := by decide +kernel
theorem dM_isNode_13 : decode cM_isNode 13 = .ok (.aload_n 0, 1) := by decide +kernel
theorem dM_isNode_14 : decode cM_isNode 14 = .ok (.getfield 22, 3) := by decide +kernel
theorem dM_isNode_17 : decode cM_isNode 17 = .ok (.iload_n 1, 1) := by decide +kernel
theorem dM_isNode_18 : decode cM_isNode 18 = .ok (.iaload, 1) := by decide +kernel
theorem dM_isNode_19 : decode cM_isNode 19 = .ok (.bipush 27, 2) := by decide +kernel
theorem dM_isNode_21 : decode cM_isNode 21 = .ok (.if_icmp .ge 7, 3) := by decide +kernel
theorem dM_isNode_24 : decode cM_isNode 24 = .ok (.iconst 1, 1) := by decide +kernel
theorem dM_isNode_25 : decode cM_isNode 25 = .ok (.goto 4, 3) := by decide +kernel
theorem dM_isNode_28 : decode cM_isNode 28 = .ok (.iconst 0, 1) := by decide +kernel
theorem dM_isNode_29 : decode cM_isNode 29 = .ok (.ireturn, 1) := by decide +kernel
abbrev cM_isBits : ByteArray := prog_11_method_11_code
def yM_isBits : MethodName := ⟨"WordCheckerModel", "isBits", "(I)Z"⟩
theorem calM_isBits : CalV gT yM_isBits cM_isBits 2 (some .boolean) 1 := ⟨⟨gT_1 (i := 886) (by decide +kernel) rfl, gT_1 (i := 8) (by decide +kernel) rfl, by decide +kernel⟩, gT_1 (i := 885) (by decide +kernel) rfl, gT_s (q := (yM_isBits, 28)) (by decide +kernel)⟩
theorem dM_isBits_0 : decode cM_isBits 0 = .ok (.aload_n 0, 1) := by decide +kernel
theorem dM_isBits_1 : decode cM_isBits 1 = .ok (.getfield 53, 3) := by decide +kernel
theorem dM_isBits_4 : decode cM_isBits 4 = .ok (.iload_n 1, 1) := by decide +kernel
theorem dM_isBits_5 : decode cM_isBits 5 = .ok (.baload, 1) := by decide +kernel
theorem dM_isBits_6 : decode cM_isBits 6 = .ok (.ifCond .ne 7, 3) := by decide +kernel
theorem dM_isBits_9 : decode cM_isBits 9 = .ok (.iconst 1, 1) := by decide +kernel
theorem dM_isBits_10 : decode cM_isBits 10 = .ok (.goto 4, 3) := by decide +kernel
theorem dM_isBits_13 : decode cM_isBits 13 = .ok (.iconst 0, 1) := by decide +kernel
theorem dM_isBits_14 : decode cM_isBits 14 = .ok (.ireturn, 1) := by decide +kernel
