abbrev cG_swapHighest : ByteArray := prog_5_method_15_code
def yG_swapHighest : MethodName := ⟨"WordChecker$Gates", "swapHighest", "()V"⟩
theorem calG_swapHighest : CalV gT yG_swapHighest cG_swapHighest 3 none 0 := ⟨⟨gT_1 (i := 562) (by decide +kernel) rfl, gT_1 (i := 4) (by decide +kernel) rfl, by decide +kernel⟩, gT_1 (i := 561) (by decide +kernel) rfl, gT_s (q := (yG_swapHighest, 9)) (by decide +kernel)⟩
theorem dG_swapHighest_0 : decode cG_swapHighest 0 = .ok (.aload_n 0, 1) := by decide +kernel
theorem dG_swapHighest_1 : decode cG_swapHighest 1 = .ok (.getfield 47, 3) := by decide +kernel
theorem dG_swapHighest_4 : decode cG_swapHighest 4 = .ok (.ifCond .le 49, 3) := by decide +kernel
theorem dG_swapHighest_7 : decode cG_swapHighest 7 = .ok (.aload_n 0, 1) := by decide +kernel
theorem dG_swapHighest_8 : decode cG_swapHighest 8 = .ok (.getfield 9, 3) := by decide +kernel
theorem dG_swapHighest_11 : decode cG_swapHighest 11 = .ok (.aload_n 0, 1) := by decide +kernel
theorem dG_swapHighest_12 : decode cG_swapHighest 12 = .ok (.getfield 47, 3) := by decide +kernel
theorem dG_swapHighest_15 : decode cG_swapHighest 15 = .ok (.iconst 1, 1) := by decide +kernel
theorem dG_swapHighest_16 : decode cG_swapHighest 16 = .ok (.isub, 1) := by decide +kernel
theorem dG_swapHighest_17 : decode cG_swapHighest 17 = .ok (.laload, 1) := by decide +kernel
theorem dG_swapHighest_18 : decode cG_swapHighest 18 = .ok (.lstore_n 1, 1) := by decide +kernel
theorem dG_swapHighest_19 : decode cG_swapHighest 19 = .ok (.aload_n 0, 1) := by decide +kernel
theorem dG_swapHighest_20 : decode cG_swapHighest 20 = .ok (.getfield 9, 3) := by decide +kernel
theorem dG_swapHighest_23 : decode cG_swapHighest 23 = .ok (.aload_n 0, 1) := by decide +kernel
theorem dG_swapHighest_24 : decode cG_swapHighest 24 = .ok (.getfield 47, 3) := by decide +kernel
theorem dG_swapHighest_27 : decode cG_swapHighest 27 = .ok (.iconst 1, 1) := by decide +kernel
theorem dG_swapHighest_28 : decode cG_swapHighest 28 = .ok (.isub, 1) := by decide +kernel
theorem dG_swapHighest_29 : decode cG_swapHighest 29 = .ok (.aload_n 0, 1) := by decide +kernel
theorem dG_swapHighest_30 : decode cG_swapHighest 30 = .ok (.getfield 15, 3) := by decide +kernel
theorem dG_swapHighest_33 : decode cG_swapHighest 33 = .ok (.aload_n 0, 1) := by decide +kernel
theorem dG_swapHighest_34 : decode cG_swapHighest 34 = .ok (.getfield 47, 3) := by decide +kernel
theorem dG_swapHighest_37 : decode cG_swapHighest 37 = .ok (.iconst 1, 1) := by decide +kernel
theorem dG_swapHighest_38 : decode cG_swapHighest 38 = .ok (.isub, 1) := by decide +kernel
theorem dG_swapHighest_39 : decode cG_swapHighest 39 = .ok (.laload, 1) := by decide +kernel
theorem dG_swapHighest_40 : decode cG_swapHighest 40 = .ok (.lastore, 1) := by decide +kernel
theorem dG_swapHighest_41 : decode cG_swapHighest 41 = .ok (.aload_n 0, 1) := by decide +kernel
theorem dG_swapHighest_42 : decode cG_swapHighest 42 = .ok (.getfield 15, 3) := by decide +kernel
theorem dG_swapHighest_45 : decode cG_swapHighest 45 = .ok (.aload_n 0, 1) := by decide +kernel
theorem dG_swapHighest_46 : decode cG_swapHighest 46 = .ok (.getfield 47, 3) := by decide +kernel
theorem dG_swapHighest_49 : decode cG_swapHighest 49 = .ok (.iconst 1, 1) := by decide +kernel
theorem dG_swapHighest_50 : decode cG_swapHighest 50 = .ok (.isub, 1) := by decide +kernel
theorem dG_swapHighest_51 : decode cG_swapHighest 51 = .ok (.lload_n 1, 1) := by decide +kernel
theorem dG_swapHighest_52 : decode cG_swapHighest 52 = .ok (.lastore, 1) := by decide +kernel
theorem dG_swapHighest_53 : decode cG_swapHighest 53 = .ok (.return_, 1) := by decide +kernel
abbrev cG_compare : ByteArray := prog_5_method_13_code
def yG_compare : MethodName := ⟨"WordChecker$Gates", "compare", "(LWordChecker$Kind;)J"⟩
theorem calG_compare : CalV gT yG_compare cG_compare 2 (some .long) 1 := ⟨⟨gT_1 (i := 554) (by decide +kernel) rfl, gT_1 (i := 4) (by decide +kernel) rfl, by decide +kernel⟩, gT_1 (i := 553) (by decide +kernel) rfl, gT_s (q := (yG_compare, 9)) (by decide +kernel)⟩
theorem dG_compare_0 : decode cG_compare 0 = .ok (.getstatic 83, 3) := by decide +kernel
theorem dG_compare_3 : decode cG_compare 3 = .ok (.aload_n 1, 1) := by decide +kernel
theorem dG_compare_4 : decode cG_compare 4 = .ok (.invokevirtual 92, 3) := by decide +kernel
theorem dG_compare_7 : decode cG_compare 7 = .ok (.iaload, 1) := by decide +kernel
theorem dG_compare_8 : decode cG_compare 8 = .ok (.tableswitch 55 15 18 #[32, 41, 55, 46], 32) := by decide +kernel
theorem dG_compare_40 : decode cG_compare 40 = .ok (.aload_n 0, 1) := by decide +kernel
theorem dG_compare_41 : decode cG_compare 41 = .ok (.invokevirtual 134, 3) := by decide +kernel
theorem dG_compare_44 : decode cG_compare 44 = .ok (.ldc2_w 81, 3) := by decide +kernel
theorem dG_compare_47 : decode cG_compare 47 = .ok (.lxor, 1) := by decide +kernel
theorem dG_compare_48 : decode cG_compare 48 = .ok (.lreturn, 1) := by decide +kernel
theorem dG_compare_49 : decode cG_compare 49 = .ok (.aload_n 0, 1) := by decide +kernel
theorem dG_compare_50 : decode cG_compare 50 = .ok (.invokevirtual 134, 3) := by decide +kernel
theorem dG_compare_53 : decode cG_compare 53 = .ok (.lreturn, 1) := by decide +kernel
theorem dG_compare_54 : decode cG_compare 54 = .ok (.aload_n 0, 1) := by decide +kernel
theorem dG_compare_55 : decode cG_compare 55 = .ok (.invokevirtual 138, 3) := by decide +kernel
theorem dG_compare_58 : decode cG_compare 58 = .ok (.aload_n 0, 1) := by decide +kernel
theorem dG_compare_59 : decode cG_compare 59 = .ok (.invokevirtual 141, 3) := by decide +kernel
theorem dG_compare_62 : decode cG_compare 62 = .ok (.lreturn, 1) := by decide +kernel
theorem dG_compare_63 : decode cG_compare 63 = .ok (.aload_n 0, 1) := by decide +kernel
theorem dG_compare_64 : decode cG_compare 64 = .ok (.invokevirtual 141, 3) := by decide +kernel
theorem dG_compare_67 : decode cG_compare 67 = .ok (.lreturn, 1) := by decide +kernel
abbrev cG_constant : ByteArray := prog_5_method_9_code
def yG_constant : MethodName := ⟨"WordChecker$Gates", "constant", "(I)V"⟩
theorem calG_constant : CalV gT yG_constant cG_constant 3 none 1 := ⟨⟨gT_1 (i := 534) (by decide +kernel) rfl, gT_1 (i := 4) (by decide +kernel) rfl, by decide +kernel⟩, gT_1 (i := 533) (by decide +kernel) rfl, gT_s (q := (yG_constant, 9)) (by decide +kernel)⟩
theorem dG_constant_0 : decode cG_constant 0 = .ok (.iconst 0, 1) := by decide +kernel
theorem dG_constant_1 : decode cG_constant 1 = .ok (.istore_n 2, 1) := by decide +kernel
theorem dG_constant_2 : decode cG_constant 2 = .ok (.iload_n 2, 1) := by decide +kernel
theorem dG_constant_3 : decode cG_constant 3 = .ok (.aload_n 0, 1) := by decide +kernel
theorem dG_constant_4 : decode cG_constant 4 = .ok (.getfield 40, 3) := by decide +kernel
theorem dG_constant_7 : decode cG_constant 7 = .ok (.if_icmp .ge 31, 3) := by decide +kernel
theorem dG_constant_10 : decode cG_constant 10 = .ok (.aload_n 0, 1) := by decide +kernel
theorem dG_constant_11 : decode cG_constant 11 = .ok (.getfield 21, 3) := by decide +kernel
theorem dG_constant_14 : decode cG_constant 14 = .ok (.iload_n 2, 1) := by decide +kernel
theorem dG_constant_15 : decode cG_constant 15 = .ok (.iload_n 1, 1) := by decide +kernel
theorem dG_constant_16 : decode cG_constant 16 = .ok (.i2l, 1) := by decide +kernel
theorem dG_constant_17 : decode cG_constant 17 = .ok (.iload_n 2, 1) := by decide +kernel
theorem dG_constant_18 : decode cG_constant 18 = .ok (.invokestatic 122, 3) := by decide +kernel
theorem dG_constant_21 : decode cG_constant 21 = .ok (.ifCond .eq 9, 3) := by decide +kernel
theorem dG_constant_24 : decode cG_constant 24 = .ok (.ldc2_w 81, 3) := by decide +kernel
theorem dG_constant_27 : decode cG_constant 27 = .ok (.goto 4, 3) := by decide +kernel
theorem dG_constant_30 : decode cG_constant 30 = .ok (.lconst 0, 1) := by decide +kernel
theorem dG_constant_31 : decode cG_constant 31 = .ok (.lastore, 1) := by decide +kernel
theorem dG_constant_32 : decode cG_constant 32 = .ok (.iinc 2 1, 3) := by decide +kernel
theorem dG_constant_35 : decode cG_constant 35 = .ok (.goto (-33), 3) := by decide +kernel
theorem dG_constant_38 : decode cG_constant 38 = .ok (.return_, 1) := by decide +kernel
abbrev cG_cut : ByteArray := prog_5_method_10_code
def yG_cut : MethodName := ⟨"WordChecker$Gates", "cut", "(I)V"⟩
theorem calG_cut : CalV gT yG_cut cG_cut 3 none 1 := ⟨⟨gT_1 (i := 539) (by decide +kernel) rfl, gT_1 (i := 4) (by decide +kernel) rfl, by decide +kernel⟩, gT_1 (i := 538) (by decide +kernel) rfl, gT_s (q := (yG_cut, 9)) (by decide +kernel)⟩
theorem dG_cut_0 : decode cG_cut 0 = .ok (.iconst 0, 1) := by decide +kernel
theorem dG_cut_1 : decode cG_cut 1 = .ok (.istore_n 2, 1) := by decide +kernel
theorem dG_cut_2 : decode cG_cut 2 = .ok (.iload_n 2, 1) := by decide +kernel
theorem dG_cut_3 : decode cG_cut 3 = .ok (.aload_n 0, 1) := by decide +kernel
theorem dG_cut_4 : decode cG_cut 4 = .ok (.getfield 40, 3) := by decide +kernel
theorem dG_cut_7 : decode cG_cut 7 = .ok (.if_icmp .ge 33, 3) := by decide +kernel
theorem dG_cut_10 : decode cG_cut 10 = .ok (.iload_n 1, 1) := by decide +kernel
theorem dG_cut_11 : decode cG_cut 11 = .ok (.iload_n 2, 1) := by decide +kernel
theorem dG_cut_12 : decode cG_cut 12 = .ok (.iadd, 1) := by decide +kernel
theorem dG_cut_13 : decode cG_cut 13 = .ok (.aload_n 0, 1) := by decide +kernel
theorem dG_cut_14 : decode cG_cut 14 = .ok (.getfield 47, 3) := by decide +kernel
theorem dG_cut_17 : decode cG_cut 17 = .ok (.if_icmp .ge 23, 3) := by decide +kernel
theorem dG_cut_20 : decode cG_cut 20 = .ok (.aload_n 0, 1) := by decide +kernel
theorem dG_cut_21 : decode cG_cut 21 = .ok (.getfield 21, 3) := by decide +kernel
theorem dG_cut_24 : decode cG_cut 24 = .ok (.iload_n 2, 1) := by decide +kernel
theorem dG_cut_25 : decode cG_cut 25 = .ok (.aload_n 0, 1) := by decide +kernel
theorem dG_cut_26 : decode cG_cut 26 = .ok (.getfield 9, 3) := by decide +kernel
theorem dG_cut_29 : decode cG_cut 29 = .ok (.iload_n 1, 1) := by decide +kernel
theorem dG_cut_30 : decode cG_cut 30 = .ok (.iload_n 2, 1) := by decide +kernel
theorem dG_cut_31 : decode cG_cut 31 = .ok (.iadd, 1) := by decide +kernel
theorem dG_cut_32 : decode cG_cut 32 = .ok (.laload, 1) := by decide +kernel
theorem dG_cut_33 : decode cG_cut 33 = .ok (.lastore, 1) := by decide +kernel
theorem dG_cut_34 : decode cG_cut 34 = .ok (.iinc 2 1, 3) := by decide +kernel
theorem dG_cut_37 : decode cG_cut 37 = .ok (.goto (-35), 3) := by decide +kernel
theorem dG_cut_40 : decode cG_cut 40 = .ok (.return_, 1) := by decide +kernel
abbrev cG_joinBit : ByteArray := prog_5_method_12_code
def yG_joinBit : MethodName := ⟨"WordChecker$Gates", "joinBit", "(LWordChecker$Kind;I)J"⟩
theorem calG_joinBit : CalV gT yG_joinBit cG_joinBit 3 (some .long) 2 := ⟨⟨gT_1 (i := 547) (by decide +kernel) rfl, gT_1 (i := 4) (by decide +kernel) rfl, by decide +kernel⟩, gT_1 (i := 546) (by decide +kernel) rfl, gT_s (q := (yG_joinBit, 9)) (by decide +kernel)⟩
theorem dG_joinBit_0 : decode cG_joinBit 0 = .ok (.getstatic 83, 3) := by decide +kernel
theorem dG_joinBit_3 : decode cG_joinBit 3 = .ok (.aload_n 1, 1) := by decide +kernel
theorem dG_joinBit_4 : decode cG_joinBit 4 = .ok (.invokevirtual 92, 3) := by decide +kernel
theorem dG_joinBit_7 : decode cG_joinBit 7 = .ok (.iaload, 1) := by decide +kernel
theorem dG_joinBit_8 : decode cG_joinBit 8 = .ok (.tableswitch 85 10 13 #[32, 43, 57, 71], 32) := by decide +kernel
theorem dG_joinBit_40 : decode cG_joinBit 40 = .ok (.aload_n 0, 1) := by decide +kernel
theorem dG_joinBit_41 : decode cG_joinBit 41 = .ok (.getfield 9, 3) := by decide +kernel
theorem dG_joinBit_44 : decode cG_joinBit 44 = .ok (.iload_n 2, 1) := by decide +kernel
theorem dG_joinBit_45 : decode cG_joinBit 45 = .ok (.laload, 1) := by decide +kernel
theorem dG_joinBit_46 : decode cG_joinBit 46 = .ok (.ldc2_w 81, 3) := by decide +kernel
theorem dG_joinBit_49 : decode cG_joinBit 49 = .ok (.lxor, 1) := by decide +kernel
theorem dG_joinBit_50 : decode cG_joinBit 50 = .ok (.lreturn, 1) := by decide +kernel
theorem dG_joinBit_51 : decode cG_joinBit 51 = .ok (.aload_n 0, 1) := by decide +kernel
theorem dG_joinBit_52 : decode cG_joinBit 52 = .ok (.getfield 9, 3) := by decide +kernel
theorem dG_joinBit_55 : decode cG_joinBit 55 = .ok (.iload_n 2, 1) := by decide +kernel
theorem dG_joinBit_56 : decode cG_joinBit 56 = .ok (.laload, 1) := by decide +kernel
theorem dG_joinBit_57 : decode cG_joinBit 57 = .ok (.aload_n 0, 1) := by decide +kernel
theorem dG_joinBit_58 : decode cG_joinBit 58 = .ok (.getfield 15, 3) := by decide +kernel
theorem dG_joinBit_61 : decode cG_joinBit 61 = .ok (.iload_n 2, 1) := by decide +kernel
theorem dG_joinBit_62 : decode cG_joinBit 62 = .ok (.laload, 1) := by decide +kernel
theorem dG_joinBit_63 : decode cG_joinBit 63 = .ok (.land, 1) := by decide +kernel
theorem dG_joinBit_64 : decode cG_joinBit 64 = .ok (.lreturn, 1) := by decide +kernel
theorem dG_joinBit_65 : decode cG_joinBit 65 = .ok (.aload_n 0, 1) := by decide +kernel
theorem dG_joinBit_66 : decode cG_joinBit 66 = .ok (.getfield 9, 3) := by decide +kernel
theorem dG_joinBit_69 : decode cG_joinBit 69 = .ok (.iload_n 2, 1) := by decide +kernel
theorem dG_joinBit_70 : decode cG_joinBit 70 = .ok (.laload, 1) := by decide +kernel
theorem dG_joinBit_71 : decode cG_joinBit 71 = .ok (.aload_n 0, 1) := by decide +kernel
theorem dG_joinBit_72 : decode cG_joinBit 72 = .ok (.getfield 15, 3) := by decide +kernel
theorem dG_joinBit_75 : decode cG_joinBit 75 = .ok (.iload_n 2, 1) := by decide +kernel
theorem dG_joinBit_76 : decode cG_joinBit 76 = .ok (.laload, 1) := by decide +kernel
theorem dG_joinBit_77 : decode cG_joinBit 77 = .ok (.lor, 1) := by decide +kernel
theorem dG_joinBit_78 : decode cG_joinBit 78 = .ok (.lreturn, 1) := by decide +kernel
theorem dG_joinBit_79 : decode cG_joinBit 79 = .ok (.aload_n 0, 1) := by decide +kernel
theorem dG_joinBit_80 : decode cG_joinBit 80 = .ok (.getfield 9, 3) := by decide +kernel
theorem dG_joinBit_83 : decode cG_joinBit 83 = .ok (.iload_n 2, 1) := by decide +kernel
theorem dG_joinBit_84 : decode cG_joinBit 84 = .ok (.laload, 1) := by decide +kernel
theorem dG_joinBit_85 : decode cG_joinBit 85 = .ok (.aload_n 0, 1) := by decide +kernel
theorem dG_joinBit_86 : decode cG_joinBit 86 = .ok (.getfield 15, 3) := by decide +kernel
theorem dG_joinBit_89 : decode cG_joinBit 89 = .ok (.iload_n 2, 1) := by decide +kernel
theorem dG_joinBit_90 : decode cG_joinBit 90 = .ok (.laload, 1) := by decide +kernel
theorem dG_joinBit_91 : decode cG_joinBit 91 = .ok (.lxor, 1) := by decide +kernel
theorem dG_joinBit_92 : decode cG_joinBit 92 = .ok (.lreturn, 1) := by decide +kernel
theorem dG_joinBit_93 : decode cG_joinBit 93 = .ok (.aload_n 0, 1) := by decide +kernel
theorem dG_joinBit_94 : decode cG_joinBit 94 = .ok (.getfield 9, 3) := by decide +kernel
theorem dG_joinBit_97 : decode cG_joinBit 97 = .ok (.iconst 0, 1) := by decide +kernel
theorem dG_joinBit_98 : decode cG_joinBit 98 = .ok (.laload, 1) := by decide +kernel
theorem dG_joinBit_99 : decode cG_joinBit 99 = .ok (.aload_n 0, 1) := by decide +kernel
theorem dG_joinBit_100 : decode cG_joinBit 100 = .ok (.getfield 15, 3) := by decide +kernel
theorem dG_joinBit_103 : decode cG_joinBit 103 = .ok (.iload_n 2, 1) := by decide +kernel
theorem dG_joinBit_104 : decode cG_joinBit 104 = .ok (.laload, 1) := by decide +kernel
theorem dG_joinBit_105 : decode cG_joinBit 105 = .ok (.aload_n 0, 1) := by decide +kernel
theorem dG_joinBit_106 : decode cG_joinBit 106 = .ok (.getfield 18, 3) := by decide +kernel
theorem dG_joinBit_109 : decode cG_joinBit 109 = .ok (.iload_n 2, 1) := by decide +kernel
theorem dG_joinBit_110 : decode cG_joinBit 110 = .ok (.laload, 1) := by decide +kernel
theorem dG_joinBit_111 : decode cG_joinBit 111 = .ok (.invokestatic 130, 3) := by decide +kernel
theorem dG_joinBit_114 : decode cG_joinBit 114 = .ok (.lreturn, 1) := by decide +kernel
abbrev cG_joinByBits : ByteArray := prog_5_method_11_code
def yG_joinByBits : MethodName := ⟨"WordChecker$Gates", "joinByBits", "(LWordChecker$Kind;)V"⟩
theorem calG_joinByBits : CalV gT yG_joinByBits cG_joinByBits 3 none 1 := ⟨⟨gT_1 (i := 543) (by decide +kernel) rfl, gT_1 (i := 4) (by decide +kernel) rfl, by decide +kernel⟩, gT_1 (i := 542) (by decide +kernel) rfl, gT_s (q := (yG_joinByBits, 9)) (by decide +kernel)⟩
theorem dG_joinByBits_0 : decode cG_joinByBits 0 = .ok (.iconst 0, 1) := by decide +kernel
theorem dG_joinByBits_1 : decode cG_joinByBits 1 = .ok (.istore_n 2, 1) := by decide +kernel
theorem dG_joinByBits_2 : decode cG_joinByBits 2 = .ok (.iload_n 2, 1) := by decide +kernel
theorem dG_joinByBits_3 : decode cG_joinByBits 3 = .ok (.aload_n 0, 1) := by decide +kernel
theorem dG_joinByBits_4 : decode cG_joinByBits 4 = .ok (.getfield 40, 3) := by decide +kernel
theorem dG_joinByBits_7 : decode cG_joinByBits 7 = .ok (.if_icmp .ge 21, 3) := by decide +kernel
theorem dG_joinByBits_10 : decode cG_joinByBits 10 = .ok (.aload_n 0, 1) := by decide +kernel
theorem dG_joinByBits_11 : decode cG_joinByBits 11 = .ok (.getfield 21, 3) := by decide +kernel
theorem dG_joinByBits_14 : decode cG_joinByBits 14 = .ok (.iload_n 2, 1) := by decide +kernel
theorem dG_joinByBits_15 : decode cG_joinByBits 15 = .ok (.aload_n 0, 1) := by decide +kernel
theorem dG_joinByBits_16 : decode cG_joinByBits 16 = .ok (.aload_n 1, 1) := by decide +kernel
theorem dG_joinByBits_17 : decode cG_joinByBits 17 = .ok (.iload_n 2, 1) := by decide +kernel
theorem dG_joinByBits_18 : decode cG_joinByBits 18 = .ok (.invokevirtual 126, 3) := by decide +kernel
theorem dG_joinByBits_21 : decode cG_joinByBits 21 = .ok (.lastore, 1) := by decide +kernel
theorem dG_joinByBits_22 : decode cG_joinByBits 22 = .ok (.iinc 2 1, 3) := by decide +kernel
theorem dG_joinByBits_25 : decode cG_joinByBits 25 = .ok (.goto (-23), 3) := by decide +kernel
theorem dG_joinByBits_28 : decode cG_joinByBits 28 = .ok (.return_, 1) := by decide +kernel
abbrev cG_carryOf : ByteArray := prog_5_method_7_code
def yG_carryOf : MethodName := ⟨"WordChecker$Gates", "carryOf", "(JJJ)J"⟩
theorem calG_carryOf : CalS gT yG_carryOf cG_carryOf 6 (some .long) 3 := ⟨⟨gT_1 (i := 581) (by decide +kernel) rfl, gT_1 (i := 4) (by decide +kernel) rfl, by decide +kernel⟩, gT_1 (i := 580) (by decide +kernel) rfl⟩
theorem dG_carryOf_0 : decode cG_carryOf 0 = .ok (.lload_n 0, 1) := by decide +kernel
theorem dG_carryOf_1 : decode cG_carryOf 1 = .ok (.lload_n 2, 1) := by decide +kernel
theorem dG_carryOf_2 : decode cG_carryOf 2 = .ok (.land, 1) := by decide +kernel
theorem dG_carryOf_3 : decode cG_carryOf 3 = .ok (.lload 4, 2) := by decide +kernel
theorem dG_carryOf_5 : decode cG_carryOf 5 = .ok (.lload_n 0, 1) := by decide +kernel
theorem dG_carryOf_6 : decode cG_carryOf 6 = .ok (.lload_n 2, 1) := by decide +kernel
theorem dG_carryOf_7 : decode cG_carryOf 7 = .ok (.lxor, 1) := by decide +kernel
theorem dG_carryOf_8 : decode cG_carryOf 8 = .ok (.land, 1) := by decide +kernel
theorem dG_carryOf_9 : decode cG_carryOf 9 = .ok (.lor, 1) := by decide +kernel
theorem dG_carryOf_10 : decode cG_carryOf 10 = .ok (.lreturn, 1) := by decide +kernel
abbrev cG_addUp : ByteArray := prog_5_method_19_code
def yG_addUp : MethodName := ⟨"WordChecker$Gates", "addUp", "([J[JJ)V"⟩
theorem calG_addUp : CalV gT yG_addUp cG_addUp 10 none 3 := ⟨⟨gT_1 (i := 578) (by decide +kernel) rfl, gT_1 (i := 4) (by decide +kernel) rfl, by decide +kernel⟩, gT_1 (i := 577) (by decide +kernel) rfl, gT_s (q := (yG_addUp, 9)) (by decide +kernel)⟩
theorem dG_addUp_0 : decode cG_addUp 0 = .ok (.lload_n 3, 1) := by decide +kernel
theorem dG_addUp_1 : decode cG_addUp 1 = .ok (.lstore 5, 2) := by decide +kernel
theorem dG_addUp_3 : decode cG_addUp 3 = .ok (.iconst 0, 1) := by decide +kernel
theorem dG_addUp_4 : decode cG_addUp 4 = .ok (.istore 7, 2) := by decide +kernel
theorem dG_addUp_6 : decode cG_addUp 6 = .ok (.iload 7, 2) := by decide +kernel
theorem dG_addUp_8 : decode cG_addUp 8 = .ok (.aload_n 0, 1) := by decide +kernel
theorem dG_addUp_9 : decode cG_addUp 9 = .ok (.getfield 40, 3) := by decide +kernel
theorem dG_addUp_12 : decode cG_addUp 12 = .ok (.if_icmp .ge 47, 3) := by decide +kernel
theorem dG_addUp_15 : decode cG_addUp 15 = .ok (.aload_n 2, 1) := by decide +kernel
theorem dG_addUp_16 : decode cG_addUp 16 = .ok (.iload 7, 2) := by decide +kernel
theorem dG_addUp_18 : decode cG_addUp 18 = .ok (.laload, 1) := by decide +kernel
theorem dG_addUp_19 : decode cG_addUp 19 = .ok (.lload_n 3, 1) := by decide +kernel
theorem dG_addUp_20 : decode cG_addUp 20 = .ok (.lxor, 1) := by decide +kernel
theorem dG_addUp_21 : decode cG_addUp 21 = .ok (.lstore 8, 2) := by decide +kernel
theorem dG_addUp_23 : decode cG_addUp 23 = .ok (.aload_n 0, 1) := by decide +kernel
theorem dG_addUp_24 : decode cG_addUp 24 = .ok (.getfield 21, 3) := by decide +kernel
theorem dG_addUp_27 : decode cG_addUp 27 = .ok (.iload 7, 2) := by decide +kernel
theorem dG_addUp_29 : decode cG_addUp 29 = .ok (.aload_n 1, 1) := by decide +kernel
theorem dG_addUp_30 : decode cG_addUp 30 = .ok (.iload 7, 2) := by decide +kernel
theorem dG_addUp_32 : decode cG_addUp 32 = .ok (.laload, 1) := by decide +kernel
theorem dG_addUp_33 : decode cG_addUp 33 = .ok (.lload 8, 2) := by decide +kernel
theorem dG_addUp_35 : decode cG_addUp 35 = .ok (.lxor, 1) := by decide +kernel
theorem dG_addUp_36 : decode cG_addUp 36 = .ok (.lload 5, 2) := by decide +kernel
theorem dG_addUp_38 : decode cG_addUp 38 = .ok (.lxor, 1) := by decide +kernel
theorem dG_addUp_39 : decode cG_addUp 39 = .ok (.lastore, 1) := by decide +kernel
theorem dG_addUp_40 : decode cG_addUp 40 = .ok (.aload_n 1, 1) := by decide +kernel
theorem dG_addUp_41 : decode cG_addUp 41 = .ok (.iload 7, 2) := by decide +kernel
theorem dG_addUp_43 : decode cG_addUp 43 = .ok (.laload, 1) := by decide +kernel
theorem dG_addUp_44 : decode cG_addUp 44 = .ok (.lload 8, 2) := by decide +kernel
theorem dG_addUp_46 : decode cG_addUp 46 = .ok (.lload 5, 2) := by decide +kernel
theorem dG_addUp_48 : decode cG_addUp 48 = .ok (.invokestatic 164, 3) := by decide +kernel
theorem dG_addUp_51 : decode cG_addUp 51 = .ok (.lstore 5, 2) := by decide +kernel
theorem dG_addUp_53 : decode cG_addUp 53 = .ok (.iinc 7 1, 3) := by decide +kernel
theorem dG_addUp_56 : decode cG_addUp 56 = .ok (.goto (-50), 3) := by decide +kernel
theorem dG_addUp_59 : decode cG_addUp 59 = .ok (.return_, 1) := by decide +kernel
abbrev cG_takeAway : ByteArray := prog_5_method_22_code
def yG_takeAway : MethodName := ⟨"WordChecker$Gates", "takeAway", "()J"⟩
theorem calG_takeAway : CalV gT yG_takeAway cG_takeAway 6 (some .long) 0 := ⟨⟨gT_1 (i := 594) (by decide +kernel) rfl, gT_1 (i := 4) (by decide +kernel) rfl, by decide +kernel⟩, gT_1 (i := 593) (by decide +kernel) rfl, gT_s (q := (yG_takeAway, 9)) (by decide +kernel)⟩
theorem dG_takeAway_0 : decode cG_takeAway 0 = .ok (.lconst 0, 1) := by decide +kernel
theorem dG_takeAway_1 : decode cG_takeAway 1 = .ok (.lstore_n 1, 1) := by decide +kernel
theorem dG_takeAway_2 : decode cG_takeAway 2 = .ok (.iconst 0, 1) := by decide +kernel
theorem dG_takeAway_3 : decode cG_takeAway 3 = .ok (.istore_n 3, 1) := by decide +kernel
theorem dG_takeAway_4 : decode cG_takeAway 4 = .ok (.iload_n 3, 1) := by decide +kernel
theorem dG_takeAway_5 : decode cG_takeAway 5 = .ok (.aload_n 0, 1) := by decide +kernel
theorem dG_takeAway_6 : decode cG_takeAway 6 = .ok (.getfield 40, 3) := by decide +kernel
theorem dG_takeAway_9 : decode cG_takeAway 9 = .ok (.if_icmp .gt 53, 3) := by decide +kernel
theorem dG_takeAway_12 : decode cG_takeAway 12 = .ok (.aload_n 0, 1) := by decide +kernel
theorem dG_takeAway_13 : decode cG_takeAway 13 = .ok (.getfield 24, 3) := by decide +kernel
theorem dG_takeAway_16 : decode cG_takeAway 16 = .ok (.iload_n 3, 1) := by decide +kernel
theorem dG_takeAway_17 : decode cG_takeAway 17 = .ok (.laload, 1) := by decide +kernel
theorem dG_takeAway_18 : decode cG_takeAway 18 = .ok (.aload_n 0, 1) := by decide +kernel
theorem dG_takeAway_19 : decode cG_takeAway 19 = .ok (.getfield 15, 3) := by decide +kernel
theorem dG_takeAway_22 : decode cG_takeAway 22 = .ok (.iload_n 3, 1) := by decide +kernel
theorem dG_takeAway_23 : decode cG_takeAway 23 = .ok (.laload, 1) := by decide +kernel
theorem dG_takeAway_24 : decode cG_takeAway 24 = .ok (.lxor, 1) := by decide +kernel
theorem dG_takeAway_25 : decode cG_takeAway 25 = .ok (.lstore 4, 2) := by decide +kernel
theorem dG_takeAway_27 : decode cG_takeAway 27 = .ok (.aload_n 0, 1) := by decide +kernel
theorem dG_takeAway_28 : decode cG_takeAway 28 = .ok (.getfield 27, 3) := by decide +kernel
theorem dG_takeAway_31 : decode cG_takeAway 31 = .ok (.iload_n 3, 1) := by decide +kernel
theorem dG_takeAway_32 : decode cG_takeAway 32 = .ok (.lload 4, 2) := by decide +kernel
theorem dG_takeAway_34 : decode cG_takeAway 34 = .ok (.lload_n 1, 1) := by decide +kernel
theorem dG_takeAway_35 : decode cG_takeAway 35 = .ok (.lxor, 1) := by decide +kernel
theorem dG_takeAway_36 : decode cG_takeAway 36 = .ok (.lastore, 1) := by decide +kernel
theorem dG_takeAway_37 : decode cG_takeAway 37 = .ok (.lload 4, 2) := by decide +kernel
theorem dG_takeAway_39 : decode cG_takeAway 39 = .ok (.aload_n 0, 1) := by decide +kernel
theorem dG_takeAway_40 : decode cG_takeAway 40 = .ok (.getfield 15, 3) := by decide +kernel
theorem dG_takeAway_43 : decode cG_takeAway 43 = .ok (.iload_n 3, 1) := by decide +kernel
theorem dG_takeAway_44 : decode cG_takeAway 44 = .ok (.laload, 1) := by decide +kernel
theorem dG_takeAway_45 : decode cG_takeAway 45 = .ok (.land, 1) := by decide +kernel
theorem dG_takeAway_46 : decode cG_takeAway 46 = .ok (.lload 4, 2) := by decide +kernel
theorem dG_takeAway_48 : decode cG_takeAway 48 = .ok (.ldc2_w 81, 3) := by decide +kernel
theorem dG_takeAway_51 : decode cG_takeAway 51 = .ok (.lxor, 1) := by decide +kernel
theorem dG_takeAway_52 : decode cG_takeAway 52 = .ok (.lload_n 1, 1) := by decide +kernel
theorem dG_takeAway_53 : decode cG_takeAway 53 = .ok (.land, 1) := by decide +kernel
theorem dG_takeAway_54 : decode cG_takeAway 54 = .ok (.lor, 1) := by decide +kernel
theorem dG_takeAway_55 : decode cG_takeAway 55 = .ok (.lstore_n 1, 1) := by decide +kernel
theorem dG_takeAway_56 : decode cG_takeAway 56 = .ok (.iinc 3 1, 3) := by decide +kernel
theorem dG_takeAway_59 : decode cG_takeAway 59 = .ok (.goto (-55), 3) := by decide +kernel
theorem dG_takeAway_62 : decode cG_takeAway 62 = .ok (.iconst 0, 1) := by decide +kernel
theorem dG_takeAway_63 : decode cG_takeAway 63 = .ok (.istore_n 3, 1) := by decide +kernel
theorem dG_takeAway_64 : decode cG_takeAway 64 = .ok (.iload_n 3, 1) := by decide +kernel
theorem dG_takeAway_65 : decode cG_takeAway 65 = .ok (.aload_n 0, 1) := by decide +kernel
theorem dG_takeAway_66 : decode cG_takeAway 66 = .ok (.getfield 40, 3) := by decide +kernel
theorem dG_takeAway_69 : decode cG_takeAway 69 = .ok (.if_icmp .gt 36, 3) := by decide +kernel
theorem dG_takeAway_72 : decode cG_takeAway 72 = .ok (.aload_n 0, 1) := by decide +kernel
theorem dG_takeAway_73 : decode cG_takeAway 73 = .ok (.getfield 24, 3) := by decide +kernel
theorem dG_takeAway_76 : decode cG_takeAway 76 = .ok (.iload_n 3, 1) := by decide +kernel
theorem dG_takeAway_77 : decode cG_takeAway 77 = .ok (.lload_n 1, 1) := by decide +kernel
theorem dG_takeAway_78 : decode cG_takeAway 78 = .ok (.aload_n 0, 1) := by decide +kernel
theorem dG_takeAway_79 : decode cG_takeAway 79 = .ok (.getfield 24, 3) := by decide +kernel
theorem dG_takeAway_82 : decode cG_takeAway 82 = .ok (.iload_n 3, 1) := by decide +kernel
theorem dG_takeAway_83 : decode cG_takeAway 83 = .ok (.laload, 1) := by decide +kernel
theorem dG_takeAway_84 : decode cG_takeAway 84 = .ok (.land, 1) := by decide +kernel
theorem dG_takeAway_85 : decode cG_takeAway 85 = .ok (.lload_n 1, 1) := by decide +kernel
theorem dG_takeAway_86 : decode cG_takeAway 86 = .ok (.ldc2_w 81, 3) := by decide +kernel
theorem dG_takeAway_89 : decode cG_takeAway 89 = .ok (.lxor, 1) := by decide +kernel
theorem dG_takeAway_90 : decode cG_takeAway 90 = .ok (.aload_n 0, 1) := by decide +kernel
theorem dG_takeAway_91 : decode cG_takeAway 91 = .ok (.getfield 27, 3) := by decide +kernel
theorem dG_takeAway_94 : decode cG_takeAway 94 = .ok (.iload_n 3, 1) := by decide +kernel
theorem dG_takeAway_95 : decode cG_takeAway 95 = .ok (.laload, 1) := by decide +kernel
theorem dG_takeAway_96 : decode cG_takeAway 96 = .ok (.land, 1) := by decide +kernel
theorem dG_takeAway_97 : decode cG_takeAway 97 = .ok (.lor, 1) := by decide +kernel
theorem dG_takeAway_98 : decode cG_takeAway 98 = .ok (.lastore, 1) := by decide +kernel
theorem dG_takeAway_99 : decode cG_takeAway 99 = .ok (.iinc 3 1, 3) := by decide +kernel
theorem dG_takeAway_102 : decode cG_takeAway 102 = .ok (.goto (-38), 3) := by decide +kernel
theorem dG_takeAway_105 : decode cG_takeAway 105 = .ok (.lload_n 1, 1) := by decide +kernel
theorem dG_takeAway_106 : decode cG_takeAway 106 = .ok (.ldc2_w 81, 3) := by decide +kernel
theorem dG_takeAway_109 : decode cG_takeAway 109 = .ok (.lxor, 1) := by decide +kernel
theorem dG_takeAway_110 : decode cG_takeAway 110 = .ok (.lreturn, 1) := by decide +kernel
abbrev cG_divide : ByteArray := prog_5_method_21_code
def yG_divide : MethodName := ⟨"WordChecker$Gates", "divide", "(Z)V"⟩
theorem calG_divide : CalV gT yG_divide cG_divide 4 none 1 := ⟨⟨gT_1 (i := 590) (by decide +kernel) rfl, gT_1 (i := 4) (by decide +kernel) rfl, by decide +kernel⟩, gT_1 (i := 589) (by decide +kernel) rfl, gT_s (q := (yG_divide, 9)) (by decide +kernel)⟩
theorem dG_divide_0 : decode cG_divide 0 = .ok (.aload_n 0, 1) := by decide +kernel
theorem dG_divide_1 : decode cG_divide 1 = .ok (.getfield 24, 3) := by decide +kernel
theorem dG_divide_4 : decode cG_divide 4 = .ok (.invokestatic 57, 3) := by decide +kernel
theorem dG_divide_7 : decode cG_divide 7 = .ok (.aload_n 0, 1) := by decide +kernel
theorem dG_divide_8 : decode cG_divide 8 = .ok (.getfield 40, 3) := by decide +kernel
theorem dG_divide_11 : decode cG_divide 11 = .ok (.iconst 1, 1) := by decide +kernel
theorem dG_divide_12 : decode cG_divide 12 = .ok (.isub, 1) := by decide +kernel
theorem dG_divide_13 : decode cG_divide 13 = .ok (.istore_n 2, 1) := by decide +kernel
theorem dG_divide_14 : decode cG_divide 14 = .ok (.iload_n 2, 1) := by decide +kernel
theorem dG_divide_15 : decode cG_divide 15 = .ok (.ifCond .lt 60, 3) := by decide +kernel
theorem dG_divide_18 : decode cG_divide 18 = .ok (.aload_n 0, 1) := by decide +kernel
theorem dG_divide_19 : decode cG_divide 19 = .ok (.getfield 40, 3) := by decide +kernel
theorem dG_divide_22 : decode cG_divide 22 = .ok (.istore_n 3, 1) := by decide +kernel
theorem dG_divide_23 : decode cG_divide 23 = .ok (.iload_n 3, 1) := by decide +kernel
theorem dG_divide_24 : decode cG_divide 24 = .ok (.ifCond .le 23, 3) := by decide +kernel
theorem dG_divide_27 : decode cG_divide 27 = .ok (.aload_n 0, 1) := by decide +kernel
theorem dG_divide_28 : decode cG_divide 28 = .ok (.getfield 24, 3) := by decide +kernel
theorem dG_divide_31 : decode cG_divide 31 = .ok (.iload_n 3, 1) := by decide +kernel
theorem dG_divide_32 : decode cG_divide 32 = .ok (.aload_n 0, 1) := by decide +kernel
theorem dG_divide_33 : decode cG_divide 33 = .ok (.getfield 24, 3) := by decide +kernel
theorem dG_divide_36 : decode cG_divide 36 = .ok (.iload_n 3, 1) := by decide +kernel
theorem dG_divide_37 : decode cG_divide 37 = .ok (.iconst 1, 1) := by decide +kernel
theorem dG_divide_38 : decode cG_divide 38 = .ok (.isub, 1) := by decide +kernel
theorem dG_divide_39 : decode cG_divide 39 = .ok (.laload, 1) := by decide +kernel
theorem dG_divide_40 : decode cG_divide 40 = .ok (.lastore, 1) := by decide +kernel
theorem dG_divide_41 : decode cG_divide 41 = .ok (.iinc 3 (-1), 3) := by decide +kernel
theorem dG_divide_44 : decode cG_divide 44 = .ok (.goto (-21), 3) := by decide +kernel
theorem dG_divide_47 : decode cG_divide 47 = .ok (.aload_n 0, 1) := by decide +kernel
theorem dG_divide_48 : decode cG_divide 48 = .ok (.getfield 24, 3) := by decide +kernel
theorem dG_divide_51 : decode cG_divide 51 = .ok (.iconst 0, 1) := by decide +kernel
theorem dG_divide_52 : decode cG_divide 52 = .ok (.aload_n 0, 1) := by decide +kernel
theorem dG_divide_53 : decode cG_divide 53 = .ok (.getfield 9, 3) := by decide +kernel
theorem dG_divide_56 : decode cG_divide 56 = .ok (.iload_n 2, 1) := by decide +kernel
theorem dG_divide_57 : decode cG_divide 57 = .ok (.laload, 1) := by decide +kernel
theorem dG_divide_58 : decode cG_divide 58 = .ok (.lastore, 1) := by decide +kernel
theorem dG_divide_59 : decode cG_divide 59 = .ok (.aload_n 0, 1) := by decide +kernel
theorem dG_divide_60 : decode cG_divide 60 = .ok (.getfield 21, 3) := by decide +kernel
theorem dG_divide_63 : decode cG_divide 63 = .ok (.iload_n 2, 1) := by decide +kernel
theorem dG_divide_64 : decode cG_divide 64 = .ok (.aload_n 0, 1) := by decide +kernel
theorem dG_divide_65 : decode cG_divide 65 = .ok (.invokevirtual 167, 3) := by decide +kernel
theorem dG_divide_68 : decode cG_divide 68 = .ok (.lastore, 1) := by decide +kernel
theorem dG_divide_69 : decode cG_divide 69 = .ok (.iinc 2 (-1), 3) := by decide +kernel
theorem dG_divide_72 : decode cG_divide 72 = .ok (.goto (-58), 3) := by decide +kernel
theorem dG_divide_75 : decode cG_divide 75 = .ok (.iload_n 1, 1) := by decide +kernel
theorem dG_divide_76 : decode cG_divide 76 = .ok (.ifCond .eq 20, 3) := by decide +kernel
theorem dG_divide_79 : decode cG_divide 79 = .ok (.aload_n 0, 1) := by decide +kernel
theorem dG_divide_80 : decode cG_divide 80 = .ok (.getfield 24, 3) := by decide +kernel
theorem dG_divide_83 : decode cG_divide 83 = .ok (.iconst 0, 1) := by decide +kernel
theorem dG_divide_84 : decode cG_divide 84 = .ok (.aload_n 0, 1) := by decide +kernel
theorem dG_divide_85 : decode cG_divide 85 = .ok (.getfield 21, 3) := by decide +kernel
theorem dG_divide_88 : decode cG_divide 88 = .ok (.iconst 0, 1) := by decide +kernel
theorem dG_divide_89 : decode cG_divide 89 = .ok (.aload_n 0, 1) := by decide +kernel
theorem dG_divide_90 : decode cG_divide 90 = .ok (.getfield 40, 3) := by decide +kernel
theorem dG_divide_93 : decode cG_divide 93 = .ok (.invokestatic 170, 3) := by decide +kernel
theorem dG_divide_96 : decode cG_divide 96 = .ok (.return_, 1) := by decide +kernel
abbrev cG_multiply : ByteArray := prog_5_method_20_code
def yG_multiply : MethodName := ⟨"WordChecker$Gates", "multiply", "()V"⟩
theorem calG_multiply : CalV gT yG_multiply cG_multiply 9 none 0 := ⟨⟨gT_1 (i := 585) (by decide +kernel) rfl, gT_1 (i := 4) (by decide +kernel) rfl, by decide +kernel⟩, gT_1 (i := 584) (by decide +kernel) rfl, gT_s (q := (yG_multiply, 9)) (by decide +kernel)⟩
theorem dG_multiply_0 : decode cG_multiply 0 = .ok (.iconst 0, 1) := by decide +kernel
theorem dG_multiply_1 : decode cG_multiply 1 = .ok (.istore_n 1, 1) := by decide +kernel
theorem dG_multiply_2 : decode cG_multiply 2 = .ok (.iload_n 1, 1) := by decide +kernel
theorem dG_multiply_3 : decode cG_multiply 3 = .ok (.aload_n 0, 1) := by decide +kernel
theorem dG_multiply_4 : decode cG_multiply 4 = .ok (.getfield 40, 3) := by decide +kernel
theorem dG_multiply_7 : decode cG_multiply 7 = .ok (.if_icmp .ge 84, 3) := by decide +kernel
theorem dG_multiply_10 : decode cG_multiply 10 = .ok (.lconst 0, 1) := by decide +kernel
theorem dG_multiply_11 : decode cG_multiply 11 = .ok (.lstore_n 2, 1) := by decide +kernel
theorem dG_multiply_12 : decode cG_multiply 12 = .ok (.iload_n 1, 1) := by decide +kernel
theorem dG_multiply_13 : decode cG_multiply 13 = .ok (.istore 4, 2) := by decide +kernel
theorem dG_multiply_15 : decode cG_multiply 15 = .ok (.iload 4, 2) := by decide +kernel
theorem dG_multiply_17 : decode cG_multiply 17 = .ok (.aload_n 0, 1) := by decide +kernel
theorem dG_multiply_18 : decode cG_multiply 18 = .ok (.getfield 40, 3) := by decide +kernel
theorem dG_multiply_21 : decode cG_multiply 21 = .ok (.if_icmp .ge 64, 3) := by decide +kernel
theorem dG_multiply_24 : decode cG_multiply 24 = .ok (.aload_n 0, 1) := by decide +kernel
theorem dG_multiply_25 : decode cG_multiply 25 = .ok (.getfield 9, 3) := by decide +kernel
theorem dG_multiply_28 : decode cG_multiply 28 = .ok (.iload 4, 2) := by decide +kernel
theorem dG_multiply_30 : decode cG_multiply 30 = .ok (.iload_n 1, 1) := by decide +kernel
theorem dG_multiply_31 : decode cG_multiply 31 = .ok (.isub, 1) := by decide +kernel
theorem dG_multiply_32 : decode cG_multiply 32 = .ok (.laload, 1) := by decide +kernel
theorem dG_multiply_33 : decode cG_multiply 33 = .ok (.aload_n 0, 1) := by decide +kernel
theorem dG_multiply_34 : decode cG_multiply 34 = .ok (.getfield 15, 3) := by decide +kernel
theorem dG_multiply_37 : decode cG_multiply 37 = .ok (.iload_n 1, 1) := by decide +kernel
theorem dG_multiply_38 : decode cG_multiply 38 = .ok (.laload, 1) := by decide +kernel
theorem dG_multiply_39 : decode cG_multiply 39 = .ok (.land, 1) := by decide +kernel
theorem dG_multiply_40 : decode cG_multiply 40 = .ok (.lstore 5, 2) := by decide +kernel
theorem dG_multiply_42 : decode cG_multiply 42 = .ok (.aload_n 0, 1) := by decide +kernel
theorem dG_multiply_43 : decode cG_multiply 43 = .ok (.getfield 21, 3) := by decide +kernel
theorem dG_multiply_46 : decode cG_multiply 46 = .ok (.iload 4, 2) := by decide +kernel
theorem dG_multiply_48 : decode cG_multiply 48 = .ok (.laload, 1) := by decide +kernel
theorem dG_multiply_49 : decode cG_multiply 49 = .ok (.lload 5, 2) := by decide +kernel
theorem dG_multiply_51 : decode cG_multiply 51 = .ok (.lxor, 1) := by decide +kernel
theorem dG_multiply_52 : decode cG_multiply 52 = .ok (.lload_n 2, 1) := by decide +kernel
theorem dG_multiply_53 : decode cG_multiply 53 = .ok (.lxor, 1) := by decide +kernel
theorem dG_multiply_54 : decode cG_multiply 54 = .ok (.lstore 7, 2) := by decide +kernel
theorem dG_multiply_56 : decode cG_multiply 56 = .ok (.aload_n 0, 1) := by decide +kernel
theorem dG_multiply_57 : decode cG_multiply 57 = .ok (.getfield 21, 3) := by decide +kernel
theorem dG_multiply_60 : decode cG_multiply 60 = .ok (.iload 4, 2) := by decide +kernel
theorem dG_multiply_62 : decode cG_multiply 62 = .ok (.laload, 1) := by decide +kernel
theorem dG_multiply_63 : decode cG_multiply 63 = .ok (.lload 5, 2) := by decide +kernel
theorem dG_multiply_65 : decode cG_multiply 65 = .ok (.lload_n 2, 1) := by decide +kernel
theorem dG_multiply_66 : decode cG_multiply 66 = .ok (.invokestatic 164, 3) := by decide +kernel
theorem dG_multiply_69 : decode cG_multiply 69 = .ok (.lstore_n 2, 1) := by decide +kernel
theorem dG_multiply_70 : decode cG_multiply 70 = .ok (.aload_n 0, 1) := by decide +kernel
theorem dG_multiply_71 : decode cG_multiply 71 = .ok (.getfield 21, 3) := by decide +kernel
theorem dG_multiply_74 : decode cG_multiply 74 = .ok (.iload 4, 2) := by decide +kernel
theorem dG_multiply_76 : decode cG_multiply 76 = .ok (.lload 7, 2) := by decide +kernel
theorem dG_multiply_78 : decode cG_multiply 78 = .ok (.lastore, 1) := by decide +kernel
theorem dG_multiply_79 : decode cG_multiply 79 = .ok (.iinc 4 1, 3) := by decide +kernel
theorem dG_multiply_82 : decode cG_multiply 82 = .ok (.goto (-67), 3) := by decide +kernel
theorem dG_multiply_85 : decode cG_multiply 85 = .ok (.iinc 1 1, 3) := by decide +kernel
theorem dG_multiply_88 : decode cG_multiply 88 = .ok (.goto (-86), 3) := by decide +kernel
theorem dG_multiply_91 : decode cG_multiply 91 = .ok (.return_, 1) := by decide +kernel
abbrev cG_shiftLeft : ByteArray := prog_5_method_23_code
def yG_shiftLeft : MethodName := ⟨"WordChecker$Gates", "shiftLeft", "()V"⟩
theorem calG_shiftLeft : CalV gT yG_shiftLeft cG_shiftLeft 4 none 0 := ⟨⟨gT_1 (i := 601) (by decide +kernel) rfl, gT_1 (i := 4) (by decide +kernel) rfl, by decide +kernel⟩, gT_1 (i := 600) (by decide +kernel) rfl, gT_s (q := (yG_shiftLeft, 9)) (by decide +kernel)⟩
theorem dG_shiftLeft_0 : decode cG_shiftLeft 0 = .ok (.aload_n 0, 1) := by decide +kernel
theorem dG_shiftLeft_1 : decode cG_shiftLeft 1 = .ok (.getfield 9, 3) := by decide +kernel
theorem dG_shiftLeft_4 : decode cG_shiftLeft 4 = .ok (.iconst 0, 1) := by decide +kernel
theorem dG_shiftLeft_5 : decode cG_shiftLeft 5 = .ok (.aload_n 0, 1) := by decide +kernel
theorem dG_shiftLeft_6 : decode cG_shiftLeft 6 = .ok (.getfield 21, 3) := by decide +kernel
theorem dG_shiftLeft_9 : decode cG_shiftLeft 9 = .ok (.iconst 0, 1) := by decide +kernel
theorem dG_shiftLeft_10 : decode cG_shiftLeft 10 = .ok (.aload_n 0, 1) := by decide +kernel
theorem dG_shiftLeft_11 : decode cG_shiftLeft 11 = .ok (.getfield 40, 3) := by decide +kernel
theorem dG_shiftLeft_14 : decode cG_shiftLeft 14 = .ok (.invokestatic 170, 3) := by decide +kernel
theorem dG_shiftLeft_17 : decode cG_shiftLeft 17 = .ok (.iconst 0, 1) := by decide +kernel
theorem dG_shiftLeft_18 : decode cG_shiftLeft 18 = .ok (.istore_n 1, 1) := by decide +kernel
theorem dG_shiftLeft_19 : decode cG_shiftLeft 19 = .ok (.iload_n 1, 1) := by decide +kernel
theorem dG_shiftLeft_20 : decode cG_shiftLeft 20 = .ok (.aload_n 0, 1) := by decide +kernel
theorem dG_shiftLeft_21 : decode cG_shiftLeft 21 = .ok (.getfield 40, 3) := by decide +kernel
theorem dG_shiftLeft_24 : decode cG_shiftLeft 24 = .ok (.if_icmp .ge 68, 3) := by decide +kernel
theorem dG_shiftLeft_27 : decode cG_shiftLeft 27 = .ok (.iconst 1, 1) := by decide +kernel
theorem dG_shiftLeft_28 : decode cG_shiftLeft 28 = .ok (.iload_n 1, 1) := by decide +kernel
theorem dG_shiftLeft_29 : decode cG_shiftLeft 29 = .ok (.ishl, 1) := by decide +kernel
theorem dG_shiftLeft_30 : decode cG_shiftLeft 30 = .ok (.istore_n 2, 1) := by decide +kernel
theorem dG_shiftLeft_31 : decode cG_shiftLeft 31 = .ok (.aload_n 0, 1) := by decide +kernel
theorem dG_shiftLeft_32 : decode cG_shiftLeft 32 = .ok (.getfield 40, 3) := by decide +kernel
theorem dG_shiftLeft_35 : decode cG_shiftLeft 35 = .ok (.iconst 1, 1) := by decide +kernel
theorem dG_shiftLeft_36 : decode cG_shiftLeft 36 = .ok (.isub, 1) := by decide +kernel
theorem dG_shiftLeft_37 : decode cG_shiftLeft 37 = .ok (.istore_n 3, 1) := by decide +kernel
theorem dG_shiftLeft_38 : decode cG_shiftLeft 38 = .ok (.iload_n 3, 1) := by decide +kernel
theorem dG_shiftLeft_39 : decode cG_shiftLeft 39 = .ok (.ifCond .lt 47, 3) := by decide +kernel
theorem dG_shiftLeft_42 : decode cG_shiftLeft 42 = .ok (.aload_n 0, 1) := by decide +kernel
theorem dG_shiftLeft_43 : decode cG_shiftLeft 43 = .ok (.getfield 21, 3) := by decide +kernel
theorem dG_shiftLeft_46 : decode cG_shiftLeft 46 = .ok (.iload_n 3, 1) := by decide +kernel
theorem dG_shiftLeft_47 : decode cG_shiftLeft 47 = .ok (.aload_n 0, 1) := by decide +kernel
theorem dG_shiftLeft_48 : decode cG_shiftLeft 48 = .ok (.getfield 15, 3) := by decide +kernel
theorem dG_shiftLeft_51 : decode cG_shiftLeft 51 = .ok (.iload_n 1, 1) := by decide +kernel
theorem dG_shiftLeft_52 : decode cG_shiftLeft 52 = .ok (.laload, 1) := by decide +kernel
theorem dG_shiftLeft_53 : decode cG_shiftLeft 53 = .ok (.iload_n 3, 1) := by decide +kernel
theorem dG_shiftLeft_54 : decode cG_shiftLeft 54 = .ok (.iload_n 2, 1) := by decide +kernel
theorem dG_shiftLeft_55 : decode cG_shiftLeft 55 = .ok (.if_icmp .lt 14, 3) := by decide +kernel
theorem dG_shiftLeft_58 : decode cG_shiftLeft 58 = .ok (.aload_n 0, 1) := by decide +kernel
theorem dG_shiftLeft_59 : decode cG_shiftLeft 59 = .ok (.getfield 21, 3) := by decide +kernel
theorem dG_shiftLeft_62 : decode cG_shiftLeft 62 = .ok (.iload_n 3, 1) := by decide +kernel
theorem dG_shiftLeft_63 : decode cG_shiftLeft 63 = .ok (.iload_n 2, 1) := by decide +kernel
theorem dG_shiftLeft_64 : decode cG_shiftLeft 64 = .ok (.isub, 1) := by decide +kernel
theorem dG_shiftLeft_65 : decode cG_shiftLeft 65 = .ok (.laload, 1) := by decide +kernel
theorem dG_shiftLeft_66 : decode cG_shiftLeft 66 = .ok (.goto 4, 3) := by decide +kernel
theorem dG_shiftLeft_69 : decode cG_shiftLeft 69 = .ok (.lconst 0, 1) := by decide +kernel
theorem dG_shiftLeft_70 : decode cG_shiftLeft 70 = .ok (.aload_n 0, 1) := by decide +kernel
theorem dG_shiftLeft_71 : decode cG_shiftLeft 71 = .ok (.getfield 21, 3) := by decide +kernel
theorem dG_shiftLeft_74 : decode cG_shiftLeft 74 = .ok (.iload_n 3, 1) := by decide +kernel
theorem dG_shiftLeft_75 : decode cG_shiftLeft 75 = .ok (.laload, 1) := by decide +kernel
theorem dG_shiftLeft_76 : decode cG_shiftLeft 76 = .ok (.invokestatic 130, 3) := by decide +kernel
theorem dG_shiftLeft_79 : decode cG_shiftLeft 79 = .ok (.lastore, 1) := by decide +kernel
theorem dG_shiftLeft_80 : decode cG_shiftLeft 80 = .ok (.iinc 3 (-1), 3) := by decide +kernel
theorem dG_shiftLeft_83 : decode cG_shiftLeft 83 = .ok (.goto (-45), 3) := by decide +kernel
theorem dG_shiftLeft_86 : decode cG_shiftLeft 86 = .ok (.iinc 1 1, 3) := by decide +kernel
theorem dG_shiftLeft_89 : decode cG_shiftLeft 89 = .ok (.goto (-70), 3) := by decide +kernel
theorem dG_shiftLeft_92 : decode cG_shiftLeft 92 = .ok (.return_, 1) := by decide +kernel
abbrev cG_shiftRight : ByteArray := prog_5_method_24_code
def yG_shiftRight : MethodName := ⟨"WordChecker$Gates", "shiftRight", "()V"⟩
theorem calG_shiftRight : CalV gT yG_shiftRight cG_shiftRight 4 none 0 := ⟨⟨gT_1 (i := 605) (by decide +kernel) rfl, gT_1 (i := 4) (by decide +kernel) rfl, by decide +kernel⟩, gT_1 (i := 604) (by decide +kernel) rfl, gT_s (q := (yG_shiftRight, 9)) (by decide +kernel)⟩
theorem dG_shiftRight_0 : decode cG_shiftRight 0 = .ok (.aload_n 0, 1) := by decide +kernel
theorem dG_shiftRight_1 : decode cG_shiftRight 1 = .ok (.getfield 9, 3) := by decide +kernel
theorem dG_shiftRight_4 : decode cG_shiftRight 4 = .ok (.iconst 0, 1) := by decide +kernel
theorem dG_shiftRight_5 : decode cG_shiftRight 5 = .ok (.aload_n 0, 1) := by decide +kernel
theorem dG_shiftRight_6 : decode cG_shiftRight 6 = .ok (.getfield 21, 3) := by decide +kernel
theorem dG_shiftRight_9 : decode cG_shiftRight 9 = .ok (.iconst 0, 1) := by decide +kernel
theorem dG_shiftRight_10 : decode cG_shiftRight 10 = .ok (.aload_n 0, 1) := by decide +kernel
theorem dG_shiftRight_11 : decode cG_shiftRight 11 = .ok (.getfield 40, 3) := by decide +kernel
theorem dG_shiftRight_14 : decode cG_shiftRight 14 = .ok (.invokestatic 170, 3) := by decide +kernel
theorem dG_shiftRight_17 : decode cG_shiftRight 17 = .ok (.iconst 0, 1) := by decide +kernel
theorem dG_shiftRight_18 : decode cG_shiftRight 18 = .ok (.istore_n 1, 1) := by decide +kernel
theorem dG_shiftRight_19 : decode cG_shiftRight 19 = .ok (.iload_n 1, 1) := by decide +kernel
theorem dG_shiftRight_20 : decode cG_shiftRight 20 = .ok (.aload_n 0, 1) := by decide +kernel
theorem dG_shiftRight_21 : decode cG_shiftRight 21 = .ok (.getfield 40, 3) := by decide +kernel
theorem dG_shiftRight_24 : decode cG_shiftRight 24 = .ok (.if_icmp .ge 72, 3) := by decide +kernel
theorem dG_shiftRight_27 : decode cG_shiftRight 27 = .ok (.iconst 1, 1) := by decide +kernel
theorem dG_shiftRight_28 : decode cG_shiftRight 28 = .ok (.iload_n 1, 1) := by decide +kernel
theorem dG_shiftRight_29 : decode cG_shiftRight 29 = .ok (.ishl, 1) := by decide +kernel
theorem dG_shiftRight_30 : decode cG_shiftRight 30 = .ok (.istore_n 2, 1) := by decide +kernel
theorem dG_shiftRight_31 : decode cG_shiftRight 31 = .ok (.iconst 0, 1) := by decide +kernel
theorem dG_shiftRight_32 : decode cG_shiftRight 32 = .ok (.istore_n 3, 1) := by decide +kernel
theorem dG_shiftRight_33 : decode cG_shiftRight 33 = .ok (.iload_n 3, 1) := by decide +kernel
theorem dG_shiftRight_34 : decode cG_shiftRight 34 = .ok (.aload_n 0, 1) := by decide +kernel
theorem dG_shiftRight_35 : decode cG_shiftRight 35 = .ok (.getfield 40, 3) := by decide +kernel
theorem dG_shiftRight_38 : decode cG_shiftRight 38 = .ok (.if_icmp .ge 52, 3) := by decide +kernel
theorem dG_shiftRight_41 : decode cG_shiftRight 41 = .ok (.aload_n 0, 1) := by decide +kernel
theorem dG_shiftRight_42 : decode cG_shiftRight 42 = .ok (.getfield 21, 3) := by decide +kernel
theorem dG_shiftRight_45 : decode cG_shiftRight 45 = .ok (.iload_n 3, 1) := by decide +kernel
theorem dG_shiftRight_46 : decode cG_shiftRight 46 = .ok (.aload_n 0, 1) := by decide +kernel
theorem dG_shiftRight_47 : decode cG_shiftRight 47 = .ok (.getfield 15, 3) := by decide +kernel
theorem dG_shiftRight_50 : decode cG_shiftRight 50 = .ok (.iload_n 1, 1) := by decide +kernel
theorem dG_shiftRight_51 : decode cG_shiftRight 51 = .ok (.laload, 1) := by decide +kernel
theorem dG_shiftRight_52 : decode cG_shiftRight 52 = .ok (.iload_n 3, 1) := by decide +kernel
theorem dG_shiftRight_53 : decode cG_shiftRight 53 = .ok (.iload_n 2, 1) := by decide +kernel
theorem dG_shiftRight_54 : decode cG_shiftRight 54 = .ok (.iadd, 1) := by decide +kernel
theorem dG_shiftRight_55 : decode cG_shiftRight 55 = .ok (.aload_n 0, 1) := by decide +kernel
theorem dG_shiftRight_56 : decode cG_shiftRight 56 = .ok (.getfield 40, 3) := by decide +kernel
theorem dG_shiftRight_59 : decode cG_shiftRight 59 = .ok (.if_icmp .ge 14, 3) := by decide +kernel
theorem dG_shiftRight_62 : decode cG_shiftRight 62 = .ok (.aload_n 0, 1) := by decide +kernel
theorem dG_shiftRight_63 : decode cG_shiftRight 63 = .ok (.getfield 21, 3) := by decide +kernel
theorem dG_shiftRight_66 : decode cG_shiftRight 66 = .ok (.iload_n 3, 1) := by decide +kernel
theorem dG_shiftRight_67 : decode cG_shiftRight 67 = .ok (.iload_n 2, 1) := by decide +kernel
theorem dG_shiftRight_68 : decode cG_shiftRight 68 = .ok (.iadd, 1) := by decide +kernel
theorem dG_shiftRight_69 : decode cG_shiftRight 69 = .ok (.laload, 1) := by decide +kernel
theorem dG_shiftRight_70 : decode cG_shiftRight 70 = .ok (.goto 4, 3) := by decide +kernel
theorem dG_shiftRight_73 : decode cG_shiftRight 73 = .ok (.lconst 0, 1) := by decide +kernel
theorem dG_shiftRight_74 : decode cG_shiftRight 74 = .ok (.aload_n 0, 1) := by decide +kernel
theorem dG_shiftRight_75 : decode cG_shiftRight 75 = .ok (.getfield 21, 3) := by decide +kernel
theorem dG_shiftRight_78 : decode cG_shiftRight 78 = .ok (.iload_n 3, 1) := by decide +kernel
theorem dG_shiftRight_79 : decode cG_shiftRight 79 = .ok (.laload, 1) := by decide +kernel
theorem dG_shiftRight_80 : decode cG_shiftRight 80 = .ok (.invokestatic 130, 3) := by decide +kernel
theorem dG_shiftRight_83 : decode cG_shiftRight 83 = .ok (.lastore, 1) := by decide +kernel
theorem dG_shiftRight_84 : decode cG_shiftRight 84 = .ok (.iinc 3 1, 3) := by decide +kernel
theorem dG_shiftRight_87 : decode cG_shiftRight 87 = .ok (.goto (-54), 3) := by decide +kernel
theorem dG_shiftRight_90 : decode cG_shiftRight 90 = .ok (.iinc 1 1, 3) := by decide +kernel
theorem dG_shiftRight_93 : decode cG_shiftRight 93 = .ok (.goto (-74), 3) := by decide +kernel
theorem dG_shiftRight_96 : decode cG_shiftRight 96 = .ok (.return_, 1) := by decide +kernel
abbrev cG_reckon : ByteArray := prog_5_method_18_code
def yG_reckon : MethodName := ⟨"WordChecker$Gates", "reckon", "(LWordChecker$Kind;)V"⟩
theorem calG_reckon : CalV gT yG_reckon cG_reckon 2 none 1 := ⟨⟨gT_1 (i := 574) (by decide +kernel) rfl, gT_1 (i := 4) (by decide +kernel) rfl, by decide +kernel⟩, gT_1 (i := 573) (by decide +kernel) rfl, gT_s (q := (yG_reckon, 9)) (by decide +kernel)⟩
theorem dG_reckon_0 : decode cG_reckon 0 = .ok (.getstatic 83, 3) := by decide +kernel
theorem dG_reckon_3 : decode cG_reckon 3 = .ok (.aload_n 1, 1) := by decide +kernel
theorem dG_reckon_4 : decode cG_reckon 4 = .ok (.invokevirtual 92, 3) := by decide +kernel
theorem dG_reckon_7 : decode cG_reckon 7 = .ok (.iaload, 1) := by decide +kernel
theorem dG_reckon_8 : decode cG_reckon 8 = .ok (.tableswitch 129 24 30 #[44, 62, 78, 96, 103, 103, 122], 44) := by decide +kernel
theorem dG_reckon_52 : decode cG_reckon 52 = .ok (.aload_n 0, 1) := by decide +kernel
theorem dG_reckon_53 : decode cG_reckon 53 = .ok (.aload_n 0, 1) := by decide +kernel
theorem dG_reckon_54 : decode cG_reckon 54 = .ok (.getfield 15, 3) := by decide +kernel
theorem dG_reckon_57 : decode cG_reckon 57 = .ok (.aload_n 0, 1) := by decide +kernel
theorem dG_reckon_58 : decode cG_reckon 58 = .ok (.getfield 9, 3) := by decide +kernel
theorem dG_reckon_61 : decode cG_reckon 61 = .ok (.ldc2_w 81, 3) := by decide +kernel
theorem dG_reckon_64 : decode cG_reckon 64 = .ok (.invokevirtual 144, 3) := by decide +kernel
theorem dG_reckon_67 : decode cG_reckon 67 = .ok (.goto 74, 3) := by decide +kernel
theorem dG_reckon_70 : decode cG_reckon 70 = .ok (.aload_n 0, 1) := by decide +kernel
theorem dG_reckon_71 : decode cG_reckon 71 = .ok (.aload_n 0, 1) := by decide +kernel
theorem dG_reckon_72 : decode cG_reckon 72 = .ok (.getfield 9, 3) := by decide +kernel
theorem dG_reckon_75 : decode cG_reckon 75 = .ok (.aload_n 0, 1) := by decide +kernel
theorem dG_reckon_76 : decode cG_reckon 76 = .ok (.getfield 15, 3) := by decide +kernel
theorem dG_reckon_79 : decode cG_reckon 79 = .ok (.lconst 0, 1) := by decide +kernel
theorem dG_reckon_80 : decode cG_reckon 80 = .ok (.invokevirtual 144, 3) := by decide +kernel
theorem dG_reckon_83 : decode cG_reckon 83 = .ok (.goto 58, 3) := by decide +kernel
theorem dG_reckon_86 : decode cG_reckon 86 = .ok (.aload_n 0, 1) := by decide +kernel
theorem dG_reckon_87 : decode cG_reckon 87 = .ok (.aload_n 0, 1) := by decide +kernel
theorem dG_reckon_88 : decode cG_reckon 88 = .ok (.getfield 9, 3) := by decide +kernel
theorem dG_reckon_91 : decode cG_reckon 91 = .ok (.aload_n 0, 1) := by decide +kernel
theorem dG_reckon_92 : decode cG_reckon 92 = .ok (.getfield 15, 3) := by decide +kernel
theorem dG_reckon_95 : decode cG_reckon 95 = .ok (.ldc2_w 81, 3) := by decide +kernel
theorem dG_reckon_98 : decode cG_reckon 98 = .ok (.invokevirtual 144, 3) := by decide +kernel
theorem dG_reckon_101 : decode cG_reckon 101 = .ok (.goto 40, 3) := by decide +kernel
theorem dG_reckon_104 : decode cG_reckon 104 = .ok (.aload_n 0, 1) := by decide +kernel
theorem dG_reckon_105 : decode cG_reckon 105 = .ok (.invokevirtual 148, 3) := by decide +kernel
theorem dG_reckon_108 : decode cG_reckon 108 = .ok (.goto 33, 3) := by decide +kernel
theorem dG_reckon_111 : decode cG_reckon 111 = .ok (.aload_n 0, 1) := by decide +kernel
theorem dG_reckon_112 : decode cG_reckon 112 = .ok (.aload_n 1, 1) := by decide +kernel
theorem dG_reckon_113 : decode cG_reckon 113 = .ok (.getstatic 151, 3) := by decide +kernel
theorem dG_reckon_116 : decode cG_reckon 116 = .ok (.if_acmp .ne 7, 3) := by decide +kernel
theorem dG_reckon_119 : decode cG_reckon 119 = .ok (.iconst 1, 1) := by decide +kernel
theorem dG_reckon_120 : decode cG_reckon 120 = .ok (.goto 4, 3) := by decide +kernel
theorem dG_reckon_123 : decode cG_reckon 123 = .ok (.iconst 0, 1) := by decide +kernel
theorem dG_reckon_124 : decode cG_reckon 124 = .ok (.invokevirtual 154, 3) := by decide +kernel
theorem dG_reckon_127 : decode cG_reckon 127 = .ok (.goto 14, 3) := by decide +kernel
theorem dG_reckon_130 : decode cG_reckon 130 = .ok (.aload_n 0, 1) := by decide +kernel
theorem dG_reckon_131 : decode cG_reckon 131 = .ok (.invokevirtual 158, 3) := by decide +kernel
theorem dG_reckon_134 : decode cG_reckon 134 = .ok (.goto 7, 3) := by decide +kernel
theorem dG_reckon_137 : decode cG_reckon 137 = .ok (.aload_n 0, 1) := by decide +kernel
theorem dG_reckon_138 : decode cG_reckon 138 = .ok (.invokevirtual 161, 3) := by decide +kernel
theorem dG_reckon_141 : decode cG_reckon 141 = .ok (.return_, 1) := by decide +kernel
abbrev cG_join : ByteArray := prog_5_method_8_code
def yG_join : MethodName := ⟨"WordChecker$Gates", "join", "(LWordChecker$Draft;)V"⟩
theorem calG_join : CalV gT yG_join cG_join 2 none 1 := ⟨⟨gT_1 (i := 528) (by decide +kernel) rfl, gT_1 (i := 4) (by decide +kernel) rfl, by decide +kernel⟩, gT_1 (i := 527) (by decide +kernel) rfl, gT_s (q := (yG_join, 9)) (by decide +kernel)⟩
theorem dG_join_0 : decode cG_join 0 = .ok (.getstatic 83, 3) := by decide +kernel
theorem dG_join_3 : decode cG_join 3 = .ok (.aload_n 1, 1) := by decide +kernel
theorem dG_join_4 : decode cG_join 4 = .ok (.getfield 88, 3) := by decide +kernel
theorem dG_join_7 : decode cG_join 7 = .ok (.invokevirtual 92, 3) := by decide +kernel
theorem dG_join_10 : decode cG_join 10 = .ok (.iaload, 1) := by decide +kernel
theorem dG_join_11 : decode cG_join 11 = .ok (.tableswitch 138 8 23 #[77, 88, 99, 99, 99, 99, 99, 110, 110, 110, 110, 127, 127, 127, 127, 127], 77) := by decide +kernel
theorem dG_join_88 : decode cG_join 88 = .ok (.aload_n 0, 1) := by decide +kernel
theorem dG_join_89 : decode cG_join 89 = .ok (.aload_n 1, 1) := by decide +kernel
theorem dG_join_90 : decode cG_join 90 = .ok (.getfield 98, 3) := by decide +kernel
theorem dG_join_93 : decode cG_join 93 = .ok (.invokevirtual 101, 3) := by decide +kernel
theorem dG_join_96 : decode cG_join 96 = .ok (.goto 61, 3) := by decide +kernel
theorem dG_join_99 : decode cG_join 99 = .ok (.aload_n 0, 1) := by decide +kernel
theorem dG_join_100 : decode cG_join 100 = .ok (.aload_n 1, 1) := by decide +kernel
theorem dG_join_101 : decode cG_join 101 = .ok (.getfield 98, 3) := by decide +kernel
theorem dG_join_104 : decode cG_join 104 = .ok (.invokevirtual 105, 3) := by decide +kernel
theorem dG_join_107 : decode cG_join 107 = .ok (.goto 50, 3) := by decide +kernel
theorem dG_join_110 : decode cG_join 110 = .ok (.aload_n 0, 1) := by decide +kernel
theorem dG_join_111 : decode cG_join 111 = .ok (.aload_n 1, 1) := by decide +kernel
theorem dG_join_112 : decode cG_join 112 = .ok (.getfield 88, 3) := by decide +kernel
theorem dG_join_115 : decode cG_join 115 = .ok (.invokevirtual 108, 3) := by decide +kernel
theorem dG_join_118 : decode cG_join 118 = .ok (.goto 39, 3) := by decide +kernel
theorem dG_join_121 : decode cG_join 121 = .ok (.aload_n 0, 1) := by decide +kernel
theorem dG_join_122 : decode cG_join 122 = .ok (.getfield 21, 3) := by decide +kernel
theorem dG_join_125 : decode cG_join 125 = .ok (.iconst 0, 1) := by decide +kernel
theorem dG_join_126 : decode cG_join 126 = .ok (.aload_n 0, 1) := by decide +kernel
theorem dG_join_127 : decode cG_join 127 = .ok (.aload_n 1, 1) := by decide +kernel
theorem dG_join_128 : decode cG_join 128 = .ok (.getfield 88, 3) := by decide +kernel
theorem dG_join_131 : decode cG_join 131 = .ok (.invokevirtual 112, 3) := by decide +kernel
theorem dG_join_134 : decode cG_join 134 = .ok (.lastore, 1) := by decide +kernel
theorem dG_join_135 : decode cG_join 135 = .ok (.goto 22, 3) := by decide +kernel
theorem dG_join_138 : decode cG_join 138 = .ok (.aload_n 0, 1) := by decide +kernel
theorem dG_join_139 : decode cG_join 139 = .ok (.aload_n 1, 1) := by decide +kernel
theorem dG_join_140 : decode cG_join 140 = .ok (.getfield 88, 3) := by decide +kernel
theorem dG_join_143 : decode cG_join 143 = .ok (.invokevirtual 116, 3) := by decide +kernel
theorem dG_join_146 : decode cG_join 146 = .ok (.goto 11, 3) := by decide +kernel
theorem dG_join_149 : decode cG_join 149 = .ok (.aload_n 0, 1) := by decide +kernel
theorem dG_join_150 : decode cG_join 150 = .ok (.aload_n 1, 1) := by decide +kernel
theorem dG_join_151 : decode cG_join 151 = .ok (.getfield 88, 3) := by decide +kernel
theorem dG_join_154 : decode cG_join 154 = .ok (.invokevirtual 119, 3) := by decide +kernel
theorem dG_join_157 : decode cG_join 157 = .ok (.return_, 1) := by decide +kernel
