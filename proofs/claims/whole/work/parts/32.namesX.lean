abbrev cG_widthOf : ByteArray := prog_5_method_3_code
def yG_widthOf : MethodName := ⟨"WordChecker$Gates", "widthOf", "(LWordChecker$Draft;I[LWordChecker$Line;)I"⟩
theorem calG_widthOf : CalS gT yG_widthOf cG_widthOf 3 (some .int) 3 := ⟨⟨gT_1 (i := 517) (by decide +kernel) rfl, gT_1 (i := 4) (by decide +kernel) rfl, by decide +kernel⟩, gT_1 (i := 516) (by decide +kernel) rfl⟩
theorem dG_widthOf_0 : decode cG_widthOf 0 = .ok (.iload_n 1, 1) := by decide +kernel
theorem dG_widthOf_1 : decode cG_widthOf 1 = .ok (.aload_n 0, 1) := by decide +kernel
theorem dG_widthOf_2 : decode cG_widthOf 2 = .ok (.getfield 68, 3) := by decide +kernel
theorem dG_widthOf_5 : decode cG_widthOf 5 = .ok (.if_icmp .ge 20, 3) := by decide +kernel
theorem dG_widthOf_8 : decode cG_widthOf 8 = .ok (.aload_n 2, 1) := by decide +kernel
theorem dG_widthOf_9 : decode cG_widthOf 9 = .ok (.aload_n 0, 1) := by decide +kernel
theorem dG_widthOf_10 : decode cG_widthOf 10 = .ok (.getfield 73, 3) := by decide +kernel
theorem dG_widthOf_13 : decode cG_widthOf 13 = .ok (.iload_n 1, 1) := by decide +kernel
theorem dG_widthOf_14 : decode cG_widthOf 14 = .ok (.iaload, 1) := by decide +kernel
theorem dG_widthOf_15 : decode cG_widthOf 15 = .ok (.aaload, 1) := by decide +kernel
theorem dG_widthOf_16 : decode cG_widthOf 16 = .ok (.getfield 30, 3) := by decide +kernel
theorem dG_widthOf_19 : decode cG_widthOf 19 = .ok (.invokestatic 36, 3) := by decide +kernel
theorem dG_widthOf_22 : decode cG_widthOf 22 = .ok (.goto 4, 3) := by decide +kernel
theorem dG_widthOf_25 : decode cG_widthOf 25 = .ok (.iconst 0, 1) := by decide +kernel
theorem dG_widthOf_26 : decode cG_widthOf 26 = .ok (.ireturn, 1) := by decide +kernel
abbrev cG_load : ByteArray := prog_5_method_4_code
def yG_load : MethodName := ⟨"WordChecker$Gates", "load", "([JLWordChecker$Draft;I[LWordChecker$Line;I)V"⟩
theorem calG_load : CalS gT yG_load cG_load 9 none 5 := ⟨⟨gT_1 (i := 520) (by decide +kernel) rfl, gT_1 (i := 4) (by decide +kernel) rfl, by decide +kernel⟩, gT_1 (i := 519) (by decide +kernel) rfl⟩
theorem dG_load_0 : decode cG_load 0 = .ok (.aload_n 0, 1) := by decide +kernel
theorem dG_load_1 : decode cG_load 1 = .ok (.invokestatic 57, 3) := by decide +kernel
theorem dG_load_4 : decode cG_load 4 = .ok (.aload_n 1, 1) := by decide +kernel
theorem dG_load_5 : decode cG_load 5 = .ok (.iload_n 2, 1) := by decide +kernel
theorem dG_load_6 : decode cG_load 6 = .ok (.aload_n 3, 1) := by decide +kernel
theorem dG_load_7 : decode cG_load 7 = .ok (.invokestatic 43, 3) := by decide +kernel
theorem dG_load_10 : decode cG_load 10 = .ok (.istore 5, 2) := by decide +kernel
theorem dG_load_12 : decode cG_load 12 = .ok (.iconst 0, 1) := by decide +kernel
theorem dG_load_13 : decode cG_load 13 = .ok (.istore 6, 2) := by decide +kernel
theorem dG_load_15 : decode cG_load 15 = .ok (.iload 6, 2) := by decide +kernel
theorem dG_load_17 : decode cG_load 17 = .ok (.iload 5, 2) := by decide +kernel
theorem dG_load_19 : decode cG_load 19 = .ok (.if_icmp .ge 54, 3) := by decide +kernel
theorem dG_load_22 : decode cG_load 22 = .ok (.aload_n 3, 1) := by decide +kernel
theorem dG_load_23 : decode cG_load 23 = .ok (.aload_n 1, 1) := by decide +kernel
theorem dG_load_24 : decode cG_load 24 = .ok (.getfield 73, 3) := by decide +kernel
theorem dG_load_27 : decode cG_load 27 = .ok (.iload_n 2, 1) := by decide +kernel
theorem dG_load_28 : decode cG_load 28 = .ok (.iaload, 1) := by decide +kernel
theorem dG_load_29 : decode cG_load 29 = .ok (.aaload, 1) := by decide +kernel
theorem dG_load_30 : decode cG_load 30 = .ok (.getfield 65, 3) := by decide +kernel
theorem dG_load_33 : decode cG_load 33 = .ok (.iload 6, 2) := by decide +kernel
theorem dG_load_35 : decode cG_load 35 = .ok (.iconst 4, 1) := by decide +kernel
theorem dG_load_36 : decode cG_load 36 = .ok (.imul, 1) := by decide +kernel
theorem dG_load_37 : decode cG_load 37 = .ok (.iload 4, 2) := by decide +kernel
theorem dG_load_39 : decode cG_load 39 = .ok (.iadd, 1) := by decide +kernel
theorem dG_load_40 : decode cG_load 40 = .ok (.laload, 1) := by decide +kernel
theorem dG_load_41 : decode cG_load 41 = .ok (.lstore 7, 2) := by decide +kernel
theorem dG_load_43 : decode cG_load 43 = .ok (.aload_n 0, 1) := by decide +kernel
theorem dG_load_44 : decode cG_load 44 = .ok (.iload 6, 2) := by decide +kernel
theorem dG_load_46 : decode cG_load 46 = .ok (.aload_n 1, 1) := by decide +kernel
theorem dG_load_47 : decode cG_load 47 = .ok (.getfield 77, 3) := by decide +kernel
theorem dG_load_50 : decode cG_load 50 = .ok (.iload_n 2, 1) := by decide +kernel
theorem dG_load_51 : decode cG_load 51 = .ok (.baload, 1) := by decide +kernel
theorem dG_load_52 : decode cG_load 52 = .ok (.ifCond .eq 12, 3) := by decide +kernel
theorem dG_load_55 : decode cG_load 55 = .ok (.lload 7, 2) := by decide +kernel
theorem dG_load_57 : decode cG_load 57 = .ok (.ldc2_w 81, 3) := by decide +kernel
theorem dG_load_60 : decode cG_load 60 = .ok (.lxor, 1) := by decide +kernel
theorem dG_load_61 : decode cG_load 61 = .ok (.goto 5, 3) := by decide +kernel
theorem dG_load_64 : decode cG_load 64 = .ok (.lload 7, 2) := by decide +kernel
theorem dG_load_66 : decode cG_load 66 = .ok (.lastore, 1) := by decide +kernel
theorem dG_load_67 : decode cG_load 67 = .ok (.iinc 6 1, 3) := by decide +kernel
theorem dG_load_70 : decode cG_load 70 = .ok (.goto (-55), 3) := by decide +kernel
theorem dG_load_73 : decode cG_load 73 = .ok (.return_, 1) := by decide +kernel
abbrev cG_build : ByteArray := prog_5_method_2_code
def yG_build : MethodName := ⟨"WordChecker$Gates", "build", "(LWordChecker$Draft;LWordChecker$Line;[LWordChecker$Line;)V"⟩
theorem calG_build : CalV gT yG_build cG_build 6 none 3 := ⟨⟨gT_1 (i := 513) (by decide +kernel) rfl, gT_1 (i := 4) (by decide +kernel) rfl, by decide +kernel⟩, gT_1 (i := 511) (by decide +kernel) rfl, gT_1 (i := 512) (by decide +kernel) rfl⟩
theorem dG_build_0 : decode cG_build 0 = .ok (.aload_n 0, 1) := by decide +kernel
theorem dG_build_1 : decode cG_build 1 = .ok (.aload_n 2, 1) := by decide +kernel
theorem dG_build_2 : decode cG_build 2 = .ok (.getfield 30, 3) := by decide +kernel
theorem dG_build_5 : decode cG_build 5 = .ok (.invokestatic 36, 3) := by decide +kernel
theorem dG_build_8 : decode cG_build 8 = .ok (.putfield 40, 3) := by decide +kernel
theorem dG_build_11 : decode cG_build 11 = .ok (.aload_n 0, 1) := by decide +kernel
theorem dG_build_12 : decode cG_build 12 = .ok (.aload_n 1, 1) := by decide +kernel
theorem dG_build_13 : decode cG_build 13 = .ok (.iconst 0, 1) := by decide +kernel
theorem dG_build_14 : decode cG_build 14 = .ok (.aload_n 3, 1) := by decide +kernel
theorem dG_build_15 : decode cG_build 15 = .ok (.invokestatic 43, 3) := by decide +kernel
theorem dG_build_18 : decode cG_build 18 = .ok (.putfield 47, 3) := by decide +kernel
theorem dG_build_21 : decode cG_build 21 = .ok (.aload_n 0, 1) := by decide +kernel
theorem dG_build_22 : decode cG_build 22 = .ok (.aload_n 1, 1) := by decide +kernel
theorem dG_build_23 : decode cG_build 23 = .ok (.iconst 1, 1) := by decide +kernel
theorem dG_build_24 : decode cG_build 24 = .ok (.aload_n 3, 1) := by decide +kernel
theorem dG_build_25 : decode cG_build 25 = .ok (.invokestatic 43, 3) := by decide +kernel
theorem dG_build_28 : decode cG_build 28 = .ok (.putfield 50, 3) := by decide +kernel
theorem dG_build_31 : decode cG_build 31 = .ok (.iconst 0, 1) := by decide +kernel
theorem dG_build_32 : decode cG_build 32 = .ok (.istore 4, 2) := by decide +kernel
theorem dG_build_34 : decode cG_build 34 = .ok (.iload 4, 2) := by decide +kernel
theorem dG_build_36 : decode cG_build 36 = .ok (.iconst 4, 1) := by decide +kernel
theorem dG_build_37 : decode cG_build 37 = .ok (.if_icmp .ge 94, 3) := by decide +kernel
theorem dG_build_40 : decode cG_build 40 = .ok (.aload_n 0, 1) := by decide +kernel
theorem dG_build_41 : decode cG_build 41 = .ok (.getfield 9, 3) := by decide +kernel
theorem dG_build_44 : decode cG_build 44 = .ok (.aload_n 1, 1) := by decide +kernel
theorem dG_build_45 : decode cG_build 45 = .ok (.iconst 0, 1) := by decide +kernel
theorem dG_build_46 : decode cG_build 46 = .ok (.aload_n 3, 1) := by decide +kernel
theorem dG_build_47 : decode cG_build 47 = .ok (.iload 4, 2) := by decide +kernel
theorem dG_build_49 : decode cG_build 49 = .ok (.invokestatic 53, 3) := by decide +kernel
theorem dG_build_52 : decode cG_build 52 = .ok (.aload_n 0, 1) := by decide +kernel
theorem dG_build_53 : decode cG_build 53 = .ok (.getfield 15, 3) := by decide +kernel
theorem dG_build_56 : decode cG_build 56 = .ok (.aload_n 1, 1) := by decide +kernel
theorem dG_build_57 : decode cG_build 57 = .ok (.iconst 1, 1) := by decide +kernel
theorem dG_build_58 : decode cG_build 58 = .ok (.aload_n 3, 1) := by decide +kernel
theorem dG_build_59 : decode cG_build 59 = .ok (.iload 4, 2) := by decide +kernel
theorem dG_build_61 : decode cG_build 61 = .ok (.invokestatic 53, 3) := by decide +kernel
theorem dG_build_64 : decode cG_build 64 = .ok (.aload_n 0, 1) := by decide +kernel
theorem dG_build_65 : decode cG_build 65 = .ok (.getfield 18, 3) := by decide +kernel
theorem dG_build_68 : decode cG_build 68 = .ok (.aload_n 1, 1) := by decide +kernel
theorem dG_build_69 : decode cG_build 69 = .ok (.iconst 2, 1) := by decide +kernel
theorem dG_build_70 : decode cG_build 70 = .ok (.aload_n 3, 1) := by decide +kernel
theorem dG_build_71 : decode cG_build 71 = .ok (.iload 4, 2) := by decide +kernel
theorem dG_build_73 : decode cG_build 73 = .ok (.invokestatic 53, 3) := by decide +kernel
theorem dG_build_76 : decode cG_build 76 = .ok (.aload_n 0, 1) := by decide +kernel
theorem dG_build_77 : decode cG_build 77 = .ok (.getfield 21, 3) := by decide +kernel
theorem dG_build_80 : decode cG_build 80 = .ok (.invokestatic 57, 3) := by decide +kernel
theorem dG_build_83 : decode cG_build 83 = .ok (.aload_n 0, 1) := by decide +kernel
theorem dG_build_84 : decode cG_build 84 = .ok (.aload_n 1, 1) := by decide +kernel
theorem dG_build_85 : decode cG_build 85 = .ok (.invokevirtual 61, 3) := by decide +kernel
theorem dG_build_88 : decode cG_build 88 = .ok (.iconst 0, 1) := by decide +kernel
theorem dG_build_89 : decode cG_build 89 = .ok (.istore 5, 2) := by decide +kernel
theorem dG_build_91 : decode cG_build 91 = .ok (.iload 5, 2) := by decide +kernel
theorem dG_build_93 : decode cG_build 93 = .ok (.aload_n 0, 1) := by decide +kernel
theorem dG_build_94 : decode cG_build 94 = .ok (.getfield 40, 3) := by decide +kernel
theorem dG_build_97 : decode cG_build 97 = .ok (.if_icmp .ge 28, 3) := by decide +kernel
theorem dG_build_100 : decode cG_build 100 = .ok (.aload_n 2, 1) := by decide +kernel
theorem dG_build_101 : decode cG_build 101 = .ok (.getfield 65, 3) := by decide +kernel
theorem dG_build_104 : decode cG_build 104 = .ok (.iload 5, 2) := by decide +kernel
theorem dG_build_106 : decode cG_build 106 = .ok (.iconst 4, 1) := by decide +kernel
theorem dG_build_107 : decode cG_build 107 = .ok (.imul, 1) := by decide +kernel
theorem dG_build_108 : decode cG_build 108 = .ok (.iload 4, 2) := by decide +kernel
theorem dG_build_110 : decode cG_build 110 = .ok (.iadd, 1) := by decide +kernel
theorem dG_build_111 : decode cG_build 111 = .ok (.aload_n 0, 1) := by decide +kernel
theorem dG_build_112 : decode cG_build 112 = .ok (.getfield 21, 3) := by decide +kernel
theorem dG_build_115 : decode cG_build 115 = .ok (.iload 5, 2) := by decide +kernel
theorem dG_build_117 : decode cG_build 117 = .ok (.laload, 1) := by decide +kernel
theorem dG_build_118 : decode cG_build 118 = .ok (.lastore, 1) := by decide +kernel
theorem dG_build_119 : decode cG_build 119 = .ok (.iinc 5 1, 3) := by decide +kernel
theorem dG_build_122 : decode cG_build 122 = .ok (.goto (-31), 3) := by decide +kernel
theorem dG_build_125 : decode cG_build 125 = .ok (.iinc 4 1, 3) := by decide +kernel
theorem dG_build_128 : decode cG_build 128 = .ok (.goto (-94), 3) := by decide +kernel
theorem dG_build_131 : decode cG_build 131 = .ok (.return_, 1) := by decide +kernel
abbrev cK_isFree : ByteArray := prog_6_method_6_code
def yK_isFree : MethodName := ⟨"WordChecker$Kind", "isFree", "()Z"⟩
theorem calK_isFree : CalV gT yK_isFree cK_isFree 1 (some .boolean) 0 := ⟨⟨gT_1 (i := 459) (by decide +kernel) rfl, gT_1 (i := 14) (by decide +kernel) rfl, by decide +kernel⟩, gT_1 (i := 457) (by decide +kernel) rfl, gT_1 (i := 458) (by decide +kernel) rfl⟩
theorem dK_isFree_0 : decode cK_isFree 0 = .ok (.aload_n 0, 1) := by decide +kernel
theorem dK_isFree_1 : decode cK_isFree 1 = .ok (.getstatic 7, 3) := by decide +kernel
theorem dK_isFree_4 : decode cK_isFree 4 = .ok (.if_acmp .eq 10, 3) := by decide +kernel
theorem dK_isFree_7 : decode cK_isFree 7 = .ok (.aload_n 0, 1) := by decide +kernel
theorem dK_isFree_8 : decode cK_isFree 8 = .ok (.getstatic 10, 3) := by decide +kernel
theorem dK_isFree_11 : decode cK_isFree 11 = .ok (.if_acmp .ne 7, 3) := by decide +kernel
theorem dK_isFree_14 : decode cK_isFree 14 = .ok (.iconst 1, 1) := by decide +kernel
theorem dK_isFree_15 : decode cK_isFree 15 = .ok (.goto 4, 3) := by decide +kernel
theorem dK_isFree_18 : decode cK_isFree 18 = .ok (.iconst 0, 1) := by decide +kernel
theorem dK_isFree_19 : decode cK_isFree 19 = .ok (.ireturn, 1) := by decide +kernel
abbrev cK_isHard : ByteArray := prog_6_method_5_code
def yK_isHard : MethodName := ⟨"WordChecker$Kind", "isHard", "()Z"⟩
theorem calK_isHard : CalV gT yK_isHard cK_isHard 1 (some .boolean) 0 := ⟨⟨gT_1 (i := 364) (by decide +kernel) rfl, gT_1 (i := 14) (by decide +kernel) rfl, by decide +kernel⟩, gT_1 (i := 362) (by decide +kernel) rfl, gT_1 (i := 363) (by decide +kernel) rfl⟩
theorem dK_isHard_0 : decode cK_isHard 0 = .ok (.aload_n 0, 1) := by decide +kernel
theorem dK_isHard_1 : decode cK_isHard 1 = .ok (.getstatic 40, 3) := by decide +kernel
theorem dK_isHard_4 : decode cK_isHard 4 = .ok (.if_acmp .eq 17, 3) := by decide +kernel
theorem dK_isHard_7 : decode cK_isHard 7 = .ok (.aload_n 0, 1) := by decide +kernel
theorem dK_isHard_8 : decode cK_isHard 8 = .ok (.getstatic 43, 3) := by decide +kernel
theorem dK_isHard_11 : decode cK_isHard 11 = .ok (.if_acmp .eq 10, 3) := by decide +kernel
theorem dK_isHard_14 : decode cK_isHard 14 = .ok (.aload_n 0, 1) := by decide +kernel
theorem dK_isHard_15 : decode cK_isHard 15 = .ok (.getstatic 46, 3) := by decide +kernel
theorem dK_isHard_18 : decode cK_isHard 18 = .ok (.if_acmp .ne 7, 3) := by decide +kernel
theorem dK_isHard_21 : decode cK_isHard 21 = .ok (.iconst 1, 1) := by decide +kernel
theorem dK_isHard_22 : decode cK_isHard 22 = .ok (.goto 4, 3) := by decide +kernel
theorem dK_isHard_25 : decode cK_isHard 25 = .ok (.iconst 0, 1) := by decide +kernel
theorem dK_isHard_26 : decode cK_isHard 26 = .ok (.ireturn, 1) := by decide +kernel
abbrev cB_take : ByteArray := prog_3_method_6_code
def yB_take : MethodName := ⟨"WordChecker$Book", "take", "(LWordChecker$Draft;)V"⟩
theorem calB_take : CalV gT yB_take cB_take 3 none 1 := ⟨⟨gT_1 (i := 455) (by decide +kernel) rfl, gT_1 (i := 3) (by decide +kernel) rfl, by decide +kernel⟩, gT_1 (i := 453) (by decide +kernel) rfl, gT_1 (i := 454) (by decide +kernel) rfl⟩
theorem dB_take_0 : decode cB_take 0 = .ok (.aload_n 0, 1) := by decide +kernel
theorem dB_take_1 : decode cB_take 1 = .ok (.getfield 37, 3) := by decide +kernel
theorem dB_take_4 : decode cB_take 4 = .ok (.bipush 20, 2) := by decide +kernel
theorem dB_take_6 : decode cB_take 6 = .ok (.if_icmp .lt 4, 3) := by decide +kernel
theorem dB_take_9 : decode cB_take 9 = .ok (.return_, 1) := by decide +kernel
theorem dB_take_10 : decode cB_take 10 = .ok (.aload_n 0, 1) := by decide +kernel
theorem dB_take_11 : decode cB_take 11 = .ok (.getfield 11, 3) := by decide +kernel
theorem dB_take_14 : decode cB_take 14 = .ok (.aload_n 0, 1) := by decide +kernel
theorem dB_take_15 : decode cB_take 15 = .ok (.getfield 37, 3) := by decide +kernel
theorem dB_take_18 : decode cB_take 18 = .ok (.aaload, 1) := by decide +kernel
theorem dB_take_19 : decode cB_take 19 = .ok (.astore_n 2, 1) := by decide +kernel
theorem dB_take_20 : decode cB_take 20 = .ok (.aload_n 2, 1) := by decide +kernel
theorem dB_take_21 : decode cB_take 21 = .ok (.aload_n 1, 1) := by decide +kernel
theorem dB_take_22 : decode cB_take 22 = .ok (.getfield 64, 3) := by decide +kernel
theorem dB_take_25 : decode cB_take 25 = .ok (.putfield 41, 3) := by decide +kernel
theorem dB_take_28 : decode cB_take 28 = .ok (.aload_n 2, 1) := by decide +kernel
theorem dB_take_29 : decode cB_take 29 = .ok (.aload_n 1, 1) := by decide +kernel
theorem dB_take_30 : decode cB_take 30 = .ok (.getfield 67, 3) := by decide +kernel
theorem dB_take_33 : decode cB_take 33 = .ok (.putfield 48, 3) := by decide +kernel
theorem dB_take_36 : decode cB_take 36 = .ok (.aload_n 2, 1) := by decide +kernel
theorem dB_take_37 : decode cB_take 37 = .ok (.aload_n 1, 1) := by decide +kernel
theorem dB_take_38 : decode cB_take 38 = .ok (.getfield 68, 3) := by decide +kernel
theorem dB_take_41 : decode cB_take 41 = .ok (.putfield 61, 3) := by decide +kernel
theorem dB_take_44 : decode cB_take 44 = .ok (.aload_n 2, 1) := by decide +kernel
theorem dB_take_45 : decode cB_take 45 = .ok (.aload_n 1, 1) := by decide +kernel
theorem dB_take_46 : decode cB_take 46 = .ok (.getfield 67, 3) := by decide +kernel
theorem dB_take_49 : decode cB_take 49 = .ok (.invokevirtual 69, 3) := by decide +kernel
theorem dB_take_52 : decode cB_take 52 = .ok (.ifCond .ne 15, 3) := by decide +kernel
theorem dB_take_55 : decode cB_take 55 = .ok (.aload_n 0, 1) := by decide +kernel
theorem dB_take_56 : decode cB_take 56 = .ok (.aload_n 1, 1) := by decide +kernel
theorem dB_take_57 : decode cB_take 57 = .ok (.invokevirtual 72, 3) := by decide +kernel
theorem dB_take_60 : decode cB_take 60 = .ok (.ifCond .eq 7, 3) := by decide +kernel
theorem dB_take_63 : decode cB_take 63 = .ok (.iconst 1, 1) := by decide +kernel
theorem dB_take_64 : decode cB_take 64 = .ok (.goto 4, 3) := by decide +kernel
theorem dB_take_67 : decode cB_take 67 = .ok (.iconst 0, 1) := by decide +kernel
theorem dB_take_68 : decode cB_take 68 = .ok (.putfield 76, 3) := by decide +kernel
theorem dB_take_71 : decode cB_take 71 = .ok (.aload_n 0, 1) := by decide +kernel
theorem dB_take_72 : decode cB_take 72 = .ok (.dup, 1) := by decide +kernel
theorem dB_take_73 : decode cB_take 73 = .ok (.getfield 37, 3) := by decide +kernel
theorem dB_take_76 : decode cB_take 76 = .ok (.iconst 1, 1) := by decide +kernel
theorem dB_take_77 : decode cB_take 77 = .ok (.iadd, 1) := by decide +kernel
theorem dB_take_78 : decode cB_take 78 = .ok (.putfield 37, 3) := by decide +kernel
theorem dB_take_81 : decode cB_take 81 = .ok (.getstatic 80, 3) := by decide +kernel
theorem dB_take_84 : decode cB_take 84 = .ok (.aload_n 1, 1) := by decide +kernel
theorem dB_take_85 : decode cB_take 85 = .ok (.getfield 67, 3) := by decide +kernel
theorem dB_take_88 : decode cB_take 88 = .ok (.invokevirtual 86, 3) := by decide +kernel
theorem dB_take_91 : decode cB_take 91 = .ok (.iaload, 1) := by decide +kernel
theorem dB_take_92 : decode cB_take 92 = .ok (.tableswitch 95 1 7 #[44, 47, 55, 63, 71, 79, 87], 44) := by decide +kernel
theorem dB_take_136 : decode cB_take 136 = .ok (.goto 88, 3) := by decide +kernel
theorem dB_take_139 : decode cB_take 139 = .ok (.aload_n 0, 1) := by decide +kernel
theorem dB_take_140 : decode cB_take 140 = .ok (.aload_n 2, 1) := by decide +kernel
theorem dB_take_141 : decode cB_take 141 = .ok (.invokevirtual 90, 3) := by decide +kernel
theorem dB_take_144 : decode cB_take 144 = .ok (.goto 80, 3) := by decide +kernel
theorem dB_take_147 : decode cB_take 147 = .ok (.aload_n 0, 1) := by decide +kernel
theorem dB_take_148 : decode cB_take 148 = .ok (.aload_n 2, 1) := by decide +kernel
theorem dB_take_149 : decode cB_take 149 = .ok (.invokevirtual 94, 3) := by decide +kernel
theorem dB_take_152 : decode cB_take 152 = .ok (.goto 72, 3) := by decide +kernel
theorem dB_take_155 : decode cB_take 155 = .ok (.aload_n 0, 1) := by decide +kernel
theorem dB_take_156 : decode cB_take 156 = .ok (.aload_n 1, 1) := by decide +kernel
theorem dB_take_157 : decode cB_take 157 = .ok (.invokevirtual 97, 3) := by decide +kernel
theorem dB_take_160 : decode cB_take 160 = .ok (.goto 64, 3) := by decide +kernel
theorem dB_take_163 : decode cB_take 163 = .ok (.aload_n 0, 1) := by decide +kernel
theorem dB_take_164 : decode cB_take 164 = .ok (.aload_n 1, 1) := by decide +kernel
theorem dB_take_165 : decode cB_take 165 = .ok (.invokevirtual 101, 3) := by decide +kernel
theorem dB_take_168 : decode cB_take 168 = .ok (.goto 56, 3) := by decide +kernel
theorem dB_take_171 : decode cB_take 171 = .ok (.aload_n 0, 1) := by decide +kernel
theorem dB_take_172 : decode cB_take 172 = .ok (.aload_n 1, 1) := by decide +kernel
theorem dB_take_173 : decode cB_take 173 = .ok (.invokevirtual 104, 3) := by decide +kernel
theorem dB_take_176 : decode cB_take 176 = .ok (.goto 48, 3) := by decide +kernel
theorem dB_take_179 : decode cB_take 179 = .ok (.aload_n 0, 1) := by decide +kernel
theorem dB_take_180 : decode cB_take 180 = .ok (.aload_n 1, 1) := by decide +kernel
theorem dB_take_181 : decode cB_take 181 = .ok (.invokevirtual 107, 3) := by decide +kernel
theorem dB_take_184 : decode cB_take 184 = .ok (.goto 40, 3) := by decide +kernel
theorem dB_take_187 : decode cB_take 187 = .ok (.aload_n 0, 1) := by decide +kernel
theorem dB_take_188 : decode cB_take 188 = .ok (.dup, 1) := by decide +kernel
theorem dB_take_189 : decode cB_take 189 = .ok (.getfield 110, 3) := by decide +kernel
theorem dB_take_192 : decode cB_take 192 = .ok (.aload_n 1, 1) := by decide +kernel
theorem dB_take_193 : decode cB_take 193 = .ok (.getfield 67, 3) := by decide +kernel
theorem dB_take_196 : decode cB_take 196 = .ok (.invokevirtual 113, 3) := by decide +kernel
theorem dB_take_199 : decode cB_take 199 = .ok (.ifCond .eq 7, 3) := by decide +kernel
theorem dB_take_202 : decode cB_take 202 = .ok (.iconst 1, 1) := by decide +kernel
theorem dB_take_203 : decode cB_take 203 = .ok (.goto 4, 3) := by decide +kernel
theorem dB_take_206 : decode cB_take 206 = .ok (.iconst 0, 1) := by decide +kernel
theorem dB_take_207 : decode cB_take 207 = .ok (.iadd, 1) := by decide +kernel
theorem dB_take_208 : decode cB_take 208 = .ok (.putfield 110, 3) := by decide +kernel
theorem dB_take_211 : decode cB_take 211 = .ok (.aload_n 0, 1) := by decide +kernel
theorem dB_take_212 : decode cB_take 212 = .ok (.getfield 20, 3) := by decide +kernel
theorem dB_take_215 : decode cB_take 215 = .ok (.aload_n 1, 1) := by decide +kernel
theorem dB_take_216 : decode cB_take 216 = .ok (.aload_n 2, 1) := by decide +kernel
theorem dB_take_217 : decode cB_take 217 = .ok (.aload_n 0, 1) := by decide +kernel
theorem dB_take_218 : decode cB_take 218 = .ok (.getfield 11, 3) := by decide +kernel
theorem dB_take_221 : decode cB_take 221 = .ok (.invokevirtual 116, 3) := by decide +kernel
theorem dB_take_224 : decode cB_take 224 = .ok (.return_, 1) := by decide +kernel
abbrev cB_lastId : ByteArray := prog_3_method_2_code
def yB_lastId : MethodName := ⟨"WordChecker$Book", "lastId", "()I"⟩
theorem calB_lastId : CalV gT yB_lastId cB_lastId 1 (some .int) 0 := ⟨⟨gT_1 (i := 302) (by decide +kernel) rfl, gT_1 (i := 3) (by decide +kernel) rfl, by decide +kernel⟩, gT_1 (i := 300) (by decide +kernel) rfl, gT_1 (i := 301) (by decide +kernel) rfl⟩
theorem dB_lastId_0 : decode cB_lastId 0 = .ok (.aload_n 0, 1) := by decide +kernel
theorem dB_lastId_1 : decode cB_lastId 1 = .ok (.getfield 37, 3) := by decide +kernel
theorem dB_lastId_4 : decode cB_lastId 4 = .ok (.ifCond .le 20, 3) := by decide +kernel
theorem dB_lastId_7 : decode cB_lastId 7 = .ok (.aload_n 0, 1) := by decide +kernel
theorem dB_lastId_8 : decode cB_lastId 8 = .ok (.getfield 11, 3) := by decide +kernel
theorem dB_lastId_11 : decode cB_lastId 11 = .ok (.aload_n 0, 1) := by decide +kernel
theorem dB_lastId_12 : decode cB_lastId 12 = .ok (.getfield 37, 3) := by decide +kernel
theorem dB_lastId_15 : decode cB_lastId 15 = .ok (.iconst 1, 1) := by decide +kernel
theorem dB_lastId_16 : decode cB_lastId 16 = .ok (.isub, 1) := by decide +kernel
theorem dB_lastId_17 : decode cB_lastId 17 = .ok (.aaload, 1) := by decide +kernel
theorem dB_lastId_18 : decode cB_lastId 18 = .ok (.getfield 41, 3) := by decide +kernel
theorem dB_lastId_21 : decode cB_lastId 21 = .ok (.goto 4, 3) := by decide +kernel
theorem dB_lastId_24 : decode cB_lastId 24 = .ok (.iconst 0, 1) := by decide +kernel
theorem dB_lastId_25 : decode cB_lastId 25 = .ok (.ireturn, 1) := by decide +kernel
abbrev cD_faultOfLength : ByteArray := prog_4_method_4_code
def yD_faultOfLength : MethodName := ⟨"WordChecker$Draft", "faultOfLength", "(I)I"⟩
theorem calD_faultOfLength : CalV gT yD_faultOfLength cD_faultOfLength 2 (some .int) 1 := ⟨⟨gT_1 (i := 381) (by decide +kernel) rfl, gT_1 (i := 6) (by decide +kernel) rfl, by decide +kernel⟩, gT_1 (i := 380) (by decide +kernel) rfl, gT_s (q := (yD_faultOfLength, 11)) (by decide +kernel)⟩
theorem dD_faultOfLength_0 : decode cD_faultOfLength 0 = .ok (.aload_n 0, 1) := by decide +kernel
theorem dD_faultOfLength_1 : decode cD_faultOfLength 1 = .ok (.getfield 19, 3) := by decide +kernel
theorem dD_faultOfLength_4 : decode cD_faultOfLength 4 = .ok (.getfield 101, 3) := by decide +kernel
theorem dD_faultOfLength_7 : decode cD_faultOfLength 7 = .ok (.iload_n 1, 1) := by decide +kernel
theorem dD_faultOfLength_8 : decode cD_faultOfLength 8 = .ok (.if_icmp .le 7, 3) := by decide +kernel
theorem dD_faultOfLength_11 : decode cD_faultOfLength 11 = .ok (.iload_n 1, 1) := by decide +kernel
theorem dD_faultOfLength_12 : decode cD_faultOfLength 12 = .ok (.goto 4, 3) := by decide +kernel
theorem dD_faultOfLength_15 : decode cD_faultOfLength 15 = .ok (.iconst (-1), 1) := by decide +kernel
theorem dD_faultOfLength_16 : decode cD_faultOfLength 16 = .ok (.ireturn, 1) := by decide +kernel
abbrev cB_rowWith : ByteArray := prog_3_method_3_code
def yB_rowWith : MethodName := ⟨"WordChecker$Book", "rowWith", "(I)I"⟩
theorem calB_rowWith : CalV gT yB_rowWith cB_rowWith 3 (some .int) 1 := ⟨⟨gT_1 (i := 390) (by decide +kernel) rfl, gT_1 (i := 3) (by decide +kernel) rfl, by decide +kernel⟩, gT_1 (i := 389) (by decide +kernel) rfl, gT_s (q := (yB_rowWith, 9)) (by decide +kernel)⟩
theorem dB_rowWith_0 : decode cB_rowWith 0 = .ok (.iconst 0, 1) := by decide +kernel
theorem dB_rowWith_1 : decode cB_rowWith 1 = .ok (.istore_n 2, 1) := by decide +kernel
theorem dB_rowWith_2 : decode cB_rowWith 2 = .ok (.iload_n 2, 1) := by decide +kernel
theorem dB_rowWith_3 : decode cB_rowWith 3 = .ok (.aload_n 0, 1) := by decide +kernel
theorem dB_rowWith_4 : decode cB_rowWith 4 = .ok (.getfield 37, 3) := by decide +kernel
theorem dB_rowWith_7 : decode cB_rowWith 7 = .ok (.if_icmp .ge 24, 3) := by decide +kernel
theorem dB_rowWith_10 : decode cB_rowWith 10 = .ok (.aload_n 0, 1) := by decide +kernel
theorem dB_rowWith_11 : decode cB_rowWith 11 = .ok (.getfield 11, 3) := by decide +kernel
theorem dB_rowWith_14 : decode cB_rowWith 14 = .ok (.iload_n 2, 1) := by decide +kernel
theorem dB_rowWith_15 : decode cB_rowWith 15 = .ok (.aaload, 1) := by decide +kernel
theorem dB_rowWith_16 : decode cB_rowWith 16 = .ok (.getfield 41, 3) := by decide +kernel
theorem dB_rowWith_19 : decode cB_rowWith 19 = .ok (.iload_n 1, 1) := by decide +kernel
theorem dB_rowWith_20 : decode cB_rowWith 20 = .ok (.if_icmp .ne 5, 3) := by decide +kernel
theorem dB_rowWith_23 : decode cB_rowWith 23 = .ok (.iload_n 2, 1) := by decide +kernel
theorem dB_rowWith_24 : decode cB_rowWith 24 = .ok (.ireturn, 1) := by decide +kernel
theorem dB_rowWith_25 : decode cB_rowWith 25 = .ok (.iinc 2 1, 3) := by decide +kernel
theorem dB_rowWith_28 : decode cB_rowWith 28 = .ok (.goto (-26), 3) := by decide +kernel
theorem dB_rowWith_31 : decode cB_rowWith 31 = .ok (.iconst (-1), 1) := by decide +kernel
theorem dB_rowWith_32 : decode cB_rowWith 32 = .ok (.ireturn, 1) := by decide +kernel
abbrev cK_isNode : ByteArray := prog_6_method_4_code
def yK_isNode : MethodName := ⟨"WordChecker$Kind", "isNode", "()Z"⟩
theorem calK_isNode : CalV gT yK_isNode cK_isNode 1 (some .boolean) 0 := ⟨⟨gT_1 (i := 428) (by decide +kernel) rfl, gT_1 (i := 14) (by decide +kernel) rfl, by decide +kernel⟩, gT_1 (i := 426) (by decide +kernel) rfl, gT_1 (i := 427) (by decide +kernel) rfl⟩
theorem dK_isNode_0 : decode cK_isNode 0 = .ok (.aload_n 0, 1) := by decide +kernel
theorem dK_isNode_1 : decode cK_isNode 1 = .ok (.getstatic 3, 3) := by decide +kernel
theorem dK_isNode_4 : decode cK_isNode 4 = .ok (.if_acmp .eq 35, 3) := by decide +kernel
theorem dK_isNode_7 : decode cK_isNode 7 = .ok (.aload_n 0, 1) := by decide +kernel
theorem dK_isNode_8 : decode cK_isNode 8 = .ok (.getstatic 85, 3) := by decide +kernel
theorem dK_isNode_11 : decode cK_isNode 11 = .ok (.if_acmp .eq 28, 3) := by decide +kernel
theorem dK_isNode_14 : decode cK_isNode 14 = .ok (.aload_n 0, 1) := by decide +kernel
theorem dK_isNode_15 : decode cK_isNode 15 = .ok (.getstatic 88, 3) := by decide +kernel
theorem dK_isNode_18 : decode cK_isNode 18 = .ok (.if_acmp .eq 21, 3) := by decide +kernel
theorem dK_isNode_21 : decode cK_isNode 21 = .ok (.aload_n 0, 1) := by decide +kernel
theorem dK_isNode_22 : decode cK_isNode 22 = .ok (.getstatic 91, 3) := by decide +kernel
theorem dK_isNode_25 : decode cK_isNode 25 = .ok (.if_acmp .eq 14, 3) := by decide +kernel
theorem dK_isNode_28 : decode cK_isNode 28 = .ok (.aload_n 0, 1) := by decide +kernel
theorem dK_isNode_29 : decode cK_isNode 29 = .ok (.getstatic 94, 3) := by decide +kernel
theorem dK_isNode_32 : decode cK_isNode 32 = .ok (.if_acmp .eq 7, 3) := by decide +kernel
theorem dK_isNode_35 : decode cK_isNode 35 = .ok (.iconst 1, 1) := by decide +kernel
theorem dK_isNode_36 : decode cK_isNode 36 = .ok (.goto 4, 3) := by decide +kernel
theorem dK_isNode_39 : decode cK_isNode 39 = .ok (.iconst 0, 1) := by decide +kernel
theorem dK_isNode_40 : decode cK_isNode 40 = .ok (.ireturn, 1) := by decide +kernel
abbrev cB_nodeWith : ByteArray := prog_3_method_4_code
def yB_nodeWith : MethodName := ⟨"WordChecker$Book", "nodeWith", "(I)I"⟩
theorem calB_nodeWith : CalV gT yB_nodeWith cB_nodeWith 3 (some .int) 1 := ⟨⟨gT_1 (i := 424) (by decide +kernel) rfl, gT_1 (i := 3) (by decide +kernel) rfl, by decide +kernel⟩, gT_1 (i := 422) (by decide +kernel) rfl, gT_1 (i := 423) (by decide +kernel) rfl⟩
theorem dB_nodeWith_0 : decode cB_nodeWith 0 = .ok (.aload_n 0, 1) := by decide +kernel
theorem dB_nodeWith_1 : decode cB_nodeWith 1 = .ok (.iload_n 1, 1) := by decide +kernel
theorem dB_nodeWith_2 : decode cB_nodeWith 2 = .ok (.invokevirtual 44, 3) := by decide +kernel
theorem dB_nodeWith_5 : decode cB_nodeWith 5 = .ok (.istore_n 2, 1) := by decide +kernel
theorem dB_nodeWith_6 : decode cB_nodeWith 6 = .ok (.iload_n 2, 1) := by decide +kernel
theorem dB_nodeWith_7 : decode cB_nodeWith 7 = .ok (.iconst (-1), 1) := by decide +kernel
theorem dB_nodeWith_8 : decode cB_nodeWith 8 = .ok (.if_icmp .eq 22, 3) := by decide +kernel
theorem dB_nodeWith_11 : decode cB_nodeWith 11 = .ok (.aload_n 0, 1) := by decide +kernel
theorem dB_nodeWith_12 : decode cB_nodeWith 12 = .ok (.getfield 11, 3) := by decide +kernel
theorem dB_nodeWith_15 : decode cB_nodeWith 15 = .ok (.iload_n 2, 1) := by decide +kernel
theorem dB_nodeWith_16 : decode cB_nodeWith 16 = .ok (.aaload, 1) := by decide +kernel
theorem dB_nodeWith_17 : decode cB_nodeWith 17 = .ok (.getfield 48, 3) := by decide +kernel
theorem dB_nodeWith_20 : decode cB_nodeWith 20 = .ok (.invokevirtual 52, 3) := by decide +kernel
theorem dB_nodeWith_23 : decode cB_nodeWith 23 = .ok (.ifCond .eq 7, 3) := by decide +kernel
theorem dB_nodeWith_26 : decode cB_nodeWith 26 = .ok (.iload_n 2, 1) := by decide +kernel
theorem dB_nodeWith_27 : decode cB_nodeWith 27 = .ok (.goto 4, 3) := by decide +kernel
theorem dB_nodeWith_30 : decode cB_nodeWith 30 = .ok (.iconst (-1), 1) := by decide +kernel
theorem dB_nodeWith_31 : decode cB_nodeWith 31 = .ok (.ireturn, 1) := by decide +kernel
abbrev cD_isStateAsS : ByteArray := prog_4_method_11_code
def yD_isStateAsS : MethodName := ⟨"WordChecker$Draft", "isStateAsS", "(LWordChecker$Line;Z)Z"⟩
theorem calD_isStateAsS : CalV gT yD_isStateAsS cD_isStateAsS 3 (some .boolean) 2 := ⟨⟨gT_1 (i := 445) (by decide +kernel) rfl, gT_1 (i := 6) (by decide +kernel) rfl, by decide +kernel⟩, gT_1 (i := 444) (by decide +kernel) rfl, gT_s (q := (yD_isStateAsS, 11)) (by decide +kernel)⟩
theorem dD_isStateAsS_0 : decode cD_isStateAsS 0 = .ok (.iload_n 2, 1) := by decide +kernel
theorem dD_isStateAsS_1 : decode cD_isStateAsS 1 = .ok (.ifCond .ne 28, 3) := by decide +kernel
theorem dD_isStateAsS_4 : decode cD_isStateAsS 4 = .ok (.aload_n 1, 1) := by decide +kernel
theorem dD_isStateAsS_5 : decode cD_isStateAsS 5 = .ok (.getfield 175, 3) := by decide +kernel
theorem dD_isStateAsS_8 : decode cD_isStateAsS 8 = .ok (.getstatic 176, 3) := by decide +kernel
theorem dD_isStateAsS_11 : decode cD_isStateAsS 11 = .ok (.if_acmp .ne 18, 3) := by decide +kernel
theorem dD_isStateAsS_14 : decode cD_isStateAsS 14 = .ok (.aload_n 1, 1) := by decide +kernel
theorem dD_isStateAsS_15 : decode cD_isStateAsS 15 = .ok (.getfield 154, 3) := by decide +kernel
theorem dD_isStateAsS_18 : decode cD_isStateAsS 18 = .ok (.aload_n 0, 1) := by decide +kernel
theorem dD_isStateAsS_19 : decode cD_isStateAsS 19 = .ok (.getfield 106, 3) := by decide +kernel
theorem dD_isStateAsS_22 : decode cD_isStateAsS 22 = .ok (.if_icmp .ne 7, 3) := by decide +kernel
theorem dD_isStateAsS_25 : decode cD_isStateAsS 25 = .ok (.iconst 1, 1) := by decide +kernel
theorem dD_isStateAsS_26 : decode cD_isStateAsS 26 = .ok (.goto 4, 3) := by decide +kernel
theorem dD_isStateAsS_29 : decode cD_isStateAsS 29 = .ok (.iconst 0, 1) := by decide +kernel
theorem dD_isStateAsS_30 : decode cD_isStateAsS 30 = .ok (.ireturn, 1) := by decide +kernel
abbrev cD_suits : ByteArray := prog_4_method_10_code
def yD_suits : MethodName := ⟨"WordChecker$Draft", "suits", "(ILWordChecker$Line;Z)Z"⟩
theorem calD_suits : CalV gT yD_suits cD_suits 4 (some .boolean) 3 := ⟨⟨gT_1 (i := 441) (by decide +kernel) rfl, gT_1 (i := 6) (by decide +kernel) rfl, by decide +kernel⟩, gT_1 (i := 440) (by decide +kernel) rfl, gT_s (q := (yD_suits, 11)) (by decide +kernel)⟩
theorem dD_suits_0 : decode cD_suits 0 = .ok (.iload_n 1, 1) := by decide +kernel
theorem dD_suits_1 : decode cD_suits 1 = .ok (.tableswitch 323 98 121 #[113, 323, 323, 235, 299, 323, 323, 254, 323, 323, 160, 177, 111, 129, 323, 323, 194, 143, 323, 323, 323, 323, 277, 216], 111) := by decide +kernel
theorem dD_suits_112 : decode cD_suits 112 = .ok (.iconst 1, 1) := by decide +kernel
theorem dD_suits_113 : decode cD_suits 113 = .ok (.ireturn, 1) := by decide +kernel
theorem dD_suits_114 : decode cD_suits 114 = .ok (.aload_n 2, 1) := by decide +kernel
theorem dD_suits_115 : decode cD_suits 115 = .ok (.getfield 154, 3) := by decide +kernel
theorem dD_suits_118 : decode cD_suits 118 = .ok (.invokestatic 114, 3) := by decide +kernel
theorem dD_suits_121 : decode cD_suits 121 = .ok (.ifCond .ne 7, 3) := by decide +kernel
theorem dD_suits_124 : decode cD_suits 124 = .ok (.iconst 1, 1) := by decide +kernel
theorem dD_suits_125 : decode cD_suits 125 = .ok (.goto 4, 3) := by decide +kernel
theorem dD_suits_128 : decode cD_suits 128 = .ok (.iconst 0, 1) := by decide +kernel
theorem dD_suits_129 : decode cD_suits 129 = .ok (.ireturn, 1) := by decide +kernel
theorem dD_suits_130 : decode cD_suits 130 = .ok (.aload_n 2, 1) := by decide +kernel
theorem dD_suits_131 : decode cD_suits 131 = .ok (.getfield 154, 3) := by decide +kernel
theorem dD_suits_134 : decode cD_suits 134 = .ok (.iconst 1, 1) := by decide +kernel
theorem dD_suits_135 : decode cD_suits 135 = .ok (.if_icmp .ne 7, 3) := by decide +kernel
theorem dD_suits_138 : decode cD_suits 138 = .ok (.iconst 1, 1) := by decide +kernel
theorem dD_suits_139 : decode cD_suits 139 = .ok (.goto 4, 3) := by decide +kernel
theorem dD_suits_142 : decode cD_suits 142 = .ok (.iconst 0, 1) := by decide +kernel
theorem dD_suits_143 : decode cD_suits 143 = .ok (.ireturn, 1) := by decide +kernel
theorem dD_suits_144 : decode cD_suits 144 = .ok (.aload_n 2, 1) := by decide +kernel
theorem dD_suits_145 : decode cD_suits 145 = .ok (.getfield 154, 3) := by decide +kernel
theorem dD_suits_148 : decode cD_suits 148 = .ok (.aload_n 0, 1) := by decide +kernel
theorem dD_suits_149 : decode cD_suits 149 = .ok (.getfield 106, 3) := by decide +kernel
theorem dD_suits_152 : decode cD_suits 152 = .ok (.if_icmp .ne 7, 3) := by decide +kernel
theorem dD_suits_155 : decode cD_suits 155 = .ok (.iconst 1, 1) := by decide +kernel
theorem dD_suits_156 : decode cD_suits 156 = .ok (.goto 4, 3) := by decide +kernel
theorem dD_suits_159 : decode cD_suits 159 = .ok (.iconst 0, 1) := by decide +kernel
theorem dD_suits_160 : decode cD_suits 160 = .ok (.ireturn, 1) := by decide +kernel
theorem dD_suits_161 : decode cD_suits 161 = .ok (.aload_n 2, 1) := by decide +kernel
theorem dD_suits_162 : decode cD_suits 162 = .ok (.getfield 154, 3) := by decide +kernel
theorem dD_suits_165 : decode cD_suits 165 = .ok (.aload_n 0, 1) := by decide +kernel
theorem dD_suits_166 : decode cD_suits 166 = .ok (.getfield 141, 3) := by decide +kernel
theorem dD_suits_169 : decode cD_suits 169 = .ok (.if_icmp .ne 7, 3) := by decide +kernel
theorem dD_suits_172 : decode cD_suits 172 = .ok (.iconst 1, 1) := by decide +kernel
theorem dD_suits_173 : decode cD_suits 173 = .ok (.goto 4, 3) := by decide +kernel
theorem dD_suits_176 : decode cD_suits 176 = .ok (.iconst 0, 1) := by decide +kernel
theorem dD_suits_177 : decode cD_suits 177 = .ok (.ireturn, 1) := by decide +kernel
theorem dD_suits_178 : decode cD_suits 178 = .ok (.aload_n 2, 1) := by decide +kernel
theorem dD_suits_179 : decode cD_suits 179 = .ok (.getfield 154, 3) := by decide +kernel
theorem dD_suits_182 : decode cD_suits 182 = .ok (.aload_n 0, 1) := by decide +kernel
theorem dD_suits_183 : decode cD_suits 183 = .ok (.getfield 106, 3) := by decide +kernel
theorem dD_suits_186 : decode cD_suits 186 = .ok (.if_icmp .ge 7, 3) := by decide +kernel
theorem dD_suits_189 : decode cD_suits 189 = .ok (.iconst 1, 1) := by decide +kernel
theorem dD_suits_190 : decode cD_suits 190 = .ok (.goto 4, 3) := by decide +kernel
theorem dD_suits_193 : decode cD_suits 193 = .ok (.iconst 0, 1) := by decide +kernel
theorem dD_suits_194 : decode cD_suits 194 = .ok (.ireturn, 1) := by decide +kernel
theorem dD_suits_195 : decode cD_suits 195 = .ok (.aload_n 2, 1) := by decide +kernel
theorem dD_suits_196 : decode cD_suits 196 = .ok (.getfield 154, 3) := by decide +kernel
theorem dD_suits_199 : decode cD_suits 199 = .ok (.aload_n 0, 1) := by decide +kernel
theorem dD_suits_200 : decode cD_suits 200 = .ok (.getfield 106, 3) := by decide +kernel
theorem dD_suits_203 : decode cD_suits 203 = .ok (.aload_n 0, 1) := by decide +kernel
theorem dD_suits_204 : decode cD_suits 204 = .ok (.getfield 141, 3) := by decide +kernel
theorem dD_suits_207 : decode cD_suits 207 = .ok (.isub, 1) := by decide +kernel
theorem dD_suits_208 : decode cD_suits 208 = .ok (.if_icmp .ne 7, 3) := by decide +kernel
theorem dD_suits_211 : decode cD_suits 211 = .ok (.iconst 1, 1) := by decide +kernel
theorem dD_suits_212 : decode cD_suits 212 = .ok (.goto 4, 3) := by decide +kernel
theorem dD_suits_215 : decode cD_suits 215 = .ok (.iconst 0, 1) := by decide +kernel
theorem dD_suits_216 : decode cD_suits 216 = .ok (.ireturn, 1) := by decide +kernel
theorem dD_suits_217 : decode cD_suits 217 = .ok (.aload_n 2, 1) := by decide +kernel
theorem dD_suits_218 : decode cD_suits 218 = .ok (.getfield 154, 3) := by decide +kernel
theorem dD_suits_221 : decode cD_suits 221 = .ok (.iconst 4, 1) := by decide +kernel
theorem dD_suits_222 : decode cD_suits 222 = .ok (.aload_n 0, 1) := by decide +kernel
theorem dD_suits_223 : decode cD_suits 223 = .ok (.getfield 106, 3) := by decide +kernel
theorem dD_suits_226 : decode cD_suits 226 = .ok (.iadd, 1) := by decide +kernel
theorem dD_suits_227 : decode cD_suits 227 = .ok (.if_icmp .ne 7, 3) := by decide +kernel
theorem dD_suits_230 : decode cD_suits 230 = .ok (.iconst 1, 1) := by decide +kernel
theorem dD_suits_231 : decode cD_suits 231 = .ok (.goto 4, 3) := by decide +kernel
theorem dD_suits_234 : decode cD_suits 234 = .ok (.iconst 0, 1) := by decide +kernel
theorem dD_suits_235 : decode cD_suits 235 = .ok (.ireturn, 1) := by decide +kernel
theorem dD_suits_236 : decode cD_suits 236 = .ok (.aload_n 2, 1) := by decide +kernel
theorem dD_suits_237 : decode cD_suits 237 = .ok (.getfield 154, 3) := by decide +kernel
theorem dD_suits_240 : decode cD_suits 240 = .ok (.aload_n 0, 1) := by decide +kernel
theorem dD_suits_241 : decode cD_suits 241 = .ok (.getfield 106, 3) := by decide +kernel
theorem dD_suits_244 : decode cD_suits 244 = .ok (.iconst 4, 1) := by decide +kernel
theorem dD_suits_245 : decode cD_suits 245 = .ok (.isub, 1) := by decide +kernel
theorem dD_suits_246 : decode cD_suits 246 = .ok (.if_icmp .ne 7, 3) := by decide +kernel
theorem dD_suits_249 : decode cD_suits 249 = .ok (.iconst 1, 1) := by decide +kernel
theorem dD_suits_250 : decode cD_suits 250 = .ok (.goto 4, 3) := by decide +kernel
theorem dD_suits_253 : decode cD_suits 253 = .ok (.iconst 0, 1) := by decide +kernel
theorem dD_suits_254 : decode cD_suits 254 = .ok (.ireturn, 1) := by decide +kernel
theorem dD_suits_255 : decode cD_suits 255 = .ok (.aload_n 0, 1) := by decide +kernel
theorem dD_suits_256 : decode cD_suits 256 = .ok (.aload_n 2, 1) := by decide +kernel
theorem dD_suits_257 : decode cD_suits 257 = .ok (.iload_n 3, 1) := by decide +kernel
theorem dD_suits_258 : decode cD_suits 258 = .ok (.invokevirtual 161, 3) := by decide +kernel
theorem dD_suits_261 : decode cD_suits 261 = .ok (.ifCond .eq 15, 3) := by decide +kernel
theorem dD_suits_264 : decode cD_suits 264 = .ok (.aload_n 2, 1) := by decide +kernel
theorem dD_suits_265 : decode cD_suits 265 = .ok (.getfield 165, 3) := by decide +kernel
theorem dD_suits_268 : decode cD_suits 268 = .ok (.iconst (-1), 1) := by decide +kernel
theorem dD_suits_269 : decode cD_suits 269 = .ok (.if_icmp .ne 7, 3) := by decide +kernel
theorem dD_suits_272 : decode cD_suits 272 = .ok (.iconst 1, 1) := by decide +kernel
theorem dD_suits_273 : decode cD_suits 273 = .ok (.goto 4, 3) := by decide +kernel
theorem dD_suits_276 : decode cD_suits 276 = .ok (.iconst 0, 1) := by decide +kernel
theorem dD_suits_277 : decode cD_suits 277 = .ok (.ireturn, 1) := by decide +kernel
theorem dD_suits_278 : decode cD_suits 278 = .ok (.aload_n 0, 1) := by decide +kernel
theorem dD_suits_279 : decode cD_suits 279 = .ok (.aload_n 2, 1) := by decide +kernel
theorem dD_suits_280 : decode cD_suits 280 = .ok (.iload_n 3, 1) := by decide +kernel
theorem dD_suits_281 : decode cD_suits 281 = .ok (.invokevirtual 161, 3) := by decide +kernel
theorem dD_suits_284 : decode cD_suits 284 = .ok (.ifCond .eq 14, 3) := by decide +kernel
theorem dD_suits_287 : decode cD_suits 287 = .ok (.aload_n 2, 1) := by decide +kernel
theorem dD_suits_288 : decode cD_suits 288 = .ok (.getfield 168, 3) := by decide +kernel
theorem dD_suits_291 : decode cD_suits 291 = .ok (.ifCond .ne 7, 3) := by decide +kernel
theorem dD_suits_294 : decode cD_suits 294 = .ok (.iconst 1, 1) := by decide +kernel
theorem dD_suits_295 : decode cD_suits 295 = .ok (.goto 4, 3) := by decide +kernel
theorem dD_suits_298 : decode cD_suits 298 = .ok (.iconst 0, 1) := by decide +kernel
theorem dD_suits_299 : decode cD_suits 299 = .ok (.ireturn, 1) := by decide +kernel
theorem dD_suits_300 : decode cD_suits 300 = .ok (.aload_n 2, 1) := by decide +kernel
theorem dD_suits_301 : decode cD_suits 301 = .ok (.getfield 154, 3) := by decide +kernel
theorem dD_suits_304 : decode cD_suits 304 = .ok (.aload_n 0, 1) := by decide +kernel
theorem dD_suits_305 : decode cD_suits 305 = .ok (.getfield 106, 3) := by decide +kernel
theorem dD_suits_308 : decode cD_suits 308 = .ok (.if_icmp .ne 14, 3) := by decide +kernel
theorem dD_suits_311 : decode cD_suits 311 = .ok (.aload_n 2, 1) := by decide +kernel
theorem dD_suits_312 : decode cD_suits 312 = .ok (.getfield 172, 3) := by decide +kernel
theorem dD_suits_315 : decode cD_suits 315 = .ok (.ifCond .eq 7, 3) := by decide +kernel
theorem dD_suits_318 : decode cD_suits 318 = .ok (.iconst 1, 1) := by decide +kernel
theorem dD_suits_319 : decode cD_suits 319 = .ok (.goto 4, 3) := by decide +kernel
theorem dD_suits_322 : decode cD_suits 322 = .ok (.iconst 0, 1) := by decide +kernel
theorem dD_suits_323 : decode cD_suits 323 = .ok (.ireturn, 1) := by decide +kernel
theorem dD_suits_324 : decode cD_suits 324 = .ok (.iconst 0, 1) := by decide +kernel
theorem dD_suits_325 : decode cD_suits 325 = .ok (.ireturn, 1) := by decide +kernel
abbrev cT_hasMinus : ByteArray := prog_9_method_7_code
def yT_hasMinus : MethodName := ⟨"WordChecker$Text", "hasMinus", "(I)Z"⟩
theorem calT_hasMinus : CalV gT yT_hasMinus cT_hasMinus 2 (some .boolean) 1 := ⟨⟨gT_1 (i := 420) (by decide +kernel) rfl, gT_1 (i := 2) (by decide +kernel) rfl, by decide +kernel⟩, gT_1 (i := 418) (by decide +kernel) rfl, gT_1 (i := 419) (by decide +kernel) rfl⟩
theorem dT_hasMinus_0 : decode cT_hasMinus 0 = .ok (.iload_n 1, 1) := by decide +kernel
theorem dT_hasMinus_1 : decode cT_hasMinus 1 = .ok (.aload_n 0, 1) := by decide +kernel
theorem dT_hasMinus_2 : decode cT_hasMinus 2 = .ok (.getfield 30, 3) := by decide +kernel
theorem dT_hasMinus_5 : decode cT_hasMinus 5 = .ok (.if_icmp .ge 23, 3) := by decide +kernel
theorem dT_hasMinus_8 : decode cT_hasMinus 8 = .ok (.aload_n 0, 1) := by decide +kernel
theorem dT_hasMinus_9 : decode cT_hasMinus 9 = .ok (.getfield 9, 3) := by decide +kernel
theorem dT_hasMinus_12 : decode cT_hasMinus 12 = .ok (.aload_n 0, 1) := by decide +kernel
theorem dT_hasMinus_13 : decode cT_hasMinus 13 = .ok (.getfield 15, 3) := by decide +kernel
theorem dT_hasMinus_16 : decode cT_hasMinus 16 = .ok (.iload_n 1, 1) := by decide +kernel
theorem dT_hasMinus_17 : decode cT_hasMinus 17 = .ok (.iaload, 1) := by decide +kernel
theorem dT_hasMinus_18 : decode cT_hasMinus 18 = .ok (.caload, 1) := by decide +kernel
theorem dT_hasMinus_19 : decode cT_hasMinus 19 = .ok (.bipush 45, 2) := by decide +kernel
theorem dT_hasMinus_21 : decode cT_hasMinus 21 = .ok (.if_icmp .ne 7, 3) := by decide +kernel
theorem dT_hasMinus_24 : decode cT_hasMinus 24 = .ok (.iconst 1, 1) := by decide +kernel
theorem dT_hasMinus_25 : decode cT_hasMinus 25 = .ok (.goto 4, 3) := by decide +kernel
theorem dT_hasMinus_28 : decode cT_hasMinus 28 = .ok (.iconst 0, 1) := by decide +kernel
theorem dT_hasMinus_29 : decode cT_hasMinus 29 = .ok (.ireturn, 1) := by decide +kernel
abbrev cT_number : ByteArray := prog_9_method_8_code
def yT_number : MethodName := ⟨"WordChecker$Text", "number", "(II)I"⟩
theorem calT_number : CalV gT yT_number cT_number 7 (some .int) 2 := ⟨⟨gT_1 (i := 298) (by decide +kernel) rfl, gT_1 (i := 2) (by decide +kernel) rfl, by decide +kernel⟩, gT_1 (i := 296) (by decide +kernel) rfl, gT_1 (i := 297) (by decide +kernel) rfl⟩
theorem dT_number_0 : decode cT_number 0 = .ok (.iload_n 1, 1) := by decide +kernel
theorem dT_number_1 : decode cT_number 1 = .ok (.aload_n 0, 1) := by decide +kernel
theorem dT_number_2 : decode cT_number 2 = .ok (.getfield 30, 3) := by decide +kernel
theorem dT_number_5 : decode cT_number 5 = .ok (.if_icmp .lt 5, 3) := by decide +kernel
theorem dT_number_8 : decode cT_number 8 = .ok (.iconst (-1), 1) := by decide +kernel
theorem dT_number_9 : decode cT_number 9 = .ok (.ireturn, 1) := by decide +kernel
theorem dT_number_10 : decode cT_number 10 = .ok (.aload_n 0, 1) := by decide +kernel
theorem dT_number_11 : decode cT_number 11 = .ok (.getfield 15, 3) := by decide +kernel
theorem dT_number_14 : decode cT_number 14 = .ok (.iload_n 1, 1) := by decide +kernel
theorem dT_number_15 : decode cT_number 15 = .ok (.iaload, 1) := by decide +kernel
theorem dT_number_16 : decode cT_number 16 = .ok (.iload_n 2, 1) := by decide +kernel
theorem dT_number_17 : decode cT_number 17 = .ok (.iadd, 1) := by decide +kernel
theorem dT_number_18 : decode cT_number 18 = .ok (.istore_n 3, 1) := by decide +kernel
theorem dT_number_19 : decode cT_number 19 = .ok (.aload_n 0, 1) := by decide +kernel
theorem dT_number_20 : decode cT_number 20 = .ok (.getfield 19, 3) := by decide +kernel
theorem dT_number_23 : decode cT_number 23 = .ok (.iload_n 1, 1) := by decide +kernel
theorem dT_number_24 : decode cT_number 24 = .ok (.iaload, 1) := by decide +kernel
theorem dT_number_25 : decode cT_number 25 = .ok (.iload_n 3, 1) := by decide +kernel
theorem dT_number_26 : decode cT_number 26 = .ok (.isub, 1) := by decide +kernel
theorem dT_number_27 : decode cT_number 27 = .ok (.istore 4, 2) := by decide +kernel
theorem dT_number_29 : decode cT_number 29 = .ok (.iload 4, 2) := by decide +kernel
theorem dT_number_31 : decode cT_number 31 = .ok (.iconst 1, 1) := by decide +kernel
theorem dT_number_32 : decode cT_number 32 = .ok (.if_icmp .lt 26, 3) := by decide +kernel
theorem dT_number_35 : decode cT_number 35 = .ok (.iload 4, 2) := by decide +kernel
theorem dT_number_37 : decode cT_number 37 = .ok (.iconst 2, 1) := by decide +kernel
theorem dT_number_38 : decode cT_number 38 = .ok (.if_icmp .gt 20, 3) := by decide +kernel
theorem dT_number_41 : decode cT_number 41 = .ok (.iload 4, 2) := by decide +kernel
theorem dT_number_43 : decode cT_number 43 = .ok (.iconst 2, 1) := by decide +kernel
theorem dT_number_44 : decode cT_number 44 = .ok (.if_icmp .ne 16, 3) := by decide +kernel
theorem dT_number_47 : decode cT_number 47 = .ok (.aload_n 0, 1) := by decide +kernel
theorem dT_number_48 : decode cT_number 48 = .ok (.getfield 9, 3) := by decide +kernel
theorem dT_number_51 : decode cT_number 51 = .ok (.iload_n 3, 1) := by decide +kernel
theorem dT_number_52 : decode cT_number 52 = .ok (.caload, 1) := by decide +kernel
theorem dT_number_53 : decode cT_number 53 = .ok (.bipush 48, 2) := by decide +kernel
theorem dT_number_55 : decode cT_number 55 = .ok (.if_icmp .ne 5, 3) := by decide +kernel
theorem dT_number_58 : decode cT_number 58 = .ok (.iconst (-1), 1) := by decide +kernel
theorem dT_number_59 : decode cT_number 59 = .ok (.ireturn, 1) := by decide +kernel
theorem dT_number_60 : decode cT_number 60 = .ok (.iconst 0, 1) := by decide +kernel
theorem dT_number_61 : decode cT_number 61 = .ok (.istore 5, 2) := by decide +kernel
theorem dT_number_63 : decode cT_number 63 = .ok (.iload_n 3, 1) := by decide +kernel
theorem dT_number_64 : decode cT_number 64 = .ok (.istore 6, 2) := by decide +kernel
theorem dT_number_66 : decode cT_number 66 = .ok (.iload 6, 2) := by decide +kernel
theorem dT_number_68 : decode cT_number 68 = .ok (.aload_n 0, 1) := by decide +kernel
theorem dT_number_69 : decode cT_number 69 = .ok (.getfield 19, 3) := by decide +kernel
theorem dT_number_72 : decode cT_number 72 = .ok (.iload_n 1, 1) := by decide +kernel
theorem dT_number_73 : decode cT_number 73 = .ok (.iaload, 1) := by decide +kernel
theorem dT_number_74 : decode cT_number 74 = .ok (.if_icmp .ge 53, 3) := by decide +kernel
theorem dT_number_77 : decode cT_number 77 = .ok (.aload_n 0, 1) := by decide +kernel
theorem dT_number_78 : decode cT_number 78 = .ok (.getfield 9, 3) := by decide +kernel
theorem dT_number_81 : decode cT_number 81 = .ok (.iload 6, 2) := by decide +kernel
theorem dT_number_83 : decode cT_number 83 = .ok (.caload, 1) := by decide +kernel
theorem dT_number_84 : decode cT_number 84 = .ok (.bipush 48, 2) := by decide +kernel
theorem dT_number_86 : decode cT_number 86 = .ok (.if_icmp .lt 15, 3) := by decide +kernel
theorem dT_number_89 : decode cT_number 89 = .ok (.aload_n 0, 1) := by decide +kernel
theorem dT_number_90 : decode cT_number 90 = .ok (.getfield 9, 3) := by decide +kernel
theorem dT_number_93 : decode cT_number 93 = .ok (.iload 6, 2) := by decide +kernel
theorem dT_number_95 : decode cT_number 95 = .ok (.caload, 1) := by decide +kernel
theorem dT_number_96 : decode cT_number 96 = .ok (.bipush 57, 2) := by decide +kernel
theorem dT_number_98 : decode cT_number 98 = .ok (.if_icmp .le 5, 3) := by decide +kernel
theorem dT_number_101 : decode cT_number 101 = .ok (.iconst (-1), 1) := by decide +kernel
theorem dT_number_102 : decode cT_number 102 = .ok (.ireturn, 1) := by decide +kernel
theorem dT_number_103 : decode cT_number 103 = .ok (.bipush 10, 2) := by decide +kernel
theorem dT_number_105 : decode cT_number 105 = .ok (.iload 5, 2) := by decide +kernel
theorem dT_number_107 : decode cT_number 107 = .ok (.imul, 1) := by decide +kernel
theorem dT_number_108 : decode cT_number 108 = .ok (.aload_n 0, 1) := by decide +kernel
theorem dT_number_109 : decode cT_number 109 = .ok (.getfield 9, 3) := by decide +kernel
theorem dT_number_112 : decode cT_number 112 = .ok (.iload 6, 2) := by decide +kernel
theorem dT_number_114 : decode cT_number 114 = .ok (.caload, 1) := by decide +kernel
theorem dT_number_115 : decode cT_number 115 = .ok (.bipush 48, 2) := by decide +kernel
theorem dT_number_117 : decode cT_number 117 = .ok (.isub, 1) := by decide +kernel
theorem dT_number_118 : decode cT_number 118 = .ok (.iadd, 1) := by decide +kernel
theorem dT_number_119 : decode cT_number 119 = .ok (.istore 5, 2) := by decide +kernel
theorem dT_number_121 : decode cT_number 121 = .ok (.iinc 6 1, 3) := by decide +kernel
theorem dT_number_124 : decode cT_number 124 = .ok (.goto (-58), 3) := by decide +kernel
theorem dT_number_127 : decode cT_number 127 = .ok (.iload 5, 2) := by decide +kernel
theorem dT_number_129 : decode cT_number 129 = .ok (.ireturn, 1) := by decide +kernel
abbrev cD_nodeFits : ByteArray := prog_4_method_9_code
def yD_nodeFits : MethodName := ⟨"WordChecker$Draft", "nodeFits", "(II)Z"⟩
theorem calD_nodeFits : CalV gT yD_nodeFits cD_nodeFits 6 (some .boolean) 2 := ⟨⟨gT_1 (i := 416) (by decide +kernel) rfl, gT_1 (i := 6) (by decide +kernel) rfl, by decide +kernel⟩, gT_1 (i := 415) (by decide +kernel) rfl, gT_s (q := (yD_nodeFits, 11)) (by decide +kernel)⟩
theorem dD_nodeFits_0 : decode cD_nodeFits 0 = .ok (.aload_n 0, 1) := by decide +kernel
theorem dD_nodeFits_1 : decode cD_nodeFits 1 = .ok (.getfield 19, 3) := by decide +kernel
theorem dD_nodeFits_4 : decode cD_nodeFits 4 = .ok (.iload_n 2, 1) := by decide +kernel
theorem dD_nodeFits_5 : decode cD_nodeFits 5 = .ok (.invokevirtual 144, 3) := by decide +kernel
theorem dD_nodeFits_8 : decode cD_nodeFits 8 = .ok (.istore_n 3, 1) := by decide +kernel
theorem dD_nodeFits_9 : decode cD_nodeFits 9 = .ok (.aload_n 0, 1) := by decide +kernel
theorem dD_nodeFits_10 : decode cD_nodeFits 10 = .ok (.getfield 23, 3) := by decide +kernel
theorem dD_nodeFits_13 : decode cD_nodeFits 13 = .ok (.aload_n 0, 1) := by decide +kernel
theorem dD_nodeFits_14 : decode cD_nodeFits 14 = .ok (.getfield 19, 3) := by decide +kernel
theorem dD_nodeFits_17 : decode cD_nodeFits 17 = .ok (.iload_n 2, 1) := by decide +kernel
theorem dD_nodeFits_18 : decode cD_nodeFits 18 = .ok (.iload_n 3, 1) := by decide +kernel
theorem dD_nodeFits_19 : decode cD_nodeFits 19 = .ok (.ifCond .eq 7, 3) := by decide +kernel
theorem dD_nodeFits_22 : decode cD_nodeFits 22 = .ok (.iconst 1, 1) := by decide +kernel
theorem dD_nodeFits_23 : decode cD_nodeFits 23 = .ok (.goto 4, 3) := by decide +kernel
theorem dD_nodeFits_26 : decode cD_nodeFits 26 = .ok (.iconst 0, 1) := by decide +kernel
theorem dD_nodeFits_27 : decode cD_nodeFits 27 = .ok (.invokevirtual 31, 3) := by decide +kernel
theorem dD_nodeFits_30 : decode cD_nodeFits 30 = .ok (.invokevirtual 147, 3) := by decide +kernel
theorem dD_nodeFits_33 : decode cD_nodeFits 33 = .ok (.istore 4, 2) := by decide +kernel
theorem dD_nodeFits_35 : decode cD_nodeFits 35 = .ok (.iload 4, 2) := by decide +kernel
theorem dD_nodeFits_37 : decode cD_nodeFits 37 = .ok (.iconst (-1), 1) := by decide +kernel
theorem dD_nodeFits_38 : decode cD_nodeFits 38 = .ok (.if_icmp .eq 15, 3) := by decide +kernel
theorem dD_nodeFits_41 : decode cD_nodeFits 41 = .ok (.aload_n 0, 1) := by decide +kernel
theorem dD_nodeFits_42 : decode cD_nodeFits 42 = .ok (.getfield 27, 3) := by decide +kernel
theorem dD_nodeFits_45 : decode cD_nodeFits 45 = .ok (.aload_n 0, 1) := by decide +kernel
theorem dD_nodeFits_46 : decode cD_nodeFits 46 = .ok (.getfield 9, 3) := by decide +kernel
theorem dD_nodeFits_49 : decode cD_nodeFits 49 = .ok (.arraylength, 1) := by decide +kernel
theorem dD_nodeFits_50 : decode cD_nodeFits 50 = .ok (.if_icmp .lt 5, 3) := by decide +kernel
theorem dD_nodeFits_53 : decode cD_nodeFits 53 = .ok (.iconst 0, 1) := by decide +kernel
theorem dD_nodeFits_54 : decode cD_nodeFits 54 = .ok (.ireturn, 1) := by decide +kernel
theorem dD_nodeFits_55 : decode cD_nodeFits 55 = .ok (.aload_n 0, 1) := by decide +kernel
theorem dD_nodeFits_56 : decode cD_nodeFits 56 = .ok (.getfield 23, 3) := by decide +kernel
theorem dD_nodeFits_59 : decode cD_nodeFits 59 = .ok (.getfield 150, 3) := by decide +kernel
theorem dD_nodeFits_62 : decode cD_nodeFits 62 = .ok (.iload 4, 2) := by decide +kernel
theorem dD_nodeFits_64 : decode cD_nodeFits 64 = .ok (.aaload, 1) := by decide +kernel
theorem dD_nodeFits_65 : decode cD_nodeFits 65 = .ok (.astore 5, 2) := by decide +kernel
theorem dD_nodeFits_67 : decode cD_nodeFits 67 = .ok (.iload_n 3, 1) := by decide +kernel
theorem dD_nodeFits_68 : decode cD_nodeFits 68 = .ok (.ifCond .eq 16, 3) := by decide +kernel
theorem dD_nodeFits_71 : decode cD_nodeFits 71 = .ok (.aload 5, 2) := by decide +kernel
theorem dD_nodeFits_73 : decode cD_nodeFits 73 = .ok (.getfield 154, 3) := by decide +kernel
theorem dD_nodeFits_76 : decode cD_nodeFits 76 = .ok (.invokestatic 114, 3) := by decide +kernel
theorem dD_nodeFits_79 : decode cD_nodeFits 79 = .ok (.ifCond .eq 5, 3) := by decide +kernel
theorem dD_nodeFits_82 : decode cD_nodeFits 82 = .ok (.iconst 0, 1) := by decide +kernel
theorem dD_nodeFits_83 : decode cD_nodeFits 83 = .ok (.ireturn, 1) := by decide +kernel
theorem dD_nodeFits_84 : decode cD_nodeFits 84 = .ok (.aload_n 0, 1) := by decide +kernel
theorem dD_nodeFits_85 : decode cD_nodeFits 85 = .ok (.iload_n 1, 1) := by decide +kernel
theorem dD_nodeFits_86 : decode cD_nodeFits 86 = .ok (.aload 5, 2) := by decide +kernel
theorem dD_nodeFits_88 : decode cD_nodeFits 88 = .ok (.iload_n 3, 1) := by decide +kernel
theorem dD_nodeFits_89 : decode cD_nodeFits 89 = .ok (.invokevirtual 157, 3) := by decide +kernel
theorem dD_nodeFits_92 : decode cD_nodeFits 92 = .ok (.ifCond .ne 5, 3) := by decide +kernel
theorem dD_nodeFits_95 : decode cD_nodeFits 95 = .ok (.iconst 0, 1) := by decide +kernel
theorem dD_nodeFits_96 : decode cD_nodeFits 96 = .ok (.ireturn, 1) := by decide +kernel
theorem dD_nodeFits_97 : decode cD_nodeFits 97 = .ok (.aload_n 0, 1) := by decide +kernel
theorem dD_nodeFits_98 : decode cD_nodeFits 98 = .ok (.getfield 9, 3) := by decide +kernel
theorem dD_nodeFits_101 : decode cD_nodeFits 101 = .ok (.aload_n 0, 1) := by decide +kernel
theorem dD_nodeFits_102 : decode cD_nodeFits 102 = .ok (.getfield 27, 3) := by decide +kernel
theorem dD_nodeFits_105 : decode cD_nodeFits 105 = .ok (.iload 4, 2) := by decide +kernel
theorem dD_nodeFits_107 : decode cD_nodeFits 107 = .ok (.iastore, 1) := by decide +kernel
theorem dD_nodeFits_108 : decode cD_nodeFits 108 = .ok (.aload_n 0, 1) := by decide +kernel
theorem dD_nodeFits_109 : decode cD_nodeFits 109 = .ok (.getfield 15, 3) := by decide +kernel
theorem dD_nodeFits_112 : decode cD_nodeFits 112 = .ok (.aload_n 0, 1) := by decide +kernel
theorem dD_nodeFits_113 : decode cD_nodeFits 113 = .ok (.getfield 27, 3) := by decide +kernel
theorem dD_nodeFits_116 : decode cD_nodeFits 116 = .ok (.iload_n 3, 1) := by decide +kernel
theorem dD_nodeFits_117 : decode cD_nodeFits 117 = .ok (.bastore, 1) := by decide +kernel
theorem dD_nodeFits_118 : decode cD_nodeFits 118 = .ok (.aload_n 0, 1) := by decide +kernel
theorem dD_nodeFits_119 : decode cD_nodeFits 119 = .ok (.dup, 1) := by decide +kernel
theorem dD_nodeFits_120 : decode cD_nodeFits 120 = .ok (.getfield 27, 3) := by decide +kernel
theorem dD_nodeFits_123 : decode cD_nodeFits 123 = .ok (.iconst 1, 1) := by decide +kernel
theorem dD_nodeFits_124 : decode cD_nodeFits 124 = .ok (.iadd, 1) := by decide +kernel
theorem dD_nodeFits_125 : decode cD_nodeFits 125 = .ok (.putfield 27, 3) := by decide +kernel
theorem dD_nodeFits_128 : decode cD_nodeFits 128 = .ok (.aload_n 0, 1) := by decide +kernel
theorem dD_nodeFits_129 : decode cD_nodeFits 129 = .ok (.aload 5, 2) := by decide +kernel
theorem dD_nodeFits_131 : decode cD_nodeFits 131 = .ok (.getfield 154, 3) := by decide +kernel
theorem dD_nodeFits_134 : decode cD_nodeFits 134 = .ok (.putfield 141, 3) := by decide +kernel
theorem dD_nodeFits_137 : decode cD_nodeFits 137 = .ok (.iconst 1, 1) := by decide +kernel
theorem dD_nodeFits_138 : decode cD_nodeFits 138 = .ok (.ireturn, 1) := by decide +kernel
