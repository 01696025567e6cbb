abbrev cM_settle : ByteArray := prog_11_method_44_code
def yM_settle : MethodName := ⟨"WordCheckerModel", "settle", "()V"⟩
theorem calM_settle : CalV gT yM_settle cM_settle 2 none 0 := ⟨⟨gT_1 (i := 985) (by decide +kernel) rfl, gT_1 (i := 8) (by decide +kernel) rfl, by decide +kernel⟩, gT_1 (i := 984) (by decide +kernel) rfl, gT_s (q := (yM_settle, 28)) (by decide +kernel)⟩
theorem dM_settle_0 : decode cM_settle 0 = .ok (.iconst 0, 1) := by decide +kernel
theorem dM_settle_1 : decode cM_settle 1 = .ok (.istore_n 1, 1) := by decide +kernel
theorem dM_settle_2 : decode cM_settle 2 = .ok (.iload_n 1, 1) := by decide +kernel
theorem dM_settle_3 : decode cM_settle 3 = .ok (.aload_n 0, 1) := by decide +kernel
theorem dM_settle_4 : decode cM_settle 4 = .ok (.getfield 155, 3) := by decide +kernel
theorem dM_settle_7 : decode cM_settle 7 = .ok (.if_icmp .ge 38, 3) := by decide +kernel
theorem dM_settle_10 : decode cM_settle 10 = .ok (.aload_n 0, 1) := by decide +kernel
theorem dM_settle_11 : decode cM_settle 11 = .ok (.iload_n 1, 1) := by decide +kernel
theorem dM_settle_12 : decode cM_settle 12 = .ok (.invokevirtual 172, 3) := by decide +kernel
theorem dM_settle_15 : decode cM_settle 15 = .ok (.ifCond .eq 24, 3) := by decide +kernel
theorem dM_settle_18 : decode cM_settle 18 = .ok (.aload_n 0, 1) := by decide +kernel
theorem dM_settle_19 : decode cM_settle 19 = .ok (.getfield 22, 3) := by decide +kernel
theorem dM_settle_22 : decode cM_settle 22 = .ok (.iload_n 1, 1) := by decide +kernel
theorem dM_settle_23 : decode cM_settle 23 = .ok (.iaload, 1) := by decide +kernel
theorem dM_settle_24 : decode cM_settle 24 = .ok (.iconst 2, 1) := by decide +kernel
theorem dM_settle_25 : decode cM_settle 25 = .ok (.if_icmp .le 14, 3) := by decide +kernel
theorem dM_settle_28 : decode cM_settle 28 = .ok (.aload_n 0, 1) := by decide +kernel
theorem dM_settle_29 : decode cM_settle 29 = .ok (.getfield 59, 3) := by decide +kernel
theorem dM_settle_32 : decode cM_settle 32 = .ok (.iload_n 1, 1) := by decide +kernel
theorem dM_settle_33 : decode cM_settle 33 = .ok (.aload_n 0, 1) := by decide +kernel
theorem dM_settle_34 : decode cM_settle 34 = .ok (.iload_n 1, 1) := by decide +kernel
theorem dM_settle_35 : decode cM_settle 35 = .ok (.invokevirtual 292, 3) := by decide +kernel
theorem dM_settle_38 : decode cM_settle 38 = .ok (.iastore, 1) := by decide +kernel
theorem dM_settle_39 : decode cM_settle 39 = .ok (.iinc 1 1, 3) := by decide +kernel
theorem dM_settle_42 : decode cM_settle 42 = .ok (.goto (-40), 3) := by decide +kernel
theorem dM_settle_45 : decode cM_settle 45 = .ok (.return_, 1) := by decide +kernel
abbrev cM_advance : ByteArray := prog_11_method_45_code
def yM_advance : MethodName := ⟨"WordCheckerModel", "advance", "()V"⟩
theorem calM_advance : CalV gT yM_advance cM_advance 2 none 0 := ⟨⟨gT_1 (i := 1037) (by decide +kernel) rfl, gT_1 (i := 8) (by decide +kernel) rfl, by decide +kernel⟩, gT_1 (i := 1036) (by decide +kernel) rfl, gT_s (q := (yM_advance, 28)) (by decide +kernel)⟩
theorem dM_advance_0 : decode cM_advance 0 = .ok (.iconst 0, 1) := by decide +kernel
theorem dM_advance_1 : decode cM_advance 1 = .ok (.istore_n 1, 1) := by decide +kernel
theorem dM_advance_2 : decode cM_advance 2 = .ok (.iload_n 1, 1) := by decide +kernel
theorem dM_advance_3 : decode cM_advance 3 = .ok (.aload_n 0, 1) := by decide +kernel
theorem dM_advance_4 : decode cM_advance 4 = .ok (.getfield 155, 3) := by decide +kernel
theorem dM_advance_7 : decode cM_advance 7 = .ok (.if_icmp .ge 47, 3) := by decide +kernel
theorem dM_advance_10 : decode cM_advance 10 = .ok (.aload_n 0, 1) := by decide +kernel
theorem dM_advance_11 : decode cM_advance 11 = .ok (.getfield 22, 3) := by decide +kernel
theorem dM_advance_14 : decode cM_advance 14 = .ok (.iload_n 1, 1) := by decide +kernel
theorem dM_advance_15 : decode cM_advance 15 = .ok (.iaload, 1) := by decide +kernel
theorem dM_advance_16 : decode cM_advance 16 = .ok (.bipush 28, 2) := by decide +kernel
theorem dM_advance_18 : decode cM_advance 18 = .ok (.if_icmp .ne 30, 3) := by decide +kernel
theorem dM_advance_21 : decode cM_advance 21 = .ok (.aload_n 0, 1) := by decide +kernel
theorem dM_advance_22 : decode cM_advance 22 = .ok (.getfield 62, 3) := by decide +kernel
theorem dM_advance_25 : decode cM_advance 25 = .ok (.aload_n 0, 1) := by decide +kernel
theorem dM_advance_26 : decode cM_advance 26 = .ok (.getfield 28, 3) := by decide +kernel
theorem dM_advance_29 : decode cM_advance 29 = .ok (.iload_n 1, 1) := by decide +kernel
theorem dM_advance_30 : decode cM_advance 30 = .ok (.iaload, 1) := by decide +kernel
theorem dM_advance_31 : decode cM_advance 31 = .ok (.aload_n 0, 1) := by decide +kernel
theorem dM_advance_32 : decode cM_advance 32 = .ok (.aload_n 0, 1) := by decide +kernel
theorem dM_advance_33 : decode cM_advance 33 = .ok (.getfield 31, 3) := by decide +kernel
theorem dM_advance_36 : decode cM_advance 36 = .ok (.iload_n 1, 1) := by decide +kernel
theorem dM_advance_37 : decode cM_advance 37 = .ok (.iaload, 1) := by decide +kernel
theorem dM_advance_38 : decode cM_advance 38 = .ok (.aload_n 0, 1) := by decide +kernel
theorem dM_advance_39 : decode cM_advance 39 = .ok (.getfield 41, 3) := by decide +kernel
theorem dM_advance_42 : decode cM_advance 42 = .ok (.iload_n 1, 1) := by decide +kernel
theorem dM_advance_43 : decode cM_advance 43 = .ok (.baload, 1) := by decide +kernel
theorem dM_advance_44 : decode cM_advance 44 = .ok (.invokevirtual 274, 3) := by decide +kernel
theorem dM_advance_47 : decode cM_advance 47 = .ok (.iastore, 1) := by decide +kernel
theorem dM_advance_48 : decode cM_advance 48 = .ok (.iinc 1 1, 3) := by decide +kernel
theorem dM_advance_51 : decode cM_advance 51 = .ok (.goto (-49), 3) := by decide +kernel
theorem dM_advance_54 : decode cM_advance 54 = .ok (.iconst 0, 1) := by decide +kernel
theorem dM_advance_55 : decode cM_advance 55 = .ok (.istore_n 1, 1) := by decide +kernel
theorem dM_advance_56 : decode cM_advance 56 = .ok (.iload_n 1, 1) := by decide +kernel
theorem dM_advance_57 : decode cM_advance 57 = .ok (.aload_n 0, 1) := by decide +kernel
theorem dM_advance_58 : decode cM_advance 58 = .ok (.getfield 155, 3) := by decide +kernel
theorem dM_advance_61 : decode cM_advance 61 = .ok (.if_icmp .ge 42, 3) := by decide +kernel
theorem dM_advance_64 : decode cM_advance 64 = .ok (.aload_n 0, 1) := by decide +kernel
theorem dM_advance_65 : decode cM_advance 65 = .ok (.getfield 22, 3) := by decide +kernel
theorem dM_advance_68 : decode cM_advance 68 = .ok (.iload_n 1, 1) := by decide +kernel
theorem dM_advance_69 : decode cM_advance 69 = .ok (.iaload, 1) := by decide +kernel
theorem dM_advance_70 : decode cM_advance 70 = .ok (.bipush 28, 2) := by decide +kernel
theorem dM_advance_72 : decode cM_advance 72 = .ok (.if_icmp .ne 25, 3) := by decide +kernel
theorem dM_advance_75 : decode cM_advance 75 = .ok (.aload_n 0, 1) := by decide +kernel
theorem dM_advance_76 : decode cM_advance 76 = .ok (.getfield 59, 3) := by decide +kernel
theorem dM_advance_79 : decode cM_advance 79 = .ok (.aload_n 0, 1) := by decide +kernel
theorem dM_advance_80 : decode cM_advance 80 = .ok (.getfield 28, 3) := by decide +kernel
theorem dM_advance_83 : decode cM_advance 83 = .ok (.iload_n 1, 1) := by decide +kernel
theorem dM_advance_84 : decode cM_advance 84 = .ok (.iaload, 1) := by decide +kernel
theorem dM_advance_85 : decode cM_advance 85 = .ok (.aload_n 0, 1) := by decide +kernel
theorem dM_advance_86 : decode cM_advance 86 = .ok (.getfield 62, 3) := by decide +kernel
theorem dM_advance_89 : decode cM_advance 89 = .ok (.aload_n 0, 1) := by decide +kernel
theorem dM_advance_90 : decode cM_advance 90 = .ok (.getfield 28, 3) := by decide +kernel
theorem dM_advance_93 : decode cM_advance 93 = .ok (.iload_n 1, 1) := by decide +kernel
theorem dM_advance_94 : decode cM_advance 94 = .ok (.iaload, 1) := by decide +kernel
theorem dM_advance_95 : decode cM_advance 95 = .ok (.iaload, 1) := by decide +kernel
theorem dM_advance_96 : decode cM_advance 96 = .ok (.iastore, 1) := by decide +kernel
theorem dM_advance_97 : decode cM_advance 97 = .ok (.iinc 1 1, 3) := by decide +kernel
theorem dM_advance_100 : decode cM_advance 100 = .ok (.goto (-44), 3) := by decide +kernel
theorem dM_advance_103 : decode cM_advance 103 = .ok (.return_, 1) := by decide +kernel
abbrev cM_initz : ByteArray := prog_11_method_46_code
set_option maxRecDepth 100000 in
theorem calM_initz : CalV gT yM_initz cM_initz 2 none 0 := ⟨⟨gT_1 (i := 981) (by decide +kernel) rfl, gT_1 (i := 8) (by decide +kernel) rfl, by decide +kernel⟩, gT_1 (i := 980) (by decide +kernel) rfl, gT_s (q := (yM_initz, 28)) (by decide +kernel)⟩
theorem dM_initz_0 : decode cM_initz 0 = .ok (.iconst 0, 1) := by decide +kernel
theorem dM_initz_1 : decode cM_initz 1 = .ok (.istore_n 1, 1) := by decide +kernel
theorem dM_initz_2 : decode cM_initz 2 = .ok (.iload_n 1, 1) := by decide +kernel
theorem dM_initz_3 : decode cM_initz 3 = .ok (.aload_n 0, 1) := by decide +kernel
theorem dM_initz_4 : decode cM_initz 4 = .ok (.getfield 155, 3) := by decide +kernel
theorem dM_initz_7 : decode cM_initz 7 = .ok (.if_icmp .ge 36, 3) := by decide +kernel
theorem dM_initz_10 : decode cM_initz 10 = .ok (.aload_n 0, 1) := by decide +kernel
theorem dM_initz_11 : decode cM_initz 11 = .ok (.getfield 22, 3) := by decide +kernel
theorem dM_initz_14 : decode cM_initz 14 = .ok (.iload_n 1, 1) := by decide +kernel
theorem dM_initz_15 : decode cM_initz 15 = .ok (.iaload, 1) := by decide +kernel
theorem dM_initz_16 : decode cM_initz 16 = .ok (.iconst 1, 1) := by decide +kernel
theorem dM_initz_17 : decode cM_initz 17 = .ok (.if_icmp .eq 13, 3) := by decide +kernel
theorem dM_initz_20 : decode cM_initz 20 = .ok (.aload_n 0, 1) := by decide +kernel
theorem dM_initz_21 : decode cM_initz 21 = .ok (.getfield 22, 3) := by decide +kernel
theorem dM_initz_24 : decode cM_initz 24 = .ok (.iload_n 1, 1) := by decide +kernel
theorem dM_initz_25 : decode cM_initz 25 = .ok (.iaload, 1) := by decide +kernel
theorem dM_initz_26 : decode cM_initz 26 = .ok (.iconst 2, 1) := by decide +kernel
theorem dM_initz_27 : decode cM_initz 27 = .ok (.if_icmp .ne 10, 3) := by decide +kernel
theorem dM_initz_30 : decode cM_initz 30 = .ok (.aload_n 0, 1) := by decide +kernel
theorem dM_initz_31 : decode cM_initz 31 = .ok (.getfield 59, 3) := by decide +kernel
theorem dM_initz_34 : decode cM_initz 34 = .ok (.iload_n 1, 1) := by decide +kernel
theorem dM_initz_35 : decode cM_initz 35 = .ok (.iconst 0, 1) := by decide +kernel
theorem dM_initz_36 : decode cM_initz 36 = .ok (.iastore, 1) := by decide +kernel
theorem dM_initz_37 : decode cM_initz 37 = .ok (.iinc 1 1, 3) := by decide +kernel
theorem dM_initz_40 : decode cM_initz 40 = .ok (.goto (-38), 3) := by decide +kernel
theorem dM_initz_43 : decode cM_initz 43 = .ok (.aload_n 0, 1) := by decide +kernel
theorem dM_initz_44 : decode cM_initz 44 = .ok (.invokevirtual 295, 3) := by decide +kernel
theorem dM_initz_47 : decode cM_initz 47 = .ok (.iconst 0, 1) := by decide +kernel
theorem dM_initz_48 : decode cM_initz 48 = .ok (.istore_n 1, 1) := by decide +kernel
theorem dM_initz_49 : decode cM_initz 49 = .ok (.iload_n 1, 1) := by decide +kernel
theorem dM_initz_50 : decode cM_initz 50 = .ok (.aload_n 0, 1) := by decide +kernel
theorem dM_initz_51 : decode cM_initz 51 = .ok (.getfield 155, 3) := by decide +kernel
theorem dM_initz_54 : decode cM_initz 54 = .ok (.if_icmp .ge 47, 3) := by decide +kernel
theorem dM_initz_57 : decode cM_initz 57 = .ok (.aload_n 0, 1) := by decide +kernel
theorem dM_initz_58 : decode cM_initz 58 = .ok (.getfield 22, 3) := by decide +kernel
theorem dM_initz_61 : decode cM_initz 61 = .ok (.iload_n 1, 1) := by decide +kernel
theorem dM_initz_62 : decode cM_initz 62 = .ok (.iaload, 1) := by decide +kernel
theorem dM_initz_63 : decode cM_initz 63 = .ok (.bipush 27, 2) := by decide +kernel
theorem dM_initz_65 : decode cM_initz 65 = .ok (.if_icmp .ne 30, 3) := by decide +kernel
theorem dM_initz_68 : decode cM_initz 68 = .ok (.aload_n 0, 1) := by decide +kernel
theorem dM_initz_69 : decode cM_initz 69 = .ok (.getfield 59, 3) := by decide +kernel
theorem dM_initz_72 : decode cM_initz 72 = .ok (.aload_n 0, 1) := by decide +kernel
theorem dM_initz_73 : decode cM_initz 73 = .ok (.getfield 28, 3) := by decide +kernel
theorem dM_initz_76 : decode cM_initz 76 = .ok (.iload_n 1, 1) := by decide +kernel
theorem dM_initz_77 : decode cM_initz 77 = .ok (.iaload, 1) := by decide +kernel
theorem dM_initz_78 : decode cM_initz 78 = .ok (.aload_n 0, 1) := by decide +kernel
theorem dM_initz_79 : decode cM_initz 79 = .ok (.aload_n 0, 1) := by decide +kernel
theorem dM_initz_80 : decode cM_initz 80 = .ok (.getfield 31, 3) := by decide +kernel
theorem dM_initz_83 : decode cM_initz 83 = .ok (.iload_n 1, 1) := by decide +kernel
theorem dM_initz_84 : decode cM_initz 84 = .ok (.iaload, 1) := by decide +kernel
theorem dM_initz_85 : decode cM_initz 85 = .ok (.aload_n 0, 1) := by decide +kernel
theorem dM_initz_86 : decode cM_initz 86 = .ok (.getfield 41, 3) := by decide +kernel
theorem dM_initz_89 : decode cM_initz 89 = .ok (.iload_n 1, 1) := by decide +kernel
theorem dM_initz_90 : decode cM_initz 90 = .ok (.baload, 1) := by decide +kernel
theorem dM_initz_91 : decode cM_initz 91 = .ok (.invokevirtual 274, 3) := by decide +kernel
theorem dM_initz_94 : decode cM_initz 94 = .ok (.iastore, 1) := by decide +kernel
theorem dM_initz_95 : decode cM_initz 95 = .ok (.iinc 1 1, 3) := by decide +kernel
theorem dM_initz_98 : decode cM_initz 98 = .ok (.goto (-49), 3) := by decide +kernel
theorem dM_initz_101 : decode cM_initz 101 = .ok (.return_, 1) := by decide +kernel
abbrev cM_chosen : ByteArray := prog_11_method_47_code
def yM_chosen : MethodName := ⟨"WordCheckerModel", "chosen", "(I)Z"⟩
theorem calM_chosen : CalV gT yM_chosen cM_chosen 2 (some .boolean) 1 := ⟨⟨gT_1 (i := 1017) (by decide +kernel) rfl, gT_1 (i := 8) (by decide +kernel) rfl, by decide +kernel⟩, gT_1 (i := 1016) (by decide +kernel) rfl, gT_s (q := (yM_chosen, 28)) (by decide +kernel)⟩
theorem dM_chosen_0 : decode cM_chosen 0 = .ok (.aload_n 0, 1) := by decide +kernel
theorem dM_chosen_1 : decode cM_chosen 1 = .ok (.getfield 22, 3) := by decide +kernel
theorem dM_chosen_4 : decode cM_chosen 4 = .ok (.iload_n 1, 1) := by decide +kernel
theorem dM_chosen_5 : decode cM_chosen 5 = .ok (.iaload, 1) := by decide +kernel
theorem dM_chosen_6 : decode cM_chosen 6 = .ok (.iconst 2, 1) := by decide +kernel
theorem dM_chosen_7 : decode cM_chosen 7 = .ok (.if_icmp .ne 17, 3) := by decide +kernel
theorem dM_chosen_10 : decode cM_chosen 10 = .ok (.aload_n 0, 1) := by decide +kernel
theorem dM_chosen_11 : decode cM_chosen 11 = .ok (.bipush 27, 2) := by decide +kernel
theorem dM_chosen_13 : decode cM_chosen 13 = .ok (.iload_n 1, 1) := by decide +kernel
theorem dM_chosen_14 : decode cM_chosen 14 = .ok (.invokevirtual 211, 3) := by decide +kernel
theorem dM_chosen_17 : decode cM_chosen 17 = .ok (.ifCond .ne 7, 3) := by decide +kernel
theorem dM_chosen_20 : decode cM_chosen 20 = .ok (.iconst 1, 1) := by decide +kernel
theorem dM_chosen_21 : decode cM_chosen 21 = .ok (.goto 4, 3) := by decide +kernel
theorem dM_chosen_24 : decode cM_chosen 24 = .ok (.iconst 0, 1) := by decide +kernel
theorem dM_chosen_25 : decode cM_chosen 25 = .ok (.ireturn, 1) := by decide +kernel
abbrev cM_holds : ByteArray := prog_11_method_48_code
def yM_holds : MethodName := ⟨"WordCheckerModel", "holds", "()Z"⟩
theorem calM_holds : CalV gT yM_holds cM_holds 3 (some .boolean) 0 := ⟨⟨gT_1 (i := 1069) (by decide +kernel) rfl, gT_1 (i := 8) (by decide +kernel) rfl, by decide +kernel⟩, gT_1 (i := 1068) (by decide +kernel) rfl, gT_s (q := (yM_holds, 28)) (by decide +kernel)⟩
theorem dM_holds_0 : decode cM_holds 0 = .ok (.iconst 1, 1) := by decide +kernel
theorem dM_holds_1 : decode cM_holds 1 = .ok (.istore_n 1, 1) := by decide +kernel
theorem dM_holds_2 : decode cM_holds 2 = .ok (.iconst 0, 1) := by decide +kernel
theorem dM_holds_3 : decode cM_holds 3 = .ok (.istore_n 2, 1) := by decide +kernel
theorem dM_holds_4 : decode cM_holds 4 = .ok (.iload_n 2, 1) := by decide +kernel
theorem dM_holds_5 : decode cM_holds 5 = .ok (.aload_n 0, 1) := by decide +kernel
theorem dM_holds_6 : decode cM_holds 6 = .ok (.getfield 155, 3) := by decide +kernel
theorem dM_holds_9 : decode cM_holds 9 = .ok (.if_icmp .ge 50, 3) := by decide +kernel
theorem dM_holds_12 : decode cM_holds 12 = .ok (.iload_n 1, 1) := by decide +kernel
theorem dM_holds_13 : decode cM_holds 13 = .ok (.ifCond .eq 38, 3) := by decide +kernel
theorem dM_holds_16 : decode cM_holds 16 = .ok (.aload_n 0, 1) := by decide +kernel
theorem dM_holds_17 : decode cM_holds 17 = .ok (.getfield 22, 3) := by decide +kernel
theorem dM_holds_20 : decode cM_holds 20 = .ok (.iload_n 2, 1) := by decide +kernel
theorem dM_holds_21 : decode cM_holds 21 = .ok (.iaload, 1) := by decide +kernel
theorem dM_holds_22 : decode cM_holds 22 = .ok (.bipush 30, 2) := by decide +kernel
theorem dM_holds_24 : decode cM_holds 24 = .ok (.if_icmp .ne 23, 3) := by decide +kernel
theorem dM_holds_27 : decode cM_holds 27 = .ok (.aload_n 0, 1) := by decide +kernel
theorem dM_holds_28 : decode cM_holds 28 = .ok (.aload_n 0, 1) := by decide +kernel
theorem dM_holds_29 : decode cM_holds 29 = .ok (.getfield 28, 3) := by decide +kernel
theorem dM_holds_32 : decode cM_holds 32 = .ok (.iload_n 2, 1) := by decide +kernel
theorem dM_holds_33 : decode cM_holds 33 = .ok (.iaload, 1) := by decide +kernel
theorem dM_holds_34 : decode cM_holds 34 = .ok (.aload_n 0, 1) := by decide +kernel
theorem dM_holds_35 : decode cM_holds 35 = .ok (.getfield 37, 3) := by decide +kernel
theorem dM_holds_38 : decode cM_holds 38 = .ok (.iload_n 2, 1) := by decide +kernel
theorem dM_holds_39 : decode cM_holds 39 = .ok (.baload, 1) := by decide +kernel
theorem dM_holds_40 : decode cM_holds 40 = .ok (.invokevirtual 274, 3) := by decide +kernel
theorem dM_holds_43 : decode cM_holds 43 = .ok (.iconst 1, 1) := by decide +kernel
theorem dM_holds_44 : decode cM_holds 44 = .ok (.if_icmp .ne 7, 3) := by decide +kernel
theorem dM_holds_47 : decode cM_holds 47 = .ok (.iconst 1, 1) := by decide +kernel
theorem dM_holds_48 : decode cM_holds 48 = .ok (.goto 4, 3) := by decide +kernel
theorem dM_holds_51 : decode cM_holds 51 = .ok (.iconst 0, 1) := by decide +kernel
theorem dM_holds_52 : decode cM_holds 52 = .ok (.istore_n 1, 1) := by decide +kernel
theorem dM_holds_53 : decode cM_holds 53 = .ok (.iinc 2 1, 3) := by decide +kernel
theorem dM_holds_56 : decode cM_holds 56 = .ok (.goto (-52), 3) := by decide +kernel
theorem dM_holds_59 : decode cM_holds 59 = .ok (.iload_n 1, 1) := by decide +kernel
theorem dM_holds_60 : decode cM_holds 60 = .ok (.ireturn, 1) := by decide +kernel
abbrev cM_isBad : ByteArray := prog_11_method_49_code
def yM_isBad : MethodName := ⟨"WordCheckerModel", "isBad", "()Z"⟩
theorem calM_isBad : CalV gT yM_isBad cM_isBad 3 (some .boolean) 0 := ⟨⟨gT_1 (i := 1073) (by decide +kernel) rfl, gT_1 (i := 8) (by decide +kernel) rfl, by decide +kernel⟩, gT_1 (i := 1072) (by decide +kernel) rfl, gT_s (q := (yM_isBad, 28)) (by decide +kernel)⟩
theorem dM_isBad_0 : decode cM_isBad 0 = .ok (.iconst 0, 1) := by decide +kernel
theorem dM_isBad_1 : decode cM_isBad 1 = .ok (.istore_n 1, 1) := by decide +kernel
theorem dM_isBad_2 : decode cM_isBad 2 = .ok (.iconst 0, 1) := by decide +kernel
theorem dM_isBad_3 : decode cM_isBad 3 = .ok (.istore_n 2, 1) := by decide +kernel
theorem dM_isBad_4 : decode cM_isBad 4 = .ok (.iload_n 2, 1) := by decide +kernel
theorem dM_isBad_5 : decode cM_isBad 5 = .ok (.aload_n 0, 1) := by decide +kernel
theorem dM_isBad_6 : decode cM_isBad 6 = .ok (.getfield 155, 3) := by decide +kernel
theorem dM_isBad_9 : decode cM_isBad 9 = .ok (.if_icmp .ge 50, 3) := by decide +kernel
theorem dM_isBad_12 : decode cM_isBad 12 = .ok (.iload_n 1, 1) := by decide +kernel
theorem dM_isBad_13 : decode cM_isBad 13 = .ok (.ifCond .ne 34, 3) := by decide +kernel
theorem dM_isBad_16 : decode cM_isBad 16 = .ok (.aload_n 0, 1) := by decide +kernel
theorem dM_isBad_17 : decode cM_isBad 17 = .ok (.getfield 22, 3) := by decide +kernel
theorem dM_isBad_20 : decode cM_isBad 20 = .ok (.iload_n 2, 1) := by decide +kernel
theorem dM_isBad_21 : decode cM_isBad 21 = .ok (.iaload, 1) := by decide +kernel
theorem dM_isBad_22 : decode cM_isBad 22 = .ok (.bipush 29, 2) := by decide +kernel
theorem dM_isBad_24 : decode cM_isBad 24 = .ok (.if_icmp .ne 27, 3) := by decide +kernel
theorem dM_isBad_27 : decode cM_isBad 27 = .ok (.aload_n 0, 1) := by decide +kernel
theorem dM_isBad_28 : decode cM_isBad 28 = .ok (.aload_n 0, 1) := by decide +kernel
theorem dM_isBad_29 : decode cM_isBad 29 = .ok (.getfield 28, 3) := by decide +kernel
theorem dM_isBad_32 : decode cM_isBad 32 = .ok (.iload_n 2, 1) := by decide +kernel
theorem dM_isBad_33 : decode cM_isBad 33 = .ok (.iaload, 1) := by decide +kernel
theorem dM_isBad_34 : decode cM_isBad 34 = .ok (.aload_n 0, 1) := by decide +kernel
theorem dM_isBad_35 : decode cM_isBad 35 = .ok (.getfield 37, 3) := by decide +kernel
theorem dM_isBad_38 : decode cM_isBad 38 = .ok (.iload_n 2, 1) := by decide +kernel
theorem dM_isBad_39 : decode cM_isBad 39 = .ok (.baload, 1) := by decide +kernel
theorem dM_isBad_40 : decode cM_isBad 40 = .ok (.invokevirtual 274, 3) := by decide +kernel
theorem dM_isBad_43 : decode cM_isBad 43 = .ok (.iconst 1, 1) := by decide +kernel
theorem dM_isBad_44 : decode cM_isBad 44 = .ok (.if_icmp .ne 7, 3) := by decide +kernel
theorem dM_isBad_47 : decode cM_isBad 47 = .ok (.iconst 1, 1) := by decide +kernel
theorem dM_isBad_48 : decode cM_isBad 48 = .ok (.goto 4, 3) := by decide +kernel
theorem dM_isBad_51 : decode cM_isBad 51 = .ok (.iconst 0, 1) := by decide +kernel
theorem dM_isBad_52 : decode cM_isBad 52 = .ok (.istore_n 1, 1) := by decide +kernel
theorem dM_isBad_53 : decode cM_isBad 53 = .ok (.iinc 2 1, 3) := by decide +kernel
theorem dM_isBad_56 : decode cM_isBad 56 = .ok (.goto (-52), 3) := by decide +kernel
theorem dM_isBad_59 : decode cM_isBad 59 = .ok (.iload_n 1, 1) := by decide +kernel
theorem dM_isBad_60 : decode cM_isBad 60 = .ok (.ireturn, 1) := by decide +kernel
abbrev cM_deal : ByteArray := prog_11_method_50_code
def yM_deal : MethodName := ⟨"WordCheckerModel", "deal", "(IZ)V"⟩
theorem calM_deal : CalV gT yM_deal cM_deal 7 none 2 := ⟨⟨gT_1 (i := 1013) (by decide +kernel) rfl, gT_1 (i := 8) (by decide +kernel) rfl, by decide +kernel⟩, gT_1 (i := 1012) (by decide +kernel) rfl, gT_s (q := (yM_deal, 28)) (by decide +kernel)⟩
theorem dM_deal_0 : decode cM_deal 0 = .ok (.iload_n 1, 1) := by decide +kernel
theorem dM_deal_1 : decode cM_deal 1 = .ok (.istore_n 3, 1) := by decide +kernel
theorem dM_deal_2 : decode cM_deal 2 = .ok (.iconst 0, 1) := by decide +kernel
theorem dM_deal_3 : decode cM_deal 3 = .ok (.istore 4, 2) := by decide +kernel
theorem dM_deal_5 : decode cM_deal 5 = .ok (.iload 4, 2) := by decide +kernel
theorem dM_deal_7 : decode cM_deal 7 = .ok (.aload_n 0, 1) := by decide +kernel
theorem dM_deal_8 : decode cM_deal 8 = .ok (.getfield 155, 3) := by decide +kernel
theorem dM_deal_11 : decode cM_deal 11 = .ok (.if_icmp .ge 78, 3) := by decide +kernel
theorem dM_deal_14 : decode cM_deal 14 = .ok (.iload_n 2, 1) := by decide +kernel
theorem dM_deal_15 : decode cM_deal 15 = .ok (.ifCond .eq 12, 3) := by decide +kernel
theorem dM_deal_18 : decode cM_deal 18 = .ok (.aload_n 0, 1) := by decide +kernel
theorem dM_deal_19 : decode cM_deal 19 = .ok (.iload 4, 2) := by decide +kernel
theorem dM_deal_21 : decode cM_deal 21 = .ok (.invokevirtual 298, 3) := by decide +kernel
theorem dM_deal_24 : decode cM_deal 24 = .ok (.goto 19, 3) := by decide +kernel
theorem dM_deal_27 : decode cM_deal 27 = .ok (.aload_n 0, 1) := by decide +kernel
theorem dM_deal_28 : decode cM_deal 28 = .ok (.getfield 22, 3) := by decide +kernel
theorem dM_deal_31 : decode cM_deal 31 = .ok (.iload 4, 2) := by decide +kernel
theorem dM_deal_33 : decode cM_deal 33 = .ok (.iaload, 1) := by decide +kernel
theorem dM_deal_34 : decode cM_deal 34 = .ok (.iconst 1, 1) := by decide +kernel
theorem dM_deal_35 : decode cM_deal 35 = .ok (.if_icmp .ne 7, 3) := by decide +kernel
theorem dM_deal_38 : decode cM_deal 38 = .ok (.iconst 1, 1) := by decide +kernel
theorem dM_deal_39 : decode cM_deal 39 = .ok (.goto 4, 3) := by decide +kernel
theorem dM_deal_42 : decode cM_deal 42 = .ok (.iconst 0, 1) := by decide +kernel
theorem dM_deal_43 : decode cM_deal 43 = .ok (.istore 5, 2) := by decide +kernel
theorem dM_deal_45 : decode cM_deal 45 = .ok (.iload 5, 2) := by decide +kernel
theorem dM_deal_47 : decode cM_deal 47 = .ok (.ifCond .eq 36, 3) := by decide +kernel
theorem dM_deal_50 : decode cM_deal 50 = .ok (.aload_n 0, 1) := by decide +kernel
theorem dM_deal_51 : decode cM_deal 51 = .ok (.aload_n 0, 1) := by decide +kernel
theorem dM_deal_52 : decode cM_deal 52 = .ok (.getfield 25, 3) := by decide +kernel
theorem dM_deal_55 : decode cM_deal 55 = .ok (.iload 4, 2) := by decide +kernel
theorem dM_deal_57 : decode cM_deal 57 = .ok (.iaload, 1) := by decide +kernel
theorem dM_deal_58 : decode cM_deal 58 = .ok (.invokevirtual 202, 3) := by decide +kernel
theorem dM_deal_61 : decode cM_deal 61 = .ok (.istore 6, 2) := by decide +kernel
theorem dM_deal_63 : decode cM_deal 63 = .ok (.aload_n 0, 1) := by decide +kernel
theorem dM_deal_64 : decode cM_deal 64 = .ok (.getfield 59, 3) := by decide +kernel
theorem dM_deal_67 : decode cM_deal 67 = .ok (.iload 4, 2) := by decide +kernel
theorem dM_deal_69 : decode cM_deal 69 = .ok (.iload_n 3, 1) := by decide +kernel
theorem dM_deal_70 : decode cM_deal 70 = .ok (.iconst 1, 1) := by decide +kernel
theorem dM_deal_71 : decode cM_deal 71 = .ok (.iload 6, 2) := by decide +kernel
theorem dM_deal_73 : decode cM_deal 73 = .ok (.ishl, 1) := by decide +kernel
theorem dM_deal_74 : decode cM_deal 74 = .ok (.iconst 1, 1) := by decide +kernel
theorem dM_deal_75 : decode cM_deal 75 = .ok (.isub, 1) := by decide +kernel
theorem dM_deal_76 : decode cM_deal 76 = .ok (.iand, 1) := by decide +kernel
theorem dM_deal_77 : decode cM_deal 77 = .ok (.iastore, 1) := by decide +kernel
theorem dM_deal_78 : decode cM_deal 78 = .ok (.iload_n 3, 1) := by decide +kernel
theorem dM_deal_79 : decode cM_deal 79 = .ok (.iload 6, 2) := by decide +kernel
theorem dM_deal_81 : decode cM_deal 81 = .ok (.ishr, 1) := by decide +kernel
theorem dM_deal_82 : decode cM_deal 82 = .ok (.istore_n 3, 1) := by decide +kernel
theorem dM_deal_83 : decode cM_deal 83 = .ok (.iinc 4 1, 3) := by decide +kernel
theorem dM_deal_86 : decode cM_deal 86 = .ok (.goto (-81), 3) := by decide +kernel
theorem dM_deal_89 : decode cM_deal 89 = .ok (.aload_n 0, 1) := by decide +kernel
theorem dM_deal_90 : decode cM_deal 90 = .ok (.invokevirtual 295, 3) := by decide +kernel
theorem dM_deal_93 : decode cM_deal 93 = .ok (.return_, 1) := by decide +kernel
abbrev cM_remember : ByteArray := prog_11_method_51_code
def yM_remember : MethodName := ⟨"WordCheckerModel", "remember", "()V"⟩
theorem calM_remember : CalV gT yM_remember cM_remember 2 none 0 := ⟨⟨gT_1 (i := 1021) (by decide +kernel) rfl, gT_1 (i := 8) (by decide +kernel) rfl, by decide +kernel⟩, gT_1 (i := 1020) (by decide +kernel) rfl, gT_s (q := (yM_remember, 28)) (by decide +kernel)⟩
theorem dM_remember_0 : decode cM_remember 0 = .ok (.iconst 0, 1) := by decide +kernel
theorem dM_remember_1 : decode cM_remember 1 = .ok (.istore_n 1, 1) := by decide +kernel
theorem dM_remember_2 : decode cM_remember 2 = .ok (.iload_n 1, 1) := by decide +kernel
theorem dM_remember_3 : decode cM_remember 3 = .ok (.aload_n 0, 1) := by decide +kernel
theorem dM_remember_4 : decode cM_remember 4 = .ok (.getfield 155, 3) := by decide +kernel
theorem dM_remember_7 : decode cM_remember 7 = .ok (.if_icmp .ge 21, 3) := by decide +kernel
theorem dM_remember_10 : decode cM_remember 10 = .ok (.aload_n 0, 1) := by decide +kernel
theorem dM_remember_11 : decode cM_remember 11 = .ok (.getfield 65, 3) := by decide +kernel
theorem dM_remember_14 : decode cM_remember 14 = .ok (.iload_n 1, 1) := by decide +kernel
theorem dM_remember_15 : decode cM_remember 15 = .ok (.aload_n 0, 1) := by decide +kernel
theorem dM_remember_16 : decode cM_remember 16 = .ok (.getfield 59, 3) := by decide +kernel
theorem dM_remember_19 : decode cM_remember 19 = .ok (.iload_n 1, 1) := by decide +kernel
theorem dM_remember_20 : decode cM_remember 20 = .ok (.iaload, 1) := by decide +kernel
theorem dM_remember_21 : decode cM_remember 21 = .ok (.iastore, 1) := by decide +kernel
theorem dM_remember_22 : decode cM_remember 22 = .ok (.iinc 1 1, 3) := by decide +kernel
theorem dM_remember_25 : decode cM_remember 25 = .ok (.goto (-23), 3) := by decide +kernel
theorem dM_remember_28 : decode cM_remember 28 = .ok (.return_, 1) := by decide +kernel
abbrev cM_recall : ByteArray := prog_11_method_52_code
def yM_recall : MethodName := ⟨"WordCheckerModel", "recall", "()V"⟩
theorem calM_recall : CalV gT yM_recall cM_recall 2 none 0 := ⟨⟨gT_1 (i := 1029) (by decide +kernel) rfl, gT_1 (i := 8) (by decide +kernel) rfl, by decide +kernel⟩, gT_1 (i := 1028) (by decide +kernel) rfl, gT_s (q := (yM_recall, 28)) (by decide +kernel)⟩
theorem dM_recall_0 : decode cM_recall 0 = .ok (.iconst 0, 1) := by decide +kernel
theorem dM_recall_1 : decode cM_recall 1 = .ok (.istore_n 1, 1) := by decide +kernel
theorem dM_recall_2 : decode cM_recall 2 = .ok (.iload_n 1, 1) := by decide +kernel
theorem dM_recall_3 : decode cM_recall 3 = .ok (.aload_n 0, 1) := by decide +kernel
theorem dM_recall_4 : decode cM_recall 4 = .ok (.getfield 155, 3) := by decide +kernel
theorem dM_recall_7 : decode cM_recall 7 = .ok (.if_icmp .ge 21, 3) := by decide +kernel
theorem dM_recall_10 : decode cM_recall 10 = .ok (.aload_n 0, 1) := by decide +kernel
theorem dM_recall_11 : decode cM_recall 11 = .ok (.getfield 59, 3) := by decide +kernel
theorem dM_recall_14 : decode cM_recall 14 = .ok (.iload_n 1, 1) := by decide +kernel
theorem dM_recall_15 : decode cM_recall 15 = .ok (.aload_n 0, 1) := by decide +kernel
theorem dM_recall_16 : decode cM_recall 16 = .ok (.getfield 65, 3) := by decide +kernel
theorem dM_recall_19 : decode cM_recall 19 = .ok (.iload_n 1, 1) := by decide +kernel
theorem dM_recall_20 : decode cM_recall 20 = .ok (.iaload, 1) := by decide +kernel
theorem dM_recall_21 : decode cM_recall 21 = .ok (.iastore, 1) := by decide +kernel
theorem dM_recall_22 : decode cM_recall 22 = .ok (.iinc 1 1, 3) := by decide +kernel
theorem dM_recall_25 : decode cM_recall 25 = .ok (.goto (-23), 3) := by decide +kernel
theorem dM_recall_28 : decode cM_recall 28 = .ok (.aload_n 0, 1) := by decide +kernel
theorem dM_recall_29 : decode cM_recall 29 = .ok (.invokevirtual 295, 3) := by decide +kernel
theorem dM_recall_32 : decode cM_recall 32 = .ok (.return_, 1) := by decide +kernel
abbrev cM_begin : ByteArray := prog_11_method_53_code
def yM_begin : MethodName := ⟨"WordCheckerModel", "begin", "(I)V"⟩
theorem calM_begin : CalV gT yM_begin cM_begin 2 none 1 := ⟨⟨gT_1 (i := 977) (by decide +kernel) rfl, gT_1 (i := 8) (by decide +kernel) rfl, by decide +kernel⟩, gT_1 (i := 975) (by decide +kernel) rfl, gT_1 (i := 976) (by decide +kernel) rfl⟩
theorem dM_begin_0 : decode cM_begin 0 = .ok (.aload_n 0, 1) := by decide +kernel
theorem dM_begin_1 : decode cM_begin 1 = .ok (.invokevirtual 301, 3) := by decide +kernel
theorem dM_begin_4 : decode cM_begin 4 = .ok (.aload_n 0, 1) := by decide +kernel
theorem dM_begin_5 : decode cM_begin 5 = .ok (.iload_n 1, 1) := by decide +kernel
theorem dM_begin_6 : decode cM_begin 6 = .ok (.iconst 1, 1) := by decide +kernel
theorem dM_begin_7 : decode cM_begin 7 = .ok (.invokevirtual 304, 3) := by decide +kernel
theorem dM_begin_10 : decode cM_begin 10 = .ok (.aload_n 0, 1) := by decide +kernel
theorem dM_begin_11 : decode cM_begin 11 = .ok (.iconst 1, 1) := by decide +kernel
theorem dM_begin_12 : decode cM_begin 12 = .ok (.putfield 271, 3) := by decide +kernel
theorem dM_begin_15 : decode cM_begin 15 = .ok (.aload_n 0, 1) := by decide +kernel
theorem dM_begin_16 : decode cM_begin 16 = .ok (.invokevirtual 308, 3) := by decide +kernel
theorem dM_begin_19 : decode cM_begin 19 = .ok (.return_, 1) := by decide +kernel
abbrev cM_feed : ByteArray := prog_11_method_54_code
def yM_feed : MethodName := ⟨"WordCheckerModel", "feed", "(I)Z"⟩
theorem calM_feed : CalV gT yM_feed cM_feed 2 (some .boolean) 1 := ⟨⟨gT_1 (i := 1025) (by decide +kernel) rfl, gT_1 (i := 8) (by decide +kernel) rfl, by decide +kernel⟩, gT_1 (i := 1023) (by decide +kernel) rfl, gT_1 (i := 1024) (by decide +kernel) rfl⟩
theorem dM_feed_0 : decode cM_feed 0 = .ok (.aload_n 0, 1) := by decide +kernel
theorem dM_feed_1 : decode cM_feed 1 = .ok (.getfield 271, 3) := by decide +kernel
theorem dM_feed_4 : decode cM_feed 4 = .ok (.ifCond .ne 5, 3) := by decide +kernel
theorem dM_feed_7 : decode cM_feed 7 = .ok (.iconst 0, 1) := by decide +kernel
theorem dM_feed_8 : decode cM_feed 8 = .ok (.ireturn, 1) := by decide +kernel
theorem dM_feed_9 : decode cM_feed 9 = .ok (.aload_n 0, 1) := by decide +kernel
theorem dM_feed_10 : decode cM_feed 10 = .ok (.invokevirtual 311, 3) := by decide +kernel
theorem dM_feed_13 : decode cM_feed 13 = .ok (.aload_n 0, 1) := by decide +kernel
theorem dM_feed_14 : decode cM_feed 14 = .ok (.iload_n 1, 1) := by decide +kernel
theorem dM_feed_15 : decode cM_feed 15 = .ok (.iconst 0, 1) := by decide +kernel
theorem dM_feed_16 : decode cM_feed 16 = .ok (.invokevirtual 304, 3) := by decide +kernel
theorem dM_feed_19 : decode cM_feed 19 = .ok (.aload_n 0, 1) := by decide +kernel
theorem dM_feed_20 : decode cM_feed 20 = .ok (.invokevirtual 308, 3) := by decide +kernel
theorem dM_feed_23 : decode cM_feed 23 = .ok (.iconst 1, 1) := by decide +kernel
theorem dM_feed_24 : decode cM_feed 24 = .ok (.ireturn, 1) := by decide +kernel
abbrev cM_step : ByteArray := prog_11_method_55_code
def yM_step : MethodName := ⟨"WordCheckerModel", "step", "()Z"⟩
theorem calM_step : CalV gT yM_step cM_step 1 (some .boolean) 0 := ⟨⟨gT_1 (i := 1033) (by decide +kernel) rfl, gT_1 (i := 8) (by decide +kernel) rfl, by decide +kernel⟩, gT_1 (i := 1031) (by decide +kernel) rfl, gT_1 (i := 1032) (by decide +kernel) rfl⟩
theorem dM_step_0 : decode cM_step 0 = .ok (.aload_n 0, 1) := by decide +kernel
theorem dM_step_1 : decode cM_step 1 = .ok (.getfield 271, 3) := by decide +kernel
theorem dM_step_4 : decode cM_step 4 = .ok (.ifCond .ne 5, 3) := by decide +kernel
theorem dM_step_7 : decode cM_step 7 = .ok (.iconst 0, 1) := by decide +kernel
theorem dM_step_8 : decode cM_step 8 = .ok (.ireturn, 1) := by decide +kernel
theorem dM_step_9 : decode cM_step 9 = .ok (.aload_n 0, 1) := by decide +kernel
theorem dM_step_10 : decode cM_step 10 = .ok (.invokevirtual 311, 3) := by decide +kernel
theorem dM_step_13 : decode cM_step 13 = .ok (.aload_n 0, 1) := by decide +kernel
theorem dM_step_14 : decode cM_step 14 = .ok (.invokevirtual 314, 3) := by decide +kernel
theorem dM_step_17 : decode cM_step 17 = .ok (.aload_n 0, 1) := by decide +kernel
theorem dM_step_18 : decode cM_step 18 = .ok (.iconst 0, 1) := by decide +kernel
theorem dM_step_19 : decode cM_step 19 = .ok (.iconst 0, 1) := by decide +kernel
theorem dM_step_20 : decode cM_step 20 = .ok (.invokevirtual 304, 3) := by decide +kernel
theorem dM_step_23 : decode cM_step 23 = .ok (.aload_n 0, 1) := by decide +kernel
theorem dM_step_24 : decode cM_step 24 = .ok (.invokevirtual 308, 3) := by decide +kernel
theorem dM_step_27 : decode cM_step 27 = .ok (.iconst 1, 1) := by decide +kernel
theorem dM_step_28 : decode cM_step 28 = .ok (.ireturn, 1) := by decide +kernel
abbrev cM_value : ByteArray := prog_11_method_56_code
def yM_value : MethodName := ⟨"WordCheckerModel", "value", "(I)I"⟩
theorem calM_value : CalV gT yM_value cM_value 3 (some .int) 1 := ⟨⟨gT_1 (i := 1041) (by decide +kernel) rfl, gT_1 (i := 8) (by decide +kernel) rfl, by decide +kernel⟩, gT_1 (i := 1039) (by decide +kernel) rfl, gT_1 (i := 1040) (by decide +kernel) rfl⟩
theorem dM_value_0 : decode cM_value 0 = .ok (.aload_n 0, 1) := by decide +kernel
theorem dM_value_1 : decode cM_value 1 = .ok (.iload_n 1, 1) := by decide +kernel
theorem dM_value_2 : decode cM_value 2 = .ok (.invokevirtual 165, 3) := by decide +kernel
theorem dM_value_5 : decode cM_value 5 = .ok (.istore_n 2, 1) := by decide +kernel
theorem dM_value_6 : decode cM_value 6 = .ok (.aload_n 0, 1) := by decide +kernel
theorem dM_value_7 : decode cM_value 7 = .ok (.getfield 271, 3) := by decide +kernel
theorem dM_value_10 : decode cM_value 10 = .ok (.ifCond .eq 11, 3) := by decide +kernel
theorem dM_value_13 : decode cM_value 13 = .ok (.aload_n 0, 1) := by decide +kernel
theorem dM_value_14 : decode cM_value 14 = .ok (.iload_n 2, 1) := by decide +kernel
theorem dM_value_15 : decode cM_value 15 = .ok (.invokevirtual 172, 3) := by decide +kernel
theorem dM_value_18 : decode cM_value 18 = .ok (.ifCond .ne 5, 3) := by decide +kernel
theorem dM_value_21 : decode cM_value 21 = .ok (.iconst (-1), 1) := by decide +kernel
theorem dM_value_22 : decode cM_value 22 = .ok (.ireturn, 1) := by decide +kernel
theorem dM_value_23 : decode cM_value 23 = .ok (.aload_n 0, 1) := by decide +kernel
theorem dM_value_24 : decode cM_value 24 = .ok (.invokevirtual 311, 3) := by decide +kernel
theorem dM_value_27 : decode cM_value 27 = .ok (.aload_n 0, 1) := by decide +kernel
theorem dM_value_28 : decode cM_value 28 = .ok (.getfield 59, 3) := by decide +kernel
theorem dM_value_31 : decode cM_value 31 = .ok (.iload_n 2, 1) := by decide +kernel
theorem dM_value_32 : decode cM_value 32 = .ok (.iaload, 1) := by decide +kernel
theorem dM_value_33 : decode cM_value 33 = .ok (.ireturn, 1) := by decide +kernel
abbrev cM_width : ByteArray := prog_11_method_57_code
def yM_width : MethodName := ⟨"WordCheckerModel", "width", "(Z)I"⟩
theorem calM_width : CalV gT yM_width cM_width 4 (some .int) 1 := ⟨⟨gT_1 (i := 1053) (by decide +kernel) rfl, gT_1 (i := 8) (by decide +kernel) rfl, by decide +kernel⟩, gT_1 (i := 1052) (by decide +kernel) rfl, gT_s (q := (yM_width, 28)) (by decide +kernel)⟩
theorem dM_width_0 : decode cM_width 0 = .ok (.iconst 0, 1) := by decide +kernel
theorem dM_width_1 : decode cM_width 1 = .ok (.istore_n 2, 1) := by decide +kernel
theorem dM_width_2 : decode cM_width 2 = .ok (.iconst 0, 1) := by decide +kernel
theorem dM_width_3 : decode cM_width 3 = .ok (.istore_n 3, 1) := by decide +kernel
theorem dM_width_4 : decode cM_width 4 = .ok (.iload_n 3, 1) := by decide +kernel
theorem dM_width_5 : decode cM_width 5 = .ok (.aload_n 0, 1) := by decide +kernel
theorem dM_width_6 : decode cM_width 6 = .ok (.getfield 155, 3) := by decide +kernel
theorem dM_width_9 : decode cM_width 9 = .ok (.if_icmp .ge 48, 3) := by decide +kernel
theorem dM_width_12 : decode cM_width 12 = .ok (.iload_n 1, 1) := by decide +kernel
theorem dM_width_13 : decode cM_width 13 = .ok (.ifCond .eq 13, 3) := by decide +kernel
theorem dM_width_16 : decode cM_width 16 = .ok (.aload_n 0, 1) := by decide +kernel
theorem dM_width_17 : decode cM_width 17 = .ok (.getfield 22, 3) := by decide +kernel
theorem dM_width_20 : decode cM_width 20 = .ok (.iload_n 3, 1) := by decide +kernel
theorem dM_width_21 : decode cM_width 21 = .ok (.iaload, 1) := by decide +kernel
theorem dM_width_22 : decode cM_width 22 = .ok (.iconst 2, 1) := by decide +kernel
theorem dM_width_23 : decode cM_width 23 = .ok (.if_icmp .eq 11, 3) := by decide +kernel
theorem dM_width_26 : decode cM_width 26 = .ok (.aload_n 0, 1) := by decide +kernel
theorem dM_width_27 : decode cM_width 27 = .ok (.iload_n 3, 1) := by decide +kernel
theorem dM_width_28 : decode cM_width 28 = .ok (.invokevirtual 298, 3) := by decide +kernel
theorem dM_width_31 : decode cM_width 31 = .ok (.ifCond .eq 18, 3) := by decide +kernel
theorem dM_width_34 : decode cM_width 34 = .ok (.iload_n 2, 1) := by decide +kernel
theorem dM_width_35 : decode cM_width 35 = .ok (.aload_n 0, 1) := by decide +kernel
theorem dM_width_36 : decode cM_width 36 = .ok (.aload_n 0, 1) := by decide +kernel
theorem dM_width_37 : decode cM_width 37 = .ok (.getfield 25, 3) := by decide +kernel
theorem dM_width_40 : decode cM_width 40 = .ok (.iload_n 3, 1) := by decide +kernel
theorem dM_width_41 : decode cM_width 41 = .ok (.iaload, 1) := by decide +kernel
theorem dM_width_42 : decode cM_width 42 = .ok (.invokevirtual 202, 3) := by decide +kernel
theorem dM_width_45 : decode cM_width 45 = .ok (.iadd, 1) := by decide +kernel
theorem dM_width_46 : decode cM_width 46 = .ok (.goto 4, 3) := by decide +kernel
theorem dM_width_49 : decode cM_width 49 = .ok (.iload_n 2, 1) := by decide +kernel
theorem dM_width_50 : decode cM_width 50 = .ok (.istore_n 2, 1) := by decide +kernel
theorem dM_width_51 : decode cM_width 51 = .ok (.iinc 3 1, 3) := by decide +kernel
theorem dM_width_54 : decode cM_width 54 = .ok (.goto (-50), 3) := by decide +kernel
theorem dM_width_57 : decode cM_width 57 = .ok (.iload_n 2, 1) := by decide +kernel
theorem dM_width_58 : decode cM_width 58 = .ok (.ireturn, 1) := by decide +kernel
abbrev cM_start : ByteArray := prog_11_method_58_code
def yM_start : MethodName := ⟨"WordCheckerModel", "start", "(IIZ)I"⟩
theorem calM_start : CalV gT yM_start cM_start 6 (some .int) 3 := ⟨⟨gT_1 (i := 1061) (by decide +kernel) rfl, gT_1 (i := 8) (by decide +kernel) rfl, by decide +kernel⟩, gT_1 (i := 1060) (by decide +kernel) rfl, gT_s (q := (yM_start, 28)) (by decide +kernel)⟩
theorem dM_start_0 : decode cM_start 0 = .ok (.aload_n 0, 1) := by decide +kernel
theorem dM_start_1 : decode cM_start 1 = .ok (.invokevirtual 301, 3) := by decide +kernel
theorem dM_start_4 : decode cM_start 4 = .ok (.iload_n 2, 1) := by decide +kernel
theorem dM_start_5 : decode cM_start 5 = .ok (.istore 4, 2) := by decide +kernel
theorem dM_start_7 : decode cM_start 7 = .ok (.iconst 0, 1) := by decide +kernel
theorem dM_start_8 : decode cM_start 8 = .ok (.istore 5, 2) := by decide +kernel
theorem dM_start_10 : decode cM_start 10 = .ok (.iload 5, 2) := by decide +kernel
theorem dM_start_12 : decode cM_start 12 = .ok (.aload_n 0, 1) := by decide +kernel
theorem dM_start_13 : decode cM_start 13 = .ok (.getfield 155, 3) := by decide +kernel
theorem dM_start_16 : decode cM_start 16 = .ok (.if_icmp .ge 76, 3) := by decide +kernel
theorem dM_start_19 : decode cM_start 19 = .ok (.iload_n 3, 1) := by decide +kernel
theorem dM_start_20 : decode cM_start 20 = .ok (.ifCond .eq 14, 3) := by decide +kernel
theorem dM_start_23 : decode cM_start 23 = .ok (.aload_n 0, 1) := by decide +kernel
theorem dM_start_24 : decode cM_start 24 = .ok (.getfield 22, 3) := by decide +kernel
theorem dM_start_27 : decode cM_start 27 = .ok (.iload 5, 2) := by decide +kernel
theorem dM_start_29 : decode cM_start 29 = .ok (.iaload, 1) := by decide +kernel
theorem dM_start_30 : decode cM_start 30 = .ok (.iconst 2, 1) := by decide +kernel
theorem dM_start_31 : decode cM_start 31 = .ok (.if_icmp .eq 12, 3) := by decide +kernel
theorem dM_start_34 : decode cM_start 34 = .ok (.aload_n 0, 1) := by decide +kernel
theorem dM_start_35 : decode cM_start 35 = .ok (.iload 5, 2) := by decide +kernel
theorem dM_start_37 : decode cM_start 37 = .ok (.invokevirtual 298, 3) := by decide +kernel
theorem dM_start_40 : decode cM_start 40 = .ok (.ifCond .eq 46, 3) := by decide +kernel
theorem dM_start_43 : decode cM_start 43 = .ok (.iload 4, 2) := by decide +kernel
theorem dM_start_45 : decode cM_start 45 = .ok (.aload_n 0, 1) := by decide +kernel
theorem dM_start_46 : decode cM_start 46 = .ok (.aload_n 0, 1) := by decide +kernel
theorem dM_start_47 : decode cM_start 47 = .ok (.getfield 25, 3) := by decide +kernel
theorem dM_start_50 : decode cM_start 50 = .ok (.iload 5, 2) := by decide +kernel
theorem dM_start_52 : decode cM_start 52 = .ok (.iaload, 1) := by decide +kernel
theorem dM_start_53 : decode cM_start 53 = .ok (.invokevirtual 202, 3) := by decide +kernel
theorem dM_start_56 : decode cM_start 56 = .ok (.isub, 1) := by decide +kernel
theorem dM_start_57 : decode cM_start 57 = .ok (.istore 4, 2) := by decide +kernel
theorem dM_start_59 : decode cM_start 59 = .ok (.aload_n 0, 1) := by decide +kernel
theorem dM_start_60 : decode cM_start 60 = .ok (.getfield 59, 3) := by decide +kernel
theorem dM_start_63 : decode cM_start 63 = .ok (.iload 5, 2) := by decide +kernel
theorem dM_start_65 : decode cM_start 65 = .ok (.iload_n 1, 1) := by decide +kernel
theorem dM_start_66 : decode cM_start 66 = .ok (.iload 4, 2) := by decide +kernel
theorem dM_start_68 : decode cM_start 68 = .ok (.ishr, 1) := by decide +kernel
theorem dM_start_69 : decode cM_start 69 = .ok (.iconst 1, 1) := by decide +kernel
theorem dM_start_70 : decode cM_start 70 = .ok (.aload_n 0, 1) := by decide +kernel
theorem dM_start_71 : decode cM_start 71 = .ok (.aload_n 0, 1) := by decide +kernel
theorem dM_start_72 : decode cM_start 72 = .ok (.getfield 25, 3) := by decide +kernel
theorem dM_start_75 : decode cM_start 75 = .ok (.iload 5, 2) := by decide +kernel
theorem dM_start_77 : decode cM_start 77 = .ok (.iaload, 1) := by decide +kernel
theorem dM_start_78 : decode cM_start 78 = .ok (.invokevirtual 202, 3) := by decide +kernel
theorem dM_start_81 : decode cM_start 81 = .ok (.ishl, 1) := by decide +kernel
theorem dM_start_82 : decode cM_start 82 = .ok (.iconst 1, 1) := by decide +kernel
theorem dM_start_83 : decode cM_start 83 = .ok (.isub, 1) := by decide +kernel
theorem dM_start_84 : decode cM_start 84 = .ok (.iand, 1) := by decide +kernel
theorem dM_start_85 : decode cM_start 85 = .ok (.iastore, 1) := by decide +kernel
theorem dM_start_86 : decode cM_start 86 = .ok (.iinc 5 1, 3) := by decide +kernel
theorem dM_start_89 : decode cM_start 89 = .ok (.goto (-79), 3) := by decide +kernel
theorem dM_start_92 : decode cM_start 92 = .ok (.iload 4, 2) := by decide +kernel
theorem dM_start_94 : decode cM_start 94 = .ok (.ireturn, 1) := by decide +kernel
abbrev cM_put : ByteArray := prog_11_method_59_code
def yM_put : MethodName := ⟨"WordCheckerModel", "put", "(II)I"⟩
theorem calM_put : CalV gT yM_put cM_put 5 (some .int) 2 := ⟨⟨gT_1 (i := 1065) (by decide +kernel) rfl, gT_1 (i := 8) (by decide +kernel) rfl, by decide +kernel⟩, gT_1 (i := 1064) (by decide +kernel) rfl, gT_s (q := (yM_put, 28)) (by decide +kernel)⟩
theorem dM_put_0 : decode cM_put 0 = .ok (.iload_n 2, 1) := by decide +kernel
theorem dM_put_1 : decode cM_put 1 = .ok (.istore_n 3, 1) := by decide +kernel
theorem dM_put_2 : decode cM_put 2 = .ok (.iconst 0, 1) := by decide +kernel
theorem dM_put_3 : decode cM_put 3 = .ok (.istore 4, 2) := by decide +kernel
theorem dM_put_5 : decode cM_put 5 = .ok (.iload 4, 2) := by decide +kernel
theorem dM_put_7 : decode cM_put 7 = .ok (.aload_n 0, 1) := by decide +kernel
theorem dM_put_8 : decode cM_put 8 = .ok (.getfield 155, 3) := by decide +kernel
theorem dM_put_11 : decode cM_put 11 = .ok (.if_icmp .ge 60, 3) := by decide +kernel
theorem dM_put_14 : decode cM_put 14 = .ok (.aload_n 0, 1) := by decide +kernel
theorem dM_put_15 : decode cM_put 15 = .ok (.getfield 22, 3) := by decide +kernel
theorem dM_put_18 : decode cM_put 18 = .ok (.iload 4, 2) := by decide +kernel
theorem dM_put_20 : decode cM_put 20 = .ok (.iaload, 1) := by decide +kernel
theorem dM_put_21 : decode cM_put 21 = .ok (.iconst 1, 1) := by decide +kernel
theorem dM_put_22 : decode cM_put 22 = .ok (.if_icmp .ne 43, 3) := by decide +kernel
theorem dM_put_25 : decode cM_put 25 = .ok (.iload_n 3, 1) := by decide +kernel
theorem dM_put_26 : decode cM_put 26 = .ok (.aload_n 0, 1) := by decide +kernel
theorem dM_put_27 : decode cM_put 27 = .ok (.aload_n 0, 1) := by decide +kernel
theorem dM_put_28 : decode cM_put 28 = .ok (.getfield 25, 3) := by decide +kernel
theorem dM_put_31 : decode cM_put 31 = .ok (.iload 4, 2) := by decide +kernel
theorem dM_put_33 : decode cM_put 33 = .ok (.iaload, 1) := by decide +kernel
theorem dM_put_34 : decode cM_put 34 = .ok (.invokevirtual 202, 3) := by decide +kernel
theorem dM_put_37 : decode cM_put 37 = .ok (.isub, 1) := by decide +kernel
theorem dM_put_38 : decode cM_put 38 = .ok (.istore_n 3, 1) := by decide +kernel
theorem dM_put_39 : decode cM_put 39 = .ok (.aload_n 0, 1) := by decide +kernel
theorem dM_put_40 : decode cM_put 40 = .ok (.getfield 59, 3) := by decide +kernel
theorem dM_put_43 : decode cM_put 43 = .ok (.iload 4, 2) := by decide +kernel
theorem dM_put_45 : decode cM_put 45 = .ok (.iload_n 1, 1) := by decide +kernel
theorem dM_put_46 : decode cM_put 46 = .ok (.iload_n 3, 1) := by decide +kernel
theorem dM_put_47 : decode cM_put 47 = .ok (.ishr, 1) := by decide +kernel
theorem dM_put_48 : decode cM_put 48 = .ok (.iconst 1, 1) := by decide +kernel
theorem dM_put_49 : decode cM_put 49 = .ok (.aload_n 0, 1) := by decide +kernel
theorem dM_put_50 : decode cM_put 50 = .ok (.aload_n 0, 1) := by decide +kernel
theorem dM_put_51 : decode cM_put 51 = .ok (.getfield 25, 3) := by decide +kernel
theorem dM_put_54 : decode cM_put 54 = .ok (.iload 4, 2) := by decide +kernel
theorem dM_put_56 : decode cM_put 56 = .ok (.iaload, 1) := by decide +kernel
theorem dM_put_57 : decode cM_put 57 = .ok (.invokevirtual 202, 3) := by decide +kernel
theorem dM_put_60 : decode cM_put 60 = .ok (.ishl, 1) := by decide +kernel
theorem dM_put_61 : decode cM_put 61 = .ok (.iconst 1, 1) := by decide +kernel
theorem dM_put_62 : decode cM_put 62 = .ok (.isub, 1) := by decide +kernel
theorem dM_put_63 : decode cM_put 63 = .ok (.iand, 1) := by decide +kernel
theorem dM_put_64 : decode cM_put 64 = .ok (.iastore, 1) := by decide +kernel
theorem dM_put_65 : decode cM_put 65 = .ok (.iinc 4 1, 3) := by decide +kernel
theorem dM_put_68 : decode cM_put 68 = .ok (.goto (-63), 3) := by decide +kernel
theorem dM_put_71 : decode cM_put 71 = .ok (.aload_n 0, 1) := by decide +kernel
theorem dM_put_72 : decode cM_put 72 = .ok (.invokevirtual 295, 3) := by decide +kernel
theorem dM_put_75 : decode cM_put 75 = .ok (.iload_n 3, 1) := by decide +kernel
theorem dM_put_76 : decode cM_put 76 = .ok (.ireturn, 1) := by decide +kernel
abbrev cM_states : ByteArray := prog_11_method_60_code
def yM_states : MethodName := ⟨"WordCheckerModel", "states", "()I"⟩
theorem calM_states : CalV gT yM_states cM_states 3 (some .int) 0 := ⟨⟨gT_1 (i := 1090) (by decide +kernel) rfl, gT_1 (i := 8) (by decide +kernel) rfl, by decide +kernel⟩, gT_1 (i := 1089) (by decide +kernel) rfl, gT_s (q := (yM_states, 28)) (by decide +kernel)⟩
theorem dM_states_0 : decode cM_states 0 = .ok (.iconst 0, 1) := by decide +kernel
theorem dM_states_1 : decode cM_states 1 = .ok (.istore_n 1, 1) := by decide +kernel
theorem dM_states_2 : decode cM_states 2 = .ok (.iconst 0, 1) := by decide +kernel
theorem dM_states_3 : decode cM_states 3 = .ok (.istore_n 2, 1) := by decide +kernel
theorem dM_states_4 : decode cM_states 4 = .ok (.iload_n 2, 1) := by decide +kernel
theorem dM_states_5 : decode cM_states 5 = .ok (.aload_n 0, 1) := by decide +kernel
theorem dM_states_6 : decode cM_states 6 = .ok (.getfield 155, 3) := by decide +kernel
theorem dM_states_9 : decode cM_states 9 = .ok (.if_icmp .ge 43, 3) := by decide +kernel
theorem dM_states_12 : decode cM_states 12 = .ok (.aload_n 0, 1) := by decide +kernel
theorem dM_states_13 : decode cM_states 13 = .ok (.getfield 22, 3) := by decide +kernel
theorem dM_states_16 : decode cM_states 16 = .ok (.iload_n 2, 1) := by decide +kernel
theorem dM_states_17 : decode cM_states 17 = .ok (.iaload, 1) := by decide +kernel
theorem dM_states_18 : decode cM_states 18 = .ok (.iconst 2, 1) := by decide +kernel
theorem dM_states_19 : decode cM_states 19 = .ok (.if_icmp .ne 25, 3) := by decide +kernel
theorem dM_states_22 : decode cM_states 22 = .ok (.iload_n 1, 1) := by decide +kernel
theorem dM_states_23 : decode cM_states 23 = .ok (.aload_n 0, 1) := by decide +kernel
theorem dM_states_24 : decode cM_states 24 = .ok (.aload_n 0, 1) := by decide +kernel
theorem dM_states_25 : decode cM_states 25 = .ok (.getfield 25, 3) := by decide +kernel
theorem dM_states_28 : decode cM_states 28 = .ok (.iload_n 2, 1) := by decide +kernel
theorem dM_states_29 : decode cM_states 29 = .ok (.iaload, 1) := by decide +kernel
theorem dM_states_30 : decode cM_states 30 = .ok (.invokevirtual 202, 3) := by decide +kernel
theorem dM_states_33 : decode cM_states 33 = .ok (.ishl, 1) := by decide +kernel
theorem dM_states_34 : decode cM_states 34 = .ok (.aload_n 0, 1) := by decide +kernel
theorem dM_states_35 : decode cM_states 35 = .ok (.getfield 59, 3) := by decide +kernel
theorem dM_states_38 : decode cM_states 38 = .ok (.iload_n 2, 1) := by decide +kernel
theorem dM_states_39 : decode cM_states 39 = .ok (.iaload, 1) := by decide +kernel
theorem dM_states_40 : decode cM_states 40 = .ok (.iadd, 1) := by decide +kernel
theorem dM_states_41 : decode cM_states 41 = .ok (.goto 4, 3) := by decide +kernel
theorem dM_states_44 : decode cM_states 44 = .ok (.iload_n 1, 1) := by decide +kernel
theorem dM_states_45 : decode cM_states 45 = .ok (.istore_n 1, 1) := by decide +kernel
theorem dM_states_46 : decode cM_states 46 = .ok (.iinc 2 1, 3) := by decide +kernel
theorem dM_states_49 : decode cM_states 49 = .ok (.goto (-45), 3) := by decide +kernel
theorem dM_states_52 : decode cM_states 52 = .ok (.iload_n 1, 1) := by decide +kernel
theorem dM_states_53 : decode cM_states 53 = .ok (.ireturn, 1) := by decide +kernel
abbrev cM_leads : ByteArray := prog_11_method_61_code
def yM_leads : MethodName := ⟨"WordCheckerModel", "leads", "(III)Z"⟩
theorem calM_leads : CalV gT yM_leads cM_leads 6 (some .boolean) 3 := ⟨⟨gT_1 (i := 1057) (by decide +kernel) rfl, gT_1 (i := 8) (by decide +kernel) rfl, by decide +kernel⟩, gT_1 (i := 1056) (by decide +kernel) rfl, gT_s (q := (yM_leads, 28)) (by decide +kernel)⟩
theorem dM_leads_0 : decode cM_leads 0 = .ok (.aload_n 0, 1) := by decide +kernel
theorem dM_leads_1 : decode cM_leads 1 = .ok (.iload_n 1, 1) := by decide +kernel
theorem dM_leads_2 : decode cM_leads 2 = .ok (.iload_n 2, 1) := by decide +kernel
theorem dM_leads_3 : decode cM_leads 3 = .ok (.iconst 0, 1) := by decide +kernel
theorem dM_leads_4 : decode cM_leads 4 = .ok (.invokevirtual 317, 3) := by decide +kernel
theorem dM_leads_7 : decode cM_leads 7 = .ok (.istore 4, 2) := by decide +kernel
theorem dM_leads_9 : decode cM_leads 9 = .ok (.iconst 0, 1) := by decide +kernel
theorem dM_leads_10 : decode cM_leads 10 = .ok (.istore 5, 2) := by decide +kernel
theorem dM_leads_12 : decode cM_leads 12 = .ok (.iload 5, 2) := by decide +kernel
theorem dM_leads_14 : decode cM_leads 14 = .ok (.iload_n 3, 1) := by decide +kernel
theorem dM_leads_15 : decode cM_leads 15 = .ok (.if_icmp .gt 36, 3) := by decide +kernel
theorem dM_leads_18 : decode cM_leads 18 = .ok (.iload 5, 2) := by decide +kernel
theorem dM_leads_20 : decode cM_leads 20 = .ok (.ifCond .le 7, 3) := by decide +kernel
theorem dM_leads_23 : decode cM_leads 23 = .ok (.aload_n 0, 1) := by decide +kernel
theorem dM_leads_24 : decode cM_leads 24 = .ok (.invokevirtual 314, 3) := by decide +kernel
theorem dM_leads_27 : decode cM_leads 27 = .ok (.aload_n 0, 1) := by decide +kernel
theorem dM_leads_28 : decode cM_leads 28 = .ok (.iload_n 1, 1) := by decide +kernel
theorem dM_leads_29 : decode cM_leads 29 = .ok (.iload 4, 2) := by decide +kernel
theorem dM_leads_31 : decode cM_leads 31 = .ok (.invokevirtual 321, 3) := by decide +kernel
theorem dM_leads_34 : decode cM_leads 34 = .ok (.istore 4, 2) := by decide +kernel
theorem dM_leads_36 : decode cM_leads 36 = .ok (.aload_n 0, 1) := by decide +kernel
theorem dM_leads_37 : decode cM_leads 37 = .ok (.invokevirtual 324, 3) := by decide +kernel
theorem dM_leads_40 : decode cM_leads 40 = .ok (.ifCond .ne 5, 3) := by decide +kernel
theorem dM_leads_43 : decode cM_leads 43 = .ok (.iconst 0, 1) := by decide +kernel
theorem dM_leads_44 : decode cM_leads 44 = .ok (.ireturn, 1) := by decide +kernel
theorem dM_leads_45 : decode cM_leads 45 = .ok (.iinc 5 1, 3) := by decide +kernel
theorem dM_leads_48 : decode cM_leads 48 = .ok (.goto (-36), 3) := by decide +kernel
theorem dM_leads_51 : decode cM_leads 51 = .ok (.aload_n 0, 1) := by decide +kernel
theorem dM_leads_52 : decode cM_leads 52 = .ok (.invokevirtual 327, 3) := by decide +kernel
theorem dM_leads_55 : decode cM_leads 55 = .ok (.ireturn, 1) := by decide +kernel
