abbrev cT_byteOf : ByteArray := prog_9_method_3_code
def yT_byteOf : MethodName := ⟨"WordChecker$Text", "byteOf", "(II)I"⟩
theorem calT_byteOf : CalS gT yT_byteOf cT_byteOf 2 (some .int) 2 := ⟨⟨gT_1 (i := 282) (by decide +kernel) rfl, gT_1 (i := 2) (by decide +kernel) rfl, by decide +kernel⟩, gT_1 (i := 281) (by decide +kernel) rfl⟩
theorem dT_byteOf_0 : decode cT_byteOf 0 = .ok (.iload_n 0, 1) := by decide +kernel
theorem dT_byteOf_1 : decode cT_byteOf 1 = .ok (.bipush 8, 2) := by decide +kernel
theorem dT_byteOf_3 : decode cT_byteOf 3 = .ok (.iload_n 1, 1) := by decide +kernel
theorem dT_byteOf_4 : decode cT_byteOf 4 = .ok (.imul, 1) := by decide +kernel
theorem dT_byteOf_5 : decode cT_byteOf 5 = .ok (.iushr, 1) := by decide +kernel
theorem dT_byteOf_6 : decode cT_byteOf 6 = .ok (.sipush 255, 3) := by decide +kernel
theorem dT_byteOf_9 : decode cT_byteOf 9 = .ok (.iand, 1) := by decide +kernel
theorem dT_byteOf_10 : decode cT_byteOf 10 = .ok (.ireturn, 1) := by decide +kernel
abbrev cT_append : ByteArray := prog_9_method_2_code
def yT_append : MethodName := ⟨"WordChecker$Text", "append", "(II)Z"⟩
theorem calT_append : CalV gT yT_append cT_append 5 (some .boolean) 2 := ⟨⟨gT_1 (i := 279) (by decide +kernel) rfl, gT_1 (i := 2) (by decide +kernel) rfl, by decide +kernel⟩, gT_1 (i := 277) (by decide +kernel) rfl, gT_1 (i := 278) (by decide +kernel) rfl⟩
theorem dT_append_0 : decode cT_append 0 = .ok (.iload_n 2, 1) := by decide +kernel
theorem dT_append_1 : decode cT_append 1 = .ok (.iconst 1, 1) := by decide +kernel
theorem dT_append_2 : decode cT_append 2 = .ok (.if_icmp .lt 19, 3) := by decide +kernel
theorem dT_append_5 : decode cT_append 5 = .ok (.iload_n 2, 1) := by decide +kernel
theorem dT_append_6 : decode cT_append 6 = .ok (.iconst 4, 1) := by decide +kernel
theorem dT_append_7 : decode cT_append 7 = .ok (.if_icmp .gt 14, 3) := by decide +kernel
theorem dT_append_10 : decode cT_append 10 = .ok (.aload_n 0, 1) := by decide +kernel
theorem dT_append_11 : decode cT_append 11 = .ok (.getfield 22, 3) := by decide +kernel
theorem dT_append_14 : decode cT_append 14 = .ok (.iload_n 2, 1) := by decide +kernel
theorem dT_append_15 : decode cT_append 15 = .ok (.iadd, 1) := by decide +kernel
theorem dT_append_16 : decode cT_append 16 = .ok (.bipush 40, 2) := by decide +kernel
theorem dT_append_18 : decode cT_append 18 = .ok (.if_icmp .le 5, 3) := by decide +kernel
theorem dT_append_21 : decode cT_append 21 = .ok (.iconst 0, 1) := by decide +kernel
theorem dT_append_22 : decode cT_append 22 = .ok (.ireturn, 1) := by decide +kernel
theorem dT_append_23 : decode cT_append 23 = .ok (.iconst 0, 1) := by decide +kernel
theorem dT_append_24 : decode cT_append 24 = .ok (.istore_n 3, 1) := by decide +kernel
theorem dT_append_25 : decode cT_append 25 = .ok (.iload_n 3, 1) := by decide +kernel
theorem dT_append_26 : decode cT_append 26 = .ok (.iload_n 2, 1) := by decide +kernel
theorem dT_append_27 : decode cT_append 27 = .ok (.if_icmp .ge 32, 3) := by decide +kernel
theorem dT_append_30 : decode cT_append 30 = .ok (.iload_n 1, 1) := by decide +kernel
theorem dT_append_31 : decode cT_append 31 = .ok (.iload_n 3, 1) := by decide +kernel
theorem dT_append_32 : decode cT_append 32 = .ok (.invokestatic 26, 3) := by decide +kernel
theorem dT_append_35 : decode cT_append 35 = .ok (.istore 4, 2) := by decide +kernel
theorem dT_append_37 : decode cT_append 37 = .ok (.iload 4, 2) := by decide +kernel
theorem dT_append_39 : decode cT_append 39 = .ok (.bipush 32, 2) := by decide +kernel
theorem dT_append_41 : decode cT_append 41 = .ok (.if_icmp .lt 10, 3) := by decide +kernel
theorem dT_append_44 : decode cT_append 44 = .ok (.iload 4, 2) := by decide +kernel
theorem dT_append_46 : decode cT_append 46 = .ok (.bipush 126, 2) := by decide +kernel
theorem dT_append_48 : decode cT_append 48 = .ok (.if_icmp .le 5, 3) := by decide +kernel
theorem dT_append_51 : decode cT_append 51 = .ok (.iconst 0, 1) := by decide +kernel
theorem dT_append_52 : decode cT_append 52 = .ok (.ireturn, 1) := by decide +kernel
theorem dT_append_53 : decode cT_append 53 = .ok (.iinc 3 1, 3) := by decide +kernel
theorem dT_append_56 : decode cT_append 56 = .ok (.goto (-31), 3) := by decide +kernel
theorem dT_append_59 : decode cT_append 59 = .ok (.iload_n 2, 1) := by decide +kernel
theorem dT_append_60 : decode cT_append 60 = .ok (.iconst 1, 1) := by decide +kernel
theorem dT_append_61 : decode cT_append 61 = .ok (.isub, 1) := by decide +kernel
theorem dT_append_62 : decode cT_append 62 = .ok (.istore_n 3, 1) := by decide +kernel
theorem dT_append_63 : decode cT_append 63 = .ok (.iload_n 3, 1) := by decide +kernel
theorem dT_append_64 : decode cT_append 64 = .ok (.ifCond .lt 34, 3) := by decide +kernel
theorem dT_append_67 : decode cT_append 67 = .ok (.aload_n 0, 1) := by decide +kernel
theorem dT_append_68 : decode cT_append 68 = .ok (.getfield 9, 3) := by decide +kernel
theorem dT_append_71 : decode cT_append 71 = .ok (.aload_n 0, 1) := by decide +kernel
theorem dT_append_72 : decode cT_append 72 = .ok (.getfield 22, 3) := by decide +kernel
theorem dT_append_75 : decode cT_append 75 = .ok (.iload_n 1, 1) := by decide +kernel
theorem dT_append_76 : decode cT_append 76 = .ok (.iload_n 3, 1) := by decide +kernel
theorem dT_append_77 : decode cT_append 77 = .ok (.invokestatic 26, 3) := by decide +kernel
theorem dT_append_80 : decode cT_append 80 = .ok (.i2c, 1) := by decide +kernel
theorem dT_append_81 : decode cT_append 81 = .ok (.castore, 1) := by decide +kernel
theorem dT_append_82 : decode cT_append 82 = .ok (.aload_n 0, 1) := by decide +kernel
theorem dT_append_83 : decode cT_append 83 = .ok (.dup, 1) := by decide +kernel
theorem dT_append_84 : decode cT_append 84 = .ok (.getfield 22, 3) := by decide +kernel
theorem dT_append_87 : decode cT_append 87 = .ok (.iconst 1, 1) := by decide +kernel
theorem dT_append_88 : decode cT_append 88 = .ok (.iadd, 1) := by decide +kernel
theorem dT_append_89 : decode cT_append 89 = .ok (.putfield 22, 3) := by decide +kernel
theorem dT_append_92 : decode cT_append 92 = .ok (.iinc 3 (-1), 3) := by decide +kernel
theorem dT_append_95 : decode cT_append 95 = .ok (.goto (-32), 3) := by decide +kernel
theorem dT_append_98 : decode cT_append 98 = .ok (.iconst 1, 1) := by decide +kernel
theorem dT_append_99 : decode cT_append 99 = .ok (.ireturn, 1) := by decide +kernel
abbrev cC_type : ByteArray := prog_1_method_2_code
def yC_type : MethodName := ⟨"WordChecker", "type", "(II)Z"⟩
theorem calC_type : CalV gT yC_type cC_type 3 (some .boolean) 2 := ⟨⟨gT_1 (i := 275) (by decide +kernel) rfl, gT_1 (i := 1) (by decide +kernel) rfl, by decide +kernel⟩, gT_1 (i := 273) (by decide +kernel) rfl, gT_1 (i := 274) (by decide +kernel) rfl⟩
theorem dC_type_0 : decode cC_type 0 = .ok (.aload_n 0, 1) := by decide +kernel
theorem dC_type_1 : decode cC_type 1 = .ok (.getfield 12, 3) := by decide +kernel
theorem dC_type_4 : decode cC_type 4 = .ok (.iload_n 1, 1) := by decide +kernel
theorem dC_type_5 : decode cC_type 5 = .ok (.iload_n 2, 1) := by decide +kernel
theorem dC_type_6 : decode cC_type 6 = .ok (.invokevirtual 41, 3) := by decide +kernel
theorem dC_type_9 : decode cC_type 9 = .ok (.ireturn, 1) := by decide +kernel
abbrev cB_wireOf : ByteArray := prog_3_method_10_code
def yB_wireOf : MethodName := ⟨"WordChecker$Book", "wireOf", "(LWordChecker$Draft;III)J"⟩
theorem calB_wireOf : CalV gT yB_wireOf cB_wireOf 7 (some .long) 4 := ⟨⟨gT_1 (i := 496) (by decide +kernel) rfl, gT_1 (i := 3) (by decide +kernel) rfl, by decide +kernel⟩, gT_1 (i := 495) (by decide +kernel) rfl, gT_s (q := (yB_wireOf, 9)) (by decide +kernel)⟩
theorem dB_wireOf_0 : decode cB_wireOf 0 = .ok (.aload_n 0, 1) := by decide +kernel
theorem dB_wireOf_1 : decode cB_wireOf 1 = .ok (.getfield 11, 3) := by decide +kernel
theorem dB_wireOf_4 : decode cB_wireOf 4 = .ok (.aload_n 1, 1) := by decide +kernel
theorem dB_wireOf_5 : decode cB_wireOf 5 = .ok (.getfield 123, 3) := by decide +kernel
theorem dB_wireOf_8 : decode cB_wireOf 8 = .ok (.iload_n 2, 1) := by decide +kernel
theorem dB_wireOf_9 : decode cB_wireOf 9 = .ok (.iaload, 1) := by decide +kernel
theorem dB_wireOf_10 : decode cB_wireOf 10 = .ok (.aaload, 1) := by decide +kernel
theorem dB_wireOf_11 : decode cB_wireOf 11 = .ok (.getfield 135, 3) := by decide +kernel
theorem dB_wireOf_14 : decode cB_wireOf 14 = .ok (.iload_n 3, 1) := by decide +kernel
theorem dB_wireOf_15 : decode cB_wireOf 15 = .ok (.iconst 4, 1) := by decide +kernel
theorem dB_wireOf_16 : decode cB_wireOf 16 = .ok (.imul, 1) := by decide +kernel
theorem dB_wireOf_17 : decode cB_wireOf 17 = .ok (.iload 4, 2) := by decide +kernel
theorem dB_wireOf_19 : decode cB_wireOf 19 = .ok (.iadd, 1) := by decide +kernel
theorem dB_wireOf_20 : decode cB_wireOf 20 = .ok (.laload, 1) := by decide +kernel
theorem dB_wireOf_21 : decode cB_wireOf 21 = .ok (.lstore 5, 2) := by decide +kernel
theorem dB_wireOf_23 : decode cB_wireOf 23 = .ok (.aload_n 1, 1) := by decide +kernel
theorem dB_wireOf_24 : decode cB_wireOf 24 = .ok (.getfield 148, 3) := by decide +kernel
theorem dB_wireOf_27 : decode cB_wireOf 27 = .ok (.iload_n 2, 1) := by decide +kernel
theorem dB_wireOf_28 : decode cB_wireOf 28 = .ok (.baload, 1) := by decide +kernel
theorem dB_wireOf_29 : decode cB_wireOf 29 = .ok (.ifCond .eq 12, 3) := by decide +kernel
theorem dB_wireOf_32 : decode cB_wireOf 32 = .ok (.lload 5, 2) := by decide +kernel
theorem dB_wireOf_34 : decode cB_wireOf 34 = .ok (.ldc2_w 35, 3) := by decide +kernel
theorem dB_wireOf_37 : decode cB_wireOf 37 = .ok (.lxor, 1) := by decide +kernel
theorem dB_wireOf_38 : decode cB_wireOf 38 = .ok (.goto 5, 3) := by decide +kernel
theorem dB_wireOf_41 : decode cB_wireOf 41 = .ok (.lload 5, 2) := by decide +kernel
theorem dB_wireOf_43 : decode cB_wireOf 43 = .ok (.lreturn, 1) := by decide +kernel
abbrev cB_addBad : ByteArray := prog_3_method_13_code
def yB_addBad : MethodName := ⟨"WordChecker$Book", "addBad", "(LWordChecker$Draft;)V"⟩
theorem calB_addBad : CalV gT yB_addBad cB_addBad 3 none 1 := ⟨⟨gT_1 (i := 504) (by decide +kernel) rfl, gT_1 (i := 3) (by decide +kernel) rfl, by decide +kernel⟩, gT_1 (i := 503) (by decide +kernel) rfl, gT_s (q := (yB_addBad, 9)) (by decide +kernel)⟩
theorem dB_addBad_0 : decode cB_addBad 0 = .ok (.iconst 0, 1) := by decide +kernel
theorem dB_addBad_1 : decode cB_addBad 1 = .ok (.istore_n 2, 1) := by decide +kernel
theorem dB_addBad_2 : decode cB_addBad 2 = .ok (.iload_n 2, 1) := by decide +kernel
theorem dB_addBad_3 : decode cB_addBad 3 = .ok (.iconst 4, 1) := by decide +kernel
theorem dB_addBad_4 : decode cB_addBad 4 = .ok (.if_icmp .ge 26, 3) := by decide +kernel
theorem dB_addBad_7 : decode cB_addBad 7 = .ok (.aload_n 0, 1) := by decide +kernel
theorem dB_addBad_8 : decode cB_addBad 8 = .ok (.getfield 28, 3) := by decide +kernel
theorem dB_addBad_11 : decode cB_addBad 11 = .ok (.iload_n 2, 1) := by decide +kernel
theorem dB_addBad_12 : decode cB_addBad 12 = .ok (.dup2, 1) := by decide +kernel
theorem dB_addBad_13 : decode cB_addBad 13 = .ok (.laload, 1) := by decide +kernel
theorem dB_addBad_14 : decode cB_addBad 14 = .ok (.aload_n 0, 1) := by decide +kernel
theorem dB_addBad_15 : decode cB_addBad 15 = .ok (.aload_n 1, 1) := by decide +kernel
theorem dB_addBad_16 : decode cB_addBad 16 = .ok (.iconst 0, 1) := by decide +kernel
theorem dB_addBad_17 : decode cB_addBad 17 = .ok (.iconst 0, 1) := by decide +kernel
theorem dB_addBad_18 : decode cB_addBad 18 = .ok (.iload_n 2, 1) := by decide +kernel
theorem dB_addBad_19 : decode cB_addBad 19 = .ok (.invokevirtual 152, 3) := by decide +kernel
theorem dB_addBad_22 : decode cB_addBad 22 = .ok (.lor, 1) := by decide +kernel
theorem dB_addBad_23 : decode cB_addBad 23 = .ok (.lastore, 1) := by decide +kernel
theorem dB_addBad_24 : decode cB_addBad 24 = .ok (.iinc 2 1, 3) := by decide +kernel
theorem dB_addBad_27 : decode cB_addBad 27 = .ok (.goto (-25), 3) := by decide +kernel
theorem dB_addBad_30 : decode cB_addBad 30 = .ok (.return_, 1) := by decide +kernel
abbrev cB_addConstraint : ByteArray := prog_3_method_14_code
def yB_addConstraint : MethodName := ⟨"WordChecker$Book", "addConstraint", "(LWordChecker$Draft;)V"⟩
theorem calB_addConstraint : CalV gT yB_addConstraint cB_addConstraint 3 none 1 := ⟨⟨gT_1 (i := 508) (by decide +kernel) rfl, gT_1 (i := 3) (by decide +kernel) rfl, by decide +kernel⟩, gT_1 (i := 507) (by decide +kernel) rfl, gT_s (q := (yB_addConstraint, 9)) (by decide +kernel)⟩
theorem dB_addConstraint_0 : decode cB_addConstraint 0 = .ok (.iconst 0, 1) := by decide +kernel
theorem dB_addConstraint_1 : decode cB_addConstraint 1 = .ok (.istore_n 2, 1) := by decide +kernel
theorem dB_addConstraint_2 : decode cB_addConstraint 2 = .ok (.iload_n 2, 1) := by decide +kernel
theorem dB_addConstraint_3 : decode cB_addConstraint 3 = .ok (.iconst 4, 1) := by decide +kernel
theorem dB_addConstraint_4 : decode cB_addConstraint 4 = .ok (.if_icmp .ge 26, 3) := by decide +kernel
theorem dB_addConstraint_7 : decode cB_addConstraint 7 = .ok (.aload_n 0, 1) := by decide +kernel
theorem dB_addConstraint_8 : decode cB_addConstraint 8 = .ok (.getfield 31, 3) := by decide +kernel
theorem dB_addConstraint_11 : decode cB_addConstraint 11 = .ok (.iload_n 2, 1) := by decide +kernel
theorem dB_addConstraint_12 : decode cB_addConstraint 12 = .ok (.dup2, 1) := by decide +kernel
theorem dB_addConstraint_13 : decode cB_addConstraint 13 = .ok (.laload, 1) := by decide +kernel
theorem dB_addConstraint_14 : decode cB_addConstraint 14 = .ok (.aload_n 0, 1) := by decide +kernel
theorem dB_addConstraint_15 : decode cB_addConstraint 15 = .ok (.aload_n 1, 1) := by decide +kernel
theorem dB_addConstraint_16 : decode cB_addConstraint 16 = .ok (.iconst 0, 1) := by decide +kernel
theorem dB_addConstraint_17 : decode cB_addConstraint 17 = .ok (.iconst 0, 1) := by decide +kernel
theorem dB_addConstraint_18 : decode cB_addConstraint 18 = .ok (.iload_n 2, 1) := by decide +kernel
theorem dB_addConstraint_19 : decode cB_addConstraint 19 = .ok (.invokevirtual 152, 3) := by decide +kernel
theorem dB_addConstraint_22 : decode cB_addConstraint 22 = .ok (.land, 1) := by decide +kernel
theorem dB_addConstraint_23 : decode cB_addConstraint 23 = .ok (.lastore, 1) := by decide +kernel
theorem dB_addConstraint_24 : decode cB_addConstraint 24 = .ok (.iinc 2 1, 3) := by decide +kernel
theorem dB_addConstraint_27 : decode cB_addConstraint 27 = .ok (.goto (-25), 3) := by decide +kernel
theorem dB_addConstraint_30 : decode cB_addConstraint 30 = .ok (.return_, 1) := by decide +kernel
abbrev cC_isArray : ByteArray := prog_1_method_12_code
def yC_isArray : MethodName := ⟨"WordChecker", "isArray", "(I)Z"⟩
theorem calC_isArray : CalS gT yC_isArray cC_isArray 1 (some .boolean) 1 := ⟨⟨gT_1 (i := 394) (by decide +kernel) rfl, gT_1 (i := 1) (by decide +kernel) rfl, by decide +kernel⟩, gT_1 (i := 393) (by decide +kernel) rfl⟩
theorem dC_isArray_0 : decode cC_isArray 0 = .ok (.iload_n 0, 1) := by decide +kernel
theorem dC_isArray_1 : decode cC_isArray 1 = .ok (.iconst 4, 1) := by decide +kernel
theorem dC_isArray_2 : decode cC_isArray 2 = .ok (.if_icmp .le 7, 3) := by decide +kernel
theorem dC_isArray_5 : decode cC_isArray 5 = .ok (.iconst 1, 1) := by decide +kernel
theorem dC_isArray_6 : decode cC_isArray 6 = .ok (.goto 4, 3) := by decide +kernel
theorem dC_isArray_9 : decode cC_isArray 9 = .ok (.iconst 0, 1) := by decide +kernel
theorem dC_isArray_10 : decode cC_isArray 10 = .ok (.ireturn, 1) := by decide +kernel
abbrev cC_bitsOf : ByteArray := prog_1_method_13_code
def yC_bitsOf : MethodName := ⟨"WordChecker", "bitsOf", "(I)I"⟩
theorem calC_bitsOf : CalS gT yC_bitsOf cC_bitsOf 1 (some .int) 1 := ⟨⟨gT_1 (i := 407) (by decide +kernel) rfl, gT_1 (i := 1) (by decide +kernel) rfl, by decide +kernel⟩, gT_1 (i := 406) (by decide +kernel) rfl⟩
theorem dC_bitsOf_0 : decode cC_bitsOf 0 = .ok (.iload_n 0, 1) := by decide +kernel
theorem dC_bitsOf_1 : decode cC_bitsOf 1 = .ok (.invokestatic 111, 3) := by decide +kernel
theorem dC_bitsOf_4 : decode cC_bitsOf 4 = .ok (.ifCond .eq 11, 3) := by decide +kernel
theorem dC_bitsOf_7 : decode cC_bitsOf 7 = .ok (.iconst 2, 1) := by decide +kernel
theorem dC_bitsOf_8 : decode cC_bitsOf 8 = .ok (.iload_n 0, 1) := by decide +kernel
theorem dC_bitsOf_9 : decode cC_bitsOf 9 = .ok (.iconst 4, 1) := by decide +kernel
theorem dC_bitsOf_10 : decode cC_bitsOf 10 = .ok (.isub, 1) := by decide +kernel
theorem dC_bitsOf_11 : decode cC_bitsOf 11 = .ok (.imul, 1) := by decide +kernel
theorem dC_bitsOf_12 : decode cC_bitsOf 12 = .ok (.goto 4, 3) := by decide +kernel
theorem dC_bitsOf_15 : decode cC_bitsOf 15 = .ok (.iload_n 0, 1) := by decide +kernel
theorem dC_bitsOf_16 : decode cC_bitsOf 16 = .ok (.ireturn, 1) := by decide +kernel
abbrev cC_has : ByteArray := prog_1_method_14_code
def yC_has : MethodName := ⟨"WordChecker", "has", "(JI)Z"⟩
theorem calC_has : CalS gT yC_has cC_has 3 (some .boolean) 2 := ⟨⟨gT_1 (i := 482) (by decide +kernel) rfl, gT_1 (i := 1) (by decide +kernel) rfl, by decide +kernel⟩, gT_1 (i := 481) (by decide +kernel) rfl⟩
theorem dC_has_0 : decode cC_has 0 = .ok (.lload_n 0, 1) := by decide +kernel
theorem dC_has_1 : decode cC_has 1 = .ok (.iload_n 2, 1) := by decide +kernel
theorem dC_has_2 : decode cC_has 2 = .ok (.lushr, 1) := by decide +kernel
theorem dC_has_3 : decode cC_has 3 = .ok (.lconst 1, 1) := by decide +kernel
theorem dC_has_4 : decode cC_has 4 = .ok (.land, 1) := by decide +kernel
theorem dC_has_5 : decode cC_has 5 = .ok (.lconst 0, 1) := by decide +kernel
theorem dC_has_6 : decode cC_has 6 = .ok (.lcmp, 1) := by decide +kernel
theorem dC_has_7 : decode cC_has 7 = .ok (.ifCond .eq 7, 3) := by decide +kernel
theorem dC_has_10 : decode cC_has 10 = .ok (.iconst 1, 1) := by decide +kernel
theorem dC_has_11 : decode cC_has 11 = .ok (.goto 4, 3) := by decide +kernel
theorem dC_has_14 : decode cC_has 14 = .ok (.iconst 0, 1) := by decide +kernel
theorem dC_has_15 : decode cC_has 15 = .ok (.ireturn, 1) := by decide +kernel
abbrev cB_addInput : ByteArray := prog_3_method_8_code
def yB_addInput : MethodName := ⟨"WordChecker$Book", "addInput", "(LWordChecker$Line;)V"⟩
theorem calB_addInput : CalV gT yB_addInput cB_addInput 4 none 1 := ⟨⟨gT_1 (i := 478) (by decide +kernel) rfl, gT_1 (i := 3) (by decide +kernel) rfl, by decide +kernel⟩, gT_1 (i := 477) (by decide +kernel) rfl, gT_s (q := (yB_addInput, 9)) (by decide +kernel)⟩
theorem dB_addInput_0 : decode cB_addInput 0 = .ok (.aload_n 1, 1) := by decide +kernel
theorem dB_addInput_1 : decode cB_addInput 1 = .ok (.aload_n 0, 1) := by decide +kernel
theorem dB_addInput_2 : decode cB_addInput 2 = .ok (.getfield 126, 3) := by decide +kernel
theorem dB_addInput_5 : decode cB_addInput 5 = .ok (.putfield 129, 3) := by decide +kernel
theorem dB_addInput_8 : decode cB_addInput 8 = .ok (.aload_n 0, 1) := by decide +kernel
theorem dB_addInput_9 : decode cB_addInput 9 = .ok (.dup, 1) := by decide +kernel
theorem dB_addInput_10 : decode cB_addInput 10 = .ok (.getfield 126, 3) := by decide +kernel
theorem dB_addInput_13 : decode cB_addInput 13 = .ok (.aload_n 1, 1) := by decide +kernel
theorem dB_addInput_14 : decode cB_addInput 14 = .ok (.getfield 61, 3) := by decide +kernel
theorem dB_addInput_17 : decode cB_addInput 17 = .ok (.invokestatic 132, 3) := by decide +kernel
theorem dB_addInput_20 : decode cB_addInput 20 = .ok (.iadd, 1) := by decide +kernel
theorem dB_addInput_21 : decode cB_addInput 21 = .ok (.putfield 126, 3) := by decide +kernel
theorem dB_addInput_24 : decode cB_addInput 24 = .ok (.iconst 0, 1) := by decide +kernel
theorem dB_addInput_25 : decode cB_addInput 25 = .ok (.istore_n 2, 1) := by decide +kernel
theorem dB_addInput_26 : decode cB_addInput 26 = .ok (.iload_n 2, 1) := by decide +kernel
theorem dB_addInput_27 : decode cB_addInput 27 = .ok (.aload_n 1, 1) := by decide +kernel
theorem dB_addInput_28 : decode cB_addInput 28 = .ok (.getfield 61, 3) := by decide +kernel
theorem dB_addInput_31 : decode cB_addInput 31 = .ok (.invokestatic 132, 3) := by decide +kernel
theorem dB_addInput_34 : decode cB_addInput 34 = .ok (.if_icmp .ge 53, 3) := by decide +kernel
theorem dB_addInput_37 : decode cB_addInput 37 = .ok (.iconst 0, 1) := by decide +kernel
theorem dB_addInput_38 : decode cB_addInput 38 = .ok (.istore_n 3, 1) := by decide +kernel
theorem dB_addInput_39 : decode cB_addInput 39 = .ok (.iload_n 3, 1) := by decide +kernel
theorem dB_addInput_40 : decode cB_addInput 40 = .ok (.iconst 4, 1) := by decide +kernel
theorem dB_addInput_41 : decode cB_addInput 41 = .ok (.if_icmp .ge 40, 3) := by decide +kernel
theorem dB_addInput_44 : decode cB_addInput 44 = .ok (.aload_n 1, 1) := by decide +kernel
theorem dB_addInput_45 : decode cB_addInput 45 = .ok (.getfield 135, 3) := by decide +kernel
theorem dB_addInput_48 : decode cB_addInput 48 = .ok (.iload_n 2, 1) := by decide +kernel
theorem dB_addInput_49 : decode cB_addInput 49 = .ok (.iconst 4, 1) := by decide +kernel
theorem dB_addInput_50 : decode cB_addInput 50 = .ok (.imul, 1) := by decide +kernel
theorem dB_addInput_51 : decode cB_addInput 51 = .ok (.iload_n 3, 1) := by decide +kernel
theorem dB_addInput_52 : decode cB_addInput 52 = .ok (.iadd, 1) := by decide +kernel
theorem dB_addInput_53 : decode cB_addInput 53 = .ok (.iload_n 3, 1) := by decide +kernel
theorem dB_addInput_54 : decode cB_addInput 54 = .ok (.i2l, 1) := by decide +kernel
theorem dB_addInput_55 : decode cB_addInput 55 = .ok (.aload_n 1, 1) := by decide +kernel
theorem dB_addInput_56 : decode cB_addInput 56 = .ok (.getfield 129, 3) := by decide +kernel
theorem dB_addInput_59 : decode cB_addInput 59 = .ok (.iload_n 2, 1) := by decide +kernel
theorem dB_addInput_60 : decode cB_addInput 60 = .ok (.iadd, 1) := by decide +kernel
theorem dB_addInput_61 : decode cB_addInput 61 = .ok (.invokestatic 138, 3) := by decide +kernel
theorem dB_addInput_64 : decode cB_addInput 64 = .ok (.ifCond .eq 9, 3) := by decide +kernel
theorem dB_addInput_67 : decode cB_addInput 67 = .ok (.ldc2_w 35, 3) := by decide +kernel
theorem dB_addInput_70 : decode cB_addInput 70 = .ok (.goto 4, 3) := by decide +kernel
theorem dB_addInput_73 : decode cB_addInput 73 = .ok (.lconst 0, 1) := by decide +kernel
theorem dB_addInput_74 : decode cB_addInput 74 = .ok (.lastore, 1) := by decide +kernel
theorem dB_addInput_75 : decode cB_addInput 75 = .ok (.iinc 3 1, 3) := by decide +kernel
theorem dB_addInput_78 : decode cB_addInput 78 = .ok (.goto (-39), 3) := by decide +kernel
theorem dB_addInput_81 : decode cB_addInput 81 = .ok (.iinc 2 1, 3) := by decide +kernel
theorem dB_addInput_84 : decode cB_addInput 84 = .ok (.goto (-58), 3) := by decide +kernel
theorem dB_addInput_87 : decode cB_addInput 87 = .ok (.return_, 1) := by decide +kernel
abbrev cB_addState : ByteArray := prog_3_method_9_code
def yB_addState : MethodName := ⟨"WordChecker$Book", "addState", "(LWordChecker$Line;)V"⟩
theorem calB_addState : CalV gT yB_addState cB_addState 4 none 1 := ⟨⟨gT_1 (i := 486) (by decide +kernel) rfl, gT_1 (i := 3) (by decide +kernel) rfl, by decide +kernel⟩, gT_1 (i := 485) (by decide +kernel) rfl, gT_s (q := (yB_addState, 9)) (by decide +kernel)⟩
theorem dB_addState_0 : decode cB_addState 0 = .ok (.aload_n 1, 1) := by decide +kernel
theorem dB_addState_1 : decode cB_addState 1 = .ok (.aload_n 0, 1) := by decide +kernel
theorem dB_addState_2 : decode cB_addState 2 = .ok (.getfield 142, 3) := by decide +kernel
theorem dB_addState_5 : decode cB_addState 5 = .ok (.putfield 129, 3) := by decide +kernel
theorem dB_addState_8 : decode cB_addState 8 = .ok (.aload_n 0, 1) := by decide +kernel
theorem dB_addState_9 : decode cB_addState 9 = .ok (.dup, 1) := by decide +kernel
theorem dB_addState_10 : decode cB_addState 10 = .ok (.getfield 142, 3) := by decide +kernel
theorem dB_addState_13 : decode cB_addState 13 = .ok (.aload_n 1, 1) := by decide +kernel
theorem dB_addState_14 : decode cB_addState 14 = .ok (.getfield 61, 3) := by decide +kernel
theorem dB_addState_17 : decode cB_addState 17 = .ok (.invokestatic 132, 3) := by decide +kernel
theorem dB_addState_20 : decode cB_addState 20 = .ok (.iadd, 1) := by decide +kernel
theorem dB_addState_21 : decode cB_addState 21 = .ok (.putfield 142, 3) := by decide +kernel
theorem dB_addState_24 : decode cB_addState 24 = .ok (.iconst 0, 1) := by decide +kernel
theorem dB_addState_25 : decode cB_addState 25 = .ok (.istore_n 2, 1) := by decide +kernel
theorem dB_addState_26 : decode cB_addState 26 = .ok (.iload_n 2, 1) := by decide +kernel
theorem dB_addState_27 : decode cB_addState 27 = .ok (.aload_n 1, 1) := by decide +kernel
theorem dB_addState_28 : decode cB_addState 28 = .ok (.getfield 61, 3) := by decide +kernel
theorem dB_addState_31 : decode cB_addState 31 = .ok (.invokestatic 132, 3) := by decide +kernel
theorem dB_addState_34 : decode cB_addState 34 = .ok (.if_icmp .ge 67, 3) := by decide +kernel
theorem dB_addState_37 : decode cB_addState 37 = .ok (.iconst 0, 1) := by decide +kernel
theorem dB_addState_38 : decode cB_addState 38 = .ok (.istore_n 3, 1) := by decide +kernel
theorem dB_addState_39 : decode cB_addState 39 = .ok (.iload_n 3, 1) := by decide +kernel
theorem dB_addState_40 : decode cB_addState 40 = .ok (.iconst 4, 1) := by decide +kernel
theorem dB_addState_41 : decode cB_addState 41 = .ok (.if_icmp .ge 54, 3) := by decide +kernel
theorem dB_addState_44 : decode cB_addState 44 = .ok (.aload_n 1, 1) := by decide +kernel
theorem dB_addState_45 : decode cB_addState 45 = .ok (.getfield 135, 3) := by decide +kernel
theorem dB_addState_48 : decode cB_addState 48 = .ok (.iload_n 2, 1) := by decide +kernel
theorem dB_addState_49 : decode cB_addState 49 = .ok (.iconst 4, 1) := by decide +kernel
theorem dB_addState_50 : decode cB_addState 50 = .ok (.imul, 1) := by decide +kernel
theorem dB_addState_51 : decode cB_addState 51 = .ok (.iload_n 3, 1) := by decide +kernel
theorem dB_addState_52 : decode cB_addState 52 = .ok (.iadd, 1) := by decide +kernel
theorem dB_addState_53 : decode cB_addState 53 = .ok (.getstatic 145, 3) := by decide +kernel
theorem dB_addState_56 : decode cB_addState 56 = .ok (.aload_n 1, 1) := by decide +kernel
theorem dB_addState_57 : decode cB_addState 57 = .ok (.getfield 129, 3) := by decide +kernel
theorem dB_addState_60 : decode cB_addState 60 = .ok (.iload_n 2, 1) := by decide +kernel
theorem dB_addState_61 : decode cB_addState 61 = .ok (.iadd, 1) := by decide +kernel
theorem dB_addState_62 : decode cB_addState 62 = .ok (.laload, 1) := by decide +kernel
theorem dB_addState_63 : decode cB_addState 63 = .ok (.lastore, 1) := by decide +kernel
theorem dB_addState_64 : decode cB_addState 64 = .ok (.aload_n 0, 1) := by decide +kernel
theorem dB_addState_65 : decode cB_addState 65 = .ok (.getfield 24, 3) := by decide +kernel
theorem dB_addState_68 : decode cB_addState 68 = .ok (.aload_n 1, 1) := by decide +kernel
theorem dB_addState_69 : decode cB_addState 69 = .ok (.getfield 129, 3) := by decide +kernel
theorem dB_addState_72 : decode cB_addState 72 = .ok (.iload_n 2, 1) := by decide +kernel
theorem dB_addState_73 : decode cB_addState 73 = .ok (.iadd, 1) := by decide +kernel
theorem dB_addState_74 : decode cB_addState 74 = .ok (.iconst 4, 1) := by decide +kernel
theorem dB_addState_75 : decode cB_addState 75 = .ok (.imul, 1) := by decide +kernel
theorem dB_addState_76 : decode cB_addState 76 = .ok (.iload_n 3, 1) := by decide +kernel
theorem dB_addState_77 : decode cB_addState 77 = .ok (.iadd, 1) := by decide +kernel
theorem dB_addState_78 : decode cB_addState 78 = .ok (.getstatic 145, 3) := by decide +kernel
theorem dB_addState_81 : decode cB_addState 81 = .ok (.aload_n 1, 1) := by decide +kernel
theorem dB_addState_82 : decode cB_addState 82 = .ok (.getfield 129, 3) := by decide +kernel
theorem dB_addState_85 : decode cB_addState 85 = .ok (.iload_n 2, 1) := by decide +kernel
theorem dB_addState_86 : decode cB_addState 86 = .ok (.iadd, 1) := by decide +kernel
theorem dB_addState_87 : decode cB_addState 87 = .ok (.laload, 1) := by decide +kernel
theorem dB_addState_88 : decode cB_addState 88 = .ok (.lastore, 1) := by decide +kernel
theorem dB_addState_89 : decode cB_addState 89 = .ok (.iinc 3 1, 3) := by decide +kernel
theorem dB_addState_92 : decode cB_addState 92 = .ok (.goto (-53), 3) := by decide +kernel
theorem dB_addState_95 : decode cB_addState 95 = .ok (.iinc 2 1, 3) := by decide +kernel
theorem dB_addState_98 : decode cB_addState 98 = .ok (.goto (-72), 3) := by decide +kernel
theorem dB_addState_101 : decode cB_addState 101 = .ok (.return_, 1) := by decide +kernel
abbrev cB_allFixed : ByteArray := prog_3_method_7_code
def yB_allFixed : MethodName := ⟨"WordChecker$Book", "allFixed", "(LWordChecker$Draft;)Z"⟩
theorem calB_allFixed : CalV gT yB_allFixed cB_allFixed 3 (some .boolean) 1 := ⟨⟨gT_1 (i := 466) (by decide +kernel) rfl, gT_1 (i := 3) (by decide +kernel) rfl, by decide +kernel⟩, gT_1 (i := 465) (by decide +kernel) rfl, gT_s (q := (yB_allFixed, 9)) (by decide +kernel)⟩
theorem dB_allFixed_0 : decode cB_allFixed 0 = .ok (.iconst 0, 1) := by decide +kernel
theorem dB_allFixed_1 : decode cB_allFixed 1 = .ok (.istore_n 2, 1) := by decide +kernel
theorem dB_allFixed_2 : decode cB_allFixed 2 = .ok (.iload_n 2, 1) := by decide +kernel
theorem dB_allFixed_3 : decode cB_allFixed 3 = .ok (.aload_n 1, 1) := by decide +kernel
theorem dB_allFixed_4 : decode cB_allFixed 4 = .ok (.getfield 120, 3) := by decide +kernel
theorem dB_allFixed_7 : decode cB_allFixed 7 = .ok (.if_icmp .ge 28, 3) := by decide +kernel
theorem dB_allFixed_10 : decode cB_allFixed 10 = .ok (.aload_n 0, 1) := by decide +kernel
theorem dB_allFixed_11 : decode cB_allFixed 11 = .ok (.getfield 11, 3) := by decide +kernel
theorem dB_allFixed_14 : decode cB_allFixed 14 = .ok (.aload_n 1, 1) := by decide +kernel
theorem dB_allFixed_15 : decode cB_allFixed 15 = .ok (.getfield 123, 3) := by decide +kernel
theorem dB_allFixed_18 : decode cB_allFixed 18 = .ok (.iload_n 2, 1) := by decide +kernel
theorem dB_allFixed_19 : decode cB_allFixed 19 = .ok (.iaload, 1) := by decide +kernel
theorem dB_allFixed_20 : decode cB_allFixed 20 = .ok (.aaload, 1) := by decide +kernel
theorem dB_allFixed_21 : decode cB_allFixed 21 = .ok (.getfield 76, 3) := by decide +kernel
theorem dB_allFixed_24 : decode cB_allFixed 24 = .ok (.ifCond .ne 5, 3) := by decide +kernel
theorem dB_allFixed_27 : decode cB_allFixed 27 = .ok (.iconst 0, 1) := by decide +kernel
theorem dB_allFixed_28 : decode cB_allFixed 28 = .ok (.ireturn, 1) := by decide +kernel
theorem dB_allFixed_29 : decode cB_allFixed 29 = .ok (.iinc 2 1, 3) := by decide +kernel
theorem dB_allFixed_32 : decode cB_allFixed 32 = .ok (.goto (-30), 3) := by decide +kernel
theorem dB_allFixed_35 : decode cB_allFixed 35 = .ok (.iconst 1, 1) := by decide +kernel
theorem dB_allFixed_36 : decode cB_allFixed 36 = .ok (.ireturn, 1) := by decide +kernel
abbrev cB_setInit : ByteArray := prog_3_method_11_code
def yB_setInit : MethodName := ⟨"WordChecker$Book", "setInit", "(LWordChecker$Draft;)V"⟩
theorem calB_setInit : CalV gT yB_setInit cB_setInit 4 none 1 := ⟨⟨gT_1 (i := 492) (by decide +kernel) rfl, gT_1 (i := 3) (by decide +kernel) rfl, by decide +kernel⟩, gT_1 (i := 491) (by decide +kernel) rfl, gT_s (q := (yB_setInit, 9)) (by decide +kernel)⟩
theorem dB_setInit_0 : decode cB_setInit 0 = .ok (.iconst 0, 1) := by decide +kernel
theorem dB_setInit_1 : decode cB_setInit 1 = .ok (.istore_n 2, 1) := by decide +kernel
theorem dB_setInit_2 : decode cB_setInit 2 = .ok (.iconst 0, 1) := by decide +kernel
theorem dB_setInit_3 : decode cB_setInit 3 = .ok (.istore_n 3, 1) := by decide +kernel
theorem dB_setInit_4 : decode cB_setInit 4 = .ok (.iload_n 3, 1) := by decide +kernel
theorem dB_setInit_5 : decode cB_setInit 5 = .ok (.aload_n 1, 1) := by decide +kernel
theorem dB_setInit_6 : decode cB_setInit 6 = .ok (.getfield 68, 3) := by decide +kernel
theorem dB_setInit_9 : decode cB_setInit 9 = .ok (.invokestatic 132, 3) := by decide +kernel
theorem dB_setInit_12 : decode cB_setInit 12 = .ok (.if_icmp .ge 34, 3) := by decide +kernel
theorem dB_setInit_15 : decode cB_setInit 15 = .ok (.iload_n 2, 1) := by decide +kernel
theorem dB_setInit_16 : decode cB_setInit 16 = .ok (.aload_n 0, 1) := by decide +kernel
theorem dB_setInit_17 : decode cB_setInit 17 = .ok (.aload_n 1, 1) := by decide +kernel
theorem dB_setInit_18 : decode cB_setInit 18 = .ok (.iconst 1, 1) := by decide +kernel
theorem dB_setInit_19 : decode cB_setInit 19 = .ok (.iload_n 3, 1) := by decide +kernel
theorem dB_setInit_20 : decode cB_setInit 20 = .ok (.iconst 0, 1) := by decide +kernel
theorem dB_setInit_21 : decode cB_setInit 21 = .ok (.invokevirtual 152, 3) := by decide +kernel
theorem dB_setInit_24 : decode cB_setInit 24 = .ok (.iconst 0, 1) := by decide +kernel
theorem dB_setInit_25 : decode cB_setInit 25 = .ok (.invokestatic 138, 3) := by decide +kernel
theorem dB_setInit_28 : decode cB_setInit 28 = .ok (.ifCond .eq 9, 3) := by decide +kernel
theorem dB_setInit_31 : decode cB_setInit 31 = .ok (.iconst 1, 1) := by decide +kernel
theorem dB_setInit_32 : decode cB_setInit 32 = .ok (.iload_n 3, 1) := by decide +kernel
theorem dB_setInit_33 : decode cB_setInit 33 = .ok (.ishl, 1) := by decide +kernel
theorem dB_setInit_34 : decode cB_setInit 34 = .ok (.goto 4, 3) := by decide +kernel
theorem dB_setInit_37 : decode cB_setInit 37 = .ok (.iconst 0, 1) := by decide +kernel
theorem dB_setInit_38 : decode cB_setInit 38 = .ok (.ior, 1) := by decide +kernel
theorem dB_setInit_39 : decode cB_setInit 39 = .ok (.istore_n 2, 1) := by decide +kernel
theorem dB_setInit_40 : decode cB_setInit 40 = .ok (.iinc 3 1, 3) := by decide +kernel
theorem dB_setInit_43 : decode cB_setInit 43 = .ok (.goto (-39), 3) := by decide +kernel
theorem dB_setInit_46 : decode cB_setInit 46 = .ok (.aload_n 0, 1) := by decide +kernel
theorem dB_setInit_47 : decode cB_setInit 47 = .ok (.getfield 11, 3) := by decide +kernel
theorem dB_setInit_50 : decode cB_setInit 50 = .ok (.aload_n 1, 1) := by decide +kernel
theorem dB_setInit_51 : decode cB_setInit 51 = .ok (.getfield 123, 3) := by decide +kernel
theorem dB_setInit_54 : decode cB_setInit 54 = .ok (.iconst 0, 1) := by decide +kernel
theorem dB_setInit_55 : decode cB_setInit 55 = .ok (.iaload, 1) := by decide +kernel
theorem dB_setInit_56 : decode cB_setInit 56 = .ok (.aaload, 1) := by decide +kernel
theorem dB_setInit_57 : decode cB_setInit 57 = .ok (.iload_n 2, 1) := by decide +kernel
theorem dB_setInit_58 : decode cB_setInit 58 = .ok (.putfield 156, 3) := by decide +kernel
theorem dB_setInit_61 : decode cB_setInit 61 = .ok (.return_, 1) := by decide +kernel
abbrev cB_setNext : ByteArray := prog_3_method_12_code
def yB_setNext : MethodName := ⟨"WordChecker$Book", "setNext", "(LWordChecker$Draft;)V"⟩
theorem calB_setNext : CalV gT yB_setNext cB_setNext 5 none 1 := ⟨⟨gT_1 (i := 500) (by decide +kernel) rfl, gT_1 (i := 3) (by decide +kernel) rfl, by decide +kernel⟩, gT_1 (i := 499) (by decide +kernel) rfl, gT_s (q := (yB_setNext, 9)) (by decide +kernel)⟩
theorem dB_setNext_0 : decode cB_setNext 0 = .ok (.aload_n 0, 1) := by decide +kernel
theorem dB_setNext_1 : decode cB_setNext 1 = .ok (.getfield 11, 3) := by decide +kernel
theorem dB_setNext_4 : decode cB_setNext 4 = .ok (.aload_n 1, 1) := by decide +kernel
theorem dB_setNext_5 : decode cB_setNext 5 = .ok (.getfield 123, 3) := by decide +kernel
theorem dB_setNext_8 : decode cB_setNext 8 = .ok (.iconst 0, 1) := by decide +kernel
theorem dB_setNext_9 : decode cB_setNext 9 = .ok (.iaload, 1) := by decide +kernel
theorem dB_setNext_10 : decode cB_setNext 10 = .ok (.aaload, 1) := by decide +kernel
theorem dB_setNext_11 : decode cB_setNext 11 = .ok (.astore_n 2, 1) := by decide +kernel
theorem dB_setNext_12 : decode cB_setNext 12 = .ok (.aload_n 2, 1) := by decide +kernel
theorem dB_setNext_13 : decode cB_setNext 13 = .ok (.iconst 1, 1) := by decide +kernel
theorem dB_setNext_14 : decode cB_setNext 14 = .ok (.putfield 159, 3) := by decide +kernel
theorem dB_setNext_17 : decode cB_setNext 17 = .ok (.iconst 0, 1) := by decide +kernel
theorem dB_setNext_18 : decode cB_setNext 18 = .ok (.istore_n 3, 1) := by decide +kernel
theorem dB_setNext_19 : decode cB_setNext 19 = .ok (.iload_n 3, 1) := by decide +kernel
theorem dB_setNext_20 : decode cB_setNext 20 = .ok (.aload_n 1, 1) := by decide +kernel
theorem dB_setNext_21 : decode cB_setNext 21 = .ok (.getfield 68, 3) := by decide +kernel
theorem dB_setNext_24 : decode cB_setNext 24 = .ok (.invokestatic 132, 3) := by decide +kernel
theorem dB_setNext_27 : decode cB_setNext 27 = .ok (.if_icmp .ge 49, 3) := by decide +kernel
theorem dB_setNext_30 : decode cB_setNext 30 = .ok (.iconst 0, 1) := by decide +kernel
theorem dB_setNext_31 : decode cB_setNext 31 = .ok (.istore 4, 2) := by decide +kernel
theorem dB_setNext_33 : decode cB_setNext 33 = .ok (.iload 4, 2) := by decide +kernel
theorem dB_setNext_35 : decode cB_setNext 35 = .ok (.iconst 4, 1) := by decide +kernel
theorem dB_setNext_36 : decode cB_setNext 36 = .ok (.if_icmp .ge 34, 3) := by decide +kernel
theorem dB_setNext_39 : decode cB_setNext 39 = .ok (.aload_n 0, 1) := by decide +kernel
theorem dB_setNext_40 : decode cB_setNext 40 = .ok (.getfield 24, 3) := by decide +kernel
theorem dB_setNext_43 : decode cB_setNext 43 = .ok (.aload_n 2, 1) := by decide +kernel
theorem dB_setNext_44 : decode cB_setNext 44 = .ok (.getfield 129, 3) := by decide +kernel
theorem dB_setNext_47 : decode cB_setNext 47 = .ok (.iload_n 3, 1) := by decide +kernel
theorem dB_setNext_48 : decode cB_setNext 48 = .ok (.iadd, 1) := by decide +kernel
theorem dB_setNext_49 : decode cB_setNext 49 = .ok (.iconst 4, 1) := by decide +kernel
theorem dB_setNext_50 : decode cB_setNext 50 = .ok (.imul, 1) := by decide +kernel
theorem dB_setNext_51 : decode cB_setNext 51 = .ok (.iload 4, 2) := by decide +kernel
theorem dB_setNext_53 : decode cB_setNext 53 = .ok (.iadd, 1) := by decide +kernel
theorem dB_setNext_54 : decode cB_setNext 54 = .ok (.aload_n 0, 1) := by decide +kernel
theorem dB_setNext_55 : decode cB_setNext 55 = .ok (.aload_n 1, 1) := by decide +kernel
theorem dB_setNext_56 : decode cB_setNext 56 = .ok (.iconst 1, 1) := by decide +kernel
theorem dB_setNext_57 : decode cB_setNext 57 = .ok (.iload_n 3, 1) := by decide +kernel
theorem dB_setNext_58 : decode cB_setNext 58 = .ok (.iload 4, 2) := by decide +kernel
theorem dB_setNext_60 : decode cB_setNext 60 = .ok (.invokevirtual 152, 3) := by decide +kernel
theorem dB_setNext_63 : decode cB_setNext 63 = .ok (.lastore, 1) := by decide +kernel
theorem dB_setNext_64 : decode cB_setNext 64 = .ok (.iinc 4 1, 3) := by decide +kernel
theorem dB_setNext_67 : decode cB_setNext 67 = .ok (.goto (-34), 3) := by decide +kernel
theorem dB_setNext_70 : decode cB_setNext 70 = .ok (.iinc 3 1, 3) := by decide +kernel
theorem dB_setNext_73 : decode cB_setNext 73 = .ok (.goto (-54), 3) := by decide +kernel
theorem dB_setNext_76 : decode cB_setNext 76 = .ok (.return_, 1) := by decide +kernel
abbrev cG_clear : ByteArray := prog_5_method_5_code
def yG_clear : MethodName := ⟨"WordChecker$Gates", "clear", "([J)V"⟩
theorem calG_clear : CalS gT yG_clear cG_clear 2 none 1 := ⟨⟨gT_1 (i := 523) (by decide +kernel) rfl, gT_1 (i := 4) (by decide +kernel) rfl, by decide +kernel⟩, gT_1 (i := 522) (by decide +kernel) rfl⟩
theorem dG_clear_0 : decode cG_clear 0 = .ok (.iconst 0, 1) := by decide +kernel
theorem dG_clear_1 : decode cG_clear 1 = .ok (.istore_n 1, 1) := by decide +kernel
theorem dG_clear_2 : decode cG_clear 2 = .ok (.iload_n 1, 1) := by decide +kernel
theorem dG_clear_3 : decode cG_clear 3 = .ok (.aload_n 0, 1) := by decide +kernel
theorem dG_clear_4 : decode cG_clear 4 = .ok (.arraylength, 1) := by decide +kernel
theorem dG_clear_5 : decode cG_clear 5 = .ok (.if_icmp .ge 13, 3) := by decide +kernel
theorem dG_clear_8 : decode cG_clear 8 = .ok (.aload_n 0, 1) := by decide +kernel
theorem dG_clear_9 : decode cG_clear 9 = .ok (.iload_n 1, 1) := by decide +kernel
theorem dG_clear_10 : decode cG_clear 10 = .ok (.lconst 0, 1) := by decide +kernel
theorem dG_clear_11 : decode cG_clear 11 = .ok (.lastore, 1) := by decide +kernel
theorem dG_clear_12 : decode cG_clear 12 = .ok (.iinc 1 1, 3) := by decide +kernel
theorem dG_clear_15 : decode cG_clear 15 = .ok (.goto (-13), 3) := by decide +kernel
theorem dG_clear_18 : decode cG_clear 18 = .ok (.return_, 1) := by decide +kernel
abbrev cG_choose : ByteArray := prog_5_method_6_code
def yG_choose : MethodName := ⟨"WordChecker$Gates", "choose", "(JJJ)J"⟩
theorem calG_choose : CalS gT yG_choose cG_choose 6 (some .long) 3 := ⟨⟨gT_1 (i := 550) (by decide +kernel) rfl, gT_1 (i := 4) (by decide +kernel) rfl, by decide +kernel⟩, gT_1 (i := 549) (by decide +kernel) rfl⟩
theorem dG_choose_0 : decode cG_choose 0 = .ok (.lload_n 0, 1) := by decide +kernel
theorem dG_choose_1 : decode cG_choose 1 = .ok (.lload_n 2, 1) := by decide +kernel
theorem dG_choose_2 : decode cG_choose 2 = .ok (.land, 1) := by decide +kernel
theorem dG_choose_3 : decode cG_choose 3 = .ok (.lload_n 0, 1) := by decide +kernel
theorem dG_choose_4 : decode cG_choose 4 = .ok (.ldc2_w 81, 3) := by decide +kernel
theorem dG_choose_7 : decode cG_choose 7 = .ok (.lxor, 1) := by decide +kernel
theorem dG_choose_8 : decode cG_choose 8 = .ok (.lload 4, 2) := by decide +kernel
theorem dG_choose_10 : decode cG_choose 10 = .ok (.land, 1) := by decide +kernel
theorem dG_choose_11 : decode cG_choose 11 = .ok (.lor, 1) := by decide +kernel
theorem dG_choose_12 : decode cG_choose 12 = .ok (.lreturn, 1) := by decide +kernel
abbrev cG_arrange : ByteArray := prog_5_method_17_code
def yG_arrange : MethodName := ⟨"WordChecker$Gates", "arrange", "(LWordChecker$Kind;)V"⟩
theorem calG_arrange : CalV gT yG_arrange cG_arrange 4 none 1 := ⟨⟨gT_1 (i := 570) (by decide +kernel) rfl, gT_1 (i := 4) (by decide +kernel) rfl, by decide +kernel⟩, gT_1 (i := 569) (by decide +kernel) rfl, gT_s (q := (yG_arrange, 9)) (by decide +kernel)⟩
theorem dG_arrange_0 : decode cG_arrange 0 = .ok (.aload_n 0, 1) := by decide +kernel
theorem dG_arrange_1 : decode cG_arrange 1 = .ok (.getfield 40, 3) := by decide +kernel
theorem dG_arrange_4 : decode cG_arrange 4 = .ok (.iconst 2, 1) := by decide +kernel
theorem dG_arrange_5 : decode cG_arrange 5 = .ok (.idiv, 1) := by decide +kernel
theorem dG_arrange_6 : decode cG_arrange 6 = .ok (.istore_n 2, 1) := by decide +kernel
theorem dG_arrange_7 : decode cG_arrange 7 = .ok (.iconst 0, 1) := by decide +kernel
theorem dG_arrange_8 : decode cG_arrange 8 = .ok (.istore_n 3, 1) := by decide +kernel
theorem dG_arrange_9 : decode cG_arrange 9 = .ok (.iload_n 3, 1) := by decide +kernel
theorem dG_arrange_10 : decode cG_arrange 10 = .ok (.aload_n 0, 1) := by decide +kernel
theorem dG_arrange_11 : decode cG_arrange 11 = .ok (.getfield 40, 3) := by decide +kernel
theorem dG_arrange_14 : decode cG_arrange 14 = .ok (.if_icmp .ge 242, 3) := by decide +kernel
theorem dG_arrange_17 : decode cG_arrange 17 = .ok (.getstatic 83, 3) := by decide +kernel
theorem dG_arrange_20 : decode cG_arrange 20 = .ok (.aload_n 1, 1) := by decide +kernel
theorem dG_arrange_21 : decode cG_arrange 21 = .ok (.invokevirtual 92, 3) := by decide +kernel
theorem dG_arrange_24 : decode cG_arrange 24 = .ok (.iaload, 1) := by decide +kernel
theorem dG_arrange_25 : decode cG_arrange 25 = .ok (.tableswitch 213 19 23 #[35, 213, 72, 117, 152], 35) := by decide +kernel
theorem dG_arrange_60 : decode cG_arrange 60 = .ok (.aload_n 0, 1) := by decide +kernel
theorem dG_arrange_61 : decode cG_arrange 61 = .ok (.getfield 21, 3) := by decide +kernel
theorem dG_arrange_64 : decode cG_arrange 64 = .ok (.iload_n 3, 1) := by decide +kernel
theorem dG_arrange_65 : decode cG_arrange 65 = .ok (.iload_n 3, 1) := by decide +kernel
theorem dG_arrange_66 : decode cG_arrange 66 = .ok (.aload_n 0, 1) := by decide +kernel
theorem dG_arrange_67 : decode cG_arrange 67 = .ok (.getfield 50, 3) := by decide +kernel
theorem dG_arrange_70 : decode cG_arrange 70 = .ok (.if_icmp .ge 12, 3) := by decide +kernel
theorem dG_arrange_73 : decode cG_arrange 73 = .ok (.aload_n 0, 1) := by decide +kernel
theorem dG_arrange_74 : decode cG_arrange 74 = .ok (.getfield 15, 3) := by decide +kernel
theorem dG_arrange_77 : decode cG_arrange 77 = .ok (.iload_n 3, 1) := by decide +kernel
theorem dG_arrange_78 : decode cG_arrange 78 = .ok (.laload, 1) := by decide +kernel
theorem dG_arrange_79 : decode cG_arrange 79 = .ok (.goto 14, 3) := by decide +kernel
theorem dG_arrange_82 : decode cG_arrange 82 = .ok (.aload_n 0, 1) := by decide +kernel
theorem dG_arrange_83 : decode cG_arrange 83 = .ok (.getfield 9, 3) := by decide +kernel
theorem dG_arrange_86 : decode cG_arrange 86 = .ok (.iload_n 3, 1) := by decide +kernel
theorem dG_arrange_87 : decode cG_arrange 87 = .ok (.aload_n 0, 1) := by decide +kernel
theorem dG_arrange_88 : decode cG_arrange 88 = .ok (.getfield 50, 3) := by decide +kernel
theorem dG_arrange_91 : decode cG_arrange 91 = .ok (.isub, 1) := by decide +kernel
theorem dG_arrange_92 : decode cG_arrange 92 = .ok (.laload, 1) := by decide +kernel
theorem dG_arrange_93 : decode cG_arrange 93 = .ok (.lastore, 1) := by decide +kernel
theorem dG_arrange_94 : decode cG_arrange 94 = .ok (.goto 156, 3) := by decide +kernel
theorem dG_arrange_97 : decode cG_arrange 97 = .ok (.aload_n 0, 1) := by decide +kernel
theorem dG_arrange_98 : decode cG_arrange 98 = .ok (.getfield 21, 3) := by decide +kernel
theorem dG_arrange_101 : decode cG_arrange 101 = .ok (.iload_n 3, 1) := by decide +kernel
theorem dG_arrange_102 : decode cG_arrange 102 = .ok (.iload_n 3, 1) := by decide +kernel
theorem dG_arrange_103 : decode cG_arrange 103 = .ok (.aload_n 0, 1) := by decide +kernel
theorem dG_arrange_104 : decode cG_arrange 104 = .ok (.getfield 47, 3) := by decide +kernel
theorem dG_arrange_107 : decode cG_arrange 107 = .ok (.if_icmp .lt 11, 3) := by decide +kernel
theorem dG_arrange_110 : decode cG_arrange 110 = .ok (.aload_n 0, 1) := by decide +kernel
theorem dG_arrange_111 : decode cG_arrange 111 = .ok (.getfield 47, 3) := by decide +kernel
theorem dG_arrange_114 : decode cG_arrange 114 = .ok (.iconst 1, 1) := by decide +kernel
theorem dG_arrange_115 : decode cG_arrange 115 = .ok (.if_icmp .ge 12, 3) := by decide +kernel
theorem dG_arrange_118 : decode cG_arrange 118 = .ok (.aload_n 0, 1) := by decide +kernel
theorem dG_arrange_119 : decode cG_arrange 119 = .ok (.getfield 9, 3) := by decide +kernel
theorem dG_arrange_122 : decode cG_arrange 122 = .ok (.iload_n 3, 1) := by decide +kernel
theorem dG_arrange_123 : decode cG_arrange 123 = .ok (.laload, 1) := by decide +kernel
theorem dG_arrange_124 : decode cG_arrange 124 = .ok (.goto 14, 3) := by decide +kernel
theorem dG_arrange_127 : decode cG_arrange 127 = .ok (.aload_n 0, 1) := by decide +kernel
theorem dG_arrange_128 : decode cG_arrange 128 = .ok (.getfield 9, 3) := by decide +kernel
theorem dG_arrange_131 : decode cG_arrange 131 = .ok (.aload_n 0, 1) := by decide +kernel
theorem dG_arrange_132 : decode cG_arrange 132 = .ok (.getfield 47, 3) := by decide +kernel
theorem dG_arrange_135 : decode cG_arrange 135 = .ok (.iconst 1, 1) := by decide +kernel
theorem dG_arrange_136 : decode cG_arrange 136 = .ok (.isub, 1) := by decide +kernel
theorem dG_arrange_137 : decode cG_arrange 137 = .ok (.laload, 1) := by decide +kernel
theorem dG_arrange_138 : decode cG_arrange 138 = .ok (.lastore, 1) := by decide +kernel
theorem dG_arrange_139 : decode cG_arrange 139 = .ok (.goto 111, 3) := by decide +kernel
theorem dG_arrange_142 : decode cG_arrange 142 = .ok (.aload_n 0, 1) := by decide +kernel
theorem dG_arrange_143 : decode cG_arrange 143 = .ok (.getfield 21, 3) := by decide +kernel
theorem dG_arrange_146 : decode cG_arrange 146 = .ok (.iload_n 3, 1) := by decide +kernel
theorem dG_arrange_147 : decode cG_arrange 147 = .ok (.aload_n 0, 1) := by decide +kernel
theorem dG_arrange_148 : decode cG_arrange 148 = .ok (.getfield 15, 3) := by decide +kernel
theorem dG_arrange_151 : decode cG_arrange 151 = .ok (.iconst 0, 1) := by decide +kernel
theorem dG_arrange_152 : decode cG_arrange 152 = .ok (.laload, 1) := by decide +kernel
theorem dG_arrange_153 : decode cG_arrange 153 = .ok (.aload_n 0, 1) := by decide +kernel
theorem dG_arrange_154 : decode cG_arrange 154 = .ok (.getfield 9, 3) := by decide +kernel
theorem dG_arrange_157 : decode cG_arrange 157 = .ok (.aload_n 0, 1) := by decide +kernel
theorem dG_arrange_158 : decode cG_arrange 158 = .ok (.getfield 40, 3) := by decide +kernel
theorem dG_arrange_161 : decode cG_arrange 161 = .ok (.iload_n 3, 1) := by decide +kernel
theorem dG_arrange_162 : decode cG_arrange 162 = .ok (.iadd, 1) := by decide +kernel
theorem dG_arrange_163 : decode cG_arrange 163 = .ok (.laload, 1) := by decide +kernel
theorem dG_arrange_164 : decode cG_arrange 164 = .ok (.aload_n 0, 1) := by decide +kernel
theorem dG_arrange_165 : decode cG_arrange 165 = .ok (.getfield 9, 3) := by decide +kernel
theorem dG_arrange_168 : decode cG_arrange 168 = .ok (.iload_n 3, 1) := by decide +kernel
theorem dG_arrange_169 : decode cG_arrange 169 = .ok (.laload, 1) := by decide +kernel
theorem dG_arrange_170 : decode cG_arrange 170 = .ok (.invokestatic 130, 3) := by decide +kernel
theorem dG_arrange_173 : decode cG_arrange 173 = .ok (.lastore, 1) := by decide +kernel
theorem dG_arrange_174 : decode cG_arrange 174 = .ok (.goto 76, 3) := by decide +kernel
theorem dG_arrange_177 : decode cG_arrange 177 = .ok (.aload_n 0, 1) := by decide +kernel
theorem dG_arrange_178 : decode cG_arrange 178 = .ok (.getfield 21, 3) := by decide +kernel
theorem dG_arrange_181 : decode cG_arrange 181 = .ok (.iload_n 3, 1) := by decide +kernel
theorem dG_arrange_182 : decode cG_arrange 182 = .ok (.iload_n 3, 1) := by decide +kernel
theorem dG_arrange_183 : decode cG_arrange 183 = .ok (.iload_n 2, 1) := by decide +kernel
theorem dG_arrange_184 : decode cG_arrange 184 = .ok (.if_icmp .ge 27, 3) := by decide +kernel
theorem dG_arrange_187 : decode cG_arrange 187 = .ok (.aload_n 0, 1) := by decide +kernel
theorem dG_arrange_188 : decode cG_arrange 188 = .ok (.getfield 15, 3) := by decide +kernel
theorem dG_arrange_191 : decode cG_arrange 191 = .ok (.iconst 0, 1) := by decide +kernel
theorem dG_arrange_192 : decode cG_arrange 192 = .ok (.laload, 1) := by decide +kernel
theorem dG_arrange_193 : decode cG_arrange 193 = .ok (.aload_n 0, 1) := by decide +kernel
theorem dG_arrange_194 : decode cG_arrange 194 = .ok (.getfield 9, 3) := by decide +kernel
theorem dG_arrange_197 : decode cG_arrange 197 = .ok (.iload_n 3, 1) := by decide +kernel
theorem dG_arrange_198 : decode cG_arrange 198 = .ok (.laload, 1) := by decide +kernel
theorem dG_arrange_199 : decode cG_arrange 199 = .ok (.aload_n 0, 1) := by decide +kernel
theorem dG_arrange_200 : decode cG_arrange 200 = .ok (.getfield 18, 3) := by decide +kernel
theorem dG_arrange_203 : decode cG_arrange 203 = .ok (.iload_n 3, 1) := by decide +kernel
theorem dG_arrange_204 : decode cG_arrange 204 = .ok (.laload, 1) := by decide +kernel
theorem dG_arrange_205 : decode cG_arrange 205 = .ok (.invokestatic 130, 3) := by decide +kernel
theorem dG_arrange_208 : decode cG_arrange 208 = .ok (.goto 26, 3) := by decide +kernel
theorem dG_arrange_211 : decode cG_arrange 211 = .ok (.aload_n 0, 1) := by decide +kernel
theorem dG_arrange_212 : decode cG_arrange 212 = .ok (.getfield 15, 3) := by decide +kernel
theorem dG_arrange_215 : decode cG_arrange 215 = .ok (.iconst 0, 1) := by decide +kernel
theorem dG_arrange_216 : decode cG_arrange 216 = .ok (.laload, 1) := by decide +kernel
theorem dG_arrange_217 : decode cG_arrange 217 = .ok (.aload_n 0, 1) := by decide +kernel
theorem dG_arrange_218 : decode cG_arrange 218 = .ok (.getfield 18, 3) := by decide +kernel
theorem dG_arrange_221 : decode cG_arrange 221 = .ok (.iload_n 3, 1) := by decide +kernel
theorem dG_arrange_222 : decode cG_arrange 222 = .ok (.iload_n 2, 1) := by decide +kernel
theorem dG_arrange_223 : decode cG_arrange 223 = .ok (.isub, 1) := by decide +kernel
theorem dG_arrange_224 : decode cG_arrange 224 = .ok (.laload, 1) := by decide +kernel
theorem dG_arrange_225 : decode cG_arrange 225 = .ok (.aload_n 0, 1) := by decide +kernel
theorem dG_arrange_226 : decode cG_arrange 226 = .ok (.getfield 9, 3) := by decide +kernel
theorem dG_arrange_229 : decode cG_arrange 229 = .ok (.iload_n 3, 1) := by decide +kernel
theorem dG_arrange_230 : decode cG_arrange 230 = .ok (.laload, 1) := by decide +kernel
theorem dG_arrange_231 : decode cG_arrange 231 = .ok (.invokestatic 130, 3) := by decide +kernel
theorem dG_arrange_234 : decode cG_arrange 234 = .ok (.lastore, 1) := by decide +kernel
theorem dG_arrange_235 : decode cG_arrange 235 = .ok (.goto 15, 3) := by decide +kernel
theorem dG_arrange_238 : decode cG_arrange 238 = .ok (.aload_n 0, 1) := by decide +kernel
theorem dG_arrange_239 : decode cG_arrange 239 = .ok (.getfield 21, 3) := by decide +kernel
theorem dG_arrange_242 : decode cG_arrange 242 = .ok (.iload_n 3, 1) := by decide +kernel
theorem dG_arrange_243 : decode cG_arrange 243 = .ok (.aload_n 0, 1) := by decide +kernel
theorem dG_arrange_244 : decode cG_arrange 244 = .ok (.getfield 9, 3) := by decide +kernel
theorem dG_arrange_247 : decode cG_arrange 247 = .ok (.iload_n 3, 1) := by decide +kernel
theorem dG_arrange_248 : decode cG_arrange 248 = .ok (.laload, 1) := by decide +kernel
theorem dG_arrange_249 : decode cG_arrange 249 = .ok (.lastore, 1) := by decide +kernel
theorem dG_arrange_250 : decode cG_arrange 250 = .ok (.iinc 3 1, 3) := by decide +kernel
theorem dG_arrange_253 : decode cG_arrange 253 = .ok (.goto (-244), 3) := by decide +kernel
theorem dG_arrange_256 : decode cG_arrange 256 = .ok (.return_, 1) := by decide +kernel
abbrev cG_below : ByteArray := prog_5_method_16_code
def yG_below : MethodName := ⟨"WordChecker$Gates", "below", "()J"⟩
theorem calG_below : CalV gT yG_below cG_below 4 (some .long) 0 := ⟨⟨gT_1 (i := 566) (by decide +kernel) rfl, gT_1 (i := 4) (by decide +kernel) rfl, by decide +kernel⟩, gT_1 (i := 565) (by decide +kernel) rfl, gT_s (q := (yG_below, 9)) (by decide +kernel)⟩
theorem dG_below_0 : decode cG_below 0 = .ok (.lconst 0, 1) := by decide +kernel
theorem dG_below_1 : decode cG_below 1 = .ok (.lstore_n 1, 1) := by decide +kernel
theorem dG_below_2 : decode cG_below 2 = .ok (.iconst 0, 1) := by decide +kernel
theorem dG_below_3 : decode cG_below 3 = .ok (.istore_n 3, 1) := by decide +kernel
theorem dG_below_4 : decode cG_below 4 = .ok (.iload_n 3, 1) := by decide +kernel
theorem dG_below_5 : decode cG_below 5 = .ok (.aload_n 0, 1) := by decide +kernel
theorem dG_below_6 : decode cG_below 6 = .ok (.getfield 47, 3) := by decide +kernel
theorem dG_below_9 : decode cG_below 9 = .ok (.if_icmp .ge 33, 3) := by decide +kernel
theorem dG_below_12 : decode cG_below 12 = .ok (.aload_n 0, 1) := by decide +kernel
theorem dG_below_13 : decode cG_below 13 = .ok (.getfield 9, 3) := by decide +kernel
theorem dG_below_16 : decode cG_below 16 = .ok (.iload_n 3, 1) := by decide +kernel
theorem dG_below_17 : decode cG_below 17 = .ok (.laload, 1) := by decide +kernel
theorem dG_below_18 : decode cG_below 18 = .ok (.aload_n 0, 1) := by decide +kernel
theorem dG_below_19 : decode cG_below 19 = .ok (.getfield 15, 3) := by decide +kernel
theorem dG_below_22 : decode cG_below 22 = .ok (.iload_n 3, 1) := by decide +kernel
theorem dG_below_23 : decode cG_below 23 = .ok (.laload, 1) := by decide +kernel
theorem dG_below_24 : decode cG_below 24 = .ok (.lxor, 1) := by decide +kernel
theorem dG_below_25 : decode cG_below 25 = .ok (.aload_n 0, 1) := by decide +kernel
theorem dG_below_26 : decode cG_below 26 = .ok (.getfield 15, 3) := by decide +kernel
theorem dG_below_29 : decode cG_below 29 = .ok (.iload_n 3, 1) := by decide +kernel
theorem dG_below_30 : decode cG_below 30 = .ok (.laload, 1) := by decide +kernel
theorem dG_below_31 : decode cG_below 31 = .ok (.lload_n 1, 1) := by decide +kernel
theorem dG_below_32 : decode cG_below 32 = .ok (.invokestatic 130, 3) := by decide +kernel
theorem dG_below_35 : decode cG_below 35 = .ok (.lstore_n 1, 1) := by decide +kernel
theorem dG_below_36 : decode cG_below 36 = .ok (.iinc 3 1, 3) := by decide +kernel
theorem dG_below_39 : decode cG_below 39 = .ok (.goto (-35), 3) := by decide +kernel
theorem dG_below_42 : decode cG_below 42 = .ok (.lload_n 1, 1) := by decide +kernel
theorem dG_below_43 : decode cG_below 43 = .ok (.lreturn, 1) := by decide +kernel
abbrev cG_equal : ByteArray := prog_5_method_14_code
def yG_equal : MethodName := ⟨"WordChecker$Gates", "equal", "()J"⟩
theorem calG_equal : CalV gT yG_equal cG_equal 4 (some .long) 0 := ⟨⟨gT_1 (i := 558) (by decide +kernel) rfl, gT_1 (i := 4) (by decide +kernel) rfl, by decide +kernel⟩, gT_1 (i := 557) (by decide +kernel) rfl, gT_s (q := (yG_equal, 9)) (by decide +kernel)⟩
theorem dG_equal_0 : decode cG_equal 0 = .ok (.ldc2_w 81, 3) := by decide +kernel
theorem dG_equal_3 : decode cG_equal 3 = .ok (.lstore_n 1, 1) := by decide +kernel
theorem dG_equal_4 : decode cG_equal 4 = .ok (.iconst 0, 1) := by decide +kernel
theorem dG_equal_5 : decode cG_equal 5 = .ok (.istore_n 3, 1) := by decide +kernel
theorem dG_equal_6 : decode cG_equal 6 = .ok (.iload_n 3, 1) := by decide +kernel
theorem dG_equal_7 : decode cG_equal 7 = .ok (.aload_n 0, 1) := by decide +kernel
theorem dG_equal_8 : decode cG_equal 8 = .ok (.getfield 47, 3) := by decide +kernel
theorem dG_equal_11 : decode cG_equal 11 = .ok (.if_icmp .ge 29, 3) := by decide +kernel
theorem dG_equal_14 : decode cG_equal 14 = .ok (.lload_n 1, 1) := by decide +kernel
theorem dG_equal_15 : decode cG_equal 15 = .ok (.aload_n 0, 1) := by decide +kernel
theorem dG_equal_16 : decode cG_equal 16 = .ok (.getfield 9, 3) := by decide +kernel
theorem dG_equal_19 : decode cG_equal 19 = .ok (.iload_n 3, 1) := by decide +kernel
theorem dG_equal_20 : decode cG_equal 20 = .ok (.laload, 1) := by decide +kernel
theorem dG_equal_21 : decode cG_equal 21 = .ok (.aload_n 0, 1) := by decide +kernel
theorem dG_equal_22 : decode cG_equal 22 = .ok (.getfield 15, 3) := by decide +kernel
theorem dG_equal_25 : decode cG_equal 25 = .ok (.iload_n 3, 1) := by decide +kernel
theorem dG_equal_26 : decode cG_equal 26 = .ok (.laload, 1) := by decide +kernel
theorem dG_equal_27 : decode cG_equal 27 = .ok (.lxor, 1) := by decide +kernel
theorem dG_equal_28 : decode cG_equal 28 = .ok (.ldc2_w 81, 3) := by decide +kernel
theorem dG_equal_31 : decode cG_equal 31 = .ok (.lxor, 1) := by decide +kernel
theorem dG_equal_32 : decode cG_equal 32 = .ok (.land, 1) := by decide +kernel
theorem dG_equal_33 : decode cG_equal 33 = .ok (.lstore_n 1, 1) := by decide +kernel
theorem dG_equal_34 : decode cG_equal 34 = .ok (.iinc 3 1, 3) := by decide +kernel
theorem dG_equal_37 : decode cG_equal 37 = .ok (.goto (-31), 3) := by decide +kernel
theorem dG_equal_40 : decode cG_equal 40 = .ok (.lload_n 1, 1) := by decide +kernel
theorem dG_equal_41 : decode cG_equal 41 = .ok (.lreturn, 1) := by decide +kernel
