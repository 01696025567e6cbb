abbrev cC_begin : ByteArray := prog_1_method_5_code
def yC_begin : MethodName := ⟨"WordChecker", "begin", "(I)V"⟩
theorem calC_begin : CalV gT yC_begin cC_begin 2 none 1 := ⟨⟨gT_1 (i := 618) (by decide +kernel) rfl, gT_1 (i := 1) (by decide +kernel) rfl, by decide +kernel⟩, gT_1 (i := 616) (by decide +kernel) rfl, gT_1 (i := 617) (by decide +kernel) rfl⟩
theorem dC_begin_0 : decode cC_begin 0 = .ok (.aload_n 0, 1) := by decide +kernel
theorem dC_begin_1 : decode cC_begin 1 = .ok (.iconst 1, 1) := by decide +kernel
theorem dC_begin_2 : decode cC_begin 2 = .ok (.putfield 63, 3) := by decide +kernel
theorem dC_begin_5 : decode cC_begin 5 = .ok (.aload_n 0, 1) := by decide +kernel
theorem dC_begin_6 : decode cC_begin 6 = .ok (.aload_n 0, 1) := by decide +kernel
theorem dC_begin_7 : decode cC_begin 7 = .ok (.getfield 19, 3) := by decide +kernel
theorem dC_begin_10 : decode cC_begin 10 = .ok (.iload_n 1, 1) := by decide +kernel
theorem dC_begin_11 : decode cC_begin 11 = .ok (.invokevirtual 73, 3) := by decide +kernel
theorem dC_begin_14 : decode cC_begin 14 = .ok (.putfield 77, 3) := by decide +kernel
theorem dC_begin_17 : decode cC_begin 17 = .ok (.aload_n 0, 1) := by decide +kernel
theorem dC_begin_18 : decode cC_begin 18 = .ok (.iconst 0, 1) := by decide +kernel
theorem dC_begin_19 : decode cC_begin 19 = .ok (.putfield 80, 3) := by decide +kernel
theorem dC_begin_22 : decode cC_begin 22 = .ok (.return_, 1) := by decide +kernel
abbrev cC_feed : ByteArray := prog_1_method_6_code
def yC_feed : MethodName := ⟨"WordChecker", "feed", "(I)Z"⟩
theorem calC_feed : CalV gT yC_feed cC_feed 2 (some .boolean) 1 := ⟨⟨gT_1 (i := 627) (by decide +kernel) rfl, gT_1 (i := 1) (by decide +kernel) rfl, by decide +kernel⟩, gT_1 (i := 625) (by decide +kernel) rfl, gT_1 (i := 626) (by decide +kernel) rfl⟩
theorem dC_feed_0 : decode cC_feed 0 = .ok (.aload_n 0, 1) := by decide +kernel
theorem dC_feed_1 : decode cC_feed 1 = .ok (.getfield 63, 3) := by decide +kernel
theorem dC_feed_4 : decode cC_feed 4 = .ok (.ifCond .ne 5, 3) := by decide +kernel
theorem dC_feed_7 : decode cC_feed 7 = .ok (.iconst 0, 1) := by decide +kernel
theorem dC_feed_8 : decode cC_feed 8 = .ok (.ireturn, 1) := by decide +kernel
theorem dC_feed_9 : decode cC_feed 9 = .ok (.aload_n 0, 1) := by decide +kernel
theorem dC_feed_10 : decode cC_feed 10 = .ok (.iload_n 1, 1) := by decide +kernel
theorem dC_feed_11 : decode cC_feed 11 = .ok (.iconst 1, 1) := by decide +kernel
theorem dC_feed_12 : decode cC_feed 12 = .ok (.aload_n 0, 1) := by decide +kernel
theorem dC_feed_13 : decode cC_feed 13 = .ok (.getfield 19, 3) := by decide +kernel
theorem dC_feed_16 : decode cC_feed 16 = .ok (.getfield 83, 3) := by decide +kernel
theorem dC_feed_19 : decode cC_feed 19 = .ok (.ishl, 1) := by decide +kernel
theorem dC_feed_20 : decode cC_feed 20 = .ok (.iconst 1, 1) := by decide +kernel
theorem dC_feed_21 : decode cC_feed 21 = .ok (.isub, 1) := by decide +kernel
theorem dC_feed_22 : decode cC_feed 22 = .ok (.iand, 1) := by decide +kernel
theorem dC_feed_23 : decode cC_feed 23 = .ok (.putfield 80, 3) := by decide +kernel
theorem dC_feed_26 : decode cC_feed 26 = .ok (.iconst 1, 1) := by decide +kernel
theorem dC_feed_27 : decode cC_feed 27 = .ok (.ireturn, 1) := by decide +kernel
abbrev cB_after : ByteArray := prog_3_method_17_code
def yB_after : MethodName := ⟨"WordChecker$Book", "after", "(II)I"⟩
theorem calB_after : CalV gT yB_after cB_after 5 (some .int) 2 := ⟨⟨gT_1 (i := 635) (by decide +kernel) rfl, gT_1 (i := 3) (by decide +kernel) rfl, by decide +kernel⟩, gT_1 (i := 633) (by decide +kernel) rfl, gT_1 (i := 634) (by decide +kernel) rfl⟩
theorem dB_after_0 : decode cB_after 0 = .ok (.iconst 0, 1) := by decide +kernel
theorem dB_after_1 : decode cB_after 1 = .ok (.istore_n 3, 1) := by decide +kernel
theorem dB_after_2 : decode cB_after 2 = .ok (.iconst 0, 1) := by decide +kernel
theorem dB_after_3 : decode cB_after 3 = .ok (.istore 4, 2) := by decide +kernel
theorem dB_after_5 : decode cB_after 5 = .ok (.iload 4, 2) := by decide +kernel
theorem dB_after_7 : decode cB_after 7 = .ok (.aload_n 0, 1) := by decide +kernel
theorem dB_after_8 : decode cB_after 8 = .ok (.getfield 142, 3) := by decide +kernel
theorem dB_after_11 : decode cB_after 11 = .ok (.if_icmp .ge 34, 3) := by decide +kernel
theorem dB_after_14 : decode cB_after 14 = .ok (.aload_n 0, 1) := by decide +kernel
theorem dB_after_15 : decode cB_after 15 = .ok (.getfield 24, 3) := by decide +kernel
theorem dB_after_18 : decode cB_after 18 = .ok (.iload 4, 2) := by decide +kernel
theorem dB_after_20 : decode cB_after 20 = .ok (.iconst 4, 1) := by decide +kernel
theorem dB_after_21 : decode cB_after 21 = .ok (.imul, 1) := by decide +kernel
theorem dB_after_22 : decode cB_after 22 = .ok (.iload_n 2, 1) := by decide +kernel
theorem dB_after_23 : decode cB_after 23 = .ok (.iadd, 1) := by decide +kernel
theorem dB_after_24 : decode cB_after 24 = .ok (.laload, 1) := by decide +kernel
theorem dB_after_25 : decode cB_after 25 = .ok (.iload_n 1, 1) := by decide +kernel
theorem dB_after_26 : decode cB_after 26 = .ok (.invokestatic 138, 3) := by decide +kernel
theorem dB_after_29 : decode cB_after 29 = .ok (.ifCond .eq 10, 3) := by decide +kernel
theorem dB_after_32 : decode cB_after 32 = .ok (.iload_n 3, 1) := by decide +kernel
theorem dB_after_33 : decode cB_after 33 = .ok (.iconst 1, 1) := by decide +kernel
theorem dB_after_34 : decode cB_after 34 = .ok (.iload 4, 2) := by decide +kernel
theorem dB_after_36 : decode cB_after 36 = .ok (.ishl, 1) := by decide +kernel
theorem dB_after_37 : decode cB_after 37 = .ok (.ior, 1) := by decide +kernel
theorem dB_after_38 : decode cB_after 38 = .ok (.istore_n 3, 1) := by decide +kernel
theorem dB_after_39 : decode cB_after 39 = .ok (.iinc 4 1, 3) := by decide +kernel
theorem dB_after_42 : decode cB_after 42 = .ok (.goto (-37), 3) := by decide +kernel
theorem dB_after_45 : decode cB_after 45 = .ok (.iload_n 3, 1) := by decide +kernel
theorem dB_after_46 : decode cB_after 46 = .ok (.ireturn, 1) := by decide +kernel
abbrev cC_step : ByteArray := prog_1_method_7_code
def yC_step : MethodName := ⟨"WordChecker", "step", "()Z"⟩
theorem calC_step : CalV gT yC_step cC_step 1 (some .boolean) 0 := ⟨⟨gT_1 (i := 631) (by decide +kernel) rfl, gT_1 (i := 1) (by decide +kernel) rfl, by decide +kernel⟩, gT_1 (i := 629) (by decide +kernel) rfl, gT_1 (i := 630) (by decide +kernel) rfl⟩
theorem dC_step_0 : decode cC_step 0 = .ok (.aload_n 0, 1) := by decide +kernel
theorem dC_step_1 : decode cC_step 1 = .ok (.getfield 63, 3) := by decide +kernel
theorem dC_step_4 : decode cC_step 4 = .ok (.ifCond .ne 5, 3) := by decide +kernel
theorem dC_step_7 : decode cC_step 7 = .ok (.iconst 0, 1) := by decide +kernel
theorem dC_step_8 : decode cC_step 8 = .ok (.ireturn, 1) := by decide +kernel
theorem dC_step_9 : decode cC_step 9 = .ok (.aload_n 0, 1) := by decide +kernel
theorem dC_step_10 : decode cC_step 10 = .ok (.aload_n 0, 1) := by decide +kernel
theorem dC_step_11 : decode cC_step 11 = .ok (.getfield 19, 3) := by decide +kernel
theorem dC_step_14 : decode cC_step 14 = .ok (.aload_n 0, 1) := by decide +kernel
theorem dC_step_15 : decode cC_step 15 = .ok (.getfield 77, 3) := by decide +kernel
theorem dC_step_18 : decode cC_step 18 = .ok (.aload_n 0, 1) := by decide +kernel
theorem dC_step_19 : decode cC_step 19 = .ok (.getfield 80, 3) := by decide +kernel
theorem dC_step_22 : decode cC_step 22 = .ok (.invokevirtual 86, 3) := by decide +kernel
theorem dC_step_25 : decode cC_step 25 = .ok (.putfield 77, 3) := by decide +kernel
theorem dC_step_28 : decode cC_step 28 = .ok (.aload_n 0, 1) := by decide +kernel
theorem dC_step_29 : decode cC_step 29 = .ok (.iconst 0, 1) := by decide +kernel
theorem dC_step_30 : decode cC_step 30 = .ok (.putfield 80, 3) := by decide +kernel
theorem dC_step_33 : decode cC_step 33 = .ok (.iconst 1, 1) := by decide +kernel
theorem dC_step_34 : decode cC_step 34 = .ok (.ireturn, 1) := by decide +kernel
abbrev cL_valueAt : ByteArray := prog_7_method_2_code
def yL_valueAt : MethodName := ⟨"WordChecker$Line", "valueAt", "(II)I"⟩
theorem calL_valueAt : CalV gT yL_valueAt cL_valueAt 5 (some .int) 2 := ⟨⟨gT_1 (i := 648) (by decide +kernel) rfl, gT_1 (i := 5) (by decide +kernel) rfl, by decide +kernel⟩, gT_1 (i := 646) (by decide +kernel) rfl, gT_1 (i := 647) (by decide +kernel) rfl⟩
theorem dL_valueAt_0 : decode cL_valueAt 0 = .ok (.iconst 0, 1) := by decide +kernel
theorem dL_valueAt_1 : decode cL_valueAt 1 = .ok (.istore_n 3, 1) := by decide +kernel
theorem dL_valueAt_2 : decode cL_valueAt 2 = .ok (.iconst 0, 1) := by decide +kernel
theorem dL_valueAt_3 : decode cL_valueAt 3 = .ok (.istore 4, 2) := by decide +kernel
theorem dL_valueAt_5 : decode cL_valueAt 5 = .ok (.iload 4, 2) := by decide +kernel
theorem dL_valueAt_7 : decode cL_valueAt 7 = .ok (.aload_n 0, 1) := by decide +kernel
theorem dL_valueAt_8 : decode cL_valueAt 8 = .ok (.getfield 19, 3) := by decide +kernel
theorem dL_valueAt_11 : decode cL_valueAt 11 = .ok (.invokestatic 22, 3) := by decide +kernel
theorem dL_valueAt_14 : decode cL_valueAt 14 = .ok (.if_icmp .ge 34, 3) := by decide +kernel
theorem dL_valueAt_17 : decode cL_valueAt 17 = .ok (.aload_n 0, 1) := by decide +kernel
theorem dL_valueAt_18 : decode cL_valueAt 18 = .ok (.getfield 15, 3) := by decide +kernel
theorem dL_valueAt_21 : decode cL_valueAt 21 = .ok (.iload 4, 2) := by decide +kernel
theorem dL_valueAt_23 : decode cL_valueAt 23 = .ok (.iconst 4, 1) := by decide +kernel
theorem dL_valueAt_24 : decode cL_valueAt 24 = .ok (.imul, 1) := by decide +kernel
theorem dL_valueAt_25 : decode cL_valueAt 25 = .ok (.iload_n 2, 1) := by decide +kernel
theorem dL_valueAt_26 : decode cL_valueAt 26 = .ok (.iadd, 1) := by decide +kernel
theorem dL_valueAt_27 : decode cL_valueAt 27 = .ok (.laload, 1) := by decide +kernel
theorem dL_valueAt_28 : decode cL_valueAt 28 = .ok (.iload_n 1, 1) := by decide +kernel
theorem dL_valueAt_29 : decode cL_valueAt 29 = .ok (.invokestatic 26, 3) := by decide +kernel
theorem dL_valueAt_32 : decode cL_valueAt 32 = .ok (.ifCond .eq 10, 3) := by decide +kernel
theorem dL_valueAt_35 : decode cL_valueAt 35 = .ok (.iload_n 3, 1) := by decide +kernel
theorem dL_valueAt_36 : decode cL_valueAt 36 = .ok (.iconst 1, 1) := by decide +kernel
theorem dL_valueAt_37 : decode cL_valueAt 37 = .ok (.iload 4, 2) := by decide +kernel
theorem dL_valueAt_39 : decode cL_valueAt 39 = .ok (.ishl, 1) := by decide +kernel
theorem dL_valueAt_40 : decode cL_valueAt 40 = .ok (.ior, 1) := by decide +kernel
theorem dL_valueAt_41 : decode cL_valueAt 41 = .ok (.istore_n 3, 1) := by decide +kernel
theorem dL_valueAt_42 : decode cL_valueAt 42 = .ok (.iinc 4 1, 3) := by decide +kernel
theorem dL_valueAt_45 : decode cL_valueAt 45 = .ok (.goto (-40), 3) := by decide +kernel
theorem dL_valueAt_48 : decode cL_valueAt 48 = .ok (.iload_n 3, 1) := by decide +kernel
theorem dL_valueAt_49 : decode cL_valueAt 49 = .ok (.ireturn, 1) := by decide +kernel
abbrev cB_valueOf : ByteArray := prog_3_method_18_code
def yB_valueOf : MethodName := ⟨"WordChecker$Book", "valueOf", "(III)I"⟩
theorem calB_valueOf : CalV gT yB_valueOf cB_valueOf 5 (some .int) 3 := ⟨⟨gT_1 (i := 643) (by decide +kernel) rfl, gT_1 (i := 3) (by decide +kernel) rfl, by decide +kernel⟩, gT_1 (i := 641) (by decide +kernel) rfl, gT_1 (i := 642) (by decide +kernel) rfl⟩
theorem dB_valueOf_0 : decode cB_valueOf 0 = .ok (.aload_n 0, 1) := by decide +kernel
theorem dB_valueOf_1 : decode cB_valueOf 1 = .ok (.iload_n 1, 1) := by decide +kernel
theorem dB_valueOf_2 : decode cB_valueOf 2 = .ok (.invokevirtual 165, 3) := by decide +kernel
theorem dB_valueOf_5 : decode cB_valueOf 5 = .ok (.istore 4, 2) := by decide +kernel
theorem dB_valueOf_7 : decode cB_valueOf 7 = .ok (.iload 4, 2) := by decide +kernel
theorem dB_valueOf_9 : decode cB_valueOf 9 = .ok (.iconst (-1), 1) := by decide +kernel
theorem dB_valueOf_10 : decode cB_valueOf 10 = .ok (.if_icmp .ne 7, 3) := by decide +kernel
theorem dB_valueOf_13 : decode cB_valueOf 13 = .ok (.iconst (-1), 1) := by decide +kernel
theorem dB_valueOf_14 : decode cB_valueOf 14 = .ok (.goto 15, 3) := by decide +kernel
theorem dB_valueOf_17 : decode cB_valueOf 17 = .ok (.aload_n 0, 1) := by decide +kernel
theorem dB_valueOf_18 : decode cB_valueOf 18 = .ok (.getfield 11, 3) := by decide +kernel
theorem dB_valueOf_21 : decode cB_valueOf 21 = .ok (.iload 4, 2) := by decide +kernel
theorem dB_valueOf_23 : decode cB_valueOf 23 = .ok (.aaload, 1) := by decide +kernel
theorem dB_valueOf_24 : decode cB_valueOf 24 = .ok (.iload_n 2, 1) := by decide +kernel
theorem dB_valueOf_25 : decode cB_valueOf 25 = .ok (.iload_n 3, 1) := by decide +kernel
theorem dB_valueOf_26 : decode cB_valueOf 26 = .ok (.invokevirtual 168, 3) := by decide +kernel
theorem dB_valueOf_29 : decode cB_valueOf 29 = .ok (.ireturn, 1) := by decide +kernel
abbrev cC_value : ByteArray := prog_1_method_8_code
def yC_value : MethodName := ⟨"WordChecker", "value", "(I)I"⟩
theorem calC_value : CalV gT yC_value cC_value 2 (some .int) 1 := ⟨⟨gT_1 (i := 639) (by decide +kernel) rfl, gT_1 (i := 1) (by decide +kernel) rfl, by decide +kernel⟩, gT_1 (i := 637) (by decide +kernel) rfl, gT_1 (i := 638) (by decide +kernel) rfl⟩
theorem dC_value_0 : decode cC_value 0 = .ok (.aload_n 0, 1) := by decide +kernel
theorem dC_value_1 : decode cC_value 1 = .ok (.getfield 63, 3) := by decide +kernel
theorem dC_value_4 : decode cC_value 4 = .ok (.ifCond .eq 22, 3) := by decide +kernel
theorem dC_value_7 : decode cC_value 7 = .ok (.aload_n 0, 1) := by decide +kernel
theorem dC_value_8 : decode cC_value 8 = .ok (.getfield 19, 3) := by decide +kernel
theorem dC_value_11 : decode cC_value 11 = .ok (.iload_n 1, 1) := by decide +kernel
theorem dC_value_12 : decode cC_value 12 = .ok (.aload_n 0, 1) := by decide +kernel
theorem dC_value_13 : decode cC_value 13 = .ok (.getfield 77, 3) := by decide +kernel
theorem dC_value_16 : decode cC_value 16 = .ok (.aload_n 0, 1) := by decide +kernel
theorem dC_value_17 : decode cC_value 17 = .ok (.getfield 80, 3) := by decide +kernel
theorem dC_value_20 : decode cC_value 20 = .ok (.invokevirtual 90, 3) := by decide +kernel
theorem dC_value_23 : decode cC_value 23 = .ok (.goto 4, 3) := by decide +kernel
theorem dC_value_26 : decode cC_value 26 = .ok (.iconst (-1), 1) := by decide +kernel
theorem dC_value_27 : decode cC_value 27 = .ok (.ireturn, 1) := by decide +kernel
abbrev cB_leastOf : ByteArray := prog_3_method_19_code
def yB_leastOf : MethodName := ⟨"WordChecker$Book", "leastOf", "(J)I"⟩
theorem calB_leastOf : CalV gT yB_leastOf cB_leastOf 11 (some .int) 1 := ⟨⟨gT_1 (i := 677) (by decide +kernel) rfl, gT_1 (i := 3) (by decide +kernel) rfl, by decide +kernel⟩, gT_1 (i := 675) (by decide +kernel) rfl, gT_1 (i := 676) (by decide +kernel) rfl⟩
theorem dB_leastOf_0 : decode cB_leastOf 0 = .ok (.lload_n 1, 1) := by decide +kernel
theorem dB_leastOf_1 : decode cB_leastOf 1 = .ok (.lstore_n 3, 1) := by decide +kernel
theorem dB_leastOf_2 : decode cB_leastOf 2 = .ok (.iconst 0, 1) := by decide +kernel
theorem dB_leastOf_3 : decode cB_leastOf 3 = .ok (.istore 5, 2) := by decide +kernel
theorem dB_leastOf_5 : decode cB_leastOf 5 = .ok (.iconst 0, 1) := by decide +kernel
theorem dB_leastOf_6 : decode cB_leastOf 6 = .ok (.istore 6, 2) := by decide +kernel
theorem dB_leastOf_8 : decode cB_leastOf 8 = .ok (.iload 6, 2) := by decide +kernel
theorem dB_leastOf_10 : decode cB_leastOf 10 = .ok (.aload_n 0, 1) := by decide +kernel
theorem dB_leastOf_11 : decode cB_leastOf 11 = .ok (.getfield 37, 3) := by decide +kernel
theorem dB_leastOf_14 : decode cB_leastOf 14 = .ok (.if_icmp .ge 140, 3) := by decide +kernel
theorem dB_leastOf_17 : decode cB_leastOf 17 = .ok (.aload_n 0, 1) := by decide +kernel
theorem dB_leastOf_18 : decode cB_leastOf 18 = .ok (.getfield 11, 3) := by decide +kernel
theorem dB_leastOf_21 : decode cB_leastOf 21 = .ok (.iload 6, 2) := by decide +kernel
theorem dB_leastOf_23 : decode cB_leastOf 23 = .ok (.aaload, 1) := by decide +kernel
theorem dB_leastOf_24 : decode cB_leastOf 24 = .ok (.getfield 48, 3) := by decide +kernel
theorem dB_leastOf_27 : decode cB_leastOf 27 = .ok (.getstatic 162, 3) := by decide +kernel
theorem dB_leastOf_30 : decode cB_leastOf 30 = .ok (.if_acmp .ne 118, 3) := by decide +kernel
theorem dB_leastOf_33 : decode cB_leastOf 33 = .ok (.aload_n 0, 1) := by decide +kernel
theorem dB_leastOf_34 : decode cB_leastOf 34 = .ok (.getfield 11, 3) := by decide +kernel
theorem dB_leastOf_37 : decode cB_leastOf 37 = .ok (.iload 6, 2) := by decide +kernel
theorem dB_leastOf_39 : decode cB_leastOf 39 = .ok (.aaload, 1) := by decide +kernel
theorem dB_leastOf_40 : decode cB_leastOf 40 = .ok (.getfield 61, 3) := by decide +kernel
theorem dB_leastOf_43 : decode cB_leastOf 43 = .ok (.invokestatic 132, 3) := by decide +kernel
theorem dB_leastOf_46 : decode cB_leastOf 46 = .ok (.iconst 1, 1) := by decide +kernel
theorem dB_leastOf_47 : decode cB_leastOf 47 = .ok (.isub, 1) := by decide +kernel
theorem dB_leastOf_48 : decode cB_leastOf 48 = .ok (.istore 7, 2) := by decide +kernel
theorem dB_leastOf_50 : decode cB_leastOf 50 = .ok (.iload 7, 2) := by decide +kernel
theorem dB_leastOf_52 : decode cB_leastOf 52 = .ok (.ifCond .lt 96, 3) := by decide +kernel
theorem dB_leastOf_55 : decode cB_leastOf 55 = .ok (.getstatic 145, 3) := by decide +kernel
theorem dB_leastOf_58 : decode cB_leastOf 58 = .ok (.aload_n 0, 1) := by decide +kernel
theorem dB_leastOf_59 : decode cB_leastOf 59 = .ok (.getfield 11, 3) := by decide +kernel
theorem dB_leastOf_62 : decode cB_leastOf 62 = .ok (.iload 6, 2) := by decide +kernel
theorem dB_leastOf_64 : decode cB_leastOf 64 = .ok (.aaload, 1) := by decide +kernel
theorem dB_leastOf_65 : decode cB_leastOf 65 = .ok (.getfield 129, 3) := by decide +kernel
theorem dB_leastOf_68 : decode cB_leastOf 68 = .ok (.iload 7, 2) := by decide +kernel
theorem dB_leastOf_70 : decode cB_leastOf 70 = .ok (.iadd, 1) := by decide +kernel
theorem dB_leastOf_71 : decode cB_leastOf 71 = .ok (.laload, 1) := by decide +kernel
theorem dB_leastOf_72 : decode cB_leastOf 72 = .ok (.lstore 8, 2) := by decide +kernel
theorem dB_leastOf_74 : decode cB_leastOf 74 = .ok (.lload_n 3, 1) := by decide +kernel
theorem dB_leastOf_75 : decode cB_leastOf 75 = .ok (.lload 8, 2) := by decide +kernel
theorem dB_leastOf_77 : decode cB_leastOf 77 = .ok (.ldc2_w 35, 3) := by decide +kernel
theorem dB_leastOf_80 : decode cB_leastOf 80 = .ok (.lxor, 1) := by decide +kernel
theorem dB_leastOf_81 : decode cB_leastOf 81 = .ok (.land, 1) := by decide +kernel
theorem dB_leastOf_82 : decode cB_leastOf 82 = .ok (.lconst 0, 1) := by decide +kernel
theorem dB_leastOf_83 : decode cB_leastOf 83 = .ok (.lcmp, 1) := by decide +kernel
theorem dB_leastOf_84 : decode cB_leastOf 84 = .ok (.ifCond .eq 7, 3) := by decide +kernel
theorem dB_leastOf_87 : decode cB_leastOf 87 = .ok (.iconst 1, 1) := by decide +kernel
theorem dB_leastOf_88 : decode cB_leastOf 88 = .ok (.goto 4, 3) := by decide +kernel
theorem dB_leastOf_91 : decode cB_leastOf 91 = .ok (.iconst 0, 1) := by decide +kernel
theorem dB_leastOf_92 : decode cB_leastOf 92 = .ok (.istore 10, 2) := by decide +kernel
theorem dB_leastOf_94 : decode cB_leastOf 94 = .ok (.lload_n 3, 1) := by decide +kernel
theorem dB_leastOf_95 : decode cB_leastOf 95 = .ok (.iload 10, 2) := by decide +kernel
theorem dB_leastOf_97 : decode cB_leastOf 97 = .ok (.ifCond .eq 12, 3) := by decide +kernel
theorem dB_leastOf_100 : decode cB_leastOf 100 = .ok (.lload 8, 2) := by decide +kernel
theorem dB_leastOf_102 : decode cB_leastOf 102 = .ok (.ldc2_w 35, 3) := by decide +kernel
theorem dB_leastOf_105 : decode cB_leastOf 105 = .ok (.lxor, 1) := by decide +kernel
theorem dB_leastOf_106 : decode cB_leastOf 106 = .ok (.goto 5, 3) := by decide +kernel
theorem dB_leastOf_109 : decode cB_leastOf 109 = .ok (.lload 8, 2) := by decide +kernel
theorem dB_leastOf_111 : decode cB_leastOf 111 = .ok (.land, 1) := by decide +kernel
theorem dB_leastOf_112 : decode cB_leastOf 112 = .ok (.lstore_n 3, 1) := by decide +kernel
theorem dB_leastOf_113 : decode cB_leastOf 113 = .ok (.iload 5, 2) := by decide +kernel
theorem dB_leastOf_115 : decode cB_leastOf 115 = .ok (.iload 10, 2) := by decide +kernel
theorem dB_leastOf_117 : decode cB_leastOf 117 = .ok (.ifCond .eq 7, 3) := by decide +kernel
theorem dB_leastOf_120 : decode cB_leastOf 120 = .ok (.iconst 0, 1) := by decide +kernel
theorem dB_leastOf_121 : decode cB_leastOf 121 = .ok (.goto 18, 3) := by decide +kernel
theorem dB_leastOf_124 : decode cB_leastOf 124 = .ok (.iconst 1, 1) := by decide +kernel
theorem dB_leastOf_125 : decode cB_leastOf 125 = .ok (.aload_n 0, 1) := by decide +kernel
theorem dB_leastOf_126 : decode cB_leastOf 126 = .ok (.getfield 11, 3) := by decide +kernel
theorem dB_leastOf_129 : decode cB_leastOf 129 = .ok (.iload 6, 2) := by decide +kernel
theorem dB_leastOf_131 : decode cB_leastOf 131 = .ok (.aaload, 1) := by decide +kernel
theorem dB_leastOf_132 : decode cB_leastOf 132 = .ok (.getfield 129, 3) := by decide +kernel
theorem dB_leastOf_135 : decode cB_leastOf 135 = .ok (.iload 7, 2) := by decide +kernel
theorem dB_leastOf_137 : decode cB_leastOf 137 = .ok (.iadd, 1) := by decide +kernel
theorem dB_leastOf_138 : decode cB_leastOf 138 = .ok (.ishl, 1) := by decide +kernel
theorem dB_leastOf_139 : decode cB_leastOf 139 = .ok (.ior, 1) := by decide +kernel
theorem dB_leastOf_140 : decode cB_leastOf 140 = .ok (.istore 5, 2) := by decide +kernel
theorem dB_leastOf_142 : decode cB_leastOf 142 = .ok (.iinc 7 (-1), 3) := by decide +kernel
theorem dB_leastOf_145 : decode cB_leastOf 145 = .ok (.goto (-95), 3) := by decide +kernel
theorem dB_leastOf_148 : decode cB_leastOf 148 = .ok (.iinc 6 1, 3) := by decide +kernel
theorem dB_leastOf_151 : decode cB_leastOf 151 = .ok (.goto (-143), 3) := by decide +kernel
theorem dB_leastOf_154 : decode cB_leastOf 154 = .ok (.iload 5, 2) := by decide +kernel
theorem dB_leastOf_156 : decode cB_leastOf 156 = .ok (.ireturn, 1) := by decide +kernel
abbrev cB_starts : ByteArray := prog_3_method_16_code
def yB_starts : MethodName := ⟨"WordChecker$Book", "starts", "()J"⟩
theorem calB_starts : CalV gT yB_starts cB_starts 8 (some .long) 0 := ⟨⟨gT_1 (i := 663) (by decide +kernel) rfl, gT_1 (i := 3) (by decide +kernel) rfl, by decide +kernel⟩, gT_1 (i := 661) (by decide +kernel) rfl, gT_1 (i := 662) (by decide +kernel) rfl⟩
theorem dB_starts_0 : decode cB_starts 0 = .ok (.ldc2_w 35, 3) := by decide +kernel
theorem dB_starts_3 : decode cB_starts 3 = .ok (.lstore_n 1, 1) := by decide +kernel
theorem dB_starts_4 : decode cB_starts 4 = .ok (.iconst 0, 1) := by decide +kernel
theorem dB_starts_5 : decode cB_starts 5 = .ok (.istore_n 3, 1) := by decide +kernel
theorem dB_starts_6 : decode cB_starts 6 = .ok (.iload_n 3, 1) := by decide +kernel
theorem dB_starts_7 : decode cB_starts 7 = .ok (.aload_n 0, 1) := by decide +kernel
theorem dB_starts_8 : decode cB_starts 8 = .ok (.getfield 37, 3) := by decide +kernel
theorem dB_starts_11 : decode cB_starts 11 = .ok (.if_icmp .ge 101, 3) := by decide +kernel
theorem dB_starts_14 : decode cB_starts 14 = .ok (.aload_n 0, 1) := by decide +kernel
theorem dB_starts_15 : decode cB_starts 15 = .ok (.getfield 11, 3) := by decide +kernel
theorem dB_starts_18 : decode cB_starts 18 = .ok (.iload_n 3, 1) := by decide +kernel
theorem dB_starts_19 : decode cB_starts 19 = .ok (.aaload, 1) := by decide +kernel
theorem dB_starts_20 : decode cB_starts 20 = .ok (.astore 4, 2) := by decide +kernel
theorem dB_starts_22 : decode cB_starts 22 = .ok (.aload 4, 2) := by decide +kernel
theorem dB_starts_24 : decode cB_starts 24 = .ok (.getfield 48, 3) := by decide +kernel
theorem dB_starts_27 : decode cB_starts 27 = .ok (.getstatic 162, 3) := by decide +kernel
theorem dB_starts_30 : decode cB_starts 30 = .ok (.if_acmp .ne 76, 3) := by decide +kernel
theorem dB_starts_33 : decode cB_starts 33 = .ok (.aload 4, 2) := by decide +kernel
theorem dB_starts_35 : decode cB_starts 35 = .ok (.getfield 156, 3) := by decide +kernel
theorem dB_starts_38 : decode cB_starts 38 = .ok (.iconst (-1), 1) := by decide +kernel
theorem dB_starts_39 : decode cB_starts 39 = .ok (.if_icmp .eq 67, 3) := by decide +kernel
theorem dB_starts_42 : decode cB_starts 42 = .ok (.iconst 0, 1) := by decide +kernel
theorem dB_starts_43 : decode cB_starts 43 = .ok (.istore 5, 2) := by decide +kernel
theorem dB_starts_45 : decode cB_starts 45 = .ok (.iload 5, 2) := by decide +kernel
theorem dB_starts_47 : decode cB_starts 47 = .ok (.aload 4, 2) := by decide +kernel
theorem dB_starts_49 : decode cB_starts 49 = .ok (.getfield 61, 3) := by decide +kernel
theorem dB_starts_52 : decode cB_starts 52 = .ok (.invokestatic 132, 3) := by decide +kernel
theorem dB_starts_55 : decode cB_starts 55 = .ok (.if_icmp .ge 51, 3) := by decide +kernel
theorem dB_starts_58 : decode cB_starts 58 = .ok (.getstatic 145, 3) := by decide +kernel
theorem dB_starts_61 : decode cB_starts 61 = .ok (.aload 4, 2) := by decide +kernel
theorem dB_starts_63 : decode cB_starts 63 = .ok (.getfield 129, 3) := by decide +kernel
theorem dB_starts_66 : decode cB_starts 66 = .ok (.iload 5, 2) := by decide +kernel
theorem dB_starts_68 : decode cB_starts 68 = .ok (.iadd, 1) := by decide +kernel
theorem dB_starts_69 : decode cB_starts 69 = .ok (.laload, 1) := by decide +kernel
theorem dB_starts_70 : decode cB_starts 70 = .ok (.lstore 6, 2) := by decide +kernel
theorem dB_starts_72 : decode cB_starts 72 = .ok (.lload_n 1, 1) := by decide +kernel
theorem dB_starts_73 : decode cB_starts 73 = .ok (.aload 4, 2) := by decide +kernel
theorem dB_starts_75 : decode cB_starts 75 = .ok (.getfield 156, 3) := by decide +kernel
theorem dB_starts_78 : decode cB_starts 78 = .ok (.i2l, 1) := by decide +kernel
theorem dB_starts_79 : decode cB_starts 79 = .ok (.iload 5, 2) := by decide +kernel
theorem dB_starts_81 : decode cB_starts 81 = .ok (.invokestatic 138, 3) := by decide +kernel
theorem dB_starts_84 : decode cB_starts 84 = .ok (.ifCond .eq 8, 3) := by decide +kernel
theorem dB_starts_87 : decode cB_starts 87 = .ok (.lload 6, 2) := by decide +kernel
theorem dB_starts_89 : decode cB_starts 89 = .ok (.goto 9, 3) := by decide +kernel
theorem dB_starts_92 : decode cB_starts 92 = .ok (.lload 6, 2) := by decide +kernel
theorem dB_starts_94 : decode cB_starts 94 = .ok (.ldc2_w 35, 3) := by decide +kernel
theorem dB_starts_97 : decode cB_starts 97 = .ok (.lxor, 1) := by decide +kernel
theorem dB_starts_98 : decode cB_starts 98 = .ok (.land, 1) := by decide +kernel
theorem dB_starts_99 : decode cB_starts 99 = .ok (.lstore_n 1, 1) := by decide +kernel
theorem dB_starts_100 : decode cB_starts 100 = .ok (.iinc 5 1, 3) := by decide +kernel
theorem dB_starts_103 : decode cB_starts 103 = .ok (.goto (-58), 3) := by decide +kernel
theorem dB_starts_106 : decode cB_starts 106 = .ok (.iinc 3 1, 3) := by decide +kernel
theorem dB_starts_109 : decode cB_starts 109 = .ok (.goto (-103), 3) := by decide +kernel
theorem dB_starts_112 : decode cB_starts 112 = .ok (.lload_n 1, 1) := by decide +kernel
theorem dB_starts_113 : decode cB_starts 113 = .ok (.lreturn, 1) := by decide +kernel
abbrev cS_leads : ByteArray := prog_8_method_5_code
def yS_leads : MethodName := ⟨"WordChecker$Search", "leads", "(III)Z"⟩
theorem calS_leads : CalV gT yS_leads cS_leads 4 (some .boolean) 3 := ⟨⟨gT_1 (i := 671) (by decide +kernel) rfl, gT_1 (i := 7) (by decide +kernel) rfl, by decide +kernel⟩, gT_1 (i := 670) (by decide +kernel) rfl, gT_s (q := (yS_leads, 5)) (by decide +kernel)⟩
theorem dS_leads_0 : decode cS_leads 0 = .ok (.aload_n 0, 1) := by decide +kernel
theorem dS_leads_1 : decode cS_leads 1 = .ok (.getfield 22, 3) := by decide +kernel
theorem dS_leads_4 : decode cS_leads 4 = .ok (.getfield 61, 3) := by decide +kernel
theorem dS_leads_7 : decode cS_leads 7 = .ok (.iload_n 2, 1) := by decide +kernel
theorem dS_leads_8 : decode cS_leads 8 = .ok (.laload, 1) := by decide +kernel
theorem dS_leads_9 : decode cS_leads 9 = .ok (.iload_n 1, 1) := by decide +kernel
theorem dS_leads_10 : decode cS_leads 10 = .ok (.invokestatic 64, 3) := by decide +kernel
theorem dS_leads_13 : decode cS_leads 13 = .ok (.ifCond .eq 28, 3) := by decide +kernel
theorem dS_leads_16 : decode cS_leads 16 = .ok (.aload_n 0, 1) := by decide +kernel
theorem dS_leads_17 : decode cS_leads 17 = .ok (.getfield 22, 3) := by decide +kernel
theorem dS_leads_20 : decode cS_leads 20 = .ok (.getfield 68, 3) := by decide +kernel
theorem dS_leads_23 : decode cS_leads 23 = .ok (.iload_n 2, 1) := by decide +kernel
theorem dS_leads_24 : decode cS_leads 24 = .ok (.laload, 1) := by decide +kernel
theorem dS_leads_25 : decode cS_leads 25 = .ok (.iload_n 1, 1) := by decide +kernel
theorem dS_leads_26 : decode cS_leads 26 = .ok (.invokestatic 64, 3) := by decide +kernel
theorem dS_leads_29 : decode cS_leads 29 = .ok (.iload_n 3, 1) := by decide +kernel
theorem dS_leads_30 : decode cS_leads 30 = .ok (.ifCond .ne 7, 3) := by decide +kernel
theorem dS_leads_33 : decode cS_leads 33 = .ok (.iconst 1, 1) := by decide +kernel
theorem dS_leads_34 : decode cS_leads 34 = .ok (.goto 4, 3) := by decide +kernel
theorem dS_leads_37 : decode cS_leads 37 = .ok (.iconst 0, 1) := by decide +kernel
theorem dS_leads_38 : decode cS_leads 38 = .ok (.if_icmp .eq 5, 3) := by decide +kernel
theorem dS_leads_41 : decode cS_leads 41 = .ok (.iconst 0, 1) := by decide +kernel
theorem dS_leads_42 : decode cS_leads 42 = .ok (.ireturn, 1) := by decide +kernel
theorem dS_leads_43 : decode cS_leads 43 = .ok (.iload_n 3, 1) := by decide +kernel
theorem dS_leads_44 : decode cS_leads 44 = .ok (.ifCond .eq 26, 3) := by decide +kernel
theorem dS_leads_47 : decode cS_leads 47 = .ok (.aload_n 0, 1) := by decide +kernel
theorem dS_leads_48 : decode cS_leads 48 = .ok (.getfield 9, 3) := by decide +kernel
theorem dS_leads_51 : decode cS_leads 51 = .ok (.iload_n 3, 1) := by decide +kernel
theorem dS_leads_52 : decode cS_leads 52 = .ok (.iconst 1, 1) := by decide +kernel
theorem dS_leads_53 : decode cS_leads 53 = .ok (.isub, 1) := by decide +kernel
theorem dS_leads_54 : decode cS_leads 54 = .ok (.laload, 1) := by decide +kernel
theorem dS_leads_55 : decode cS_leads 55 = .ok (.aload_n 0, 1) := by decide +kernel
theorem dS_leads_56 : decode cS_leads 56 = .ok (.getfield 22, 3) := by decide +kernel
theorem dS_leads_59 : decode cS_leads 59 = .ok (.iload_n 1, 1) := by decide +kernel
theorem dS_leads_60 : decode cS_leads 60 = .ok (.iload_n 2, 1) := by decide +kernel
theorem dS_leads_61 : decode cS_leads 61 = .ok (.invokevirtual 71, 3) := by decide +kernel
theorem dS_leads_64 : decode cS_leads 64 = .ok (.invokestatic 64, 3) := by decide +kernel
theorem dS_leads_67 : decode cS_leads 67 = .ok (.ifCond .eq 7, 3) := by decide +kernel
theorem dS_leads_70 : decode cS_leads 70 = .ok (.iconst 1, 1) := by decide +kernel
theorem dS_leads_71 : decode cS_leads 71 = .ok (.goto 4, 3) := by decide +kernel
theorem dS_leads_74 : decode cS_leads 74 = .ok (.iconst 0, 1) := by decide +kernel
theorem dS_leads_75 : decode cS_leads 75 = .ok (.ireturn, 1) := by decide +kernel
abbrev cS_gather : ByteArray := prog_8_method_4_code
def yS_gather : MethodName := ⟨"WordChecker$Search", "gather", "(I)V"⟩
theorem calS_gather : CalV gT yS_gather cS_gather 4 none 1 := ⟨⟨gT_1 (i := 667) (by decide +kernel) rfl, gT_1 (i := 7) (by decide +kernel) rfl, by decide +kernel⟩, gT_1 (i := 666) (by decide +kernel) rfl, gT_s (q := (yS_gather, 5)) (by decide +kernel)⟩
theorem dS_gather_0 : decode cS_gather 0 = .ok (.aload_n 0, 1) := by decide +kernel
theorem dS_gather_1 : decode cS_gather 1 = .ok (.getfield 9, 3) := by decide +kernel
theorem dS_gather_4 : decode cS_gather 4 = .ok (.iload_n 1, 1) := by decide +kernel
theorem dS_gather_5 : decode cS_gather 5 = .ok (.lconst 0, 1) := by decide +kernel
theorem dS_gather_6 : decode cS_gather 6 = .ok (.lastore, 1) := by decide +kernel
theorem dS_gather_7 : decode cS_gather 7 = .ok (.iconst 0, 1) := by decide +kernel
theorem dS_gather_8 : decode cS_gather 8 = .ok (.istore_n 2, 1) := by decide +kernel
theorem dS_gather_9 : decode cS_gather 9 = .ok (.iload_n 2, 1) := by decide +kernel
theorem dS_gather_10 : decode cS_gather 10 = .ok (.iconst 1, 1) := by decide +kernel
theorem dS_gather_11 : decode cS_gather 11 = .ok (.aload_n 0, 1) := by decide +kernel
theorem dS_gather_12 : decode cS_gather 12 = .ok (.getfield 22, 3) := by decide +kernel
theorem dS_gather_15 : decode cS_gather 15 = .ok (.getfield 51, 3) := by decide +kernel
theorem dS_gather_18 : decode cS_gather 18 = .ok (.ishl, 1) := by decide +kernel
theorem dS_gather_19 : decode cS_gather 19 = .ok (.if_icmp .ge 52, 3) := by decide +kernel
theorem dS_gather_22 : decode cS_gather 22 = .ok (.iconst 0, 1) := by decide +kernel
theorem dS_gather_23 : decode cS_gather 23 = .ok (.istore_n 3, 1) := by decide +kernel
theorem dS_gather_24 : decode cS_gather 24 = .ok (.iload_n 3, 1) := by decide +kernel
theorem dS_gather_25 : decode cS_gather 25 = .ok (.iconst 1, 1) := by decide +kernel
theorem dS_gather_26 : decode cS_gather 26 = .ok (.aload_n 0, 1) := by decide +kernel
theorem dS_gather_27 : decode cS_gather 27 = .ok (.getfield 22, 3) := by decide +kernel
theorem dS_gather_30 : decode cS_gather 30 = .ok (.getfield 54, 3) := by decide +kernel
theorem dS_gather_33 : decode cS_gather 33 = .ok (.ishl, 1) := by decide +kernel
theorem dS_gather_34 : decode cS_gather 34 = .ok (.if_icmp .ge 31, 3) := by decide +kernel
theorem dS_gather_37 : decode cS_gather 37 = .ok (.aload_n 0, 1) := by decide +kernel
theorem dS_gather_38 : decode cS_gather 38 = .ok (.iload_n 2, 1) := by decide +kernel
theorem dS_gather_39 : decode cS_gather 39 = .ok (.iload_n 3, 1) := by decide +kernel
theorem dS_gather_40 : decode cS_gather 40 = .ok (.iload_n 1, 1) := by decide +kernel
theorem dS_gather_41 : decode cS_gather 41 = .ok (.invokevirtual 57, 3) := by decide +kernel
theorem dS_gather_44 : decode cS_gather 44 = .ok (.ifCond .eq 15, 3) := by decide +kernel
theorem dS_gather_47 : decode cS_gather 47 = .ok (.aload_n 0, 1) := by decide +kernel
theorem dS_gather_48 : decode cS_gather 48 = .ok (.getfield 9, 3) := by decide +kernel
theorem dS_gather_51 : decode cS_gather 51 = .ok (.iload_n 1, 1) := by decide +kernel
theorem dS_gather_52 : decode cS_gather 52 = .ok (.dup2, 1) := by decide +kernel
theorem dS_gather_53 : decode cS_gather 53 = .ok (.laload, 1) := by decide +kernel
theorem dS_gather_54 : decode cS_gather 54 = .ok (.lconst 1, 1) := by decide +kernel
theorem dS_gather_55 : decode cS_gather 55 = .ok (.iload_n 2, 1) := by decide +kernel
theorem dS_gather_56 : decode cS_gather 56 = .ok (.lshl, 1) := by decide +kernel
theorem dS_gather_57 : decode cS_gather 57 = .ok (.lor, 1) := by decide +kernel
theorem dS_gather_58 : decode cS_gather 58 = .ok (.lastore, 1) := by decide +kernel
theorem dS_gather_59 : decode cS_gather 59 = .ok (.iinc 3 1, 3) := by decide +kernel
theorem dS_gather_62 : decode cS_gather 62 = .ok (.goto (-38), 3) := by decide +kernel
theorem dS_gather_65 : decode cS_gather 65 = .ok (.iinc 2 1, 3) := by decide +kernel
theorem dS_gather_68 : decode cS_gather 68 = .ok (.goto (-59), 3) := by decide +kernel
theorem dS_gather_71 : decode cS_gather 71 = .ok (.return_, 1) := by decide +kernel
abbrev cB_inputAt : ByteArray := prog_3_method_20_code
def yB_inputAt : MethodName := ⟨"WordChecker$Book", "inputAt", "(I)I"⟩
theorem calB_inputAt : CalV gT yB_inputAt cB_inputAt 6 (some .int) 1 := ⟨⟨gT_1 (i := 689) (by decide +kernel) rfl, gT_1 (i := 3) (by decide +kernel) rfl, by decide +kernel⟩, gT_1 (i := 687) (by decide +kernel) rfl, gT_1 (i := 688) (by decide +kernel) rfl⟩
theorem dB_inputAt_0 : decode cB_inputAt 0 = .ok (.iconst 0, 1) := by decide +kernel
theorem dB_inputAt_1 : decode cB_inputAt 1 = .ok (.istore_n 2, 1) := by decide +kernel
theorem dB_inputAt_2 : decode cB_inputAt 2 = .ok (.aload_n 0, 1) := by decide +kernel
theorem dB_inputAt_3 : decode cB_inputAt 3 = .ok (.getfield 126, 3) := by decide +kernel
theorem dB_inputAt_6 : decode cB_inputAt 6 = .ok (.istore_n 3, 1) := by decide +kernel
theorem dB_inputAt_7 : decode cB_inputAt 7 = .ok (.iconst 0, 1) := by decide +kernel
theorem dB_inputAt_8 : decode cB_inputAt 8 = .ok (.istore 4, 2) := by decide +kernel
theorem dB_inputAt_10 : decode cB_inputAt 10 = .ok (.iload 4, 2) := by decide +kernel
theorem dB_inputAt_12 : decode cB_inputAt 12 = .ok (.aload_n 0, 1) := by decide +kernel
theorem dB_inputAt_13 : decode cB_inputAt 13 = .ok (.getfield 37, 3) := by decide +kernel
theorem dB_inputAt_16 : decode cB_inputAt 16 = .ok (.if_icmp .ge 69, 3) := by decide +kernel
theorem dB_inputAt_19 : decode cB_inputAt 19 = .ok (.aload_n 0, 1) := by decide +kernel
theorem dB_inputAt_20 : decode cB_inputAt 20 = .ok (.getfield 11, 3) := by decide +kernel
theorem dB_inputAt_23 : decode cB_inputAt 23 = .ok (.iload 4, 2) := by decide +kernel
theorem dB_inputAt_25 : decode cB_inputAt 25 = .ok (.aaload, 1) := by decide +kernel
theorem dB_inputAt_26 : decode cB_inputAt 26 = .ok (.getfield 48, 3) := by decide +kernel
theorem dB_inputAt_29 : decode cB_inputAt 29 = .ok (.getstatic 172, 3) := by decide +kernel
theorem dB_inputAt_32 : decode cB_inputAt 32 = .ok (.if_acmp .ne 47, 3) := by decide +kernel
theorem dB_inputAt_35 : decode cB_inputAt 35 = .ok (.aload_n 0, 1) := by decide +kernel
theorem dB_inputAt_36 : decode cB_inputAt 36 = .ok (.getfield 11, 3) := by decide +kernel
theorem dB_inputAt_39 : decode cB_inputAt 39 = .ok (.iload 4, 2) := by decide +kernel
theorem dB_inputAt_41 : decode cB_inputAt 41 = .ok (.aaload, 1) := by decide +kernel
theorem dB_inputAt_42 : decode cB_inputAt 42 = .ok (.getfield 61, 3) := by decide +kernel
theorem dB_inputAt_45 : decode cB_inputAt 45 = .ok (.invokestatic 132, 3) := by decide +kernel
theorem dB_inputAt_48 : decode cB_inputAt 48 = .ok (.istore 5, 2) := by decide +kernel
theorem dB_inputAt_50 : decode cB_inputAt 50 = .ok (.iload_n 3, 1) := by decide +kernel
theorem dB_inputAt_51 : decode cB_inputAt 51 = .ok (.iload 5, 2) := by decide +kernel
theorem dB_inputAt_53 : decode cB_inputAt 53 = .ok (.isub, 1) := by decide +kernel
theorem dB_inputAt_54 : decode cB_inputAt 54 = .ok (.istore_n 3, 1) := by decide +kernel
theorem dB_inputAt_55 : decode cB_inputAt 55 = .ok (.iload_n 2, 1) := by decide +kernel
theorem dB_inputAt_56 : decode cB_inputAt 56 = .ok (.iload_n 1, 1) := by decide +kernel
theorem dB_inputAt_57 : decode cB_inputAt 57 = .ok (.iload_n 3, 1) := by decide +kernel
theorem dB_inputAt_58 : decode cB_inputAt 58 = .ok (.iushr, 1) := by decide +kernel
theorem dB_inputAt_59 : decode cB_inputAt 59 = .ok (.iconst 1, 1) := by decide +kernel
theorem dB_inputAt_60 : decode cB_inputAt 60 = .ok (.iload 5, 2) := by decide +kernel
theorem dB_inputAt_62 : decode cB_inputAt 62 = .ok (.ishl, 1) := by decide +kernel
theorem dB_inputAt_63 : decode cB_inputAt 63 = .ok (.iconst 1, 1) := by decide +kernel
theorem dB_inputAt_64 : decode cB_inputAt 64 = .ok (.isub, 1) := by decide +kernel
theorem dB_inputAt_65 : decode cB_inputAt 65 = .ok (.iand, 1) := by decide +kernel
theorem dB_inputAt_66 : decode cB_inputAt 66 = .ok (.aload_n 0, 1) := by decide +kernel
theorem dB_inputAt_67 : decode cB_inputAt 67 = .ok (.getfield 11, 3) := by decide +kernel
theorem dB_inputAt_70 : decode cB_inputAt 70 = .ok (.iload 4, 2) := by decide +kernel
theorem dB_inputAt_72 : decode cB_inputAt 72 = .ok (.aaload, 1) := by decide +kernel
theorem dB_inputAt_73 : decode cB_inputAt 73 = .ok (.getfield 129, 3) := by decide +kernel
theorem dB_inputAt_76 : decode cB_inputAt 76 = .ok (.ishl, 1) := by decide +kernel
theorem dB_inputAt_77 : decode cB_inputAt 77 = .ok (.ior, 1) := by decide +kernel
theorem dB_inputAt_78 : decode cB_inputAt 78 = .ok (.istore_n 2, 1) := by decide +kernel
theorem dB_inputAt_79 : decode cB_inputAt 79 = .ok (.iinc 4 1, 3) := by decide +kernel
theorem dB_inputAt_82 : decode cB_inputAt 82 = .ok (.goto (-72), 3) := by decide +kernel
theorem dB_inputAt_85 : decode cB_inputAt 85 = .ok (.iload_n 2, 1) := by decide +kernel
theorem dB_inputAt_86 : decode cB_inputAt 86 = .ok (.ireturn, 1) := by decide +kernel
abbrev cS_leastInput : ByteArray := prog_8_method_7_code
def yS_leastInput : MethodName := ⟨"WordChecker$Search", "leastInput", "(II)I"⟩
theorem calS_leastInput : CalV gT yS_leastInput cS_leastInput 5 (some .int) 2 := ⟨⟨gT_1 (i := 685) (by decide +kernel) rfl, gT_1 (i := 7) (by decide +kernel) rfl, by decide +kernel⟩, gT_1 (i := 684) (by decide +kernel) rfl, gT_s (q := (yS_leastInput, 5)) (by decide +kernel)⟩
theorem dS_leastInput_0 : decode cS_leastInput 0 = .ok (.iconst 0, 1) := by decide +kernel
theorem dS_leastInput_1 : decode cS_leastInput 1 = .ok (.istore_n 3, 1) := by decide +kernel
theorem dS_leastInput_2 : decode cS_leastInput 2 = .ok (.iload_n 3, 1) := by decide +kernel
theorem dS_leastInput_3 : decode cS_leastInput 3 = .ok (.iconst 1, 1) := by decide +kernel
theorem dS_leastInput_4 : decode cS_leastInput 4 = .ok (.aload_n 0, 1) := by decide +kernel
theorem dS_leastInput_5 : decode cS_leastInput 5 = .ok (.getfield 22, 3) := by decide +kernel
theorem dS_leastInput_8 : decode cS_leastInput 8 = .ok (.getfield 54, 3) := by decide +kernel
theorem dS_leastInput_11 : decode cS_leastInput 11 = .ok (.ishl, 1) := by decide +kernel
theorem dS_leastInput_12 : decode cS_leastInput 12 = .ok (.if_icmp .ge 33, 3) := by decide +kernel
theorem dS_leastInput_15 : decode cS_leastInput 15 = .ok (.aload_n 0, 1) := by decide +kernel
theorem dS_leastInput_16 : decode cS_leastInput 16 = .ok (.getfield 22, 3) := by decide +kernel
theorem dS_leastInput_19 : decode cS_leastInput 19 = .ok (.iload_n 3, 1) := by decide +kernel
theorem dS_leastInput_20 : decode cS_leastInput 20 = .ok (.invokevirtual 78, 3) := by decide +kernel
theorem dS_leastInput_23 : decode cS_leastInput 23 = .ok (.istore 4, 2) := by decide +kernel
theorem dS_leastInput_25 : decode cS_leastInput 25 = .ok (.aload_n 0, 1) := by decide +kernel
theorem dS_leastInput_26 : decode cS_leastInput 26 = .ok (.iload_n 1, 1) := by decide +kernel
theorem dS_leastInput_27 : decode cS_leastInput 27 = .ok (.iload 4, 2) := by decide +kernel
theorem dS_leastInput_29 : decode cS_leastInput 29 = .ok (.iload_n 2, 1) := by decide +kernel
theorem dS_leastInput_30 : decode cS_leastInput 30 = .ok (.invokevirtual 57, 3) := by decide +kernel
theorem dS_leastInput_33 : decode cS_leastInput 33 = .ok (.ifCond .eq 6, 3) := by decide +kernel
theorem dS_leastInput_36 : decode cS_leastInput 36 = .ok (.iload 4, 2) := by decide +kernel
theorem dS_leastInput_38 : decode cS_leastInput 38 = .ok (.ireturn, 1) := by decide +kernel
theorem dS_leastInput_39 : decode cS_leastInput 39 = .ok (.iinc 3 1, 3) := by decide +kernel
theorem dS_leastInput_42 : decode cS_leastInput 42 = .ok (.goto (-40), 3) := by decide +kernel
theorem dS_leastInput_45 : decode cS_leastInput 45 = .ok (.iconst 0, 1) := by decide +kernel
theorem dS_leastInput_46 : decode cS_leastInput 46 = .ok (.ireturn, 1) := by decide +kernel
abbrev cS_keep : ByteArray := prog_8_method_6_code
def yS_keep : MethodName := ⟨"WordChecker$Search", "keep", "(II)V"⟩
theorem calS_keep : CalV gT yS_keep cS_keep 5 none 2 := ⟨⟨gT_1 (i := 681) (by decide +kernel) rfl, gT_1 (i := 7) (by decide +kernel) rfl, by decide +kernel⟩, gT_1 (i := 680) (by decide +kernel) rfl, gT_s (q := (yS_keep, 5)) (by decide +kernel)⟩
theorem dS_keep_0 : decode cS_keep 0 = .ok (.iload_n 1, 1) := by decide +kernel
theorem dS_keep_1 : decode cS_keep 1 = .ok (.istore_n 3, 1) := by decide +kernel
theorem dS_keep_2 : decode cS_keep 2 = .ok (.iconst 0, 1) := by decide +kernel
theorem dS_keep_3 : decode cS_keep 3 = .ok (.istore 4, 2) := by decide +kernel
theorem dS_keep_5 : decode cS_keep 5 = .ok (.iload 4, 2) := by decide +kernel
theorem dS_keep_7 : decode cS_keep 7 = .ok (.iload_n 2, 1) := by decide +kernel
theorem dS_keep_8 : decode cS_keep 8 = .ok (.if_icmp .gt 49, 3) := by decide +kernel
theorem dS_keep_11 : decode cS_keep 11 = .ok (.aload_n 0, 1) := by decide +kernel
theorem dS_keep_12 : decode cS_keep 12 = .ok (.getfield 15, 3) := by decide +kernel
theorem dS_keep_15 : decode cS_keep 15 = .ok (.iload 4, 2) := by decide +kernel
theorem dS_keep_17 : decode cS_keep 17 = .ok (.iload_n 3, 1) := by decide +kernel
theorem dS_keep_18 : decode cS_keep 18 = .ok (.iastore, 1) := by decide +kernel
theorem dS_keep_19 : decode cS_keep 19 = .ok (.aload_n 0, 1) := by decide +kernel
theorem dS_keep_20 : decode cS_keep 20 = .ok (.getfield 19, 3) := by decide +kernel
theorem dS_keep_23 : decode cS_keep 23 = .ok (.iload 4, 2) := by decide +kernel
theorem dS_keep_25 : decode cS_keep 25 = .ok (.aload_n 0, 1) := by decide +kernel
theorem dS_keep_26 : decode cS_keep 26 = .ok (.iload_n 3, 1) := by decide +kernel
theorem dS_keep_27 : decode cS_keep 27 = .ok (.iload_n 2, 1) := by decide +kernel
theorem dS_keep_28 : decode cS_keep 28 = .ok (.iload 4, 2) := by decide +kernel
theorem dS_keep_30 : decode cS_keep 30 = .ok (.isub, 1) := by decide +kernel
theorem dS_keep_31 : decode cS_keep 31 = .ok (.invokevirtual 75, 3) := by decide +kernel
theorem dS_keep_34 : decode cS_keep 34 = .ok (.iastore, 1) := by decide +kernel
theorem dS_keep_35 : decode cS_keep 35 = .ok (.aload_n 0, 1) := by decide +kernel
theorem dS_keep_36 : decode cS_keep 36 = .ok (.getfield 22, 3) := by decide +kernel
theorem dS_keep_39 : decode cS_keep 39 = .ok (.iload_n 3, 1) := by decide +kernel
theorem dS_keep_40 : decode cS_keep 40 = .ok (.aload_n 0, 1) := by decide +kernel
theorem dS_keep_41 : decode cS_keep 41 = .ok (.getfield 19, 3) := by decide +kernel
theorem dS_keep_44 : decode cS_keep 44 = .ok (.iload 4, 2) := by decide +kernel
theorem dS_keep_46 : decode cS_keep 46 = .ok (.iaload, 1) := by decide +kernel
theorem dS_keep_47 : decode cS_keep 47 = .ok (.invokevirtual 71, 3) := by decide +kernel
theorem dS_keep_50 : decode cS_keep 50 = .ok (.istore_n 3, 1) := by decide +kernel
theorem dS_keep_51 : decode cS_keep 51 = .ok (.iinc 4 1, 3) := by decide +kernel
theorem dS_keep_54 : decode cS_keep 54 = .ok (.goto (-49), 3) := by decide +kernel
theorem dS_keep_57 : decode cS_keep 57 = .ok (.aload_n 0, 1) := by decide +kernel
theorem dS_keep_58 : decode cS_keep 58 = .ok (.iload_n 2, 1) := by decide +kernel
theorem dS_keep_59 : decode cS_keep 59 = .ok (.iconst 1, 1) := by decide +kernel
theorem dS_keep_60 : decode cS_keep 60 = .ok (.iadd, 1) := by decide +kernel
theorem dS_keep_61 : decode cS_keep 61 = .ok (.putfield 26, 3) := by decide +kernel
theorem dS_keep_64 : decode cS_keep 64 = .ok (.return_, 1) := by decide +kernel
abbrev cS_leastBad : ByteArray := prog_8_method_3_code
def yS_leastBad : MethodName := ⟨"WordChecker$Search", "leastBad", "(I)I"⟩
theorem calS_leastBad : CalV gT yS_leastBad cS_leastBad 5 (some .int) 1 := ⟨⟨gT_1 (i := 658) (by decide +kernel) rfl, gT_1 (i := 7) (by decide +kernel) rfl, by decide +kernel⟩, gT_1 (i := 656) (by decide +kernel) rfl, gT_1 (i := 657) (by decide +kernel) rfl⟩
theorem dS_leastBad_0 : decode cS_leastBad 0 = .ok (.aload_n 0, 1) := by decide +kernel
theorem dS_leastBad_1 : decode cS_leastBad 1 = .ok (.invokevirtual 30, 3) := by decide +kernel
theorem dS_leastBad_4 : decode cS_leastBad 4 = .ok (.aload_n 0, 1) := by decide +kernel
theorem dS_leastBad_5 : decode cS_leastBad 5 = .ok (.getfield 22, 3) := by decide +kernel
theorem dS_leastBad_8 : decode cS_leastBad 8 = .ok (.invokevirtual 33, 3) := by decide +kernel
theorem dS_leastBad_11 : decode cS_leastBad 11 = .ok (.lstore_n 2, 1) := by decide +kernel
theorem dS_leastBad_12 : decode cS_leastBad 12 = .ok (.iconst 0, 1) := by decide +kernel
theorem dS_leastBad_13 : decode cS_leastBad 13 = .ok (.istore 4, 2) := by decide +kernel
theorem dS_leastBad_15 : decode cS_leastBad 15 = .ok (.iload 4, 2) := by decide +kernel
theorem dS_leastBad_17 : decode cS_leastBad 17 = .ok (.iload_n 1, 1) := by decide +kernel
theorem dS_leastBad_18 : decode cS_leastBad 18 = .ok (.if_icmp .gt 54, 3) := by decide +kernel
theorem dS_leastBad_21 : decode cS_leastBad 21 = .ok (.aload_n 0, 1) := by decide +kernel
theorem dS_leastBad_22 : decode cS_leastBad 22 = .ok (.iload 4, 2) := by decide +kernel
theorem dS_leastBad_24 : decode cS_leastBad 24 = .ok (.invokevirtual 39, 3) := by decide +kernel
theorem dS_leastBad_27 : decode cS_leastBad 27 = .ok (.lload_n 2, 1) := by decide +kernel
theorem dS_leastBad_28 : decode cS_leastBad 28 = .ok (.aload_n 0, 1) := by decide +kernel
theorem dS_leastBad_29 : decode cS_leastBad 29 = .ok (.getfield 9, 3) := by decide +kernel
theorem dS_leastBad_32 : decode cS_leastBad 32 = .ok (.iload 4, 2) := by decide +kernel
theorem dS_leastBad_34 : decode cS_leastBad 34 = .ok (.laload, 1) := by decide +kernel
theorem dS_leastBad_35 : decode cS_leastBad 35 = .ok (.land, 1) := by decide +kernel
theorem dS_leastBad_36 : decode cS_leastBad 36 = .ok (.lconst 0, 1) := by decide +kernel
theorem dS_leastBad_37 : decode cS_leastBad 37 = .ok (.lcmp, 1) := by decide +kernel
theorem dS_leastBad_38 : decode cS_leastBad 38 = .ok (.ifCond .eq 28, 3) := by decide +kernel
theorem dS_leastBad_41 : decode cS_leastBad 41 = .ok (.aload_n 0, 1) := by decide +kernel
theorem dS_leastBad_42 : decode cS_leastBad 42 = .ok (.aload_n 0, 1) := by decide +kernel
theorem dS_leastBad_43 : decode cS_leastBad 43 = .ok (.getfield 22, 3) := by decide +kernel
theorem dS_leastBad_46 : decode cS_leastBad 46 = .ok (.lload_n 2, 1) := by decide +kernel
theorem dS_leastBad_47 : decode cS_leastBad 47 = .ok (.aload_n 0, 1) := by decide +kernel
theorem dS_leastBad_48 : decode cS_leastBad 48 = .ok (.getfield 9, 3) := by decide +kernel
theorem dS_leastBad_51 : decode cS_leastBad 51 = .ok (.iload 4, 2) := by decide +kernel
theorem dS_leastBad_53 : decode cS_leastBad 53 = .ok (.laload, 1) := by decide +kernel
theorem dS_leastBad_54 : decode cS_leastBad 54 = .ok (.land, 1) := by decide +kernel
theorem dS_leastBad_55 : decode cS_leastBad 55 = .ok (.invokevirtual 43, 3) := by decide +kernel
theorem dS_leastBad_58 : decode cS_leastBad 58 = .ok (.iload 4, 2) := by decide +kernel
theorem dS_leastBad_60 : decode cS_leastBad 60 = .ok (.invokevirtual 47, 3) := by decide +kernel
theorem dS_leastBad_63 : decode cS_leastBad 63 = .ok (.iload 4, 2) := by decide +kernel
theorem dS_leastBad_65 : decode cS_leastBad 65 = .ok (.ireturn, 1) := by decide +kernel
theorem dS_leastBad_66 : decode cS_leastBad 66 = .ok (.iinc 4 1, 3) := by decide +kernel
theorem dS_leastBad_69 : decode cS_leastBad 69 = .ok (.goto (-54), 3) := by decide +kernel
theorem dS_leastBad_72 : decode cS_leastBad 72 = .ok (.iconst (-1), 1) := by decide +kernel
theorem dS_leastBad_73 : decode cS_leastBad 73 = .ok (.ireturn, 1) := by decide +kernel
abbrev cC_find : ByteArray := prog_1_method_9_code
def yC_find : MethodName := ⟨"WordChecker", "find", "(I)I"⟩
theorem calC_find : CalV gT yC_find cC_find 2 (some .int) 1 := ⟨⟨gT_1 (i := 654) (by decide +kernel) rfl, gT_1 (i := 1) (by decide +kernel) rfl, by decide +kernel⟩, gT_1 (i := 652) (by decide +kernel) rfl, gT_1 (i := 653) (by decide +kernel) rfl⟩
theorem dC_find_0 : decode cC_find 0 = .ok (.iload_n 1, 1) := by decide +kernel
theorem dC_find_1 : decode cC_find 1 = .ok (.ifCond .lt 8, 3) := by decide +kernel
theorem dC_find_4 : decode cC_find 4 = .ok (.iload_n 1, 1) := by decide +kernel
theorem dC_find_5 : decode cC_find 5 = .ok (.iconst 3, 1) := by decide +kernel
theorem dC_find_6 : decode cC_find 6 = .ok (.if_icmp .le 6, 3) := by decide +kernel
theorem dC_find_9 : decode cC_find 9 = .ok (.bipush (-2), 2) := by decide +kernel
theorem dC_find_11 : decode cC_find 11 = .ok (.ireturn, 1) := by decide +kernel
theorem dC_find_12 : decode cC_find 12 = .ok (.aload_n 0, 1) := by decide +kernel
theorem dC_find_13 : decode cC_find 13 = .ok (.getfield 37, 3) := by decide +kernel
theorem dC_find_16 : decode cC_find 16 = .ok (.iload_n 1, 1) := by decide +kernel
theorem dC_find_17 : decode cC_find 17 = .ok (.invokevirtual 94, 3) := by decide +kernel
theorem dC_find_20 : decode cC_find 20 = .ok (.ireturn, 1) := by decide +kernel
abbrev cC_shown : ByteArray := prog_1_method_10_code
def yC_shown : MethodName := ⟨"WordChecker", "shown", "(II)I"⟩
theorem calC_shown : CalV gT yC_shown cC_shown 3 (some .int) 2 := ⟨⟨gT_1 (i := 694) (by decide +kernel) rfl, gT_1 (i := 1) (by decide +kernel) rfl, by decide +kernel⟩, gT_1 (i := 692) (by decide +kernel) rfl, gT_1 (i := 693) (by decide +kernel) rfl⟩
theorem dC_shown_0 : decode cC_shown 0 = .ok (.iload_n 1, 1) := by decide +kernel
theorem dC_shown_1 : decode cC_shown 1 = .ok (.ifCond .lt 14, 3) := by decide +kernel
theorem dC_shown_4 : decode cC_shown 4 = .ok (.iload_n 1, 1) := by decide +kernel
theorem dC_shown_5 : decode cC_shown 5 = .ok (.aload_n 0, 1) := by decide +kernel
theorem dC_shown_6 : decode cC_shown 6 = .ok (.getfield 37, 3) := by decide +kernel
theorem dC_shown_9 : decode cC_shown 9 = .ok (.getfield 97, 3) := by decide +kernel
theorem dC_shown_12 : decode cC_shown 12 = .ok (.if_icmp .lt 5, 3) := by decide +kernel
theorem dC_shown_15 : decode cC_shown 15 = .ok (.iconst (-1), 1) := by decide +kernel
theorem dC_shown_16 : decode cC_shown 16 = .ok (.ireturn, 1) := by decide +kernel
theorem dC_shown_17 : decode cC_shown 17 = .ok (.aload_n 0, 1) := by decide +kernel
theorem dC_shown_18 : decode cC_shown 18 = .ok (.getfield 19, 3) := by decide +kernel
theorem dC_shown_21 : decode cC_shown 21 = .ok (.iload_n 2, 1) := by decide +kernel
theorem dC_shown_22 : decode cC_shown 22 = .ok (.aload_n 0, 1) := by decide +kernel
theorem dC_shown_23 : decode cC_shown 23 = .ok (.getfield 37, 3) := by decide +kernel
theorem dC_shown_26 : decode cC_shown 26 = .ok (.getfield 100, 3) := by decide +kernel
theorem dC_shown_29 : decode cC_shown 29 = .ok (.iload_n 1, 1) := by decide +kernel
theorem dC_shown_30 : decode cC_shown 30 = .ok (.iaload, 1) := by decide +kernel
theorem dC_shown_31 : decode cC_shown 31 = .ok (.aload_n 0, 1) := by decide +kernel
theorem dC_shown_32 : decode cC_shown 32 = .ok (.getfield 37, 3) := by decide +kernel
theorem dC_shown_35 : decode cC_shown 35 = .ok (.getfield 104, 3) := by decide +kernel
theorem dC_shown_38 : decode cC_shown 38 = .ok (.iload_n 1, 1) := by decide +kernel
theorem dC_shown_39 : decode cC_shown 39 = .ok (.iaload, 1) := by decide +kernel
theorem dC_shown_40 : decode cC_shown 40 = .ok (.invokevirtual 90, 3) := by decide +kernel
theorem dC_shown_43 : decode cC_shown 43 = .ok (.ireturn, 1) := by decide +kernel
abbrev cS_stretches : ByteArray := prog_8_method_9_code
def yS_stretches : MethodName := ⟨"WordChecker$Search", "stretches", "(IJI)Z"⟩
theorem calS_stretches : CalV gT yS_stretches cS_stretches 9 (some .boolean) 3 := ⟨⟨gT_1 (i := 706) (by decide +kernel) rfl, gT_1 (i := 7) (by decide +kernel) rfl, by decide +kernel⟩, gT_1 (i := 705) (by decide +kernel) rfl, gT_s (q := (yS_stretches, 5)) (by decide +kernel)⟩
theorem dS_stretches_0 : decode cS_stretches 0 = .ok (.iload 4, 2) := by decide +kernel
theorem dS_stretches_2 : decode cS_stretches 2 = .ok (.ifCond .gt 5, 3) := by decide +kernel
theorem dS_stretches_5 : decode cS_stretches 5 = .ok (.iconst 1, 1) := by decide +kernel
theorem dS_stretches_6 : decode cS_stretches 6 = .ok (.ireturn, 1) := by decide +kernel
theorem dS_stretches_7 : decode cS_stretches 7 = .ok (.lload_n 2, 1) := by decide +kernel
theorem dS_stretches_8 : decode cS_stretches 8 = .ok (.lconst 1, 1) := by decide +kernel
theorem dS_stretches_9 : decode cS_stretches 9 = .ok (.iload_n 1, 1) := by decide +kernel
theorem dS_stretches_10 : decode cS_stretches 10 = .ok (.lshl, 1) := by decide +kernel
theorem dS_stretches_11 : decode cS_stretches 11 = .ok (.lor, 1) := by decide +kernel
theorem dS_stretches_12 : decode cS_stretches 12 = .ok (.lstore 5, 2) := by decide +kernel
theorem dS_stretches_14 : decode cS_stretches 14 = .ok (.iconst 0, 1) := by decide +kernel
theorem dS_stretches_15 : decode cS_stretches 15 = .ok (.istore 7, 2) := by decide +kernel
theorem dS_stretches_17 : decode cS_stretches 17 = .ok (.iload 7, 2) := by decide +kernel
theorem dS_stretches_19 : decode cS_stretches 19 = .ok (.iconst 1, 1) := by decide +kernel
theorem dS_stretches_20 : decode cS_stretches 20 = .ok (.aload_n 0, 1) := by decide +kernel
theorem dS_stretches_21 : decode cS_stretches 21 = .ok (.getfield 22, 3) := by decide +kernel
theorem dS_stretches_24 : decode cS_stretches 24 = .ok (.getfield 54, 3) := by decide +kernel
theorem dS_stretches_27 : decode cS_stretches 27 = .ok (.ishl, 1) := by decide +kernel
theorem dS_stretches_28 : decode cS_stretches 28 = .ok (.if_icmp .ge 60, 3) := by decide +kernel
theorem dS_stretches_31 : decode cS_stretches 31 = .ok (.aload_n 0, 1) := by decide +kernel
theorem dS_stretches_32 : decode cS_stretches 32 = .ok (.iload_n 1, 1) := by decide +kernel
theorem dS_stretches_33 : decode cS_stretches 33 = .ok (.iload 7, 2) := by decide +kernel
theorem dS_stretches_35 : decode cS_stretches 35 = .ok (.iload 4, 2) := by decide +kernel
theorem dS_stretches_37 : decode cS_stretches 37 = .ok (.invokevirtual 57, 3) := by decide +kernel
theorem dS_stretches_40 : decode cS_stretches 40 = .ok (.ifCond .eq 42, 3) := by decide +kernel
theorem dS_stretches_43 : decode cS_stretches 43 = .ok (.aload_n 0, 1) := by decide +kernel
theorem dS_stretches_44 : decode cS_stretches 44 = .ok (.getfield 22, 3) := by decide +kernel
theorem dS_stretches_47 : decode cS_stretches 47 = .ok (.iload_n 1, 1) := by decide +kernel
theorem dS_stretches_48 : decode cS_stretches 48 = .ok (.iload 7, 2) := by decide +kernel
theorem dS_stretches_50 : decode cS_stretches 50 = .ok (.invokevirtual 71, 3) := by decide +kernel
theorem dS_stretches_53 : decode cS_stretches 53 = .ok (.istore 8, 2) := by decide +kernel
theorem dS_stretches_55 : decode cS_stretches 55 = .ok (.lload 5, 2) := by decide +kernel
theorem dS_stretches_57 : decode cS_stretches 57 = .ok (.iload 8, 2) := by decide +kernel
theorem dS_stretches_59 : decode cS_stretches 59 = .ok (.invokestatic 64, 3) := by decide +kernel
theorem dS_stretches_62 : decode cS_stretches 62 = .ok (.ifCond .ne 20, 3) := by decide +kernel
theorem dS_stretches_65 : decode cS_stretches 65 = .ok (.aload_n 0, 1) := by decide +kernel
theorem dS_stretches_66 : decode cS_stretches 66 = .ok (.iload 8, 2) := by decide +kernel
theorem dS_stretches_68 : decode cS_stretches 68 = .ok (.lload 5, 2) := by decide +kernel
theorem dS_stretches_70 : decode cS_stretches 70 = .ok (.iload 4, 2) := by decide +kernel
theorem dS_stretches_72 : decode cS_stretches 72 = .ok (.iconst 1, 1) := by decide +kernel
theorem dS_stretches_73 : decode cS_stretches 73 = .ok (.isub, 1) := by decide +kernel
theorem dS_stretches_74 : decode cS_stretches 74 = .ok (.invokevirtual 82, 3) := by decide +kernel
theorem dS_stretches_77 : decode cS_stretches 77 = .ok (.ifCond .eq 5, 3) := by decide +kernel
theorem dS_stretches_80 : decode cS_stretches 80 = .ok (.iconst 1, 1) := by decide +kernel
theorem dS_stretches_81 : decode cS_stretches 81 = .ok (.ireturn, 1) := by decide +kernel
theorem dS_stretches_82 : decode cS_stretches 82 = .ok (.iinc 7 1, 3) := by decide +kernel
theorem dS_stretches_85 : decode cS_stretches 85 = .ok (.goto (-68), 3) := by decide +kernel
theorem dS_stretches_88 : decode cS_stretches 88 = .ok (.iconst 0, 1) := by decide +kernel
theorem dS_stretches_89 : decode cS_stretches 89 = .ok (.ireturn, 1) := by decide +kernel
