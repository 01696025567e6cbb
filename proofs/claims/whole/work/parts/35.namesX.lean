abbrev cS_hasStretch : ByteArray := prog_8_method_8_code
def yS_hasStretch : MethodName := ⟨"WordChecker$Search", "hasStretch", "(I)Z"⟩
theorem calS_hasStretch : CalV gT yS_hasStretch cS_hasStretch 3 (some .boolean) 1 := ⟨⟨gT_1 (i := 702) (by decide +kernel) rfl, gT_1 (i := 7) (by decide +kernel) rfl, by decide +kernel⟩, gT_1 (i := 700) (by decide +kernel) rfl, gT_1 (i := 701) (by decide +kernel) rfl⟩
theorem dS_hasStretch_0 : decode cS_hasStretch 0 = .ok (.aload_n 0, 1) := by decide +kernel
theorem dS_hasStretch_1 : decode cS_hasStretch 1 = .ok (.iload_n 1, 1) := by decide +kernel
theorem dS_hasStretch_2 : decode cS_hasStretch 2 = .ok (.invokevirtual 39, 3) := by decide +kernel
theorem dS_hasStretch_5 : decode cS_hasStretch 5 = .ok (.iconst 0, 1) := by decide +kernel
theorem dS_hasStretch_6 : decode cS_hasStretch 6 = .ok (.istore_n 2, 1) := by decide +kernel
theorem dS_hasStretch_7 : decode cS_hasStretch 7 = .ok (.iload_n 2, 1) := by decide +kernel
theorem dS_hasStretch_8 : decode cS_hasStretch 8 = .ok (.iconst 1, 1) := by decide +kernel
theorem dS_hasStretch_9 : decode cS_hasStretch 9 = .ok (.aload_n 0, 1) := by decide +kernel
theorem dS_hasStretch_10 : decode cS_hasStretch 10 = .ok (.getfield 22, 3) := by decide +kernel
theorem dS_hasStretch_13 : decode cS_hasStretch 13 = .ok (.getfield 51, 3) := by decide +kernel
theorem dS_hasStretch_16 : decode cS_hasStretch 16 = .ok (.ishl, 1) := by decide +kernel
theorem dS_hasStretch_17 : decode cS_hasStretch 17 = .ok (.if_icmp .ge 34, 3) := by decide +kernel
theorem dS_hasStretch_20 : decode cS_hasStretch 20 = .ok (.aload_n 0, 1) := by decide +kernel
theorem dS_hasStretch_21 : decode cS_hasStretch 21 = .ok (.getfield 9, 3) := by decide +kernel
theorem dS_hasStretch_24 : decode cS_hasStretch 24 = .ok (.iload_n 1, 1) := by decide +kernel
theorem dS_hasStretch_25 : decode cS_hasStretch 25 = .ok (.laload, 1) := by decide +kernel
theorem dS_hasStretch_26 : decode cS_hasStretch 26 = .ok (.iload_n 2, 1) := by decide +kernel
theorem dS_hasStretch_27 : decode cS_hasStretch 27 = .ok (.invokestatic 64, 3) := by decide +kernel
theorem dS_hasStretch_30 : decode cS_hasStretch 30 = .ok (.ifCond .eq 15, 3) := by decide +kernel
theorem dS_hasStretch_33 : decode cS_hasStretch 33 = .ok (.aload_n 0, 1) := by decide +kernel
theorem dS_hasStretch_34 : decode cS_hasStretch 34 = .ok (.iload_n 2, 1) := by decide +kernel
theorem dS_hasStretch_35 : decode cS_hasStretch 35 = .ok (.lconst 0, 1) := by decide +kernel
theorem dS_hasStretch_36 : decode cS_hasStretch 36 = .ok (.iload_n 1, 1) := by decide +kernel
theorem dS_hasStretch_37 : decode cS_hasStretch 37 = .ok (.invokevirtual 82, 3) := by decide +kernel
theorem dS_hasStretch_40 : decode cS_hasStretch 40 = .ok (.ifCond .eq 5, 3) := by decide +kernel
theorem dS_hasStretch_43 : decode cS_hasStretch 43 = .ok (.iconst 1, 1) := by decide +kernel
theorem dS_hasStretch_44 : decode cS_hasStretch 44 = .ok (.ireturn, 1) := by decide +kernel
theorem dS_hasStretch_45 : decode cS_hasStretch 45 = .ok (.iinc 2 1, 3) := by decide +kernel
theorem dS_hasStretch_48 : decode cS_hasStretch 48 = .ok (.goto (-41), 3) := by decide +kernel
theorem dS_hasStretch_51 : decode cS_hasStretch 51 = .ok (.iconst 0, 1) := by decide +kernel
theorem dS_hasStretch_52 : decode cS_hasStretch 52 = .ok (.ireturn, 1) := by decide +kernel
abbrev cC_prove : ByteArray := prog_1_method_11_code
def yC_prove : MethodName := ⟨"WordChecker", "prove", "(I)I"⟩
theorem calC_prove : CalV gT yC_prove cC_prove 2 (some .int) 1 := ⟨⟨gT_1 (i := 698) (by decide +kernel) rfl, gT_1 (i := 1) (by decide +kernel) rfl, by decide +kernel⟩, gT_1 (i := 696) (by decide +kernel) rfl, gT_1 (i := 697) (by decide +kernel) rfl⟩
theorem dC_prove_0 : decode cC_prove 0 = .ok (.iload_n 1, 1) := by decide +kernel
theorem dC_prove_1 : decode cC_prove 1 = .ok (.ifCond .lt 8, 3) := by decide +kernel
theorem dC_prove_4 : decode cC_prove 4 = .ok (.iload_n 1, 1) := by decide +kernel
theorem dC_prove_5 : decode cC_prove 5 = .ok (.iconst 2, 1) := by decide +kernel
theorem dC_prove_6 : decode cC_prove 6 = .ok (.if_icmp .le 6, 3) := by decide +kernel
theorem dC_prove_9 : decode cC_prove 9 = .ok (.bipush (-2), 2) := by decide +kernel
theorem dC_prove_11 : decode cC_prove 11 = .ok (.ireturn, 1) := by decide +kernel
theorem dC_prove_12 : decode cC_prove 12 = .ok (.aload_n 0, 1) := by decide +kernel
theorem dC_prove_13 : decode cC_prove 13 = .ok (.getfield 37, 3) := by decide +kernel
theorem dC_prove_16 : decode cC_prove 16 = .ok (.iload_n 1, 1) := by decide +kernel
theorem dC_prove_17 : decode cC_prove 17 = .ok (.invokevirtual 94, 3) := by decide +kernel
theorem dC_prove_20 : decode cC_prove 20 = .ok (.iconst (-1), 1) := by decide +kernel
theorem dC_prove_21 : decode cC_prove 21 = .ok (.if_icmp .eq 5, 3) := by decide +kernel
theorem dC_prove_24 : decode cC_prove 24 = .ok (.iconst 2, 1) := by decide +kernel
theorem dC_prove_25 : decode cC_prove 25 = .ok (.ireturn, 1) := by decide +kernel
theorem dC_prove_26 : decode cC_prove 26 = .ok (.aload_n 0, 1) := by decide +kernel
theorem dC_prove_27 : decode cC_prove 27 = .ok (.getfield 37, 3) := by decide +kernel
theorem dC_prove_30 : decode cC_prove 30 = .ok (.iload_n 1, 1) := by decide +kernel
theorem dC_prove_31 : decode cC_prove 31 = .ok (.iconst 1, 1) := by decide +kernel
theorem dC_prove_32 : decode cC_prove 32 = .ok (.iadd, 1) := by decide +kernel
theorem dC_prove_33 : decode cC_prove 33 = .ok (.invokevirtual 107, 3) := by decide +kernel
theorem dC_prove_36 : decode cC_prove 36 = .ok (.ifCond .eq 7, 3) := by decide +kernel
theorem dC_prove_39 : decode cC_prove 39 = .ok (.iconst 0, 1) := by decide +kernel
theorem dC_prove_40 : decode cC_prove 40 = .ok (.goto 4, 3) := by decide +kernel
theorem dC_prove_43 : decode cC_prove 43 = .ok (.iconst 1, 1) := by decide +kernel
theorem dC_prove_44 : decode cC_prove 44 = .ok (.ireturn, 1) := by decide +kernel
