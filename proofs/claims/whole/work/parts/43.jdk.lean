abbrev cJ_ord : ByteArray := prog_12_method_2_code
def yJ_ord : MethodName := ⟨"java/lang/Enum", "ordinal", "()I"⟩
theorem dJ_ord_0 : decode cJ_ord 0 = .ok (.aload_n 0, 1) := by decide +kernel
theorem dJ_ord_1 : decode cJ_ord 1 = .ok (.getfield 7, 3) := by decide +kernel
theorem dJ_ord_4 : decode cJ_ord 4 = .ok (.ireturn, 1) := by decide +kernel
abbrev cJ_len : ByteArray := prog_13_method_54_code
def yJ_len : MethodName := ⟨"java/lang/String", "length", "()I"⟩
theorem calJ_len : CalV gT yJ_len cJ_len 1 (some .int) 0 := ⟨⟨gT_1 (i := 316) (by decide +kernel) rfl, gT_1 (i := 9) (by decide +kernel) rfl, by decide +kernel⟩, gT_1 (i := 314) (by decide +kernel) rfl, gT_1 (i := 315) (by decide +kernel) rfl⟩
theorem dJ_len_0 : decode cJ_len 0 = .ok (.aload_n 0, 1) := by decide +kernel
theorem dJ_len_1 : decode cJ_len 1 = .ok (.getfield 9, 3) := by decide +kernel
theorem dJ_len_4 : decode cJ_len 4 = .ok (.arraylength, 1) := by decide +kernel
theorem dJ_len_5 : decode cJ_len 5 = .ok (.aload_n 0, 1) := by decide +kernel
theorem dJ_len_6 : decode cJ_len 6 = .ok (.invokevirtual 335, 3) := by decide +kernel
theorem dJ_len_9 : decode cJ_len 9 = .ok (.ishr, 1) := by decide +kernel
theorem dJ_len_10 : decode cJ_len 10 = .ok (.ireturn, 1) := by decide +kernel
abbrev cJ_cod : ByteArray := prog_13_method_152_code
def yJ_cod : MethodName := ⟨"java/lang/String", "coder", "()B"⟩
theorem calJ_cod : CalV gT yJ_cod cJ_cod 1 (some .byte) 0 := ⟨⟨gT_1 (i := 320) (by decide +kernel) rfl, gT_1 (i := 9) (by decide +kernel) rfl, by decide +kernel⟩, gT_1 (i := 318) (by decide +kernel) rfl, gT_1 (i := 319) (by decide +kernel) rfl⟩
theorem dJ_cod_0 : decode cJ_cod 0 = .ok (.getstatic 38, 3) := by decide +kernel
theorem dJ_cod_3 : decode cJ_cod 3 = .ok (.ifCond .eq 10, 3) := by decide +kernel
theorem dJ_cod_6 : decode cJ_cod 6 = .ok (.aload_n 0, 1) := by decide +kernel
theorem dJ_cod_7 : decode cJ_cod 7 = .ok (.getfield 15, 3) := by decide +kernel
theorem dJ_cod_10 : decode cJ_cod 10 = .ok (.goto 4, 3) := by decide +kernel
theorem dJ_cod_14 : decode cJ_cod 14 = .ok (.ireturn, 1) := by decide +kernel
abbrev cJ_chr : ByteArray := prog_13_method_56_code
def yJ_chr : MethodName := ⟨"java/lang/String", "charAt", "(I)C"⟩
theorem calJ_chr : CalV gT yJ_chr cJ_chr 2 (some .char) 1 := ⟨⟨gT_1 (i := 326) (by decide +kernel) rfl, gT_1 (i := 9) (by decide +kernel) rfl, by decide +kernel⟩, gT_1 (i := 324) (by decide +kernel) rfl, gT_1 (i := 325) (by decide +kernel) rfl⟩
theorem dJ_chr_0 : decode cJ_chr 0 = .ok (.aload_n 0, 1) := by decide +kernel
theorem dJ_chr_1 : decode cJ_chr 1 = .ok (.invokevirtual 492, 3) := by decide +kernel
theorem dJ_chr_4 : decode cJ_chr 4 = .ok (.ifCond .eq 12, 3) := by decide +kernel
theorem dJ_chr_7 : decode cJ_chr 7 = .ok (.aload_n 0, 1) := by decide +kernel
theorem dJ_chr_8 : decode cJ_chr 8 = .ok (.getfield 9, 3) := by decide +kernel
theorem dJ_chr_11 : decode cJ_chr 11 = .ok (.iload_n 1, 1) := by decide +kernel
theorem dJ_chr_12 : decode cJ_chr 12 = .ok (.invokestatic 495, 3) := by decide +kernel
theorem dJ_chr_15 : decode cJ_chr 15 = .ok (.ireturn, 1) := by decide +kernel
abbrev cJ_lat : ByteArray := prog_13_method_154_code
def yJ_lat : MethodName := ⟨"java/lang/String", "isLatin1", "()Z"⟩
theorem calJ_lat : CalV gT yJ_lat cJ_lat 1 (some .boolean) 0 := ⟨⟨gT_1 (i := 330) (by decide +kernel) rfl, gT_1 (i := 9) (by decide +kernel) rfl, by decide +kernel⟩, gT_1 (i := 328) (by decide +kernel) rfl, gT_1 (i := 329) (by decide +kernel) rfl⟩
theorem dJ_lat_0 : decode cJ_lat 0 = .ok (.getstatic 38, 3) := by decide +kernel
theorem dJ_lat_3 : decode cJ_lat 3 = .ok (.ifCond .eq 14, 3) := by decide +kernel
theorem dJ_lat_6 : decode cJ_lat 6 = .ok (.aload_n 0, 1) := by decide +kernel
theorem dJ_lat_7 : decode cJ_lat 7 = .ok (.getfield 15, 3) := by decide +kernel
theorem dJ_lat_10 : decode cJ_lat 10 = .ok (.ifCond .ne 7, 3) := by decide +kernel
theorem dJ_lat_13 : decode cJ_lat 13 = .ok (.iconst 1, 1) := by decide +kernel
theorem dJ_lat_14 : decode cJ_lat 14 = .ok (.goto 4, 3) := by decide +kernel
theorem dJ_lat_18 : decode cJ_lat 18 = .ok (.ireturn, 1) := by decide +kernel
abbrev cJ_lch : ByteArray := prog_14_method_2_code
def yJ_lch : MethodName := ⟨"java/lang/StringLatin1", "charAt", "([BI)C"⟩
theorem calJ_lch : CalS gT yJ_lch cJ_lch 2 (some .char) 2 := ⟨⟨gT_1 (i := 333) (by decide +kernel) rfl, gT_1 (i := 10) (by decide +kernel) rfl, by decide +kernel⟩, gT_1 (i := 332) (by decide +kernel) rfl⟩
theorem dJ_lch_0 : decode cJ_lch 0 = .ok (.iload_n 1, 1) := by decide +kernel
theorem dJ_lch_1 : decode cJ_lch 1 = .ok (.aload_n 0, 1) := by decide +kernel
theorem dJ_lch_2 : decode cJ_lch 2 = .ok (.arraylength, 1) := by decide +kernel
theorem dJ_lch_3 : decode cJ_lch 3 = .ok (.invokestatic 9, 3) := by decide +kernel
theorem dJ_lch_6 : decode cJ_lch 6 = .ok (.aload_n 0, 1) := by decide +kernel
theorem dJ_lch_7 : decode cJ_lch 7 = .ok (.iload_n 1, 1) := by decide +kernel
theorem dJ_lch_8 : decode cJ_lch 8 = .ok (.baload, 1) := by decide +kernel
theorem dJ_lch_9 : decode cJ_lch 9 = .ok (.sipush 255, 3) := by decide +kernel
theorem dJ_lch_12 : decode cJ_lch 12 = .ok (.iand, 1) := by decide +kernel
theorem dJ_lch_13 : decode cJ_lch 13 = .ok (.i2c, 1) := by decide +kernel
theorem dJ_lch_14 : decode cJ_lch 14 = .ok (.ireturn, 1) := by decide +kernel
abbrev cJ_chk : ByteArray := prog_13_method_155_code
def yJ_chk : MethodName := ⟨"java/lang/String", "checkIndex", "(II)V"⟩
theorem calJ_chk : CalS gT yJ_chk cJ_chk 2 none 2 := ⟨⟨gT_1 (i := 336) (by decide +kernel) rfl, gT_1 (i := 9) (by decide +kernel) rfl, by decide +kernel⟩, gT_1 (i := 335) (by decide +kernel) rfl⟩
theorem dJ_chk_0 : decode cJ_chk 0 = .ok (.iload_n 0, 1) := by decide +kernel
theorem dJ_chk_1 : decode cJ_chk 1 = .ok (.iload_n 1, 1) := by decide +kernel
theorem dJ_chk_2 : decode cJ_chk 2 = .ok (.getstatic 1053, 3) := by decide +kernel
theorem dJ_chk_5 : decode cJ_chk 5 = .ok (.invokestatic 1059, 3) := by decide +kernel
theorem dJ_chk_8 : decode cJ_chk 8 = .ok (.pop, 1) := by decide +kernel
theorem dJ_chk_9 : decode cJ_chk 9 = .ok (.return_, 1) := by decide +kernel
abbrev cJ_pre : ByteArray := prog_17_method_11_code
def yJ_pre : MethodName := ⟨"jdk/internal/util/Preconditions", "checkIndex", "(IILjava/util/function/BiFunction;)I"⟩
theorem calJ_pre : CalS gT yJ_pre cJ_pre 3 (some .int) 3 := ⟨⟨gT_1 (i := 341) (by decide +kernel) rfl, gT_1 (i := 11) (by decide +kernel) rfl, by decide +kernel⟩, gT_1 (i := 340) (by decide +kernel) rfl⟩
theorem dJ_pre_0 : decode cJ_pre 0 = .ok (.iload_n 0, 1) := by decide +kernel
theorem dJ_pre_1 : decode cJ_pre 1 = .ok (.ifCond .lt 8, 3) := by decide +kernel
theorem dJ_pre_4 : decode cJ_pre 4 = .ok (.iload_n 0, 1) := by decide +kernel
theorem dJ_pre_5 : decode cJ_pre 5 = .ok (.iload_n 1, 1) := by decide +kernel
theorem dJ_pre_6 : decode cJ_pre 6 = .ok (.if_icmp .lt 10, 3) := by decide +kernel
theorem dJ_pre_16 : decode cJ_pre 16 = .ok (.iload_n 0, 1) := by decide +kernel
theorem dJ_pre_17 : decode cJ_pre 17 = .ok (.ireturn, 1) := by decide +kernel
theorem flJ_7 : Cond.fieldLink "java/lang/Enum" 7 "java/lang/Enum" "ordinal" "I" ∈ gT := gT_1 (i := 1095) (by decide +kernel) rfl
theorem flJ_9 : Cond.fieldLink "java/lang/String" 9 "java/lang/String" "value" "[B" ∈ gT := gT_1 (i := 1092) (by decide +kernel) rfl
theorem flJ_15 : Cond.fieldLink "java/lang/String" 15 "java/lang/String" "coder" "B" ∈ gT := gT_1 (i := 1093) (by decide +kernel) rfl
theorem flJ_38 : Cond.fieldLink "java/lang/String" 38 "java/lang/String" "COMPACT_STRINGS" "Z" ∈ gT := gT_1 (i := 321) (by decide +kernel) rfl
theorem flJ_1053 : Cond.fieldLink "java/lang/String" 1053 "jdk/internal/util/Preconditions" "SIOOBE_FORMATTER" "Ljava/util/function/BiFunction;" ∈ gT := gT_1 (i := 337) (by decide +kernel) rfl
theorem mlJ_cod : Cond.methodLink "java/lang/String" 335 yJ_cod ∈ gT := gT_1 (i := 317) (by decide +kernel) rfl
theorem mlJ_lat : Cond.methodLink "java/lang/String" 492 yJ_lat ∈ gT := gT_1 (i := 327) (by decide +kernel) rfl
theorem mlJ_lch : Cond.methodLink "java/lang/String" 495 yJ_lch ∈ gT := gT_1 (i := 331) (by decide +kernel) rfl
theorem mlJ_chk : Cond.methodLink "java/lang/StringLatin1" 9 yJ_chk ∈ gT := gT_1 (i := 334) (by decide +kernel) rfl
theorem mlJ_pre : Cond.methodLink "java/lang/String" 1059 yJ_pre ∈ gT := gT_1 (i := 339) (by decide +kernel) rfl
def yJ_kord : MethodName := ⟨"WordChecker$Kind", "ordinal", "()I"⟩
theorem nI_in2 {x : Int32} {n : Nat} (h : vp_in x n) (hn : n < 2 ^ 31) : nI x.toNatClampNeg = x := by
  obtain ⟨i, hi, rfl⟩ := vp_in_of h hn
  rw [nI_clamp (by omega)]
section RJ
variable {p : Program} {l : Launch} {e : Env} {R : Room} {s : State} {m : MethodId} {args : Array Value} {below : List Frame} {meth : Method} {c : Code} {H : Heap} {locs : List Loc} {Q : State → Prop}
variable {cc : ByteArray} {nL : Nat} {own : String} {D : va_G} {cl : List vw_C} {tys : List (ClassId × FieldType)} {N : Nat} {ad : Nat → Nat} {A : Nat → Prop} {G : GW} {hi : HI} {hl : HL} {Zs : State → Prop}
variable {pc : Nat} {ls : Array Slot} {st0 rest As : List Value} {kd sd vd : Nat → Nat} {kA lA wA : Nat}
/-- a field of a constant object -/
theorem x_getO {Ts : List Cond} (K : Cx p R s m args meth c cc nL own Ts D cl tys N ad A Zs) (hS : va_S A s.heap H locs) {o n d : String} {v : Value} {q index : Nat} (hE : va_OF o n d v q A s s.heap) (hlink : Cond.fieldLink own index o n d ∈ Ts) {w : Value} (hw : v = w) (hdg : decode cc pc = .ok (.getfield index, 3)) (kk : W p l e R s m args below meth c H locs 0 0 Q (F0 m (pc + 3) ls (w :: rest))) : W p l e R s m args below meth c H locs 0 0 Q (F0 m pc ls (.ref q :: rest)) := by
  subst hw
  obtain ⟨cf, k, fi, f, cell, h1, h2, h3, h4, h5, h6⟩ := hE.kept hS.2.1
  exact W.getf K.1 K.2.1 K.2.2.2.1 (K.2.2.2.2.1 _ hlink) h1 h2 h3 h4 (v := v) h5 rfl rfl hdg kk
theorem x_bret {Φ : Int32 → HI → HL → Prop} {ty : FieldType} (K : Cx p R s m args meth c cc nL own gT D cl tys N ad A Zs) (hr : meth.sig.returnType = some ty) (hP : va_P D cl (wl N ad G hi hl) H) (hS : va_S A s.heap H locs) {v : Int32} (hv : narrow ty (.int v) = .int v) (hq : Φ v hi hl) (hdg : decode cc pc = .ok (.ireturn, 1)) : W p l e R s m args below meth c H locs 0 0 (MQ below (va_Qi (fun r (u : HI × HL) => Φ r u.1 u.2) (fun u t => va_P D cl (wl N ad G u.1 u.2) t.heap) A) args s 0 0 A) (F0 m pc ls [.int v]) :=
  W.zret K.1 K.2.1 hr hv (fun t ht _ => ⟨⟨v, (hi, hl), rfl, hq, show va_P D cl (wl N ad G hi hl) t.heap from ht.symm ▸ hP⟩, hS.F ht⟩) hS.2.2 hdg K.2.2.2.2.2.1
end RJ
set_option maxRecDepth 100000 in
set_option maxHeartbeats 4000000 in
theorem mJ_ord {l : Launch} {D : va_G} {cl : List vw_C} {tys : List (ClassId × FieldType)} {N : Nat} {ad : Nat → Nat} {G : GW} {A : Nat → Prop} {kd sd vd : Nat → Nat} {kA lA wA : Nat} {hi : HI} {hl : HL} (hD : wlD N ad A) {x : Int32} (g : vp_in x 31) {Φ : Int32 → HI → HL → Prop} (h : Φ x hi hl) : SpI l yJ_ord cJ_ord 1 (some .int) gT 0 0 [.ref (kd x.toNatClampNeg)] D cl tys N ad G A (ZX A kd sd vd kA lA wA) hi hl Φ := by
  refine Met.ofW (cc := cJ_ord) (maxL := 1) (ret := (some .int)) (by decide) rfl ?_
  intro p e s m args below meth c s₁ B hml hv
  obtain ⟨rfl, hP, hK, hZs⟩ := hv
  have K : Cx p (rmX 0 0) s m _ meth c cJ_ord 1 "java/lang/Enum" gT D cl tys N ad A (ZX A kd sd vd kA lA wA) := ⟨B.exec, B.bytes, hml, findClass_of_methodNamed B.named, fun w hw => atoms_spec B.pre w (List.mem_cons_of_mem _ hw), B.notSynchronized, hK, hD, hZs⟩
  have hL := lv_entry ([.ref (kd x.toNatClampNeg)]) (n := 1) (Nat.le_of_ble_eq_true rfl)
  rw [lg_entry_eq]
  generalize (lg_sl ([.ref (kd x.toNatClampNeg)]) ++ List.replicate (1 - (lg_sl ([.ref (kd x.toNatClampNeg)])).length) Slot.unset).toArray = ls at hL ⊢
  have hL : lv_has ls 1 [(0, .ref (kd x.toNatClampNeg))] := hL
  have hS : va_S A s.heap s.heap [] := va_S.rf
  have hr := B.returns
  refine lv_aload_n K.1 K.2.1 dJ_ord_0 rfl (lv_at hL 0 rfl) ?_
  refine x_getO K hS (hZs.2.2.1 _ (in_lt g)).2.2.1 flJ_7 rfl dJ_ord_1 ?_
  exact x_iret K hr hP hS (show Φ (nI x.toNatClampNeg) hi hl from (nI_in2 g (by decide)).symm ▸ h) dJ_ord_4
set_option maxRecDepth 100000 in
set_option maxHeartbeats 4000000 in
theorem mJ_cod {l : Launch} {D : va_G} {cl : List vw_C} {tys : List (ClassId × FieldType)} {N : Nat} {ad : Nat → Nat} {G : GW} {A : Nat → Prop} {kd sd vd : Nat → Nat} {kA lA wA : Nat} {hi : HI} {hl : HL} (hD : wlD N ad A) {n : Nat} (g : n < 64) {Φ : Int32 → HI → HL → Prop} (h : Φ 0 hi hl) : SpI l yJ_cod cJ_cod 1 (some .byte) gT 0 0 [.ref (sd n)] D cl tys N ad G A (ZX A kd sd vd kA lA wA) hi hl Φ := by
  refine Met.ofW (cc := cJ_cod) (maxL := 1) (ret := (some .byte)) (by decide) rfl ?_
  intro p e s m args below meth c s₁ B hml hv
  obtain ⟨rfl, hP, hK, hZs⟩ := hv
  have K : Cx p (rmX 0 0) s m _ meth c cJ_cod 1 "java/lang/String" gT D cl tys N ad A (ZX A kd sd vd kA lA wA) := ⟨B.exec, B.bytes, hml, findClass_of_methodNamed B.named, fun w hw => atoms_spec B.pre w (List.mem_cons_of_mem _ hw), B.notSynchronized, hK, hD, hZs⟩
  have hL := lv_entry ([.ref (sd n)]) (n := 1) (Nat.le_of_ble_eq_true rfl)
  rw [lg_entry_eq]
  generalize (lg_sl ([.ref (sd n)]) ++ List.replicate (1 - (lg_sl ([.ref (sd n)])).length) Slot.unset).toArray = ls at hL ⊢
  have hL : lv_has ls 1 [(0, .ref (sd n))] := hL
  have hS : va_S A s.heap s.heap [] := va_S.rf
  have hr := B.returns
  refine x_gets K hS hZs.2.1.2.2.2.2.2.2.1 flJ_38 dJ_cod_0 ?_
  refine lv_if_eq (tgt := 13) K.1 K.2.1 dJ_cod_3 rfl (fun hc => absurd hc (by decide)) (fun hc => ?_)
  refine lv_aload_n K.1 K.2.1 dJ_cod_6 rfl (lv_at hL 0 rfl) ?_
  refine x_getO K hS (hZs.2.2.2.1 _ g).2.1 flJ_15 rfl dJ_cod_7 ?_
  refine lv_goto (tgt := 14) K.1 K.2.1 dJ_cod_10 rfl ?_
  exact x_bret (v := 0) K hr hP hS rfl h dJ_cod_14
set_option maxRecDepth 100000 in
set_option maxHeartbeats 4000000 in
theorem mJ_lat {l : Launch} {D : va_G} {cl : List vw_C} {tys : List (ClassId × FieldType)} {N : Nat} {ad : Nat → Nat} {G : GW} {A : Nat → Prop} {kd sd vd : Nat → Nat} {kA lA wA : Nat} {hi : HI} {hl : HL} (hD : wlD N ad A) {n : Nat} (g : n < 64) {Φ : Int32 → HI → HL → Prop} (h : Φ 1 hi hl) : SpI l yJ_lat cJ_lat 1 (some .boolean) gT 0 0 [.ref (sd n)] D cl tys N ad G A (ZX A kd sd vd kA lA wA) hi hl Φ := by
  refine Met.ofW (cc := cJ_lat) (maxL := 1) (ret := (some .boolean)) (by decide) rfl ?_
  intro p e s m args below meth c s₁ B hml hv
  obtain ⟨rfl, hP, hK, hZs⟩ := hv
  have K : Cx p (rmX 0 0) s m _ meth c cJ_lat 1 "java/lang/String" gT D cl tys N ad A (ZX A kd sd vd kA lA wA) := ⟨B.exec, B.bytes, hml, findClass_of_methodNamed B.named, fun w hw => atoms_spec B.pre w (List.mem_cons_of_mem _ hw), B.notSynchronized, hK, hD, hZs⟩
  have hL := lv_entry ([.ref (sd n)]) (n := 1) (Nat.le_of_ble_eq_true rfl)
  rw [lg_entry_eq]
  generalize (lg_sl ([.ref (sd n)]) ++ List.replicate (1 - (lg_sl ([.ref (sd n)])).length) Slot.unset).toArray = ls at hL ⊢
  have hL : lv_has ls 1 [(0, .ref (sd n))] := hL
  have hS : va_S A s.heap s.heap [] := va_S.rf
  have hr := B.returns
  refine x_gets K hS hZs.2.1.2.2.2.2.2.2.1 flJ_38 dJ_lat_0 ?_
  refine lv_if_eq (tgt := 17) K.1 K.2.1 dJ_lat_3 rfl (fun hc => absurd hc (by decide)) (fun hc => ?_)
  refine lv_aload_n K.1 K.2.1 dJ_lat_6 rfl (lv_at hL 0 rfl) ?_
  refine x_getO K hS (hZs.2.2.2.1 _ g).2.1 flJ_15 rfl dJ_lat_7 ?_
  refine lv_if_ne (tgt := 17) K.1 K.2.1 dJ_lat_10 rfl (fun hc => absurd rfl hc) (fun hc => ?_)
  refine lv_iconst (v := 1) K.1 K.2.1 dJ_lat_13 (by decide) ?_
  refine lv_goto (tgt := 18) K.1 K.2.1 dJ_lat_14 rfl ?_
  exact x_zret (v := 1) K hr hP hS (Or.inr rfl) h dJ_lat_18
set_option maxRecDepth 100000 in
set_option maxHeartbeats 4000000 in
theorem mJ_len {l : Launch} {D : va_G} {cl : List vw_C} {tys : List (ClassId × FieldType)} {N : Nat} {ad : Nat → Nat} {G : GW} {A : Nat → Prop} {kd sd vd : Nat → Nat} {kA lA wA : Nat} {hi : HI} {hl : HL} (hD : wlD N ad A) {n : Nat} (g : n < 64) {Φ : Int32 → HI → HL → Prop} (h : Φ (slenC n) hi hl) : SpI l yJ_len cJ_len 1 (some .int) gT 1 20 [.ref (sd n)] D cl tys N ad G A (ZX A kd sd vd kA lA wA) hi hl Φ := by
  refine Met.ofW (cc := cJ_len) (maxL := 1) (ret := (some .int)) (by decide) rfl ?_
  intro p e s m args below meth c s₁ B hml hv
  obtain ⟨rfl, hP, hK, hZs⟩ := hv
  have K : Cx p (rmX 1 20) s m _ meth c cJ_len 1 "java/lang/String" gT D cl tys N ad A (ZX A kd sd vd kA lA wA) := ⟨B.exec, B.bytes, hml, findClass_of_methodNamed B.named, fun w hw => atoms_spec B.pre w (List.mem_cons_of_mem _ hw), B.notSynchronized, hK, hD, hZs⟩
  have hL := lv_entry ([.ref (sd n)]) (n := 1) (Nat.le_of_ble_eq_true rfl)
  rw [lg_entry_eq]
  generalize (lg_sl ([.ref (sd n)]) ++ List.replicate (1 - (lg_sl ([.ref (sd n)])).length) Slot.unset).toArray = ls at hL ⊢
  have hL : lv_has ls 1 [(0, .ref (sd n))] := hL
  have hS : va_S A s.heap s.heap [] := va_S.rf
  have hr := B.returns
  refine lv_aload_n K.1 K.2.1 dJ_len_0 rfl (lv_at hL 0 rfl) ?_
  refine x_getO K hS (hZs.2.2.2.1 _ g).2.2.1 flJ_9 rfl dJ_len_1 ?_
  refine va_tlen (v := slenC n) K.1 K.2.1 (hZs.2.2.2.1 _ g).2.2.2 hS rfl dJ_len_4 ?_
  refine lv_aload_n K.1 K.2.1 dJ_len_5 rfl (lv_at hL 0 rfl) ?_
  refine x_cRI (As := []) (rest := [.int (slenC n)]) K gT_good ZX_ok hP hS calJ_cod mlJ_cod (hZs.2.2.2.1 _ g).1 (mJ_cod hD g (Φ := fun r hi1 hl1 => r = 0 ∧ hi1 = hi ∧ hl1 = hl) ⟨rfl, rfl, rfl⟩) ⟨Nat.le_of_ble_eq_true rfl, Nat.le_of_ble_eq_true rfl⟩ rfl hL.1 rfl (Nat.le_of_ble_eq_true rfl) dJ_len_6 (fun r hi2 hl2 H1 locs1 h9 hP1 hS1 => ?_)
  obtain ⟨e1, e2, e3⟩ := h9
  subst e1
  rw [e2, e3] at hP1
  clear hP hS
  have hP := hP1
  have hS := hS1
  refine lv_ishr K.1 K.2.1 dJ_len_9 ?_
  exact x_iret K hr hP hS (show Φ (slenC n >>> ((0 : Int32) &&& 31)) hi hl from (sb_shr0 _).symm ▸ h) dJ_len_10
theorem vp_lt {x : Int32} {n : Nat} (hn : n < 2 ^ 31) (g : vp_in x n) : x < nI n := by
  obtain ⟨i, hi, rfl⟩ := vp_in_of g hn
  exact nI_lt hi hn
set_option maxRecDepth 100000 in
set_option maxHeartbeats 4000000 in
theorem mJ_preN {l : Launch} {D : va_G} {cl : List vw_C} {tys : List (ClassId × FieldType)} {N : Nat} {ad : Nat → Nat} {G : GW} {A : Nat → Prop} {kd sd vd : Nat → Nat} {kA lA wA : Nat} {hi : HI} {hl : HL} (hD : wlD N ad A) {x : Int32} {n : Nat} (hn : n < 2 ^ 31) (g : vp_in x n) {Φ : Int32 → HI → HL → Prop} (h : Φ x hi hl) : SpI l yJ_pre cJ_pre 3 (some .int) gT 0 0 [.int x, .int (nI n), .null] D cl tys N ad G A (ZX A kd sd vd kA lA wA) hi hl Φ := by
  refine Met.ofW (cc := cJ_pre) (maxL := 3) (ret := (some .int)) (by decide) rfl ?_
  intro p e s m args below meth c s₁ B hml hv
  obtain ⟨rfl, hP, hK, hZs⟩ := hv
  have K : Cx p (rmX 0 0) s m _ meth c cJ_pre 3 "jdk/internal/util/Preconditions" gT D cl tys N ad A (ZX A kd sd vd kA lA wA) := ⟨B.exec, B.bytes, hml, findClass_of_methodNamed B.named, fun w hw => atoms_spec B.pre w (List.mem_cons_of_mem _ hw), B.notSynchronized, hK, hD, hZs⟩
  have hL := lv_entry ([.int x, .int (nI n), .null]) (n := 3) (Nat.le_of_ble_eq_true rfl)
  rw [lg_entry_eq]
  generalize (lg_sl ([.int x, .int (nI n), .null]) ++ List.replicate (3 - (lg_sl ([.int x, .int (nI n), .null])).length) Slot.unset).toArray = ls at hL ⊢
  have hL : lv_has ls 3 [(0, .int x), (1, .int (nI n)), (2, .null)] := hL
  have hS : va_S A s.heap s.heap [] := va_S.rf
  have hr := B.returns
  refine lv_iload_n K.1 K.2.1 dJ_pre_0 rfl (lv_at hL 0 rfl) ?_
  refine lv_if_lt (tgt := 9) K.1 K.2.1 dJ_pre_1 rfl (fun hc => absurd (Or.inl hc) g) (fun hc => ?_)
  refine lv_iload_n K.1 K.2.1 dJ_pre_4 rfl (lv_at hL 0 rfl) ?_
  refine lv_iload_n K.1 K.2.1 dJ_pre_5 rfl (lv_at hL 1 rfl) ?_
  refine lv_icmp_lt (tgt := 16) K.1 K.2.1 dJ_pre_6 rfl (fun hc => ?_) (fun hc => absurd (vp_lt hn g) hc)
  refine lv_iload_n K.1 K.2.1 dJ_pre_16 rfl (lv_at hL 0 rfl) ?_
  exact x_iret K hr hP hS h dJ_pre_17
set_option maxRecDepth 100000 in
set_option maxHeartbeats 4000000 in
theorem mJ_preR {l : Launch} {D : va_G} {cl : List vw_C} {tys : List (ClassId × FieldType)} {N : Nat} {ad : Nat → Nat} {G : GW} {A : Nat → Prop} {kd sd vd : Nat → Nat} {kA lA wA : Nat} {hi : HI} {hl : HL} (hD : wlD N ad A) {x : Int32} {n : Nat} (hn : n < 2 ^ 31) (g : vp_in x n) {t : Nat} {Φ : Int32 → HI → HL → Prop} (h : Φ x hi hl) : SpI l yJ_pre cJ_pre 3 (some .int) gT 0 0 [.int x, .int (nI n), .ref t] D cl tys N ad G A (ZX A kd sd vd kA lA wA) hi hl Φ := by
  refine Met.ofW (cc := cJ_pre) (maxL := 3) (ret := (some .int)) (by decide) rfl ?_
  intro p e s m args below meth c s₁ B hml hv
  obtain ⟨rfl, hP, hK, hZs⟩ := hv
  have K : Cx p (rmX 0 0) s m _ meth c cJ_pre 3 "jdk/internal/util/Preconditions" gT D cl tys N ad A (ZX A kd sd vd kA lA wA) := ⟨B.exec, B.bytes, hml, findClass_of_methodNamed B.named, fun w hw => atoms_spec B.pre w (List.mem_cons_of_mem _ hw), B.notSynchronized, hK, hD, hZs⟩
  have hL := lv_entry ([.int x, .int (nI n), .ref t]) (n := 3) (Nat.le_of_ble_eq_true rfl)
  rw [lg_entry_eq]
  generalize (lg_sl ([.int x, .int (nI n), .ref t]) ++ List.replicate (3 - (lg_sl ([.int x, .int (nI n), .ref t])).length) Slot.unset).toArray = ls at hL ⊢
  have hL : lv_has ls 3 [(0, .int x), (1, .int (nI n)), (2, .ref t)] := hL
  have hS : va_S A s.heap s.heap [] := va_S.rf
  have hr := B.returns
  refine lv_iload_n K.1 K.2.1 dJ_pre_0 rfl (lv_at hL 0 rfl) ?_
  refine lv_if_lt (tgt := 9) K.1 K.2.1 dJ_pre_1 rfl (fun hc => absurd (Or.inl hc) g) (fun hc => ?_)
  refine lv_iload_n K.1 K.2.1 dJ_pre_4 rfl (lv_at hL 0 rfl) ?_
  refine lv_iload_n K.1 K.2.1 dJ_pre_5 rfl (lv_at hL 1 rfl) ?_
  refine lv_icmp_lt (tgt := 16) K.1 K.2.1 dJ_pre_6 rfl (fun hc => ?_) (fun hc => absurd (vp_lt hn g) hc)
  refine lv_iload_n K.1 K.2.1 dJ_pre_16 rfl (lv_at hL 0 rfl) ?_
  exact x_iret K hr hP hS h dJ_pre_17
set_option maxRecDepth 100000 in
set_option maxHeartbeats 4000000 in
theorem mJ_chk {l : Launch} {D : va_G} {cl : List vw_C} {tys : List (ClassId × FieldType)} {N : Nat} {ad : Nat → Nat} {G : GW} {A : Nat → Prop} {kd sd vd : Nat → Nat} {kA lA wA : Nat} {hi : HI} {hl : HL} (hD : wlD N ad A) {x : Int32} {n : Nat} (hn : n < 2 ^ 31) (g : vp_in x n) {Φ : HI → HL → Prop} (h : Φ hi hl) : SpV l yJ_chk cJ_chk 2 none gT 1 22 [.int x, .int (nI n)] D cl tys N ad G A (ZX A kd sd vd kA lA wA) hi hl Φ := by
  refine Met.ofW (cc := cJ_chk) (maxL := 2) (ret := none) (by decide) rfl ?_
  intro p e s m args below meth c s₁ B hml hv
  obtain ⟨rfl, hP, hK, hZs⟩ := hv
  have K : Cx p (rmX 1 22) s m _ meth c cJ_chk 2 "java/lang/String" gT D cl tys N ad A (ZX A kd sd vd kA lA wA) := ⟨B.exec, B.bytes, hml, findClass_of_methodNamed B.named, fun w hw => atoms_spec B.pre w (List.mem_cons_of_mem _ hw), B.notSynchronized, hK, hD, hZs⟩
  have hL := lv_entry ([.int x, .int (nI n)]) (n := 2) (Nat.le_of_ble_eq_true rfl)
  rw [lg_entry_eq]
  generalize (lg_sl ([.int x, .int (nI n)]) ++ List.replicate (2 - (lg_sl ([.int x, .int (nI n)])).length) Slot.unset).toArray = ls at hL ⊢
  have hL : lv_has ls 2 [(0, .int x), (1, .int (nI n))] := hL
  have hS : va_S A s.heap s.heap [] := va_S.rf
  have hr := B.returns
  refine lv_iload_n K.1 K.2.1 dJ_chk_0 rfl (lv_at hL 0 rfl) ?_
  refine lv_iload_n K.1 K.2.1 dJ_chk_1 rfl (lv_at hL 1 rfl) ?_
  rcases hZs.2.1.2.2.2.2.2.2.2 with hq | ⟨t, hq⟩
  · refine x_gets K hS hq flJ_1053 dJ_chk_2 ?_
    refine x_cSI (As := [.int x, .int (nI n), .null]) (rest := []) K gT_good ZX_ok hP hS calJ_pre mlJ_pre (mJ_preN hD hn g (Φ := fun r hi1 hl1 => hi1 = hi ∧ hl1 = hl) ⟨rfl, rfl⟩) ⟨Nat.le_of_ble_eq_true rfl, Nat.le_of_ble_eq_true rfl⟩ rfl hL.1 rfl (Nat.le_of_ble_eq_true rfl) dJ_chk_5 (fun r hi2 hl2 H1 locs1 h9 hP1 hS1 => ?_)
    obtain ⟨e2, e3⟩ := h9
    rw [e2, e3] at hP1
    clear hP hS
    have hP := hP1
    have hS := hS1
    refine lv_pop K.1 K.2.1 dJ_chk_8 rfl ?_
    exact x_vret K hr hP hS h dJ_chk_9
  · refine x_gets K hS hq flJ_1053 dJ_chk_2 ?_
    refine x_cSI (As := [.int x, .int (nI n), .ref t]) (rest := []) K gT_good ZX_ok hP hS calJ_pre mlJ_pre (mJ_preR hD hn g (Φ := fun r hi1 hl1 => hi1 = hi ∧ hl1 = hl) ⟨rfl, rfl⟩) ⟨Nat.le_of_ble_eq_true rfl, Nat.le_of_ble_eq_true rfl⟩ rfl hL.1 rfl (Nat.le_of_ble_eq_true rfl) dJ_chk_5 (fun r hi2 hl2 H1 locs1 h9 hP1 hS1 => ?_)
    obtain ⟨e2, e3⟩ := h9
    rw [e2, e3] at hP1
    clear hP hS
    have hP := hP1
    have hS := hS1
    refine lv_pop K.1 K.2.1 dJ_chk_8 rfl ?_
    exact x_vret K hr hP hS h dJ_chk_9
theorem slen_lt : ∀ n, n < 64 → slenN n < 2 ^ 31 := by decide +kernel
theorem schar_i2c : ∀ n, n < 64 → ∀ j, j < slenN n → ((scharC n j &&& 255).toUInt32 % 65536).toInt32 = scharC n j := by decide +kernel
theorem schar_nar : ∀ n, n < 64 → ∀ j, j < slenN n → vp_nar .char (scharC n j) = scharC n j := by decide +kernel
theorem nar_c {x : Int32} (h : vp_nar .char x = x) : narrow .char (.int x) = .int x := by
  rw [vp_nar_char] at h
  show Value.int _ = Value.int _
  first | (rw [h]) | (congr 1)
set_option maxRecDepth 100000 in
set_option maxHeartbeats 4000000 in
theorem mJ_lch {l : Launch} {D : va_G} {cl : List vw_C} {tys : List (ClassId × FieldType)} {N : Nat} {ad : Nat → Nat} {G : GW} {A : Nat → Prop} {kd sd vd : Nat → Nat} {kA lA wA : Nat} {hi : HI} {hl : HL} (hD : wlD N ad A) {n : Nat} (g : n < 64) {x : Int32} (g2 : vp_in x (slenN n)) {Φ : Int32 → HI → HL → Prop} (h : Φ (scharC n x.toNatClampNeg) hi hl) : SpI l yJ_lch cJ_lch 2 (some .char) gT 2 43 [.ref (vd n), .int x] D cl tys N ad G A (ZX A kd sd vd kA lA wA) hi hl Φ := by
  refine Met.ofW (cc := cJ_lch) (maxL := 2) (ret := (some .char)) (by decide) rfl ?_
  intro p e s m args below meth c s₁ B hml hv
  obtain ⟨rfl, hP, hK, hZs⟩ := hv
  have K : Cx p (rmX 2 43) s m _ meth c cJ_lch 2 "java/lang/StringLatin1" gT D cl tys N ad A (ZX A kd sd vd kA lA wA) := ⟨B.exec, B.bytes, hml, findClass_of_methodNamed B.named, fun w hw => atoms_spec B.pre w (List.mem_cons_of_mem _ hw), B.notSynchronized, hK, hD, hZs⟩
  have hL := lv_entry ([.ref (vd n), .int x]) (n := 2) (Nat.le_of_ble_eq_true rfl)
  rw [lg_entry_eq]
  generalize (lg_sl ([.ref (vd n), .int x]) ++ List.replicate (2 - (lg_sl ([.ref (vd n), .int x])).length) Slot.unset).toArray = ls at hL ⊢
  have hL : lv_has ls 2 [(0, .ref (vd n)), (1, .int x)] := hL
  have hS : va_S A s.heap s.heap [] := va_S.rf
  have hr := B.returns
  have hT := (hZs.2.2.2.1 _ g).2.2.2
  refine lv_iload_n K.1 K.2.1 dJ_lch_0 rfl (lv_at hL 1 rfl) ?_
  refine lv_aload_n K.1 K.2.1 dJ_lch_1 rfl (lv_at hL 0 rfl) ?_
  refine va_tlen (v := nI (slenN n)) K.1 K.2.1 hT hS rfl dJ_lch_2 ?_
  refine x_cSV (As := [.int x, .int (nI (slenN n))]) (rest := []) K gT_good ZX_ok hP hS calJ_chk mlJ_chk (mJ_chk hD (slen_lt n g) g2 (Φ := fun hi1 hl1 => hi1 = hi ∧ hl1 = hl) ⟨rfl, rfl⟩) ⟨Nat.le_of_ble_eq_true rfl, Nat.le_of_ble_eq_true rfl⟩ rfl hL.1 rfl (Nat.le_of_ble_eq_true rfl) dJ_lch_3 (fun hi2 hl2 H1 locs1 h9 hP1 hS1 => ?_)
  obtain ⟨e2, e3⟩ := h9
  rw [e2, e3] at hP1
  clear hP hS
  have hP := hP1
  have hS := hS1
  refine lv_aload_n K.1 K.2.1 dJ_lch_6 rfl (lv_at hL 0 rfl) ?_
  refine lv_iload_n K.1 K.2.1 dJ_lch_7 rfl (lv_at hL 1 rfl) ?_
  refine va_tb (v := .int (scharC n x.toNatClampNeg)) K.1 K.2.1 hT hS g2 rfl dJ_lch_8 ?_
  refine lv_sipush (v := 255) K.1 K.2.1 dJ_lch_9 (by decide) ?_
  refine lv_iand K.1 K.2.1 dJ_lch_12 ?_
  refine lv_i2c K.1 K.2.1 dJ_lch_13 (schar_i2c n g _ (in_lt g2)) ?_
  exact x_bret K hr hP hS (nar_c (schar_nar n g _ (in_lt g2))) h dJ_lch_14
set_option maxRecDepth 100000 in
set_option maxHeartbeats 4000000 in
theorem mJ_chr {l : Launch} {D : va_G} {cl : List vw_C} {tys : List (ClassId × FieldType)} {N : Nat} {ad : Nat → Nat} {G : GW} {A : Nat → Prop} {kd sd vd : Nat → Nat} {kA lA wA : Nat} {hi : HI} {hl : HL} (hD : wlD N ad A) {n : Nat} (g : n < 64) {x : Int32} (g2 : vp_in x (slenN n)) {Φ : Int32 → HI → HL → Prop} (h : Φ (scharC n x.toNatClampNeg) hi hl) : SpI l yJ_chr cJ_chr 2 (some .char) gT 3 64 [.ref (sd n), .int x] D cl tys N ad G A (ZX A kd sd vd kA lA wA) hi hl Φ := by
  refine Met.ofW (cc := cJ_chr) (maxL := 2) (ret := (some .char)) (by decide) rfl ?_
  intro p e s m args below meth c s₁ B hml hv
  obtain ⟨rfl, hP, hK, hZs⟩ := hv
  have K : Cx p (rmX 3 64) s m _ meth c cJ_chr 2 "java/lang/String" gT D cl tys N ad A (ZX A kd sd vd kA lA wA) := ⟨B.exec, B.bytes, hml, findClass_of_methodNamed B.named, fun w hw => atoms_spec B.pre w (List.mem_cons_of_mem _ hw), B.notSynchronized, hK, hD, hZs⟩
  have hL := lv_entry ([.ref (sd n), .int x]) (n := 2) (Nat.le_of_ble_eq_true rfl)
  rw [lg_entry_eq]
  generalize (lg_sl ([.ref (sd n), .int x]) ++ List.replicate (2 - (lg_sl ([.ref (sd n), .int x])).length) Slot.unset).toArray = ls at hL ⊢
  have hL : lv_has ls 2 [(0, .ref (sd n)), (1, .int x)] := hL
  have hS : va_S A s.heap s.heap [] := va_S.rf
  have hr := B.returns
  refine lv_aload_n K.1 K.2.1 dJ_chr_0 rfl (lv_at hL 0 rfl) ?_
  refine x_cRI (As := []) (rest := []) K gT_good ZX_ok hP hS calJ_lat mlJ_lat (hZs.2.2.2.1 _ g).1 (mJ_lat hD g (Φ := fun r hi1 hl1 => r = 1 ∧ hi1 = hi ∧ hl1 = hl) ⟨rfl, rfl, rfl⟩) ⟨Nat.le_of_ble_eq_true rfl, Nat.le_of_ble_eq_true rfl⟩ rfl hL.1 rfl (Nat.le_of_ble_eq_true rfl) dJ_chr_1 (fun r hi2 hl2 H1 locs1 h9 hP1 hS1 => ?_)
  obtain ⟨e1, e2, e3⟩ := h9
  subst e1
  rw [e2, e3] at hP1
  clear hP hS
  have hP := hP1
  have hS := hS1
  refine lv_if_eq (tgt := 16) K.1 K.2.1 dJ_chr_4 rfl (fun hc => absurd hc (by decide)) (fun hc => ?_)
  refine lv_aload_n K.1 K.2.1 dJ_chr_7 rfl (lv_at hL 0 rfl) ?_
  refine x_getO K hS (hZs.2.2.2.1 _ g).2.2.1 flJ_9 rfl dJ_chr_8 ?_
  refine lv_iload_n K.1 K.2.1 dJ_chr_11 rfl (lv_at hL 1 rfl) ?_
  refine x_cSI (As := [.ref (vd n), .int x]) (rest := []) K gT_good ZX_ok hP hS calJ_lch mlJ_lch (mJ_lch hD g g2 (Φ := fun r hi1 hl1 => r = scharC n x.toNatClampNeg ∧ hi1 = hi ∧ hl1 = hl) ⟨rfl, rfl, rfl⟩) ⟨Nat.le_of_ble_eq_true rfl, Nat.le_of_ble_eq_true rfl⟩ rfl hL.1 rfl (Nat.le_of_ble_eq_true rfl) dJ_chr_12 (fun r hi2 hl2 H1 locs1 h9 hP1 hS1 => ?_)
  obtain ⟨e1, e2, e3⟩ := h9
  subst e1
  rw [e2, e3] at hP1
  clear hP hS
  have hP := hP1
  have hS := hS1
  exact x_bret K hr hP hS (nar_c (schar_nar n g _ (in_lt g2))) h dJ_chr_15
section RK
variable {p : Program} {l : Launch} {e : Env} {R : Room} {s : State} {m : MethodId} {args : Array Value} {below : List Frame} {meth : Method} {c : Code} {H : Heap} {locs : List Loc} {Q : State → Prop}
variable {cc : ByteArray} {nL : Nat} {own : String} {D : va_G} {cl : List vw_C} {tys : List (ClassId × FieldType)} {N : Nat} {ad : Nat → Nat} {A : Nat → Prop} {G : GW} {hi : HI} {hl : HL} {Zs : State → Prop}
variable {pc : Nat} {ls : Array Slot} {st0 rest As : List Value} {kd sd vd : Nat → Nat} {kA lA wA : Nat}
theorem x_ord (K : Cx p R s m args meth c cc nL own gT D cl tys N ad A (ZX A kd sd vd kA lA wA)) (hP : va_P D cl (wl N ad G hi hl) H) (hS : va_S A s.heap H locs) {x : Int32} (g : vp_in x 31) {index : Nat} (hlink : Cond.methodLink own index ⟨"WordChecker$Kind", "ordinal", "()I"⟩ ∈ gT) (hR : 1 ≤ R.frames ∧ 20 ≤ R.locals) (hls : ls.size = nL) (hW : (rest.map fun v => v.category).sum ≤ 8) (hdg : decode cc pc = .ok (.invokevirtual index, 3)) (kk : ∀ (H1 : Heap) (locs1 : List Loc), va_P D cl (wl N ad G hi hl) H1 → va_S A s.heap H1 locs1 → W p l e R s m args below meth c H1 locs1 0 0 Q (F0 m (pc + 3) ls (.int x :: rest))) : W p l e R s m args below meth c H locs 0 0 Q (F0 m pc ls (.ref (kd x.toNatClampNeg) :: rest)) := by
  have hts := K.2.2.2.2.1
  obtain ⟨cell, r1, r2, r3, -⟩ := (K.2.2.2.2.2.2.2.2.2.2.1 _ (in_lt g)).2.1.kept hS.2.1
  have hT : GoodIn gT (va_wsU own index "WordChecker$Kind" "java/lang/Enum" yJ_kord yJ_ord (Cond.code yJ_ord cJ_ord 1 (some .int) :: gT)) := by
    intro w hw
    have hg : w ∈ gT := by
      simp only [va_wsU, List.mem_append, List.mem_cons, List.not_mem_nil, or_false] at hw
      rcases hw with (rfl | rfl | rfl | rfl | rfl) | rfl | hw
      · exact hlink
      · exact gT_1 (i := 470) (by decide +kernel) rfl
      · exact gT_1 (i := 472) (by decide +kernel) rfl
      · exact gT_1 (i := 473) (by decide +kernel) rfl
      · exact gT_1 (i := 13) (by decide +kernel) rfl
      · exact gT_1 (i := 474) (by decide +kernel) rfl
      · exact hw
    exact ⟨hg, good_of_word (gT_good w hg)⟩
  refine va_calli (va_runU (C := "WordChecker$Kind") (owner := "java/lang/Enum") (x := yJ_kord) (As := []) (rest := rest) ⟨K.1, K.2.1, K.2.2.1, K.2.2.2.1, hts⟩ (mJ_ord (l := l) K.2.2.2.2.2.2.2.1 g (Φ := fun r hi1 hl1 => r = x ∧ hi1 = hi ∧ hl1 = hl) ⟨rfl, rfl, rfl⟩) (va_cwU 0 hts hT rfl rfl rfl rfl (by decide +kernel) hR) ⟨x_blind ZX_ok, ⟨cell, r1, r2, r3⟩, x_pre K ZX_ok hP hS⟩ rfl rfl hls rfl (lv_room hW) hdg ⟨Nat.zero_le _, Nat.zero_le _⟩) hS (fun q _ h => h) (fun q h => h) (fun r u t H1 locs1 ht hvm hq hB hz hk1 hS1 => ?_)
  obtain ⟨rfl, e1, e2⟩ := hq
  refine kk H1 locs1 ?_ hS1
  rw [← ht, ← e1, ← e2]
  exact hB
theorem x_slen (K : Cx p R s m args meth c cc nL own gT D cl tys N ad A (ZX A kd sd vd kA lA wA)) (hP : va_P D cl (wl N ad G hi hl) H) (hS : va_S A s.heap H locs) {n : Nat} (g : n < 64) {index : Nat} (hlink : Cond.methodLink own index ⟨"java/lang/String", "length", "()I"⟩ ∈ gT) (hR : 2 ≤ R.frames ∧ 40 ≤ R.locals) (hls : ls.size = nL) (hW : (rest.map fun v => v.category).sum ≤ 8) (hdg : decode cc pc = .ok (.invokevirtual index, 3)) (kk : ∀ (H1 : Heap) (locs1 : List Loc), va_P D cl (wl N ad G hi hl) H1 → va_S A s.heap H1 locs1 → W p l e R s m args below meth c H1 locs1 0 0 Q (F0 m (pc + 3) ls (.int (slenC n) :: rest))) : W p l e R s m args below meth c H locs 0 0 Q (F0 m pc ls (.ref (sd n) :: rest)) := by
  refine x_cRI (y := yJ_len) (As := []) (rest := rest) K gT_good ZX_ok hP hS calJ_len hlink (K.2.2.2.2.2.2.2.2.2.2.2.1 _ g).1 (mJ_len K.2.2.2.2.2.2.2.1 g (Φ := fun r hi1 hl1 => r = slenC n ∧ hi1 = hi ∧ hl1 = hl) ⟨rfl, rfl, rfl⟩) hR rfl hls rfl hW hdg (fun r hi2 hl2 H1 locs1 h9 hP1 hS1 => ?_)
  obtain ⟨e1, e2, e3⟩ := h9
  subst e1
  rw [e2, e3] at hP1
  clear hP hS
  have hP := hP1
  have hS := hS1
  exact kk H1 locs1 hP hS
theorem x_schar (K : Cx p R s m args meth c cc nL own gT D cl tys N ad A (ZX A kd sd vd kA lA wA)) (hP : va_P D cl (wl N ad G hi hl) H) (hS : va_S A s.heap H locs) {n : Nat} {x : Int32} (g : n < 64) (g2 : vp_in x (slenN n)) {index : Nat} (hlink : Cond.methodLink own index ⟨"java/lang/String", "charAt", "(I)C"⟩ ∈ gT) (hR : 4 ≤ R.frames ∧ 85 ≤ R.locals) (hls : ls.size = nL) (hW : (rest.map fun v => v.category).sum ≤ 8) (hdg : decode cc pc = .ok (.invokevirtual index, 3)) (kk : ∀ (H1 : Heap) (locs1 : List Loc), va_P D cl (wl N ad G hi hl) H1 → va_S A s.heap H1 locs1 → W p l e R s m args below meth c H1 locs1 0 0 Q (F0 m (pc + 3) ls (.int (scharC n x.toNatClampNeg) :: rest))) : W p l e R s m args below meth c H locs 0 0 Q (F0 m pc ls (.int x :: .ref (sd n) :: rest)) := by
  refine x_cRI (y := yJ_chr) (As := [.int x]) (rest := rest) K gT_good ZX_ok hP hS calJ_chr hlink (K.2.2.2.2.2.2.2.2.2.2.2.1 _ g).1 (mJ_chr K.2.2.2.2.2.2.2.1 g g2 (Φ := fun r hi1 hl1 => r = scharC n x.toNatClampNeg ∧ hi1 = hi ∧ hl1 = hl) ⟨rfl, rfl, rfl⟩) hR rfl hls rfl hW hdg (fun r hi2 hl2 H1 locs1 h9 hP1 hS1 => ?_)
  obtain ⟨e1, e2, e3⟩ := h9
  subst e1
  rw [e2, e3] at hP1
  clear hP hS
  have hP := hP1
  have hS := hS1
  exact kk H1 locs1 hP hS
end RK
