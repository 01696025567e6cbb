set_option maxRecDepth 100000 in
set_option maxHeartbeats 4000000 in
theorem bG_equal_6 {p : Program} {l : Launch} {e : Env} {s : State} {m : MethodId} {args : Array Value} {below : List Frame} {meth : Method} {c : Code} {D : va_G} {cI cJ cC cZ cR : ClassId} {ad kd sd vd : Nat → Nat} {kA lA wA : Nat} {A : Nat → Prop} (K : Cx p (rmX 0 0) s m args meth c cG_equal 4 "WordChecker$Gates" gT D cls8 (tys5 cI cJ cC cZ cR) 64 ad A (ZX A kd sd vd kA lA wA)) (hr : meth.sig.returnType = (some .long)) (hZ : ZsOK A (ZX A kd sd vd kA lA wA)) {Φ : Int64 → HI → HL → Prop} {n : Nat} {v1 : Int64} {v3 : Int32} {hi : HI} {hl : HL} {H : Heap} {locs : List Loc} (h : wbG_equal_6 n v1 v3 hi hl Φ) {ls : Array Slot} (hL : lv_has ls 4 [(0, .ref (ad 13)), (1, .long v1), (3, .int v3)]) (hP : va_P D cls8 (wl 64 ad (GX cI cJ cC cZ cR ad kd) hi hl) H) (hS : va_S A s.heap H locs) : W p l e (rmX 0 0) s m args below meth c H locs 0 0 (MQ below (va_Ql (fun r (u : HI × HL) => Φ r u.1 u.2) (fun u t => va_P D cls8 (wl 64 ad (GX cI cJ cC cZ cR ad kd) u.1 u.2) t.heap) A) args s 0 0 A) (F0 m 6 ls []) := by
  induction n generalizing v1 v3 hi hl ls H locs with
  | zero => exact False.elim h
  | succ n ih =>
    unfold wbG_equal_6 at h
    refine lv_iload_n K.1 K.2.1 dG_equal_6 rfl (lv_at hL 2 rfl) ?_
    refine lv_aload_n K.1 K.2.1 dG_equal_7 rfl (lv_at hL 0 rfl) ?_
    refine x_get (v := .int (hi 13 7)) K hP hinG (ci := 4) rfl 13 (by decide) rfl 7 (by decide) flG_47 rfl rfl dG_equal_8 ?_
    refine lv_icmp_ge (tgt := 40) K.1 K.2.1 dG_equal_11 rfl (fun hc => ?_) (fun hc => ?_)
    · have h := h.1 hc
      refine lv_lload_n K.1 K.2.1 dG_equal_40 rfl (lv_at hL 1 rfl) ?_
      exact x_lret K hr hP hS h dG_equal_41
    · have h := h.2 hc
      refine lv_lload_n K.1 K.2.1 dG_equal_14 rfl (lv_at hL 1 rfl) ?_
      refine lv_aload_n K.1 K.2.1 dG_equal_15 rfl (lv_at hL 0 rfl) ?_
      refine x_get (v := .ref (ad 14)) K hP hinG (ci := 4) rfl 13 (by decide) rfl 0 (by decide) flG_9 rfl rfl dG_equal_16 ?_
      refine lv_iload_n K.1 K.2.1 dG_equal_19 rfl (lv_at hL 2 rfl) ?_
      obtain ⟨g1, h⟩ := h
      refine x_lald K hP 14 (by decide) 1 rfl rfl g1 dG_equal_20 ?_
      refine lv_aload_n K.1 K.2.1 dG_equal_21 rfl (lv_at hL 0 rfl) ?_
      refine x_get (v := .ref (ad 15)) K hP hinG (ci := 4) rfl 13 (by decide) rfl 1 (by decide) flG_15 rfl rfl dG_equal_22 ?_
      refine lv_iload_n K.1 K.2.1 dG_equal_25 rfl (lv_at hL 2 rfl) ?_
      obtain ⟨g2, h⟩ := h
      refine x_lald K hP 15 (by decide) 1 rfl rfl g2 dG_equal_26 ?_
      refine lv_lxor K.1 K.2.1 dG_equal_27 ?_
      refine lv_ldc2 (v := -1) K.1 K.2.1 K.2.2.2.1 (K.2.2.2.2.1 _ clG_81) dG_equal_28 ?_
      refine lv_lxor K.1 K.2.1 dG_equal_31 ?_
      refine lv_land K.1 K.2.1 dG_equal_32 ?_
      refine lv_lstore_n (lv' := [(1, .long (v1 &&& (((hl 14 (v3.toNatClampNeg)) ^^^ (hl 15 (v3.toNatClampNeg))) ^^^ (-1 : Int64)))), (0, .ref (ad 13)), (3, .int v3)]) K.1 K.2.1 dG_equal_33 rfl hL (by decide) rfl (fun ls hL => ?_)
      refine lv_iinc (k := 2) (lv' := [(3, .int (v3 + Int32.ofInt (1))), (1, .long (v1 &&& (((hl 14 (v3.toNatClampNeg)) ^^^ (hl 15 (v3.toNatClampNeg))) ^^^ (-1 : Int64)))), (0, .ref (ad 13))]) K.1 K.2.1 dG_equal_34 hL rfl rfl (by decide) rfl (fun ls hL => ?_)
      refine lv_goto (tgt := 6) K.1 K.2.1 dG_equal_37 rfl ?_
      exact ih h (lv_sub hL [2, 1, 0] rfl) hP hS
set_option maxRecDepth 100000 in
set_option maxHeartbeats 4000000 in
theorem bG_equal_0 {p : Program} {l : Launch} {e : Env} {s : State} {m : MethodId} {args : Array Value} {below : List Frame} {meth : Method} {c : Code} {D : va_G} {cI cJ cC cZ cR : ClassId} {ad kd sd vd : Nat → Nat} {kA lA wA : Nat} {A : Nat → Prop} (K : Cx p (rmX 0 0) s m args meth c cG_equal 4 "WordChecker$Gates" gT D cls8 (tys5 cI cJ cC cZ cR) 64 ad A (ZX A kd sd vd kA lA wA)) (hr : meth.sig.returnType = (some .long)) (hZ : ZsOK A (ZX A kd sd vd kA lA wA)) {Φ : Int64 → HI → HL → Prop} {hi : HI} {hl : HL} {H : Heap} {locs : List Loc} (h : wbG_equal_0 hi hl Φ) {ls : Array Slot} (hL : lv_has ls 4 [(0, .ref (ad 13))]) (hP : va_P D cls8 (wl 64 ad (GX cI cJ cC cZ cR ad kd) hi hl) H) (hS : va_S A s.heap H locs) : W p l e (rmX 0 0) s m args below meth c H locs 0 0 (MQ below (va_Ql (fun r (u : HI × HL) => Φ r u.1 u.2) (fun u t => va_P D cls8 (wl 64 ad (GX cI cJ cC cZ cR ad kd) u.1 u.2) t.heap) A) args s 0 0 A) (F0 m 0 ls []) := by
  unfold wbG_equal_0 at h
  refine lv_ldc2 (v := -1) K.1 K.2.1 K.2.2.2.1 (K.2.2.2.2.1 _ clG_81) dG_equal_0 ?_
  refine lv_lstore_n (lv' := [(1, .long (-1 : Int64)), (0, .ref (ad 13))]) K.1 K.2.1 dG_equal_3 rfl hL (by decide) rfl (fun ls hL => ?_)
  refine lv_iconst (v := 0) K.1 K.2.1 dG_equal_4 (by decide) ?_
  refine lv_istore_n (lv' := [(3, .int (0 : Int32)), (1, .long (-1 : Int64)), (0, .ref (ad 13))]) K.1 K.2.1 dG_equal_5 rfl hL (by decide) rfl (fun ls hL => ?_)
  obtain ⟨fu, h⟩ := h
  exact bG_equal_6 K hr hZ h (lv_sub hL [2, 1, 0] rfl) hP hS
set_option maxRecDepth 100000 in
set_option maxHeartbeats 4000000 in
theorem mG_equal {l : Launch} {D : va_G} {cI cJ cC cZ cR : ClassId} {ad kd sd vd : Nat → Nat} {kA lA wA : Nat} {A : Nat → Prop} (hZ : ZsOK A (ZX A kd sd vd kA lA wA)) (hD : wlD 64 ad A) {hi : HI} {hl : HL} {Φ : Int64 → HI → HL → Prop} (h : wpG_equal hi hl Φ) : SpJ l yG_equal cG_equal 4 (some .long) gT 0 0 [.ref (ad 13)] D cls8 (tys5 cI cJ cC cZ cR) 64 ad (GX cI cJ cC cZ cR ad kd) A (ZX A kd sd vd kA lA wA) hi hl Φ := by
  refine Met.ofW (cc := cG_equal) (maxL := 4) (ret := (some .long)) (by decide) rfl ?_
  intro p e s m args below meth c s₁ B hml hv
  obtain ⟨rfl, hP, hK, hZs⟩ := hv
  have K : Cx p (rmX 0 0) s m _ meth c cG_equal 4 "WordChecker$Gates" gT D cls8 (tys5 cI cJ cC cZ cR) 64 ad A (ZX A kd sd vd kA lA wA) := ⟨B.exec, B.bytes, hml, findClass_of_methodNamed B.named, fun w hw => atoms_spec B.pre w (List.mem_cons_of_mem _ hw), B.notSynchronized, hK, hD, hZs⟩
  have hL := lv_entry ([.ref (ad 13)]) (n := 4) (Nat.le_of_ble_eq_true rfl)
  rw [lg_entry_eq]
  generalize (lg_sl ([.ref (ad 13)]) ++ List.replicate (4 - (lg_sl ([.ref (ad 13)])).length) Slot.unset).toArray = ls at hL ⊢
  have hL : lv_has ls 4 [(0, .ref (ad 13))] := hL
  unfold wpG_equal at h
  exact bG_equal_0 K B.returns hZ h (lv_sub hL [0] rfl) hP va_S.rf
set_option maxRecDepth 100000 in
set_option maxHeartbeats 4000000 in
theorem bG_swapHighest_0 {p : Program} {l : Launch} {e : Env} {s : State} {m : MethodId} {args : Array Value} {below : List Frame} {meth : Method} {c : Code} {D : va_G} {cI cJ cC cZ cR : ClassId} {ad kd sd vd : Nat → Nat} {kA lA wA : Nat} {A : Nat → Prop} (K : Cx p (rmX 0 0) s m args meth c cG_swapHighest 3 "WordChecker$Gates" gT D cls8 (tys5 cI cJ cC cZ cR) 64 ad A (ZX A kd sd vd kA lA wA)) (hr : meth.sig.returnType = none) (hZ : ZsOK A (ZX A kd sd vd kA lA wA)) {Φ : HI → HL → Prop} {hi : HI} {hl : HL} {H : Heap} {locs : List Loc} (h : wbG_swapHighest_0 hi hl Φ) {ls : Array Slot} (hL : lv_has ls 3 [(0, .ref (ad 13))]) (hP : va_P D cls8 (wl 64 ad (GX cI cJ cC cZ cR ad kd) hi hl) H) (hS : va_S A s.heap H locs) : W p l e (rmX 0 0) s m args below meth c H locs 0 0 (MQ below (va_Qv (fun (u : HI × HL) => Φ u.1 u.2) (fun u t => va_P D cls8 (wl 64 ad (GX cI cJ cC cZ cR ad kd) u.1 u.2) t.heap) A) args s 0 0 A) (F0 m 0 ls []) := by
  unfold wbG_swapHighest_0 at h
  refine lv_aload_n K.1 K.2.1 dG_swapHighest_0 rfl (lv_at hL 0 rfl) ?_
  refine x_get (v := .int (hi 13 7)) K hP hinG (ci := 4) rfl 13 (by decide) rfl 7 (by decide) flG_47 rfl rfl dG_swapHighest_1 ?_
  refine lv_if_le (tgt := 53) K.1 K.2.1 dG_swapHighest_4 rfl (fun hc => ?_) (fun hc => ?_)
  · have h := h.1 hc
    exact x_vret K hr hP hS h dG_swapHighest_53
  · have h := h.2 hc
    refine lv_aload_n K.1 K.2.1 dG_swapHighest_7 rfl (lv_at hL 0 rfl) ?_
    refine x_get (v := .ref (ad 14)) K hP hinG (ci := 4) rfl 13 (by decide) rfl 0 (by decide) flG_9 rfl rfl dG_swapHighest_8 ?_
    refine lv_aload_n K.1 K.2.1 dG_swapHighest_11 rfl (lv_at hL 0 rfl) ?_
    refine x_get (v := .int (hi 13 7)) K hP hinG (ci := 4) rfl 13 (by decide) rfl 7 (by decide) flG_47 rfl rfl dG_swapHighest_12 ?_
    refine lv_iconst (v := 1) K.1 K.2.1 dG_swapHighest_15 (by decide) ?_
    refine lv_isub K.1 K.2.1 dG_swapHighest_16 ?_
    obtain ⟨g1, h⟩ := h
    refine x_lald K hP 14 (by decide) 1 rfl rfl g1 dG_swapHighest_17 ?_
    refine lv_lstore_n (lv' := [(1, .long (hl 14 (((hi 13 7) - (1 : Int32)).toNatClampNeg))), (0, .ref (ad 13))]) K.1 K.2.1 dG_swapHighest_18 rfl hL (by decide) rfl (fun ls hL => ?_)
    refine lv_aload_n K.1 K.2.1 dG_swapHighest_19 rfl (lv_at hL 1 rfl) ?_
    refine x_get (v := .ref (ad 14)) K hP hinG (ci := 4) rfl 13 (by decide) rfl 0 (by decide) flG_9 rfl rfl dG_swapHighest_20 ?_
    refine lv_aload_n K.1 K.2.1 dG_swapHighest_23 rfl (lv_at hL 1 rfl) ?_
    refine x_get (v := .int (hi 13 7)) K hP hinG (ci := 4) rfl 13 (by decide) rfl 7 (by decide) flG_47 rfl rfl dG_swapHighest_24 ?_
    refine lv_iconst (v := 1) K.1 K.2.1 dG_swapHighest_27 (by decide) ?_
    refine lv_isub K.1 K.2.1 dG_swapHighest_28 ?_
    refine lv_aload_n K.1 K.2.1 dG_swapHighest_29 rfl (lv_at hL 1 rfl) ?_
    refine x_get (v := .ref (ad 15)) K hP hinG (ci := 4) rfl 13 (by decide) rfl 1 (by decide) flG_15 rfl rfl dG_swapHighest_30 ?_
    refine lv_aload_n K.1 K.2.1 dG_swapHighest_33 rfl (lv_at hL 1 rfl) ?_
    refine x_get (v := .int (hi 13 7)) K hP hinG (ci := 4) rfl 13 (by decide) rfl 7 (by decide) flG_47 rfl rfl dG_swapHighest_34 ?_
    refine lv_iconst (v := 1) K.1 K.2.1 dG_swapHighest_37 (by decide) ?_
    refine lv_isub K.1 K.2.1 dG_swapHighest_38 ?_
    obtain ⟨g2, h⟩ := h
    refine x_lald K hP 15 (by decide) 1 rfl rfl g2 dG_swapHighest_39 ?_
    obtain ⟨g3, h⟩ := h
    refine x_last K hP hS 14 (by decide) 1 (fun _ => rfl) rfl g3 dG_swapHighest_40 (fun H locs hP hS => ?_)
    refine lv_aload_n K.1 K.2.1 dG_swapHighest_41 rfl (lv_at hL 1 rfl) ?_
    refine x_get (v := .ref (ad 15)) K hP hinG (ci := 4) rfl 13 (by decide) rfl 1 (by decide) flG_15 rfl rfl dG_swapHighest_42 ?_
    refine lv_aload_n K.1 K.2.1 dG_swapHighest_45 rfl (lv_at hL 1 rfl) ?_
    refine x_get (v := .int (hi 13 7)) K hP hinG (ci := 4) rfl 13 (by decide) rfl 7 (by decide) flG_47 rfl rfl dG_swapHighest_46 ?_
    refine lv_iconst (v := 1) K.1 K.2.1 dG_swapHighest_49 (by decide) ?_
    refine lv_isub K.1 K.2.1 dG_swapHighest_50 ?_
    refine lv_lload_n K.1 K.2.1 dG_swapHighest_51 rfl (lv_at hL 0 rfl) ?_
    obtain ⟨g4, h⟩ := h
    refine x_last K hP hS 15 (by decide) 1 (fun _ => rfl) rfl g4 dG_swapHighest_52 (fun H locs hP hS => ?_)
    exact x_vret K hr hP hS h dG_swapHighest_53
set_option maxRecDepth 100000 in
set_option maxHeartbeats 4000000 in
theorem mG_swapHighest {l : Launch} {D : va_G} {cI cJ cC cZ cR : ClassId} {ad kd sd vd : Nat → Nat} {kA lA wA : Nat} {A : Nat → Prop} (hZ : ZsOK A (ZX A kd sd vd kA lA wA)) (hD : wlD 64 ad A) {hi : HI} {hl : HL} {Φ : HI → HL → Prop} (h : wpG_swapHighest hi hl Φ) : SpV l yG_swapHighest cG_swapHighest 3 none gT 0 0 [.ref (ad 13)] D cls8 (tys5 cI cJ cC cZ cR) 64 ad (GX cI cJ cC cZ cR ad kd) A (ZX A kd sd vd kA lA wA) hi hl Φ := by
  refine Met.ofW (cc := cG_swapHighest) (maxL := 3) (ret := none) (by decide) rfl ?_
  intro p e s m args below meth c s₁ B hml hv
  obtain ⟨rfl, hP, hK, hZs⟩ := hv
  have K : Cx p (rmX 0 0) s m _ meth c cG_swapHighest 3 "WordChecker$Gates" gT D cls8 (tys5 cI cJ cC cZ cR) 64 ad A (ZX A kd sd vd kA lA wA) := ⟨B.exec, B.bytes, hml, findClass_of_methodNamed B.named, fun w hw => atoms_spec B.pre w (List.mem_cons_of_mem _ hw), B.notSynchronized, hK, hD, hZs⟩
  have hL := lv_entry ([.ref (ad 13)]) (n := 3) (Nat.le_of_ble_eq_true rfl)
  rw [lg_entry_eq]
  generalize (lg_sl ([.ref (ad 13)]) ++ List.replicate (3 - (lg_sl ([.ref (ad 13)])).length) Slot.unset).toArray = ls at hL ⊢
  have hL : lv_has ls 3 [(0, .ref (ad 13))] := hL
  unfold wpG_swapHighest at h
  exact bG_swapHighest_0 K B.returns hZ h (lv_sub hL [0] rfl) hP va_S.rf
set_option maxRecDepth 100000 in
set_option maxHeartbeats 4000000 in
theorem bG_compare_0 {p : Program} {l : Launch} {e : Env} {s : State} {m : MethodId} {args : Array Value} {below : List Frame} {meth : Method} {c : Code} {D : va_G} {cI cJ cC cZ cR : ClassId} {ad kd sd vd : Nat → Nat} {kA lA wA : Nat} {A : Nat → Prop} (K : Cx p (rmX 2 48) s m args meth c cG_compare 2 "WordChecker$Gates" gT D cls8 (tys5 cI cJ cC cZ cR) 64 ad A (ZX A kd sd vd kA lA wA)) (hr : meth.sig.returnType = (some .long)) (hZ : ZsOK A (ZX A kd sd vd kA lA wA)) {Φ : Int64 → HI → HL → Prop} {v1 : Int32} {hi : HI} {hl : HL} {H : Heap} {locs : List Loc} (h : wbG_compare_0 v1 hi hl Φ) {ls : Array Slot} (hL : lv_has ls 2 [(0, .ref (ad 13)), (1, .ref (kd (v1.toNatClampNeg)))]) (hP : va_P D cls8 (wl 64 ad (GX cI cJ cC cZ cR ad kd) hi hl) H) (hS : va_S A s.heap H locs) : W p l e (rmX 2 48) s m args below meth c H locs 0 0 (MQ below (va_Ql (fun r (u : HI × HL) => Φ r u.1 u.2) (fun u t => va_P D cls8 (wl 64 ad (GX cI cJ cC cZ cR ad kd) u.1 u.2) t.heap) A) args s 0 0 A) (F0 m 0 ls []) := by
  unfold wbG_compare_0 at h
  refine x_gets (v := .ref wA) K hS K.2.2.2.2.2.2.2.2.2.1.2.2.2.2.1 flG_83 dG_compare_0 ?_
  refine lv_aload_n K.1 K.2.1 dG_compare_3 rfl (lv_at hL 1 rfl) ?_
  obtain ⟨g1, h⟩ := h
  refine x_ord (x := v1) (rest := [.ref wA]) K hP hS g1 mlG_92 ⟨Nat.le_of_ble_eq_true rfl, Nat.le_of_ble_eq_true rfl⟩ hL.1 (Nat.le_of_ble_eq_true rfl) dG_compare_4 (fun H locs hP hS => ?_)
  obtain ⟨g2, h⟩ := h
  refine va_ti (v := .int (swC (v1.toNatClampNeg))) K.1 K.2.1 K.2.2.2.2.2.2.2.2.2.1.2.2.2.2.2.1 hS g2 rfl dG_compare_7 ?_
  by_cases hc0 : (swC (v1.toNatClampNeg)) = 15
  · have h := h.1 hc0
    refine lv_tableIn (off := 32) (tgt := 40) K.1 K.2.1 dG_compare_8 (by rw [hc0]; decide) (by rw [hc0]; decide) (by rw [hc0]; rfl) rfl ?_
    refine lv_aload_n K.1 K.2.1 dG_compare_40 rfl (lv_at hL 0 rfl) ?_
    refine x_cVJ (As := []) (rest := []) K gT_good hZ hP hS calG_equal mlG_134 13 (by decide) rfl rfl (mG_equal hZ K.2.2.2.2.2.2.2.1 h) ⟨Nat.le_of_ble_eq_true rfl, Nat.le_of_ble_eq_true rfl⟩ rfl hL.1 rfl (Nat.le_of_ble_eq_true rfl) dG_compare_41 (fun r3 hi4 hl5 H locs h hP hS => ?_)
    refine lv_ldc2 (v := -1) K.1 K.2.1 K.2.2.2.1 (K.2.2.2.2.1 _ clG_81) dG_compare_44 ?_
    refine lv_lxor K.1 K.2.1 dG_compare_47 ?_
    exact x_lret K hr hP hS h dG_compare_48
  by_cases hc1 : (swC (v1.toNatClampNeg)) = 16
  · have h := h.2.1 hc1
    refine lv_tableIn (off := 41) (tgt := 49) K.1 K.2.1 dG_compare_8 (by rw [hc1]; decide) (by rw [hc1]; decide) (by rw [hc1]; rfl) rfl ?_
    refine lv_aload_n K.1 K.2.1 dG_compare_49 rfl (lv_at hL 0 rfl) ?_
    refine x_cVJ (As := []) (rest := []) K gT_good hZ hP hS calG_equal mlG_134 13 (by decide) rfl rfl (mG_equal hZ K.2.2.2.2.2.2.2.1 h) ⟨Nat.le_of_ble_eq_true rfl, Nat.le_of_ble_eq_true rfl⟩ rfl hL.1 rfl (Nat.le_of_ble_eq_true rfl) dG_compare_50 (fun r6 hi7 hl8 H locs h hP hS => ?_)
    exact x_lret K hr hP hS h dG_compare_53
  by_cases hc2 : (swC (v1.toNatClampNeg)) = 17
  · have h := h.2.2.1 hc2
    refine lv_tableIn (off := 55) (tgt := 63) K.1 K.2.1 dG_compare_8 (by rw [hc2]; decide) (by rw [hc2]; decide) (by rw [hc2]; rfl) rfl ?_
    refine lv_aload_n K.1 K.2.1 dG_compare_63 rfl (lv_at hL 0 rfl) ?_
    refine x_cVJ (As := []) (rest := []) K gT_good hZ hP hS calG_below mlG_141 13 (by decide) rfl rfl (mG_below hZ K.2.2.2.2.2.2.2.1 h) ⟨Nat.le_of_ble_eq_true rfl, Nat.le_of_ble_eq_true rfl⟩ rfl hL.1 rfl (Nat.le_of_ble_eq_true rfl) dG_compare_64 (fun r9 hi10 hl11 H locs h hP hS => ?_)
    exact x_lret K hr hP hS h dG_compare_67
  by_cases hc3 : (swC (v1.toNatClampNeg)) = 18
  · have h := h.2.2.2.1 hc3
    refine lv_tableIn (off := 46) (tgt := 54) K.1 K.2.1 dG_compare_8 (by rw [hc3]; decide) (by rw [hc3]; decide) (by rw [hc3]; rfl) rfl ?_
    refine lv_aload_n K.1 K.2.1 dG_compare_54 rfl (lv_at hL 0 rfl) ?_
    refine x_cVV (As := []) (rest := []) K gT_good hZ hP hS calG_swapHighest mlG_138 13 (by decide) rfl rfl (mG_swapHighest hZ K.2.2.2.2.2.2.2.1 h) ⟨Nat.le_of_ble_eq_true rfl, Nat.le_of_ble_eq_true rfl⟩ rfl hL.1 rfl (Nat.le_of_ble_eq_true rfl) dG_compare_55 (fun hi13 hl14 H locs h hP hS => ?_)
    refine lv_aload_n K.1 K.2.1 dG_compare_58 rfl (lv_at hL 0 rfl) ?_
    refine x_cVJ (As := []) (rest := []) K gT_good hZ hP hS calG_below mlG_141 13 (by decide) rfl rfl (mG_below hZ K.2.2.2.2.2.2.2.1 h) ⟨Nat.le_of_ble_eq_true rfl, Nat.le_of_ble_eq_true rfl⟩ rfl hL.1 rfl (Nat.le_of_ble_eq_true rfl) dG_compare_59 (fun r15 hi16 hl17 H locs h hP hS => ?_)
    exact x_lret K hr hP hS h dG_compare_62
  have h := h.2.2.2.2 hc0 hc1 hc2 hc3
  refine lv_tableOut (tgt := 63) K.1 K.2.1 dG_compare_8 (by have e0 := i_ne hc0 (n := 15) (by decide); have e1 := i_ne hc1 (n := 16) (by decide); have e2 := i_ne hc2 (n := 17) (by decide); have e3 := i_ne hc3 (n := 18) (by decide); omega) rfl ?_
  refine lv_aload_n K.1 K.2.1 dG_compare_63 rfl (lv_at hL 0 rfl) ?_
  refine x_cVJ (As := []) (rest := []) K gT_good hZ hP hS calG_below mlG_141 13 (by decide) rfl rfl (mG_below hZ K.2.2.2.2.2.2.2.1 h) ⟨Nat.le_of_ble_eq_true rfl, Nat.le_of_ble_eq_true rfl⟩ rfl hL.1 rfl (Nat.le_of_ble_eq_true rfl) dG_compare_64 (fun r18 hi19 hl20 H locs h hP hS => ?_)
  exact x_lret K hr hP hS h dG_compare_67
set_option maxRecDepth 100000 in
set_option maxHeartbeats 4000000 in
theorem mG_compare {l : Launch} {D : va_G} {cI cJ cC cZ cR : ClassId} {ad kd sd vd : Nat → Nat} {kA lA wA : Nat} {A : Nat → Prop} (hZ : ZsOK A (ZX A kd sd vd kA lA wA)) (hD : wlD 64 ad A) {v1 : Int32} {hi : HI} {hl : HL} {Φ : Int64 → HI → HL → Prop} (h : wpG_compare v1 hi hl Φ) : SpJ l yG_compare cG_compare 2 (some .long) gT 2 48 [.ref (ad 13), .ref (kd (v1.toNatClampNeg))] D cls8 (tys5 cI cJ cC cZ cR) 64 ad (GX cI cJ cC cZ cR ad kd) A (ZX A kd sd vd kA lA wA) hi hl Φ := by
  refine Met.ofW (cc := cG_compare) (maxL := 2) (ret := (some .long)) (by decide) rfl ?_
  intro p e s m args below meth c s₁ B hml hv
  obtain ⟨rfl, hP, hK, hZs⟩ := hv
  have K : Cx p (rmX 2 48) s m _ meth c cG_compare 2 "WordChecker$Gates" gT D cls8 (tys5 cI cJ cC cZ cR) 64 ad A (ZX A kd sd vd kA lA wA) := ⟨B.exec, B.bytes, hml, findClass_of_methodNamed B.named, fun w hw => atoms_spec B.pre w (List.mem_cons_of_mem _ hw), B.notSynchronized, hK, hD, hZs⟩
  have hL := lv_entry ([.ref (ad 13), .ref (kd (v1.toNatClampNeg))]) (n := 2) (Nat.le_of_ble_eq_true rfl)
  rw [lg_entry_eq]
  generalize (lg_sl ([.ref (ad 13), .ref (kd (v1.toNatClampNeg))]) ++ List.replicate (2 - (lg_sl ([.ref (ad 13), .ref (kd (v1.toNatClampNeg))])).length) Slot.unset).toArray = ls at hL ⊢
  have hL : lv_has ls 2 [(0, .ref (ad 13)), (1, .ref (kd (v1.toNatClampNeg)))] := hL
  unfold wpG_compare at h
  exact bG_compare_0 K B.returns hZ h (lv_sub hL [0, 1] rfl) hP va_S.rf
set_option maxRecDepth 100000 in
set_option maxHeartbeats 4000000 in
theorem bG_constant_31 {p : Program} {l : Launch} {e : Env} {s : State} {m : MethodId} {args : Array Value} {below : List Frame} {meth : Method} {c : Code} {D : va_G} {cI cJ cC cZ cR : ClassId} {ad kd sd vd : Nat → Nat} {kA lA wA : Nat} {A : Nat → Prop} (K : Cx p (rmX 1 22) s m args meth c cG_constant 3 "WordChecker$Gates" gT D cls8 (tys5 cI cJ cC cZ cR) 64 ad A (ZX A kd sd vd kA lA wA)) (hr : meth.sig.returnType = none) (hZ : ZsOK A (ZX A kd sd vd kA lA wA)) {Φ : HI → HL → Prop} {k2 : Int32 → Int32 → HI → HL → Prop} (hk2 : ∀ (v1 : Int32) (v2 : Int32) (hi : HI) (hl : HL) (ls : Array Slot) (H : Heap) (locs : List Loc), k2 v1 v2 hi hl → lv_has ls 3 [(0, .ref (ad 13)), (1, .int v1), (2, .int v2)] → va_P D cls8 (wl 64 ad (GX cI cJ cC cZ cR ad kd) hi hl) H → va_S A s.heap H locs → W p l e (rmX 1 22) s m args below meth c H locs 0 0 (MQ below (va_Qv (fun (u : HI × HL) => Φ u.1 u.2) (fun u t => va_P D cls8 (wl 64 ad (GX cI cJ cC cZ cR ad kd) u.1 u.2) t.heap) A) args s 0 0 A) (F0 m 2 ls [])) {v1 : Int32} {v2 : Int32} {q0 : Nat} {q1 : Int32} {q2 : Int64} {hi : HI} {hl : HL} {H : Heap} {locs : List Loc} (h : wbG_constant_31 k2 v1 v2 q0 q1 q2 hi hl Φ) (hq0 : q0 < 6) {ls : Array Slot} (hL : lv_has ls 3 [(0, .ref (ad 13)), (1, .int v1), (2, .int v2)]) (hP : va_P D cls8 (wl 64 ad (GX cI cJ cC cZ cR ad kd) hi hl) H) (hS : va_S A s.heap H locs) : W p l e (rmX 1 22) s m args below meth c H locs 0 0 (MQ below (va_Qv (fun (u : HI × HL) => Φ u.1 u.2) (fun u t => va_P D cls8 (wl 64 ad (GX cI cJ cC cZ cR ad kd) u.1 u.2) t.heap) A) args s 0 0 A) (F0 m 31 ls [.long q2, .int q1, .ref (ad (14 + q0))]) := by
  unfold wbG_constant_31 at h
  obtain ⟨g1, h⟩ := h
  refine x_last K hP hS (14 + q0) (lt_g hq0) 1 (fun _ => (GX_garr _ hq0 _ _)) rfl g1 dG_constant_31 (fun H locs hP hS => ?_)
  refine lv_iinc (k := 2) (lv' := [(2, .int (v2 + Int32.ofInt (1))), (0, .ref (ad 13)), (1, .int v1)]) K.1 K.2.1 dG_constant_32 hL rfl rfl (by decide) rfl (fun ls hL => ?_)
  refine lv_goto (tgt := 2) K.1 K.2.1 dG_constant_35 rfl ?_
  exact hk2 _ _ _ _ _ _ _ h (lv_sub hL [1, 2, 0] rfl) hP hS
set_option maxRecDepth 100000 in
set_option maxHeartbeats 4000000 in
theorem bG_constant_2 {p : Program} {l : Launch} {e : Env} {s : State} {m : MethodId} {args : Array Value} {below : List Frame} {meth : Method} {c : Code} {D : va_G} {cI cJ cC cZ cR : ClassId} {ad kd sd vd : Nat → Nat} {kA lA wA : Nat} {A : Nat → Prop} (K : Cx p (rmX 1 22) s m args meth c cG_constant 3 "WordChecker$Gates" gT D cls8 (tys5 cI cJ cC cZ cR) 64 ad A (ZX A kd sd vd kA lA wA)) (hr : meth.sig.returnType = none) (hZ : ZsOK A (ZX A kd sd vd kA lA wA)) {Φ : HI → HL → Prop} {n : Nat} {v1 : Int32} {v2 : Int32} {hi : HI} {hl : HL} {H : Heap} {locs : List Loc} (h : wbG_constant_2 n v1 v2 hi hl Φ) {ls : Array Slot} (hL : lv_has ls 3 [(0, .ref (ad 13)), (1, .int v1), (2, .int v2)]) (hP : va_P D cls8 (wl 64 ad (GX cI cJ cC cZ cR ad kd) hi hl) H) (hS : va_S A s.heap H locs) : W p l e (rmX 1 22) s m args below meth c H locs 0 0 (MQ below (va_Qv (fun (u : HI × HL) => Φ u.1 u.2) (fun u t => va_P D cls8 (wl 64 ad (GX cI cJ cC cZ cR ad kd) u.1 u.2) t.heap) A) args s 0 0 A) (F0 m 2 ls []) := by
  induction n generalizing v1 v2 hi hl ls H locs with
  | zero => exact False.elim h
  | succ n ih =>
    unfold wbG_constant_2 at h
    refine lv_iload_n K.1 K.2.1 dG_constant_2 rfl (lv_at hL 2 rfl) ?_
    refine lv_aload_n K.1 K.2.1 dG_constant_3 rfl (lv_at hL 0 rfl) ?_
    refine x_get (v := .int (hi 13 6)) K hP hinG (ci := 4) rfl 13 (by decide) rfl 6 (by decide) flG_40 rfl rfl dG_constant_4 ?_
    refine lv_icmp_ge (tgt := 38) K.1 K.2.1 dG_constant_7 rfl (fun hc => ?_) (fun hc => ?_)
    · have h := h.1 hc
      exact x_vret K hr hP hS h dG_constant_38
    · have h := h.2 hc
      refine lv_aload_n K.1 K.2.1 dG_constant_10 rfl (lv_at hL 0 rfl) ?_
      refine x_get (v := .ref (ad 17)) K hP hinG (ci := 4) rfl 13 (by decide) rfl 3 (by decide) flG_21 rfl rfl dG_constant_11 ?_
      refine lv_iload_n K.1 K.2.1 dG_constant_14 rfl (lv_at hL 2 rfl) ?_
      refine lv_iload_n K.1 K.2.1 dG_constant_15 rfl (lv_at hL 1 rfl) ?_
      refine lv_i2l K.1 K.2.1 dG_constant_16 rfl ?_
      refine lv_iload_n K.1 K.2.1 dG_constant_17 rfl (lv_at hL 2 rfl) ?_
      refine x_cSNI (As := [.long v1.toInt64, .int v2]) (rest := [.int v2, .ref (ad 17)]) K gT_good hZ hP hS calC_has (mnG_122 K.2.2.2.2.2.2.2.2) (mC_has hZ K.2.2.2.2.2.2.2.1 h) ⟨Nat.le_of_ble_eq_true rfl, Nat.le_of_ble_eq_true rfl⟩ rfl hL.1 rfl (Nat.le_of_ble_eq_true rfl) dG_constant_18 (fun r1 hi2 hl3 H locs h hP hS => ?_)
      refine lv_if_eq (tgt := 30) K.1 K.2.1 dG_constant_21 rfl (fun hc => ?_) (fun hc => ?_)
      · have h := h.1 hc
        refine lv_lconst (v := 0) K.1 K.2.1 dG_constant_30 (by decide) ?_
        exact bG_constant_31 K hr hZ (fun v1 v2 hi hl ls H locs h hL hP hS => ih h hL hP hS) h (by decide) (lv_sub hL [0, 1, 2] rfl) hP hS
      · have h := h.2 hc
        refine lv_ldc2 (v := -1) K.1 K.2.1 K.2.2.2.1 (K.2.2.2.2.1 _ clG_81) dG_constant_24 ?_
        refine lv_goto (tgt := 31) K.1 K.2.1 dG_constant_27 rfl ?_
        exact bG_constant_31 K hr hZ (fun v1 v2 hi hl ls H locs h hL hP hS => ih h hL hP hS) h (by decide) (lv_sub hL [0, 1, 2] rfl) hP hS
set_option maxRecDepth 100000 in
set_option maxHeartbeats 4000000 in
theorem bG_constant_0 {p : Program} {l : Launch} {e : Env} {s : State} {m : MethodId} {args : Array Value} {below : List Frame} {meth : Method} {c : Code} {D : va_G} {cI cJ cC cZ cR : ClassId} {ad kd sd vd : Nat → Nat} {kA lA wA : Nat} {A : Nat → Prop} (K : Cx p (rmX 1 22) s m args meth c cG_constant 3 "WordChecker$Gates" gT D cls8 (tys5 cI cJ cC cZ cR) 64 ad A (ZX A kd sd vd kA lA wA)) (hr : meth.sig.returnType = none) (hZ : ZsOK A (ZX A kd sd vd kA lA wA)) {Φ : HI → HL → Prop} {v1 : Int32} {hi : HI} {hl : HL} {H : Heap} {locs : List Loc} (h : wbG_constant_0 v1 hi hl Φ) {ls : Array Slot} (hL : lv_has ls 3 [(0, .ref (ad 13)), (1, .int v1)]) (hP : va_P D cls8 (wl 64 ad (GX cI cJ cC cZ cR ad kd) hi hl) H) (hS : va_S A s.heap H locs) : W p l e (rmX 1 22) s m args below meth c H locs 0 0 (MQ below (va_Qv (fun (u : HI × HL) => Φ u.1 u.2) (fun u t => va_P D cls8 (wl 64 ad (GX cI cJ cC cZ cR ad kd) u.1 u.2) t.heap) A) args s 0 0 A) (F0 m 0 ls []) := by
  unfold wbG_constant_0 at h
  refine lv_iconst (v := 0) K.1 K.2.1 dG_constant_0 (by decide) ?_
  refine lv_istore_n (lv' := [(2, .int (0 : Int32)), (0, .ref (ad 13)), (1, .int v1)]) K.1 K.2.1 dG_constant_1 rfl hL (by decide) rfl (fun ls hL => ?_)
  obtain ⟨fu, h⟩ := h
  exact bG_constant_2 K hr hZ h (lv_sub hL [1, 2, 0] rfl) hP hS
set_option maxRecDepth 100000 in
set_option maxHeartbeats 4000000 in
theorem mG_constant {l : Launch} {D : va_G} {cI cJ cC cZ cR : ClassId} {ad kd sd vd : Nat → Nat} {kA lA wA : Nat} {A : Nat → Prop} (hZ : ZsOK A (ZX A kd sd vd kA lA wA)) (hD : wlD 64 ad A) {v1 : Int32} {hi : HI} {hl : HL} {Φ : HI → HL → Prop} (h : wpG_constant v1 hi hl Φ) : SpV l yG_constant cG_constant 3 none gT 1 22 [.ref (ad 13), .int v1] D cls8 (tys5 cI cJ cC cZ cR) 64 ad (GX cI cJ cC cZ cR ad kd) A (ZX A kd sd vd kA lA wA) hi hl Φ := by
  refine Met.ofW (cc := cG_constant) (maxL := 3) (ret := none) (by decide) rfl ?_
  intro p e s m args below meth c s₁ B hml hv
  obtain ⟨rfl, hP, hK, hZs⟩ := hv
  have K : Cx p (rmX 1 22) s m _ meth c cG_constant 3 "WordChecker$Gates" gT D cls8 (tys5 cI cJ cC cZ cR) 64 ad A (ZX A kd sd vd kA lA wA) := ⟨B.exec, B.bytes, hml, findClass_of_methodNamed B.named, fun w hw => atoms_spec B.pre w (List.mem_cons_of_mem _ hw), B.notSynchronized, hK, hD, hZs⟩
  have hL := lv_entry ([.ref (ad 13), .int v1]) (n := 3) (Nat.le_of_ble_eq_true rfl)
  rw [lg_entry_eq]
  generalize (lg_sl ([.ref (ad 13), .int v1]) ++ List.replicate (3 - (lg_sl ([.ref (ad 13), .int v1])).length) Slot.unset).toArray = ls at hL ⊢
  have hL : lv_has ls 3 [(0, .ref (ad 13)), (1, .int v1)] := hL
  unfold wpG_constant at h
  exact bG_constant_0 K B.returns hZ h (lv_sub hL [0, 1] rfl) hP va_S.rf
set_option maxRecDepth 100000 in
set_option maxHeartbeats 4000000 in
theorem bG_cut_2 {p : Program} {l : Launch} {e : Env} {s : State} {m : MethodId} {args : Array Value} {below : List Frame} {meth : Method} {c : Code} {D : va_G} {cI cJ cC cZ cR : ClassId} {ad kd sd vd : Nat → Nat} {kA lA wA : Nat} {A : Nat → Prop} (K : Cx p (rmX 0 0) s m args meth c cG_cut 3 "WordChecker$Gates" gT D cls8 (tys5 cI cJ cC cZ cR) 64 ad A (ZX A kd sd vd kA lA wA)) (hr : meth.sig.returnType = none) (hZ : ZsOK A (ZX A kd sd vd kA lA wA)) {Φ : HI → HL → Prop} {n : Nat} {v1 : Int32} {v2 : Int32} {hi : HI} {hl : HL} {H : Heap} {locs : List Loc} (h : wbG_cut_2 n v1 v2 hi hl Φ) {ls : Array Slot} (hL : lv_has ls 3 [(0, .ref (ad 13)), (1, .int v1), (2, .int v2)]) (hP : va_P D cls8 (wl 64 ad (GX cI cJ cC cZ cR ad kd) hi hl) H) (hS : va_S A s.heap H locs) : W p l e (rmX 0 0) s m args below meth c H locs 0 0 (MQ below (va_Qv (fun (u : HI × HL) => Φ u.1 u.2) (fun u t => va_P D cls8 (wl 64 ad (GX cI cJ cC cZ cR ad kd) u.1 u.2) t.heap) A) args s 0 0 A) (F0 m 2 ls []) := by
  induction n generalizing v1 v2 hi hl ls H locs with
  | zero => exact False.elim h
  | succ n ih =>
    unfold wbG_cut_2 at h
    refine lv_iload_n K.1 K.2.1 dG_cut_2 rfl (lv_at hL 2 rfl) ?_
    refine lv_aload_n K.1 K.2.1 dG_cut_3 rfl (lv_at hL 0 rfl) ?_
    refine x_get (v := .int (hi 13 6)) K hP hinG (ci := 4) rfl 13 (by decide) rfl 6 (by decide) flG_40 rfl rfl dG_cut_4 ?_
    refine lv_icmp_ge (tgt := 40) K.1 K.2.1 dG_cut_7 rfl (fun hc => ?_) (fun hc => ?_)
    · have h := h.1 hc
      exact x_vret K hr hP hS h dG_cut_40
    · have h := h.2 hc
      refine lv_iload_n K.1 K.2.1 dG_cut_10 rfl (lv_at hL 1 rfl) ?_
      refine lv_iload_n K.1 K.2.1 dG_cut_11 rfl (lv_at hL 2 rfl) ?_
      refine lv_iadd K.1 K.2.1 dG_cut_12 ?_
      refine lv_aload_n K.1 K.2.1 dG_cut_13 rfl (lv_at hL 0 rfl) ?_
      refine x_get (v := .int (hi 13 7)) K hP hinG (ci := 4) rfl 13 (by decide) rfl 7 (by decide) flG_47 rfl rfl dG_cut_14 ?_
      refine lv_icmp_ge (tgt := 40) K.1 K.2.1 dG_cut_17 rfl (fun hc => ?_) (fun hc => ?_)
      · have h := h.1 hc
        exact x_vret K hr hP hS h dG_cut_40
      · have h := h.2 hc
        refine lv_aload_n K.1 K.2.1 dG_cut_20 rfl (lv_at hL 0 rfl) ?_
        refine x_get (v := .ref (ad 17)) K hP hinG (ci := 4) rfl 13 (by decide) rfl 3 (by decide) flG_21 rfl rfl dG_cut_21 ?_
        refine lv_iload_n K.1 K.2.1 dG_cut_24 rfl (lv_at hL 2 rfl) ?_
        refine lv_aload_n K.1 K.2.1 dG_cut_25 rfl (lv_at hL 0 rfl) ?_
        refine x_get (v := .ref (ad 14)) K hP hinG (ci := 4) rfl 13 (by decide) rfl 0 (by decide) flG_9 rfl rfl dG_cut_26 ?_
        refine lv_iload_n K.1 K.2.1 dG_cut_29 rfl (lv_at hL 1 rfl) ?_
        refine lv_iload_n K.1 K.2.1 dG_cut_30 rfl (lv_at hL 2 rfl) ?_
        refine lv_iadd K.1 K.2.1 dG_cut_31 ?_
        obtain ⟨g1, h⟩ := h
        refine x_lald K hP 14 (by decide) 1 rfl rfl g1 dG_cut_32 ?_
        obtain ⟨g2, h⟩ := h
        refine x_last K hP hS 17 (by decide) 1 (fun _ => rfl) rfl g2 dG_cut_33 (fun H locs hP hS => ?_)
        refine lv_iinc (k := 2) (lv' := [(2, .int (v2 + Int32.ofInt (1))), (0, .ref (ad 13)), (1, .int v1)]) K.1 K.2.1 dG_cut_34 hL rfl rfl (by decide) rfl (fun ls hL => ?_)
        refine lv_goto (tgt := 2) K.1 K.2.1 dG_cut_37 rfl ?_
        exact ih h (lv_sub hL [1, 2, 0] rfl) hP hS
set_option maxRecDepth 100000 in
set_option maxHeartbeats 4000000 in
theorem bG_cut_0 {p : Program} {l : Launch} {e : Env} {s : State} {m : MethodId} {args : Array Value} {below : List Frame} {meth : Method} {c : Code} {D : va_G} {cI cJ cC cZ cR : ClassId} {ad kd sd vd : Nat → Nat} {kA lA wA : Nat} {A : Nat → Prop} (K : Cx p (rmX 0 0) s m args meth c cG_cut 3 "WordChecker$Gates" gT D cls8 (tys5 cI cJ cC cZ cR) 64 ad A (ZX A kd sd vd kA lA wA)) (hr : meth.sig.returnType = none) (hZ : ZsOK A (ZX A kd sd vd kA lA wA)) {Φ : HI → HL → Prop} {v1 : Int32} {hi : HI} {hl : HL} {H : Heap} {locs : List Loc} (h : wbG_cut_0 v1 hi hl Φ) {ls : Array Slot} (hL : lv_has ls 3 [(0, .ref (ad 13)), (1, .int v1)]) (hP : va_P D cls8 (wl 64 ad (GX cI cJ cC cZ cR ad kd) hi hl) H) (hS : va_S A s.heap H locs) : W p l e (rmX 0 0) s m args below meth c H locs 0 0 (MQ below (va_Qv (fun (u : HI × HL) => Φ u.1 u.2) (fun u t => va_P D cls8 (wl 64 ad (GX cI cJ cC cZ cR ad kd) u.1 u.2) t.heap) A) args s 0 0 A) (F0 m 0 ls []) := by
  unfold wbG_cut_0 at h
  refine lv_iconst (v := 0) K.1 K.2.1 dG_cut_0 (by decide) ?_
  refine lv_istore_n (lv' := [(2, .int (0 : Int32)), (0, .ref (ad 13)), (1, .int v1)]) K.1 K.2.1 dG_cut_1 rfl hL (by decide) rfl (fun ls hL => ?_)
  obtain ⟨fu, h⟩ := h
  exact bG_cut_2 K hr hZ h (lv_sub hL [1, 2, 0] rfl) hP hS
set_option maxRecDepth 100000 in
set_option maxHeartbeats 4000000 in
theorem mG_cut {l : Launch} {D : va_G} {cI cJ cC cZ cR : ClassId} {ad kd sd vd : Nat → Nat} {kA lA wA : Nat} {A : Nat → Prop} (hZ : ZsOK A (ZX A kd sd vd kA lA wA)) (hD : wlD 64 ad A) {v1 : Int32} {hi : HI} {hl : HL} {Φ : HI → HL → Prop} (h : wpG_cut v1 hi hl Φ) : SpV l yG_cut cG_cut 3 none gT 0 0 [.ref (ad 13), .int v1] D cls8 (tys5 cI cJ cC cZ cR) 64 ad (GX cI cJ cC cZ cR ad kd) A (ZX A kd sd vd kA lA wA) hi hl Φ := by
  refine Met.ofW (cc := cG_cut) (maxL := 3) (ret := none) (by decide) rfl ?_
  intro p e s m args below meth c s₁ B hml hv
  obtain ⟨rfl, hP, hK, hZs⟩ := hv
  have K : Cx p (rmX 0 0) s m _ meth c cG_cut 3 "WordChecker$Gates" gT D cls8 (tys5 cI cJ cC cZ cR) 64 ad A (ZX A kd sd vd kA lA wA) := ⟨B.exec, B.bytes, hml, findClass_of_methodNamed B.named, fun w hw => atoms_spec B.pre w (List.mem_cons_of_mem _ hw), B.notSynchronized, hK, hD, hZs⟩
  have hL := lv_entry ([.ref (ad 13), .int v1]) (n := 3) (Nat.le_of_ble_eq_true rfl)
  rw [lg_entry_eq]
  generalize (lg_sl ([.ref (ad 13), .int v1]) ++ List.replicate (3 - (lg_sl ([.ref (ad 13), .int v1])).length) Slot.unset).toArray = ls at hL ⊢
  have hL : lv_has ls 3 [(0, .ref (ad 13)), (1, .int v1)] := hL
  unfold wpG_cut at h
  exact bG_cut_0 K B.returns hZ h (lv_sub hL [0, 1] rfl) hP va_S.rf
set_option maxRecDepth 100000 in
set_option maxHeartbeats 4000000 in
theorem bG_joinBit_0 {p : Program} {l : Launch} {e : Env} {s : State} {m : MethodId} {args : Array Value} {below : List Frame} {meth : Method} {c : Code} {D : va_G} {cI cJ cC cZ cR : ClassId} {ad kd sd vd : Nat → Nat} {kA lA wA : Nat} {A : Nat → Prop} (K : Cx p (rmX 1 25) s m args meth c cG_joinBit 3 "WordChecker$Gates" gT D cls8 (tys5 cI cJ cC cZ cR) 64 ad A (ZX A kd sd vd kA lA wA)) (hr : meth.sig.returnType = (some .long)) (hZ : ZsOK A (ZX A kd sd vd kA lA wA)) {Φ : Int64 → HI → HL → Prop} {v1 : Int32} {v2 : Int32} {hi : HI} {hl : HL} {H : Heap} {locs : List Loc} (h : wbG_joinBit_0 v1 v2 hi hl Φ) {ls : Array Slot} (hL : lv_has ls 3 [(0, .ref (ad 13)), (1, .ref (kd (v1.toNatClampNeg))), (2, .int v2)]) (hP : va_P D cls8 (wl 64 ad (GX cI cJ cC cZ cR ad kd) hi hl) H) (hS : va_S A s.heap H locs) : W p l e (rmX 1 25) s m args below meth c H locs 0 0 (MQ below (va_Ql (fun r (u : HI × HL) => Φ r u.1 u.2) (fun u t => va_P D cls8 (wl 64 ad (GX cI cJ cC cZ cR ad kd) u.1 u.2) t.heap) A) args s 0 0 A) (F0 m 0 ls []) := by
  unfold wbG_joinBit_0 at h
  refine x_gets (v := .ref wA) K hS K.2.2.2.2.2.2.2.2.2.1.2.2.2.2.1 flG_83 dG_joinBit_0 ?_
  refine lv_aload_n K.1 K.2.1 dG_joinBit_3 rfl (lv_at hL 1 rfl) ?_
  obtain ⟨g1, h⟩ := h
  refine x_ord (x := v1) (rest := [.ref wA]) K hP hS g1 mlG_92 ⟨Nat.le_of_ble_eq_true rfl, Nat.le_of_ble_eq_true rfl⟩ hL.1 (Nat.le_of_ble_eq_true rfl) dG_joinBit_4 (fun H locs hP hS => ?_)
  obtain ⟨g2, h⟩ := h
  refine va_ti (v := .int (swC (v1.toNatClampNeg))) K.1 K.2.1 K.2.2.2.2.2.2.2.2.2.1.2.2.2.2.2.1 hS g2 rfl dG_joinBit_7 ?_
  by_cases hc0 : (swC (v1.toNatClampNeg)) = 10
  · have h := h.1 hc0
    refine lv_tableIn (off := 32) (tgt := 40) K.1 K.2.1 dG_joinBit_8 (by rw [hc0]; decide) (by rw [hc0]; decide) (by rw [hc0]; rfl) rfl ?_
    refine lv_aload_n K.1 K.2.1 dG_joinBit_40 rfl (lv_at hL 0 rfl) ?_
    refine x_get (v := .ref (ad 14)) K hP hinG (ci := 4) rfl 13 (by decide) rfl 0 (by decide) flG_9 rfl rfl dG_joinBit_41 ?_
    refine lv_iload_n K.1 K.2.1 dG_joinBit_44 rfl (lv_at hL 2 rfl) ?_
    obtain ⟨g3, h⟩ := h
    refine x_lald K hP 14 (by decide) 1 rfl rfl g3 dG_joinBit_45 ?_
    refine lv_ldc2 (v := -1) K.1 K.2.1 K.2.2.2.1 (K.2.2.2.2.1 _ clG_81) dG_joinBit_46 ?_
    refine lv_lxor K.1 K.2.1 dG_joinBit_49 ?_
    exact x_lret K hr hP hS h dG_joinBit_50
  by_cases hc1 : (swC (v1.toNatClampNeg)) = 11
  · have h := h.2.1 hc1
    refine lv_tableIn (off := 43) (tgt := 51) K.1 K.2.1 dG_joinBit_8 (by rw [hc1]; decide) (by rw [hc1]; decide) (by rw [hc1]; rfl) rfl ?_
    refine lv_aload_n K.1 K.2.1 dG_joinBit_51 rfl (lv_at hL 0 rfl) ?_
    refine x_get (v := .ref (ad 14)) K hP hinG (ci := 4) rfl 13 (by decide) rfl 0 (by decide) flG_9 rfl rfl dG_joinBit_52 ?_
    refine lv_iload_n K.1 K.2.1 dG_joinBit_55 rfl (lv_at hL 2 rfl) ?_
    obtain ⟨g4, h⟩ := h
    refine x_lald K hP 14 (by decide) 1 rfl rfl g4 dG_joinBit_56 ?_
    refine lv_aload_n K.1 K.2.1 dG_joinBit_57 rfl (lv_at hL 0 rfl) ?_
    refine x_get (v := .ref (ad 15)) K hP hinG (ci := 4) rfl 13 (by decide) rfl 1 (by decide) flG_15 rfl rfl dG_joinBit_58 ?_
    refine lv_iload_n K.1 K.2.1 dG_joinBit_61 rfl (lv_at hL 2 rfl) ?_
    obtain ⟨g5, h⟩ := h
    refine x_lald K hP 15 (by decide) 1 rfl rfl g5 dG_joinBit_62 ?_
    refine lv_land K.1 K.2.1 dG_joinBit_63 ?_
    exact x_lret K hr hP hS h dG_joinBit_64
  by_cases hc2 : (swC (v1.toNatClampNeg)) = 12
  · have h := h.2.2.1 hc2
    refine lv_tableIn (off := 57) (tgt := 65) K.1 K.2.1 dG_joinBit_8 (by rw [hc2]; decide) (by rw [hc2]; decide) (by rw [hc2]; rfl) rfl ?_
    refine lv_aload_n K.1 K.2.1 dG_joinBit_65 rfl (lv_at hL 0 rfl) ?_
    refine x_get (v := .ref (ad 14)) K hP hinG (ci := 4) rfl 13 (by decide) rfl 0 (by decide) flG_9 rfl rfl dG_joinBit_66 ?_
    refine lv_iload_n K.1 K.2.1 dG_joinBit_69 rfl (lv_at hL 2 rfl) ?_
    obtain ⟨g6, h⟩ := h
    refine x_lald K hP 14 (by decide) 1 rfl rfl g6 dG_joinBit_70 ?_
    refine lv_aload_n K.1 K.2.1 dG_joinBit_71 rfl (lv_at hL 0 rfl) ?_
    refine x_get (v := .ref (ad 15)) K hP hinG (ci := 4) rfl 13 (by decide) rfl 1 (by decide) flG_15 rfl rfl dG_joinBit_72 ?_
    refine lv_iload_n K.1 K.2.1 dG_joinBit_75 rfl (lv_at hL 2 rfl) ?_
    obtain ⟨g7, h⟩ := h
    refine x_lald K hP 15 (by decide) 1 rfl rfl g7 dG_joinBit_76 ?_
    refine lv_lor K.1 K.2.1 dG_joinBit_77 ?_
    exact x_lret K hr hP hS h dG_joinBit_78
  by_cases hc3 : (swC (v1.toNatClampNeg)) = 13
  · have h := h.2.2.2.1 hc3
    refine lv_tableIn (off := 71) (tgt := 79) K.1 K.2.1 dG_joinBit_8 (by rw [hc3]; decide) (by rw [hc3]; decide) (by rw [hc3]; rfl) rfl ?_
    refine lv_aload_n K.1 K.2.1 dG_joinBit_79 rfl (lv_at hL 0 rfl) ?_
    refine x_get (v := .ref (ad 14)) K hP hinG (ci := 4) rfl 13 (by decide) rfl 0 (by decide) flG_9 rfl rfl dG_joinBit_80 ?_
    refine lv_iload_n K.1 K.2.1 dG_joinBit_83 rfl (lv_at hL 2 rfl) ?_
    obtain ⟨g8, h⟩ := h
    refine x_lald K hP 14 (by decide) 1 rfl rfl g8 dG_joinBit_84 ?_
    refine lv_aload_n K.1 K.2.1 dG_joinBit_85 rfl (lv_at hL 0 rfl) ?_
    refine x_get (v := .ref (ad 15)) K hP hinG (ci := 4) rfl 13 (by decide) rfl 1 (by decide) flG_15 rfl rfl dG_joinBit_86 ?_
    refine lv_iload_n K.1 K.2.1 dG_joinBit_89 rfl (lv_at hL 2 rfl) ?_
    obtain ⟨g9, h⟩ := h
    refine x_lald K hP 15 (by decide) 1 rfl rfl g9 dG_joinBit_90 ?_
    refine lv_lxor K.1 K.2.1 dG_joinBit_91 ?_
    exact x_lret K hr hP hS h dG_joinBit_92
  have h := h.2.2.2.2 hc0 hc1 hc2 hc3
  refine lv_tableOut (tgt := 93) K.1 K.2.1 dG_joinBit_8 (by have e0 := i_ne hc0 (n := 10) (by decide); have e1 := i_ne hc1 (n := 11) (by decide); have e2 := i_ne hc2 (n := 12) (by decide); have e3 := i_ne hc3 (n := 13) (by decide); omega) rfl ?_
  refine lv_aload_n K.1 K.2.1 dG_joinBit_93 rfl (lv_at hL 0 rfl) ?_
  refine x_get (v := .ref (ad 14)) K hP hinG (ci := 4) rfl 13 (by decide) rfl 0 (by decide) flG_9 rfl rfl dG_joinBit_94 ?_
  refine lv_iconst (v := 0) K.1 K.2.1 dG_joinBit_97 (by decide) ?_
  obtain ⟨g10, h⟩ := h
  refine x_lald K hP 14 (by decide) 1 rfl rfl g10 dG_joinBit_98 ?_
  refine lv_aload_n K.1 K.2.1 dG_joinBit_99 rfl (lv_at hL 0 rfl) ?_
  refine x_get (v := .ref (ad 15)) K hP hinG (ci := 4) rfl 13 (by decide) rfl 1 (by decide) flG_15 rfl rfl dG_joinBit_100 ?_
  refine lv_iload_n K.1 K.2.1 dG_joinBit_103 rfl (lv_at hL 2 rfl) ?_
  obtain ⟨g11, h⟩ := h
  refine x_lald K hP 15 (by decide) 1 rfl rfl g11 dG_joinBit_104 ?_
  refine lv_aload_n K.1 K.2.1 dG_joinBit_105 rfl (lv_at hL 0 rfl) ?_
  refine x_get (v := .ref (ad 16)) K hP hinG (ci := 4) rfl 13 (by decide) rfl 2 (by decide) flG_18 rfl rfl dG_joinBit_106 ?_
  refine lv_iload_n K.1 K.2.1 dG_joinBit_109 rfl (lv_at hL 2 rfl) ?_
  obtain ⟨g12, h⟩ := h
  refine x_lald K hP 16 (by decide) 1 rfl rfl g12 dG_joinBit_110 ?_
  refine x_cSJ (As := [.long (hl 14 ((0 : Int32).toNatClampNeg)), .long (hl 15 (v2.toNatClampNeg)), .long (hl 16 (v2.toNatClampNeg))]) (rest := []) K gT_good hZ hP hS calG_choose mlG_130 (mG_choose hZ K.2.2.2.2.2.2.2.1 h) ⟨Nat.le_of_ble_eq_true rfl, Nat.le_of_ble_eq_true rfl⟩ rfl hL.1 rfl (Nat.le_of_ble_eq_true rfl) dG_joinBit_111 (fun r13 hi14 hl15 H locs h hP hS => ?_)
  exact x_lret K hr hP hS h dG_joinBit_114
set_option maxRecDepth 100000 in
set_option maxHeartbeats 4000000 in
theorem mG_joinBit {l : Launch} {D : va_G} {cI cJ cC cZ cR : ClassId} {ad kd sd vd : Nat → Nat} {kA lA wA : Nat} {A : Nat → Prop} (hZ : ZsOK A (ZX A kd sd vd kA lA wA)) (hD : wlD 64 ad A) {v1 : Int32} {v2 : Int32} {hi : HI} {hl : HL} {Φ : Int64 → HI → HL → Prop} (h : wpG_joinBit v1 v2 hi hl Φ) : SpJ l yG_joinBit cG_joinBit 3 (some .long) gT 1 25 [.ref (ad 13), .ref (kd (v1.toNatClampNeg)), .int v2] D cls8 (tys5 cI cJ cC cZ cR) 64 ad (GX cI cJ cC cZ cR ad kd) A (ZX A kd sd vd kA lA wA) hi hl Φ := by
  refine Met.ofW (cc := cG_joinBit) (maxL := 3) (ret := (some .long)) (by decide) rfl ?_
  intro p e s m args below meth c s₁ B hml hv
  obtain ⟨rfl, hP, hK, hZs⟩ := hv
  have K : Cx p (rmX 1 25) s m _ meth c cG_joinBit 3 "WordChecker$Gates" gT D cls8 (tys5 cI cJ cC cZ cR) 64 ad A (ZX A kd sd vd kA lA wA) := ⟨B.exec, B.bytes, hml, findClass_of_methodNamed B.named, fun w hw => atoms_spec B.pre w (List.mem_cons_of_mem _ hw), B.notSynchronized, hK, hD, hZs⟩
  have hL := lv_entry ([.ref (ad 13), .ref (kd (v1.toNatClampNeg)), .int v2]) (n := 3) (Nat.le_of_ble_eq_true rfl)
  rw [lg_entry_eq]
  generalize (lg_sl ([.ref (ad 13), .ref (kd (v1.toNatClampNeg)), .int v2]) ++ List.replicate (3 - (lg_sl ([.ref (ad 13), .ref (kd (v1.toNatClampNeg)), .int v2])).length) Slot.unset).toArray = ls at hL ⊢
  have hL : lv_has ls 3 [(0, .ref (ad 13)), (1, .ref (kd (v1.toNatClampNeg))), (2, .int v2)] := hL
  unfold wpG_joinBit at h
  exact bG_joinBit_0 K B.returns hZ h (lv_sub hL [0, 1, 2] rfl) hP va_S.rf
set_option maxRecDepth 100000 in
set_option maxHeartbeats 4000000 in
theorem bG_joinByBits_2 {p : Program} {l : Launch} {e : Env} {s : State} {m : MethodId} {args : Array Value} {below : List Frame} {meth : Method} {c : Code} {D : va_G} {cI cJ cC cZ cR : ClassId} {ad kd sd vd : Nat → Nat} {kA lA wA : Nat} {A : Nat → Prop} (K : Cx p (rmX 2 47) s m args meth c cG_joinByBits 3 "WordChecker$Gates" gT D cls8 (tys5 cI cJ cC cZ cR) 64 ad A (ZX A kd sd vd kA lA wA)) (hr : meth.sig.returnType = none) (hZ : ZsOK A (ZX A kd sd vd kA lA wA)) {Φ : HI → HL → Prop} {n : Nat} {v1 : Int32} {v2 : Int32} {hi : HI} {hl : HL} {H : Heap} {locs : List Loc} (h : wbG_joinByBits_2 n v1 v2 hi hl Φ) {ls : Array Slot} (hL : lv_has ls 3 [(0, .ref (ad 13)), (1, .ref (kd (v1.toNatClampNeg))), (2, .int v2)]) (hP : va_P D cls8 (wl 64 ad (GX cI cJ cC cZ cR ad kd) hi hl) H) (hS : va_S A s.heap H locs) : W p l e (rmX 2 47) s m args below meth c H locs 0 0 (MQ below (va_Qv (fun (u : HI × HL) => Φ u.1 u.2) (fun u t => va_P D cls8 (wl 64 ad (GX cI cJ cC cZ cR ad kd) u.1 u.2) t.heap) A) args s 0 0 A) (F0 m 2 ls []) := by
  induction n generalizing v1 v2 hi hl ls H locs with
  | zero => exact False.elim h
  | succ n ih =>
    unfold wbG_joinByBits_2 at h
    refine lv_iload_n K.1 K.2.1 dG_joinByBits_2 rfl (lv_at hL 2 rfl) ?_
    refine lv_aload_n K.1 K.2.1 dG_joinByBits_3 rfl (lv_at hL 0 rfl) ?_
    refine x_get (v := .int (hi 13 6)) K hP hinG (ci := 4) rfl 13 (by decide) rfl 6 (by decide) flG_40 rfl rfl dG_joinByBits_4 ?_
    refine lv_icmp_ge (tgt := 28) K.1 K.2.1 dG_joinByBits_7 rfl (fun hc => ?_) (fun hc => ?_)
    · have h := h.1 hc
      exact x_vret K hr hP hS h dG_joinByBits_28
    · have h := h.2 hc
      refine lv_aload_n K.1 K.2.1 dG_joinByBits_10 rfl (lv_at hL 0 rfl) ?_
      refine x_get (v := .ref (ad 17)) K hP hinG (ci := 4) rfl 13 (by decide) rfl 3 (by decide) flG_21 rfl rfl dG_joinByBits_11 ?_
      refine lv_iload_n K.1 K.2.1 dG_joinByBits_14 rfl (lv_at hL 2 rfl) ?_
      refine lv_aload_n K.1 K.2.1 dG_joinByBits_15 rfl (lv_at hL 0 rfl) ?_
      refine lv_aload_n K.1 K.2.1 dG_joinByBits_16 rfl (lv_at hL 1 rfl) ?_
      refine lv_iload_n K.1 K.2.1 dG_joinByBits_17 rfl (lv_at hL 2 rfl) ?_
      obtain ⟨g1, h⟩ := h
      refine x_cVJ (As := [.ref (kd (v1.toNatClampNeg)), .int v2]) (rest := [.int v2, .ref (ad 17)]) K gT_good hZ hP hS calG_joinBit mlG_126 13 (by decide) rfl rfl (mG_joinBit hZ K.2.2.2.2.2.2.2.1 h) ⟨Nat.le_of_ble_eq_true rfl, Nat.le_of_ble_eq_true rfl⟩ rfl hL.1 rfl (Nat.le_of_ble_eq_true rfl) dG_joinByBits_18 (fun r2 hi3 hl4 H locs h hP hS => ?_)
      obtain ⟨g5, h⟩ := h
      refine x_last K hP hS 17 (by decide) 1 (fun _ => rfl) rfl g5 dG_joinByBits_21 (fun H locs hP hS => ?_)
      refine lv_iinc (k := 2) (lv' := [(2, .int (v2 + Int32.ofInt (1))), (0, .ref (ad 13)), (1, .ref (kd (v1.toNatClampNeg)))]) K.1 K.2.1 dG_joinByBits_22 hL rfl rfl (by decide) rfl (fun ls hL => ?_)
      refine lv_goto (tgt := 2) K.1 K.2.1 dG_joinByBits_25 rfl ?_
      exact ih h (lv_sub hL [1, 2, 0] rfl) hP hS
set_option maxRecDepth 100000 in
set_option maxHeartbeats 4000000 in
theorem bG_joinByBits_0 {p : Program} {l : Launch} {e : Env} {s : State} {m : MethodId} {args : Array Value} {below : List Frame} {meth : Method} {c : Code} {D : va_G} {cI cJ cC cZ cR : ClassId} {ad kd sd vd : Nat → Nat} {kA lA wA : Nat} {A : Nat → Prop} (K : Cx p (rmX 2 47) s m args meth c cG_joinByBits 3 "WordChecker$Gates" gT D cls8 (tys5 cI cJ cC cZ cR) 64 ad A (ZX A kd sd vd kA lA wA)) (hr : meth.sig.returnType = none) (hZ : ZsOK A (ZX A kd sd vd kA lA wA)) {Φ : HI → HL → Prop} {v1 : Int32} {hi : HI} {hl : HL} {H : Heap} {locs : List Loc} (h : wbG_joinByBits_0 v1 hi hl Φ) {ls : Array Slot} (hL : lv_has ls 3 [(0, .ref (ad 13)), (1, .ref (kd (v1.toNatClampNeg)))]) (hP : va_P D cls8 (wl 64 ad (GX cI cJ cC cZ cR ad kd) hi hl) H) (hS : va_S A s.heap H locs) : W p l e (rmX 2 47) s m args below meth c H locs 0 0 (MQ below (va_Qv (fun (u : HI × HL) => Φ u.1 u.2) (fun u t => va_P D cls8 (wl 64 ad (GX cI cJ cC cZ cR ad kd) u.1 u.2) t.heap) A) args s 0 0 A) (F0 m 0 ls []) := by
  unfold wbG_joinByBits_0 at h
  refine lv_iconst (v := 0) K.1 K.2.1 dG_joinByBits_0 (by decide) ?_
  refine lv_istore_n (lv' := [(2, .int (0 : Int32)), (0, .ref (ad 13)), (1, .ref (kd (v1.toNatClampNeg)))]) K.1 K.2.1 dG_joinByBits_1 rfl hL (by decide) rfl (fun ls hL => ?_)
  obtain ⟨fu, h⟩ := h
  exact bG_joinByBits_2 K hr hZ h (lv_sub hL [1, 2, 0] rfl) hP hS
set_option maxRecDepth 100000 in
set_option maxHeartbeats 4000000 in
theorem mG_joinByBits {l : Launch} {D : va_G} {cI cJ cC cZ cR : ClassId} {ad kd sd vd : Nat → Nat} {kA lA wA : Nat} {A : Nat → Prop} (hZ : ZsOK A (ZX A kd sd vd kA lA wA)) (hD : wlD 64 ad A) {v1 : Int32} {hi : HI} {hl : HL} {Φ : HI → HL → Prop} (h : wpG_joinByBits v1 hi hl Φ) : SpV l yG_joinByBits cG_joinByBits 3 none gT 2 47 [.ref (ad 13), .ref (kd (v1.toNatClampNeg))] D cls8 (tys5 cI cJ cC cZ cR) 64 ad (GX cI cJ cC cZ cR ad kd) A (ZX A kd sd vd kA lA wA) hi hl Φ := by
  refine Met.ofW (cc := cG_joinByBits) (maxL := 3) (ret := none) (by decide) rfl ?_
  intro p e s m args below meth c s₁ B hml hv
  obtain ⟨rfl, hP, hK, hZs⟩ := hv
  have K : Cx p (rmX 2 47) s m _ meth c cG_joinByBits 3 "WordChecker$Gates" gT D cls8 (tys5 cI cJ cC cZ cR) 64 ad A (ZX A kd sd vd kA lA wA) := ⟨B.exec, B.bytes, hml, findClass_of_methodNamed B.named, fun w hw => atoms_spec B.pre w (List.mem_cons_of_mem _ hw), B.notSynchronized, hK, hD, hZs⟩
  have hL := lv_entry ([.ref (ad 13), .ref (kd (v1.toNatClampNeg))]) (n := 3) (Nat.le_of_ble_eq_true rfl)
  rw [lg_entry_eq]
  generalize (lg_sl ([.ref (ad 13), .ref (kd (v1.toNatClampNeg))]) ++ List.replicate (3 - (lg_sl ([.ref (ad 13), .ref (kd (v1.toNatClampNeg))])).length) Slot.unset).toArray = ls at hL ⊢
  have hL : lv_has ls 3 [(0, .ref (ad 13)), (1, .ref (kd (v1.toNatClampNeg)))] := hL
  unfold wpG_joinByBits at h
  exact bG_joinByBits_0 K B.returns hZ h (lv_sub hL [0, 1] rfl) hP va_S.rf
set_option maxRecDepth 100000 in
set_option maxHeartbeats 4000000 in
theorem bG_carryOf_0 {p : Program} {l : Launch} {e : Env} {s : State} {m : MethodId} {args : Array Value} {below : List Frame} {meth : Method} {c : Code} {D : va_G} {cI cJ cC cZ cR : ClassId} {ad kd sd vd : Nat → Nat} {kA lA wA : Nat} {A : Nat → Prop} (K : Cx p (rmX 0 0) s m args meth c cG_carryOf 6 "WordChecker$Gates" gT D cls8 (tys5 cI cJ cC cZ cR) 64 ad A (ZX A kd sd vd kA lA wA)) (hr : meth.sig.returnType = (some .long)) (hZ : ZsOK A (ZX A kd sd vd kA lA wA)) {Φ : Int64 → HI → HL → Prop} {v0 : Int64} {v2 : Int64} {v4 : Int64} {hi : HI} {hl : HL} {H : Heap} {locs : List Loc} (h : wbG_carryOf_0 v0 v2 v4 hi hl Φ) {ls : Array Slot} (hL : lv_has ls 6 [(0, .long v0), (2, .long v2), (4, .long v4)]) (hP : va_P D cls8 (wl 64 ad (GX cI cJ cC cZ cR ad kd) hi hl) H) (hS : va_S A s.heap H locs) : W p l e (rmX 0 0) s m args below meth c H locs 0 0 (MQ below (va_Ql (fun r (u : HI × HL) => Φ r u.1 u.2) (fun u t => va_P D cls8 (wl 64 ad (GX cI cJ cC cZ cR ad kd) u.1 u.2) t.heap) A) args s 0 0 A) (F0 m 0 ls []) := by
  unfold wbG_carryOf_0 at h
  refine lv_lload_n K.1 K.2.1 dG_carryOf_0 rfl (lv_at hL 0 rfl) ?_
  refine lv_lload_n K.1 K.2.1 dG_carryOf_1 rfl (lv_at hL 1 rfl) ?_
  refine lv_land K.1 K.2.1 dG_carryOf_2 ?_
  refine lv_lload K.1 K.2.1 dG_carryOf_3 (lv_at hL 2 rfl) ?_
  refine lv_lload_n K.1 K.2.1 dG_carryOf_5 rfl (lv_at hL 0 rfl) ?_
  refine lv_lload_n K.1 K.2.1 dG_carryOf_6 rfl (lv_at hL 1 rfl) ?_
  refine lv_lxor K.1 K.2.1 dG_carryOf_7 ?_
  refine lv_land K.1 K.2.1 dG_carryOf_8 ?_
  refine lv_lor K.1 K.2.1 dG_carryOf_9 ?_
  exact x_lret K hr hP hS h dG_carryOf_10
set_option maxRecDepth 100000 in
set_option maxHeartbeats 4000000 in
theorem mG_carryOf {l : Launch} {D : va_G} {cI cJ cC cZ cR : ClassId} {ad kd sd vd : Nat → Nat} {kA lA wA : Nat} {A : Nat → Prop} (hZ : ZsOK A (ZX A kd sd vd kA lA wA)) (hD : wlD 64 ad A) {v0 : Int64} {v2 : Int64} {v4 : Int64} {hi : HI} {hl : HL} {Φ : Int64 → HI → HL → Prop} (h : wpG_carryOf v0 v2 v4 hi hl Φ) : SpJ l yG_carryOf cG_carryOf 6 (some .long) gT 0 0 [.long v0, .long v2, .long v4] D cls8 (tys5 cI cJ cC cZ cR) 64 ad (GX cI cJ cC cZ cR ad kd) A (ZX A kd sd vd kA lA wA) hi hl Φ := by
  refine Met.ofW (cc := cG_carryOf) (maxL := 6) (ret := (some .long)) (by decide) rfl ?_
  intro p e s m args below meth c s₁ B hml hv
  obtain ⟨rfl, hP, hK, hZs⟩ := hv
  have K : Cx p (rmX 0 0) s m _ meth c cG_carryOf 6 "WordChecker$Gates" gT D cls8 (tys5 cI cJ cC cZ cR) 64 ad A (ZX A kd sd vd kA lA wA) := ⟨B.exec, B.bytes, hml, findClass_of_methodNamed B.named, fun w hw => atoms_spec B.pre w (List.mem_cons_of_mem _ hw), B.notSynchronized, hK, hD, hZs⟩
  have hL := lv_entry ([.long v0, .long v2, .long v4]) (n := 6) (Nat.le_of_ble_eq_true rfl)
  rw [lg_entry_eq]
  generalize (lg_sl ([.long v0, .long v2, .long v4]) ++ List.replicate (6 - (lg_sl ([.long v0, .long v2, .long v4])).length) Slot.unset).toArray = ls at hL ⊢
  have hL : lv_has ls 6 [(0, .long v0), (2, .long v2), (4, .long v4)] := hL
  unfold wpG_carryOf at h
  exact bG_carryOf_0 K B.returns hZ h (lv_sub hL [0, 1, 2] rfl) hP va_S.rf
set_option maxRecDepth 100000 in
set_option maxHeartbeats 4000000 in
theorem bG_addUp_6 {p : Program} {l : Launch} {e : Env} {s : State} {m : MethodId} {args : Array Value} {below : List Frame} {meth : Method} {c : Code} {D : va_G} {cI cJ cC cZ cR : ClassId} {ad kd sd vd : Nat → Nat} {kA lA wA : Nat} {A : Nat → Prop} (K : Cx p (rmX 1 25) s m args meth c cG_addUp 10 "WordChecker$Gates" gT D cls8 (tys5 cI cJ cC cZ cR) 64 ad A (ZX A kd sd vd kA lA wA)) (hr : meth.sig.returnType = none) (hZ : ZsOK A (ZX A kd sd vd kA lA wA)) {Φ : HI → HL → Prop} {n : Nat} {v1 : Nat} {v2 : Nat} {v3 : Int64} {v5 : Int64} {v7 : Int32} {hi : HI} {hl : HL} {H : Heap} {locs : List Loc} (h : wbG_addUp_6 n v1 v2 v3 v5 v7 hi hl Φ) (hv1 : v1 < 6) (hv2 : v2 < 6) {ls : Array Slot} (hL : lv_has ls 10 [(0, .ref (ad 13)), (1, .ref (ad (14 + v1))), (2, .ref (ad (14 + v2))), (3, .long v3), (5, .long v5), (7, .int v7)]) (hP : va_P D cls8 (wl 64 ad (GX cI cJ cC cZ cR ad kd) hi hl) H) (hS : va_S A s.heap H locs) : W p l e (rmX 1 25) s m args below meth c H locs 0 0 (MQ below (va_Qv (fun (u : HI × HL) => Φ u.1 u.2) (fun u t => va_P D cls8 (wl 64 ad (GX cI cJ cC cZ cR ad kd) u.1 u.2) t.heap) A) args s 0 0 A) (F0 m 6 ls []) := by
  induction n generalizing v1 v2 v3 v5 v7 hi hl ls H locs with
  | zero => exact False.elim h
  | succ n ih =>
    unfold wbG_addUp_6 at h
    refine lv_iload K.1 K.2.1 dG_addUp_6 (lv_at hL 5 rfl) ?_
    refine lv_aload_n K.1 K.2.1 dG_addUp_8 rfl (lv_at hL 0 rfl) ?_
    refine x_get (v := .int (hi 13 6)) K hP hinG (ci := 4) rfl 13 (by decide) rfl 6 (by decide) flG_40 rfl rfl dG_addUp_9 ?_
    refine lv_icmp_ge (tgt := 59) K.1 K.2.1 dG_addUp_12 rfl (fun hc => ?_) (fun hc => ?_)
    · have h := h.1 hc
      exact x_vret K hr hP hS h dG_addUp_59
    · have h := h.2 hc
      refine lv_aload_n K.1 K.2.1 dG_addUp_15 rfl (lv_at hL 2 rfl) ?_
      refine lv_iload K.1 K.2.1 dG_addUp_16 (lv_at hL 5 rfl) ?_
      obtain ⟨g1, h⟩ := h
      refine x_lald K hP (14 + v2) (lt_g hv2) 1 (GX_garr _ hv2 _ _) rfl g1 dG_addUp_18 ?_
      refine lv_lload_n K.1 K.2.1 dG_addUp_19 rfl (lv_at hL 3 rfl) ?_
      refine lv_lxor K.1 K.2.1 dG_addUp_20 ?_
      refine lv_lstore (lv' := [(8, .long ((hl (14 + v2) (v7.toNatClampNeg)) ^^^ v3)), (0, .ref (ad 13)), (1, .ref (ad (14 + v1))), (2, .ref (ad (14 + v2))), (3, .long v3), (5, .long v5), (7, .int v7)]) K.1 K.2.1 dG_addUp_21 hL (by decide) rfl (fun ls hL => ?_)
      refine lv_aload_n K.1 K.2.1 dG_addUp_23 rfl (lv_at hL 1 rfl) ?_
      refine x_get (v := .ref (ad 17)) K hP hinG (ci := 4) rfl 13 (by decide) rfl 3 (by decide) flG_21 rfl rfl dG_addUp_24 ?_
      refine lv_iload K.1 K.2.1 dG_addUp_27 (lv_at hL 6 rfl) ?_
      refine lv_aload_n K.1 K.2.1 dG_addUp_29 rfl (lv_at hL 2 rfl) ?_
      refine lv_iload K.1 K.2.1 dG_addUp_30 (lv_at hL 6 rfl) ?_
      obtain ⟨g2, h⟩ := h
      refine x_lald K hP (14 + v1) (lt_g hv1) 1 (GX_garr _ hv1 _ _) rfl g2 dG_addUp_32 ?_
      refine lv_lload K.1 K.2.1 dG_addUp_33 (lv_at hL 0 rfl) ?_
      refine lv_lxor K.1 K.2.1 dG_addUp_35 ?_
      refine lv_lload K.1 K.2.1 dG_addUp_36 (lv_at hL 5 rfl) ?_
      refine lv_lxor K.1 K.2.1 dG_addUp_38 ?_
      obtain ⟨g3, h⟩ := h
      refine x_last K hP hS 17 (by decide) 1 (fun _ => rfl) rfl g3 dG_addUp_39 (fun H locs hP hS => ?_)
      refine lv_aload_n K.1 K.2.1 dG_addUp_40 rfl (lv_at hL 2 rfl) ?_
      refine lv_iload K.1 K.2.1 dG_addUp_41 (lv_at hL 6 rfl) ?_
      obtain ⟨g4, h⟩ := h
      refine x_lald K hP (14 + v1) (lt_g hv1) 1 (GX_garr _ hv1 _ _) rfl g4 dG_addUp_43 ?_
      refine lv_lload K.1 K.2.1 dG_addUp_44 (lv_at hL 0 rfl) ?_
      refine lv_lload K.1 K.2.1 dG_addUp_46 (lv_at hL 5 rfl) ?_
      refine x_cSJ (As := [.long ((u2 hl 17 (v7.toNatClampNeg) (((hl (14 + v1) (v7.toNatClampNeg)) ^^^ ((hl (14 + v2) (v7.toNatClampNeg)) ^^^ v3)) ^^^ v5)) (14 + v1) (v7.toNatClampNeg)), .long ((hl (14 + v2) (v7.toNatClampNeg)) ^^^ v3), .long v5]) (rest := []) K gT_good hZ hP hS calG_carryOf mlG_164 (mG_carryOf hZ K.2.2.2.2.2.2.2.1 h) ⟨Nat.le_of_ble_eq_true rfl, Nat.le_of_ble_eq_true rfl⟩ rfl hL.1 rfl (Nat.le_of_ble_eq_true rfl) dG_addUp_48 (fun r5 hi6 hl7 H locs h hP hS => ?_)
      refine lv_lstore (lv' := [(5, .long r5), (8, .long ((hl (14 + v2) (v7.toNatClampNeg)) ^^^ v3)), (0, .ref (ad 13)), (1, .ref (ad (14 + v1))), (2, .ref (ad (14 + v2))), (3, .long v3), (7, .int v7)]) K.1 K.2.1 dG_addUp_51 hL (by decide) rfl (fun ls hL => ?_)
      refine lv_iinc (k := 6) (lv' := [(7, .int (v7 + Int32.ofInt (1))), (5, .long r5), (8, .long ((hl (14 + v2) (v7.toNatClampNeg)) ^^^ v3)), (0, .ref (ad 13)), (1, .ref (ad (14 + v1))), (2, .ref (ad (14 + v2))), (3, .long v3)]) K.1 K.2.1 dG_addUp_53 hL rfl rfl (by decide) rfl (fun ls hL => ?_)
      refine lv_goto (tgt := 6) K.1 K.2.1 dG_addUp_56 rfl ?_
      exact ih h hv1 hv2 (lv_sub hL [3, 4, 5, 6, 1, 0] rfl) hP hS
set_option maxRecDepth 100000 in
set_option maxHeartbeats 4000000 in
theorem bG_addUp_0 {p : Program} {l : Launch} {e : Env} {s : State} {m : MethodId} {args : Array Value} {below : List Frame} {meth : Method} {c : Code} {D : va_G} {cI cJ cC cZ cR : ClassId} {ad kd sd vd : Nat → Nat} {kA lA wA : Nat} {A : Nat → Prop} (K : Cx p (rmX 1 25) s m args meth c cG_addUp 10 "WordChecker$Gates" gT D cls8 (tys5 cI cJ cC cZ cR) 64 ad A (ZX A kd sd vd kA lA wA)) (hr : meth.sig.returnType = none) (hZ : ZsOK A (ZX A kd sd vd kA lA wA)) {Φ : HI → HL → Prop} {v1 : Nat} {v2 : Nat} {v3 : Int64} {hi : HI} {hl : HL} {H : Heap} {locs : List Loc} (h : wbG_addUp_0 v1 v2 v3 hi hl Φ) (hv1 : v1 < 6) (hv2 : v2 < 6) {ls : Array Slot} (hL : lv_has ls 10 [(0, .ref (ad 13)), (1, .ref (ad (14 + v1))), (2, .ref (ad (14 + v2))), (3, .long v3)]) (hP : va_P D cls8 (wl 64 ad (GX cI cJ cC cZ cR ad kd) hi hl) H) (hS : va_S A s.heap H locs) : W p l e (rmX 1 25) s m args below meth c H locs 0 0 (MQ below (va_Qv (fun (u : HI × HL) => Φ u.1 u.2) (fun u t => va_P D cls8 (wl 64 ad (GX cI cJ cC cZ cR ad kd) u.1 u.2) t.heap) A) args s 0 0 A) (F0 m 0 ls []) := by
  unfold wbG_addUp_0 at h
  refine lv_lload_n K.1 K.2.1 dG_addUp_0 rfl (lv_at hL 3 rfl) ?_
  refine lv_lstore (lv' := [(5, .long v3), (0, .ref (ad 13)), (1, .ref (ad (14 + v1))), (2, .ref (ad (14 + v2))), (3, .long v3)]) K.1 K.2.1 dG_addUp_1 hL (by decide) rfl (fun ls hL => ?_)
  refine lv_iconst (v := 0) K.1 K.2.1 dG_addUp_3 (by decide) ?_
  refine lv_istore (lv' := [(7, .int (0 : Int32)), (5, .long v3), (0, .ref (ad 13)), (1, .ref (ad (14 + v1))), (2, .ref (ad (14 + v2))), (3, .long v3)]) K.1 K.2.1 dG_addUp_4 hL (by decide) rfl (fun ls hL => ?_)
  obtain ⟨fu, h⟩ := h
  exact bG_addUp_6 K hr hZ h hv1 hv2 (lv_sub hL [2, 3, 4, 5, 1, 0] rfl) hP hS
set_option maxRecDepth 100000 in
set_option maxHeartbeats 4000000 in
theorem mG_addUp {l : Launch} {D : va_G} {cI cJ cC cZ cR : ClassId} {ad kd sd vd : Nat → Nat} {kA lA wA : Nat} {A : Nat → Prop} (hZ : ZsOK A (ZX A kd sd vd kA lA wA)) (hD : wlD 64 ad A) {v1 : Nat} {v2 : Nat} {v3 : Int64} (hv1 : v1 < 6) (hv2 : v2 < 6) {hi : HI} {hl : HL} {Φ : HI → HL → Prop} (h : wpG_addUp v1 v2 v3 hi hl Φ) : SpV l yG_addUp cG_addUp 10 none gT 1 25 [.ref (ad 13), .ref (ad (14 + v1)), .ref (ad (14 + v2)), .long v3] D cls8 (tys5 cI cJ cC cZ cR) 64 ad (GX cI cJ cC cZ cR ad kd) A (ZX A kd sd vd kA lA wA) hi hl Φ := by
  refine Met.ofW (cc := cG_addUp) (maxL := 10) (ret := none) (by decide) rfl ?_
  intro p e s m args below meth c s₁ B hml hv
  obtain ⟨rfl, hP, hK, hZs⟩ := hv
  have K : Cx p (rmX 1 25) s m _ meth c cG_addUp 10 "WordChecker$Gates" gT D cls8 (tys5 cI cJ cC cZ cR) 64 ad A (ZX A kd sd vd kA lA wA) := ⟨B.exec, B.bytes, hml, findClass_of_methodNamed B.named, fun w hw => atoms_spec B.pre w (List.mem_cons_of_mem _ hw), B.notSynchronized, hK, hD, hZs⟩
  have hL := lv_entry ([.ref (ad 13), .ref (ad (14 + v1)), .ref (ad (14 + v2)), .long v3]) (n := 10) (Nat.le_of_ble_eq_true rfl)
  rw [lg_entry_eq]
  generalize (lg_sl ([.ref (ad 13), .ref (ad (14 + v1)), .ref (ad (14 + v2)), .long v3]) ++ List.replicate (10 - (lg_sl ([.ref (ad 13), .ref (ad (14 + v1)), .ref (ad (14 + v2)), .long v3])).length) Slot.unset).toArray = ls at hL ⊢
  have hL : lv_has ls 10 [(0, .ref (ad 13)), (1, .ref (ad (14 + v1))), (2, .ref (ad (14 + v2))), (3, .long v3)] := hL
  unfold wpG_addUp at h
  exact bG_addUp_0 K B.returns hZ h hv1 hv2 (lv_sub hL [0, 1, 2, 3] rfl) hP va_S.rf
set_option maxRecDepth 100000 in
set_option maxHeartbeats 4000000 in
theorem bG_takeAway_64 {p : Program} {l : Launch} {e : Env} {s : State} {m : MethodId} {args : Array Value} {below : List Frame} {meth : Method} {c : Code} {D : va_G} {cI cJ cC cZ cR : ClassId} {ad kd sd vd : Nat → Nat} {kA lA wA : Nat} {A : Nat → Prop} (K : Cx p (rmX 0 0) s m args meth c cG_takeAway 6 "WordChecker$Gates" gT D cls8 (tys5 cI cJ cC cZ cR) 64 ad A (ZX A kd sd vd kA lA wA)) (hr : meth.sig.returnType = (some .long)) (hZ : ZsOK A (ZX A kd sd vd kA lA wA)) {Φ : Int64 → HI → HL → Prop} {n : Nat} {v1 : Int64} {v3 : Int32} {hi : HI} {hl : HL} {H : Heap} {locs : List Loc} (h : wbG_takeAway_64 n v1 v3 hi hl Φ) {ls : Array Slot} (hL : lv_has ls 6 [(0, .ref (ad 13)), (1, .long v1), (3, .int v3)]) (hP : va_P D cls8 (wl 64 ad (GX cI cJ cC cZ cR ad kd) hi hl) H) (hS : va_S A s.heap H locs) : W p l e (rmX 0 0) s m args below meth c H locs 0 0 (MQ below (va_Ql (fun r (u : HI × HL) => Φ r u.1 u.2) (fun u t => va_P D cls8 (wl 64 ad (GX cI cJ cC cZ cR ad kd) u.1 u.2) t.heap) A) args s 0 0 A) (F0 m 64 ls []) := by
  induction n generalizing v1 v3 hi hl ls H locs with
  | zero => exact False.elim h
  | succ n ih =>
    unfold wbG_takeAway_64 at h
    refine lv_iload_n K.1 K.2.1 dG_takeAway_64 rfl (lv_at hL 2 rfl) ?_
    refine lv_aload_n K.1 K.2.1 dG_takeAway_65 rfl (lv_at hL 0 rfl) ?_
    refine x_get (v := .int (hi 13 6)) K hP hinG (ci := 4) rfl 13 (by decide) rfl 6 (by decide) flG_40 rfl rfl dG_takeAway_66 ?_
    refine lv_icmp_ge (tgt := 105) K.1 K.2.1 dG_takeAway_69 rfl (fun hc => ?_) (fun hc => ?_)
    · have h := h.1 hc
      refine lv_lload_n K.1 K.2.1 dG_takeAway_105 rfl (lv_at hL 1 rfl) ?_
      refine lv_ldc2 (v := -1) K.1 K.2.1 K.2.2.2.1 (K.2.2.2.2.1 _ clG_81) dG_takeAway_106 ?_
      refine lv_lxor K.1 K.2.1 dG_takeAway_109 ?_
      exact x_lret K hr hP hS h dG_takeAway_110
    · have h := h.2 hc
      refine lv_aload_n K.1 K.2.1 dG_takeAway_72 rfl (lv_at hL 0 rfl) ?_
      refine x_get (v := .ref (ad 18)) K hP hinG (ci := 4) rfl 13 (by decide) rfl 4 (by decide) flG_24 rfl rfl dG_takeAway_73 ?_
      refine lv_iload_n K.1 K.2.1 dG_takeAway_76 rfl (lv_at hL 2 rfl) ?_
      refine lv_lload_n K.1 K.2.1 dG_takeAway_77 rfl (lv_at hL 1 rfl) ?_
      refine lv_aload_n K.1 K.2.1 dG_takeAway_78 rfl (lv_at hL 0 rfl) ?_
      refine x_get (v := .ref (ad 18)) K hP hinG (ci := 4) rfl 13 (by decide) rfl 4 (by decide) flG_24 rfl rfl dG_takeAway_79 ?_
      refine lv_iload_n K.1 K.2.1 dG_takeAway_82 rfl (lv_at hL 2 rfl) ?_
      obtain ⟨g1, h⟩ := h
      refine x_lald K hP 18 (by decide) 1 rfl rfl g1 dG_takeAway_83 ?_
      refine lv_land K.1 K.2.1 dG_takeAway_84 ?_
      refine lv_lload_n K.1 K.2.1 dG_takeAway_85 rfl (lv_at hL 1 rfl) ?_
      refine lv_ldc2 (v := -1) K.1 K.2.1 K.2.2.2.1 (K.2.2.2.2.1 _ clG_81) dG_takeAway_86 ?_
      refine lv_lxor K.1 K.2.1 dG_takeAway_89 ?_
      refine lv_aload_n K.1 K.2.1 dG_takeAway_90 rfl (lv_at hL 0 rfl) ?_
      refine x_get (v := .ref (ad 19)) K hP hinG (ci := 4) rfl 13 (by decide) rfl 5 (by decide) flG_27 rfl rfl dG_takeAway_91 ?_
      refine lv_iload_n K.1 K.2.1 dG_takeAway_94 rfl (lv_at hL 2 rfl) ?_
      obtain ⟨g2, h⟩ := h
      refine x_lald K hP 19 (by decide) 1 rfl rfl g2 dG_takeAway_95 ?_
      refine lv_land K.1 K.2.1 dG_takeAway_96 ?_
      refine lv_lor K.1 K.2.1 dG_takeAway_97 ?_
      obtain ⟨g3, h⟩ := h
      refine x_last K hP hS 18 (by decide) 1 (fun _ => rfl) rfl g3 dG_takeAway_98 (fun H locs hP hS => ?_)
      refine lv_iinc (k := 2) (lv' := [(3, .int (v3 + Int32.ofInt (1))), (0, .ref (ad 13)), (1, .long v1)]) K.1 K.2.1 dG_takeAway_99 hL rfl rfl (by decide) rfl (fun ls hL => ?_)
      refine lv_goto (tgt := 64) K.1 K.2.1 dG_takeAway_102 rfl ?_
      exact ih h (lv_sub hL [1, 2, 0] rfl) hP hS
set_option maxRecDepth 100000 in
set_option maxHeartbeats 4000000 in
theorem bG_takeAway_4 {p : Program} {l : Launch} {e : Env} {s : State} {m : MethodId} {args : Array Value} {below : List Frame} {meth : Method} {c : Code} {D : va_G} {cI cJ cC cZ cR : ClassId} {ad kd sd vd : Nat → Nat} {kA lA wA : Nat} {A : Nat → Prop} (K : Cx p (rmX 0 0) s m args meth c cG_takeAway 6 "WordChecker$Gates" gT D cls8 (tys5 cI cJ cC cZ cR) 64 ad A (ZX A kd sd vd kA lA wA)) (hr : meth.sig.returnType = (some .long)) (hZ : ZsOK A (ZX A kd sd vd kA lA wA)) {Φ : Int64 → HI → HL → Prop} {n : Nat} {v1 : Int64} {v3 : Int32} {hi : HI} {hl : HL} {H : Heap} {locs : List Loc} (h : wbG_takeAway_4 n v1 v3 hi hl Φ) {ls : Array Slot} (hL : lv_has ls 6 [(0, .ref (ad 13)), (1, .long v1), (3, .int v3)]) (hP : va_P D cls8 (wl 64 ad (GX cI cJ cC cZ cR ad kd) hi hl) H) (hS : va_S A s.heap H locs) : W p l e (rmX 0 0) s m args below meth c H locs 0 0 (MQ below (va_Ql (fun r (u : HI × HL) => Φ r u.1 u.2) (fun u t => va_P D cls8 (wl 64 ad (GX cI cJ cC cZ cR ad kd) u.1 u.2) t.heap) A) args s 0 0 A) (F0 m 4 ls []) := by
  induction n generalizing v1 v3 hi hl ls H locs with
  | zero => exact False.elim h
  | succ n ih =>
    unfold wbG_takeAway_4 at h
    refine lv_iload_n K.1 K.2.1 dG_takeAway_4 rfl (lv_at hL 2 rfl) ?_
    refine lv_aload_n K.1 K.2.1 dG_takeAway_5 rfl (lv_at hL 0 rfl) ?_
    refine x_get (v := .int (hi 13 6)) K hP hinG (ci := 4) rfl 13 (by decide) rfl 6 (by decide) flG_40 rfl rfl dG_takeAway_6 ?_
    refine lv_icmp_ge (tgt := 62) K.1 K.2.1 dG_takeAway_9 rfl (fun hc => ?_) (fun hc => ?_)
    · have h := h.1 hc
      refine lv_iconst (v := 0) K.1 K.2.1 dG_takeAway_62 (by decide) ?_
      refine lv_istore_n (lv' := [(3, .int (0 : Int32)), (0, .ref (ad 13)), (1, .long v1)]) K.1 K.2.1 dG_takeAway_63 rfl hL (by decide) rfl (fun ls hL => ?_)
      obtain ⟨fu, h⟩ := h
      exact bG_takeAway_64 K hr hZ h (lv_sub hL [1, 2, 0] rfl) hP hS
    · have h := h.2 hc
      refine lv_aload_n K.1 K.2.1 dG_takeAway_12 rfl (lv_at hL 0 rfl) ?_
      refine x_get (v := .ref (ad 18)) K hP hinG (ci := 4) rfl 13 (by decide) rfl 4 (by decide) flG_24 rfl rfl dG_takeAway_13 ?_
      refine lv_iload_n K.1 K.2.1 dG_takeAway_16 rfl (lv_at hL 2 rfl) ?_
      obtain ⟨g1, h⟩ := h
      refine x_lald K hP 18 (by decide) 1 rfl rfl g1 dG_takeAway_17 ?_
      refine lv_aload_n K.1 K.2.1 dG_takeAway_18 rfl (lv_at hL 0 rfl) ?_
      refine x_get (v := .ref (ad 15)) K hP hinG (ci := 4) rfl 13 (by decide) rfl 1 (by decide) flG_15 rfl rfl dG_takeAway_19 ?_
      refine lv_iload_n K.1 K.2.1 dG_takeAway_22 rfl (lv_at hL 2 rfl) ?_
      obtain ⟨g2, h⟩ := h
      refine x_lald K hP 15 (by decide) 1 rfl rfl g2 dG_takeAway_23 ?_
      refine lv_lxor K.1 K.2.1 dG_takeAway_24 ?_
      refine lv_lstore (lv' := [(4, .long ((hl 18 (v3.toNatClampNeg)) ^^^ (hl 15 (v3.toNatClampNeg)))), (0, .ref (ad 13)), (1, .long v1), (3, .int v3)]) K.1 K.2.1 dG_takeAway_25 hL (by decide) rfl (fun ls hL => ?_)
      refine lv_aload_n K.1 K.2.1 dG_takeAway_27 rfl (lv_at hL 1 rfl) ?_
      refine x_get (v := .ref (ad 19)) K hP hinG (ci := 4) rfl 13 (by decide) rfl 5 (by decide) flG_27 rfl rfl dG_takeAway_28 ?_
      refine lv_iload_n K.1 K.2.1 dG_takeAway_31 rfl (lv_at hL 3 rfl) ?_
      refine lv_lload K.1 K.2.1 dG_takeAway_32 (lv_at hL 0 rfl) ?_
      refine lv_lload_n K.1 K.2.1 dG_takeAway_34 rfl (lv_at hL 2 rfl) ?_
      refine lv_lxor K.1 K.2.1 dG_takeAway_35 ?_
      obtain ⟨g3, h⟩ := h
      refine x_last K hP hS 19 (by decide) 1 (fun _ => rfl) rfl g3 dG_takeAway_36 (fun H locs hP hS => ?_)
      refine lv_lload K.1 K.2.1 dG_takeAway_37 (lv_at hL 0 rfl) ?_
      refine lv_aload_n K.1 K.2.1 dG_takeAway_39 rfl (lv_at hL 1 rfl) ?_
      refine x_get (v := .ref (ad 15)) K hP hinG (ci := 4) rfl 13 (by decide) rfl 1 (by decide) flG_15 rfl rfl dG_takeAway_40 ?_
      refine lv_iload_n K.1 K.2.1 dG_takeAway_43 rfl (lv_at hL 3 rfl) ?_
      obtain ⟨g4, h⟩ := h
      refine x_lald K hP 15 (by decide) 1 rfl rfl g4 dG_takeAway_44 ?_
      refine lv_land K.1 K.2.1 dG_takeAway_45 ?_
      refine lv_lload K.1 K.2.1 dG_takeAway_46 (lv_at hL 0 rfl) ?_
      refine lv_ldc2 (v := -1) K.1 K.2.1 K.2.2.2.1 (K.2.2.2.2.1 _ clG_81) dG_takeAway_48 ?_
      refine lv_lxor K.1 K.2.1 dG_takeAway_51 ?_
      refine lv_lload_n K.1 K.2.1 dG_takeAway_52 rfl (lv_at hL 2 rfl) ?_
      refine lv_land K.1 K.2.1 dG_takeAway_53 ?_
      refine lv_lor K.1 K.2.1 dG_takeAway_54 ?_
      refine lv_lstore_n (lv' := [(1, .long ((((hl 18 (v3.toNatClampNeg)) ^^^ (hl 15 (v3.toNatClampNeg))) &&& ((u2 hl 19 (v3.toNatClampNeg) (((hl 18 (v3.toNatClampNeg)) ^^^ (hl 15 (v3.toNatClampNeg))) ^^^ v1)) 15 (v3.toNatClampNeg))) ||| ((((hl 18 (v3.toNatClampNeg)) ^^^ (hl 15 (v3.toNatClampNeg))) ^^^ (-1 : Int64)) &&& v1))), (4, .long ((hl 18 (v3.toNatClampNeg)) ^^^ (hl 15 (v3.toNatClampNeg)))), (0, .ref (ad 13)), (3, .int v3)]) K.1 K.2.1 dG_takeAway_55 rfl hL (by decide) rfl (fun ls hL => ?_)
      refine lv_iinc (k := 3) (lv' := [(3, .int (v3 + Int32.ofInt (1))), (1, .long ((((hl 18 (v3.toNatClampNeg)) ^^^ (hl 15 (v3.toNatClampNeg))) &&& ((u2 hl 19 (v3.toNatClampNeg) (((hl 18 (v3.toNatClampNeg)) ^^^ (hl 15 (v3.toNatClampNeg))) ^^^ v1)) 15 (v3.toNatClampNeg))) ||| ((((hl 18 (v3.toNatClampNeg)) ^^^ (hl 15 (v3.toNatClampNeg))) ^^^ (-1 : Int64)) &&& v1))), (4, .long ((hl 18 (v3.toNatClampNeg)) ^^^ (hl 15 (v3.toNatClampNeg)))), (0, .ref (ad 13))]) K.1 K.2.1 dG_takeAway_56 hL rfl rfl (by decide) rfl (fun ls hL => ?_)
      refine lv_goto (tgt := 4) K.1 K.2.1 dG_takeAway_59 rfl ?_
      exact ih h (lv_sub hL [3, 1, 0] rfl) hP hS
set_option maxRecDepth 100000 in
set_option maxHeartbeats 4000000 in
theorem bG_takeAway_0 {p : Program} {l : Launch} {e : Env} {s : State} {m : MethodId} {args : Array Value} {below : List Frame} {meth : Method} {c : Code} {D : va_G} {cI cJ cC cZ cR : ClassId} {ad kd sd vd : Nat → Nat} {kA lA wA : Nat} {A : Nat → Prop} (K : Cx p (rmX 0 0) s m args meth c cG_takeAway 6 "WordChecker$Gates" gT D cls8 (tys5 cI cJ cC cZ cR) 64 ad A (ZX A kd sd vd kA lA wA)) (hr : meth.sig.returnType = (some .long)) (hZ : ZsOK A (ZX A kd sd vd kA lA wA)) {Φ : Int64 → HI → HL → Prop} {hi : HI} {hl : HL} {H : Heap} {locs : List Loc} (h : wbG_takeAway_0 hi hl Φ) {ls : Array Slot} (hL : lv_has ls 6 [(0, .ref (ad 13))]) (hP : va_P D cls8 (wl 64 ad (GX cI cJ cC cZ cR ad kd) hi hl) H) (hS : va_S A s.heap H locs) : W p l e (rmX 0 0) s m args below meth c H locs 0 0 (MQ below (va_Ql (fun r (u : HI × HL) => Φ r u.1 u.2) (fun u t => va_P D cls8 (wl 64 ad (GX cI cJ cC cZ cR ad kd) u.1 u.2) t.heap) A) args s 0 0 A) (F0 m 0 ls []) := by
  unfold wbG_takeAway_0 at h
  refine lv_lconst (v := 0) K.1 K.2.1 dG_takeAway_0 (by decide) ?_
  refine lv_lstore_n (lv' := [(1, .long (0 : Int64)), (0, .ref (ad 13))]) K.1 K.2.1 dG_takeAway_1 rfl hL (by decide) rfl (fun ls hL => ?_)
  refine lv_iconst (v := 0) K.1 K.2.1 dG_takeAway_2 (by decide) ?_
  refine lv_istore_n (lv' := [(3, .int (0 : Int32)), (1, .long (0 : Int64)), (0, .ref (ad 13))]) K.1 K.2.1 dG_takeAway_3 rfl hL (by decide) rfl (fun ls hL => ?_)
  obtain ⟨fu, h⟩ := h
  exact bG_takeAway_4 K hr hZ h (lv_sub hL [2, 1, 0] rfl) hP hS
set_option maxRecDepth 100000 in
set_option maxHeartbeats 4000000 in
theorem mG_takeAway {l : Launch} {D : va_G} {cI cJ cC cZ cR : ClassId} {ad kd sd vd : Nat → Nat} {kA lA wA : Nat} {A : Nat → Prop} (hZ : ZsOK A (ZX A kd sd vd kA lA wA)) (hD : wlD 64 ad A) {hi : HI} {hl : HL} {Φ : Int64 → HI → HL → Prop} (h : wpG_takeAway hi hl Φ) : SpJ l yG_takeAway cG_takeAway 6 (some .long) gT 0 0 [.ref (ad 13)] D cls8 (tys5 cI cJ cC cZ cR) 64 ad (GX cI cJ cC cZ cR ad kd) A (ZX A kd sd vd kA lA wA) hi hl Φ := by
  refine Met.ofW (cc := cG_takeAway) (maxL := 6) (ret := (some .long)) (by decide) rfl ?_
  intro p e s m args below meth c s₁ B hml hv
  obtain ⟨rfl, hP, hK, hZs⟩ := hv
  have K : Cx p (rmX 0 0) s m _ meth c cG_takeAway 6 "WordChecker$Gates" gT D cls8 (tys5 cI cJ cC cZ cR) 64 ad A (ZX A kd sd vd kA lA wA) := ⟨B.exec, B.bytes, hml, findClass_of_methodNamed B.named, fun w hw => atoms_spec B.pre w (List.mem_cons_of_mem _ hw), B.notSynchronized, hK, hD, hZs⟩
  have hL := lv_entry ([.ref (ad 13)]) (n := 6) (Nat.le_of_ble_eq_true rfl)
  rw [lg_entry_eq]
  generalize (lg_sl ([.ref (ad 13)]) ++ List.replicate (6 - (lg_sl ([.ref (ad 13)])).length) Slot.unset).toArray = ls at hL ⊢
  have hL : lv_has ls 6 [(0, .ref (ad 13))] := hL
  unfold wpG_takeAway at h
  exact bG_takeAway_0 K B.returns hZ h (lv_sub hL [0] rfl) hP va_S.rf
set_option maxRecDepth 100000 in
set_option maxHeartbeats 4000000 in
theorem bG_divide_25 {p : Program} {l : Launch} {e : Env} {s : State} {m : MethodId} {args : Array Value} {below : List Frame} {meth : Method} {c : Code} {D : va_G} {cI cJ cC cZ cR : ClassId} {ad kd sd vd : Nat → Nat} {kA lA wA : Nat} {A : Nat → Prop} (K : Cx p (rmX 1 60) s m args meth c cG_divide 4 "WordChecker$Gates" gT D cls8 (tys5 cI cJ cC cZ cR) 64 ad A (ZX A kd sd vd kA lA wA)) (hr : meth.sig.returnType = none) (hZ : ZsOK A (ZX A kd sd vd kA lA wA)) {Φ : HI → HL → Prop} {k14 : Int32 → Int32 → HI → HL → Prop} (hk14 : ∀ (v1 : Int32) (v2 : Int32) (hi : HI) (hl : HL) (ls : Array Slot) (H : Heap) (locs : List Loc), k14 v1 v2 hi hl → lv_has ls 4 [(0, .ref (ad 13)), (1, .int v1), (2, .int v2)] → va_P D cls8 (wl 64 ad (GX cI cJ cC cZ cR ad kd) hi hl) H → va_S A s.heap H locs → W p l e (rmX 1 60) s m args below meth c H locs 0 0 (MQ below (va_Qv (fun (u : HI × HL) => Φ u.1 u.2) (fun u t => va_P D cls8 (wl 64 ad (GX cI cJ cC cZ cR ad kd) u.1 u.2) t.heap) A) args s 0 0 A) (F0 m 14 ls [])) {n : Nat} {v1 : Int32} {v2 : Int32} {v3 : Int32} {hi : HI} {hl : HL} {H : Heap} {locs : List Loc} (h : wbG_divide_25 k14 n v1 v2 v3 hi hl Φ) {ls : Array Slot} (hL : lv_has ls 4 [(0, .ref (ad 13)), (1, .int v1), (2, .int v2), (3, .int v3)]) (hP : va_P D cls8 (wl 64 ad (GX cI cJ cC cZ cR ad kd) hi hl) H) (hS : va_S A s.heap H locs) : W p l e (rmX 1 60) s m args below meth c H locs 0 0 (MQ below (va_Qv (fun (u : HI × HL) => Φ u.1 u.2) (fun u t => va_P D cls8 (wl 64 ad (GX cI cJ cC cZ cR ad kd) u.1 u.2) t.heap) A) args s 0 0 A) (F0 m 25 ls []) := by
  induction n generalizing v1 v2 v3 hi hl ls H locs with
  | zero => exact False.elim h
  | succ n ih =>
    unfold wbG_divide_25 at h
    refine lv_iload_n K.1 K.2.1 dG_divide_25 rfl (lv_at hL 3 rfl) ?_
    refine lv_if_le (tgt := 49) K.1 K.2.1 dG_divide_26 rfl (fun hc => ?_) (fun hc => ?_)
    · have h := h.1 hc
      refine lv_aload_n K.1 K.2.1 dG_divide_49 rfl (lv_at hL 0 rfl) ?_
      refine x_get (v := .ref (ad 18)) K hP hinG (ci := 4) rfl 13 (by decide) rfl 4 (by decide) flG_24 rfl rfl dG_divide_50 ?_
      refine lv_iconst (v := 0) K.1 K.2.1 dG_divide_53 (by decide) ?_
      refine lv_aload_n K.1 K.2.1 dG_divide_54 rfl (lv_at hL 0 rfl) ?_
      refine x_get (v := .ref (ad 14)) K hP hinG (ci := 4) rfl 13 (by decide) rfl 0 (by decide) flG_9 rfl rfl dG_divide_55 ?_
      refine lv_iload_n K.1 K.2.1 dG_divide_58 rfl (lv_at hL 2 rfl) ?_
      obtain ⟨g1, h⟩ := h
      refine x_lald K hP 14 (by decide) 1 rfl rfl g1 dG_divide_59 ?_
      obtain ⟨g2, h⟩ := h
      refine x_last K hP hS 18 (by decide) 1 (fun _ => rfl) rfl g2 dG_divide_60 (fun H locs hP hS => ?_)
      refine lv_aload_n K.1 K.2.1 dG_divide_61 rfl (lv_at hL 0 rfl) ?_
      refine x_get (v := .ref (ad 17)) K hP hinG (ci := 4) rfl 13 (by decide) rfl 3 (by decide) flG_21 rfl rfl dG_divide_62 ?_
      refine lv_iload_n K.1 K.2.1 dG_divide_65 rfl (lv_at hL 2 rfl) ?_
      refine lv_aload_n K.1 K.2.1 dG_divide_66 rfl (lv_at hL 0 rfl) ?_
      refine x_cVJ (As := []) (rest := [.int v2, .ref (ad 17)]) K gT_good hZ hP hS calG_takeAway mlG_167 13 (by decide) rfl rfl (mG_takeAway hZ K.2.2.2.2.2.2.2.1 h) ⟨Nat.le_of_ble_eq_true rfl, Nat.le_of_ble_eq_true rfl⟩ rfl hL.1 rfl (Nat.le_of_ble_eq_true rfl) dG_divide_67 (fun r3 hi4 hl5 H locs h hP hS => ?_)
      obtain ⟨g6, h⟩ := h
      refine x_last K hP hS 17 (by decide) 1 (fun _ => rfl) rfl g6 dG_divide_70 (fun H locs hP hS => ?_)
      refine lv_iinc (k := 2) (lv' := [(2, .int (v2 + Int32.ofInt (-1))), (0, .ref (ad 13)), (1, .int v1), (3, .int v3)]) K.1 K.2.1 dG_divide_71 hL rfl rfl (by decide) rfl (fun ls hL => ?_)
      refine lv_goto (tgt := 14) K.1 K.2.1 dG_divide_74 rfl ?_
      exact hk14 _ _ _ _ _ _ _ h (lv_sub hL [1, 2, 0] rfl) hP hS
    · have h := h.2 hc
      refine lv_aload_n K.1 K.2.1 dG_divide_29 rfl (lv_at hL 0 rfl) ?_
      refine x_get (v := .ref (ad 18)) K hP hinG (ci := 4) rfl 13 (by decide) rfl 4 (by decide) flG_24 rfl rfl dG_divide_30 ?_
      refine lv_iload_n K.1 K.2.1 dG_divide_33 rfl (lv_at hL 3 rfl) ?_
      refine lv_aload_n K.1 K.2.1 dG_divide_34 rfl (lv_at hL 0 rfl) ?_
      refine x_get (v := .ref (ad 18)) K hP hinG (ci := 4) rfl 13 (by decide) rfl 4 (by decide) flG_24 rfl rfl dG_divide_35 ?_
      refine lv_iload_n K.1 K.2.1 dG_divide_38 rfl (lv_at hL 3 rfl) ?_
      refine lv_iconst (v := 1) K.1 K.2.1 dG_divide_39 (by decide) ?_
      refine lv_isub K.1 K.2.1 dG_divide_40 ?_
      obtain ⟨g7, h⟩ := h
      refine x_lald K hP 18 (by decide) 1 rfl rfl g7 dG_divide_41 ?_
      obtain ⟨g8, h⟩ := h
      refine x_last K hP hS 18 (by decide) 1 (fun _ => rfl) rfl g8 dG_divide_42 (fun H locs hP hS => ?_)
      refine lv_iinc (k := 3) (lv' := [(3, .int (v3 + Int32.ofInt (-1))), (0, .ref (ad 13)), (1, .int v1), (2, .int v2)]) K.1 K.2.1 dG_divide_43 hL rfl rfl (by decide) rfl (fun ls hL => ?_)
      refine lv_goto (tgt := 25) K.1 K.2.1 dG_divide_46 rfl ?_
      exact ih h (lv_sub hL [1, 2, 3, 0] rfl) hP hS
set_option maxRecDepth 100000 in
set_option maxHeartbeats 4000000 in
theorem bG_divide_14 {p : Program} {l : Launch} {e : Env} {s : State} {m : MethodId} {args : Array Value} {below : List Frame} {meth : Method} {c : Code} {D : va_G} {cI cJ cC cZ cR : ClassId} {ad kd sd vd : Nat → Nat} {kA lA wA : Nat} {A : Nat → Prop} (K : Cx p (rmX 1 60) s m args meth c cG_divide 4 "WordChecker$Gates" gT D cls8 (tys5 cI cJ cC cZ cR) 64 ad A (ZX A kd sd vd kA lA wA)) (hr : meth.sig.returnType = none) (hZ : ZsOK A (ZX A kd sd vd kA lA wA)) {Φ : HI → HL → Prop} {n : Nat} {v1 : Int32} {v2 : Int32} {hi : HI} {hl : HL} {H : Heap} {locs : List Loc} (h : wbG_divide_14 n v1 v2 hi hl Φ) {ls : Array Slot} (hL : lv_has ls 4 [(0, .ref (ad 13)), (1, .int v1), (2, .int v2)]) (hP : va_P D cls8 (wl 64 ad (GX cI cJ cC cZ cR ad kd) hi hl) H) (hS : va_S A s.heap H locs) : W p l e (rmX 1 60) s m args below meth c H locs 0 0 (MQ below (va_Qv (fun (u : HI × HL) => Φ u.1 u.2) (fun u t => va_P D cls8 (wl 64 ad (GX cI cJ cC cZ cR ad kd) u.1 u.2) t.heap) A) args s 0 0 A) (F0 m 14 ls []) := by
  induction n generalizing v1 v2 hi hl ls H locs with
  | zero => exact False.elim h
  | succ n ih =>
    unfold wbG_divide_14 at h
    refine lv_iload_n K.1 K.2.1 dG_divide_14 rfl (lv_at hL 2 rfl) ?_
    refine lv_if_lt (tgt := 77) K.1 K.2.1 dG_divide_15 rfl (fun hc => ?_) (fun hc => ?_)
    · have h := h.1 hc
      refine lv_iload_n K.1 K.2.1 dG_divide_77 rfl (lv_at hL 1 rfl) ?_
      refine lv_if_eq (tgt := 98) K.1 K.2.1 dG_divide_78 rfl (fun hc => ?_) (fun hc => ?_)
      · have h := h.1 hc
        exact x_vret K hr hP hS h dG_divide_98
      · have h := h.2 hc
        refine lv_aload_n K.1 K.2.1 dG_divide_81 rfl (lv_at hL 0 rfl) ?_
        refine x_get (v := .ref (ad 18)) K hP hinG (ci := 4) rfl 13 (by decide) rfl 4 (by decide) flG_24 rfl rfl dG_divide_82 ?_
        refine lv_iconst (v := 0) K.1 K.2.1 dG_divide_85 (by decide) ?_
        refine lv_aload_n K.1 K.2.1 dG_divide_86 rfl (lv_at hL 0 rfl) ?_
        refine x_get (v := .ref (ad 17)) K hP hinG (ci := 4) rfl 13 (by decide) rfl 3 (by decide) flG_21 rfl rfl dG_divide_87 ?_
        refine lv_iconst (v := 0) K.1 K.2.1 dG_divide_90 (by decide) ?_
        refine lv_aload_n K.1 K.2.1 dG_divide_91 rfl (lv_at hL 0 rfl) ?_
        refine x_get (v := .int (hi 13 6)) K hP hinG (ci := 4) rfl 13 (by decide) rfl 6 (by decide) flG_40 rfl rfl dG_divide_92 ?_
        obtain ⟨g1, h⟩ := h
        refine x_copy (rest := []) K hP hS 4 3 (by decide) (by decide) (by decide) g1 mlG_170 ⟨Nat.le_of_ble_eq_true rfl, Nat.le_of_ble_eq_true rfl⟩ hL.1 (Nat.le_of_ble_eq_true rfl) dG_divide_95 (fun H locs hP hS => ?_)
        exact x_vret K hr hP hS h dG_divide_98
    · have h := h.2 hc
      refine lv_aload_n K.1 K.2.1 dG_divide_18 rfl (lv_at hL 0 rfl) ?_
      refine x_get (v := .int (hi 13 6)) K hP hinG (ci := 4) rfl 13 (by decide) rfl 6 (by decide) flG_40 rfl rfl dG_divide_19 ?_
      refine lv_iconst (v := 1) K.1 K.2.1 dG_divide_22 (by decide) ?_
      refine lv_isub K.1 K.2.1 dG_divide_23 ?_
      refine lv_istore_n (lv' := [(3, .int ((hi 13 6) - (1 : Int32))), (0, .ref (ad 13)), (1, .int v1), (2, .int v2)]) K.1 K.2.1 dG_divide_24 rfl hL (by decide) rfl (fun ls hL => ?_)
      obtain ⟨fu, h⟩ := h
      exact bG_divide_25 K hr hZ (fun v1 v2 hi hl ls H locs h hL hP hS => ih h hL hP hS) h (lv_sub hL [1, 2, 3, 0] rfl) hP hS
set_option maxRecDepth 100000 in
set_option maxHeartbeats 4000000 in
theorem bG_divide_0 {p : Program} {l : Launch} {e : Env} {s : State} {m : MethodId} {args : Array Value} {below : List Frame} {meth : Method} {c : Code} {D : va_G} {cI cJ cC cZ cR : ClassId} {ad kd sd vd : Nat → Nat} {kA lA wA : Nat} {A : Nat → Prop} (K : Cx p (rmX 1 60) s m args meth c cG_divide 4 "WordChecker$Gates" gT D cls8 (tys5 cI cJ cC cZ cR) 64 ad A (ZX A kd sd vd kA lA wA)) (hr : meth.sig.returnType = none) (hZ : ZsOK A (ZX A kd sd vd kA lA wA)) {Φ : HI → HL → Prop} {v1 : Int32} {hi : HI} {hl : HL} {H : Heap} {locs : List Loc} (h : wbG_divide_0 v1 hi hl Φ) {ls : Array Slot} (hL : lv_has ls 4 [(0, .ref (ad 13)), (1, .int v1)]) (hP : va_P D cls8 (wl 64 ad (GX cI cJ cC cZ cR ad kd) hi hl) H) (hS : va_S A s.heap H locs) : W p l e (rmX 1 60) s m args below meth c H locs 0 0 (MQ below (va_Qv (fun (u : HI × HL) => Φ u.1 u.2) (fun u t => va_P D cls8 (wl 64 ad (GX cI cJ cC cZ cR ad kd) u.1 u.2) t.heap) A) args s 0 0 A) (F0 m 0 ls []) := by
  unfold wbG_divide_0 at h
  refine lv_aload_n K.1 K.2.1 dG_divide_0 rfl (lv_at hL 0 rfl) ?_
  refine x_get (v := .ref (ad 18)) K hP hinG (ci := 4) rfl 13 (by decide) rfl 4 (by decide) flG_24 rfl rfl dG_divide_1 ?_
  refine x_cSV (As := [.ref (ad 18)]) (rest := []) K gT_good hZ hP hS calG_clear mlG_57 (mG_clear hZ K.2.2.2.2.2.2.2.1 (by decide) h) ⟨Nat.le_of_ble_eq_true rfl, Nat.le_of_ble_eq_true rfl⟩ rfl hL.1 rfl (Nat.le_of_ble_eq_true rfl) dG_divide_4 (fun hi2 hl3 H locs h hP hS => ?_)
  refine lv_aload_n K.1 K.2.1 dG_divide_7 rfl (lv_at hL 0 rfl) ?_
  refine x_get (v := .int (hi2 13 6)) K hP hinG (ci := 4) rfl 13 (by decide) rfl 6 (by decide) flG_40 rfl rfl dG_divide_8 ?_
  refine lv_iconst (v := 1) K.1 K.2.1 dG_divide_11 (by decide) ?_
  refine lv_isub K.1 K.2.1 dG_divide_12 ?_
  refine lv_istore_n (lv' := [(2, .int ((hi2 13 6) - (1 : Int32))), (0, .ref (ad 13)), (1, .int v1)]) K.1 K.2.1 dG_divide_13 rfl hL (by decide) rfl (fun ls hL => ?_)
  obtain ⟨fu, h⟩ := h
  exact bG_divide_14 K hr hZ h (lv_sub hL [1, 2, 0] rfl) hP hS
set_option maxRecDepth 100000 in
set_option maxHeartbeats 4000000 in
theorem mG_divide {l : Launch} {D : va_G} {cI cJ cC cZ cR : ClassId} {ad kd sd vd : Nat → Nat} {kA lA wA : Nat} {A : Nat → Prop} (hZ : ZsOK A (ZX A kd sd vd kA lA wA)) (hD : wlD 64 ad A) {v1 : Int32} {hi : HI} {hl : HL} {Φ : HI → HL → Prop} (h : wpG_divide v1 hi hl Φ) : SpV l yG_divide cG_divide 4 none gT 1 60 [.ref (ad 13), .int v1] D cls8 (tys5 cI cJ cC cZ cR) 64 ad (GX cI cJ cC cZ cR ad kd) A (ZX A kd sd vd kA lA wA) hi hl Φ := by
  refine Met.ofW (cc := cG_divide) (maxL := 4) (ret := none) (by decide) rfl ?_
  intro p e s m args below meth c s₁ B hml hv
  obtain ⟨rfl, hP, hK, hZs⟩ := hv
  have K : Cx p (rmX 1 60) s m _ meth c cG_divide 4 "WordChecker$Gates" gT D cls8 (tys5 cI cJ cC cZ cR) 64 ad A (ZX A kd sd vd kA lA wA) := ⟨B.exec, B.bytes, hml, findClass_of_methodNamed B.named, fun w hw => atoms_spec B.pre w (List.mem_cons_of_mem _ hw), B.notSynchronized, hK, hD, hZs⟩
  have hL := lv_entry ([.ref (ad 13), .int v1]) (n := 4) (Nat.le_of_ble_eq_true rfl)
  rw [lg_entry_eq]
  generalize (lg_sl ([.ref (ad 13), .int v1]) ++ List.replicate (4 - (lg_sl ([.ref (ad 13), .int v1])).length) Slot.unset).toArray = ls at hL ⊢
  have hL : lv_has ls 4 [(0, .ref (ad 13)), (1, .int v1)] := hL
  unfold wpG_divide at h
  exact bG_divide_0 K B.returns hZ h (lv_sub hL [0, 1] rfl) hP va_S.rf
set_option maxRecDepth 100000 in
set_option maxHeartbeats 4000000 in
theorem bG_multiply_15 {p : Program} {l : Launch} {e : Env} {s : State} {m : MethodId} {args : Array Value} {below : List Frame} {meth : Method} {c : Code} {D : va_G} {cI cJ cC cZ cR : ClassId} {ad kd sd vd : Nat → Nat} {kA lA wA : Nat} {A : Nat → Prop} (K : Cx p (rmX 1 25) s m args meth c cG_multiply 9 "WordChecker$Gates" gT D cls8 (tys5 cI cJ cC cZ cR) 64 ad A (ZX A kd sd vd kA lA wA)) (hr : meth.sig.returnType = none) (hZ : ZsOK A (ZX A kd sd vd kA lA wA)) {Φ : HI → HL → Prop} {k2 : Int32 → HI → HL → Prop} (hk2 : ∀ (v1 : Int32) (hi : HI) (hl : HL) (ls : Array Slot) (H : Heap) (locs : List Loc), k2 v1 hi hl → lv_has ls 9 [(0, .ref (ad 13)), (1, .int v1)] → va_P D cls8 (wl 64 ad (GX cI cJ cC cZ cR ad kd) hi hl) H → va_S A s.heap H locs → W p l e (rmX 1 25) s m args below meth c H locs 0 0 (MQ below (va_Qv (fun (u : HI × HL) => Φ u.1 u.2) (fun u t => va_P D cls8 (wl 64 ad (GX cI cJ cC cZ cR ad kd) u.1 u.2) t.heap) A) args s 0 0 A) (F0 m 2 ls [])) {n : Nat} {v1 : Int32} {v2 : Int64} {v4 : Int32} {hi : HI} {hl : HL} {H : Heap} {locs : List Loc} (h : wbG_multiply_15 k2 n v1 v2 v4 hi hl Φ) {ls : Array Slot} (hL : lv_has ls 9 [(0, .ref (ad 13)), (1, .int v1), (2, .long v2), (4, .int v4)]) (hP : va_P D cls8 (wl 64 ad (GX cI cJ cC cZ cR ad kd) hi hl) H) (hS : va_S A s.heap H locs) : W p l e (rmX 1 25) s m args below meth c H locs 0 0 (MQ below (va_Qv (fun (u : HI × HL) => Φ u.1 u.2) (fun u t => va_P D cls8 (wl 64 ad (GX cI cJ cC cZ cR ad kd) u.1 u.2) t.heap) A) args s 0 0 A) (F0 m 15 ls []) := by
  induction n generalizing v1 v2 v4 hi hl ls H locs with
  | zero => exact False.elim h
  | succ n ih =>
    unfold wbG_multiply_15 at h
    refine lv_iload K.1 K.2.1 dG_multiply_15 (lv_at hL 3 rfl) ?_
    refine lv_aload_n K.1 K.2.1 dG_multiply_17 rfl (lv_at hL 0 rfl) ?_
    refine x_get (v := .int (hi 13 6)) K hP hinG (ci := 4) rfl 13 (by decide) rfl 6 (by decide) flG_40 rfl rfl dG_multiply_18 ?_
    refine lv_icmp_ge (tgt := 85) K.1 K.2.1 dG_multiply_21 rfl (fun hc => ?_) (fun hc => ?_)
    · have h := h.1 hc
      refine lv_iinc (k := 1) (lv' := [(1, .int (v1 + Int32.ofInt (1))), (0, .ref (ad 13)), (2, .long v2), (4, .int v4)]) K.1 K.2.1 dG_multiply_85 hL rfl rfl (by decide) rfl (fun ls hL => ?_)
      refine lv_goto (tgt := 2) K.1 K.2.1 dG_multiply_88 rfl ?_
      exact hk2 _ _ _ _ _ _ h (lv_sub hL [1, 0] rfl) hP hS
    · have h := h.2 hc
      refine lv_aload_n K.1 K.2.1 dG_multiply_24 rfl (lv_at hL 0 rfl) ?_
      refine x_get (v := .ref (ad 14)) K hP hinG (ci := 4) rfl 13 (by decide) rfl 0 (by decide) flG_9 rfl rfl dG_multiply_25 ?_
      refine lv_iload K.1 K.2.1 dG_multiply_28 (lv_at hL 3 rfl) ?_
      refine lv_iload_n K.1 K.2.1 dG_multiply_30 rfl (lv_at hL 1 rfl) ?_
      refine lv_isub K.1 K.2.1 dG_multiply_31 ?_
      obtain ⟨g1, h⟩ := h
      refine x_lald K hP 14 (by decide) 1 rfl rfl g1 dG_multiply_32 ?_
      refine lv_aload_n K.1 K.2.1 dG_multiply_33 rfl (lv_at hL 0 rfl) ?_
      refine x_get (v := .ref (ad 15)) K hP hinG (ci := 4) rfl 13 (by decide) rfl 1 (by decide) flG_15 rfl rfl dG_multiply_34 ?_
      refine lv_iload_n K.1 K.2.1 dG_multiply_37 rfl (lv_at hL 1 rfl) ?_
      obtain ⟨g2, h⟩ := h
      refine x_lald K hP 15 (by decide) 1 rfl rfl g2 dG_multiply_38 ?_
      refine lv_land K.1 K.2.1 dG_multiply_39 ?_
      refine lv_lstore (lv' := [(5, .long ((hl 14 ((v4 - v1).toNatClampNeg)) &&& (hl 15 (v1.toNatClampNeg)))), (0, .ref (ad 13)), (1, .int v1), (2, .long v2), (4, .int v4)]) K.1 K.2.1 dG_multiply_40 hL (by decide) rfl (fun ls hL => ?_)
      refine lv_aload_n K.1 K.2.1 dG_multiply_42 rfl (lv_at hL 1 rfl) ?_
      refine x_get (v := .ref (ad 17)) K hP hinG (ci := 4) rfl 13 (by decide) rfl 3 (by decide) flG_21 rfl rfl dG_multiply_43 ?_
      refine lv_iload K.1 K.2.1 dG_multiply_46 (lv_at hL 4 rfl) ?_
      obtain ⟨g3, h⟩ := h
      refine x_lald K hP 17 (by decide) 1 rfl rfl g3 dG_multiply_48 ?_
      refine lv_lload K.1 K.2.1 dG_multiply_49 (lv_at hL 0 rfl) ?_
      refine lv_lxor K.1 K.2.1 dG_multiply_51 ?_
      refine lv_lload_n K.1 K.2.1 dG_multiply_52 rfl (lv_at hL 3 rfl) ?_
      refine lv_lxor K.1 K.2.1 dG_multiply_53 ?_
      refine lv_lstore (lv' := [(7, .long (((hl 17 (v4.toNatClampNeg)) ^^^ ((hl 14 ((v4 - v1).toNatClampNeg)) &&& (hl 15 (v1.toNatClampNeg)))) ^^^ v2)), (5, .long ((hl 14 ((v4 - v1).toNatClampNeg)) &&& (hl 15 (v1.toNatClampNeg)))), (0, .ref (ad 13)), (1, .int v1), (2, .long v2), (4, .int v4)]) K.1 K.2.1 dG_multiply_54 hL (by decide) rfl (fun ls hL => ?_)
      refine lv_aload_n K.1 K.2.1 dG_multiply_56 rfl (lv_at hL 2 rfl) ?_
      refine x_get (v := .ref (ad 17)) K hP hinG (ci := 4) rfl 13 (by decide) rfl 3 (by decide) flG_21 rfl rfl dG_multiply_57 ?_
      refine lv_iload K.1 K.2.1 dG_multiply_60 (lv_at hL 5 rfl) ?_
      obtain ⟨g4, h⟩ := h
      refine x_lald K hP 17 (by decide) 1 rfl rfl g4 dG_multiply_62 ?_
      refine lv_lload K.1 K.2.1 dG_multiply_63 (lv_at hL 1 rfl) ?_
      refine lv_lload_n K.1 K.2.1 dG_multiply_65 rfl (lv_at hL 4 rfl) ?_
      refine x_cSJ (As := [.long (hl 17 (v4.toNatClampNeg)), .long ((hl 14 ((v4 - v1).toNatClampNeg)) &&& (hl 15 (v1.toNatClampNeg))), .long v2]) (rest := []) K gT_good hZ hP hS calG_carryOf mlG_164 (mG_carryOf hZ K.2.2.2.2.2.2.2.1 h) ⟨Nat.le_of_ble_eq_true rfl, Nat.le_of_ble_eq_true rfl⟩ rfl hL.1 rfl (Nat.le_of_ble_eq_true rfl) dG_multiply_66 (fun r5 hi6 hl7 H locs h hP hS => ?_)
      refine lv_lstore_n (lv' := [(2, .long r5), (7, .long (((hl 17 (v4.toNatClampNeg)) ^^^ ((hl 14 ((v4 - v1).toNatClampNeg)) &&& (hl 15 (v1.toNatClampNeg)))) ^^^ v2)), (5, .long ((hl 14 ((v4 - v1).toNatClampNeg)) &&& (hl 15 (v1.toNatClampNeg)))), (0, .ref (ad 13)), (1, .int v1), (4, .int v4)]) K.1 K.2.1 dG_multiply_69 rfl hL (by decide) rfl (fun ls hL => ?_)
      refine lv_aload_n K.1 K.2.1 dG_multiply_70 rfl (lv_at hL 3 rfl) ?_
      refine x_get (v := .ref (ad 17)) K hP hinG (ci := 4) rfl 13 (by decide) rfl 3 (by decide) flG_21 rfl rfl dG_multiply_71 ?_
      refine lv_iload K.1 K.2.1 dG_multiply_74 (lv_at hL 5 rfl) ?_
      refine lv_lload K.1 K.2.1 dG_multiply_76 (lv_at hL 1 rfl) ?_
      obtain ⟨g8, h⟩ := h
      refine x_last K hP hS 17 (by decide) 1 (fun _ => rfl) rfl g8 dG_multiply_78 (fun H locs hP hS => ?_)
      refine lv_iinc (k := 5) (lv' := [(4, .int (v4 + Int32.ofInt (1))), (2, .long r5), (7, .long (((hl 17 (v4.toNatClampNeg)) ^^^ ((hl 14 ((v4 - v1).toNatClampNeg)) &&& (hl 15 (v1.toNatClampNeg)))) ^^^ v2)), (5, .long ((hl 14 ((v4 - v1).toNatClampNeg)) &&& (hl 15 (v1.toNatClampNeg)))), (0, .ref (ad 13)), (1, .int v1)]) K.1 K.2.1 dG_multiply_79 hL rfl rfl (by decide) rfl (fun ls hL => ?_)
      refine lv_goto (tgt := 15) K.1 K.2.1 dG_multiply_82 rfl ?_
      exact ih h (lv_sub hL [4, 5, 1, 0] rfl) hP hS
set_option maxRecDepth 100000 in
set_option maxHeartbeats 4000000 in
theorem bG_multiply_2 {p : Program} {l : Launch} {e : Env} {s : State} {m : MethodId} {args : Array Value} {below : List Frame} {meth : Method} {c : Code} {D : va_G} {cI cJ cC cZ cR : ClassId} {ad kd sd vd : Nat → Nat} {kA lA wA : Nat} {A : Nat → Prop} (K : Cx p (rmX 1 25) s m args meth c cG_multiply 9 "WordChecker$Gates" gT D cls8 (tys5 cI cJ cC cZ cR) 64 ad A (ZX A kd sd vd kA lA wA)) (hr : meth.sig.returnType = none) (hZ : ZsOK A (ZX A kd sd vd kA lA wA)) {Φ : HI → HL → Prop} {n : Nat} {v1 : Int32} {hi : HI} {hl : HL} {H : Heap} {locs : List Loc} (h : wbG_multiply_2 n v1 hi hl Φ) {ls : Array Slot} (hL : lv_has ls 9 [(0, .ref (ad 13)), (1, .int v1)]) (hP : va_P D cls8 (wl 64 ad (GX cI cJ cC cZ cR ad kd) hi hl) H) (hS : va_S A s.heap H locs) : W p l e (rmX 1 25) s m args below meth c H locs 0 0 (MQ below (va_Qv (fun (u : HI × HL) => Φ u.1 u.2) (fun u t => va_P D cls8 (wl 64 ad (GX cI cJ cC cZ cR ad kd) u.1 u.2) t.heap) A) args s 0 0 A) (F0 m 2 ls []) := by
  induction n generalizing v1 hi hl ls H locs with
  | zero => exact False.elim h
  | succ n ih =>
    unfold wbG_multiply_2 at h
    refine lv_iload_n K.1 K.2.1 dG_multiply_2 rfl (lv_at hL 1 rfl) ?_
    refine lv_aload_n K.1 K.2.1 dG_multiply_3 rfl (lv_at hL 0 rfl) ?_
    refine x_get (v := .int (hi 13 6)) K hP hinG (ci := 4) rfl 13 (by decide) rfl 6 (by decide) flG_40 rfl rfl dG_multiply_4 ?_
    refine lv_icmp_ge (tgt := 91) K.1 K.2.1 dG_multiply_7 rfl (fun hc => ?_) (fun hc => ?_)
    · have h := h.1 hc
      exact x_vret K hr hP hS h dG_multiply_91
    · have h := h.2 hc
      refine lv_lconst (v := 0) K.1 K.2.1 dG_multiply_10 (by decide) ?_
      refine lv_lstore_n (lv' := [(2, .long (0 : Int64)), (0, .ref (ad 13)), (1, .int v1)]) K.1 K.2.1 dG_multiply_11 rfl hL (by decide) rfl (fun ls hL => ?_)
      refine lv_iload_n K.1 K.2.1 dG_multiply_12 rfl (lv_at hL 2 rfl) ?_
      refine lv_istore (lv' := [(4, .int v1), (2, .long (0 : Int64)), (0, .ref (ad 13)), (1, .int v1)]) K.1 K.2.1 dG_multiply_13 hL (by decide) rfl (fun ls hL => ?_)
      obtain ⟨fu, h⟩ := h
      exact bG_multiply_15 K hr hZ (fun v1 hi hl ls H locs h hL hP hS => ih h hL hP hS) h (lv_sub hL [2, 3, 1, 0] rfl) hP hS
set_option maxRecDepth 100000 in
set_option maxHeartbeats 4000000 in
theorem bG_multiply_0 {p : Program} {l : Launch} {e : Env} {s : State} {m : MethodId} {args : Array Value} {below : List Frame} {meth : Method} {c : Code} {D : va_G} {cI cJ cC cZ cR : ClassId} {ad kd sd vd : Nat → Nat} {kA lA wA : Nat} {A : Nat → Prop} (K : Cx p (rmX 1 25) s m args meth c cG_multiply 9 "WordChecker$Gates" gT D cls8 (tys5 cI cJ cC cZ cR) 64 ad A (ZX A kd sd vd kA lA wA)) (hr : meth.sig.returnType = none) (hZ : ZsOK A (ZX A kd sd vd kA lA wA)) {Φ : HI → HL → Prop} {hi : HI} {hl : HL} {H : Heap} {locs : List Loc} (h : wbG_multiply_0 hi hl Φ) {ls : Array Slot} (hL : lv_has ls 9 [(0, .ref (ad 13))]) (hP : va_P D cls8 (wl 64 ad (GX cI cJ cC cZ cR ad kd) hi hl) H) (hS : va_S A s.heap H locs) : W p l e (rmX 1 25) s m args below meth c H locs 0 0 (MQ below (va_Qv (fun (u : HI × HL) => Φ u.1 u.2) (fun u t => va_P D cls8 (wl 64 ad (GX cI cJ cC cZ cR ad kd) u.1 u.2) t.heap) A) args s 0 0 A) (F0 m 0 ls []) := by
  unfold wbG_multiply_0 at h
  refine lv_iconst (v := 0) K.1 K.2.1 dG_multiply_0 (by decide) ?_
  refine lv_istore_n (lv' := [(1, .int (0 : Int32)), (0, .ref (ad 13))]) K.1 K.2.1 dG_multiply_1 rfl hL (by decide) rfl (fun ls hL => ?_)
  obtain ⟨fu, h⟩ := h
  exact bG_multiply_2 K hr hZ h (lv_sub hL [1, 0] rfl) hP hS
set_option maxRecDepth 100000 in
set_option maxHeartbeats 4000000 in
theorem mG_multiply {l : Launch} {D : va_G} {cI cJ cC cZ cR : ClassId} {ad kd sd vd : Nat → Nat} {kA lA wA : Nat} {A : Nat → Prop} (hZ : ZsOK A (ZX A kd sd vd kA lA wA)) (hD : wlD 64 ad A) {hi : HI} {hl : HL} {Φ : HI → HL → Prop} (h : wpG_multiply hi hl Φ) : SpV l yG_multiply cG_multiply 9 none gT 1 25 [.ref (ad 13)] D cls8 (tys5 cI cJ cC cZ cR) 64 ad (GX cI cJ cC cZ cR ad kd) A (ZX A kd sd vd kA lA wA) hi hl Φ := by
  refine Met.ofW (cc := cG_multiply) (maxL := 9) (ret := none) (by decide) rfl ?_
  intro p e s m args below meth c s₁ B hml hv
  obtain ⟨rfl, hP, hK, hZs⟩ := hv
  have K : Cx p (rmX 1 25) s m _ meth c cG_multiply 9 "WordChecker$Gates" gT D cls8 (tys5 cI cJ cC cZ cR) 64 ad A (ZX A kd sd vd kA lA wA) := ⟨B.exec, B.bytes, hml, findClass_of_methodNamed B.named, fun w hw => atoms_spec B.pre w (List.mem_cons_of_mem _ hw), B.notSynchronized, hK, hD, hZs⟩
  have hL := lv_entry ([.ref (ad 13)]) (n := 9) (Nat.le_of_ble_eq_true rfl)
  rw [lg_entry_eq]
  generalize (lg_sl ([.ref (ad 13)]) ++ List.replicate (9 - (lg_sl ([.ref (ad 13)])).length) Slot.unset).toArray = ls at hL ⊢
  have hL : lv_has ls 9 [(0, .ref (ad 13))] := hL
  unfold wpG_multiply at h
  exact bG_multiply_0 K B.returns hZ h (lv_sub hL [0] rfl) hP va_S.rf
set_option maxRecDepth 100000 in
set_option maxHeartbeats 4000000 in
theorem bG_shiftLeft_70 {p : Program} {l : Launch} {e : Env} {s : State} {m : MethodId} {args : Array Value} {below : List Frame} {meth : Method} {c : Code} {D : va_G} {cI cJ cC cZ cR : ClassId} {ad kd sd vd : Nat → Nat} {kA lA wA : Nat} {A : Nat → Prop} (K : Cx p (rmX 1 60) s m args meth c cG_shiftLeft 4 "WordChecker$Gates" gT D cls8 (tys5 cI cJ cC cZ cR) 64 ad A (ZX A kd sd vd kA lA wA)) (hr : meth.sig.returnType = none) (hZ : ZsOK A (ZX A kd sd vd kA lA wA)) {Φ : HI → HL → Prop} {k19 : Int32 → HI → HL → Prop} (hk19 : ∀ (v1 : Int32) (hi : HI) (hl : HL) (ls : Array Slot) (H : Heap) (locs : List Loc), k19 v1 hi hl → lv_has ls 4 [(0, .ref (ad 13)), (1, .int v1)] → va_P D cls8 (wl 64 ad (GX cI cJ cC cZ cR ad kd) hi hl) H → va_S A s.heap H locs → W p l e (rmX 1 60) s m args below meth c H locs 0 0 (MQ below (va_Qv (fun (u : HI × HL) => Φ u.1 u.2) (fun u t => va_P D cls8 (wl 64 ad (GX cI cJ cC cZ cR ad kd) u.1 u.2) t.heap) A) args s 0 0 A) (F0 m 19 ls [])) {k38 : Int32 → Int32 → Int32 → HI → HL → Prop} (hk38 : ∀ (v1 : Int32) (v2 : Int32) (v3 : Int32) (hi : HI) (hl : HL) (ls : Array Slot) (H : Heap) (locs : List Loc), k38 v1 v2 v3 hi hl → lv_has ls 4 [(0, .ref (ad 13)), (1, .int v1), (2, .int v2), (3, .int v3)] → va_P D cls8 (wl 64 ad (GX cI cJ cC cZ cR ad kd) hi hl) H → va_S A s.heap H locs → W p l e (rmX 1 60) s m args below meth c H locs 0 0 (MQ below (va_Qv (fun (u : HI × HL) => Φ u.1 u.2) (fun u t => va_P D cls8 (wl 64 ad (GX cI cJ cC cZ cR ad kd) u.1 u.2) t.heap) A) args s 0 0 A) (F0 m 38 ls [])) {v1 : Int32} {v2 : Int32} {v3 : Int32} {q0 : Nat} {q1 : Int32} {q2 : Int64} {q3 : Int64} {hi : HI} {hl : HL} {H : Heap} {locs : List Loc} (h : wbG_shiftLeft_70 k19 k38 v1 v2 v3 q0 q1 q2 q3 hi hl Φ) (hq0 : q0 < 6) {ls : Array Slot} (hL : lv_has ls 4 [(0, .ref (ad 13)), (1, .int v1), (2, .int v2), (3, .int v3)]) (hP : va_P D cls8 (wl 64 ad (GX cI cJ cC cZ cR ad kd) hi hl) H) (hS : va_S A s.heap H locs) : W p l e (rmX 1 60) s m args below meth c H locs 0 0 (MQ below (va_Qv (fun (u : HI × HL) => Φ u.1 u.2) (fun u t => va_P D cls8 (wl 64 ad (GX cI cJ cC cZ cR ad kd) u.1 u.2) t.heap) A) args s 0 0 A) (F0 m 70 ls [.long q3, .long q2, .int q1, .ref (ad (14 + q0))]) := by
  unfold wbG_shiftLeft_70 at h
  refine lv_aload_n K.1 K.2.1 dG_shiftLeft_70 rfl (lv_at hL 0 rfl) ?_
  refine x_get (v := .ref (ad 17)) K hP hinG (ci := 4) rfl 13 (by decide) rfl 3 (by decide) flG_21 rfl rfl dG_shiftLeft_71 ?_
  refine lv_iload_n K.1 K.2.1 dG_shiftLeft_74 rfl (lv_at hL 3 rfl) ?_
  obtain ⟨g1, h⟩ := h
  refine x_lald K hP 17 (by decide) 1 rfl rfl g1 dG_shiftLeft_75 ?_
  refine x_cSJ (As := [.long q2, .long q3, .long (hl 17 (v3.toNatClampNeg))]) (rest := [.int q1, .ref (ad (14 + q0))]) K gT_good hZ hP hS calG_choose mlG_130 (mG_choose hZ K.2.2.2.2.2.2.2.1 h) ⟨Nat.le_of_ble_eq_true rfl, Nat.le_of_ble_eq_true rfl⟩ rfl hL.1 rfl (Nat.le_of_ble_eq_true rfl) dG_shiftLeft_76 (fun r2 hi3 hl4 H locs h hP hS => ?_)
  obtain ⟨g5, h⟩ := h
  refine x_last K hP hS (14 + q0) (lt_g hq0) 1 (fun _ => (GX_garr _ hq0 _ _)) rfl g5 dG_shiftLeft_79 (fun H locs hP hS => ?_)
  refine lv_iinc (k := 3) (lv' := [(3, .int (v3 + Int32.ofInt (-1))), (0, .ref (ad 13)), (1, .int v1), (2, .int v2)]) K.1 K.2.1 dG_shiftLeft_80 hL rfl rfl (by decide) rfl (fun ls hL => ?_)
  refine lv_goto (tgt := 38) K.1 K.2.1 dG_shiftLeft_83 rfl ?_
  exact hk38 _ _ _ _ _ _ _ _ h (lv_sub hL [1, 2, 3, 0] rfl) hP hS
set_option maxRecDepth 100000 in
set_option maxHeartbeats 4000000 in
theorem bG_shiftLeft_38 {p : Program} {l : Launch} {e : Env} {s : State} {m : MethodId} {args : Array Value} {below : List Frame} {meth : Method} {c : Code} {D : va_G} {cI cJ cC cZ cR : ClassId} {ad kd sd vd : Nat → Nat} {kA lA wA : Nat} {A : Nat → Prop} (K : Cx p (rmX 1 60) s m args meth c cG_shiftLeft 4 "WordChecker$Gates" gT D cls8 (tys5 cI cJ cC cZ cR) 64 ad A (ZX A kd sd vd kA lA wA)) (hr : meth.sig.returnType = none) (hZ : ZsOK A (ZX A kd sd vd kA lA wA)) {Φ : HI → HL → Prop} {k19 : Int32 → HI → HL → Prop} (hk19 : ∀ (v1 : Int32) (hi : HI) (hl : HL) (ls : Array Slot) (H : Heap) (locs : List Loc), k19 v1 hi hl → lv_has ls 4 [(0, .ref (ad 13)), (1, .int v1)] → va_P D cls8 (wl 64 ad (GX cI cJ cC cZ cR ad kd) hi hl) H → va_S A s.heap H locs → W p l e (rmX 1 60) s m args below meth c H locs 0 0 (MQ below (va_Qv (fun (u : HI × HL) => Φ u.1 u.2) (fun u t => va_P D cls8 (wl 64 ad (GX cI cJ cC cZ cR ad kd) u.1 u.2) t.heap) A) args s 0 0 A) (F0 m 19 ls [])) {n : Nat} {v1 : Int32} {v2 : Int32} {v3 : Int32} {hi : HI} {hl : HL} {H : Heap} {locs : List Loc} (h : wbG_shiftLeft_38 k19 n v1 v2 v3 hi hl Φ) {ls : Array Slot} (hL : lv_has ls 4 [(0, .ref (ad 13)), (1, .int v1), (2, .int v2), (3, .int v3)]) (hP : va_P D cls8 (wl 64 ad (GX cI cJ cC cZ cR ad kd) hi hl) H) (hS : va_S A s.heap H locs) : W p l e (rmX 1 60) s m args below meth c H locs 0 0 (MQ below (va_Qv (fun (u : HI × HL) => Φ u.1 u.2) (fun u t => va_P D cls8 (wl 64 ad (GX cI cJ cC cZ cR ad kd) u.1 u.2) t.heap) A) args s 0 0 A) (F0 m 38 ls []) := by
  induction n generalizing v1 v2 v3 hi hl ls H locs with
  | zero => exact False.elim h
  | succ n ih =>
    unfold wbG_shiftLeft_38 at h
    refine lv_iload_n K.1 K.2.1 dG_shiftLeft_38 rfl (lv_at hL 3 rfl) ?_
    refine lv_if_lt (tgt := 86) K.1 K.2.1 dG_shiftLeft_39 rfl (fun hc => ?_) (fun hc => ?_)
    · have h := h.1 hc
      refine lv_iinc (k := 1) (lv' := [(1, .int (v1 + Int32.ofInt (1))), (0, .ref (ad 13)), (2, .int v2), (3, .int v3)]) K.1 K.2.1 dG_shiftLeft_86 hL rfl rfl (by decide) rfl (fun ls hL => ?_)
      refine lv_goto (tgt := 19) K.1 K.2.1 dG_shiftLeft_89 rfl ?_
      exact hk19 _ _ _ _ _ _ h (lv_sub hL [1, 0] rfl) hP hS
    · have h := h.2 hc
      refine lv_aload_n K.1 K.2.1 dG_shiftLeft_42 rfl (lv_at hL 0 rfl) ?_
      refine x_get (v := .ref (ad 17)) K hP hinG (ci := 4) rfl 13 (by decide) rfl 3 (by decide) flG_21 rfl rfl dG_shiftLeft_43 ?_
      refine lv_iload_n K.1 K.2.1 dG_shiftLeft_46 rfl (lv_at hL 3 rfl) ?_
      refine lv_aload_n K.1 K.2.1 dG_shiftLeft_47 rfl (lv_at hL 0 rfl) ?_
      refine x_get (v := .ref (ad 15)) K hP hinG (ci := 4) rfl 13 (by decide) rfl 1 (by decide) flG_15 rfl rfl dG_shiftLeft_48 ?_
      refine lv_iload_n K.1 K.2.1 dG_shiftLeft_51 rfl (lv_at hL 1 rfl) ?_
      obtain ⟨g1, h⟩ := h
      refine x_lald K hP 15 (by decide) 1 rfl rfl g1 dG_shiftLeft_52 ?_
      refine lv_iload_n K.1 K.2.1 dG_shiftLeft_53 rfl (lv_at hL 3 rfl) ?_
      refine lv_iload_n K.1 K.2.1 dG_shiftLeft_54 rfl (lv_at hL 2 rfl) ?_
      refine lv_icmp_lt (tgt := 69) K.1 K.2.1 dG_shiftLeft_55 rfl (fun hc => ?_) (fun hc => ?_)
      · have h := h.1 hc
        refine lv_lconst (v := 0) K.1 K.2.1 dG_shiftLeft_69 (by decide) ?_
        exact bG_shiftLeft_70 K hr hZ hk19 (fun v1 v2 v3 hi hl ls H locs h hL hP hS => ih h hL hP hS) h (by decide) (lv_sub hL [0, 1, 2, 3] rfl) hP hS
      · have h := h.2 hc
        refine lv_aload_n K.1 K.2.1 dG_shiftLeft_58 rfl (lv_at hL 0 rfl) ?_
        refine x_get (v := .ref (ad 17)) K hP hinG (ci := 4) rfl 13 (by decide) rfl 3 (by decide) flG_21 rfl rfl dG_shiftLeft_59 ?_
        refine lv_iload_n K.1 K.2.1 dG_shiftLeft_62 rfl (lv_at hL 3 rfl) ?_
        refine lv_iload_n K.1 K.2.1 dG_shiftLeft_63 rfl (lv_at hL 2 rfl) ?_
        refine lv_isub K.1 K.2.1 dG_shiftLeft_64 ?_
        obtain ⟨g2, h⟩ := h
        refine x_lald K hP 17 (by decide) 1 rfl rfl g2 dG_shiftLeft_65 ?_
        refine lv_goto (tgt := 70) K.1 K.2.1 dG_shiftLeft_66 rfl ?_
        exact bG_shiftLeft_70 K hr hZ hk19 (fun v1 v2 v3 hi hl ls H locs h hL hP hS => ih h hL hP hS) h (by decide) (lv_sub hL [0, 1, 2, 3] rfl) hP hS
set_option maxRecDepth 100000 in
set_option maxHeartbeats 4000000 in
theorem bG_shiftLeft_19 {p : Program} {l : Launch} {e : Env} {s : State} {m : MethodId} {args : Array Value} {below : List Frame} {meth : Method} {c : Code} {D : va_G} {cI cJ cC cZ cR : ClassId} {ad kd sd vd : Nat → Nat} {kA lA wA : Nat} {A : Nat → Prop} (K : Cx p (rmX 1 60) s m args meth c cG_shiftLeft 4 "WordChecker$Gates" gT D cls8 (tys5 cI cJ cC cZ cR) 64 ad A (ZX A kd sd vd kA lA wA)) (hr : meth.sig.returnType = none) (hZ : ZsOK A (ZX A kd sd vd kA lA wA)) {Φ : HI → HL → Prop} {n : Nat} {v1 : Int32} {hi : HI} {hl : HL} {H : Heap} {locs : List Loc} (h : wbG_shiftLeft_19 n v1 hi hl Φ) {ls : Array Slot} (hL : lv_has ls 4 [(0, .ref (ad 13)), (1, .int v1)]) (hP : va_P D cls8 (wl 64 ad (GX cI cJ cC cZ cR ad kd) hi hl) H) (hS : va_S A s.heap H locs) : W p l e (rmX 1 60) s m args below meth c H locs 0 0 (MQ below (va_Qv (fun (u : HI × HL) => Φ u.1 u.2) (fun u t => va_P D cls8 (wl 64 ad (GX cI cJ cC cZ cR ad kd) u.1 u.2) t.heap) A) args s 0 0 A) (F0 m 19 ls []) := by
  induction n generalizing v1 hi hl ls H locs with
  | zero => exact False.elim h
  | succ n ih =>
    unfold wbG_shiftLeft_19 at h
    refine lv_iload_n K.1 K.2.1 dG_shiftLeft_19 rfl (lv_at hL 1 rfl) ?_
    refine lv_aload_n K.1 K.2.1 dG_shiftLeft_20 rfl (lv_at hL 0 rfl) ?_
    refine x_get (v := .int (hi 13 6)) K hP hinG (ci := 4) rfl 13 (by decide) rfl 6 (by decide) flG_40 rfl rfl dG_shiftLeft_21 ?_
    refine lv_icmp_ge (tgt := 92) K.1 K.2.1 dG_shiftLeft_24 rfl (fun hc => ?_) (fun hc => ?_)
    · have h := h.1 hc
      exact x_vret K hr hP hS h dG_shiftLeft_92
    · have h := h.2 hc
      refine lv_iconst (v := 1) K.1 K.2.1 dG_shiftLeft_27 (by decide) ?_
      refine lv_iload_n K.1 K.2.1 dG_shiftLeft_28 rfl (lv_at hL 1 rfl) ?_
      refine lv_ishl K.1 K.2.1 dG_shiftLeft_29 ?_
      refine lv_istore_n (lv' := [(2, .int ((1 : Int32) <<< (v1 &&& 31))), (0, .ref (ad 13)), (1, .int v1)]) K.1 K.2.1 dG_shiftLeft_30 rfl hL (by decide) rfl (fun ls hL => ?_)
      refine lv_aload_n K.1 K.2.1 dG_shiftLeft_31 rfl (lv_at hL 1 rfl) ?_
      refine x_get (v := .int (hi 13 6)) K hP hinG (ci := 4) rfl 13 (by decide) rfl 6 (by decide) flG_40 rfl rfl dG_shiftLeft_32 ?_
      refine lv_iconst (v := 1) K.1 K.2.1 dG_shiftLeft_35 (by decide) ?_
      refine lv_isub K.1 K.2.1 dG_shiftLeft_36 ?_
      refine lv_istore_n (lv' := [(3, .int ((hi 13 6) - (1 : Int32))), (2, .int ((1 : Int32) <<< (v1 &&& 31))), (0, .ref (ad 13)), (1, .int v1)]) K.1 K.2.1 dG_shiftLeft_37 rfl hL (by decide) rfl (fun ls hL => ?_)
      obtain ⟨fu, h⟩ := h
      exact bG_shiftLeft_38 K hr hZ (fun v1 hi hl ls H locs h hL hP hS => ih h hL hP hS) h (lv_sub hL [2, 3, 1, 0] rfl) hP hS
set_option maxRecDepth 100000 in
set_option maxHeartbeats 4000000 in
theorem bG_shiftLeft_0 {p : Program} {l : Launch} {e : Env} {s : State} {m : MethodId} {args : Array Value} {below : List Frame} {meth : Method} {c : Code} {D : va_G} {cI cJ cC cZ cR : ClassId} {ad kd sd vd : Nat → Nat} {kA lA wA : Nat} {A : Nat → Prop} (K : Cx p (rmX 1 60) s m args meth c cG_shiftLeft 4 "WordChecker$Gates" gT D cls8 (tys5 cI cJ cC cZ cR) 64 ad A (ZX A kd sd vd kA lA wA)) (hr : meth.sig.returnType = none) (hZ : ZsOK A (ZX A kd sd vd kA lA wA)) {Φ : HI → HL → Prop} {hi : HI} {hl : HL} {H : Heap} {locs : List Loc} (h : wbG_shiftLeft_0 hi hl Φ) {ls : Array Slot} (hL : lv_has ls 4 [(0, .ref (ad 13))]) (hP : va_P D cls8 (wl 64 ad (GX cI cJ cC cZ cR ad kd) hi hl) H) (hS : va_S A s.heap H locs) : W p l e (rmX 1 60) s m args below meth c H locs 0 0 (MQ below (va_Qv (fun (u : HI × HL) => Φ u.1 u.2) (fun u t => va_P D cls8 (wl 64 ad (GX cI cJ cC cZ cR ad kd) u.1 u.2) t.heap) A) args s 0 0 A) (F0 m 0 ls []) := by
  unfold wbG_shiftLeft_0 at h
  refine lv_aload_n K.1 K.2.1 dG_shiftLeft_0 rfl (lv_at hL 0 rfl) ?_
  refine x_get (v := .ref (ad 14)) K hP hinG (ci := 4) rfl 13 (by decide) rfl 0 (by decide) flG_9 rfl rfl dG_shiftLeft_1 ?_
  refine lv_iconst (v := 0) K.1 K.2.1 dG_shiftLeft_4 (by decide) ?_
  refine lv_aload_n K.1 K.2.1 dG_shiftLeft_5 rfl (lv_at hL 0 rfl) ?_
  refine x_get (v := .ref (ad 17)) K hP hinG (ci := 4) rfl 13 (by decide) rfl 3 (by decide) flG_21 rfl rfl dG_shiftLeft_6 ?_
  refine lv_iconst (v := 0) K.1 K.2.1 dG_shiftLeft_9 (by decide) ?_
  refine lv_aload_n K.1 K.2.1 dG_shiftLeft_10 rfl (lv_at hL 0 rfl) ?_
  refine x_get (v := .int (hi 13 6)) K hP hinG (ci := 4) rfl 13 (by decide) rfl 6 (by decide) flG_40 rfl rfl dG_shiftLeft_11 ?_
  obtain ⟨g1, h⟩ := h
  refine x_copy (rest := []) K hP hS 0 3 (by decide) (by decide) (by decide) g1 mlG_170 ⟨Nat.le_of_ble_eq_true rfl, Nat.le_of_ble_eq_true rfl⟩ hL.1 (Nat.le_of_ble_eq_true rfl) dG_shiftLeft_14 (fun H locs hP hS => ?_)
  refine lv_iconst (v := 0) K.1 K.2.1 dG_shiftLeft_17 (by decide) ?_
  refine lv_istore_n (lv' := [(1, .int (0 : Int32)), (0, .ref (ad 13))]) K.1 K.2.1 dG_shiftLeft_18 rfl hL (by decide) rfl (fun ls hL => ?_)
  obtain ⟨fu, h⟩ := h
  exact bG_shiftLeft_19 K hr hZ h (lv_sub hL [1, 0] rfl) hP hS
set_option maxRecDepth 100000 in
set_option maxHeartbeats 4000000 in
theorem mG_shiftLeft {l : Launch} {D : va_G} {cI cJ cC cZ cR : ClassId} {ad kd sd vd : Nat → Nat} {kA lA wA : Nat} {A : Nat → Prop} (hZ : ZsOK A (ZX A kd sd vd kA lA wA)) (hD : wlD 64 ad A) {hi : HI} {hl : HL} {Φ : HI → HL → Prop} (h : wpG_shiftLeft hi hl Φ) : SpV l yG_shiftLeft cG_shiftLeft 4 none gT 1 60 [.ref (ad 13)] D cls8 (tys5 cI cJ cC cZ cR) 64 ad (GX cI cJ cC cZ cR ad kd) A (ZX A kd sd vd kA lA wA) hi hl Φ := by
  refine Met.ofW (cc := cG_shiftLeft) (maxL := 4) (ret := none) (by decide) rfl ?_
  intro p e s m args below meth c s₁ B hml hv
  obtain ⟨rfl, hP, hK, hZs⟩ := hv
  have K : Cx p (rmX 1 60) s m _ meth c cG_shiftLeft 4 "WordChecker$Gates" gT D cls8 (tys5 cI cJ cC cZ cR) 64 ad A (ZX A kd sd vd kA lA wA) := ⟨B.exec, B.bytes, hml, findClass_of_methodNamed B.named, fun w hw => atoms_spec B.pre w (List.mem_cons_of_mem _ hw), B.notSynchronized, hK, hD, hZs⟩
  have hL := lv_entry ([.ref (ad 13)]) (n := 4) (Nat.le_of_ble_eq_true rfl)
  rw [lg_entry_eq]
  generalize (lg_sl ([.ref (ad 13)]) ++ List.replicate (4 - (lg_sl ([.ref (ad 13)])).length) Slot.unset).toArray = ls at hL ⊢
  have hL : lv_has ls 4 [(0, .ref (ad 13))] := hL
  unfold wpG_shiftLeft at h
  exact bG_shiftLeft_0 K B.returns hZ h (lv_sub hL [0] rfl) hP va_S.rf
set_option maxRecDepth 100000 in
set_option maxHeartbeats 4000000 in
theorem bG_shiftRight_74 {p : Program} {l : Launch} {e : Env} {s : State} {m : MethodId} {args : Array Value} {below : List Frame} {meth : Method} {c : Code} {D : va_G} {cI cJ cC cZ cR : ClassId} {ad kd sd vd : Nat → Nat} {kA lA wA : Nat} {A : Nat → Prop} (K : Cx p (rmX 1 60) s m args meth c cG_shiftRight 4 "WordChecker$Gates" gT D cls8 (tys5 cI cJ cC cZ cR) 64 ad A (ZX A kd sd vd kA lA wA)) (hr : meth.sig.returnType = none) (hZ : ZsOK A (ZX A kd sd vd kA lA wA)) {Φ : HI → HL → Prop} {k19 : Int32 → HI → HL → Prop} (hk19 : ∀ (v1 : Int32) (hi : HI) (hl : HL) (ls : Array Slot) (H : Heap) (locs : List Loc), k19 v1 hi hl → lv_has ls 4 [(0, .ref (ad 13)), (1, .int v1)] → va_P D cls8 (wl 64 ad (GX cI cJ cC cZ cR ad kd) hi hl) H → va_S A s.heap H locs → W p l e (rmX 1 60) s m args below meth c H locs 0 0 (MQ below (va_Qv (fun (u : HI × HL) => Φ u.1 u.2) (fun u t => va_P D cls8 (wl 64 ad (GX cI cJ cC cZ cR ad kd) u.1 u.2) t.heap) A) args s 0 0 A) (F0 m 19 ls [])) {k33 : Int32 → Int32 → Int32 → HI → HL → Prop} (hk33 : ∀ (v1 : Int32) (v2 : Int32) (v3 : Int32) (hi : HI) (hl : HL) (ls : Array Slot) (H : Heap) (locs : List Loc), k33 v1 v2 v3 hi hl → lv_has ls 4 [(0, .ref (ad 13)), (1, .int v1), (2, .int v2), (3, .int v3)] → va_P D cls8 (wl 64 ad (GX cI cJ cC cZ cR ad kd) hi hl) H → va_S A s.heap H locs → W p l e (rmX 1 60) s m args below meth c H locs 0 0 (MQ below (va_Qv (fun (u : HI × HL) => Φ u.1 u.2) (fun u t => va_P D cls8 (wl 64 ad (GX cI cJ cC cZ cR ad kd) u.1 u.2) t.heap) A) args s 0 0 A) (F0 m 33 ls [])) {v1 : Int32} {v2 : Int32} {v3 : Int32} {q0 : Nat} {q1 : Int32} {q2 : Int64} {q3 : Int64} {hi : HI} {hl : HL} {H : Heap} {locs : List Loc} (h : wbG_shiftRight_74 k19 k33 v1 v2 v3 q0 q1 q2 q3 hi hl Φ) (hq0 : q0 < 6) {ls : Array Slot} (hL : lv_has ls 4 [(0, .ref (ad 13)), (1, .int v1), (2, .int v2), (3, .int v3)]) (hP : va_P D cls8 (wl 64 ad (GX cI cJ cC cZ cR ad kd) hi hl) H) (hS : va_S A s.heap H locs) : W p l e (rmX 1 60) s m args below meth c H locs 0 0 (MQ below (va_Qv (fun (u : HI × HL) => Φ u.1 u.2) (fun u t => va_P D cls8 (wl 64 ad (GX cI cJ cC cZ cR ad kd) u.1 u.2) t.heap) A) args s 0 0 A) (F0 m 74 ls [.long q3, .long q2, .int q1, .ref (ad (14 + q0))]) := by
  unfold wbG_shiftRight_74 at h
  refine lv_aload_n K.1 K.2.1 dG_shiftRight_74 rfl (lv_at hL 0 rfl) ?_
  refine x_get (v := .ref (ad 17)) K hP hinG (ci := 4) rfl 13 (by decide) rfl 3 (by decide) flG_21 rfl rfl dG_shiftRight_75 ?_
  refine lv_iload_n K.1 K.2.1 dG_shiftRight_78 rfl (lv_at hL 3 rfl) ?_
  obtain ⟨g1, h⟩ := h
  refine x_lald K hP 17 (by decide) 1 rfl rfl g1 dG_shiftRight_79 ?_
  refine x_cSJ (As := [.long q2, .long q3, .long (hl 17 (v3.toNatClampNeg))]) (rest := [.int q1, .ref (ad (14 + q0))]) K gT_good hZ hP hS calG_choose mlG_130 (mG_choose hZ K.2.2.2.2.2.2.2.1 h) ⟨Nat.le_of_ble_eq_true rfl, Nat.le_of_ble_eq_true rfl⟩ rfl hL.1 rfl (Nat.le_of_ble_eq_true rfl) dG_shiftRight_80 (fun r2 hi3 hl4 H locs h hP hS => ?_)
  obtain ⟨g5, h⟩ := h
  refine x_last K hP hS (14 + q0) (lt_g hq0) 1 (fun _ => (GX_garr _ hq0 _ _)) rfl g5 dG_shiftRight_83 (fun H locs hP hS => ?_)
  refine lv_iinc (k := 3) (lv' := [(3, .int (v3 + Int32.ofInt (1))), (0, .ref (ad 13)), (1, .int v1), (2, .int v2)]) K.1 K.2.1 dG_shiftRight_84 hL rfl rfl (by decide) rfl (fun ls hL => ?_)
  refine lv_goto (tgt := 33) K.1 K.2.1 dG_shiftRight_87 rfl ?_
  exact hk33 _ _ _ _ _ _ _ _ h (lv_sub hL [1, 2, 3, 0] rfl) hP hS
set_option maxRecDepth 100000 in
set_option maxHeartbeats 4000000 in
theorem bG_shiftRight_33 {p : Program} {l : Launch} {e : Env} {s : State} {m : MethodId} {args : Array Value} {below : List Frame} {meth : Method} {c : Code} {D : va_G} {cI cJ cC cZ cR : ClassId} {ad kd sd vd : Nat → Nat} {kA lA wA : Nat} {A : Nat → Prop} (K : Cx p (rmX 1 60) s m args meth c cG_shiftRight 4 "WordChecker$Gates" gT D cls8 (tys5 cI cJ cC cZ cR) 64 ad A (ZX A kd sd vd kA lA wA)) (hr : meth.sig.returnType = none) (hZ : ZsOK A (ZX A kd sd vd kA lA wA)) {Φ : HI → HL → Prop} {k19 : Int32 → HI → HL → Prop} (hk19 : ∀ (v1 : Int32) (hi : HI) (hl : HL) (ls : Array Slot) (H : Heap) (locs : List Loc), k19 v1 hi hl → lv_has ls 4 [(0, .ref (ad 13)), (1, .int v1)] → va_P D cls8 (wl 64 ad (GX cI cJ cC cZ cR ad kd) hi hl) H → va_S A s.heap H locs → W p l e (rmX 1 60) s m args below meth c H locs 0 0 (MQ below (va_Qv (fun (u : HI × HL) => Φ u.1 u.2) (fun u t => va_P D cls8 (wl 64 ad (GX cI cJ cC cZ cR ad kd) u.1 u.2) t.heap) A) args s 0 0 A) (F0 m 19 ls [])) {n : Nat} {v1 : Int32} {v2 : Int32} {v3 : Int32} {hi : HI} {hl : HL} {H : Heap} {locs : List Loc} (h : wbG_shiftRight_33 k19 n v1 v2 v3 hi hl Φ) {ls : Array Slot} (hL : lv_has ls 4 [(0, .ref (ad 13)), (1, .int v1), (2, .int v2), (3, .int v3)]) (hP : va_P D cls8 (wl 64 ad (GX cI cJ cC cZ cR ad kd) hi hl) H) (hS : va_S A s.heap H locs) : W p l e (rmX 1 60) s m args below meth c H locs 0 0 (MQ below (va_Qv (fun (u : HI × HL) => Φ u.1 u.2) (fun u t => va_P D cls8 (wl 64 ad (GX cI cJ cC cZ cR ad kd) u.1 u.2) t.heap) A) args s 0 0 A) (F0 m 33 ls []) := by
  induction n generalizing v1 v2 v3 hi hl ls H locs with
  | zero => exact False.elim h
  | succ n ih =>
    unfold wbG_shiftRight_33 at h
    refine lv_iload_n K.1 K.2.1 dG_shiftRight_33 rfl (lv_at hL 3 rfl) ?_
    refine lv_aload_n K.1 K.2.1 dG_shiftRight_34 rfl (lv_at hL 0 rfl) ?_
    refine x_get (v := .int (hi 13 6)) K hP hinG (ci := 4) rfl 13 (by decide) rfl 6 (by decide) flG_40 rfl rfl dG_shiftRight_35 ?_
    refine lv_icmp_ge (tgt := 90) K.1 K.2.1 dG_shiftRight_38 rfl (fun hc => ?_) (fun hc => ?_)
    · have h := h.1 hc
      refine lv_iinc (k := 1) (lv' := [(1, .int (v1 + Int32.ofInt (1))), (0, .ref (ad 13)), (2, .int v2), (3, .int v3)]) K.1 K.2.1 dG_shiftRight_90 hL rfl rfl (by decide) rfl (fun ls hL => ?_)
      refine lv_goto (tgt := 19) K.1 K.2.1 dG_shiftRight_93 rfl ?_
      exact hk19 _ _ _ _ _ _ h (lv_sub hL [1, 0] rfl) hP hS
    · have h := h.2 hc
      refine lv_aload_n K.1 K.2.1 dG_shiftRight_41 rfl (lv_at hL 0 rfl) ?_
      refine x_get (v := .ref (ad 17)) K hP hinG (ci := 4) rfl 13 (by decide) rfl 3 (by decide) flG_21 rfl rfl dG_shiftRight_42 ?_
      refine lv_iload_n K.1 K.2.1 dG_shiftRight_45 rfl (lv_at hL 3 rfl) ?_
      refine lv_aload_n K.1 K.2.1 dG_shiftRight_46 rfl (lv_at hL 0 rfl) ?_
      refine x_get (v := .ref (ad 15)) K hP hinG (ci := 4) rfl 13 (by decide) rfl 1 (by decide) flG_15 rfl rfl dG_shiftRight_47 ?_
      refine lv_iload_n K.1 K.2.1 dG_shiftRight_50 rfl (lv_at hL 1 rfl) ?_
      obtain ⟨g1, h⟩ := h
      refine x_lald K hP 15 (by decide) 1 rfl rfl g1 dG_shiftRight_51 ?_
      refine lv_iload_n K.1 K.2.1 dG_shiftRight_52 rfl (lv_at hL 3 rfl) ?_
      refine lv_iload_n K.1 K.2.1 dG_shiftRight_53 rfl (lv_at hL 2 rfl) ?_
      refine lv_iadd K.1 K.2.1 dG_shiftRight_54 ?_
      refine lv_aload_n K.1 K.2.1 dG_shiftRight_55 rfl (lv_at hL 0 rfl) ?_
      refine x_get (v := .int (hi 13 6)) K hP hinG (ci := 4) rfl 13 (by decide) rfl 6 (by decide) flG_40 rfl rfl dG_shiftRight_56 ?_
      refine lv_icmp_ge (tgt := 73) K.1 K.2.1 dG_shiftRight_59 rfl (fun hc => ?_) (fun hc => ?_)
      · have h := h.1 hc
        refine lv_lconst (v := 0) K.1 K.2.1 dG_shiftRight_73 (by decide) ?_
        exact bG_shiftRight_74 K hr hZ hk19 (fun v1 v2 v3 hi hl ls H locs h hL hP hS => ih h hL hP hS) h (by decide) (lv_sub hL [0, 1, 2, 3] rfl) hP hS
      · have h := h.2 hc
        refine lv_aload_n K.1 K.2.1 dG_shiftRight_62 rfl (lv_at hL 0 rfl) ?_
        refine x_get (v := .ref (ad 17)) K hP hinG (ci := 4) rfl 13 (by decide) rfl 3 (by decide) flG_21 rfl rfl dG_shiftRight_63 ?_
        refine lv_iload_n K.1 K.2.1 dG_shiftRight_66 rfl (lv_at hL 3 rfl) ?_
        refine lv_iload_n K.1 K.2.1 dG_shiftRight_67 rfl (lv_at hL 2 rfl) ?_
        refine lv_iadd K.1 K.2.1 dG_shiftRight_68 ?_
        obtain ⟨g2, h⟩ := h
        refine x_lald K hP 17 (by decide) 1 rfl rfl g2 dG_shiftRight_69 ?_
        refine lv_goto (tgt := 74) K.1 K.2.1 dG_shiftRight_70 rfl ?_
        exact bG_shiftRight_74 K hr hZ hk19 (fun v1 v2 v3 hi hl ls H locs h hL hP hS => ih h hL hP hS) h (by decide) (lv_sub hL [0, 1, 2, 3] rfl) hP hS
set_option maxRecDepth 100000 in
set_option maxHeartbeats 4000000 in
theorem bG_shiftRight_19 {p : Program} {l : Launch} {e : Env} {s : State} {m : MethodId} {args : Array Value} {below : List Frame} {meth : Method} {c : Code} {D : va_G} {cI cJ cC cZ cR : ClassId} {ad kd sd vd : Nat → Nat} {kA lA wA : Nat} {A : Nat → Prop} (K : Cx p (rmX 1 60) s m args meth c cG_shiftRight 4 "WordChecker$Gates" gT D cls8 (tys5 cI cJ cC cZ cR) 64 ad A (ZX A kd sd vd kA lA wA)) (hr : meth.sig.returnType = none) (hZ : ZsOK A (ZX A kd sd vd kA lA wA)) {Φ : HI → HL → Prop} {n : Nat} {v1 : Int32} {hi : HI} {hl : HL} {H : Heap} {locs : List Loc} (h : wbG_shiftRight_19 n v1 hi hl Φ) {ls : Array Slot} (hL : lv_has ls 4 [(0, .ref (ad 13)), (1, .int v1)]) (hP : va_P D cls8 (wl 64 ad (GX cI cJ cC cZ cR ad kd) hi hl) H) (hS : va_S A s.heap H locs) : W p l e (rmX 1 60) s m args below meth c H locs 0 0 (MQ below (va_Qv (fun (u : HI × HL) => Φ u.1 u.2) (fun u t => va_P D cls8 (wl 64 ad (GX cI cJ cC cZ cR ad kd) u.1 u.2) t.heap) A) args s 0 0 A) (F0 m 19 ls []) := by
  induction n generalizing v1 hi hl ls H locs with
  | zero => exact False.elim h
  | succ n ih =>
    unfold wbG_shiftRight_19 at h
    refine lv_iload_n K.1 K.2.1 dG_shiftRight_19 rfl (lv_at hL 1 rfl) ?_
    refine lv_aload_n K.1 K.2.1 dG_shiftRight_20 rfl (lv_at hL 0 rfl) ?_
    refine x_get (v := .int (hi 13 6)) K hP hinG (ci := 4) rfl 13 (by decide) rfl 6 (by decide) flG_40 rfl rfl dG_shiftRight_21 ?_
    refine lv_icmp_ge (tgt := 96) K.1 K.2.1 dG_shiftRight_24 rfl (fun hc => ?_) (fun hc => ?_)
    · have h := h.1 hc
      exact x_vret K hr hP hS h dG_shiftRight_96
    · have h := h.2 hc
      refine lv_iconst (v := 1) K.1 K.2.1 dG_shiftRight_27 (by decide) ?_
      refine lv_iload_n K.1 K.2.1 dG_shiftRight_28 rfl (lv_at hL 1 rfl) ?_
      refine lv_ishl K.1 K.2.1 dG_shiftRight_29 ?_
      refine lv_istore_n (lv' := [(2, .int ((1 : Int32) <<< (v1 &&& 31))), (0, .ref (ad 13)), (1, .int v1)]) K.1 K.2.1 dG_shiftRight_30 rfl hL (by decide) rfl (fun ls hL => ?_)
      refine lv_iconst (v := 0) K.1 K.2.1 dG_shiftRight_31 (by decide) ?_
      refine lv_istore_n (lv' := [(3, .int (0 : Int32)), (2, .int ((1 : Int32) <<< (v1 &&& 31))), (0, .ref (ad 13)), (1, .int v1)]) K.1 K.2.1 dG_shiftRight_32 rfl hL (by decide) rfl (fun ls hL => ?_)
      obtain ⟨fu, h⟩ := h
      exact bG_shiftRight_33 K hr hZ (fun v1 hi hl ls H locs h hL hP hS => ih h hL hP hS) h (lv_sub hL [2, 3, 1, 0] rfl) hP hS
set_option maxRecDepth 100000 in
set_option maxHeartbeats 4000000 in
theorem bG_shiftRight_0 {p : Program} {l : Launch} {e : Env} {s : State} {m : MethodId} {args : Array Value} {below : List Frame} {meth : Method} {c : Code} {D : va_G} {cI cJ cC cZ cR : ClassId} {ad kd sd vd : Nat → Nat} {kA lA wA : Nat} {A : Nat → Prop} (K : Cx p (rmX 1 60) s m args meth c cG_shiftRight 4 "WordChecker$Gates" gT D cls8 (tys5 cI cJ cC cZ cR) 64 ad A (ZX A kd sd vd kA lA wA)) (hr : meth.sig.returnType = none) (hZ : ZsOK A (ZX A kd sd vd kA lA wA)) {Φ : HI → HL → Prop} {hi : HI} {hl : HL} {H : Heap} {locs : List Loc} (h : wbG_shiftRight_0 hi hl Φ) {ls : Array Slot} (hL : lv_has ls 4 [(0, .ref (ad 13))]) (hP : va_P D cls8 (wl 64 ad (GX cI cJ cC cZ cR ad kd) hi hl) H) (hS : va_S A s.heap H locs) : W p l e (rmX 1 60) s m args below meth c H locs 0 0 (MQ below (va_Qv (fun (u : HI × HL) => Φ u.1 u.2) (fun u t => va_P D cls8 (wl 64 ad (GX cI cJ cC cZ cR ad kd) u.1 u.2) t.heap) A) args s 0 0 A) (F0 m 0 ls []) := by
  unfold wbG_shiftRight_0 at h
  refine lv_aload_n K.1 K.2.1 dG_shiftRight_0 rfl (lv_at hL 0 rfl) ?_
  refine x_get (v := .ref (ad 14)) K hP hinG (ci := 4) rfl 13 (by decide) rfl 0 (by decide) flG_9 rfl rfl dG_shiftRight_1 ?_
  refine lv_iconst (v := 0) K.1 K.2.1 dG_shiftRight_4 (by decide) ?_
  refine lv_aload_n K.1 K.2.1 dG_shiftRight_5 rfl (lv_at hL 0 rfl) ?_
  refine x_get (v := .ref (ad 17)) K hP hinG (ci := 4) rfl 13 (by decide) rfl 3 (by decide) flG_21 rfl rfl dG_shiftRight_6 ?_
  refine lv_iconst (v := 0) K.1 K.2.1 dG_shiftRight_9 (by decide) ?_
  refine lv_aload_n K.1 K.2.1 dG_shiftRight_10 rfl (lv_at hL 0 rfl) ?_
  refine x_get (v := .int (hi 13 6)) K hP hinG (ci := 4) rfl 13 (by decide) rfl 6 (by decide) flG_40 rfl rfl dG_shiftRight_11 ?_
  obtain ⟨g1, h⟩ := h
  refine x_copy (rest := []) K hP hS 0 3 (by decide) (by decide) (by decide) g1 mlG_170 ⟨Nat.le_of_ble_eq_true rfl, Nat.le_of_ble_eq_true rfl⟩ hL.1 (Nat.le_of_ble_eq_true rfl) dG_shiftRight_14 (fun H locs hP hS => ?_)
  refine lv_iconst (v := 0) K.1 K.2.1 dG_shiftRight_17 (by decide) ?_
  refine lv_istore_n (lv' := [(1, .int (0 : Int32)), (0, .ref (ad 13))]) K.1 K.2.1 dG_shiftRight_18 rfl hL (by decide) rfl (fun ls hL => ?_)
  obtain ⟨fu, h⟩ := h
  exact bG_shiftRight_19 K hr hZ h (lv_sub hL [1, 0] rfl) hP hS
set_option maxRecDepth 100000 in
set_option maxHeartbeats 4000000 in
theorem mG_shiftRight {l : Launch} {D : va_G} {cI cJ cC cZ cR : ClassId} {ad kd sd vd : Nat → Nat} {kA lA wA : Nat} {A : Nat → Prop} (hZ : ZsOK A (ZX A kd sd vd kA lA wA)) (hD : wlD 64 ad A) {hi : HI} {hl : HL} {Φ : HI → HL → Prop} (h : wpG_shiftRight hi hl Φ) : SpV l yG_shiftRight cG_shiftRight 4 none gT 1 60 [.ref (ad 13)] D cls8 (tys5 cI cJ cC cZ cR) 64 ad (GX cI cJ cC cZ cR ad kd) A (ZX A kd sd vd kA lA wA) hi hl Φ := by
  refine Met.ofW (cc := cG_shiftRight) (maxL := 4) (ret := none) (by decide) rfl ?_
  intro p e s m args below meth c s₁ B hml hv
  obtain ⟨rfl, hP, hK, hZs⟩ := hv
  have K : Cx p (rmX 1 60) s m _ meth c cG_shiftRight 4 "WordChecker$Gates" gT D cls8 (tys5 cI cJ cC cZ cR) 64 ad A (ZX A kd sd vd kA lA wA) := ⟨B.exec, B.bytes, hml, findClass_of_methodNamed B.named, fun w hw => atoms_spec B.pre w (List.mem_cons_of_mem _ hw), B.notSynchronized, hK, hD, hZs⟩
  have hL := lv_entry ([.ref (ad 13)]) (n := 4) (Nat.le_of_ble_eq_true rfl)
  rw [lg_entry_eq]
  generalize (lg_sl ([.ref (ad 13)]) ++ List.replicate (4 - (lg_sl ([.ref (ad 13)])).length) Slot.unset).toArray = ls at hL ⊢
  have hL : lv_has ls 4 [(0, .ref (ad 13))] := hL
  unfold wpG_shiftRight at h
  exact bG_shiftRight_0 K B.returns hZ h (lv_sub hL [0] rfl) hP va_S.rf
set_option maxRecDepth 100000 in
set_option maxHeartbeats 4000000 in
theorem bG_reckon_124 {p : Program} {l : Launch} {e : Env} {s : State} {m : MethodId} {args : Array Value} {below : List Frame} {meth : Method} {c : Code} {D : va_G} {cI cJ cC cZ cR : ClassId} {ad kd sd vd : Nat → Nat} {kA lA wA : Nat} {A : Nat → Prop} (K : Cx p (rmX 2 83) s m args meth c cG_reckon 2 "WordChecker$Gates" gT D cls8 (tys5 cI cJ cC cZ cR) 64 ad A (ZX A kd sd vd kA lA wA)) (hr : meth.sig.returnType = none) (hZ : ZsOK A (ZX A kd sd vd kA lA wA)) {Φ : HI → HL → Prop} {q1 : Int32} {hi : HI} {hl : HL} {H : Heap} {locs : List Loc} (h : wbG_reckon_124 q1 hi hl Φ) {ls : Array Slot} (hL : lv_has ls 2 []) (hP : va_P D cls8 (wl 64 ad (GX cI cJ cC cZ cR ad kd) hi hl) H) (hS : va_S A s.heap H locs) : W p l e (rmX 2 83) s m args below meth c H locs 0 0 (MQ below (va_Qv (fun (u : HI × HL) => Φ u.1 u.2) (fun u t => va_P D cls8 (wl 64 ad (GX cI cJ cC cZ cR ad kd) u.1 u.2) t.heap) A) args s 0 0 A) (F0 m 124 ls [.int q1, .ref (ad 13)]) := by
  unfold wbG_reckon_124 at h
  refine x_cVV (As := [.int q1]) (rest := []) K gT_good hZ hP hS calG_divide mlG_154 13 (by decide) rfl rfl (mG_divide hZ K.2.2.2.2.2.2.2.1 h) ⟨Nat.le_of_ble_eq_true rfl, Nat.le_of_ble_eq_true rfl⟩ rfl hL.1 rfl (Nat.le_of_ble_eq_true rfl) dG_reckon_124 (fun hi2 hl3 H locs h hP hS => ?_)
  refine lv_goto (tgt := 141) K.1 K.2.1 dG_reckon_127 rfl ?_
  exact x_vret K hr hP hS h dG_reckon_141
set_option maxRecDepth 100000 in
set_option maxHeartbeats 4000000 in
theorem bG_reckon_0 {p : Program} {l : Launch} {e : Env} {s : State} {m : MethodId} {args : Array Value} {below : List Frame} {meth : Method} {c : Code} {D : va_G} {cI cJ cC cZ cR : ClassId} {ad kd sd vd : Nat → Nat} {kA lA wA : Nat} {A : Nat → Prop} (K : Cx p (rmX 2 83) s m args meth c cG_reckon 2 "WordChecker$Gates" gT D cls8 (tys5 cI cJ cC cZ cR) 64 ad A (ZX A kd sd vd kA lA wA)) (hr : meth.sig.returnType = none) (hZ : ZsOK A (ZX A kd sd vd kA lA wA)) {Φ : HI → HL → Prop} {v1 : Int32} {hi : HI} {hl : HL} {H : Heap} {locs : List Loc} (h : wbG_reckon_0 v1 hi hl Φ) {ls : Array Slot} (hL : lv_has ls 2 [(0, .ref (ad 13)), (1, .ref (kd (v1.toNatClampNeg)))]) (hP : va_P D cls8 (wl 64 ad (GX cI cJ cC cZ cR ad kd) hi hl) H) (hS : va_S A s.heap H locs) : W p l e (rmX 2 83) s m args below meth c H locs 0 0 (MQ below (va_Qv (fun (u : HI × HL) => Φ u.1 u.2) (fun u t => va_P D cls8 (wl 64 ad (GX cI cJ cC cZ cR ad kd) u.1 u.2) t.heap) A) args s 0 0 A) (F0 m 0 ls []) := by
  unfold wbG_reckon_0 at h
  refine x_gets (v := .ref wA) K hS K.2.2.2.2.2.2.2.2.2.1.2.2.2.2.1 flG_83 dG_reckon_0 ?_
  refine lv_aload_n K.1 K.2.1 dG_reckon_3 rfl (lv_at hL 1 rfl) ?_
  obtain ⟨g1, h⟩ := h
  refine x_ord (x := v1) (rest := [.ref wA]) K hP hS g1 mlG_92 ⟨Nat.le_of_ble_eq_true rfl, Nat.le_of_ble_eq_true rfl⟩ hL.1 (Nat.le_of_ble_eq_true rfl) dG_reckon_4 (fun H locs hP hS => ?_)
  obtain ⟨g2, h⟩ := h
  refine va_ti (v := .int (swC (v1.toNatClampNeg))) K.1 K.2.1 K.2.2.2.2.2.2.2.2.2.1.2.2.2.2.2.1 hS g2 rfl dG_reckon_7 ?_
  by_cases hc0 : (swC (v1.toNatClampNeg)) = 24
  · have h := h.1 hc0
    refine lv_tableIn (off := 44) (tgt := 52) K.1 K.2.1 dG_reckon_8 (by rw [hc0]; decide) (by rw [hc0]; decide) (by rw [hc0]; rfl) rfl ?_
    refine lv_aload_n K.1 K.2.1 dG_reckon_52 rfl (lv_at hL 0 rfl) ?_
    refine lv_aload_n K.1 K.2.1 dG_reckon_53 rfl (lv_at hL 0 rfl) ?_
    refine x_get (v := .ref (ad 15)) K hP hinG (ci := 4) rfl 13 (by decide) rfl 1 (by decide) flG_15 rfl rfl dG_reckon_54 ?_
    refine lv_aload_n K.1 K.2.1 dG_reckon_57 rfl (lv_at hL 0 rfl) ?_
    refine x_get (v := .ref (ad 14)) K hP hinG (ci := 4) rfl 13 (by decide) rfl 0 (by decide) flG_9 rfl rfl dG_reckon_58 ?_
    refine lv_ldc2 (v := -1) K.1 K.2.1 K.2.2.2.1 (K.2.2.2.2.1 _ clG_81) dG_reckon_61 ?_
    refine x_cVV (As := [.ref (ad 15), .ref (ad 14), .long (-1 : Int64)]) (rest := []) K gT_good hZ hP hS calG_addUp mlG_144 13 (by decide) rfl rfl (mG_addUp hZ K.2.2.2.2.2.2.2.1 (by decide) (by decide) h) ⟨Nat.le_of_ble_eq_true rfl, Nat.le_of_ble_eq_true rfl⟩ rfl hL.1 rfl (Nat.le_of_ble_eq_true rfl) dG_reckon_64 (fun hi4 hl5 H locs h hP hS => ?_)
    refine lv_goto (tgt := 141) K.1 K.2.1 dG_reckon_67 rfl ?_
    exact x_vret K hr hP hS h dG_reckon_141
  by_cases hc1 : (swC (v1.toNatClampNeg)) = 25
  · have h := h.2.1 hc1
    refine lv_tableIn (off := 62) (tgt := 70) K.1 K.2.1 dG_reckon_8 (by rw [hc1]; decide) (by rw [hc1]; decide) (by rw [hc1]; rfl) rfl ?_
    refine lv_aload_n K.1 K.2.1 dG_reckon_70 rfl (lv_at hL 0 rfl) ?_
    refine lv_aload_n K.1 K.2.1 dG_reckon_71 rfl (lv_at hL 0 rfl) ?_
    refine x_get (v := .ref (ad 14)) K hP hinG (ci := 4) rfl 13 (by decide) rfl 0 (by decide) flG_9 rfl rfl dG_reckon_72 ?_
    refine lv_aload_n K.1 K.2.1 dG_reckon_75 rfl (lv_at hL 0 rfl) ?_
    refine x_get (v := .ref (ad 15)) K hP hinG (ci := 4) rfl 13 (by decide) rfl 1 (by decide) flG_15 rfl rfl dG_reckon_76 ?_
    refine lv_lconst (v := 0) K.1 K.2.1 dG_reckon_79 (by decide) ?_
    refine x_cVV (As := [.ref (ad 14), .ref (ad 15), .long (0 : Int64)]) (rest := []) K gT_good hZ hP hS calG_addUp mlG_144 13 (by decide) rfl rfl (mG_addUp hZ K.2.2.2.2.2.2.2.1 (by decide) (by decide) h) ⟨Nat.le_of_ble_eq_true rfl, Nat.le_of_ble_eq_true rfl⟩ rfl hL.1 rfl (Nat.le_of_ble_eq_true rfl) dG_reckon_80 (fun hi7 hl8 H locs h hP hS => ?_)
    refine lv_goto (tgt := 141) K.1 K.2.1 dG_reckon_83 rfl ?_
    exact x_vret K hr hP hS h dG_reckon_141
  by_cases hc2 : (swC (v1.toNatClampNeg)) = 26
  · have h := h.2.2.1 hc2
    refine lv_tableIn (off := 78) (tgt := 86) K.1 K.2.1 dG_reckon_8 (by rw [hc2]; decide) (by rw [hc2]; decide) (by rw [hc2]; rfl) rfl ?_
    refine lv_aload_n K.1 K.2.1 dG_reckon_86 rfl (lv_at hL 0 rfl) ?_
    refine lv_aload_n K.1 K.2.1 dG_reckon_87 rfl (lv_at hL 0 rfl) ?_
    refine x_get (v := .ref (ad 14)) K hP hinG (ci := 4) rfl 13 (by decide) rfl 0 (by decide) flG_9 rfl rfl dG_reckon_88 ?_
    refine lv_aload_n K.1 K.2.1 dG_reckon_91 rfl (lv_at hL 0 rfl) ?_
    refine x_get (v := .ref (ad 15)) K hP hinG (ci := 4) rfl 13 (by decide) rfl 1 (by decide) flG_15 rfl rfl dG_reckon_92 ?_
    refine lv_ldc2 (v := -1) K.1 K.2.1 K.2.2.2.1 (K.2.2.2.2.1 _ clG_81) dG_reckon_95 ?_
    refine x_cVV (As := [.ref (ad 14), .ref (ad 15), .long (-1 : Int64)]) (rest := []) K gT_good hZ hP hS calG_addUp mlG_144 13 (by decide) rfl rfl (mG_addUp hZ K.2.2.2.2.2.2.2.1 (by decide) (by decide) h) ⟨Nat.le_of_ble_eq_true rfl, Nat.le_of_ble_eq_true rfl⟩ rfl hL.1 rfl (Nat.le_of_ble_eq_true rfl) dG_reckon_98 (fun hi10 hl11 H locs h hP hS => ?_)
    refine lv_goto (tgt := 141) K.1 K.2.1 dG_reckon_101 rfl ?_
    exact x_vret K hr hP hS h dG_reckon_141
  by_cases hc3 : (swC (v1.toNatClampNeg)) = 27
  · have h := h.2.2.2.1 hc3
    refine lv_tableIn (off := 96) (tgt := 104) K.1 K.2.1 dG_reckon_8 (by rw [hc3]; decide) (by rw [hc3]; decide) (by rw [hc3]; rfl) rfl ?_
    refine lv_aload_n K.1 K.2.1 dG_reckon_104 rfl (lv_at hL 0 rfl) ?_
    refine x_cVV (As := []) (rest := []) K gT_good hZ hP hS calG_multiply mlG_148 13 (by decide) rfl rfl (mG_multiply hZ K.2.2.2.2.2.2.2.1 h) ⟨Nat.le_of_ble_eq_true rfl, Nat.le_of_ble_eq_true rfl⟩ rfl hL.1 rfl (Nat.le_of_ble_eq_true rfl) dG_reckon_105 (fun hi13 hl14 H locs h hP hS => ?_)
    refine lv_goto (tgt := 141) K.1 K.2.1 dG_reckon_108 rfl ?_
    exact x_vret K hr hP hS h dG_reckon_141
  by_cases hc4 : (swC (v1.toNatClampNeg)) = 28
  · have h := h.2.2.2.2.1 hc4
    refine lv_tableIn (off := 103) (tgt := 111) K.1 K.2.1 dG_reckon_8 (by rw [hc4]; decide) (by rw [hc4]; decide) (by rw [hc4]; rfl) rfl ?_
    refine lv_aload_n K.1 K.2.1 dG_reckon_111 rfl (lv_at hL 0 rfl) ?_
    refine lv_aload_n K.1 K.2.1 dG_reckon_112 rfl (lv_at hL 1 rfl) ?_
    refine x_gets (v := .ref (kd ((14 : Int32).toNatClampNeg))) K hS (K.2.2.2.2.2.2.2.2.2.2.1 14 (by decide)).1 flG_151 dG_reckon_113 ?_
    obtain ⟨g15, h⟩ := h
    obtain ⟨g16, h⟩ := h
    refine x_acne (x := v1) (y := (14 : Int32)) (tgt := 123) K g15 g16 dG_reckon_116 rfl (fun hc => ?_) (fun hc => ?_)
    · have h := h.2 hc
      refine lv_iconst (v := 0) K.1 K.2.1 dG_reckon_123 (by decide) ?_
      exact bG_reckon_124 K hr hZ h (lv_sub hL [] rfl) hP hS
    · have h := h.1 hc
      refine lv_iconst (v := 1) K.1 K.2.1 dG_reckon_119 (by decide) ?_
      refine lv_goto (tgt := 124) K.1 K.2.1 dG_reckon_120 rfl ?_
      exact bG_reckon_124 K hr hZ h (lv_sub hL [] rfl) hP hS
  by_cases hc5 : (swC (v1.toNatClampNeg)) = 29
  · have h := h.2.2.2.2.2.1 hc5
    refine lv_tableIn (off := 103) (tgt := 111) K.1 K.2.1 dG_reckon_8 (by rw [hc5]; decide) (by rw [hc5]; decide) (by rw [hc5]; rfl) rfl ?_
    refine lv_aload_n K.1 K.2.1 dG_reckon_111 rfl (lv_at hL 0 rfl) ?_
    refine lv_aload_n K.1 K.2.1 dG_reckon_112 rfl (lv_at hL 1 rfl) ?_
    refine x_gets (v := .ref (kd ((14 : Int32).toNatClampNeg))) K hS (K.2.2.2.2.2.2.2.2.2.2.1 14 (by decide)).1 flG_151 dG_reckon_113 ?_
    obtain ⟨g17, h⟩ := h
    obtain ⟨g18, h⟩ := h
    refine x_acne (x := v1) (y := (14 : Int32)) (tgt := 123) K g17 g18 dG_reckon_116 rfl (fun hc => ?_) (fun hc => ?_)
    · have h := h.2 hc
      refine lv_iconst (v := 0) K.1 K.2.1 dG_reckon_123 (by decide) ?_
      exact bG_reckon_124 K hr hZ h (lv_sub hL [] rfl) hP hS
    · have h := h.1 hc
      refine lv_iconst (v := 1) K.1 K.2.1 dG_reckon_119 (by decide) ?_
      refine lv_goto (tgt := 124) K.1 K.2.1 dG_reckon_120 rfl ?_
      exact bG_reckon_124 K hr hZ h (lv_sub hL [] rfl) hP hS
  by_cases hc6 : (swC (v1.toNatClampNeg)) = 30
  · have h := h.2.2.2.2.2.2.1 hc6
    refine lv_tableIn (off := 122) (tgt := 130) K.1 K.2.1 dG_reckon_8 (by rw [hc6]; decide) (by rw [hc6]; decide) (by rw [hc6]; rfl) rfl ?_
    refine lv_aload_n K.1 K.2.1 dG_reckon_130 rfl (lv_at hL 0 rfl) ?_
    refine x_cVV (As := []) (rest := []) K gT_good hZ hP hS calG_shiftLeft mlG_158 13 (by decide) rfl rfl (mG_shiftLeft hZ K.2.2.2.2.2.2.2.1 h) ⟨Nat.le_of_ble_eq_true rfl, Nat.le_of_ble_eq_true rfl⟩ rfl hL.1 rfl (Nat.le_of_ble_eq_true rfl) dG_reckon_131 (fun hi20 hl21 H locs h hP hS => ?_)
    refine lv_goto (tgt := 141) K.1 K.2.1 dG_reckon_134 rfl ?_
    exact x_vret K hr hP hS h dG_reckon_141
  have h := h.2.2.2.2.2.2.2 hc0 hc1 hc2 hc3 hc4 hc5 hc6
  refine lv_tableOut (tgt := 137) K.1 K.2.1 dG_reckon_8 (by have e0 := i_ne hc0 (n := 24) (by decide); have e1 := i_ne hc1 (n := 25) (by decide); have e2 := i_ne hc2 (n := 26) (by decide); have e3 := i_ne hc3 (n := 27) (by decide); have e4 := i_ne hc4 (n := 28) (by decide); have e5 := i_ne hc5 (n := 29) (by decide); have e6 := i_ne hc6 (n := 30) (by decide); omega) rfl ?_
  refine lv_aload_n K.1 K.2.1 dG_reckon_137 rfl (lv_at hL 0 rfl) ?_
  refine x_cVV (As := []) (rest := []) K gT_good hZ hP hS calG_shiftRight mlG_161 13 (by decide) rfl rfl (mG_shiftRight hZ K.2.2.2.2.2.2.2.1 h) ⟨Nat.le_of_ble_eq_true rfl, Nat.le_of_ble_eq_true rfl⟩ rfl hL.1 rfl (Nat.le_of_ble_eq_true rfl) dG_reckon_138 (fun hi23 hl24 H locs h hP hS => ?_)
  exact x_vret K hr hP hS h dG_reckon_141
set_option maxRecDepth 100000 in
set_option maxHeartbeats 4000000 in
theorem mG_reckon {l : Launch} {D : va_G} {cI cJ cC cZ cR : ClassId} {ad kd sd vd : Nat → Nat} {kA lA wA : Nat} {A : Nat → Prop} (hZ : ZsOK A (ZX A kd sd vd kA lA wA)) (hD : wlD 64 ad A) {v1 : Int32} {hi : HI} {hl : HL} {Φ : HI → HL → Prop} (h : wpG_reckon v1 hi hl Φ) : SpV l yG_reckon cG_reckon 2 none gT 2 83 [.ref (ad 13), .ref (kd (v1.toNatClampNeg))] D cls8 (tys5 cI cJ cC cZ cR) 64 ad (GX cI cJ cC cZ cR ad kd) A (ZX A kd sd vd kA lA wA) hi hl Φ := by
  refine Met.ofW (cc := cG_reckon) (maxL := 2) (ret := none) (by decide) rfl ?_
  intro p e s m args below meth c s₁ B hml hv
  obtain ⟨rfl, hP, hK, hZs⟩ := hv
  have K : Cx p (rmX 2 83) s m _ meth c cG_reckon 2 "WordChecker$Gates" gT D cls8 (tys5 cI cJ cC cZ cR) 64 ad A (ZX A kd sd vd kA lA wA) := ⟨B.exec, B.bytes, hml, findClass_of_methodNamed B.named, fun w hw => atoms_spec B.pre w (List.mem_cons_of_mem _ hw), B.notSynchronized, hK, hD, hZs⟩
  have hL := lv_entry ([.ref (ad 13), .ref (kd (v1.toNatClampNeg))]) (n := 2) (Nat.le_of_ble_eq_true rfl)
  rw [lg_entry_eq]
  generalize (lg_sl ([.ref (ad 13), .ref (kd (v1.toNatClampNeg))]) ++ List.replicate (2 - (lg_sl ([.ref (ad 13), .ref (kd (v1.toNatClampNeg))])).length) Slot.unset).toArray = ls at hL ⊢
  have hL : lv_has ls 2 [(0, .ref (ad 13)), (1, .ref (kd (v1.toNatClampNeg)))] := hL
  unfold wpG_reckon at h
  exact bG_reckon_0 K B.returns hZ h (lv_sub hL [0, 1] rfl) hP va_S.rf
set_option maxRecDepth 100000 in
set_option maxHeartbeats 4000000 in
theorem bG_join_0 {p : Program} {l : Launch} {e : Env} {s : State} {m : MethodId} {args : Array Value} {below : List Frame} {meth : Method} {c : Code} {D : va_G} {cI cJ cC cZ cR : ClassId} {ad kd sd vd : Nat → Nat} {kA lA wA : Nat} {A : Nat → Prop} (K : Cx p (rmX 3 104) s m args meth c cG_join 2 "WordChecker$Gates" gT D cls8 (tys5 cI cJ cC cZ cR) 64 ad A (ZX A kd sd vd kA lA wA)) (hr : meth.sig.returnType = none) (hZ : ZsOK A (ZX A kd sd vd kA lA wA)) {Φ : HI → HL → Prop} {hi : HI} {hl : HL} {H : Heap} {locs : List Loc} (h : wbG_join_0 hi hl Φ) {ls : Array Slot} (hL : lv_has ls 2 [(0, .ref (ad 13)), (1, .ref (ad 10))]) (hP : va_P D cls8 (wl 64 ad (GX cI cJ cC cZ cR ad kd) hi hl) H) (hS : va_S A s.heap H locs) : W p l e (rmX 3 104) s m args below meth c H locs 0 0 (MQ below (va_Qv (fun (u : HI × HL) => Φ u.1 u.2) (fun u t => va_P D cls8 (wl 64 ad (GX cI cJ cC cZ cR ad kd) u.1 u.2) t.heap) A) args s 0 0 A) (F0 m 0 ls []) := by
  unfold wbG_join_0 at h
  refine x_gets (v := .ref wA) K hS K.2.2.2.2.2.2.2.2.2.1.2.2.2.2.1 flG_83 dG_join_0 ?_
  refine lv_aload_n K.1 K.2.1 dG_join_3 rfl (lv_at hL 1 rfl) ?_
  refine x_getN (v := va_rf (kOf kd (hi 10 3))) K hP hinD (ci := 3) rfl 10 (by decide) rfl 3 (by decide) (fnG_88 K.2.2.2.2.2.2.2.2) rfl rfl dG_join_4 ?_
  obtain ⟨g1, h⟩ := h
  rw [kOf_in g1]
  refine x_ord (x := (hi 10 3)) (rest := [.ref wA]) K hP hS g1 mlG_92 ⟨Nat.le_of_ble_eq_true rfl, Nat.le_of_ble_eq_true rfl⟩ hL.1 (Nat.le_of_ble_eq_true rfl) dG_join_7 (fun H locs hP hS => ?_)
  obtain ⟨g2, h⟩ := h
  refine va_ti (v := .int (swC ((hi 10 3).toNatClampNeg))) K.1 K.2.1 K.2.2.2.2.2.2.2.2.2.1.2.2.2.2.2.1 hS g2 rfl dG_join_10 ?_
  by_cases hc0 : (swC ((hi 10 3).toNatClampNeg)) = 8
  · have h := h.1 hc0
    refine lv_tableIn (off := 77) (tgt := 88) K.1 K.2.1 dG_join_11 (by rw [hc0]; decide) (by rw [hc0]; decide) (by rw [hc0]; rfl) rfl ?_
    refine lv_aload_n K.1 K.2.1 dG_join_88 rfl (lv_at hL 0 rfl) ?_
    refine lv_aload_n K.1 K.2.1 dG_join_89 rfl (lv_at hL 1 rfl) ?_
    refine x_getN (v := .int (hi 10 9)) K hP hinD (ci := 3) rfl 10 (by decide) rfl 9 (by decide) (fnG_98 K.2.2.2.2.2.2.2.2) rfl rfl dG_join_90 ?_
    refine x_cVV (As := [.int (hi 10 9)]) (rest := []) K gT_good hZ hP hS calG_constant mlG_101 13 (by decide) rfl rfl (mG_constant hZ K.2.2.2.2.2.2.2.1 h) ⟨Nat.le_of_ble_eq_true rfl, Nat.le_of_ble_eq_true rfl⟩ rfl hL.1 rfl (Nat.le_of_ble_eq_true rfl) dG_join_93 (fun hi4 hl5 H locs h hP hS => ?_)
    refine lv_goto (tgt := 157) K.1 K.2.1 dG_join_96 rfl ?_
    exact x_vret K hr hP hS h dG_join_157
  by_cases hc1 : (swC ((hi 10 3).toNatClampNeg)) = 9
  · have h := h.2.1 hc1
    refine lv_tableIn (off := 88) (tgt := 99) K.1 K.2.1 dG_join_11 (by rw [hc1]; decide) (by rw [hc1]; decide) (by rw [hc1]; rfl) rfl ?_
    refine lv_aload_n K.1 K.2.1 dG_join_99 rfl (lv_at hL 0 rfl) ?_
    refine lv_aload_n K.1 K.2.1 dG_join_100 rfl (lv_at hL 1 rfl) ?_
    refine x_getN (v := .int (hi 10 9)) K hP hinD (ci := 3) rfl 10 (by decide) rfl 9 (by decide) (fnG_98 K.2.2.2.2.2.2.2.2) rfl rfl dG_join_101 ?_
    refine x_cVV (As := [.int (hi 10 9)]) (rest := []) K gT_good hZ hP hS calG_cut mlG_105 13 (by decide) rfl rfl (mG_cut hZ K.2.2.2.2.2.2.2.1 h) ⟨Nat.le_of_ble_eq_true rfl, Nat.le_of_ble_eq_true rfl⟩ rfl hL.1 rfl (Nat.le_of_ble_eq_true rfl) dG_join_104 (fun hi7 hl8 H locs h hP hS => ?_)
    refine lv_goto (tgt := 157) K.1 K.2.1 dG_join_107 rfl ?_
    exact x_vret K hr hP hS h dG_join_157
  by_cases hc2 : (swC ((hi 10 3).toNatClampNeg)) = 10
  · have h := h.2.2.1 hc2
    refine lv_tableIn (off := 99) (tgt := 110) K.1 K.2.1 dG_join_11 (by rw [hc2]; decide) (by rw [hc2]; decide) (by rw [hc2]; rfl) rfl ?_
    refine lv_aload_n K.1 K.2.1 dG_join_110 rfl (lv_at hL 0 rfl) ?_
    refine lv_aload_n K.1 K.2.1 dG_join_111 rfl (lv_at hL 1 rfl) ?_
    refine x_getN (v := va_rf (kOf kd (hi 10 3))) K hP hinD (ci := 3) rfl 10 (by decide) rfl 3 (by decide) (fnG_88 K.2.2.2.2.2.2.2.2) rfl rfl dG_join_112 ?_
    obtain ⟨g9, h⟩ := h
    rw [kOf_in g9]
    refine x_cVV (As := [.ref (kd ((hi 10 3).toNatClampNeg))]) (rest := []) K gT_good hZ hP hS calG_joinByBits mlG_108 13 (by decide) rfl rfl (mG_joinByBits hZ K.2.2.2.2.2.2.2.1 h) ⟨Nat.le_of_ble_eq_true rfl, Nat.le_of_ble_eq_true rfl⟩ rfl hL.1 rfl (Nat.le_of_ble_eq_true rfl) dG_join_115 (fun hi11 hl12 H locs h hP hS => ?_)
    refine lv_goto (tgt := 157) K.1 K.2.1 dG_join_118 rfl ?_
    exact x_vret K hr hP hS h dG_join_157
  by_cases hc3 : (swC ((hi 10 3).toNatClampNeg)) = 11
  · have h := h.2.2.2.1 hc3
    refine lv_tableIn (off := 99) (tgt := 110) K.1 K.2.1 dG_join_11 (by rw [hc3]; decide) (by rw [hc3]; decide) (by rw [hc3]; rfl) rfl ?_
    refine lv_aload_n K.1 K.2.1 dG_join_110 rfl (lv_at hL 0 rfl) ?_
    refine lv_aload_n K.1 K.2.1 dG_join_111 rfl (lv_at hL 1 rfl) ?_
    refine x_getN (v := va_rf (kOf kd (hi 10 3))) K hP hinD (ci := 3) rfl 10 (by decide) rfl 3 (by decide) (fnG_88 K.2.2.2.2.2.2.2.2) rfl rfl dG_join_112 ?_
    obtain ⟨g13, h⟩ := h
    rw [kOf_in g13]
    refine x_cVV (As := [.ref (kd ((hi 10 3).toNatClampNeg))]) (rest := []) K gT_good hZ hP hS calG_joinByBits mlG_108 13 (by decide) rfl rfl (mG_joinByBits hZ K.2.2.2.2.2.2.2.1 h) ⟨Nat.le_of_ble_eq_true rfl, Nat.le_of_ble_eq_true rfl⟩ rfl hL.1 rfl (Nat.le_of_ble_eq_true rfl) dG_join_115 (fun hi15 hl16 H locs h hP hS => ?_)
    refine lv_goto (tgt := 157) K.1 K.2.1 dG_join_118 rfl ?_
    exact x_vret K hr hP hS h dG_join_157
  by_cases hc4 : (swC ((hi 10 3).toNatClampNeg)) = 12
  · have h := h.2.2.2.2.1 hc4
    refine lv_tableIn (off := 99) (tgt := 110) K.1 K.2.1 dG_join_11 (by rw [hc4]; decide) (by rw [hc4]; decide) (by rw [hc4]; rfl) rfl ?_
    refine lv_aload_n K.1 K.2.1 dG_join_110 rfl (lv_at hL 0 rfl) ?_
    refine lv_aload_n K.1 K.2.1 dG_join_111 rfl (lv_at hL 1 rfl) ?_
    refine x_getN (v := va_rf (kOf kd (hi 10 3))) K hP hinD (ci := 3) rfl 10 (by decide) rfl 3 (by decide) (fnG_88 K.2.2.2.2.2.2.2.2) rfl rfl dG_join_112 ?_
    obtain ⟨g17, h⟩ := h
    rw [kOf_in g17]
    refine x_cVV (As := [.ref (kd ((hi 10 3).toNatClampNeg))]) (rest := []) K gT_good hZ hP hS calG_joinByBits mlG_108 13 (by decide) rfl rfl (mG_joinByBits hZ K.2.2.2.2.2.2.2.1 h) ⟨Nat.le_of_ble_eq_true rfl, Nat.le_of_ble_eq_true rfl⟩ rfl hL.1 rfl (Nat.le_of_ble_eq_true rfl) dG_join_115 (fun hi19 hl20 H locs h hP hS => ?_)
    refine lv_goto (tgt := 157) K.1 K.2.1 dG_join_118 rfl ?_
    exact x_vret K hr hP hS h dG_join_157
  by_cases hc5 : (swC ((hi 10 3).toNatClampNeg)) = 13
  · have h := h.2.2.2.2.2.1 hc5
    refine lv_tableIn (off := 99) (tgt := 110) K.1 K.2.1 dG_join_11 (by rw [hc5]; decide) (by rw [hc5]; decide) (by rw [hc5]; rfl) rfl ?_
    refine lv_aload_n K.1 K.2.1 dG_join_110 rfl (lv_at hL 0 rfl) ?_
    refine lv_aload_n K.1 K.2.1 dG_join_111 rfl (lv_at hL 1 rfl) ?_
    refine x_getN (v := va_rf (kOf kd (hi 10 3))) K hP hinD (ci := 3) rfl 10 (by decide) rfl 3 (by decide) (fnG_88 K.2.2.2.2.2.2.2.2) rfl rfl dG_join_112 ?_
    obtain ⟨g21, h⟩ := h
    rw [kOf_in g21]
    refine x_cVV (As := [.ref (kd ((hi 10 3).toNatClampNeg))]) (rest := []) K gT_good hZ hP hS calG_joinByBits mlG_108 13 (by decide) rfl rfl (mG_joinByBits hZ K.2.2.2.2.2.2.2.1 h) ⟨Nat.le_of_ble_eq_true rfl, Nat.le_of_ble_eq_true rfl⟩ rfl hL.1 rfl (Nat.le_of_ble_eq_true rfl) dG_join_115 (fun hi23 hl24 H locs h hP hS => ?_)
    refine lv_goto (tgt := 157) K.1 K.2.1 dG_join_118 rfl ?_
    exact x_vret K hr hP hS h dG_join_157
  by_cases hc6 : (swC ((hi 10 3).toNatClampNeg)) = 14
  · have h := h.2.2.2.2.2.2.1 hc6
    refine lv_tableIn (off := 99) (tgt := 110) K.1 K.2.1 dG_join_11 (by rw [hc6]; decide) (by rw [hc6]; decide) (by rw [hc6]; rfl) rfl ?_
    refine lv_aload_n K.1 K.2.1 dG_join_110 rfl (lv_at hL 0 rfl) ?_
    refine lv_aload_n K.1 K.2.1 dG_join_111 rfl (lv_at hL 1 rfl) ?_
    refine x_getN (v := va_rf (kOf kd (hi 10 3))) K hP hinD (ci := 3) rfl 10 (by decide) rfl 3 (by decide) (fnG_88 K.2.2.2.2.2.2.2.2) rfl rfl dG_join_112 ?_
    obtain ⟨g25, h⟩ := h
    rw [kOf_in g25]
    refine x_cVV (As := [.ref (kd ((hi 10 3).toNatClampNeg))]) (rest := []) K gT_good hZ hP hS calG_joinByBits mlG_108 13 (by decide) rfl rfl (mG_joinByBits hZ K.2.2.2.2.2.2.2.1 h) ⟨Nat.le_of_ble_eq_true rfl, Nat.le_of_ble_eq_true rfl⟩ rfl hL.1 rfl (Nat.le_of_ble_eq_true rfl) dG_join_115 (fun hi27 hl28 H locs h hP hS => ?_)
    refine lv_goto (tgt := 157) K.1 K.2.1 dG_join_118 rfl ?_
    exact x_vret K hr hP hS h dG_join_157
  by_cases hc7 : (swC ((hi 10 3).toNatClampNeg)) = 15
  · have h := h.2.2.2.2.2.2.2.1 hc7
    refine lv_tableIn (off := 110) (tgt := 121) K.1 K.2.1 dG_join_11 (by rw [hc7]; decide) (by rw [hc7]; decide) (by rw [hc7]; rfl) rfl ?_
    refine lv_aload_n K.1 K.2.1 dG_join_121 rfl (lv_at hL 0 rfl) ?_
    refine x_get (v := .ref (ad 17)) K hP hinG (ci := 4) rfl 13 (by decide) rfl 3 (by decide) flG_21 rfl rfl dG_join_122 ?_
    refine lv_iconst (v := 0) K.1 K.2.1 dG_join_125 (by decide) ?_
    refine lv_aload_n K.1 K.2.1 dG_join_126 rfl (lv_at hL 0 rfl) ?_
    refine lv_aload_n K.1 K.2.1 dG_join_127 rfl (lv_at hL 1 rfl) ?_
    refine x_getN (v := va_rf (kOf kd (hi 10 3))) K hP hinD (ci := 3) rfl 10 (by decide) rfl 3 (by decide) (fnG_88 K.2.2.2.2.2.2.2.2) rfl rfl dG_join_128 ?_
    obtain ⟨g29, h⟩ := h
    rw [kOf_in g29]
    refine x_cVJ (As := [.ref (kd ((hi 10 3).toNatClampNeg))]) (rest := [.int (0 : Int32), .ref (ad 17)]) K gT_good hZ hP hS calG_compare mlG_112 13 (by decide) rfl rfl (mG_compare hZ K.2.2.2.2.2.2.2.1 h) ⟨Nat.le_of_ble_eq_true rfl, Nat.le_of_ble_eq_true rfl⟩ rfl hL.1 rfl (Nat.le_of_ble_eq_true rfl) dG_join_131 (fun r30 hi31 hl32 H locs h hP hS => ?_)
    obtain ⟨g33, h⟩ := h
    refine x_last K hP hS 17 (by decide) 1 (fun _ => rfl) rfl g33 dG_join_134 (fun H locs hP hS => ?_)
    refine lv_goto (tgt := 157) K.1 K.2.1 dG_join_135 rfl ?_
    exact x_vret K hr hP hS h dG_join_157
  by_cases hc8 : (swC ((hi 10 3).toNatClampNeg)) = 16
  · have h := h.2.2.2.2.2.2.2.2.1 hc8
    refine lv_tableIn (off := 110) (tgt := 121) K.1 K.2.1 dG_join_11 (by rw [hc8]; decide) (by rw [hc8]; decide) (by rw [hc8]; rfl) rfl ?_
    refine lv_aload_n K.1 K.2.1 dG_join_121 rfl (lv_at hL 0 rfl) ?_
    refine x_get (v := .ref (ad 17)) K hP hinG (ci := 4) rfl 13 (by decide) rfl 3 (by decide) flG_21 rfl rfl dG_join_122 ?_
    refine lv_iconst (v := 0) K.1 K.2.1 dG_join_125 (by decide) ?_
    refine lv_aload_n K.1 K.2.1 dG_join_126 rfl (lv_at hL 0 rfl) ?_
    refine lv_aload_n K.1 K.2.1 dG_join_127 rfl (lv_at hL 1 rfl) ?_
    refine x_getN (v := va_rf (kOf kd (hi 10 3))) K hP hinD (ci := 3) rfl 10 (by decide) rfl 3 (by decide) (fnG_88 K.2.2.2.2.2.2.2.2) rfl rfl dG_join_128 ?_
    obtain ⟨g34, h⟩ := h
    rw [kOf_in g34]
    refine x_cVJ (As := [.ref (kd ((hi 10 3).toNatClampNeg))]) (rest := [.int (0 : Int32), .ref (ad 17)]) K gT_good hZ hP hS calG_compare mlG_112 13 (by decide) rfl rfl (mG_compare hZ K.2.2.2.2.2.2.2.1 h) ⟨Nat.le_of_ble_eq_true rfl, Nat.le_of_ble_eq_true rfl⟩ rfl hL.1 rfl (Nat.le_of_ble_eq_true rfl) dG_join_131 (fun r35 hi36 hl37 H locs h hP hS => ?_)
    obtain ⟨g38, h⟩ := h
    refine x_last K hP hS 17 (by decide) 1 (fun _ => rfl) rfl g38 dG_join_134 (fun H locs hP hS => ?_)
    refine lv_goto (tgt := 157) K.1 K.2.1 dG_join_135 rfl ?_
    exact x_vret K hr hP hS h dG_join_157
  by_cases hc9 : (swC ((hi 10 3).toNatClampNeg)) = 17
  · have h := h.2.2.2.2.2.2.2.2.2.1 hc9
    refine lv_tableIn (off := 110) (tgt := 121) K.1 K.2.1 dG_join_11 (by rw [hc9]; decide) (by rw [hc9]; decide) (by rw [hc9]; rfl) rfl ?_
    refine lv_aload_n K.1 K.2.1 dG_join_121 rfl (lv_at hL 0 rfl) ?_
    refine x_get (v := .ref (ad 17)) K hP hinG (ci := 4) rfl 13 (by decide) rfl 3 (by decide) flG_21 rfl rfl dG_join_122 ?_
    refine lv_iconst (v := 0) K.1 K.2.1 dG_join_125 (by decide) ?_
    refine lv_aload_n K.1 K.2.1 dG_join_126 rfl (lv_at hL 0 rfl) ?_
    refine lv_aload_n K.1 K.2.1 dG_join_127 rfl (lv_at hL 1 rfl) ?_
    refine x_getN (v := va_rf (kOf kd (hi 10 3))) K hP hinD (ci := 3) rfl 10 (by decide) rfl 3 (by decide) (fnG_88 K.2.2.2.2.2.2.2.2) rfl rfl dG_join_128 ?_
    obtain ⟨g39, h⟩ := h
    rw [kOf_in g39]
    refine x_cVJ (As := [.ref (kd ((hi 10 3).toNatClampNeg))]) (rest := [.int (0 : Int32), .ref (ad 17)]) K gT_good hZ hP hS calG_compare mlG_112 13 (by decide) rfl rfl (mG_compare hZ K.2.2.2.2.2.2.2.1 h) ⟨Nat.le_of_ble_eq_true rfl, Nat.le_of_ble_eq_true rfl⟩ rfl hL.1 rfl (Nat.le_of_ble_eq_true rfl) dG_join_131 (fun r40 hi41 hl42 H locs h hP hS => ?_)
    obtain ⟨g43, h⟩ := h
    refine x_last K hP hS 17 (by decide) 1 (fun _ => rfl) rfl g43 dG_join_134 (fun H locs hP hS => ?_)
    refine lv_goto (tgt := 157) K.1 K.2.1 dG_join_135 rfl ?_
    exact x_vret K hr hP hS h dG_join_157
  by_cases hc10 : (swC ((hi 10 3).toNatClampNeg)) = 18
  · have h := h.2.2.2.2.2.2.2.2.2.2.1 hc10
    refine lv_tableIn (off := 110) (tgt := 121) K.1 K.2.1 dG_join_11 (by rw [hc10]; decide) (by rw [hc10]; decide) (by rw [hc10]; rfl) rfl ?_
    refine lv_aload_n K.1 K.2.1 dG_join_121 rfl (lv_at hL 0 rfl) ?_
    refine x_get (v := .ref (ad 17)) K hP hinG (ci := 4) rfl 13 (by decide) rfl 3 (by decide) flG_21 rfl rfl dG_join_122 ?_
    refine lv_iconst (v := 0) K.1 K.2.1 dG_join_125 (by decide) ?_
    refine lv_aload_n K.1 K.2.1 dG_join_126 rfl (lv_at hL 0 rfl) ?_
    refine lv_aload_n K.1 K.2.1 dG_join_127 rfl (lv_at hL 1 rfl) ?_
    refine x_getN (v := va_rf (kOf kd (hi 10 3))) K hP hinD (ci := 3) rfl 10 (by decide) rfl 3 (by decide) (fnG_88 K.2.2.2.2.2.2.2.2) rfl rfl dG_join_128 ?_
    obtain ⟨g44, h⟩ := h
    rw [kOf_in g44]
    refine x_cVJ (As := [.ref (kd ((hi 10 3).toNatClampNeg))]) (rest := [.int (0 : Int32), .ref (ad 17)]) K gT_good hZ hP hS calG_compare mlG_112 13 (by decide) rfl rfl (mG_compare hZ K.2.2.2.2.2.2.2.1 h) ⟨Nat.le_of_ble_eq_true rfl, Nat.le_of_ble_eq_true rfl⟩ rfl hL.1 rfl (Nat.le_of_ble_eq_true rfl) dG_join_131 (fun r45 hi46 hl47 H locs h hP hS => ?_)
    obtain ⟨g48, h⟩ := h
    refine x_last K hP hS 17 (by decide) 1 (fun _ => rfl) rfl g48 dG_join_134 (fun H locs hP hS => ?_)
    refine lv_goto (tgt := 157) K.1 K.2.1 dG_join_135 rfl ?_
    exact x_vret K hr hP hS h dG_join_157
  by_cases hc11 : (swC ((hi 10 3).toNatClampNeg)) = 19
  · have h := h.2.2.2.2.2.2.2.2.2.2.2.1 hc11
    refine lv_tableIn (off := 127) (tgt := 138) K.1 K.2.1 dG_join_11 (by rw [hc11]; decide) (by rw [hc11]; decide) (by rw [hc11]; rfl) rfl ?_
    refine lv_aload_n K.1 K.2.1 dG_join_138 rfl (lv_at hL 0 rfl) ?_
    refine lv_aload_n K.1 K.2.1 dG_join_139 rfl (lv_at hL 1 rfl) ?_
    refine x_getN (v := va_rf (kOf kd (hi 10 3))) K hP hinD (ci := 3) rfl 10 (by decide) rfl 3 (by decide) (fnG_88 K.2.2.2.2.2.2.2.2) rfl rfl dG_join_140 ?_
    obtain ⟨g49, h⟩ := h
    rw [kOf_in g49]
    refine x_cVV (As := [.ref (kd ((hi 10 3).toNatClampNeg))]) (rest := []) K gT_good hZ hP hS calG_arrange mlG_116 13 (by decide) rfl rfl (mG_arrange hZ K.2.2.2.2.2.2.2.1 h) ⟨Nat.le_of_ble_eq_true rfl, Nat.le_of_ble_eq_true rfl⟩ rfl hL.1 rfl (Nat.le_of_ble_eq_true rfl) dG_join_143 (fun hi51 hl52 H locs h hP hS => ?_)
    refine lv_goto (tgt := 157) K.1 K.2.1 dG_join_146 rfl ?_
    exact x_vret K hr hP hS h dG_join_157
  by_cases hc12 : (swC ((hi 10 3).toNatClampNeg)) = 20
  · have h := h.2.2.2.2.2.2.2.2.2.2.2.2.1 hc12
    refine lv_tableIn (off := 127) (tgt := 138) K.1 K.2.1 dG_join_11 (by rw [hc12]; decide) (by rw [hc12]; decide) (by rw [hc12]; rfl) rfl ?_
    refine lv_aload_n K.1 K.2.1 dG_join_138 rfl (lv_at hL 0 rfl) ?_
    refine lv_aload_n K.1 K.2.1 dG_join_139 rfl (lv_at hL 1 rfl) ?_
    refine x_getN (v := va_rf (kOf kd (hi 10 3))) K hP hinD (ci := 3) rfl 10 (by decide) rfl 3 (by decide) (fnG_88 K.2.2.2.2.2.2.2.2) rfl rfl dG_join_140 ?_
    obtain ⟨g53, h⟩ := h
    rw [kOf_in g53]
    refine x_cVV (As := [.ref (kd ((hi 10 3).toNatClampNeg))]) (rest := []) K gT_good hZ hP hS calG_arrange mlG_116 13 (by decide) rfl rfl (mG_arrange hZ K.2.2.2.2.2.2.2.1 h) ⟨Nat.le_of_ble_eq_true rfl, Nat.le_of_ble_eq_true rfl⟩ rfl hL.1 rfl (Nat.le_of_ble_eq_true rfl) dG_join_143 (fun hi55 hl56 H locs h hP hS => ?_)
    refine lv_goto (tgt := 157) K.1 K.2.1 dG_join_146 rfl ?_
    exact x_vret K hr hP hS h dG_join_157
  by_cases hc13 : (swC ((hi 10 3).toNatClampNeg)) = 21
  · have h := h.2.2.2.2.2.2.2.2.2.2.2.2.2.1 hc13
    refine lv_tableIn (off := 127) (tgt := 138) K.1 K.2.1 dG_join_11 (by rw [hc13]; decide) (by rw [hc13]; decide) (by rw [hc13]; rfl) rfl ?_
    refine lv_aload_n K.1 K.2.1 dG_join_138 rfl (lv_at hL 0 rfl) ?_
    refine lv_aload_n K.1 K.2.1 dG_join_139 rfl (lv_at hL 1 rfl) ?_
    refine x_getN (v := va_rf (kOf kd (hi 10 3))) K hP hinD (ci := 3) rfl 10 (by decide) rfl 3 (by decide) (fnG_88 K.2.2.2.2.2.2.2.2) rfl rfl dG_join_140 ?_
    obtain ⟨g57, h⟩ := h
    rw [kOf_in g57]
    refine x_cVV (As := [.ref (kd ((hi 10 3).toNatClampNeg))]) (rest := []) K gT_good hZ hP hS calG_arrange mlG_116 13 (by decide) rfl rfl (mG_arrange hZ K.2.2.2.2.2.2.2.1 h) ⟨Nat.le_of_ble_eq_true rfl, Nat.le_of_ble_eq_true rfl⟩ rfl hL.1 rfl (Nat.le_of_ble_eq_true rfl) dG_join_143 (fun hi59 hl60 H locs h hP hS => ?_)
    refine lv_goto (tgt := 157) K.1 K.2.1 dG_join_146 rfl ?_
    exact x_vret K hr hP hS h dG_join_157
  by_cases hc14 : (swC ((hi 10 3).toNatClampNeg)) = 22
  · have h := h.2.2.2.2.2.2.2.2.2.2.2.2.2.2.1 hc14
    refine lv_tableIn (off := 127) (tgt := 138) K.1 K.2.1 dG_join_11 (by rw [hc14]; decide) (by rw [hc14]; decide) (by rw [hc14]; rfl) rfl ?_
    refine lv_aload_n K.1 K.2.1 dG_join_138 rfl (lv_at hL 0 rfl) ?_
    refine lv_aload_n K.1 K.2.1 dG_join_139 rfl (lv_at hL 1 rfl) ?_
    refine x_getN (v := va_rf (kOf kd (hi 10 3))) K hP hinD (ci := 3) rfl 10 (by decide) rfl 3 (by decide) (fnG_88 K.2.2.2.2.2.2.2.2) rfl rfl dG_join_140 ?_
    obtain ⟨g61, h⟩ := h
    rw [kOf_in g61]
    refine x_cVV (As := [.ref (kd ((hi 10 3).toNatClampNeg))]) (rest := []) K gT_good hZ hP hS calG_arrange mlG_116 13 (by decide) rfl rfl (mG_arrange hZ K.2.2.2.2.2.2.2.1 h) ⟨Nat.le_of_ble_eq_true rfl, Nat.le_of_ble_eq_true rfl⟩ rfl hL.1 rfl (Nat.le_of_ble_eq_true rfl) dG_join_143 (fun hi63 hl64 H locs h hP hS => ?_)
    refine lv_goto (tgt := 157) K.1 K.2.1 dG_join_146 rfl ?_
    exact x_vret K hr hP hS h dG_join_157
  by_cases hc15 : (swC ((hi 10 3).toNatClampNeg)) = 23
  · have h := h.2.2.2.2.2.2.2.2.2.2.2.2.2.2.2.1 hc15
    refine lv_tableIn (off := 127) (tgt := 138) K.1 K.2.1 dG_join_11 (by rw [hc15]; decide) (by rw [hc15]; decide) (by rw [hc15]; rfl) rfl ?_
    refine lv_aload_n K.1 K.2.1 dG_join_138 rfl (lv_at hL 0 rfl) ?_
    refine lv_aload_n K.1 K.2.1 dG_join_139 rfl (lv_at hL 1 rfl) ?_
    refine x_getN (v := va_rf (kOf kd (hi 10 3))) K hP hinD (ci := 3) rfl 10 (by decide) rfl 3 (by decide) (fnG_88 K.2.2.2.2.2.2.2.2) rfl rfl dG_join_140 ?_
    obtain ⟨g65, h⟩ := h
    rw [kOf_in g65]
    refine x_cVV (As := [.ref (kd ((hi 10 3).toNatClampNeg))]) (rest := []) K gT_good hZ hP hS calG_arrange mlG_116 13 (by decide) rfl rfl (mG_arrange hZ K.2.2.2.2.2.2.2.1 h) ⟨Nat.le_of_ble_eq_true rfl, Nat.le_of_ble_eq_true rfl⟩ rfl hL.1 rfl (Nat.le_of_ble_eq_true rfl) dG_join_143 (fun hi67 hl68 H locs h hP hS => ?_)
    refine lv_goto (tgt := 157) K.1 K.2.1 dG_join_146 rfl ?_
    exact x_vret K hr hP hS h dG_join_157
  have h := h.2.2.2.2.2.2.2.2.2.2.2.2.2.2.2.2 hc0 hc1 hc2 hc3 hc4 hc5 hc6 hc7 hc8 hc9 hc10 hc11 hc12 hc13 hc14 hc15
  refine lv_tableOut (tgt := 149) K.1 K.2.1 dG_join_11 (by have e0 := i_ne hc0 (n := 8) (by decide); have e1 := i_ne hc1 (n := 9) (by decide); have e2 := i_ne hc2 (n := 10) (by decide); have e3 := i_ne hc3 (n := 11) (by decide); have e4 := i_ne hc4 (n := 12) (by decide); have e5 := i_ne hc5 (n := 13) (by decide); have e6 := i_ne hc6 (n := 14) (by decide); have e7 := i_ne hc7 (n := 15) (by decide); have e8 := i_ne hc8 (n := 16) (by decide); have e9 := i_ne hc9 (n := 17) (by decide); have e10 := i_ne hc10 (n := 18) (by decide); have e11 := i_ne hc11 (n := 19) (by decide); have e12 := i_ne hc12 (n := 20) (by decide); have e13 := i_ne hc13 (n := 21) (by decide); have e14 := i_ne hc14 (n := 22) (by decide); have e15 := i_ne hc15 (n := 23) (by decide); omega) rfl ?_
  refine lv_aload_n K.1 K.2.1 dG_join_149 rfl (lv_at hL 0 rfl) ?_
  refine lv_aload_n K.1 K.2.1 dG_join_150 rfl (lv_at hL 1 rfl) ?_
  refine x_getN (v := va_rf (kOf kd (hi 10 3))) K hP hinD (ci := 3) rfl 10 (by decide) rfl 3 (by decide) (fnG_88 K.2.2.2.2.2.2.2.2) rfl rfl dG_join_151 ?_
  obtain ⟨g69, h⟩ := h
  rw [kOf_in g69]
  refine x_cVV (As := [.ref (kd ((hi 10 3).toNatClampNeg))]) (rest := []) K gT_good hZ hP hS calG_reckon mlG_119 13 (by decide) rfl rfl (mG_reckon hZ K.2.2.2.2.2.2.2.1 h) ⟨Nat.le_of_ble_eq_true rfl, Nat.le_of_ble_eq_true rfl⟩ rfl hL.1 rfl (Nat.le_of_ble_eq_true rfl) dG_join_154 (fun hi71 hl72 H locs h hP hS => ?_)
  exact x_vret K hr hP hS h dG_join_157
set_option maxRecDepth 100000 in
set_option maxHeartbeats 4000000 in
theorem mG_join {l : Launch} {D : va_G} {cI cJ cC cZ cR : ClassId} {ad kd sd vd : Nat → Nat} {kA lA wA : Nat} {A : Nat → Prop} (hZ : ZsOK A (ZX A kd sd vd kA lA wA)) (hD : wlD 64 ad A) {hi : HI} {hl : HL} {Φ : HI → HL → Prop} (h : wpG_join hi hl Φ) : SpV l yG_join cG_join 2 none gT 3 104 [.ref (ad 13), .ref (ad 10)] D cls8 (tys5 cI cJ cC cZ cR) 64 ad (GX cI cJ cC cZ cR ad kd) A (ZX A kd sd vd kA lA wA) hi hl Φ := by
  refine Met.ofW (cc := cG_join) (maxL := 2) (ret := none) (by decide) rfl ?_
  intro p e s m args below meth c s₁ B hml hv
  obtain ⟨rfl, hP, hK, hZs⟩ := hv
  have K : Cx p (rmX 3 104) s m _ meth c cG_join 2 "WordChecker$Gates" gT D cls8 (tys5 cI cJ cC cZ cR) 64 ad A (ZX A kd sd vd kA lA wA) := ⟨B.exec, B.bytes, hml, findClass_of_methodNamed B.named, fun w hw => atoms_spec B.pre w (List.mem_cons_of_mem _ hw), B.notSynchronized, hK, hD, hZs⟩
  have hL := lv_entry ([.ref (ad 13), .ref (ad 10)]) (n := 2) (Nat.le_of_ble_eq_true rfl)
  rw [lg_entry_eq]
  generalize (lg_sl ([.ref (ad 13), .ref (ad 10)]) ++ List.replicate (2 - (lg_sl ([.ref (ad 13), .ref (ad 10)])).length) Slot.unset).toArray = ls at hL ⊢
  have hL : lv_has ls 2 [(0, .ref (ad 13)), (1, .ref (ad 10))] := hL
  unfold wpG_join at h
  exact bG_join_0 K B.returns hZ h (lv_sub hL [0, 1] rfl) hP va_S.rf
