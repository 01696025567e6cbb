set_option maxRecDepth 100000 in
set_option maxHeartbeats 4000000 in
theorem bM_isBits_0 {p : Program} {l : Launch} {e : Env} {s : State} {m : MethodId} {args : Array Value} {below : List Frame} {meth : Method} {c : Code} {D : va_G} {cI cJ cC cZ cR : ClassId} {ad : Nat → Nat} {A : Nat → Prop} {Zs : State → Prop} (K : Cx p (rmX 0 0) s m args meth c cM_isBits 2 "WordCheckerModel" gT D cls8 (tys5 cI cJ cC cZ cR) 21 ad A Zs) (hr : meth.sig.returnType = (some .boolean)) (hZ : ZsOK A Zs) {Φ : Int32 → HI → HL → Prop} {v1 : Int32} {hi : HI} {hl : HL} {H : Heap} {locs : List Loc} (h : wbM_isBits_0 v1 hi hl Φ) {ls : Array Slot} (hL : lv_has ls 2 [(0, .ref (ad 0)), (1, .int v1)]) (hP : va_P D cls8 (wl 21 ad (GM cI cZ ad) hi hl) H) (hS : va_S A s.heap H locs) : W p l e (rmX 0 0) s m args below meth c H locs 0 0 (MQ below (va_Qi (fun r (u : HI × HL) => Φ r u.1 u.2) (fun u t => va_P D cls8 (wl 21 ad (GM cI cZ ad) u.1 u.2) t.heap) A) args s 0 0 A) (F0 m 0 ls []) := by
  unfold wbM_isBits_0 at h
  refine lv_aload_n K.1 K.2.1 dM_isBits_0 rfl (lv_at hL 0 rfl) ?_
  refine x_get (v := .ref (ad 15)) K hP hinM (ci := 7) rfl 0 (by decide) rfl 18 (by decide) flM_53 rfl rfl dM_isBits_1 ?_
  refine lv_iload_n K.1 K.2.1 dM_isBits_4 rfl (lv_at hL 1 rfl) ?_
  obtain ⟨g1, h⟩ := h
  refine x_zald K hP 15 (by decide) 3 rfl rfl g1 dM_isBits_5 ?_
  refine lv_if_ne (tgt := 13) K.1 K.2.1 dM_isBits_6 rfl (fun hc => ?_) (fun hc => ?_)
  · have h := h.2 hc
    refine lv_iconst (v := 0) K.1 K.2.1 dM_isBits_13 (by decide) ?_
    obtain ⟨g2, h⟩ := h
    exact x_zret K hr hP hS g2 h dM_isBits_14
  · have h := h.1 hc
    refine lv_iconst (v := 1) K.1 K.2.1 dM_isBits_9 (by decide) ?_
    refine lv_goto (tgt := 14) K.1 K.2.1 dM_isBits_10 rfl ?_
    obtain ⟨g3, h⟩ := h
    exact x_zret K hr hP hS g3 h dM_isBits_14
set_option maxRecDepth 100000 in
set_option maxHeartbeats 4000000 in
theorem mM_isBits {l : Launch} {D : va_G} {cI cJ cC cZ cR : ClassId} {ad : Nat → Nat} {A : Nat → Prop} {Zs : State → Prop} (hZ : ZsOK A Zs) (hD : wlD 21 ad A) {v1 : Int32} {hi : HI} {hl : HL} {Φ : Int32 → HI → HL → Prop} (h : wpM_isBits v1 hi hl Φ) : SpI l yM_isBits cM_isBits 2 (some .boolean) gT 0 0 [.ref (ad 0), .int v1] D cls8 (tys5 cI cJ cC cZ cR) 21 ad (GM cI cZ ad) A Zs hi hl Φ := by
  refine Met.ofW (cc := cM_isBits) (maxL := 2) (ret := (some .boolean)) (by decide) rfl ?_
  intro p e s m args below meth c s₁ B hml hv
  obtain ⟨rfl, hP, hK, hZs⟩ := hv
  have K : Cx p (rmX 0 0) s m _ meth c cM_isBits 2 "WordCheckerModel" gT D cls8 (tys5 cI cJ cC cZ cR) 21 ad A Zs := ⟨B.exec, B.bytes, hml, findClass_of_methodNamed B.named, fun w hw => atoms_spec B.pre w (List.mem_cons_of_mem _ hw), B.notSynchronized, hK, hD, hZs⟩
  have hL := lv_entry ([.ref (ad 0), .int v1]) (n := 2) (Nat.le_of_ble_eq_true rfl)
  rw [lg_entry_eq]
  generalize (lg_sl ([.ref (ad 0), .int v1]) ++ List.replicate (2 - (lg_sl ([.ref (ad 0), .int v1])).length) Slot.unset).toArray = ls at hL ⊢
  have hL : lv_has ls 2 [(0, .ref (ad 0)), (1, .int v1)] := hL
  unfold wpM_isBits at h
  exact bM_isBits_0 K B.returns hZ h (lv_sub hL [0, 1] rfl) hP va_S.rf
set_option maxRecDepth 100000 in
set_option maxHeartbeats 4000000 in
theorem bM_sameSort_34 {p : Program} {l : Launch} {e : Env} {s : State} {m : MethodId} {args : Array Value} {below : List Frame} {meth : Method} {c : Code} {D : va_G} {cI cJ cC cZ cR : ClassId} {ad : Nat → Nat} {A : Nat → Prop} {Zs : State → Prop} (K : Cx p (rmX 0 0) s m args meth c cM_sameSort 3 "WordCheckerModel" gT D cls8 (tys5 cI cJ cC cZ cR) 21 ad A Zs) (hr : meth.sig.returnType = (some .boolean)) (hZ : ZsOK A Zs) {Φ : Int32 → HI → HL → Prop} {hi : HI} {hl : HL} {H : Heap} {locs : List Loc} (h : wbM_sameSort_34 hi hl Φ) {ls : Array Slot} (hL : lv_has ls 3 []) (hP : va_P D cls8 (wl 21 ad (GM cI cZ ad) hi hl) H) (hS : va_S A s.heap H locs) : W p l e (rmX 0 0) s m args below meth c H locs 0 0 (MQ below (va_Qi (fun r (u : HI × HL) => Φ r u.1 u.2) (fun u t => va_P D cls8 (wl 21 ad (GM cI cZ ad) u.1 u.2) t.heap) A) args s 0 0 A) (F0 m 34 ls []) := by
  unfold wbM_sameSort_34 at h
  refine lv_iconst (v := 0) K.1 K.2.1 dM_sameSort_34 (by decide) ?_
  obtain ⟨g1, h⟩ := h
  exact x_zret K hr hP hS g1 h dM_sameSort_35
set_option maxRecDepth 100000 in
set_option maxHeartbeats 4000000 in
theorem bM_sameSort_0 {p : Program} {l : Launch} {e : Env} {s : State} {m : MethodId} {args : Array Value} {below : List Frame} {meth : Method} {c : Code} {D : va_G} {cI cJ cC cZ cR : ClassId} {ad : Nat → Nat} {A : Nat → Prop} {Zs : State → Prop} (K : Cx p (rmX 0 0) s m args meth c cM_sameSort 3 "WordCheckerModel" gT D cls8 (tys5 cI cJ cC cZ cR) 21 ad A Zs) (hr : meth.sig.returnType = (some .boolean)) (hZ : ZsOK A Zs) {Φ : Int32 → HI → HL → Prop} {v1 : Int32} {v2 : Int32} {hi : HI} {hl : HL} {H : Heap} {locs : List Loc} (h : wbM_sameSort_0 v1 v2 hi hl Φ) {ls : Array Slot} (hL : lv_has ls 3 [(0, .ref (ad 0)), (1, .int v1), (2, .int v2)]) (hP : va_P D cls8 (wl 21 ad (GM cI cZ ad) hi hl) H) (hS : va_S A s.heap H locs) : W p l e (rmX 0 0) s m args below meth c H locs 0 0 (MQ below (va_Qi (fun r (u : HI × HL) => Φ r u.1 u.2) (fun u t => va_P D cls8 (wl 21 ad (GM cI cZ ad) u.1 u.2) t.heap) A) args s 0 0 A) (F0 m 0 ls []) := by
  unfold wbM_sameSort_0 at h
  refine lv_aload_n K.1 K.2.1 dM_sameSort_0 rfl (lv_at hL 0 rfl) ?_
  refine x_get (v := .ref (ad 15)) K hP hinM (ci := 7) rfl 0 (by decide) rfl 18 (by decide) flM_53 rfl rfl dM_sameSort_1 ?_
  refine lv_iload_n K.1 K.2.1 dM_sameSort_4 rfl (lv_at hL 1 rfl) ?_
  obtain ⟨g1, h⟩ := h
  refine x_zald K hP 15 (by decide) 3 rfl rfl g1 dM_sameSort_5 ?_
  refine lv_aload_n K.1 K.2.1 dM_sameSort_6 rfl (lv_at hL 0 rfl) ?_
  refine x_get (v := .ref (ad 15)) K hP hinM (ci := 7) rfl 0 (by decide) rfl 18 (by decide) flM_53 rfl rfl dM_sameSort_7 ?_
  refine lv_iload_n K.1 K.2.1 dM_sameSort_10 rfl (lv_at hL 2 rfl) ?_
  obtain ⟨g2, h⟩ := h
  refine x_zald K hP 15 (by decide) 3 rfl rfl g2 dM_sameSort_11 ?_
  refine lv_icmp_ne (tgt := 34) K.1 K.2.1 dM_sameSort_12 rfl (fun hc => ?_) (fun hc => ?_)
  · have h := h.2 hc
    exact bM_sameSort_34 K hr hZ h (lv_sub hL [] rfl) hP hS
  · have h := h.1 hc
    refine lv_aload_n K.1 K.2.1 dM_sameSort_15 rfl (lv_at hL 0 rfl) ?_
    refine x_get (v := .ref (ad 16)) K hP hinM (ci := 7) rfl 0 (by decide) rfl 19 (by decide) flM_56 rfl rfl dM_sameSort_16 ?_
    refine lv_iload_n K.1 K.2.1 dM_sameSort_19 rfl (lv_at hL 1 rfl) ?_
    obtain ⟨g3, h⟩ := h
    refine x_iald K hP 16 (by decide) 0 rfl rfl g3 dM_sameSort_20 ?_
    refine lv_aload_n K.1 K.2.1 dM_sameSort_21 rfl (lv_at hL 0 rfl) ?_
    refine x_get (v := .ref (ad 16)) K hP hinM (ci := 7) rfl 0 (by decide) rfl 19 (by decide) flM_56 rfl rfl dM_sameSort_22 ?_
    refine lv_iload_n K.1 K.2.1 dM_sameSort_25 rfl (lv_at hL 2 rfl) ?_
    obtain ⟨g4, h⟩ := h
    refine x_iald K hP 16 (by decide) 0 rfl rfl g4 dM_sameSort_26 ?_
    refine lv_icmp_ne (tgt := 34) K.1 K.2.1 dM_sameSort_27 rfl (fun hc => ?_) (fun hc => ?_)
    · have h := h.2 hc
      exact bM_sameSort_34 K hr hZ h (lv_sub hL [] rfl) hP hS
    · have h := h.1 hc
      refine lv_iconst (v := 1) K.1 K.2.1 dM_sameSort_30 (by decide) ?_
      refine lv_goto (tgt := 35) K.1 K.2.1 dM_sameSort_31 rfl ?_
      obtain ⟨g5, h⟩ := h
      exact x_zret K hr hP hS g5 h dM_sameSort_35
set_option maxRecDepth 100000 in
set_option maxHeartbeats 4000000 in
theorem mM_sameSort {l : Launch} {D : va_G} {cI cJ cC cZ cR : ClassId} {ad : Nat → Nat} {A : Nat → Prop} {Zs : State → Prop} (hZ : ZsOK A Zs) (hD : wlD 21 ad A) {v1 : Int32} {v2 : Int32} {hi : HI} {hl : HL} {Φ : Int32 → HI → HL → Prop} (h : wpM_sameSort v1 v2 hi hl Φ) : SpI l yM_sameSort cM_sameSort 3 (some .boolean) gT 0 0 [.ref (ad 0), .int v1, .int v2] D cls8 (tys5 cI cJ cC cZ cR) 21 ad (GM cI cZ ad) A Zs hi hl Φ := by
  refine Met.ofW (cc := cM_sameSort) (maxL := 3) (ret := (some .boolean)) (by decide) rfl ?_
  intro p e s m args below meth c s₁ B hml hv
  obtain ⟨rfl, hP, hK, hZs⟩ := hv
  have K : Cx p (rmX 0 0) s m _ meth c cM_sameSort 3 "WordCheckerModel" gT D cls8 (tys5 cI cJ cC cZ cR) 21 ad A Zs := ⟨B.exec, B.bytes, hml, findClass_of_methodNamed B.named, fun w hw => atoms_spec B.pre w (List.mem_cons_of_mem _ hw), B.notSynchronized, hK, hD, hZs⟩
  have hL := lv_entry ([.ref (ad 0), .int v1, .int v2]) (n := 3) (Nat.le_of_ble_eq_true rfl)
  rw [lg_entry_eq]
  generalize (lg_sl ([.ref (ad 0), .int v1, .int v2]) ++ List.replicate (3 - (lg_sl ([.ref (ad 0), .int v1, .int v2])).length) Slot.unset).toArray = ls at hL ⊢
  have hL : lv_has ls 3 [(0, .ref (ad 0)), (1, .int v1), (2, .int v2)] := hL
  unfold wpM_sameSort at h
  exact bM_sameSort_0 K B.returns hZ h (lv_sub hL [0, 1, 2] rfl) hP va_S.rf
set_option maxRecDepth 100000 in
set_option maxHeartbeats 4000000 in
theorem bM_bits_0 {p : Program} {l : Launch} {e : Env} {s : State} {m : MethodId} {args : Array Value} {below : List Frame} {meth : Method} {c : Code} {D : va_G} {cI cJ cC cZ cR : ClassId} {ad : Nat → Nat} {A : Nat → Prop} {Zs : State → Prop} (K : Cx p (rmX 0 0) s m args meth c cM_bits 2 "WordCheckerModel" gT D cls8 (tys5 cI cJ cC cZ cR) 21 ad A Zs) (hr : meth.sig.returnType = (some .int)) (hZ : ZsOK A Zs) {Φ : Int32 → HI → HL → Prop} {v1 : Int32} {hi : HI} {hl : HL} {H : Heap} {locs : List Loc} (h : wbM_bits_0 v1 hi hl Φ) {ls : Array Slot} (hL : lv_has ls 2 [(0, .ref (ad 0)), (1, .int v1)]) (hP : va_P D cls8 (wl 21 ad (GM cI cZ ad) hi hl) H) (hS : va_S A s.heap H locs) : W p l e (rmX 0 0) s m args below meth c H locs 0 0 (MQ below (va_Qi (fun r (u : HI × HL) => Φ r u.1 u.2) (fun u t => va_P D cls8 (wl 21 ad (GM cI cZ ad) u.1 u.2) t.heap) A) args s 0 0 A) (F0 m 0 ls []) := by
  unfold wbM_bits_0 at h
  refine lv_aload_n K.1 K.2.1 dM_bits_0 rfl (lv_at hL 0 rfl) ?_
  refine x_get (v := .ref (ad 15)) K hP hinM (ci := 7) rfl 0 (by decide) rfl 18 (by decide) flM_53 rfl rfl dM_bits_1 ?_
  refine lv_iload_n K.1 K.2.1 dM_bits_4 rfl (lv_at hL 1 rfl) ?_
  obtain ⟨g1, h⟩ := h
  refine x_zald K hP 15 (by decide) 3 rfl rfl g1 dM_bits_5 ?_
  refine lv_if_eq (tgt := 20) K.1 K.2.1 dM_bits_6 rfl (fun hc => ?_) (fun hc => ?_)
  · have h := h.1 hc
    refine lv_aload_n K.1 K.2.1 dM_bits_20 rfl (lv_at hL 0 rfl) ?_
    refine x_get (v := .ref (ad 16)) K hP hinM (ci := 7) rfl 0 (by decide) rfl 19 (by decide) flM_56 rfl rfl dM_bits_21 ?_
    refine lv_iload_n K.1 K.2.1 dM_bits_24 rfl (lv_at hL 1 rfl) ?_
    obtain ⟨g2, h⟩ := h
    refine x_iald K hP 16 (by decide) 0 rfl rfl g2 dM_bits_25 ?_
    exact x_iret K hr hP hS h dM_bits_26
  · have h := h.2 hc
    refine lv_iconst (v := 2) K.1 K.2.1 dM_bits_9 (by decide) ?_
    refine lv_aload_n K.1 K.2.1 dM_bits_10 rfl (lv_at hL 0 rfl) ?_
    refine x_get (v := .ref (ad 16)) K hP hinM (ci := 7) rfl 0 (by decide) rfl 19 (by decide) flM_56 rfl rfl dM_bits_11 ?_
    refine lv_iload_n K.1 K.2.1 dM_bits_14 rfl (lv_at hL 1 rfl) ?_
    obtain ⟨g3, h⟩ := h
    refine x_iald K hP 16 (by decide) 0 rfl rfl g3 dM_bits_15 ?_
    refine lv_imul K.1 K.2.1 dM_bits_16 ?_
    refine lv_goto (tgt := 26) K.1 K.2.1 dM_bits_17 rfl ?_
    exact x_iret K hr hP hS h dM_bits_26
set_option maxRecDepth 100000 in
set_option maxHeartbeats 4000000 in
theorem mM_bits {l : Launch} {D : va_G} {cI cJ cC cZ cR : ClassId} {ad : Nat → Nat} {A : Nat → Prop} {Zs : State → Prop} (hZ : ZsOK A Zs) (hD : wlD 21 ad A) {v1 : Int32} {hi : HI} {hl : HL} {Φ : Int32 → HI → HL → Prop} (h : wpM_bits v1 hi hl Φ) : SpI l yM_bits cM_bits 2 (some .int) gT 0 0 [.ref (ad 0), .int v1] D cls8 (tys5 cI cJ cC cZ cR) 21 ad (GM cI cZ ad) A Zs hi hl Φ := by
  refine Met.ofW (cc := cM_bits) (maxL := 2) (ret := (some .int)) (by decide) rfl ?_
  intro p e s m args below meth c s₁ B hml hv
  obtain ⟨rfl, hP, hK, hZs⟩ := hv
  have K : Cx p (rmX 0 0) s m _ meth c cM_bits 2 "WordCheckerModel" gT D cls8 (tys5 cI cJ cC cZ cR) 21 ad A Zs := ⟨B.exec, B.bytes, hml, findClass_of_methodNamed B.named, fun w hw => atoms_spec B.pre w (List.mem_cons_of_mem _ hw), B.notSynchronized, hK, hD, hZs⟩
  have hL := lv_entry ([.ref (ad 0), .int v1]) (n := 2) (Nat.le_of_ble_eq_true rfl)
  rw [lg_entry_eq]
  generalize (lg_sl ([.ref (ad 0), .int v1]) ++ List.replicate (2 - (lg_sl ([.ref (ad 0), .int v1])).length) Slot.unset).toArray = ls at hL ⊢
  have hL : lv_has ls 2 [(0, .ref (ad 0)), (1, .int v1)] := hL
  unfold wpM_bits at h
  exact bM_bits_0 K B.returns hZ h (lv_sub hL [0, 1] rfl) hP va_S.rf
set_option maxRecDepth 100000 in
set_option maxHeartbeats 4000000 in
theorem bM_sortWord_40 {p : Program} {l : Launch} {e : Env} {s : State} {m : MethodId} {args : Array Value} {below : List Frame} {meth : Method} {c : Code} {D : va_G} {cI cJ cC cZ cR : ClassId} {ad : Nat → Nat} {A : Nat → Prop} {Zs : State → Prop} (K : Cx p (rmX 3 68) s m args meth c cM_sortWord 3 "WordCheckerModel" gT D cls8 (tys5 cI cJ cC cZ cR) 21 ad A Zs) (hr : meth.sig.returnType = (some .int)) (hZ : ZsOK A Zs) {Φ : Int32 → HI → HL → Prop} {hi : HI} {hl : HL} {H : Heap} {locs : List Loc} (h : wbM_sortWord_40 hi hl Φ) {ls : Array Slot} (hL : lv_has ls 3 []) (hP : va_P D cls8 (wl 21 ad (GM cI cZ ad) hi hl) H) (hS : va_S A s.heap H locs) : W p l e (rmX 3 68) s m args below meth c H locs 0 0 (MQ below (va_Qi (fun r (u : HI × HL) => Φ r u.1 u.2) (fun u t => va_P D cls8 (wl 21 ad (GM cI cZ ad) u.1 u.2) t.heap) A) args s 0 0 A) (F0 m 40 ls []) := by
  unfold wbM_sortWord_40 at h
  refine lv_iconst (v := -1) K.1 K.2.1 dM_sortWord_40 (by decide) ?_
  exact x_iret K hr hP hS h dM_sortWord_41
set_option maxRecDepth 100000 in
set_option maxHeartbeats 4000000 in
theorem bM_sortWord_22 {p : Program} {l : Launch} {e : Env} {s : State} {m : MethodId} {args : Array Value} {below : List Frame} {meth : Method} {c : Code} {D : va_G} {cI cJ cC cZ cR : ClassId} {ad : Nat → Nat} {A : Nat → Prop} {Zs : State → Prop} (K : Cx p (rmX 3 68) s m args meth c cM_sortWord 3 "WordCheckerModel" gT D cls8 (tys5 cI cJ cC cZ cR) 21 ad A Zs) (hr : meth.sig.returnType = (some .int)) (hZ : ZsOK A Zs) {Φ : Int32 → HI → HL → Prop} {q0 : Int32} {hi : HI} {hl : HL} {H : Heap} {locs : List Loc} (h : wbM_sortWord_22 q0 hi hl Φ) {ls : Array Slot} (hL : lv_has ls 3 [(0, .ref (ad 0))]) (hP : va_P D cls8 (wl 21 ad (GM cI cZ ad) hi hl) H) (hS : va_S A s.heap H locs) : W p l e (rmX 3 68) s m args below meth c H locs 0 0 (MQ below (va_Qi (fun r (u : HI × HL) => Φ r u.1 u.2) (fun u t => va_P D cls8 (wl 21 ad (GM cI cZ ad) u.1 u.2) t.heap) A) args s 0 0 A) (F0 m 22 ls [.int q0]) := by
  unfold wbM_sortWord_22 at h
  refine lv_istore_n (lv' := [(2, .int q0), (0, .ref (ad 0))]) K.1 K.2.1 dM_sortWord_22 rfl hL (by decide) rfl (fun ls hL => ?_)
  refine lv_iload_n K.1 K.2.1 dM_sortWord_23 rfl (lv_at hL 0 rfl) ?_
  refine lv_if_lt (tgt := 40) K.1 K.2.1 dM_sortWord_24 rfl (fun hc => ?_) (fun hc => ?_)
  · have h := h.1 hc
    exact bM_sortWord_40 K hr hZ h (lv_sub hL [] rfl) hP hS
  · have h := h.2 hc
    refine lv_aload_n K.1 K.2.1 dM_sortWord_27 rfl (lv_at hL 1 rfl) ?_
    refine x_get (v := .ref (ad 5)) K hP hinM (ci := 7) rfl 0 (by decide) rfl 8 (by decide) flM_22 rfl rfl dM_sortWord_28 ?_
    refine lv_iload_n K.1 K.2.1 dM_sortWord_31 rfl (lv_at hL 0 rfl) ?_
    obtain ⟨g1, h⟩ := h
    refine x_iald K hP 5 (by decide) 0 rfl rfl g1 dM_sortWord_32 ?_
    refine lv_if_ne (tgt := 40) K.1 K.2.1 dM_sortWord_33 rfl (fun hc => ?_) (fun hc => ?_)
    · have h := h.2 hc
      exact bM_sortWord_40 K hr hZ h (lv_sub hL [] rfl) hP hS
    · have h := h.1 hc
      refine lv_iload_n K.1 K.2.1 dM_sortWord_36 rfl (lv_at hL 0 rfl) ?_
      refine lv_goto (tgt := 41) K.1 K.2.1 dM_sortWord_37 rfl ?_
      exact x_iret K hr hP hS h dM_sortWord_41
set_option maxRecDepth 100000 in
set_option maxHeartbeats 4000000 in
theorem bM_sortWord_0 {p : Program} {l : Launch} {e : Env} {s : State} {m : MethodId} {args : Array Value} {below : List Frame} {meth : Method} {c : Code} {D : va_G} {cI cJ cC cZ cR : ClassId} {ad : Nat → Nat} {A : Nat → Prop} {Zs : State → Prop} (K : Cx p (rmX 3 68) s m args meth c cM_sortWord 3 "WordCheckerModel" gT D cls8 (tys5 cI cJ cC cZ cR) 21 ad A Zs) (hr : meth.sig.returnType = (some .int)) (hZ : ZsOK A Zs) {Φ : Int32 → HI → HL → Prop} {hi : HI} {hl : HL} {H : Heap} {locs : List Loc} (h : wbM_sortWord_0 hi hl Φ) {ls : Array Slot} (hL : lv_has ls 3 [(0, .ref (ad 0))]) (hP : va_P D cls8 (wl 21 ad (GM cI cZ ad) hi hl) H) (hS : va_S A s.heap H locs) : W p l e (rmX 3 68) s m args below meth c H locs 0 0 (MQ below (va_Qi (fun r (u : HI × HL) => Φ r u.1 u.2) (fun u t => va_P D cls8 (wl 21 ad (GM cI cZ ad) u.1 u.2) t.heap) A) args s 0 0 A) (F0 m 0 ls []) := by
  unfold wbM_sortWord_0 at h
  refine lv_aload_n K.1 K.2.1 dM_sortWord_0 rfl (lv_at hL 0 rfl) ?_
  refine lv_aload_n K.1 K.2.1 dM_sortWord_1 rfl (lv_at hL 0 rfl) ?_
  refine x_get (v := .int (hi 0 5)) K hP hinM (ci := 7) rfl 0 (by decide) rfl 5 (by decide) flM_158 rfl rfl dM_sortWord_2 ?_
  refine x_cVI (As := [.int (hi 0 5)]) (rest := []) K gT_good hZ hP hS calM_number mlM_161 0 (by decide) rfl rfl (mM_number hZ K.2.2.2.2.2.2.2.1 h) ⟨Nat.le_of_ble_eq_true rfl, Nat.le_of_ble_eq_true rfl⟩ rfl hL.1 rfl (Nat.le_of_ble_eq_true rfl) dM_sortWord_5 (fun r1 hi2 hl3 H locs h hP hS => ?_)
  refine lv_istore_n (lv' := [(1, .int r1), (0, .ref (ad 0))]) K.1 K.2.1 dM_sortWord_8 rfl hL (by decide) rfl (fun ls hL => ?_)
  refine lv_iload_n K.1 K.2.1 dM_sortWord_9 rfl (lv_at hL 0 rfl) ?_
  refine lv_if_ge (tgt := 17) K.1 K.2.1 dM_sortWord_10 rfl (fun hc => ?_) (fun hc => ?_)
  · have h := h.1 hc
    refine lv_aload_n K.1 K.2.1 dM_sortWord_17 rfl (lv_at hL 1 rfl) ?_
    refine lv_iload_n K.1 K.2.1 dM_sortWord_18 rfl (lv_at hL 0 rfl) ?_
    refine x_cVI (As := [.int r1]) (rest := []) K gT_good hZ hP hS calM_lineOf mlM_165 0 (by decide) rfl rfl (mM_lineOf hZ K.2.2.2.2.2.2.2.1 h) ⟨Nat.le_of_ble_eq_true rfl, Nat.le_of_ble_eq_true rfl⟩ rfl hL.1 rfl (Nat.le_of_ble_eq_true rfl) dM_sortWord_19 (fun r4 hi5 hl6 H locs h hP hS => ?_)
    exact bM_sortWord_22 K hr hZ h (lv_sub hL [1] rfl) hP hS
  · have h := h.2 hc
    refine lv_iconst (v := -1) K.1 K.2.1 dM_sortWord_13 (by decide) ?_
    refine lv_goto (tgt := 22) K.1 K.2.1 dM_sortWord_14 rfl ?_
    exact bM_sortWord_22 K hr hZ h (lv_sub hL [1] rfl) hP hS
set_option maxRecDepth 100000 in
set_option maxHeartbeats 4000000 in
theorem mM_sortWord {l : Launch} {D : va_G} {cI cJ cC cZ cR : ClassId} {ad : Nat → Nat} {A : Nat → Prop} {Zs : State → Prop} (hZ : ZsOK A Zs) (hD : wlD 21 ad A) {hi : HI} {hl : HL} {Φ : Int32 → HI → HL → Prop} (h : wpM_sortWord hi hl Φ) : SpI l yM_sortWord cM_sortWord 3 (some .int) gT 3 68 [.ref (ad 0)] D cls8 (tys5 cI cJ cC cZ cR) 21 ad (GM cI cZ ad) A Zs hi hl Φ := by
  refine Met.ofW (cc := cM_sortWord) (maxL := 3) (ret := (some .int)) (by decide) rfl ?_
  intro p e s m args below meth c s₁ B hml hv
  obtain ⟨rfl, hP, hK, hZs⟩ := hv
  have K : Cx p (rmX 3 68) s m _ meth c cM_sortWord 3 "WordCheckerModel" gT D cls8 (tys5 cI cJ cC cZ cR) 21 ad A Zs := ⟨B.exec, B.bytes, hml, findClass_of_methodNamed B.named, fun w hw => atoms_spec B.pre w (List.mem_cons_of_mem _ hw), B.notSynchronized, hK, hD, hZs⟩
  have hL := lv_entry ([.ref (ad 0)]) (n := 3) (Nat.le_of_ble_eq_true rfl)
  rw [lg_entry_eq]
  generalize (lg_sl ([.ref (ad 0)]) ++ List.replicate (3 - (lg_sl ([.ref (ad 0)])).length) Slot.unset).toArray = ls at hL ⊢
  have hL : lv_has ls 3 [(0, .ref (ad 0))] := hL
  unfold wpM_sortWord at h
  exact bM_sortWord_0 K B.returns hZ h (lv_sub hL [0] rfl) hP va_S.rf
set_option maxRecDepth 100000 in
set_option maxHeartbeats 4000000 in
theorem bM_nodeWord_145 {p : Program} {l : Launch} {e : Env} {s : State} {m : MethodId} {args : Array Value} {below : List Frame} {meth : Method} {c : Code} {D : va_G} {cI cJ cC cZ cR : ClassId} {ad : Nat → Nat} {A : Nat → Prop} {Zs : State → Prop} (K : Cx p (rmX 3 68) s m args meth c cM_nodeWord 4 "WordCheckerModel" gT D cls8 (tys5 cI cJ cC cZ cR) 21 ad A Zs) (hr : meth.sig.returnType = (some .int)) (hZ : ZsOK A Zs) {Φ : Int32 → HI → HL → Prop} {v2 : Int32} {q0 : Int32} {hi : HI} {hl : HL} {H : Heap} {locs : List Loc} (h : wbM_nodeWord_145 v2 q0 hi hl Φ) {ls : Array Slot} (hL : lv_has ls 4 [(2, .int v2)]) (hP : va_P D cls8 (wl 21 ad (GM cI cZ ad) hi hl) H) (hS : va_S A s.heap H locs) : W p l e (rmX 3 68) s m args below meth c H locs 0 0 (MQ below (va_Qi (fun r (u : HI × HL) => Φ r u.1 u.2) (fun u t => va_P D cls8 (wl 21 ad (GM cI cZ ad) u.1 u.2) t.heap) A) args s 0 0 A) (F0 m 145 ls [.int q0]) := by
  unfold wbM_nodeWord_145 at h
  refine lv_istore_n (lv' := [(3, .int q0), (2, .int v2)]) K.1 K.2.1 dM_nodeWord_145 rfl hL (by decide) rfl (fun ls hL => ?_)
  refine lv_iload_n K.1 K.2.1 dM_nodeWord_146 rfl (lv_at hL 0 rfl) ?_
  refine lv_if_eq (tgt := 154) K.1 K.2.1 dM_nodeWord_147 rfl (fun hc => ?_) (fun hc => ?_)
  · have h := h.1 hc
    refine lv_iconst (v := -1) K.1 K.2.1 dM_nodeWord_154 (by decide) ?_
    exact x_iret K hr hP hS h dM_nodeWord_155
  · have h := h.2 hc
    refine lv_iload_n K.1 K.2.1 dM_nodeWord_150 rfl (lv_at hL 1 rfl) ?_
    refine lv_goto (tgt := 155) K.1 K.2.1 dM_nodeWord_151 rfl ?_
    exact x_iret K hr hP hS h dM_nodeWord_155
set_option maxRecDepth 100000 in
set_option maxHeartbeats 4000000 in
theorem bM_nodeWord_144 {p : Program} {l : Launch} {e : Env} {s : State} {m : MethodId} {args : Array Value} {below : List Frame} {meth : Method} {c : Code} {D : va_G} {cI cJ cC cZ cR : ClassId} {ad : Nat → Nat} {A : Nat → Prop} {Zs : State → Prop} (K : Cx p (rmX 3 68) s m args meth c cM_nodeWord 4 "WordCheckerModel" gT D cls8 (tys5 cI cJ cC cZ cR) 21 ad A Zs) (hr : meth.sig.returnType = (some .int)) (hZ : ZsOK A Zs) {Φ : Int32 → HI → HL → Prop} {v2 : Int32} {hi : HI} {hl : HL} {H : Heap} {locs : List Loc} (h : wbM_nodeWord_144 v2 hi hl Φ) {ls : Array Slot} (hL : lv_has ls 4 [(2, .int v2)]) (hP : va_P D cls8 (wl 21 ad (GM cI cZ ad) hi hl) H) (hS : va_S A s.heap H locs) : W p l e (rmX 3 68) s m args below meth c H locs 0 0 (MQ below (va_Qi (fun r (u : HI × HL) => Φ r u.1 u.2) (fun u t => va_P D cls8 (wl 21 ad (GM cI cZ ad) u.1 u.2) t.heap) A) args s 0 0 A) (F0 m 144 ls []) := by
  unfold wbM_nodeWord_144 at h
  refine lv_iconst (v := 0) K.1 K.2.1 dM_nodeWord_144 (by decide) ?_
  exact bM_nodeWord_145 K hr hZ h (lv_sub hL [0] rfl) hP hS
set_option maxRecDepth 100000 in
set_option maxHeartbeats 4000000 in
theorem bM_nodeWord_140 {p : Program} {l : Launch} {e : Env} {s : State} {m : MethodId} {args : Array Value} {below : List Frame} {meth : Method} {c : Code} {D : va_G} {cI cJ cC cZ cR : ClassId} {ad : Nat → Nat} {A : Nat → Prop} {Zs : State → Prop} (K : Cx p (rmX 3 68) s m args meth c cM_nodeWord 4 "WordCheckerModel" gT D cls8 (tys5 cI cJ cC cZ cR) 21 ad A Zs) (hr : meth.sig.returnType = (some .int)) (hZ : ZsOK A Zs) {Φ : Int32 → HI → HL → Prop} {v2 : Int32} {hi : HI} {hl : HL} {H : Heap} {locs : List Loc} (h : wbM_nodeWord_140 v2 hi hl Φ) {ls : Array Slot} (hL : lv_has ls 4 [(2, .int v2)]) (hP : va_P D cls8 (wl 21 ad (GM cI cZ ad) hi hl) H) (hS : va_S A s.heap H locs) : W p l e (rmX 3 68) s m args below meth c H locs 0 0 (MQ below (va_Qi (fun r (u : HI × HL) => Φ r u.1 u.2) (fun u t => va_P D cls8 (wl 21 ad (GM cI cZ ad) u.1 u.2) t.heap) A) args s 0 0 A) (F0 m 140 ls []) := by
  unfold wbM_nodeWord_140 at h
  refine lv_iconst (v := 1) K.1 K.2.1 dM_nodeWord_140 (by decide) ?_
  refine lv_goto (tgt := 145) K.1 K.2.1 dM_nodeWord_141 rfl ?_
  exact bM_nodeWord_145 K hr hZ h (lv_sub hL [0] rfl) hP hS
set_option maxRecDepth 100000 in
set_option maxHeartbeats 4000000 in
theorem bM_nodeWord_110 {p : Program} {l : Launch} {e : Env} {s : State} {m : MethodId} {args : Array Value} {below : List Frame} {meth : Method} {c : Code} {D : va_G} {cI cJ cC cZ cR : ClassId} {ad : Nat → Nat} {A : Nat → Prop} {Zs : State → Prop} (K : Cx p (rmX 3 68) s m args meth c cM_nodeWord 4 "WordCheckerModel" gT D cls8 (tys5 cI cJ cC cZ cR) 21 ad A Zs) (hr : meth.sig.returnType = (some .int)) (hZ : ZsOK A Zs) {Φ : Int32 → HI → HL → Prop} {q0 : Int32} {hi : HI} {hl : HL} {H : Heap} {locs : List Loc} (h : wbM_nodeWord_110 q0 hi hl Φ) {ls : Array Slot} (hL : lv_has ls 4 [(0, .ref (ad 0))]) (hP : va_P D cls8 (wl 21 ad (GM cI cZ ad) hi hl) H) (hS : va_S A s.heap H locs) : W p l e (rmX 3 68) s m args below meth c H locs 0 0 (MQ below (va_Qi (fun r (u : HI × HL) => Φ r u.1 u.2) (fun u t => va_P D cls8 (wl 21 ad (GM cI cZ ad) u.1 u.2) t.heap) A) args s 0 0 A) (F0 m 110 ls [.int q0]) := by
  unfold wbM_nodeWord_110 at h
  refine lv_istore_n (lv' := [(2, .int q0), (0, .ref (ad 0))]) K.1 K.2.1 dM_nodeWord_110 rfl hL (by decide) rfl (fun ls hL => ?_)
  refine lv_aload_n K.1 K.2.1 dM_nodeWord_111 rfl (lv_at hL 1 rfl) ?_
  refine lv_iload_n K.1 K.2.1 dM_nodeWord_112 rfl (lv_at hL 0 rfl) ?_
  refine x_cVI (As := [.int q0]) (rest := []) K gT_good hZ hP hS calM_isNode mlM_172 0 (by decide) rfl rfl (mM_isNode hZ K.2.2.2.2.2.2.2.1 h) ⟨Nat.le_of_ble_eq_true rfl, Nat.le_of_ble_eq_true rfl⟩ rfl hL.1 rfl (Nat.le_of_ble_eq_true rfl) dM_nodeWord_113 (fun r1 hi2 hl3 H locs h hP hS => ?_)
  refine lv_if_eq (tgt := 144) K.1 K.2.1 dM_nodeWord_116 rfl (fun hc => ?_) (fun hc => ?_)
  · have h := h.1 hc
    exact bM_nodeWord_144 K hr hZ h (lv_sub hL [0] rfl) hP hS
  · have h := h.2 hc
    refine lv_aload_n K.1 K.2.1 dM_nodeWord_119 rfl (lv_at hL 1 rfl) ?_
    refine x_get (v := .int (hi2 0 20)) K hP hinM (ci := 7) rfl 0 (by decide) rfl 20 (by decide) flM_168 rfl rfl dM_nodeWord_120 ?_
    refine lv_if_eq (tgt := 140) K.1 K.2.1 dM_nodeWord_123 rfl (fun hc => ?_) (fun hc => ?_)
    · have h := h.1 hc
      exact bM_nodeWord_140 K hr hZ h (lv_sub hL [0] rfl) hP hS
    · have h := h.2 hc
      refine lv_aload_n K.1 K.2.1 dM_nodeWord_126 rfl (lv_at hL 1 rfl) ?_
      refine x_get (v := .ref (ad 15)) K hP hinM (ci := 7) rfl 0 (by decide) rfl 18 (by decide) flM_53 rfl rfl dM_nodeWord_127 ?_
      refine lv_aload_n K.1 K.2.1 dM_nodeWord_130 rfl (lv_at hL 1 rfl) ?_
      refine x_get (v := .ref (ad 6)) K hP hinM (ci := 7) rfl 0 (by decide) rfl 9 (by decide) flM_25 rfl rfl dM_nodeWord_131 ?_
      refine lv_iload_n K.1 K.2.1 dM_nodeWord_134 rfl (lv_at hL 0 rfl) ?_
      obtain ⟨g4, h⟩ := h
      refine x_iald K hP 6 (by decide) 0 rfl rfl g4 dM_nodeWord_135 ?_
      obtain ⟨g5, h⟩ := h
      refine x_zald K hP 15 (by decide) 3 rfl rfl g5 dM_nodeWord_136 ?_
      refine lv_if_ne (tgt := 144) K.1 K.2.1 dM_nodeWord_137 rfl (fun hc => ?_) (fun hc => ?_)
      · have h := h.2 hc
        exact bM_nodeWord_144 K hr hZ h (lv_sub hL [0] rfl) hP hS
      · have h := h.1 hc
        exact bM_nodeWord_140 K hr hZ h (lv_sub hL [0] rfl) hP hS
set_option maxRecDepth 100000 in
set_option maxHeartbeats 4000000 in
theorem bM_nodeWord_96 {p : Program} {l : Launch} {e : Env} {s : State} {m : MethodId} {args : Array Value} {below : List Frame} {meth : Method} {c : Code} {D : va_G} {cI cJ cC cZ cR : ClassId} {ad : Nat → Nat} {A : Nat → Prop} {Zs : State → Prop} (K : Cx p (rmX 3 68) s m args meth c cM_nodeWord 4 "WordCheckerModel" gT D cls8 (tys5 cI cJ cC cZ cR) 21 ad A Zs) (hr : meth.sig.returnType = (some .int)) (hZ : ZsOK A Zs) {Φ : Int32 → HI → HL → Prop} {q0 : Int32} {hi : HI} {hl : HL} {H : Heap} {locs : List Loc} (h : wbM_nodeWord_96 q0 hi hl Φ) {ls : Array Slot} (hL : lv_has ls 4 [(0, .ref (ad 0))]) (hP : va_P D cls8 (wl 21 ad (GM cI cZ ad) hi hl) H) (hS : va_S A s.heap H locs) : W p l e (rmX 3 68) s m args below meth c H locs 0 0 (MQ below (va_Qi (fun r (u : HI × HL) => Φ r u.1 u.2) (fun u t => va_P D cls8 (wl 21 ad (GM cI cZ ad) u.1 u.2) t.heap) A) args s 0 0 A) (F0 m 96 ls [.int q0]) := by
  unfold wbM_nodeWord_96 at h
  refine lv_istore_n (lv' := [(1, .int q0), (0, .ref (ad 0))]) K.1 K.2.1 dM_nodeWord_96 rfl hL (by decide) rfl (fun ls hL => ?_)
  refine lv_iload_n K.1 K.2.1 dM_nodeWord_97 rfl (lv_at hL 0 rfl) ?_
  refine lv_if_ge (tgt := 105) K.1 K.2.1 dM_nodeWord_98 rfl (fun hc => ?_) (fun hc => ?_)
  · have h := h.1 hc
    refine lv_aload_n K.1 K.2.1 dM_nodeWord_105 rfl (lv_at hL 1 rfl) ?_
    refine lv_iload_n K.1 K.2.1 dM_nodeWord_106 rfl (lv_at hL 0 rfl) ?_
    refine x_cVI (As := [.int q0]) (rest := []) K gT_good hZ hP hS calM_lineOf mlM_165 0 (by decide) rfl rfl (mM_lineOf hZ K.2.2.2.2.2.2.2.1 h) ⟨Nat.le_of_ble_eq_true rfl, Nat.le_of_ble_eq_true rfl⟩ rfl hL.1 rfl (Nat.le_of_ble_eq_true rfl) dM_nodeWord_107 (fun r1 hi2 hl3 H locs h hP hS => ?_)
    exact bM_nodeWord_110 K hr hZ h (lv_sub hL [1] rfl) hP hS
  · have h := h.2 hc
    refine lv_iconst (v := -1) K.1 K.2.1 dM_nodeWord_101 (by decide) ?_
    refine lv_goto (tgt := 110) K.1 K.2.1 dM_nodeWord_102 rfl ?_
    exact bM_nodeWord_110 K hr hZ h (lv_sub hL [1] rfl) hP hS
set_option maxRecDepth 100000 in
set_option maxHeartbeats 4000000 in
theorem bM_nodeWord_36 {p : Program} {l : Launch} {e : Env} {s : State} {m : MethodId} {args : Array Value} {below : List Frame} {meth : Method} {c : Code} {D : va_G} {cI cJ cC cZ cR : ClassId} {ad : Nat → Nat} {A : Nat → Prop} {Zs : State → Prop} (K : Cx p (rmX 3 68) s m args meth c cM_nodeWord 4 "WordCheckerModel" gT D cls8 (tys5 cI cJ cC cZ cR) 21 ad A Zs) (hr : meth.sig.returnType = (some .int)) (hZ : ZsOK A Zs) {Φ : Int32 → HI → HL → Prop} {q1 : Int32} {hi : HI} {hl : HL} {H : Heap} {locs : List Loc} (h : wbM_nodeWord_36 q1 hi hl Φ) {ls : Array Slot} (hL : lv_has ls 4 [(0, .ref (ad 0))]) (hP : va_P D cls8 (wl 21 ad (GM cI cZ ad) hi hl) H) (hS : va_S A s.heap H locs) : W p l e (rmX 3 68) s m args below meth c H locs 0 0 (MQ below (va_Qi (fun r (u : HI × HL) => Φ r u.1 u.2) (fun u t => va_P D cls8 (wl 21 ad (GM cI cZ ad) u.1 u.2) t.heap) A) args s 0 0 A) (F0 m 36 ls [.int q1, .ref (ad 0)]) := by
  unfold wbM_nodeWord_36 at h
  obtain ⟨g1, h⟩ := h
  refine x_put (v := .int q1) K hP hS hinM tyM tyM_ok nmM (ci := 7) rfl 0 (by decide) rfl 20 (by decide) flM_168 rfl rfl q1 rfl g1.nar g1.fit (Nat.le_of_ble_eq_true rfl) dM_nodeWord_36 (fun H locs hP hS => ?_)
  refine lv_aload_n K.1 K.2.1 dM_nodeWord_39 rfl (lv_at hL 0 rfl) ?_
  refine x_get (v := .int ((u2 hi 0 20 q1) 0 5)) K hP hinM (ci := 7) rfl 0 (by decide) rfl 5 (by decide) flM_158 rfl rfl dM_nodeWord_40 ?_
  refine lv_aload_n K.1 K.2.1 dM_nodeWord_43 rfl (lv_at hL 0 rfl) ?_
  refine x_get (v := .int ((u2 hi 0 20 q1) 0 2)) K hP hinM (ci := 7) rfl 0 (by decide) rfl 2 (by decide) flM_82 rfl rfl dM_nodeWord_44 ?_
  refine lv_icmp_lt (tgt := 54) K.1 K.2.1 dM_nodeWord_47 rfl (fun hc => ?_) (fun hc => ?_)
  · have h := h.1 hc
    refine lv_aload_n K.1 K.2.1 dM_nodeWord_54 rfl (lv_at hL 0 rfl) ?_
    refine x_get (v := .int ((u2 hi 0 20 q1) 0 20)) K hP hinM (ci := 7) rfl 0 (by decide) rfl 20 (by decide) flM_168 rfl rfl dM_nodeWord_55 ?_
    refine lv_if_eq (tgt := 88) K.1 K.2.1 dM_nodeWord_58 rfl (fun hc => ?_) (fun hc => ?_)
    · have h := h.1 hc
      refine lv_aload_n K.1 K.2.1 dM_nodeWord_88 rfl (lv_at hL 0 rfl) ?_
      refine lv_aload_n K.1 K.2.1 dM_nodeWord_89 rfl (lv_at hL 0 rfl) ?_
      refine x_get (v := .int ((u2 hi 0 20 q1) 0 5)) K hP hinM (ci := 7) rfl 0 (by decide) rfl 5 (by decide) flM_158 rfl rfl dM_nodeWord_90 ?_
      refine x_cVI (As := [.int ((u2 hi 0 20 q1) 0 5)]) (rest := []) K gT_good hZ hP hS calM_number mlM_161 0 (by decide) rfl rfl (mM_number hZ K.2.2.2.2.2.2.2.1 h) ⟨Nat.le_of_ble_eq_true rfl, Nat.le_of_ble_eq_true rfl⟩ rfl hL.1 rfl (Nat.le_of_ble_eq_true rfl) dM_nodeWord_93 (fun r2 hi3 hl4 H locs h hP hS => ?_)
      exact bM_nodeWord_96 K hr hZ h (lv_sub hL [0] rfl) hP hS
    · have h := h.2 hc
      refine lv_aload_n K.1 K.2.1 dM_nodeWord_61 rfl (lv_at hL 0 rfl) ?_
      refine lv_aload_n K.1 K.2.1 dM_nodeWord_62 rfl (lv_at hL 0 rfl) ?_
      refine x_get (v := .ref (ad 2)) K hP hinM (ci := 7) rfl 0 (by decide) rfl 3 (by decide) flM_13 rfl rfl dM_nodeWord_63 ?_
      refine lv_aload_n K.1 K.2.1 dM_nodeWord_66 rfl (lv_at hL 0 rfl) ?_
      refine x_get (v := .int ((u2 hi 0 20 q1) 0 5)) K hP hinM (ci := 7) rfl 0 (by decide) rfl 5 (by decide) flM_158 rfl rfl dM_nodeWord_67 ?_
      obtain ⟨g5, h⟩ := h
      refine x_iald K hP 2 (by decide) 0 rfl rfl g5 dM_nodeWord_70 ?_
      refine lv_iconst (v := 1) K.1 K.2.1 dM_nodeWord_71 (by decide) ?_
      refine lv_iadd K.1 K.2.1 dM_nodeWord_72 ?_
      refine lv_aload_n K.1 K.2.1 dM_nodeWord_73 rfl (lv_at hL 0 rfl) ?_
      refine x_get (v := .ref (ad 3)) K hP hinM (ci := 7) rfl 0 (by decide) rfl 4 (by decide) flM_16 rfl rfl dM_nodeWord_74 ?_
      refine lv_aload_n K.1 K.2.1 dM_nodeWord_77 rfl (lv_at hL 0 rfl) ?_
      refine x_get (v := .int ((u2 hi 0 20 q1) 0 5)) K hP hinM (ci := 7) rfl 0 (by decide) rfl 5 (by decide) flM_158 rfl rfl dM_nodeWord_78 ?_
      obtain ⟨g6, h⟩ := h
      refine x_iald K hP 3 (by decide) 0 rfl rfl g6 dM_nodeWord_81 ?_
      refine x_cVI (As := [.int (((u2 hi 0 20 q1) 2 (((u2 hi 0 20 q1) 0 5).toNatClampNeg)) + (1 : Int32)), .int ((u2 hi 0 20 q1) 3 (((u2 hi 0 20 q1) 0 5).toNatClampNeg))]) (rest := []) K gT_good hZ hP hS calM_digits mlM_85 0 (by decide) rfl rfl (mM_digits hZ K.2.2.2.2.2.2.2.1 h) ⟨Nat.le_of_ble_eq_true rfl, Nat.le_of_ble_eq_true rfl⟩ rfl hL.1 rfl (Nat.le_of_ble_eq_true rfl) dM_nodeWord_82 (fun r7 hi8 hl9 H locs h hP hS => ?_)
      refine lv_goto (tgt := 96) K.1 K.2.1 dM_nodeWord_85 rfl ?_
      exact bM_nodeWord_96 K hr hZ h (lv_sub hL [0] rfl) hP hS
  · have h := h.2 hc
    refine lv_iconst (v := -1) K.1 K.2.1 dM_nodeWord_50 (by decide) ?_
    refine lv_goto (tgt := 96) K.1 K.2.1 dM_nodeWord_51 rfl ?_
    exact bM_nodeWord_96 K hr hZ h (lv_sub hL [0] rfl) hP hS
set_option maxRecDepth 100000 in
set_option maxHeartbeats 4000000 in
theorem bM_nodeWord_35 {p : Program} {l : Launch} {e : Env} {s : State} {m : MethodId} {args : Array Value} {below : List Frame} {meth : Method} {c : Code} {D : va_G} {cI cJ cC cZ cR : ClassId} {ad : Nat → Nat} {A : Nat → Prop} {Zs : State → Prop} (K : Cx p (rmX 3 68) s m args meth c cM_nodeWord 4 "WordCheckerModel" gT D cls8 (tys5 cI cJ cC cZ cR) 21 ad A Zs) (hr : meth.sig.returnType = (some .int)) (hZ : ZsOK A Zs) {Φ : Int32 → HI → HL → Prop} {hi : HI} {hl : HL} {H : Heap} {locs : List Loc} (h : wbM_nodeWord_35 hi hl Φ) {ls : Array Slot} (hL : lv_has ls 4 [(0, .ref (ad 0))]) (hP : va_P D cls8 (wl 21 ad (GM cI cZ ad) hi hl) H) (hS : va_S A s.heap H locs) : W p l e (rmX 3 68) s m args below meth c H locs 0 0 (MQ below (va_Qi (fun r (u : HI × HL) => Φ r u.1 u.2) (fun u t => va_P D cls8 (wl 21 ad (GM cI cZ ad) u.1 u.2) t.heap) A) args s 0 0 A) (F0 m 35 ls [.ref (ad 0)]) := by
  unfold wbM_nodeWord_35 at h
  refine lv_iconst (v := 0) K.1 K.2.1 dM_nodeWord_35 (by decide) ?_
  exact bM_nodeWord_36 K hr hZ h (lv_sub hL [0] rfl) hP hS
set_option maxRecDepth 100000 in
set_option maxHeartbeats 4000000 in
theorem bM_nodeWord_0 {p : Program} {l : Launch} {e : Env} {s : State} {m : MethodId} {args : Array Value} {below : List Frame} {meth : Method} {c : Code} {D : va_G} {cI cJ cC cZ cR : ClassId} {ad : Nat → Nat} {A : Nat → Prop} {Zs : State → Prop} (K : Cx p (rmX 3 68) s m args meth c cM_nodeWord 4 "WordCheckerModel" gT D cls8 (tys5 cI cJ cC cZ cR) 21 ad A Zs) (hr : meth.sig.returnType = (some .int)) (hZ : ZsOK A Zs) {Φ : Int32 → HI → HL → Prop} {hi : HI} {hl : HL} {H : Heap} {locs : List Loc} (h : wbM_nodeWord_0 hi hl Φ) {ls : Array Slot} (hL : lv_has ls 4 [(0, .ref (ad 0))]) (hP : va_P D cls8 (wl 21 ad (GM cI cZ ad) hi hl) H) (hS : va_S A s.heap H locs) : W p l e (rmX 3 68) s m args below meth c H locs 0 0 (MQ below (va_Qi (fun r (u : HI × HL) => Φ r u.1 u.2) (fun u t => va_P D cls8 (wl 21 ad (GM cI cZ ad) u.1 u.2) t.heap) A) args s 0 0 A) (F0 m 0 ls []) := by
  unfold wbM_nodeWord_0 at h
  refine lv_aload_n K.1 K.2.1 dM_nodeWord_0 rfl (lv_at hL 0 rfl) ?_
  refine lv_aload_n K.1 K.2.1 dM_nodeWord_1 rfl (lv_at hL 0 rfl) ?_
  refine x_get (v := .int (hi 0 5)) K hP hinM (ci := 7) rfl 0 (by decide) rfl 5 (by decide) flM_158 rfl rfl dM_nodeWord_2 ?_
  refine lv_aload_n K.1 K.2.1 dM_nodeWord_5 rfl (lv_at hL 0 rfl) ?_
  refine x_get (v := .int (hi 0 2)) K hP hinM (ci := 7) rfl 0 (by decide) rfl 2 (by decide) flM_82 rfl rfl dM_nodeWord_6 ?_
  refine lv_icmp_ge (tgt := 35) K.1 K.2.1 dM_nodeWord_9 rfl (fun hc => ?_) (fun hc => ?_)
  · have h := h.1 hc
    exact bM_nodeWord_35 K hr hZ h (lv_sub hL [0] rfl) hP hS
  · have h := h.2 hc
    refine lv_aload_n K.1 K.2.1 dM_nodeWord_12 rfl (lv_at hL 0 rfl) ?_
    refine x_get (v := .ref (ad 1)) K hP hinM (ci := 7) rfl 0 (by decide) rfl 0 (by decide) flM_7 rfl rfl dM_nodeWord_13 ?_
    refine lv_aload_n K.1 K.2.1 dM_nodeWord_16 rfl (lv_at hL 0 rfl) ?_
    refine x_get (v := .ref (ad 2)) K hP hinM (ci := 7) rfl 0 (by decide) rfl 3 (by decide) flM_13 rfl rfl dM_nodeWord_17 ?_
    refine lv_aload_n K.1 K.2.1 dM_nodeWord_20 rfl (lv_at hL 0 rfl) ?_
    refine x_get (v := .int (hi 0 5)) K hP hinM (ci := 7) rfl 0 (by decide) rfl 5 (by decide) flM_158 rfl rfl dM_nodeWord_21 ?_
    obtain ⟨g1, h⟩ := h
    refine x_iald K hP 2 (by decide) 0 rfl rfl g1 dM_nodeWord_24 ?_
    obtain ⟨g2, h⟩ := h
    refine x_iald K hP 1 (by decide) 0 rfl rfl g2 dM_nodeWord_25 ?_
    refine lv_bipush (v := 45) K.1 K.2.1 dM_nodeWord_26 (by decide) ?_
    refine lv_icmp_ne (tgt := 35) K.1 K.2.1 dM_nodeWord_28 rfl (fun hc => ?_) (fun hc => ?_)
    · have h := h.2 hc
      exact bM_nodeWord_35 K hr hZ h (lv_sub hL [0] rfl) hP hS
    · have h := h.1 hc
      refine lv_iconst (v := 1) K.1 K.2.1 dM_nodeWord_31 (by decide) ?_
      refine lv_goto (tgt := 36) K.1 K.2.1 dM_nodeWord_32 rfl ?_
      exact bM_nodeWord_36 K hr hZ h (lv_sub hL [0] rfl) hP hS
set_option maxRecDepth 100000 in
set_option maxHeartbeats 4000000 in
theorem mM_nodeWord {l : Launch} {D : va_G} {cI cJ cC cZ cR : ClassId} {ad : Nat → Nat} {A : Nat → Prop} {Zs : State → Prop} (hZ : ZsOK A Zs) (hD : wlD 21 ad A) {hi : HI} {hl : HL} {Φ : Int32 → HI → HL → Prop} (h : wpM_nodeWord hi hl Φ) : SpI l yM_nodeWord cM_nodeWord 4 (some .int) gT 3 68 [.ref (ad 0)] D cls8 (tys5 cI cJ cC cZ cR) 21 ad (GM cI cZ ad) A Zs hi hl Φ := by
  refine Met.ofW (cc := cM_nodeWord) (maxL := 4) (ret := (some .int)) (by decide) rfl ?_
  intro p e s m args below meth c s₁ B hml hv
  obtain ⟨rfl, hP, hK, hZs⟩ := hv
  have K : Cx p (rmX 3 68) s m _ meth c cM_nodeWord 4 "WordCheckerModel" gT D cls8 (tys5 cI cJ cC cZ cR) 21 ad A Zs := ⟨B.exec, B.bytes, hml, findClass_of_methodNamed B.named, fun w hw => atoms_spec B.pre w (List.mem_cons_of_mem _ hw), B.notSynchronized, hK, hD, hZs⟩
  have hL := lv_entry ([.ref (ad 0)]) (n := 4) (Nat.le_of_ble_eq_true rfl)
  rw [lg_entry_eq]
  generalize (lg_sl ([.ref (ad 0)]) ++ List.replicate (4 - (lg_sl ([.ref (ad 0)])).length) Slot.unset).toArray = ls at hL ⊢
  have hL : lv_has ls 4 [(0, .ref (ad 0))] := hL
  unfold wpM_nodeWord at h
  exact bM_nodeWord_0 K B.returns hZ h (lv_sub hL [0] rfl) hP va_S.rf
set_option maxRecDepth 100000 in
set_option maxHeartbeats 4000000 in
theorem bM_on_0 {p : Program} {l : Launch} {e : Env} {s : State} {m : MethodId} {args : Array Value} {below : List Frame} {meth : Method} {c : Code} {D : va_G} {cI cJ cC cZ cR : ClassId} {ad : Nat → Nat} {A : Nat → Prop} {Zs : State → Prop} (K : Cx p (rmX 0 0) s m args meth c cM_on 2 "WordCheckerModel" gT D cls8 (tys5 cI cJ cC cZ cR) 21 ad A Zs) (hr : meth.sig.returnType = (some .boolean)) (hZ : ZsOK A Zs) {Φ : Int32 → HI → HL → Prop} {v1 : Int32} {hi : HI} {hl : HL} {H : Heap} {locs : List Loc} (h : wbM_on_0 v1 hi hl Φ) {ls : Array Slot} (hL : lv_has ls 2 [(0, .ref (ad 0)), (1, .int v1)]) (hP : va_P D cls8 (wl 21 ad (GM cI cZ ad) hi hl) H) (hS : va_S A s.heap H locs) : W p l e (rmX 0 0) s m args below meth c H locs 0 0 (MQ below (va_Qi (fun r (u : HI × HL) => Φ r u.1 u.2) (fun u t => va_P D cls8 (wl 21 ad (GM cI cZ ad) u.1 u.2) t.heap) A) args s 0 0 A) (F0 m 0 ls []) := by
  unfold wbM_on_0 at h
  refine lv_aload_n K.1 K.2.1 dM_on_0 rfl (lv_at hL 0 rfl) ?_
  refine lv_iload_n K.1 K.2.1 dM_on_1 rfl (lv_at hL 1 rfl) ?_
  refine lv_if_eq (tgt := 14) K.1 K.2.1 dM_on_2 rfl (fun hc => ?_) (fun hc => ?_)
  · have h := h.1 hc
    refine lv_aload_n K.1 K.2.1 dM_on_14 rfl (lv_at hL 0 rfl) ?_
    refine x_get (v := .int (hi 0 5)) K hP hinM (ci := 7) rfl 0 (by decide) rfl 5 (by decide) flM_158 rfl rfl dM_on_15 ?_
    refine x_put (v := .int (hi 0 5)) K hP hS hinM tyM tyM_ok nmM (ci := 7) rfl 0 (by decide) rfl 5 (by decide) flM_158 rfl rfl (hi 0 5) rfl rfl rfl (Nat.le_of_ble_eq_true rfl) dM_on_18 (fun H locs hP hS => ?_)
    refine lv_iload_n K.1 K.2.1 dM_on_21 rfl (lv_at hL 1 rfl) ?_
    obtain ⟨g1, h⟩ := h
    exact x_zret K hr hP hS g1 h dM_on_22
  · have h := h.2 hc
    refine lv_aload_n K.1 K.2.1 dM_on_5 rfl (lv_at hL 0 rfl) ?_
    refine x_get (v := .int (hi 0 5)) K hP hinM (ci := 7) rfl 0 (by decide) rfl 5 (by decide) flM_158 rfl rfl dM_on_6 ?_
    refine lv_iconst (v := 1) K.1 K.2.1 dM_on_9 (by decide) ?_
    refine lv_iadd K.1 K.2.1 dM_on_10 ?_
    refine lv_goto (tgt := 18) K.1 K.2.1 dM_on_11 rfl ?_
    refine x_put (v := .int ((hi 0 5) + (1 : Int32))) K hP hS hinM tyM tyM_ok nmM (ci := 7) rfl 0 (by decide) rfl 5 (by decide) flM_158 rfl rfl ((hi 0 5) + (1 : Int32)) rfl rfl rfl (Nat.le_of_ble_eq_true rfl) dM_on_18 (fun H locs hP hS => ?_)
    refine lv_iload_n K.1 K.2.1 dM_on_21 rfl (lv_at hL 1 rfl) ?_
    obtain ⟨g2, h⟩ := h
    exact x_zret K hr hP hS g2 h dM_on_22
set_option maxRecDepth 100000 in
set_option maxHeartbeats 4000000 in
theorem mM_on {l : Launch} {D : va_G} {cI cJ cC cZ cR : ClassId} {ad : Nat → Nat} {A : Nat → Prop} {Zs : State → Prop} (hZ : ZsOK A Zs) (hD : wlD 21 ad A) {v1 : Int32} {hi : HI} {hl : HL} {Φ : Int32 → HI → HL → Prop} (h : wpM_on v1 hi hl Φ) : SpI l yM_on cM_on 2 (some .boolean) gT 0 0 [.ref (ad 0), .int v1] D cls8 (tys5 cI cJ cC cZ cR) 21 ad (GM cI cZ ad) A Zs hi hl Φ := by
  refine Met.ofW (cc := cM_on) (maxL := 2) (ret := (some .boolean)) (by decide) rfl ?_
  intro p e s m args below meth c s₁ B hml hv
  obtain ⟨rfl, hP, hK, hZs⟩ := hv
  have K : Cx p (rmX 0 0) s m _ meth c cM_on 2 "WordCheckerModel" gT D cls8 (tys5 cI cJ cC cZ cR) 21 ad A Zs := ⟨B.exec, B.bytes, hml, findClass_of_methodNamed B.named, fun w hw => atoms_spec B.pre w (List.mem_cons_of_mem _ hw), B.notSynchronized, hK, hD, hZs⟩
  have hL := lv_entry ([.ref (ad 0), .int v1]) (n := 2) (Nat.le_of_ble_eq_true rfl)
  rw [lg_entry_eq]
  generalize (lg_sl ([.ref (ad 0), .int v1]) ++ List.replicate (2 - (lg_sl ([.ref (ad 0), .int v1])).length) Slot.unset).toArray = ls at hL ⊢
  have hL : lv_has ls 2 [(0, .ref (ad 0)), (1, .int v1)] := hL
  unfold wpM_on at h
  exact bM_on_0 K B.returns hZ h (lv_sub hL [0, 1] rfl) hP va_S.rf
set_option maxRecDepth 100000 in
set_option maxHeartbeats 4000000 in
theorem bM_readA_55 {p : Program} {l : Launch} {e : Env} {s : State} {m : MethodId} {args : Array Value} {below : List Frame} {meth : Method} {c : Code} {D : va_G} {cI cJ cC cZ cR : ClassId} {ad : Nat → Nat} {A : Nat → Prop} {Zs : State → Prop} (K : Cx p (rmX 4 91) s m args meth c cM_readA 4 "WordCheckerModel" gT D cls8 (tys5 cI cJ cC cZ cR) 21 ad A Zs) (hr : meth.sig.returnType = (some .boolean)) (hZ : ZsOK A Zs) {Φ : Int32 → HI → HL → Prop} {hi : HI} {hl : HL} {H : Heap} {locs : List Loc} (h : wbM_readA_55 hi hl Φ) {ls : Array Slot} (hL : lv_has ls 4 []) (hP : va_P D cls8 (wl 21 ad (GM cI cZ ad) hi hl) H) (hS : va_S A s.heap H locs) : W p l e (rmX 4 91) s m args below meth c H locs 0 0 (MQ below (va_Qi (fun r (u : HI × HL) => Φ r u.1 u.2) (fun u t => va_P D cls8 (wl 21 ad (GM cI cZ ad) u.1 u.2) t.heap) A) args s 0 0 A) (F0 m 55 ls [.ref (ad 0)]) := by
  unfold wbM_readA_55 at h
  refine lv_iconst (v := 0) K.1 K.2.1 dM_readA_55 (by decide) ?_
  refine x_cVI (As := [.int (0 : Int32)]) (rest := []) K gT_good hZ hP hS calM_on mlM_184 0 (by decide) rfl rfl (mM_on hZ K.2.2.2.2.2.2.2.1 h) ⟨Nat.le_of_ble_eq_true rfl, Nat.le_of_ble_eq_true rfl⟩ rfl hL.1 rfl (Nat.le_of_ble_eq_true rfl) dM_readA_56 (fun r1 hi2 hl3 H locs h hP hS => ?_)
  obtain ⟨g4, h⟩ := h
  exact x_zret K hr hP hS g4 h dM_readA_59
set_option maxRecDepth 100000 in
set_option maxHeartbeats 4000000 in
theorem bM_readA_51 {p : Program} {l : Launch} {e : Env} {s : State} {m : MethodId} {args : Array Value} {below : List Frame} {meth : Method} {c : Code} {D : va_G} {cI cJ cC cZ cR : ClassId} {ad : Nat → Nat} {A : Nat → Prop} {Zs : State → Prop} (K : Cx p (rmX 4 91) s m args meth c cM_readA 4 "WordCheckerModel" gT D cls8 (tys5 cI cJ cC cZ cR) 21 ad A Zs) (hr : meth.sig.returnType = (some .boolean)) (hZ : ZsOK A Zs) {Φ : Int32 → HI → HL → Prop} {hi : HI} {hl : HL} {H : Heap} {locs : List Loc} (h : wbM_readA_51 hi hl Φ) {ls : Array Slot} (hL : lv_has ls 4 []) (hP : va_P D cls8 (wl 21 ad (GM cI cZ ad) hi hl) H) (hS : va_S A s.heap H locs) : W p l e (rmX 4 91) s m args below meth c H locs 0 0 (MQ below (va_Qi (fun r (u : HI × HL) => Φ r u.1 u.2) (fun u t => va_P D cls8 (wl 21 ad (GM cI cZ ad) u.1 u.2) t.heap) A) args s 0 0 A) (F0 m 51 ls [.ref (ad 0)]) := by
  unfold wbM_readA_51 at h
  refine lv_iconst (v := 1) K.1 K.2.1 dM_readA_51 (by decide) ?_
  refine lv_goto (tgt := 56) K.1 K.2.1 dM_readA_52 rfl ?_
  refine x_cVI (As := [.int (1 : Int32)]) (rest := []) K gT_good hZ hP hS calM_on mlM_184 0 (by decide) rfl rfl (mM_on hZ K.2.2.2.2.2.2.2.1 h) ⟨Nat.le_of_ble_eq_true rfl, Nat.le_of_ble_eq_true rfl⟩ rfl hL.1 rfl (Nat.le_of_ble_eq_true rfl) dM_readA_56 (fun r1 hi2 hl3 H locs h hP hS => ?_)
  obtain ⟨g4, h⟩ := h
  exact x_zret K hr hP hS g4 h dM_readA_59
set_option maxRecDepth 100000 in
set_option maxHeartbeats 4000000 in
theorem bM_readA_0 {p : Program} {l : Launch} {e : Env} {s : State} {m : MethodId} {args : Array Value} {below : List Frame} {meth : Method} {c : Code} {D : va_G} {cI cJ cC cZ cR : ClassId} {ad : Nat → Nat} {A : Nat → Prop} {Zs : State → Prop} (K : Cx p (rmX 4 91) s m args meth c cM_readA 4 "WordCheckerModel" gT D cls8 (tys5 cI cJ cC cZ cR) 21 ad A Zs) (hr : meth.sig.returnType = (some .boolean)) (hZ : ZsOK A Zs) {Φ : Int32 → HI → HL → Prop} {v1 : Int32} {v2 : Int32} {hi : HI} {hl : HL} {H : Heap} {locs : List Loc} (h : wbM_readA_0 v1 v2 hi hl Φ) {ls : Array Slot} (hL : lv_has ls 4 [(0, .ref (ad 0)), (1, .int v1), (2, .int v2)]) (hP : va_P D cls8 (wl 21 ad (GM cI cZ ad) hi hl) H) (hS : va_S A s.heap H locs) : W p l e (rmX 4 91) s m args below meth c H locs 0 0 (MQ below (va_Qi (fun r (u : HI × HL) => Φ r u.1 u.2) (fun u t => va_P D cls8 (wl 21 ad (GM cI cZ ad) u.1 u.2) t.heap) A) args s 0 0 A) (F0 m 0 ls []) := by
  unfold wbM_readA_0 at h
  refine lv_aload_n K.1 K.2.1 dM_readA_0 rfl (lv_at hL 0 rfl) ?_
  refine x_cVI (As := []) (rest := []) K gT_good hZ hP hS calM_nodeWord mlM_176 0 (by decide) rfl rfl (mM_nodeWord hZ K.2.2.2.2.2.2.2.1 h) ⟨Nat.le_of_ble_eq_true rfl, Nat.le_of_ble_eq_true rfl⟩ rfl hL.1 rfl (Nat.le_of_ble_eq_true rfl) dM_readA_1 (fun r1 hi2 hl3 H locs h hP hS => ?_)
  refine lv_istore_n (lv' := [(3, .int r1), (0, .ref (ad 0)), (1, .int v1), (2, .int v2)]) K.1 K.2.1 dM_readA_4 rfl hL (by decide) rfl (fun ls hL => ?_)
  refine lv_aload_n K.1 K.2.1 dM_readA_5 rfl (lv_at hL 1 rfl) ?_
  refine x_get (v := .ref (ad 7)) K hP hinM (ci := 7) rfl 0 (by decide) rfl 10 (by decide) flM_28 rfl rfl dM_readA_6 ?_
  refine lv_aload_n K.1 K.2.1 dM_readA_9 rfl (lv_at hL 1 rfl) ?_
  refine x_get (v := .int (hi2 0 6)) K hP hinM (ci := 7) rfl 0 (by decide) rfl 6 (by decide) flM_155 rfl rfl dM_readA_10 ?_
  refine lv_iload_n K.1 K.2.1 dM_readA_13 rfl (lv_at hL 0 rfl) ?_
  obtain ⟨g4, h⟩ := h
  refine x_iast K hP hS 7 (by decide) 0 (fun _ => rfl) rfl g4 dM_readA_14 (fun H locs hP hS => ?_)
  refine lv_aload_n K.1 K.2.1 dM_readA_15 rfl (lv_at hL 1 rfl) ?_
  refine x_get (v := .ref (ad 10)) K hP hinM (ci := 7) rfl 0 (by decide) rfl 13 (by decide) flM_37 rfl rfl dM_readA_16 ?_
  refine lv_aload_n K.1 K.2.1 dM_readA_19 rfl (lv_at hL 1 rfl) ?_
  refine x_get (v := .int ((u2 hi2 7 ((hi2 0 6).toNatClampNeg) r1) 0 6)) K hP hinM (ci := 7) rfl 0 (by decide) rfl 6 (by decide) flM_155 rfl rfl dM_readA_20 ?_
  refine lv_aload_n K.1 K.2.1 dM_readA_23 rfl (lv_at hL 1 rfl) ?_
  refine x_get (v := .int ((u2 hi2 7 ((hi2 0 6).toNatClampNeg) r1) 0 20)) K hP hinM (ci := 7) rfl 0 (by decide) rfl 20 (by decide) flM_168 rfl rfl dM_readA_24 ?_
  obtain ⟨g5, h⟩ := h
  refine x_zast K hP hS 10 (by decide) 3 (fun _ => rfl) rfl g5 dM_readA_27 (fun H locs hP hS => ?_)
  refine lv_aload_n K.1 K.2.1 dM_readA_28 rfl (lv_at hL 1 rfl) ?_
  refine lv_iload_n K.1 K.2.1 dM_readA_29 rfl (lv_at hL 0 rfl) ?_
  refine lv_if_lt (tgt := 55) K.1 K.2.1 dM_readA_30 rfl (fun hc => ?_) (fun hc => ?_)
  · have h := h.1 hc
    exact bM_readA_55 K hr hZ h (lv_sub hL [] rfl) hP hS
  · have h := h.2 hc
    refine lv_iload_n K.1 K.2.1 dM_readA_33 rfl (lv_at hL 2 rfl) ?_
    refine lv_if_ne (tgt := 51) K.1 K.2.1 dM_readA_34 rfl (fun hc => ?_) (fun hc => ?_)
    · have h := h.2 hc
      exact bM_readA_51 K hr hZ h (lv_sub hL [] rfl) hP hS
    · have h := h.1 hc
      refine lv_aload_n K.1 K.2.1 dM_readA_37 rfl (lv_at hL 1 rfl) ?_
      refine lv_aload_n K.1 K.2.1 dM_readA_38 rfl (lv_at hL 1 rfl) ?_
      refine x_get (v := .ref (ad 6)) K hP hinM (ci := 7) rfl 0 (by decide) rfl 9 (by decide) flM_25 rfl rfl dM_readA_39 ?_
      refine lv_iload_n K.1 K.2.1 dM_readA_42 rfl (lv_at hL 0 rfl) ?_
      obtain ⟨g6, h⟩ := h
      refine x_iald K hP 6 (by decide) 0 rfl rfl g6 dM_readA_43 ?_
      refine lv_iload_n K.1 K.2.1 dM_readA_44 rfl (lv_at hL 3 rfl) ?_
      refine x_cVI (As := [.int ((u2 (u2 hi2 7 ((hi2 0 6).toNatClampNeg) r1) 10 (((u2 hi2 7 ((hi2 0 6).toNatClampNeg) r1) 0 6).toNatClampNeg) (vp_nar .boolean ((u2 hi2 7 ((hi2 0 6).toNatClampNeg) r1) 0 20))) 6 (r1.toNatClampNeg)), .int v2]) (rest := [.ref (ad 0)]) K gT_good hZ hP hS calM_sameSort mlM_180 0 (by decide) rfl rfl (mM_sameSort hZ K.2.2.2.2.2.2.2.1 h) ⟨Nat.le_of_ble_eq_true rfl, Nat.le_of_ble_eq_true rfl⟩ rfl hL.1 rfl (Nat.le_of_ble_eq_true rfl) dM_readA_45 (fun r7 hi8 hl9 H locs h hP hS => ?_)
      refine lv_if_eq (tgt := 55) K.1 K.2.1 dM_readA_48 rfl (fun hc => ?_) (fun hc => ?_)
      · have h := h.1 hc
        exact bM_readA_55 K hr hZ h (lv_sub hL [] rfl) hP hS
      · have h := h.2 hc
        exact bM_readA_51 K hr hZ h (lv_sub hL [] rfl) hP hS
set_option maxRecDepth 100000 in
set_option maxHeartbeats 4000000 in
theorem mM_readA {l : Launch} {D : va_G} {cI cJ cC cZ cR : ClassId} {ad : Nat → Nat} {A : Nat → Prop} {Zs : State → Prop} (hZ : ZsOK A Zs) (hD : wlD 21 ad A) {v1 : Int32} {v2 : Int32} {hi : HI} {hl : HL} {Φ : Int32 → HI → HL → Prop} (h : wpM_readA v1 v2 hi hl Φ) : SpI l yM_readA cM_readA 4 (some .boolean) gT 4 91 [.ref (ad 0), .int v1, .int v2] D cls8 (tys5 cI cJ cC cZ cR) 21 ad (GM cI cZ ad) A Zs hi hl Φ := by
  refine Met.ofW (cc := cM_readA) (maxL := 4) (ret := (some .boolean)) (by decide) rfl ?_
  intro p e s m args below meth c s₁ B hml hv
  obtain ⟨rfl, hP, hK, hZs⟩ := hv
  have K : Cx p (rmX 4 91) s m _ meth c cM_readA 4 "WordCheckerModel" gT D cls8 (tys5 cI cJ cC cZ cR) 21 ad A Zs := ⟨B.exec, B.bytes, hml, findClass_of_methodNamed B.named, fun w hw => atoms_spec B.pre w (List.mem_cons_of_mem _ hw), B.notSynchronized, hK, hD, hZs⟩
  have hL := lv_entry ([.ref (ad 0), .int v1, .int v2]) (n := 4) (Nat.le_of_ble_eq_true rfl)
  rw [lg_entry_eq]
  generalize (lg_sl ([.ref (ad 0), .int v1, .int v2]) ++ List.replicate (4 - (lg_sl ([.ref (ad 0), .int v1, .int v2])).length) Slot.unset).toArray = ls at hL ⊢
  have hL : lv_has ls 4 [(0, .ref (ad 0)), (1, .int v1), (2, .int v2)] := hL
  unfold wpM_readA at h
  exact bM_readA_0 K B.returns hZ h (lv_sub hL [0, 1, 2] rfl) hP va_S.rf
set_option maxRecDepth 100000 in
set_option maxHeartbeats 4000000 in
theorem bM_readB_51 {p : Program} {l : Launch} {e : Env} {s : State} {m : MethodId} {args : Array Value} {below : List Frame} {meth : Method} {c : Code} {D : va_G} {cI cJ cC cZ cR : ClassId} {ad : Nat → Nat} {A : Nat → Prop} {Zs : State → Prop} (K : Cx p (rmX 4 91) s m args meth c cM_readB 3 "WordCheckerModel" gT D cls8 (tys5 cI cJ cC cZ cR) 21 ad A Zs) (hr : meth.sig.returnType = (some .boolean)) (hZ : ZsOK A Zs) {Φ : Int32 → HI → HL → Prop} {hi : HI} {hl : HL} {H : Heap} {locs : List Loc} (h : wbM_readB_51 hi hl Φ) {ls : Array Slot} (hL : lv_has ls 3 []) (hP : va_P D cls8 (wl 21 ad (GM cI cZ ad) hi hl) H) (hS : va_S A s.heap H locs) : W p l e (rmX 4 91) s m args below meth c H locs 0 0 (MQ below (va_Qi (fun r (u : HI × HL) => Φ r u.1 u.2) (fun u t => va_P D cls8 (wl 21 ad (GM cI cZ ad) u.1 u.2) t.heap) A) args s 0 0 A) (F0 m 51 ls [.ref (ad 0)]) := by
  unfold wbM_readB_51 at h
  refine lv_iconst (v := 0) K.1 K.2.1 dM_readB_51 (by decide) ?_
  refine x_cVI (As := [.int (0 : Int32)]) (rest := []) K gT_good hZ hP hS calM_on mlM_184 0 (by decide) rfl rfl (mM_on hZ K.2.2.2.2.2.2.2.1 h) ⟨Nat.le_of_ble_eq_true rfl, Nat.le_of_ble_eq_true rfl⟩ rfl hL.1 rfl (Nat.le_of_ble_eq_true rfl) dM_readB_52 (fun r1 hi2 hl3 H locs h hP hS => ?_)
  obtain ⟨g4, h⟩ := h
  exact x_zret K hr hP hS g4 h dM_readB_55
set_option maxRecDepth 100000 in
set_option maxHeartbeats 4000000 in
theorem bM_readB_0 {p : Program} {l : Launch} {e : Env} {s : State} {m : MethodId} {args : Array Value} {below : List Frame} {meth : Method} {c : Code} {D : va_G} {cI cJ cC cZ cR : ClassId} {ad : Nat → Nat} {A : Nat → Prop} {Zs : State → Prop} (K : Cx p (rmX 4 91) s m args meth c cM_readB 3 "WordCheckerModel" gT D cls8 (tys5 cI cJ cC cZ cR) 21 ad A Zs) (hr : meth.sig.returnType = (some .boolean)) (hZ : ZsOK A Zs) {Φ : Int32 → HI → HL → Prop} {v1 : Int32} {hi : HI} {hl : HL} {H : Heap} {locs : List Loc} (h : wbM_readB_0 v1 hi hl Φ) {ls : Array Slot} (hL : lv_has ls 3 [(0, .ref (ad 0)), (1, .int v1)]) (hP : va_P D cls8 (wl 21 ad (GM cI cZ ad) hi hl) H) (hS : va_S A s.heap H locs) : W p l e (rmX 4 91) s m args below meth c H locs 0 0 (MQ below (va_Qi (fun r (u : HI × HL) => Φ r u.1 u.2) (fun u t => va_P D cls8 (wl 21 ad (GM cI cZ ad) u.1 u.2) t.heap) A) args s 0 0 A) (F0 m 0 ls []) := by
  unfold wbM_readB_0 at h
  refine lv_aload_n K.1 K.2.1 dM_readB_0 rfl (lv_at hL 0 rfl) ?_
  refine x_cVI (As := []) (rest := []) K gT_good hZ hP hS calM_nodeWord mlM_176 0 (by decide) rfl rfl (mM_nodeWord hZ K.2.2.2.2.2.2.2.1 h) ⟨Nat.le_of_ble_eq_true rfl, Nat.le_of_ble_eq_true rfl⟩ rfl hL.1 rfl (Nat.le_of_ble_eq_true rfl) dM_readB_1 (fun r1 hi2 hl3 H locs h hP hS => ?_)
  refine lv_istore_n (lv' := [(2, .int r1), (0, .ref (ad 0)), (1, .int v1)]) K.1 K.2.1 dM_readB_4 rfl hL (by decide) rfl (fun ls hL => ?_)
  refine lv_aload_n K.1 K.2.1 dM_readB_5 rfl (lv_at hL 1 rfl) ?_
  refine x_get (v := .ref (ad 8)) K hP hinM (ci := 7) rfl 0 (by decide) rfl 11 (by decide) flM_31 rfl rfl dM_readB_6 ?_
  refine lv_aload_n K.1 K.2.1 dM_readB_9 rfl (lv_at hL 1 rfl) ?_
  refine x_get (v := .int (hi2 0 6)) K hP hinM (ci := 7) rfl 0 (by decide) rfl 6 (by decide) flM_155 rfl rfl dM_readB_10 ?_
  refine lv_iload_n K.1 K.2.1 dM_readB_13 rfl (lv_at hL 0 rfl) ?_
  obtain ⟨g4, h⟩ := h
  refine x_iast K hP hS 8 (by decide) 0 (fun _ => rfl) rfl g4 dM_readB_14 (fun H locs hP hS => ?_)
  refine lv_aload_n K.1 K.2.1 dM_readB_15 rfl (lv_at hL 1 rfl) ?_
  refine x_get (v := .ref (ad 11)) K hP hinM (ci := 7) rfl 0 (by decide) rfl 14 (by decide) flM_41 rfl rfl dM_readB_16 ?_
  refine lv_aload_n K.1 K.2.1 dM_readB_19 rfl (lv_at hL 1 rfl) ?_
  refine x_get (v := .int ((u2 hi2 8 ((hi2 0 6).toNatClampNeg) r1) 0 6)) K hP hinM (ci := 7) rfl 0 (by decide) rfl 6 (by decide) flM_155 rfl rfl dM_readB_20 ?_
  refine lv_aload_n K.1 K.2.1 dM_readB_23 rfl (lv_at hL 1 rfl) ?_
  refine x_get (v := .int ((u2 hi2 8 ((hi2 0 6).toNatClampNeg) r1) 0 20)) K hP hinM (ci := 7) rfl 0 (by decide) rfl 20 (by decide) flM_168 rfl rfl dM_readB_24 ?_
  obtain ⟨g5, h⟩ := h
  refine x_zast K hP hS 11 (by decide) 3 (fun _ => rfl) rfl g5 dM_readB_27 (fun H locs hP hS => ?_)
  refine lv_aload_n K.1 K.2.1 dM_readB_28 rfl (lv_at hL 1 rfl) ?_
  refine lv_iload_n K.1 K.2.1 dM_readB_29 rfl (lv_at hL 0 rfl) ?_
  refine lv_if_lt (tgt := 51) K.1 K.2.1 dM_readB_30 rfl (fun hc => ?_) (fun hc => ?_)
  · have h := h.1 hc
    exact bM_readB_51 K hr hZ h (lv_sub hL [] rfl) hP hS
  · have h := h.2 hc
    refine lv_aload_n K.1 K.2.1 dM_readB_33 rfl (lv_at hL 1 rfl) ?_
    refine lv_aload_n K.1 K.2.1 dM_readB_34 rfl (lv_at hL 1 rfl) ?_
    refine x_get (v := .ref (ad 6)) K hP hinM (ci := 7) rfl 0 (by decide) rfl 9 (by decide) flM_25 rfl rfl dM_readB_35 ?_
    refine lv_iload_n K.1 K.2.1 dM_readB_38 rfl (lv_at hL 0 rfl) ?_
    obtain ⟨g6, h⟩ := h
    refine x_iald K hP 6 (by decide) 0 rfl rfl g6 dM_readB_39 ?_
    refine lv_iload_n K.1 K.2.1 dM_readB_40 rfl (lv_at hL 2 rfl) ?_
    refine x_cVI (As := [.int ((u2 (u2 hi2 8 ((hi2 0 6).toNatClampNeg) r1) 11 (((u2 hi2 8 ((hi2 0 6).toNatClampNeg) r1) 0 6).toNatClampNeg) (vp_nar .boolean ((u2 hi2 8 ((hi2 0 6).toNatClampNeg) r1) 0 20))) 6 (r1.toNatClampNeg)), .int v1]) (rest := [.ref (ad 0)]) K gT_good hZ hP hS calM_sameSort mlM_180 0 (by decide) rfl rfl (mM_sameSort hZ K.2.2.2.2.2.2.2.1 h) ⟨Nat.le_of_ble_eq_true rfl, Nat.le_of_ble_eq_true rfl⟩ rfl hL.1 rfl (Nat.le_of_ble_eq_true rfl) dM_readB_41 (fun r7 hi8 hl9 H locs h hP hS => ?_)
    refine lv_if_eq (tgt := 51) K.1 K.2.1 dM_readB_44 rfl (fun hc => ?_) (fun hc => ?_)
    · have h := h.1 hc
      exact bM_readB_51 K hr hZ h (lv_sub hL [] rfl) hP hS
    · have h := h.2 hc
      refine lv_iconst (v := 1) K.1 K.2.1 dM_readB_47 (by decide) ?_
      refine lv_goto (tgt := 52) K.1 K.2.1 dM_readB_48 rfl ?_
      refine x_cVI (As := [.int (1 : Int32)]) (rest := []) K gT_good hZ hP hS calM_on mlM_184 0 (by decide) rfl rfl (mM_on hZ K.2.2.2.2.2.2.2.1 h) ⟨Nat.le_of_ble_eq_true rfl, Nat.le_of_ble_eq_true rfl⟩ rfl hL.1 rfl (Nat.le_of_ble_eq_true rfl) dM_readB_52 (fun r10 hi11 hl12 H locs h hP hS => ?_)
      obtain ⟨g13, h⟩ := h
      exact x_zret K hr hP hS g13 h dM_readB_55
set_option maxRecDepth 100000 in
set_option maxHeartbeats 4000000 in
theorem mM_readB {l : Launch} {D : va_G} {cI cJ cC cZ cR : ClassId} {ad : Nat → Nat} {A : Nat → Prop} {Zs : State → Prop} (hZ : ZsOK A Zs) (hD : wlD 21 ad A) {v1 : Int32} {hi : HI} {hl : HL} {Φ : Int32 → HI → HL → Prop} (h : wpM_readB v1 hi hl Φ) : SpI l yM_readB cM_readB 3 (some .boolean) gT 4 91 [.ref (ad 0), .int v1] D cls8 (tys5 cI cJ cC cZ cR) 21 ad (GM cI cZ ad) A Zs hi hl Φ := by
  refine Met.ofW (cc := cM_readB) (maxL := 3) (ret := (some .boolean)) (by decide) rfl ?_
  intro p e s m args below meth c s₁ B hml hv
  obtain ⟨rfl, hP, hK, hZs⟩ := hv
  have K : Cx p (rmX 4 91) s m _ meth c cM_readB 3 "WordCheckerModel" gT D cls8 (tys5 cI cJ cC cZ cR) 21 ad A Zs := ⟨B.exec, B.bytes, hml, findClass_of_methodNamed B.named, fun w hw => atoms_spec B.pre w (List.mem_cons_of_mem _ hw), B.notSynchronized, hK, hD, hZs⟩
  have hL := lv_entry ([.ref (ad 0), .int v1]) (n := 3) (Nat.le_of_ble_eq_true rfl)
  rw [lg_entry_eq]
  generalize (lg_sl ([.ref (ad 0), .int v1]) ++ List.replicate (3 - (lg_sl ([.ref (ad 0), .int v1])).length) Slot.unset).toArray = ls at hL ⊢
  have hL : lv_has ls 3 [(0, .ref (ad 0)), (1, .int v1)] := hL
  unfold wpM_readB at h
  exact bM_readB_0 K B.returns hZ h (lv_sub hL [0, 1] rfl) hP va_S.rf
set_option maxRecDepth 100000 in
set_option maxHeartbeats 4000000 in
theorem bM_bitsA_69 {p : Program} {l : Launch} {e : Env} {s : State} {m : MethodId} {args : Array Value} {below : List Frame} {meth : Method} {c : Code} {D : va_G} {cI cJ cC cZ cR : ClassId} {ad : Nat → Nat} {A : Nat → Prop} {Zs : State → Prop} (K : Cx p (rmX 4 91) s m args meth c cM_bitsA 3 "WordCheckerModel" gT D cls8 (tys5 cI cJ cC cZ cR) 21 ad A Zs) (hr : meth.sig.returnType = (some .boolean)) (hZ : ZsOK A Zs) {Φ : Int32 → HI → HL → Prop} {hi : HI} {hl : HL} {H : Heap} {locs : List Loc} (h : wbM_bitsA_69 hi hl Φ) {ls : Array Slot} (hL : lv_has ls 3 []) (hP : va_P D cls8 (wl 21 ad (GM cI cZ ad) hi hl) H) (hS : va_S A s.heap H locs) : W p l e (rmX 4 91) s m args below meth c H locs 0 0 (MQ below (va_Qi (fun r (u : HI × HL) => Φ r u.1 u.2) (fun u t => va_P D cls8 (wl 21 ad (GM cI cZ ad) u.1 u.2) t.heap) A) args s 0 0 A) (F0 m 69 ls [.ref (ad 0)]) := by
  unfold wbM_bitsA_69 at h
  refine lv_iconst (v := 0) K.1 K.2.1 dM_bitsA_69 (by decide) ?_
  refine x_cVI (As := [.int (0 : Int32)]) (rest := []) K gT_good hZ hP hS calM_on mlM_184 0 (by decide) rfl rfl (mM_on hZ K.2.2.2.2.2.2.2.1 h) ⟨Nat.le_of_ble_eq_true rfl, Nat.le_of_ble_eq_true rfl⟩ rfl hL.1 rfl (Nat.le_of_ble_eq_true rfl) dM_bitsA_70 (fun r1 hi2 hl3 H locs h hP hS => ?_)
  obtain ⟨g4, h⟩ := h
  exact x_zret K hr hP hS g4 h dM_bitsA_73
set_option maxRecDepth 100000 in
set_option maxHeartbeats 4000000 in
theorem bM_bitsA_65 {p : Program} {l : Launch} {e : Env} {s : State} {m : MethodId} {args : Array Value} {below : List Frame} {meth : Method} {c : Code} {D : va_G} {cI cJ cC cZ cR : ClassId} {ad : Nat → Nat} {A : Nat → Prop} {Zs : State → Prop} (K : Cx p (rmX 4 91) s m args meth c cM_bitsA 3 "WordCheckerModel" gT D cls8 (tys5 cI cJ cC cZ cR) 21 ad A Zs) (hr : meth.sig.returnType = (some .boolean)) (hZ : ZsOK A Zs) {Φ : Int32 → HI → HL → Prop} {hi : HI} {hl : HL} {H : Heap} {locs : List Loc} (h : wbM_bitsA_65 hi hl Φ) {ls : Array Slot} (hL : lv_has ls 3 []) (hP : va_P D cls8 (wl 21 ad (GM cI cZ ad) hi hl) H) (hS : va_S A s.heap H locs) : W p l e (rmX 4 91) s m args below meth c H locs 0 0 (MQ below (va_Qi (fun r (u : HI × HL) => Φ r u.1 u.2) (fun u t => va_P D cls8 (wl 21 ad (GM cI cZ ad) u.1 u.2) t.heap) A) args s 0 0 A) (F0 m 65 ls [.ref (ad 0)]) := by
  unfold wbM_bitsA_65 at h
  refine lv_iconst (v := 1) K.1 K.2.1 dM_bitsA_65 (by decide) ?_
  refine lv_goto (tgt := 70) K.1 K.2.1 dM_bitsA_66 rfl ?_
  refine x_cVI (As := [.int (1 : Int32)]) (rest := []) K gT_good hZ hP hS calM_on mlM_184 0 (by decide) rfl rfl (mM_on hZ K.2.2.2.2.2.2.2.1 h) ⟨Nat.le_of_ble_eq_true rfl, Nat.le_of_ble_eq_true rfl⟩ rfl hL.1 rfl (Nat.le_of_ble_eq_true rfl) dM_bitsA_70 (fun r1 hi2 hl3 H locs h hP hS => ?_)
  obtain ⟨g4, h⟩ := h
  exact x_zret K hr hP hS g4 h dM_bitsA_73
set_option maxRecDepth 100000 in
set_option maxHeartbeats 4000000 in
theorem bM_bitsA_0 {p : Program} {l : Launch} {e : Env} {s : State} {m : MethodId} {args : Array Value} {below : List Frame} {meth : Method} {c : Code} {D : va_G} {cI cJ cC cZ cR : ClassId} {ad : Nat → Nat} {A : Nat → Prop} {Zs : State → Prop} (K : Cx p (rmX 4 91) s m args meth c cM_bitsA 3 "WordCheckerModel" gT D cls8 (tys5 cI cJ cC cZ cR) 21 ad A Zs) (hr : meth.sig.returnType = (some .boolean)) (hZ : ZsOK A Zs) {Φ : Int32 → HI → HL → Prop} {v1 : Int32} {hi : HI} {hl : HL} {H : Heap} {locs : List Loc} (h : wbM_bitsA_0 v1 hi hl Φ) {ls : Array Slot} (hL : lv_has ls 3 [(0, .ref (ad 0)), (1, .int v1)]) (hP : va_P D cls8 (wl 21 ad (GM cI cZ ad) hi hl) H) (hS : va_S A s.heap H locs) : W p l e (rmX 4 91) s m args below meth c H locs 0 0 (MQ below (va_Qi (fun r (u : HI × HL) => Φ r u.1 u.2) (fun u t => va_P D cls8 (wl 21 ad (GM cI cZ ad) u.1 u.2) t.heap) A) args s 0 0 A) (F0 m 0 ls []) := by
  unfold wbM_bitsA_0 at h
  refine lv_aload_n K.1 K.2.1 dM_bitsA_0 rfl (lv_at hL 0 rfl) ?_
  refine x_cVI (As := []) (rest := []) K gT_good hZ hP hS calM_nodeWord mlM_176 0 (by decide) rfl rfl (mM_nodeWord hZ K.2.2.2.2.2.2.2.1 h) ⟨Nat.le_of_ble_eq_true rfl, Nat.le_of_ble_eq_true rfl⟩ rfl hL.1 rfl (Nat.le_of_ble_eq_true rfl) dM_bitsA_1 (fun r1 hi2 hl3 H locs h hP hS => ?_)
  refine lv_istore_n (lv' := [(2, .int r1), (0, .ref (ad 0)), (1, .int v1)]) K.1 K.2.1 dM_bitsA_4 rfl hL (by decide) rfl (fun ls hL => ?_)
  refine lv_aload_n K.1 K.2.1 dM_bitsA_5 rfl (lv_at hL 1 rfl) ?_
  refine x_get (v := .ref (ad 7)) K hP hinM (ci := 7) rfl 0 (by decide) rfl 10 (by decide) flM_28 rfl rfl dM_bitsA_6 ?_
  refine lv_aload_n K.1 K.2.1 dM_bitsA_9 rfl (lv_at hL 1 rfl) ?_
  refine x_get (v := .int (hi2 0 6)) K hP hinM (ci := 7) rfl 0 (by decide) rfl 6 (by decide) flM_155 rfl rfl dM_bitsA_10 ?_
  refine lv_iload_n K.1 K.2.1 dM_bitsA_13 rfl (lv_at hL 0 rfl) ?_
  obtain ⟨g4, h⟩ := h
  refine x_iast K hP hS 7 (by decide) 0 (fun _ => rfl) rfl g4 dM_bitsA_14 (fun H locs hP hS => ?_)
  refine lv_aload_n K.1 K.2.1 dM_bitsA_15 rfl (lv_at hL 1 rfl) ?_
  refine x_get (v := .ref (ad 10)) K hP hinM (ci := 7) rfl 0 (by decide) rfl 13 (by decide) flM_37 rfl rfl dM_bitsA_16 ?_
  refine lv_aload_n K.1 K.2.1 dM_bitsA_19 rfl (lv_at hL 1 rfl) ?_
  refine x_get (v := .int ((u2 hi2 7 ((hi2 0 6).toNatClampNeg) r1) 0 6)) K hP hinM (ci := 7) rfl 0 (by decide) rfl 6 (by decide) flM_155 rfl rfl dM_bitsA_20 ?_
  refine lv_aload_n K.1 K.2.1 dM_bitsA_23 rfl (lv_at hL 1 rfl) ?_
  refine x_get (v := .int ((u2 hi2 7 ((hi2 0 6).toNatClampNeg) r1) 0 20)) K hP hinM (ci := 7) rfl 0 (by decide) rfl 20 (by decide) flM_168 rfl rfl dM_bitsA_24 ?_
  obtain ⟨g5, h⟩ := h
  refine x_zast K hP hS 10 (by decide) 3 (fun _ => rfl) rfl g5 dM_bitsA_27 (fun H locs hP hS => ?_)
  refine lv_aload_n K.1 K.2.1 dM_bitsA_28 rfl (lv_at hL 1 rfl) ?_
  refine lv_iload_n K.1 K.2.1 dM_bitsA_29 rfl (lv_at hL 0 rfl) ?_
  refine lv_if_lt (tgt := 69) K.1 K.2.1 dM_bitsA_30 rfl (fun hc => ?_) (fun hc => ?_)
  · have h := h.1 hc
    exact bM_bitsA_69 K hr hZ h (lv_sub hL [] rfl) hP hS
  · have h := h.2 hc
    refine lv_aload_n K.1 K.2.1 dM_bitsA_33 rfl (lv_at hL 1 rfl) ?_
    refine lv_aload_n K.1 K.2.1 dM_bitsA_34 rfl (lv_at hL 1 rfl) ?_
    refine x_get (v := .ref (ad 6)) K hP hinM (ci := 7) rfl 0 (by decide) rfl 9 (by decide) flM_25 rfl rfl dM_bitsA_35 ?_
    refine lv_iload_n K.1 K.2.1 dM_bitsA_38 rfl (lv_at hL 0 rfl) ?_
    obtain ⟨g6, h⟩ := h
    refine x_iald K hP 6 (by decide) 0 rfl rfl g6 dM_bitsA_39 ?_
    refine x_cVI (As := [.int ((u2 (u2 hi2 7 ((hi2 0 6).toNatClampNeg) r1) 10 (((u2 hi2 7 ((hi2 0 6).toNatClampNeg) r1) 0 6).toNatClampNeg) (vp_nar .boolean ((u2 hi2 7 ((hi2 0 6).toNatClampNeg) r1) 0 20))) 6 (r1.toNatClampNeg))]) (rest := [.ref (ad 0)]) K gT_good hZ hP hS calM_isBits mlM_188 0 (by decide) rfl rfl (mM_isBits hZ K.2.2.2.2.2.2.2.1 h) ⟨Nat.le_of_ble_eq_true rfl, Nat.le_of_ble_eq_true rfl⟩ rfl hL.1 rfl (Nat.le_of_ble_eq_true rfl) dM_bitsA_40 (fun r7 hi8 hl9 H locs h hP hS => ?_)
    refine lv_if_eq (tgt := 69) K.1 K.2.1 dM_bitsA_43 rfl (fun hc => ?_) (fun hc => ?_)
    · have h := h.1 hc
      exact bM_bitsA_69 K hr hZ h (lv_sub hL [] rfl) hP hS
    · have h := h.2 hc
      refine lv_iload_n K.1 K.2.1 dM_bitsA_46 rfl (lv_at hL 2 rfl) ?_
      refine lv_if_eq (tgt := 65) K.1 K.2.1 dM_bitsA_47 rfl (fun hc => ?_) (fun hc => ?_)
      · have h := h.1 hc
        exact bM_bitsA_65 K hr hZ h (lv_sub hL [] rfl) hP hS
      · have h := h.2 hc
        refine lv_aload_n K.1 K.2.1 dM_bitsA_50 rfl (lv_at hL 1 rfl) ?_
        refine x_get (v := .ref (ad 16)) K hP hinM (ci := 7) rfl 0 (by decide) rfl 19 (by decide) flM_56 rfl rfl dM_bitsA_51 ?_
        refine lv_aload_n K.1 K.2.1 dM_bitsA_54 rfl (lv_at hL 1 rfl) ?_
        refine x_get (v := .ref (ad 6)) K hP hinM (ci := 7) rfl 0 (by decide) rfl 9 (by decide) flM_25 rfl rfl dM_bitsA_55 ?_
        refine lv_iload_n K.1 K.2.1 dM_bitsA_58 rfl (lv_at hL 0 rfl) ?_
        obtain ⟨g10, h⟩ := h
        refine x_iald K hP 6 (by decide) 0 rfl rfl g10 dM_bitsA_59 ?_
        obtain ⟨g11, h⟩ := h
        refine x_iald K hP 16 (by decide) 0 rfl rfl g11 dM_bitsA_60 ?_
        refine lv_iload_n K.1 K.2.1 dM_bitsA_61 rfl (lv_at hL 2 rfl) ?_
        refine lv_icmp_ne (tgt := 69) K.1 K.2.1 dM_bitsA_62 rfl (fun hc => ?_) (fun hc => ?_)
        · have h := h.2 hc
          exact bM_bitsA_69 K hr hZ h (lv_sub hL [] rfl) hP hS
        · have h := h.1 hc
          exact bM_bitsA_65 K hr hZ h (lv_sub hL [] rfl) hP hS
set_option maxRecDepth 100000 in
set_option maxHeartbeats 4000000 in
theorem mM_bitsA {l : Launch} {D : va_G} {cI cJ cC cZ cR : ClassId} {ad : Nat → Nat} {A : Nat → Prop} {Zs : State → Prop} (hZ : ZsOK A Zs) (hD : wlD 21 ad A) {v1 : Int32} {hi : HI} {hl : HL} {Φ : Int32 → HI → HL → Prop} (h : wpM_bitsA v1 hi hl Φ) : SpI l yM_bitsA cM_bitsA 3 (some .boolean) gT 4 91 [.ref (ad 0), .int v1] D cls8 (tys5 cI cJ cC cZ cR) 21 ad (GM cI cZ ad) A Zs hi hl Φ := by
  refine Met.ofW (cc := cM_bitsA) (maxL := 3) (ret := (some .boolean)) (by decide) rfl ?_
  intro p e s m args below meth c s₁ B hml hv
  obtain ⟨rfl, hP, hK, hZs⟩ := hv
  have K : Cx p (rmX 4 91) s m _ meth c cM_bitsA 3 "WordCheckerModel" gT D cls8 (tys5 cI cJ cC cZ cR) 21 ad A Zs := ⟨B.exec, B.bytes, hml, findClass_of_methodNamed B.named, fun w hw => atoms_spec B.pre w (List.mem_cons_of_mem _ hw), B.notSynchronized, hK, hD, hZs⟩
  have hL := lv_entry ([.ref (ad 0), .int v1]) (n := 3) (Nat.le_of_ble_eq_true rfl)
  rw [lg_entry_eq]
  generalize (lg_sl ([.ref (ad 0), .int v1]) ++ List.replicate (3 - (lg_sl ([.ref (ad 0), .int v1])).length) Slot.unset).toArray = ls at hL ⊢
  have hL : lv_has ls 3 [(0, .ref (ad 0)), (1, .int v1)] := hL
  unfold wpM_bitsA at h
  exact bM_bitsA_0 K B.returns hZ h (lv_sub hL [0, 1] rfl) hP va_S.rf
set_option maxRecDepth 100000 in
set_option maxHeartbeats 4000000 in
theorem bM_bitsB_65 {p : Program} {l : Launch} {e : Env} {s : State} {m : MethodId} {args : Array Value} {below : List Frame} {meth : Method} {c : Code} {D : va_G} {cI cJ cC cZ cR : ClassId} {ad : Nat → Nat} {A : Nat → Prop} {Zs : State → Prop} (K : Cx p (rmX 4 91) s m args meth c cM_bitsB 3 "WordCheckerModel" gT D cls8 (tys5 cI cJ cC cZ cR) 21 ad A Zs) (hr : meth.sig.returnType = (some .boolean)) (hZ : ZsOK A Zs) {Φ : Int32 → HI → HL → Prop} {hi : HI} {hl : HL} {H : Heap} {locs : List Loc} (h : wbM_bitsB_65 hi hl Φ) {ls : Array Slot} (hL : lv_has ls 3 []) (hP : va_P D cls8 (wl 21 ad (GM cI cZ ad) hi hl) H) (hS : va_S A s.heap H locs) : W p l e (rmX 4 91) s m args below meth c H locs 0 0 (MQ below (va_Qi (fun r (u : HI × HL) => Φ r u.1 u.2) (fun u t => va_P D cls8 (wl 21 ad (GM cI cZ ad) u.1 u.2) t.heap) A) args s 0 0 A) (F0 m 65 ls [.ref (ad 0)]) := by
  unfold wbM_bitsB_65 at h
  refine lv_iconst (v := 0) K.1 K.2.1 dM_bitsB_65 (by decide) ?_
  refine x_cVI (As := [.int (0 : Int32)]) (rest := []) K gT_good hZ hP hS calM_on mlM_184 0 (by decide) rfl rfl (mM_on hZ K.2.2.2.2.2.2.2.1 h) ⟨Nat.le_of_ble_eq_true rfl, Nat.le_of_ble_eq_true rfl⟩ rfl hL.1 rfl (Nat.le_of_ble_eq_true rfl) dM_bitsB_66 (fun r1 hi2 hl3 H locs h hP hS => ?_)
  obtain ⟨g4, h⟩ := h
  exact x_zret K hr hP hS g4 h dM_bitsB_69
set_option maxRecDepth 100000 in
set_option maxHeartbeats 4000000 in
theorem bM_bitsB_0 {p : Program} {l : Launch} {e : Env} {s : State} {m : MethodId} {args : Array Value} {below : List Frame} {meth : Method} {c : Code} {D : va_G} {cI cJ cC cZ cR : ClassId} {ad : Nat → Nat} {A : Nat → Prop} {Zs : State → Prop} (K : Cx p (rmX 4 91) s m args meth c cM_bitsB 3 "WordCheckerModel" gT D cls8 (tys5 cI cJ cC cZ cR) 21 ad A Zs) (hr : meth.sig.returnType = (some .boolean)) (hZ : ZsOK A Zs) {Φ : Int32 → HI → HL → Prop} {v1 : Int32} {hi : HI} {hl : HL} {H : Heap} {locs : List Loc} (h : wbM_bitsB_0 v1 hi hl Φ) {ls : Array Slot} (hL : lv_has ls 3 [(0, .ref (ad 0)), (1, .int v1)]) (hP : va_P D cls8 (wl 21 ad (GM cI cZ ad) hi hl) H) (hS : va_S A s.heap H locs) : W p l e (rmX 4 91) s m args below meth c H locs 0 0 (MQ below (va_Qi (fun r (u : HI × HL) => Φ r u.1 u.2) (fun u t => va_P D cls8 (wl 21 ad (GM cI cZ ad) u.1 u.2) t.heap) A) args s 0 0 A) (F0 m 0 ls []) := by
  unfold wbM_bitsB_0 at h
  refine lv_aload_n K.1 K.2.1 dM_bitsB_0 rfl (lv_at hL 0 rfl) ?_
  refine x_cVI (As := []) (rest := []) K gT_good hZ hP hS calM_nodeWord mlM_176 0 (by decide) rfl rfl (mM_nodeWord hZ K.2.2.2.2.2.2.2.1 h) ⟨Nat.le_of_ble_eq_true rfl, Nat.le_of_ble_eq_true rfl⟩ rfl hL.1 rfl (Nat.le_of_ble_eq_true rfl) dM_bitsB_1 (fun r1 hi2 hl3 H locs h hP hS => ?_)
  refine lv_istore_n (lv' := [(2, .int r1), (0, .ref (ad 0)), (1, .int v1)]) K.1 K.2.1 dM_bitsB_4 rfl hL (by decide) rfl (fun ls hL => ?_)
  refine lv_aload_n K.1 K.2.1 dM_bitsB_5 rfl (lv_at hL 1 rfl) ?_
  refine x_get (v := .ref (ad 8)) K hP hinM (ci := 7) rfl 0 (by decide) rfl 11 (by decide) flM_31 rfl rfl dM_bitsB_6 ?_
  refine lv_aload_n K.1 K.2.1 dM_bitsB_9 rfl (lv_at hL 1 rfl) ?_
  refine x_get (v := .int (hi2 0 6)) K hP hinM (ci := 7) rfl 0 (by decide) rfl 6 (by decide) flM_155 rfl rfl dM_bitsB_10 ?_
  refine lv_iload_n K.1 K.2.1 dM_bitsB_13 rfl (lv_at hL 0 rfl) ?_
  obtain ⟨g4, h⟩ := h
  refine x_iast K hP hS 8 (by decide) 0 (fun _ => rfl) rfl g4 dM_bitsB_14 (fun H locs hP hS => ?_)
  refine lv_aload_n K.1 K.2.1 dM_bitsB_15 rfl (lv_at hL 1 rfl) ?_
  refine x_get (v := .ref (ad 11)) K hP hinM (ci := 7) rfl 0 (by decide) rfl 14 (by decide) flM_41 rfl rfl dM_bitsB_16 ?_
  refine lv_aload_n K.1 K.2.1 dM_bitsB_19 rfl (lv_at hL 1 rfl) ?_
  refine x_get (v := .int ((u2 hi2 8 ((hi2 0 6).toNatClampNeg) r1) 0 6)) K hP hinM (ci := 7) rfl 0 (by decide) rfl 6 (by decide) flM_155 rfl rfl dM_bitsB_20 ?_
  refine lv_aload_n K.1 K.2.1 dM_bitsB_23 rfl (lv_at hL 1 rfl) ?_
  refine x_get (v := .int ((u2 hi2 8 ((hi2 0 6).toNatClampNeg) r1) 0 20)) K hP hinM (ci := 7) rfl 0 (by decide) rfl 20 (by decide) flM_168 rfl rfl dM_bitsB_24 ?_
  obtain ⟨g5, h⟩ := h
  refine x_zast K hP hS 11 (by decide) 3 (fun _ => rfl) rfl g5 dM_bitsB_27 (fun H locs hP hS => ?_)
  refine lv_aload_n K.1 K.2.1 dM_bitsB_28 rfl (lv_at hL 1 rfl) ?_
  refine lv_iload_n K.1 K.2.1 dM_bitsB_29 rfl (lv_at hL 0 rfl) ?_
  refine lv_if_lt (tgt := 65) K.1 K.2.1 dM_bitsB_30 rfl (fun hc => ?_) (fun hc => ?_)
  · have h := h.1 hc
    exact bM_bitsB_65 K hr hZ h (lv_sub hL [] rfl) hP hS
  · have h := h.2 hc
    refine lv_aload_n K.1 K.2.1 dM_bitsB_33 rfl (lv_at hL 1 rfl) ?_
    refine lv_aload_n K.1 K.2.1 dM_bitsB_34 rfl (lv_at hL 1 rfl) ?_
    refine x_get (v := .ref (ad 6)) K hP hinM (ci := 7) rfl 0 (by decide) rfl 9 (by decide) flM_25 rfl rfl dM_bitsB_35 ?_
    refine lv_iload_n K.1 K.2.1 dM_bitsB_38 rfl (lv_at hL 0 rfl) ?_
    obtain ⟨g6, h⟩ := h
    refine x_iald K hP 6 (by decide) 0 rfl rfl g6 dM_bitsB_39 ?_
    refine x_cVI (As := [.int ((u2 (u2 hi2 8 ((hi2 0 6).toNatClampNeg) r1) 11 (((u2 hi2 8 ((hi2 0 6).toNatClampNeg) r1) 0 6).toNatClampNeg) (vp_nar .boolean ((u2 hi2 8 ((hi2 0 6).toNatClampNeg) r1) 0 20))) 6 (r1.toNatClampNeg))]) (rest := [.ref (ad 0)]) K gT_good hZ hP hS calM_isBits mlM_188 0 (by decide) rfl rfl (mM_isBits hZ K.2.2.2.2.2.2.2.1 h) ⟨Nat.le_of_ble_eq_true rfl, Nat.le_of_ble_eq_true rfl⟩ rfl hL.1 rfl (Nat.le_of_ble_eq_true rfl) dM_bitsB_40 (fun r7 hi8 hl9 H locs h hP hS => ?_)
    refine lv_if_eq (tgt := 65) K.1 K.2.1 dM_bitsB_43 rfl (fun hc => ?_) (fun hc => ?_)
    · have h := h.1 hc
      exact bM_bitsB_65 K hr hZ h (lv_sub hL [] rfl) hP hS
    · have h := h.2 hc
      refine lv_aload_n K.1 K.2.1 dM_bitsB_46 rfl (lv_at hL 1 rfl) ?_
      refine x_get (v := .ref (ad 16)) K hP hinM (ci := 7) rfl 0 (by decide) rfl 19 (by decide) flM_56 rfl rfl dM_bitsB_47 ?_
      refine lv_aload_n K.1 K.2.1 dM_bitsB_50 rfl (lv_at hL 1 rfl) ?_
      refine x_get (v := .ref (ad 6)) K hP hinM (ci := 7) rfl 0 (by decide) rfl 9 (by decide) flM_25 rfl rfl dM_bitsB_51 ?_
      refine lv_iload_n K.1 K.2.1 dM_bitsB_54 rfl (lv_at hL 0 rfl) ?_
      obtain ⟨g10, h⟩ := h
      refine x_iald K hP 6 (by decide) 0 rfl rfl g10 dM_bitsB_55 ?_
      obtain ⟨g11, h⟩ := h
      refine x_iald K hP 16 (by decide) 0 rfl rfl g11 dM_bitsB_56 ?_
      refine lv_iload_n K.1 K.2.1 dM_bitsB_57 rfl (lv_at hL 2 rfl) ?_
      refine lv_icmp_ne (tgt := 65) K.1 K.2.1 dM_bitsB_58 rfl (fun hc => ?_) (fun hc => ?_)
      · have h := h.2 hc
        exact bM_bitsB_65 K hr hZ h (lv_sub hL [] rfl) hP hS
      · have h := h.1 hc
        refine lv_iconst (v := 1) K.1 K.2.1 dM_bitsB_61 (by decide) ?_
        refine lv_goto (tgt := 66) K.1 K.2.1 dM_bitsB_62 rfl ?_
        refine x_cVI (As := [.int (1 : Int32)]) (rest := []) K gT_good hZ hP hS calM_on mlM_184 0 (by decide) rfl rfl (mM_on hZ K.2.2.2.2.2.2.2.1 h) ⟨Nat.le_of_ble_eq_true rfl, Nat.le_of_ble_eq_true rfl⟩ rfl hL.1 rfl (Nat.le_of_ble_eq_true rfl) dM_bitsB_66 (fun r12 hi13 hl14 H locs h hP hS => ?_)
        obtain ⟨g15, h⟩ := h
        exact x_zret K hr hP hS g15 h dM_bitsB_69
set_option maxRecDepth 100000 in
set_option maxHeartbeats 4000000 in
theorem mM_bitsB {l : Launch} {D : va_G} {cI cJ cC cZ cR : ClassId} {ad : Nat → Nat} {A : Nat → Prop} {Zs : State → Prop} (hZ : ZsOK A Zs) (hD : wlD 21 ad A) {v1 : Int32} {hi : HI} {hl : HL} {Φ : Int32 → HI → HL → Prop} (h : wpM_bitsB v1 hi hl Φ) : SpI l yM_bitsB cM_bitsB 3 (some .boolean) gT 4 91 [.ref (ad 0), .int v1] D cls8 (tys5 cI cJ cC cZ cR) 21 ad (GM cI cZ ad) A Zs hi hl Φ := by
  refine Met.ofW (cc := cM_bitsB) (maxL := 3) (ret := (some .boolean)) (by decide) rfl ?_
  intro p e s m args below meth c s₁ B hml hv
  obtain ⟨rfl, hP, hK, hZs⟩ := hv
  have K : Cx p (rmX 4 91) s m _ meth c cM_bitsB 3 "WordCheckerModel" gT D cls8 (tys5 cI cJ cC cZ cR) 21 ad A Zs := ⟨B.exec, B.bytes, hml, findClass_of_methodNamed B.named, fun w hw => atoms_spec B.pre w (List.mem_cons_of_mem _ hw), B.notSynchronized, hK, hD, hZs⟩
  have hL := lv_entry ([.ref (ad 0), .int v1]) (n := 3) (Nat.le_of_ble_eq_true rfl)
  rw [lg_entry_eq]
  generalize (lg_sl ([.ref (ad 0), .int v1]) ++ List.replicate (3 - (lg_sl ([.ref (ad 0), .int v1])).length) Slot.unset).toArray = ls at hL ⊢
  have hL : lv_has ls 3 [(0, .ref (ad 0)), (1, .int v1)] := hL
  unfold wpM_bitsB at h
  exact bM_bitsB_0 K B.returns hZ h (lv_sub hL [0, 1] rfl) hP va_S.rf
set_option maxRecDepth 100000 in
set_option maxHeartbeats 4000000 in
theorem bM_readSort_191 {p : Program} {l : Launch} {e : Env} {s : State} {m : MethodId} {args : Array Value} {below : List Frame} {meth : Method} {c : Code} {D : va_G} {cI cJ cC cZ cR : ClassId} {ad : Nat → Nat} {A : Nat → Prop} {Zs : State → Prop} (K : Cx p (rmX 4 90) s m args meth c cM_readSort 6 "WordCheckerModel" gT D cls8 (tys5 cI cJ cC cZ cR) 21 ad A Zs) (hr : meth.sig.returnType = (some .boolean)) (hZ : ZsOK A Zs) {Φ : Int32 → HI → HL → Prop} {hi : HI} {hl : HL} {H : Heap} {locs : List Loc} (h : wbM_readSort_191 hi hl Φ) {ls : Array Slot} (hL : lv_has ls 6 []) (hP : va_P D cls8 (wl 21 ad (GM cI cZ ad) hi hl) H) (hS : va_S A s.heap H locs) : W p l e (rmX 4 90) s m args below meth c H locs 0 0 (MQ below (va_Qi (fun r (u : HI × HL) => Φ r u.1 u.2) (fun u t => va_P D cls8 (wl 21 ad (GM cI cZ ad) u.1 u.2) t.heap) A) args s 0 0 A) (F0 m 191 ls [.ref (ad 0)]) := by
  unfold wbM_readSort_191 at h
  refine lv_iconst (v := 0) K.1 K.2.1 dM_readSort_191 (by decide) ?_
  refine x_cVI (As := [.int (0 : Int32)]) (rest := []) K gT_good hZ hP hS calM_on mlM_184 0 (by decide) rfl rfl (mM_on hZ K.2.2.2.2.2.2.2.1 h) ⟨Nat.le_of_ble_eq_true rfl, Nat.le_of_ble_eq_true rfl⟩ rfl hL.1 rfl (Nat.le_of_ble_eq_true rfl) dM_readSort_192 (fun r1 hi2 hl3 H locs h hP hS => ?_)
  obtain ⟨g4, h⟩ := h
  exact x_zret K hr hP hS g4 h dM_readSort_195
set_option maxRecDepth 100000 in
set_option maxHeartbeats 4000000 in
theorem bM_readSort_171 {p : Program} {l : Launch} {e : Env} {s : State} {m : MethodId} {args : Array Value} {below : List Frame} {meth : Method} {c : Code} {D : va_G} {cI cJ cC cZ cR : ClassId} {ad : Nat → Nat} {A : Nat → Prop} {Zs : State → Prop} (K : Cx p (rmX 4 90) s m args meth c cM_readSort 6 "WordCheckerModel" gT D cls8 (tys5 cI cJ cC cZ cR) 21 ad A Zs) (hr : meth.sig.returnType = (some .boolean)) (hZ : ZsOK A Zs) {Φ : Int32 → HI → HL → Prop} {v5 : Int32} {q1 : Int32} {q2 : Int32} {hi : HI} {hl : HL} {H : Heap} {locs : List Loc} (h : wbM_readSort_171 v5 q1 q2 hi hl Φ) {ls : Array Slot} (hL : lv_has ls 6 [(0, .ref (ad 0)), (5, .int v5)]) (hP : va_P D cls8 (wl 21 ad (GM cI cZ ad) hi hl) H) (hS : va_S A s.heap H locs) : W p l e (rmX 4 90) s m args below meth c H locs 0 0 (MQ below (va_Qi (fun r (u : HI × HL) => Φ r u.1 u.2) (fun u t => va_P D cls8 (wl 21 ad (GM cI cZ ad) u.1 u.2) t.heap) A) args s 0 0 A) (F0 m 171 ls [.int q2, .int q1, .ref (ad 16)]) := by
  unfold wbM_readSort_171 at h
  obtain ⟨g1, h⟩ := h
  refine x_iast K hP hS 16 (by decide) 0 (fun _ => rfl) rfl g1 dM_readSort_171 (fun H locs hP hS => ?_)
  refine lv_aload_n K.1 K.2.1 dM_readSort_172 rfl (lv_at hL 0 rfl) ?_
  refine lv_iload K.1 K.2.1 dM_readSort_173 (lv_at hL 1 rfl) ?_
  refine lv_if_lt (tgt := 191) K.1 K.2.1 dM_readSort_175 rfl (fun hc => ?_) (fun hc => ?_)
  · have h := h.1 hc
    exact bM_readSort_191 K hr hZ h (lv_sub hL [] rfl) hP hS
  · have h := h.2 hc
    refine lv_aload_n K.1 K.2.1 dM_readSort_178 rfl (lv_at hL 0 rfl) ?_
    refine lv_iload K.1 K.2.1 dM_readSort_179 (lv_at hL 1 rfl) ?_
    refine x_cVI (As := [.int v5]) (rest := [.ref (ad 0)]) K gT_good hZ hP hS calM_isBits mlM_188 0 (by decide) rfl rfl (mM_isBits hZ K.2.2.2.2.2.2.2.1 h) ⟨Nat.le_of_ble_eq_true rfl, Nat.le_of_ble_eq_true rfl⟩ rfl hL.1 rfl (Nat.le_of_ble_eq_true rfl) dM_readSort_181 (fun r2 hi3 hl4 H locs h hP hS => ?_)
    refine lv_if_eq (tgt := 191) K.1 K.2.1 dM_readSort_184 rfl (fun hc => ?_) (fun hc => ?_)
    · have h := h.1 hc
      exact bM_readSort_191 K hr hZ h (lv_sub hL [] rfl) hP hS
    · have h := h.2 hc
      refine lv_iconst (v := 1) K.1 K.2.1 dM_readSort_187 (by decide) ?_
      refine lv_goto (tgt := 192) K.1 K.2.1 dM_readSort_188 rfl ?_
      refine x_cVI (As := [.int (1 : Int32)]) (rest := []) K gT_good hZ hP hS calM_on mlM_184 0 (by decide) rfl rfl (mM_on hZ K.2.2.2.2.2.2.2.1 h) ⟨Nat.le_of_ble_eq_true rfl, Nat.le_of_ble_eq_true rfl⟩ rfl hL.1 rfl (Nat.le_of_ble_eq_true rfl) dM_readSort_192 (fun r5 hi6 hl7 H locs h hP hS => ?_)
      obtain ⟨g8, h⟩ := h
      exact x_zret K hr hP hS g8 h dM_readSort_195
set_option maxRecDepth 100000 in
set_option maxHeartbeats 4000000 in
theorem bM_readSort_133 {p : Program} {l : Launch} {e : Env} {s : State} {m : MethodId} {args : Array Value} {below : List Frame} {meth : Method} {c : Code} {D : va_G} {cI cJ cC cZ cR : ClassId} {ad : Nat → Nat} {A : Nat → Prop} {Zs : State → Prop} (K : Cx p (rmX 4 90) s m args meth c cM_readSort 6 "WordCheckerModel" gT D cls8 (tys5 cI cJ cC cZ cR) 21 ad A Zs) (hr : meth.sig.returnType = (some .boolean)) (hZ : ZsOK A Zs) {Φ : Int32 → HI → HL → Prop} {q1 : Int32} {hi : HI} {hl : HL} {H : Heap} {locs : List Loc} (h : wbM_readSort_133 q1 hi hl Φ) {ls : Array Slot} (hL : lv_has ls 6 [(0, .ref (ad 0))]) (hP : va_P D cls8 (wl 21 ad (GM cI cZ ad) hi hl) H) (hS : va_S A s.heap H locs) : W p l e (rmX 4 90) s m args below meth c H locs 0 0 (MQ below (va_Qi (fun r (u : HI × HL) => Φ r u.1 u.2) (fun u t => va_P D cls8 (wl 21 ad (GM cI cZ ad) u.1 u.2) t.heap) A) args s 0 0 A) (F0 m 133 ls [.int q1, .ref (ad 0)]) := by
  unfold wbM_readSort_133 at h
  refine x_cVI (As := [.int q1]) (rest := []) K gT_good hZ hP hS calM_on mlM_184 0 (by decide) rfl rfl (mM_on hZ K.2.2.2.2.2.2.2.1 h) ⟨Nat.le_of_ble_eq_true rfl, Nat.le_of_ble_eq_true rfl⟩ rfl hL.1 rfl (Nat.le_of_ble_eq_true rfl) dM_readSort_133 (fun r1 hi2 hl3 H locs h hP hS => ?_)
  refine lv_if_ne (tgt := 141) K.1 K.2.1 dM_readSort_136 rfl (fun hc => ?_) (fun hc => ?_)
  · have h := h.2 hc
    refine lv_aload_n K.1 K.2.1 dM_readSort_141 rfl (lv_at hL 0 rfl) ?_
    refine x_cVI (As := []) (rest := []) K gT_good hZ hP hS calM_sortWord mlM_199 0 (by decide) rfl rfl (mM_sortWord hZ K.2.2.2.2.2.2.2.1 h) ⟨Nat.le_of_ble_eq_true rfl, Nat.le_of_ble_eq_true rfl⟩ rfl hL.1 rfl (Nat.le_of_ble_eq_true rfl) dM_readSort_142 (fun r4 hi5 hl6 H locs h hP hS => ?_)
    refine lv_istore (lv' := [(5, .int r4), (0, .ref (ad 0))]) K.1 K.2.1 dM_readSort_145 hL (by decide) rfl (fun ls hL => ?_)
    refine lv_aload_n K.1 K.2.1 dM_readSort_147 rfl (lv_at hL 1 rfl) ?_
    refine x_get (v := .ref (ad 16)) K hP hinM (ci := 7) rfl 0 (by decide) rfl 19 (by decide) flM_56 rfl rfl dM_readSort_148 ?_
    refine lv_aload_n K.1 K.2.1 dM_readSort_151 rfl (lv_at hL 1 rfl) ?_
    refine x_get (v := .int (hi5 0 6)) K hP hinM (ci := 7) rfl 0 (by decide) rfl 6 (by decide) flM_155 rfl rfl dM_readSort_152 ?_
    refine lv_iload K.1 K.2.1 dM_readSort_155 (lv_at hL 0 rfl) ?_
    refine lv_if_ge (tgt := 164) K.1 K.2.1 dM_readSort_157 rfl (fun hc => ?_) (fun hc => ?_)
    · have h := h.1 hc
      refine lv_aload_n K.1 K.2.1 dM_readSort_164 rfl (lv_at hL 1 rfl) ?_
      refine x_get (v := .ref (ad 16)) K hP hinM (ci := 7) rfl 0 (by decide) rfl 19 (by decide) flM_56 rfl rfl dM_readSort_165 ?_
      refine lv_iload K.1 K.2.1 dM_readSort_168 (lv_at hL 0 rfl) ?_
      obtain ⟨g7, h⟩ := h
      refine x_iald K hP 16 (by decide) 0 rfl rfl g7 dM_readSort_170 ?_
      exact bM_readSort_171 K hr hZ h (lv_sub hL [1, 0] rfl) hP hS
    · have h := h.2 hc
      refine lv_iconst (v := 0) K.1 K.2.1 dM_readSort_160 (by decide) ?_
      refine lv_goto (tgt := 171) K.1 K.2.1 dM_readSort_161 rfl ?_
      exact bM_readSort_171 K hr hZ h (lv_sub hL [1, 0] rfl) hP hS
  · have h := h.1 hc
    refine lv_iconst (v := 0) K.1 K.2.1 dM_readSort_139 (by decide) ?_
    obtain ⟨g8, h⟩ := h
    exact x_zret K hr hP hS g8 h dM_readSort_140
set_option maxRecDepth 100000 in
set_option maxHeartbeats 4000000 in
theorem bM_readSort_132 {p : Program} {l : Launch} {e : Env} {s : State} {m : MethodId} {args : Array Value} {below : List Frame} {meth : Method} {c : Code} {D : va_G} {cI cJ cC cZ cR : ClassId} {ad : Nat → Nat} {A : Nat → Prop} {Zs : State → Prop} (K : Cx p (rmX 4 90) s m args meth c cM_readSort 6 "WordCheckerModel" gT D cls8 (tys5 cI cJ cC cZ cR) 21 ad A Zs) (hr : meth.sig.returnType = (some .boolean)) (hZ : ZsOK A Zs) {Φ : Int32 → HI → HL → Prop} {hi : HI} {hl : HL} {H : Heap} {locs : List Loc} (h : wbM_readSort_132 hi hl Φ) {ls : Array Slot} (hL : lv_has ls 6 [(0, .ref (ad 0))]) (hP : va_P D cls8 (wl 21 ad (GM cI cZ ad) hi hl) H) (hS : va_S A s.heap H locs) : W p l e (rmX 4 90) s m args below meth c H locs 0 0 (MQ below (va_Qi (fun r (u : HI × HL) => Φ r u.1 u.2) (fun u t => va_P D cls8 (wl 21 ad (GM cI cZ ad) u.1 u.2) t.heap) A) args s 0 0 A) (F0 m 132 ls [.ref (ad 0)]) := by
  unfold wbM_readSort_132 at h
  refine lv_iconst (v := 0) K.1 K.2.1 dM_readSort_132 (by decide) ?_
  exact bM_readSort_133 K hr hZ h (lv_sub hL [0] rfl) hP hS
set_option maxRecDepth 100000 in
set_option maxHeartbeats 4000000 in
theorem bM_readSort_41 {p : Program} {l : Launch} {e : Env} {s : State} {m : MethodId} {args : Array Value} {below : List Frame} {meth : Method} {c : Code} {D : va_G} {cI cJ cC cZ cR : ClassId} {ad : Nat → Nat} {A : Nat → Prop} {Zs : State → Prop} (K : Cx p (rmX 4 90) s m args meth c cM_readSort 6 "WordCheckerModel" gT D cls8 (tys5 cI cJ cC cZ cR) 21 ad A Zs) (hr : meth.sig.returnType = (some .boolean)) (hZ : ZsOK A Zs) {Φ : Int32 → HI → HL → Prop} {v3 : Int32} {q1 : Int32} {hi : HI} {hl : HL} {H : Heap} {locs : List Loc} (h : wbM_readSort_41 v3 q1 hi hl Φ) {ls : Array Slot} (hL : lv_has ls 6 [(0, .ref (ad 0)), (3, .int v3)]) (hP : va_P D cls8 (wl 21 ad (GM cI cZ ad) hi hl) H) (hS : va_S A s.heap H locs) : W p l e (rmX 4 90) s m args below meth c H locs 0 0 (MQ below (va_Qi (fun r (u : HI × HL) => Φ r u.1 u.2) (fun u t => va_P D cls8 (wl 21 ad (GM cI cZ ad) u.1 u.2) t.heap) A) args s 0 0 A) (F0 m 41 ls [.int q1, .ref (ad 0)]) := by
  unfold wbM_readSort_41 at h
  refine x_cVI (As := [.int q1]) (rest := []) K gT_good hZ hP hS calM_on mlM_184 0 (by decide) rfl rfl (mM_on hZ K.2.2.2.2.2.2.2.1 h) ⟨Nat.le_of_ble_eq_true rfl, Nat.le_of_ble_eq_true rfl⟩ rfl hL.1 rfl (Nat.le_of_ble_eq_true rfl) dM_readSort_41 (fun r1 hi2 hl3 H locs h hP hS => ?_)
  refine lv_if_ne (tgt := 49) K.1 K.2.1 dM_readSort_44 rfl (fun hc => ?_) (fun hc => ?_)
  · have h := h.2 hc
    refine lv_aload_n K.1 K.2.1 dM_readSort_49 rfl (lv_at hL 0 rfl) ?_
    refine x_get (v := .ref (ad 15)) K hP hinM (ci := 7) rfl 0 (by decide) rfl 18 (by decide) flM_53 rfl rfl dM_readSort_50 ?_
    refine lv_aload_n K.1 K.2.1 dM_readSort_53 rfl (lv_at hL 0 rfl) ?_
    refine x_get (v := .int (hi2 0 6)) K hP hinM (ci := 7) rfl 0 (by decide) rfl 6 (by decide) flM_155 rfl rfl dM_readSort_54 ?_
    refine lv_iload_n K.1 K.2.1 dM_readSort_57 rfl (lv_at hL 1 rfl) ?_
    obtain ⟨g4, h⟩ := h
    refine x_zast K hP hS 15 (by decide) 3 (fun _ => rfl) rfl g4 dM_readSort_58 (fun H locs hP hS => ?_)
    refine lv_iload_n K.1 K.2.1 dM_readSort_59 rfl (lv_at hL 1 rfl) ?_
    refine lv_if_ne (tgt := 96) K.1 K.2.1 dM_readSort_60 rfl (fun hc => ?_) (fun hc => ?_)
    · have h := h.2 hc
      refine lv_aload_n K.1 K.2.1 dM_readSort_96 rfl (lv_at hL 0 rfl) ?_
      refine x_cVI (As := []) (rest := []) K gT_good hZ hP hS calM_sortWord mlM_199 0 (by decide) rfl rfl (mM_sortWord hZ K.2.2.2.2.2.2.2.1 h) ⟨Nat.le_of_ble_eq_true rfl, Nat.le_of_ble_eq_true rfl⟩ rfl hL.1 rfl (Nat.le_of_ble_eq_true rfl) dM_readSort_97 (fun r5 hi6 hl7 H locs h hP hS => ?_)
      refine lv_istore (lv' := [(4, .int r5), (0, .ref (ad 0)), (3, .int v3)]) K.1 K.2.1 dM_readSort_100 hL (by decide) rfl (fun ls hL => ?_)
      refine lv_aload_n K.1 K.2.1 dM_readSort_102 rfl (lv_at hL 1 rfl) ?_
      refine lv_iload K.1 K.2.1 dM_readSort_103 (lv_at hL 0 rfl) ?_
      refine lv_if_lt (tgt := 132) K.1 K.2.1 dM_readSort_105 rfl (fun hc => ?_) (fun hc => ?_)
      · have h := h.1 hc
        exact bM_readSort_132 K hr hZ h (lv_sub hL [1] rfl) hP hS
      · have h := h.2 hc
        refine lv_aload_n K.1 K.2.1 dM_readSort_108 rfl (lv_at hL 1 rfl) ?_
        refine lv_iload K.1 K.2.1 dM_readSort_109 (lv_at hL 0 rfl) ?_
        refine x_cVI (As := [.int r5]) (rest := [.ref (ad 0)]) K gT_good hZ hP hS calM_isBits mlM_188 0 (by decide) rfl rfl (mM_isBits hZ K.2.2.2.2.2.2.2.1 h) ⟨Nat.le_of_ble_eq_true rfl, Nat.le_of_ble_eq_true rfl⟩ rfl hL.1 rfl (Nat.le_of_ble_eq_true rfl) dM_readSort_111 (fun r8 hi9 hl10 H locs h hP hS => ?_)
        refine lv_if_eq (tgt := 132) K.1 K.2.1 dM_readSort_114 rfl (fun hc => ?_) (fun hc => ?_)
        · have h := h.1 hc
          exact bM_readSort_132 K hr hZ h (lv_sub hL [1] rfl) hP hS
        · have h := h.2 hc
          refine lv_aload_n K.1 K.2.1 dM_readSort_117 rfl (lv_at hL 1 rfl) ?_
          refine x_get (v := .ref (ad 16)) K hP hinM (ci := 7) rfl 0 (by decide) rfl 19 (by decide) flM_56 rfl rfl dM_readSort_118 ?_
          refine lv_iload K.1 K.2.1 dM_readSort_121 (lv_at hL 0 rfl) ?_
          obtain ⟨g11, h⟩ := h
          refine x_iald K hP 16 (by decide) 0 rfl rfl g11 dM_readSort_123 ?_
          refine lv_iconst (v := 1) K.1 K.2.1 dM_readSort_124 (by decide) ?_
          refine lv_icmp_ne (tgt := 132) K.1 K.2.1 dM_readSort_125 rfl (fun hc => ?_) (fun hc => ?_)
          · have h := h.2 hc
            exact bM_readSort_132 K hr hZ h (lv_sub hL [1] rfl) hP hS
          · have h := h.1 hc
            refine lv_iconst (v := 1) K.1 K.2.1 dM_readSort_128 (by decide) ?_
            refine lv_goto (tgt := 133) K.1 K.2.1 dM_readSort_129 rfl ?_
            exact bM_readSort_133 K hr hZ h (lv_sub hL [1] rfl) hP hS
    · have h := h.1 hc
      refine lv_aload_n K.1 K.2.1 dM_readSort_63 rfl (lv_at hL 0 rfl) ?_
      refine lv_aload_n K.1 K.2.1 dM_readSort_64 rfl (lv_at hL 0 rfl) ?_
      refine x_get (v := .int ((u2 hi2 15 ((hi2 0 6).toNatClampNeg) (vp_nar .boolean v3)) 0 5)) K hP hinM (ci := 7) rfl 0 (by decide) rfl 5 (by decide) flM_158 rfl rfl dM_readSort_65 ?_
      refine x_cVI (As := [.int ((u2 hi2 15 ((hi2 0 6).toNatClampNeg) (vp_nar .boolean v3)) 0 5)]) (rest := []) K gT_good hZ hP hS calM_number mlM_161 0 (by decide) rfl rfl (mM_number hZ K.2.2.2.2.2.2.2.1 h) ⟨Nat.le_of_ble_eq_true rfl, Nat.le_of_ble_eq_true rfl⟩ rfl hL.1 rfl (Nat.le_of_ble_eq_true rfl) dM_readSort_68 (fun r12 hi13 hl14 H locs h hP hS => ?_)
      refine lv_istore (lv' := [(4, .int r12), (0, .ref (ad 0)), (3, .int v3)]) K.1 K.2.1 dM_readSort_71 hL (by decide) rfl (fun ls hL => ?_)
      refine lv_aload_n K.1 K.2.1 dM_readSort_73 rfl (lv_at hL 1 rfl) ?_
      refine x_get (v := .ref (ad 16)) K hP hinM (ci := 7) rfl 0 (by decide) rfl 19 (by decide) flM_56 rfl rfl dM_readSort_74 ?_
      refine lv_aload_n K.1 K.2.1 dM_readSort_77 rfl (lv_at hL 1 rfl) ?_
      refine x_get (v := .int (hi13 0 6)) K hP hinM (ci := 7) rfl 0 (by decide) rfl 6 (by decide) flM_155 rfl rfl dM_readSort_78 ?_
      refine lv_iload K.1 K.2.1 dM_readSort_81 (lv_at hL 0 rfl) ?_
      obtain ⟨g15, h⟩ := h
      refine x_iast K hP hS 16 (by decide) 0 (fun _ => rfl) rfl g15 dM_readSort_83 (fun H locs hP hS => ?_)
      refine lv_aload_n K.1 K.2.1 dM_readSort_84 rfl (lv_at hL 1 rfl) ?_
      refine lv_iload K.1 K.2.1 dM_readSort_85 (lv_at hL 0 rfl) ?_
      refine lv_iconst (v := 1) K.1 K.2.1 dM_readSort_87 (by decide) ?_
      refine lv_iconst (v := 3) K.1 K.2.1 dM_readSort_88 (by decide) ?_
      refine x_cSI (As := [.int r12, .int (1 : Int32), .int (3 : Int32)]) (rest := [.ref (ad 0)]) K gT_good hZ hP hS calM_in mlM_75 (mM_in hZ K.2.2.2.2.2.2.2.1 h) ⟨Nat.le_of_ble_eq_true rfl, Nat.le_of_ble_eq_true rfl⟩ rfl hL.1 rfl (Nat.le_of_ble_eq_true rfl) dM_readSort_89 (fun r16 hi17 hl18 H locs h hP hS => ?_)
      refine x_cVI (As := [.int r16]) (rest := []) K gT_good hZ hP hS calM_on mlM_184 0 (by decide) rfl rfl (mM_on hZ K.2.2.2.2.2.2.2.1 h) ⟨Nat.le_of_ble_eq_true rfl, Nat.le_of_ble_eq_true rfl⟩ rfl hL.1 rfl (Nat.le_of_ble_eq_true rfl) dM_readSort_92 (fun r19 hi20 hl21 H locs h hP hS => ?_)
      obtain ⟨g22, h⟩ := h
      exact x_zret K hr hP hS g22 h dM_readSort_95
  · have h := h.1 hc
    refine lv_iconst (v := 0) K.1 K.2.1 dM_readSort_47 (by decide) ?_
    obtain ⟨g23, h⟩ := h
    exact x_zret K hr hP hS g23 h dM_readSort_48
set_option maxRecDepth 100000 in
set_option maxHeartbeats 4000000 in
theorem bM_readSort_36 {p : Program} {l : Launch} {e : Env} {s : State} {m : MethodId} {args : Array Value} {below : List Frame} {meth : Method} {c : Code} {D : va_G} {cI cJ cC cZ cR : ClassId} {ad : Nat → Nat} {A : Nat → Prop} {Zs : State → Prop} (K : Cx p (rmX 4 90) s m args meth c cM_readSort 6 "WordCheckerModel" gT D cls8 (tys5 cI cJ cC cZ cR) 21 ad A Zs) (hr : meth.sig.returnType = (some .boolean)) (hZ : ZsOK A Zs) {Φ : Int32 → HI → HL → Prop} {v3 : Int32} {hi : HI} {hl : HL} {H : Heap} {locs : List Loc} (h : wbM_readSort_36 v3 hi hl Φ) {ls : Array Slot} (hL : lv_has ls 6 [(0, .ref (ad 0)), (3, .int v3)]) (hP : va_P D cls8 (wl 21 ad (GM cI cZ ad) hi hl) H) (hS : va_S A s.heap H locs) : W p l e (rmX 4 90) s m args below meth c H locs 0 0 (MQ below (va_Qi (fun r (u : HI × HL) => Φ r u.1 u.2) (fun u t => va_P D cls8 (wl 21 ad (GM cI cZ ad) u.1 u.2) t.heap) A) args s 0 0 A) (F0 m 36 ls [.ref (ad 0)]) := by
  unfold wbM_readSort_36 at h
  refine lv_iconst (v := 1) K.1 K.2.1 dM_readSort_36 (by decide) ?_
  refine lv_goto (tgt := 41) K.1 K.2.1 dM_readSort_37 rfl ?_
  exact bM_readSort_41 K hr hZ h (lv_sub hL [0, 1] rfl) hP hS
set_option maxRecDepth 100000 in
set_option maxHeartbeats 4000000 in
theorem bM_readSort_22 {p : Program} {l : Launch} {e : Env} {s : State} {m : MethodId} {args : Array Value} {below : List Frame} {meth : Method} {c : Code} {D : va_G} {cI cJ cC cZ cR : ClassId} {ad : Nat → Nat} {A : Nat → Prop} {Zs : State → Prop} (K : Cx p (rmX 4 90) s m args meth c cM_readSort 6 "WordCheckerModel" gT D cls8 (tys5 cI cJ cC cZ cR) 21 ad A Zs) (hr : meth.sig.returnType = (some .boolean)) (hZ : ZsOK A Zs) {Φ : Int32 → HI → HL → Prop} {v1 : Int64} {q0 : Int32} {hi : HI} {hl : HL} {H : Heap} {locs : List Loc} (h : wbM_readSort_22 v1 q0 hi hl Φ) {ls : Array Slot} (hL : lv_has ls 6 [(0, .ref (ad 0)), (1, .long v1)]) (hP : va_P D cls8 (wl 21 ad (GM cI cZ ad) hi hl) H) (hS : va_S A s.heap H locs) : W p l e (rmX 4 90) s m args below meth c H locs 0 0 (MQ below (va_Qi (fun r (u : HI × HL) => Φ r u.1 u.2) (fun u t => va_P D cls8 (wl 21 ad (GM cI cZ ad) u.1 u.2) t.heap) A) args s 0 0 A) (F0 m 22 ls [.int q0]) := by
  unfold wbM_readSort_22 at h
  refine lv_istore_n (lv' := [(3, .int q0), (0, .ref (ad 0)), (1, .long v1)]) K.1 K.2.1 dM_readSort_22 rfl hL (by decide) rfl (fun ls hL => ?_)
  refine lv_aload_n K.1 K.2.1 dM_readSort_23 rfl (lv_at hL 1 rfl) ?_
  refine lv_iload_n K.1 K.2.1 dM_readSort_24 rfl (lv_at hL 0 rfl) ?_
  refine lv_if_ne (tgt := 36) K.1 K.2.1 dM_readSort_25 rfl (fun hc => ?_) (fun hc => ?_)
  · have h := h.2 hc
    exact bM_readSort_36 K hr hZ h (lv_sub hL [1, 0] rfl) hP hS
  · have h := h.1 hc
    refine lv_lload_n K.1 K.2.1 dM_readSort_28 rfl (lv_at hL 2 rfl) ?_
    refine lv_ldc2 (v := 77224099) K.1 K.2.1 K.2.2.2.1 (K.2.2.2.2.1 _ clM_197) dM_readSort_29 ?_
    refine W.lcmp K.1 K.2.1 dM_readSort_32 ?_
    refine lv_if_ne (tgt := 40) K.1 K.2.1 dM_readSort_33 rfl (fun hc => ?_) (fun hc => ?_)
    · have h := h.2 hc
      refine lv_iconst (v := 0) K.1 K.2.1 dM_readSort_40 (by decide) ?_
      exact bM_readSort_41 K hr hZ h (lv_sub hL [1, 0] rfl) hP hS
    · have h := h.1 hc
      exact bM_readSort_36 K hr hZ h (lv_sub hL [1, 0] rfl) hP hS
set_option maxRecDepth 100000 in
set_option maxHeartbeats 4000000 in
theorem bM_readSort_0 {p : Program} {l : Launch} {e : Env} {s : State} {m : MethodId} {args : Array Value} {below : List Frame} {meth : Method} {c : Code} {D : va_G} {cI cJ cC cZ cR : ClassId} {ad : Nat → Nat} {A : Nat → Prop} {Zs : State → Prop} (K : Cx p (rmX 4 90) s m args meth c cM_readSort 6 "WordCheckerModel" gT D cls8 (tys5 cI cJ cC cZ cR) 21 ad A Zs) (hr : meth.sig.returnType = (some .boolean)) (hZ : ZsOK A Zs) {Φ : Int32 → HI → HL → Prop} {hi : HI} {hl : HL} {H : Heap} {locs : List Loc} (h : wbM_readSort_0 hi hl Φ) {ls : Array Slot} (hL : lv_has ls 6 [(0, .ref (ad 0))]) (hP : va_P D cls8 (wl 21 ad (GM cI cZ ad) hi hl) H) (hS : va_S A s.heap H locs) : W p l e (rmX 4 90) s m args below meth c H locs 0 0 (MQ below (va_Qi (fun r (u : HI × HL) => Φ r u.1 u.2) (fun u t => va_P D cls8 (wl 21 ad (GM cI cZ ad) u.1 u.2) t.heap) A) args s 0 0 A) (F0 m 0 ls []) := by
  unfold wbM_readSort_0 at h
  refine lv_aload_n K.1 K.2.1 dM_readSort_0 rfl (lv_at hL 0 rfl) ?_
  refine lv_aload_n K.1 K.2.1 dM_readSort_1 rfl (lv_at hL 0 rfl) ?_
  refine x_get (v := .int (hi 0 5)) K hP hinM (ci := 7) rfl 0 (by decide) rfl 5 (by decide) flM_158 rfl rfl dM_readSort_2 ?_
  refine x_cVJ (As := [.int (hi 0 5)]) (rest := []) K gT_good hZ hP hS calM_letters mlM_191 0 (by decide) rfl rfl (mM_letters hZ K.2.2.2.2.2.2.2.1 h) ⟨Nat.le_of_ble_eq_true rfl, Nat.le_of_ble_eq_true rfl⟩ rfl hL.1 rfl (Nat.le_of_ble_eq_true rfl) dM_readSort_5 (fun r1 hi2 hl3 H locs h hP hS => ?_)
  refine lv_lstore_n (lv' := [(1, .long r1), (0, .ref (ad 0))]) K.1 K.2.1 dM_readSort_8 rfl hL (by decide) rfl (fun ls hL => ?_)
  refine lv_lload_n K.1 K.2.1 dM_readSort_9 rfl (lv_at hL 0 rfl) ?_
  refine lv_ldc2 (v := 1656889) K.1 K.2.1 K.2.2.2.1 (K.2.2.2.2.1 _ clM_195) dM_readSort_10 ?_
  refine W.lcmp K.1 K.2.1 dM_readSort_13 ?_
  refine lv_if_ne (tgt := 21) K.1 K.2.1 dM_readSort_14 rfl (fun hc => ?_) (fun hc => ?_)
  · have h := h.2 hc
    refine lv_iconst (v := 0) K.1 K.2.1 dM_readSort_21 (by decide) ?_
    exact bM_readSort_22 K hr hZ h (lv_sub hL [1, 0] rfl) hP hS
  · have h := h.1 hc
    refine lv_iconst (v := 1) K.1 K.2.1 dM_readSort_17 (by decide) ?_
    refine lv_goto (tgt := 22) K.1 K.2.1 dM_readSort_18 rfl ?_
    exact bM_readSort_22 K hr hZ h (lv_sub hL [1, 0] rfl) hP hS
set_option maxRecDepth 100000 in
set_option maxHeartbeats 4000000 in
theorem mM_readSort {l : Launch} {D : va_G} {cI cJ cC cZ cR : ClassId} {ad : Nat → Nat} {A : Nat → Prop} {Zs : State → Prop} (hZ : ZsOK A Zs) (hD : wlD 21 ad A) {hi : HI} {hl : HL} {Φ : Int32 → HI → HL → Prop} (h : wpM_readSort hi hl Φ) : SpI l yM_readSort cM_readSort 6 (some .boolean) gT 4 90 [.ref (ad 0)] D cls8 (tys5 cI cJ cC cZ cR) 21 ad (GM cI cZ ad) A Zs hi hl Φ := by
  refine Met.ofW (cc := cM_readSort) (maxL := 6) (ret := (some .boolean)) (by decide) rfl ?_
  intro p e s m args below meth c s₁ B hml hv
  obtain ⟨rfl, hP, hK, hZs⟩ := hv
  have K : Cx p (rmX 4 90) s m _ meth c cM_readSort 6 "WordCheckerModel" gT D cls8 (tys5 cI cJ cC cZ cR) 21 ad A Zs := ⟨B.exec, B.bytes, hml, findClass_of_methodNamed B.named, fun w hw => atoms_spec B.pre w (List.mem_cons_of_mem _ hw), B.notSynchronized, hK, hD, hZs⟩
  have hL := lv_entry ([.ref (ad 0)]) (n := 6) (Nat.le_of_ble_eq_true rfl)
  rw [lg_entry_eq]
  generalize (lg_sl ([.ref (ad 0)]) ++ List.replicate (6 - (lg_sl ([.ref (ad 0)])).length) Slot.unset).toArray = ls at hL ⊢
  have hL : lv_has ls 6 [(0, .ref (ad 0))] := hL
  unfold wpM_readSort at h
  exact bM_readSort_0 K B.returns hZ h (lv_sub hL [0] rfl) hP va_S.rf
set_option maxRecDepth 100000 in
set_option maxHeartbeats 4000000 in
theorem bM_total_38 {p : Program} {l : Launch} {e : Env} {s : State} {m : MethodId} {args : Array Value} {below : List Frame} {meth : Method} {c : Code} {D : va_G} {cI cJ cC cZ cR : ClassId} {ad : Nat → Nat} {A : Nat → Prop} {Zs : State → Prop} (K : Cx p (rmX 1 21) s m args meth c cM_total 4 "WordCheckerModel" gT D cls8 (tys5 cI cJ cC cZ cR) 21 ad A Zs) (hr : meth.sig.returnType = (some .int)) (hZ : ZsOK A Zs) {Φ : Int32 → HI → HL → Prop} {k4 : Int32 → Int32 → Int32 → HI → HL → Prop} (hk4 : ∀ (v1 : Int32) (v2 : Int32) (v3 : Int32) (hi : HI) (hl : HL) (ls : Array Slot) (H : Heap) (locs : List Loc), k4 v1 v2 v3 hi hl → lv_has ls 4 [(0, .ref (ad 0)), (1, .int v1), (2, .int v2), (3, .int v3)] → va_P D cls8 (wl 21 ad (GM cI cZ ad) hi hl) H → va_S A s.heap H locs → W p l e (rmX 1 21) s m args below meth c H locs 0 0 (MQ below (va_Qi (fun r (u : HI × HL) => Φ r u.1 u.2) (fun u t => va_P D cls8 (wl 21 ad (GM cI cZ ad) u.1 u.2) t.heap) A) args s 0 0 A) (F0 m 4 ls [])) {v1 : Int32} {v3 : Int32} {q0 : Int32} {hi : HI} {hl : HL} {H : Heap} {locs : List Loc} (h : wbM_total_38 k4 v1 v3 q0 hi hl Φ) {ls : Array Slot} (hL : lv_has ls 4 [(0, .ref (ad 0)), (1, .int v1), (3, .int v3)]) (hP : va_P D cls8 (wl 21 ad (GM cI cZ ad) hi hl) H) (hS : va_S A s.heap H locs) : W p l e (rmX 1 21) s m args below meth c H locs 0 0 (MQ below (va_Qi (fun r (u : HI × HL) => Φ r u.1 u.2) (fun u t => va_P D cls8 (wl 21 ad (GM cI cZ ad) u.1 u.2) t.heap) A) args s 0 0 A) (F0 m 38 ls [.int q0]) := by
  unfold wbM_total_38 at h
  refine lv_istore_n (lv' := [(2, .int q0), (0, .ref (ad 0)), (1, .int v1), (3, .int v3)]) K.1 K.2.1 dM_total_38 rfl hL (by decide) rfl (fun ls hL => ?_)
  refine lv_iinc (k := 3) (lv' := [(3, .int (v3 + Int32.ofInt (1))), (2, .int q0), (0, .ref (ad 0)), (1, .int v1)]) K.1 K.2.1 dM_total_39 hL rfl rfl (by decide) rfl (fun ls hL => ?_)
  refine lv_goto (tgt := 4) K.1 K.2.1 dM_total_42 rfl ?_
  exact hk4 _ _ _ _ _ _ _ _ h (lv_sub hL [2, 3, 1, 0] rfl) hP hS
set_option maxRecDepth 100000 in
set_option maxHeartbeats 4000000 in
theorem bM_total_4 {p : Program} {l : Launch} {e : Env} {s : State} {m : MethodId} {args : Array Value} {below : List Frame} {meth : Method} {c : Code} {D : va_G} {cI cJ cC cZ cR : ClassId} {ad : Nat → Nat} {A : Nat → Prop} {Zs : State → Prop} (K : Cx p (rmX 1 21) s m args meth c cM_total 4 "WordCheckerModel" gT D cls8 (tys5 cI cJ cC cZ cR) 21 ad A Zs) (hr : meth.sig.returnType = (some .int)) (hZ : ZsOK A Zs) {Φ : Int32 → HI → HL → Prop} {n : Nat} {v1 : Int32} {v2 : Int32} {v3 : Int32} {hi : HI} {hl : HL} {H : Heap} {locs : List Loc} (h : wbM_total_4 n v1 v2 v3 hi hl Φ) {ls : Array Slot} (hL : lv_has ls 4 [(0, .ref (ad 0)), (1, .int v1), (2, .int v2), (3, .int v3)]) (hP : va_P D cls8 (wl 21 ad (GM cI cZ ad) hi hl) H) (hS : va_S A s.heap H locs) : W p l e (rmX 1 21) s m args below meth c H locs 0 0 (MQ below (va_Qi (fun r (u : HI × HL) => Φ r u.1 u.2) (fun u t => va_P D cls8 (wl 21 ad (GM cI cZ ad) u.1 u.2) t.heap) A) args s 0 0 A) (F0 m 4 ls []) := by
  induction n generalizing v1 v2 v3 hi hl ls H locs with
  | zero => exact False.elim h
  | succ n ih =>
    unfold wbM_total_4 at h
    refine lv_iload_n K.1 K.2.1 dM_total_4 rfl (lv_at hL 3 rfl) ?_
    refine lv_aload_n K.1 K.2.1 dM_total_5 rfl (lv_at hL 0 rfl) ?_
    refine x_get (v := .int (hi 0 6)) K hP hinM (ci := 7) rfl 0 (by decide) rfl 6 (by decide) flM_155 rfl rfl dM_total_6 ?_
    refine lv_icmp_ge (tgt := 45) K.1 K.2.1 dM_total_9 rfl (fun hc => ?_) (fun hc => ?_)
    · have h := h.1 hc
      refine lv_iload_n K.1 K.2.1 dM_total_45 rfl (lv_at hL 2 rfl) ?_
      exact x_iret K hr hP hS h dM_total_46
    · have h := h.2 hc
      refine lv_aload_n K.1 K.2.1 dM_total_12 rfl (lv_at hL 0 rfl) ?_
      refine x_get (v := .ref (ad 5)) K hP hinM (ci := 7) rfl 0 (by decide) rfl 8 (by decide) flM_22 rfl rfl dM_total_13 ?_
      refine lv_iload_n K.1 K.2.1 dM_total_16 rfl (lv_at hL 3 rfl) ?_
      obtain ⟨g1, h⟩ := h
      refine x_iald K hP 5 (by decide) 0 rfl rfl g1 dM_total_17 ?_
      refine lv_iload_n K.1 K.2.1 dM_total_18 rfl (lv_at hL 1 rfl) ?_
      refine lv_icmp_ne (tgt := 37) K.1 K.2.1 dM_total_19 rfl (fun hc => ?_) (fun hc => ?_)
      · have h := h.2 hc
        refine lv_iload_n K.1 K.2.1 dM_total_37 rfl (lv_at hL 2 rfl) ?_
        exact bM_total_38 K hr hZ (fun v1 v2 v3 hi hl ls H locs h hL hP hS => ih h hL hP hS) h (lv_sub hL [0, 1, 3] rfl) hP hS
      · have h := h.1 hc
        refine lv_iload_n K.1 K.2.1 dM_total_22 rfl (lv_at hL 2 rfl) ?_
        refine lv_aload_n K.1 K.2.1 dM_total_23 rfl (lv_at hL 0 rfl) ?_
        refine lv_aload_n K.1 K.2.1 dM_total_24 rfl (lv_at hL 0 rfl) ?_
        refine x_get (v := .ref (ad 6)) K hP hinM (ci := 7) rfl 0 (by decide) rfl 9 (by decide) flM_25 rfl rfl dM_total_25 ?_
        refine lv_iload_n K.1 K.2.1 dM_total_28 rfl (lv_at hL 3 rfl) ?_
        obtain ⟨g2, h⟩ := h
        refine x_iald K hP 6 (by decide) 0 rfl rfl g2 dM_total_29 ?_
        refine x_cVI (As := [.int (hi 6 (v3.toNatClampNeg))]) (rest := [.int v2]) K gT_good hZ hP hS calM_bits mlM_202 0 (by decide) rfl rfl (mM_bits hZ K.2.2.2.2.2.2.2.1 h) ⟨Nat.le_of_ble_eq_true rfl, Nat.le_of_ble_eq_true rfl⟩ rfl hL.1 rfl (Nat.le_of_ble_eq_true rfl) dM_total_30 (fun r3 hi4 hl5 H locs h hP hS => ?_)
        refine lv_iadd K.1 K.2.1 dM_total_33 ?_
        refine lv_goto (tgt := 38) K.1 K.2.1 dM_total_34 rfl ?_
        exact bM_total_38 K hr hZ (fun v1 v2 v3 hi hl ls H locs h hL hP hS => ih h hL hP hS) h (lv_sub hL [0, 1, 3] rfl) hP hS
set_option maxRecDepth 100000 in
set_option maxHeartbeats 4000000 in
theorem bM_total_0 {p : Program} {l : Launch} {e : Env} {s : State} {m : MethodId} {args : Array Value} {below : List Frame} {meth : Method} {c : Code} {D : va_G} {cI cJ cC cZ cR : ClassId} {ad : Nat → Nat} {A : Nat → Prop} {Zs : State → Prop} (K : Cx p (rmX 1 21) s m args meth c cM_total 4 "WordCheckerModel" gT D cls8 (tys5 cI cJ cC cZ cR) 21 ad A Zs) (hr : meth.sig.returnType = (some .int)) (hZ : ZsOK A Zs) {Φ : Int32 → HI → HL → Prop} {v1 : Int32} {hi : HI} {hl : HL} {H : Heap} {locs : List Loc} (h : wbM_total_0 v1 hi hl Φ) {ls : Array Slot} (hL : lv_has ls 4 [(0, .ref (ad 0)), (1, .int v1)]) (hP : va_P D cls8 (wl 21 ad (GM cI cZ ad) hi hl) H) (hS : va_S A s.heap H locs) : W p l e (rmX 1 21) s m args below meth c H locs 0 0 (MQ below (va_Qi (fun r (u : HI × HL) => Φ r u.1 u.2) (fun u t => va_P D cls8 (wl 21 ad (GM cI cZ ad) u.1 u.2) t.heap) A) args s 0 0 A) (F0 m 0 ls []) := by
  unfold wbM_total_0 at h
  refine lv_iconst (v := 0) K.1 K.2.1 dM_total_0 (by decide) ?_
  refine lv_istore_n (lv' := [(2, .int (0 : Int32)), (0, .ref (ad 0)), (1, .int v1)]) K.1 K.2.1 dM_total_1 rfl hL (by decide) rfl (fun ls hL => ?_)
  refine lv_iconst (v := 0) K.1 K.2.1 dM_total_2 (by decide) ?_
  refine lv_istore_n (lv' := [(3, .int (0 : Int32)), (2, .int (0 : Int32)), (0, .ref (ad 0)), (1, .int v1)]) K.1 K.2.1 dM_total_3 rfl hL (by decide) rfl (fun ls hL => ?_)
  obtain ⟨fu, h⟩ := h
  exact bM_total_4 K hr hZ h (lv_sub hL [2, 3, 1, 0] rfl) hP hS
set_option maxRecDepth 100000 in
set_option maxHeartbeats 4000000 in
theorem mM_total {l : Launch} {D : va_G} {cI cJ cC cZ cR : ClassId} {ad : Nat → Nat} {A : Nat → Prop} {Zs : State → Prop} (hZ : ZsOK A Zs) (hD : wlD 21 ad A) {v1 : Int32} {hi : HI} {hl : HL} {Φ : Int32 → HI → HL → Prop} (h : wpM_total v1 hi hl Φ) : SpI l yM_total cM_total 4 (some .int) gT 1 21 [.ref (ad 0), .int v1] D cls8 (tys5 cI cJ cC cZ cR) 21 ad (GM cI cZ ad) A Zs hi hl Φ := by
  refine Met.ofW (cc := cM_total) (maxL := 4) (ret := (some .int)) (by decide) rfl ?_
  intro p e s m args below meth c s₁ B hml hv
  obtain ⟨rfl, hP, hK, hZs⟩ := hv
  have K : Cx p (rmX 1 21) s m _ meth c cM_total 4 "WordCheckerModel" gT D cls8 (tys5 cI cJ cC cZ cR) 21 ad A Zs := ⟨B.exec, B.bytes, hml, findClass_of_methodNamed B.named, fun w hw => atoms_spec B.pre w (List.mem_cons_of_mem _ hw), B.notSynchronized, hK, hD, hZs⟩
  have hL := lv_entry ([.ref (ad 0), .int v1]) (n := 4) (Nat.le_of_ble_eq_true rfl)
  rw [lg_entry_eq]
  generalize (lg_sl ([.ref (ad 0), .int v1]) ++ List.replicate (4 - (lg_sl ([.ref (ad 0), .int v1])).length) Slot.unset).toArray = ls at hL ⊢
  have hL : lv_has ls 4 [(0, .ref (ad 0)), (1, .int v1)] := hL
  unfold wpM_total at h
  exact bM_total_0 K B.returns hZ h (lv_sub hL [0, 1] rfl) hP va_S.rf
set_option maxRecDepth 100000 in
set_option maxHeartbeats 4000000 in
theorem bM_readState_62 {p : Program} {l : Launch} {e : Env} {s : State} {m : MethodId} {args : Array Value} {below : List Frame} {meth : Method} {c : Code} {D : va_G} {cI cJ cC cZ cR : ClassId} {ad : Nat → Nat} {A : Nat → Prop} {Zs : State → Prop} (K : Cx p (rmX 4 90) s m args meth c cM_readState 3 "WordCheckerModel" gT D cls8 (tys5 cI cJ cC cZ cR) 21 ad A Zs) (hr : meth.sig.returnType = (some .boolean)) (hZ : ZsOK A Zs) {Φ : Int32 → HI → HL → Prop} {hi : HI} {hl : HL} {H : Heap} {locs : List Loc} (h : wbM_readState_62 hi hl Φ) {ls : Array Slot} (hL : lv_has ls 3 []) (hP : va_P D cls8 (wl 21 ad (GM cI cZ ad) hi hl) H) (hS : va_S A s.heap H locs) : W p l e (rmX 4 90) s m args below meth c H locs 0 0 (MQ below (va_Qi (fun r (u : HI × HL) => Φ r u.1 u.2) (fun u t => va_P D cls8 (wl 21 ad (GM cI cZ ad) u.1 u.2) t.heap) A) args s 0 0 A) (F0 m 62 ls [.ref (ad 0)]) := by
  unfold wbM_readState_62 at h
  refine lv_iconst (v := 0) K.1 K.2.1 dM_readState_62 (by decide) ?_
  refine x_cVI (As := [.int (0 : Int32)]) (rest := []) K gT_good hZ hP hS calM_on mlM_184 0 (by decide) rfl rfl (mM_on hZ K.2.2.2.2.2.2.2.1 h) ⟨Nat.le_of_ble_eq_true rfl, Nat.le_of_ble_eq_true rfl⟩ rfl hL.1 rfl (Nat.le_of_ble_eq_true rfl) dM_readState_63 (fun r1 hi2 hl3 H locs h hP hS => ?_)
  obtain ⟨g4, h⟩ := h
  exact x_zret K hr hP hS g4 h dM_readState_66
set_option maxRecDepth 100000 in
set_option maxHeartbeats 4000000 in
theorem bM_readState_55 {p : Program} {l : Launch} {e : Env} {s : State} {m : MethodId} {args : Array Value} {below : List Frame} {meth : Method} {c : Code} {D : va_G} {cI cJ cC cZ cR : ClassId} {ad : Nat → Nat} {A : Nat → Prop} {Zs : State → Prop} (K : Cx p (rmX 4 90) s m args meth c cM_readState 3 "WordCheckerModel" gT D cls8 (tys5 cI cJ cC cZ cR) 21 ad A Zs) (hr : meth.sig.returnType = (some .boolean)) (hZ : ZsOK A Zs) {Φ : Int32 → HI → HL → Prop} {q1 : Int32} {q2 : Int32} {hi : HI} {hl : HL} {H : Heap} {locs : List Loc} (h : wbM_readState_55 q1 q2 hi hl Φ) {ls : Array Slot} (hL : lv_has ls 3 []) (hP : va_P D cls8 (wl 21 ad (GM cI cZ ad) hi hl) H) (hS : va_S A s.heap H locs) : W p l e (rmX 4 90) s m args below meth c H locs 0 0 (MQ below (va_Qi (fun r (u : HI × HL) => Φ r u.1 u.2) (fun u t => va_P D cls8 (wl 21 ad (GM cI cZ ad) u.1 u.2) t.heap) A) args s 0 0 A) (F0 m 55 ls [.int q2, .int q1, .ref (ad 0)]) := by
  unfold wbM_readState_55 at h
  refine lv_icmp_gt (tgt := 62) K.1 K.2.1 dM_readState_55 rfl (fun hc => ?_) (fun hc => ?_)
  · have h := h.1 hc
    exact bM_readState_62 K hr hZ h (lv_sub hL [] rfl) hP hS
  · have h := h.2 hc
    refine lv_iconst (v := 1) K.1 K.2.1 dM_readState_58 (by decide) ?_
    refine lv_goto (tgt := 63) K.1 K.2.1 dM_readState_59 rfl ?_
    refine x_cVI (As := [.int (1 : Int32)]) (rest := []) K gT_good hZ hP hS calM_on mlM_184 0 (by decide) rfl rfl (mM_on hZ K.2.2.2.2.2.2.2.1 h) ⟨Nat.le_of_ble_eq_true rfl, Nat.le_of_ble_eq_true rfl⟩ rfl hL.1 rfl (Nat.le_of_ble_eq_true rfl) dM_readState_63 (fun r1 hi2 hl3 H locs h hP hS => ?_)
    obtain ⟨g4, h⟩ := h
    exact x_zret K hr hP hS g4 h dM_readState_66
set_option maxRecDepth 100000 in
set_option maxHeartbeats 4000000 in
theorem bM_readState_33 {p : Program} {l : Launch} {e : Env} {s : State} {m : MethodId} {args : Array Value} {below : List Frame} {meth : Method} {c : Code} {D : va_G} {cI cJ cC cZ cR : ClassId} {ad : Nat → Nat} {A : Nat → Prop} {Zs : State → Prop} (K : Cx p (rmX 4 90) s m args meth c cM_readState 3 "WordCheckerModel" gT D cls8 (tys5 cI cJ cC cZ cR) 21 ad A Zs) (hr : meth.sig.returnType = (some .boolean)) (hZ : ZsOK A Zs) {Φ : Int32 → HI → HL → Prop} {v1 : Int32} {v2 : Int32} {hi : HI} {hl : HL} {H : Heap} {locs : List Loc} (h : wbM_readState_33 v1 v2 hi hl Φ) {ls : Array Slot} (hL : lv_has ls 3 [(0, .ref (ad 0)), (1, .int v1), (2, .int v2)]) (hP : va_P D cls8 (wl 21 ad (GM cI cZ ad) hi hl) H) (hS : va_S A s.heap H locs) : W p l e (rmX 4 90) s m args below meth c H locs 0 0 (MQ below (va_Qi (fun r (u : HI × HL) => Φ r u.1 u.2) (fun u t => va_P D cls8 (wl 21 ad (GM cI cZ ad) u.1 u.2) t.heap) A) args s 0 0 A) (F0 m 33 ls [.ref (ad 0)]) := by
  unfold wbM_readState_33 at h
  refine lv_aload_n K.1 K.2.1 dM_readState_33 rfl (lv_at hL 0 rfl) ?_
  refine lv_iload_n K.1 K.2.1 dM_readState_34 rfl (lv_at hL 1 rfl) ?_
  refine x_cVI (As := [.int v1]) (rest := [.ref (ad 0)]) K gT_good hZ hP hS calM_total mlM_205 0 (by decide) rfl rfl (mM_total hZ K.2.2.2.2.2.2.2.1 h) ⟨Nat.le_of_ble_eq_true rfl, Nat.le_of_ble_eq_true rfl⟩ rfl hL.1 rfl (Nat.le_of_ble_eq_true rfl) dM_readState_35 (fun r1 hi2 hl3 H locs h hP hS => ?_)
  refine lv_aload_n K.1 K.2.1 dM_readState_38 rfl (lv_at hL 0 rfl) ?_
  refine lv_iload_n K.1 K.2.1 dM_readState_39 rfl (lv_at hL 2 rfl) ?_
  refine x_cVI (As := [.int v2]) (rest := [.int r1, .ref (ad 0)]) K gT_good hZ hP hS calM_bits mlM_202 0 (by decide) rfl rfl (mM_bits hZ K.2.2.2.2.2.2.2.1 h) ⟨Nat.le_of_ble_eq_true rfl, Nat.le_of_ble_eq_true rfl⟩ rfl hL.1 rfl (Nat.le_of_ble_eq_true rfl) dM_readState_40 (fun r4 hi5 hl6 H locs h hP hS => ?_)
  refine lv_iadd K.1 K.2.1 dM_readState_43 ?_
  refine lv_iload_n K.1 K.2.1 dM_readState_44 rfl (lv_at hL 1 rfl) ?_
  refine lv_iconst (v := 2) K.1 K.2.1 dM_readState_45 (by decide) ?_
  refine lv_icmp_ne (tgt := 54) K.1 K.2.1 dM_readState_46 rfl (fun hc => ?_) (fun hc => ?_)
  · have h := h.2 hc
    refine lv_iconst (v := 2) K.1 K.2.1 dM_readState_54 (by decide) ?_
    exact bM_readState_55 K hr hZ h (lv_sub hL [] rfl) hP hS
  · have h := h.1 hc
    refine lv_bipush (v := 6) K.1 K.2.1 dM_readState_49 (by decide) ?_
    refine lv_goto (tgt := 55) K.1 K.2.1 dM_readState_51 rfl ?_
    exact bM_readState_55 K hr hZ h (lv_sub hL [] rfl) hP hS
set_option maxRecDepth 100000 in
set_option maxHeartbeats 4000000 in
theorem bM_readState_0 {p : Program} {l : Launch} {e : Env} {s : State} {m : MethodId} {args : Array Value} {below : List Frame} {meth : Method} {c : Code} {D : va_G} {cI cJ cC cZ cR : ClassId} {ad : Nat → Nat} {A : Nat → Prop} {Zs : State → Prop} (K : Cx p (rmX 4 90) s m args meth c cM_readState 3 "WordCheckerModel" gT D cls8 (tys5 cI cJ cC cZ cR) 21 ad A Zs) (hr : meth.sig.returnType = (some .boolean)) (hZ : ZsOK A Zs) {Φ : Int32 → HI → HL → Prop} {v1 : Int32} {hi : HI} {hl : HL} {H : Heap} {locs : List Loc} (h : wbM_readState_0 v1 hi hl Φ) {ls : Array Slot} (hL : lv_has ls 3 [(0, .ref (ad 0)), (1, .int v1)]) (hP : va_P D cls8 (wl 21 ad (GM cI cZ ad) hi hl) H) (hS : va_S A s.heap H locs) : W p l e (rmX 4 90) s m args below meth c H locs 0 0 (MQ below (va_Qi (fun r (u : HI × HL) => Φ r u.1 u.2) (fun u t => va_P D cls8 (wl 21 ad (GM cI cZ ad) u.1 u.2) t.heap) A) args s 0 0 A) (F0 m 0 ls []) := by
  unfold wbM_readState_0 at h
  refine lv_aload_n K.1 K.2.1 dM_readState_0 rfl (lv_at hL 0 rfl) ?_
  refine x_cVI (As := []) (rest := []) K gT_good hZ hP hS calM_sortWord mlM_199 0 (by decide) rfl rfl (mM_sortWord hZ K.2.2.2.2.2.2.2.1 h) ⟨Nat.le_of_ble_eq_true rfl, Nat.le_of_ble_eq_true rfl⟩ rfl hL.1 rfl (Nat.le_of_ble_eq_true rfl) dM_readState_1 (fun r1 hi2 hl3 H locs h hP hS => ?_)
  refine lv_istore_n (lv' := [(2, .int r1), (0, .ref (ad 0)), (1, .int v1)]) K.1 K.2.1 dM_readState_4 rfl hL (by decide) rfl (fun ls hL => ?_)
  refine lv_aload_n K.1 K.2.1 dM_readState_5 rfl (lv_at hL 1 rfl) ?_
  refine x_get (v := .ref (ad 6)) K hP hinM (ci := 7) rfl 0 (by decide) rfl 9 (by decide) flM_25 rfl rfl dM_readState_6 ?_
  refine lv_aload_n K.1 K.2.1 dM_readState_9 rfl (lv_at hL 1 rfl) ?_
  refine x_get (v := .int (hi2 0 6)) K hP hinM (ci := 7) rfl 0 (by decide) rfl 6 (by decide) flM_155 rfl rfl dM_readState_10 ?_
  refine lv_iload_n K.1 K.2.1 dM_readState_13 rfl (lv_at hL 0 rfl) ?_
  obtain ⟨g4, h⟩ := h
  refine x_iast K hP hS 6 (by decide) 0 (fun _ => rfl) rfl g4 dM_readState_14 (fun H locs hP hS => ?_)
  refine lv_aload_n K.1 K.2.1 dM_readState_15 rfl (lv_at hL 1 rfl) ?_
  refine lv_iload_n K.1 K.2.1 dM_readState_16 rfl (lv_at hL 0 rfl) ?_
  refine lv_if_lt (tgt := 62) K.1 K.2.1 dM_readState_17 rfl (fun hc => ?_) (fun hc => ?_)
  · have h := h.1 hc
    exact bM_readState_62 K hr hZ h (lv_sub hL [] rfl) hP hS
  · have h := h.2 hc
    refine lv_iload_n K.1 K.2.1 dM_readState_20 rfl (lv_at hL 2 rfl) ?_
    refine lv_iconst (v := 2) K.1 K.2.1 dM_readState_21 (by decide) ?_
    refine lv_icmp_eq (tgt := 33) K.1 K.2.1 dM_readState_22 rfl (fun hc => ?_) (fun hc => ?_)
    · have h := h.1 hc
      exact bM_readState_33 K hr hZ h (lv_sub hL [1, 2, 0] rfl) hP hS
    · have h := h.2 hc
      refine lv_aload_n K.1 K.2.1 dM_readState_25 rfl (lv_at hL 1 rfl) ?_
      refine lv_iload_n K.1 K.2.1 dM_readState_26 rfl (lv_at hL 0 rfl) ?_
      refine x_cVI (As := [.int r1]) (rest := [.ref (ad 0)]) K gT_good hZ hP hS calM_isBits mlM_188 0 (by decide) rfl rfl (mM_isBits hZ K.2.2.2.2.2.2.2.1 h) ⟨Nat.le_of_ble_eq_true rfl, Nat.le_of_ble_eq_true rfl⟩ rfl hL.1 rfl (Nat.le_of_ble_eq_true rfl) dM_readState_27 (fun r5 hi6 hl7 H locs h hP hS => ?_)
      refine lv_if_eq (tgt := 62) K.1 K.2.1 dM_readState_30 rfl (fun hc => ?_) (fun hc => ?_)
      · have h := h.1 hc
        exact bM_readState_62 K hr hZ h (lv_sub hL [] rfl) hP hS
      · have h := h.2 hc
        exact bM_readState_33 K hr hZ h (lv_sub hL [1, 2, 0] rfl) hP hS
set_option maxRecDepth 100000 in
set_option maxHeartbeats 4000000 in
theorem mM_readState {l : Launch} {D : va_G} {cI cJ cC cZ cR : ClassId} {ad : Nat → Nat} {A : Nat → Prop} {Zs : State → Prop} (hZ : ZsOK A Zs) (hD : wlD 21 ad A) {v1 : Int32} {hi : HI} {hl : HL} {Φ : Int32 → HI → HL → Prop} (h : wpM_readState v1 hi hl Φ) : SpI l yM_readState cM_readState 3 (some .boolean) gT 4 90 [.ref (ad 0), .int v1] D cls8 (tys5 cI cJ cC cZ cR) 21 ad (GM cI cZ ad) A Zs hi hl Φ := by
  refine Met.ofW (cc := cM_readState) (maxL := 3) (ret := (some .boolean)) (by decide) rfl ?_
  intro p e s m args below meth c s₁ B hml hv
  obtain ⟨rfl, hP, hK, hZs⟩ := hv
  have K : Cx p (rmX 4 90) s m _ meth c cM_readState 3 "WordCheckerModel" gT D cls8 (tys5 cI cJ cC cZ cR) 21 ad A Zs := ⟨B.exec, B.bytes, hml, findClass_of_methodNamed B.named, fun w hw => atoms_spec B.pre w (List.mem_cons_of_mem _ hw), B.notSynchronized, hK, hD, hZs⟩
  have hL := lv_entry ([.ref (ad 0), .int v1]) (n := 3) (Nat.le_of_ble_eq_true rfl)
  rw [lg_entry_eq]
  generalize (lg_sl ([.ref (ad 0), .int v1]) ++ List.replicate (3 - (lg_sl ([.ref (ad 0), .int v1])).length) Slot.unset).toArray = ls at hL ⊢
  have hL : lv_has ls 3 [(0, .ref (ad 0)), (1, .int v1)] := hL
  unfold wpM_readState at h
  exact bM_readState_0 K B.returns hZ h (lv_sub hL [0, 1] rfl) hP va_S.rf
set_option maxRecDepth 100000 in
set_option maxHeartbeats 4000000 in
theorem bM_seenFree_0 {p : Program} {l : Launch} {e : Env} {s : State} {m : MethodId} {args : Array Value} {below : List Frame} {meth : Method} {c : Code} {D : va_G} {cI cJ cC cZ cR : ClassId} {ad : Nat → Nat} {A : Nat → Prop} {Zs : State → Prop} (K : Cx p (rmX 0 0) s m args meth c cM_seenFree 2 "WordCheckerModel" gT D cls8 (tys5 cI cJ cC cZ cR) 21 ad A Zs) (hr : meth.sig.returnType = (some .boolean)) (hZ : ZsOK A Zs) {Φ : Int32 → HI → HL → Prop} {v1 : Int32} {hi : HI} {hl : HL} {H : Heap} {locs : List Loc} (h : wbM_seenFree_0 v1 hi hl Φ) {ls : Array Slot} (hL : lv_has ls 2 [(0, .ref (ad 0)), (1, .int v1)]) (hP : va_P D cls8 (wl 21 ad (GM cI cZ ad) hi hl) H) (hS : va_S A s.heap H locs) : W p l e (rmX 0 0) s m args below meth c H locs 0 0 (MQ below (va_Qi (fun r (u : HI × HL) => Φ r u.1 u.2) (fun u t => va_P D cls8 (wl 21 ad (GM cI cZ ad) u.1 u.2) t.heap) A) args s 0 0 A) (F0 m 0 ls []) := by
  unfold wbM_seenFree_0 at h
  refine lv_aload_n K.1 K.2.1 dM_seenFree_0 rfl (lv_at hL 0 rfl) ?_
  refine x_get (v := .ref (ad 18)) K hP hinM (ci := 7) rfl 0 (by decide) rfl 22 (by decide) flM_62 rfl rfl dM_seenFree_1 ?_
  refine lv_iload_n K.1 K.2.1 dM_seenFree_4 rfl (lv_at hL 1 rfl) ?_
  obtain ⟨g1, h⟩ := h
  refine x_iald K hP 18 (by decide) 0 rfl rfl g1 dM_seenFree_5 ?_
  refine lv_iconst (v := 1) K.1 K.2.1 dM_seenFree_6 (by decide) ?_
  refine lv_icmp_ne (tgt := 14) K.1 K.2.1 dM_seenFree_7 rfl (fun hc => ?_) (fun hc => ?_)
  · have h := h.2 hc
    refine lv_iconst (v := 0) K.1 K.2.1 dM_seenFree_14 (by decide) ?_
    obtain ⟨g2, h⟩ := h
    exact x_zret K hr hP hS g2 h dM_seenFree_15
  · have h := h.1 hc
    refine lv_iconst (v := 1) K.1 K.2.1 dM_seenFree_10 (by decide) ?_
    refine lv_goto (tgt := 15) K.1 K.2.1 dM_seenFree_11 rfl ?_
    obtain ⟨g3, h⟩ := h
    exact x_zret K hr hP hS g3 h dM_seenFree_15
set_option maxRecDepth 100000 in
set_option maxHeartbeats 4000000 in
theorem mM_seenFree {l : Launch} {D : va_G} {cI cJ cC cZ cR : ClassId} {ad : Nat → Nat} {A : Nat → Prop} {Zs : State → Prop} (hZ : ZsOK A Zs) (hD : wlD 21 ad A) {v1 : Int32} {hi : HI} {hl : HL} {Φ : Int32 → HI → HL → Prop} (h : wpM_seenFree v1 hi hl Φ) : SpI l yM_seenFree cM_seenFree 2 (some .boolean) gT 0 0 [.ref (ad 0), .int v1] D cls8 (tys5 cI cJ cC cZ cR) 21 ad (GM cI cZ ad) A Zs hi hl Φ := by
  refine Met.ofW (cc := cM_seenFree) (maxL := 2) (ret := (some .boolean)) (by decide) rfl ?_
  intro p e s m args below meth c s₁ B hml hv
  obtain ⟨rfl, hP, hK, hZs⟩ := hv
  have K : Cx p (rmX 0 0) s m _ meth c cM_seenFree 2 "WordCheckerModel" gT D cls8 (tys5 cI cJ cC cZ cR) 21 ad A Zs := ⟨B.exec, B.bytes, hml, findClass_of_methodNamed B.named, fun w hw => atoms_spec B.pre w (List.mem_cons_of_mem _ hw), B.notSynchronized, hK, hD, hZs⟩
  have hL := lv_entry ([.ref (ad 0), .int v1]) (n := 2) (Nat.le_of_ble_eq_true rfl)
  rw [lg_entry_eq]
  generalize (lg_sl ([.ref (ad 0), .int v1]) ++ List.replicate (2 - (lg_sl ([.ref (ad 0), .int v1])).length) Slot.unset).toArray = ls at hL ⊢
  have hL : lv_has ls 2 [(0, .ref (ad 0)), (1, .int v1)] := hL
  unfold wpM_seenFree at h
  exact bM_seenFree_0 K B.returns hZ h (lv_sub hL [0, 1] rfl) hP va_S.rf
set_option maxRecDepth 100000 in
set_option maxHeartbeats 4000000 in
theorem bM_fixed_196 {p : Program} {l : Launch} {e : Env} {s : State} {m : MethodId} {args : Array Value} {below : List Frame} {meth : Method} {c : Code} {D : va_G} {cI cJ cC cZ cR : ClassId} {ad : Nat → Nat} {A : Nat → Prop} {Zs : State → Prop} (K : Cx p (rmX 1 21) s m args meth c cM_fixed 6 "WordCheckerModel" gT D cls8 (tys5 cI cJ cC cZ cR) 21 ad A Zs) (hr : meth.sig.returnType = (some .boolean)) (hZ : ZsOK A Zs) {Φ : Int32 → HI → HL → Prop} {k16 : Int32 → Int32 → Int32 → HI → HL → Prop} (hk16 : ∀ (v1 : Int32) (v2 : Int32) (v3 : Int32) (hi : HI) (hl : HL) (ls : Array Slot) (H : Heap) (locs : List Loc), k16 v1 v2 v3 hi hl → lv_has ls 6 [(0, .ref (ad 0)), (1, .int v1), (2, .int v2), (3, .int v3)] → va_P D cls8 (wl 21 ad (GM cI cZ ad) hi hl) H → va_S A s.heap H locs → W p l e (rmX 1 21) s m args below meth c H locs 0 0 (MQ below (va_Qi (fun r (u : HI × HL) => Φ r u.1 u.2) (fun u t => va_P D cls8 (wl 21 ad (GM cI cZ ad) u.1 u.2) t.heap) A) args s 0 0 A) (F0 m 16 ls [])) {v1 : Int32} {v3 : Int32} {q0 : Int32} {hi : HI} {hl : HL} {H : Heap} {locs : List Loc} (h : wbM_fixed_196 k16 v1 v3 q0 hi hl Φ) {ls : Array Slot} (hL : lv_has ls 6 [(0, .ref (ad 0)), (1, .int v1), (3, .int v3)]) (hP : va_P D cls8 (wl 21 ad (GM cI cZ ad) hi hl) H) (hS : va_S A s.heap H locs) : W p l e (rmX 1 21) s m args below meth c H locs 0 0 (MQ below (va_Qi (fun r (u : HI × HL) => Φ r u.1 u.2) (fun u t => va_P D cls8 (wl 21 ad (GM cI cZ ad) u.1 u.2) t.heap) A) args s 0 0 A) (F0 m 196 ls [.int q0]) := by
  unfold wbM_fixed_196 at h
  refine lv_istore_n (lv' := [(2, .int q0), (0, .ref (ad 0)), (1, .int v1), (3, .int v3)]) K.1 K.2.1 dM_fixed_196 rfl hL (by decide) rfl (fun ls hL => ?_)
  refine lv_iinc (k := 3) (lv' := [(3, .int (v3 + Int32.ofInt (1))), (2, .int q0), (0, .ref (ad 0)), (1, .int v1)]) K.1 K.2.1 dM_fixed_197 hL rfl rfl (by decide) rfl (fun ls hL => ?_)
  refine lv_goto (tgt := 16) K.1 K.2.1 dM_fixed_200 rfl ?_
  exact hk16 _ _ _ _ _ _ _ _ h (lv_sub hL [2, 3, 1, 0] rfl) hP hS
set_option maxRecDepth 100000 in
set_option maxHeartbeats 4000000 in
theorem bM_fixed_176 {p : Program} {l : Launch} {e : Env} {s : State} {m : MethodId} {args : Array Value} {below : List Frame} {meth : Method} {c : Code} {D : va_G} {cI cJ cC cZ cR : ClassId} {ad : Nat → Nat} {A : Nat → Prop} {Zs : State → Prop} (K : Cx p (rmX 1 21) s m args meth c cM_fixed 6 "WordCheckerModel" gT D cls8 (tys5 cI cJ cC cZ cR) 21 ad A Zs) (hr : meth.sig.returnType = (some .boolean)) (hZ : ZsOK A Zs) {Φ : Int32 → HI → HL → Prop} {k16 : Int32 → Int32 → Int32 → HI → HL → Prop} (hk16 : ∀ (v1 : Int32) (v2 : Int32) (v3 : Int32) (hi : HI) (hl : HL) (ls : Array Slot) (H : Heap) (locs : List Loc), k16 v1 v2 v3 hi hl → lv_has ls 6 [(0, .ref (ad 0)), (1, .int v1), (2, .int v2), (3, .int v3)] → va_P D cls8 (wl 21 ad (GM cI cZ ad) hi hl) H → va_S A s.heap H locs → W p l e (rmX 1 21) s m args below meth c H locs 0 0 (MQ below (va_Qi (fun r (u : HI × HL) => Φ r u.1 u.2) (fun u t => va_P D cls8 (wl 21 ad (GM cI cZ ad) u.1 u.2) t.heap) A) args s 0 0 A) (F0 m 16 ls [])) {v1 : Int32} {v2 : Int32} {v3 : Int32} {v4 : Int32} {q1 : Int32} {q2 : Int32} {hi : HI} {hl : HL} {H : Heap} {locs : List Loc} (h : wbM_fixed_176 k16 v1 v2 v3 v4 q1 q2 hi hl Φ) {ls : Array Slot} (hL : lv_has ls 6 [(0, .ref (ad 0)), (1, .int v1), (2, .int v2), (3, .int v3), (4, .int v4)]) (hP : va_P D cls8 (wl 21 ad (GM cI cZ ad) hi hl) H) (hS : va_S A s.heap H locs) : W p l e (rmX 1 21) s m args below meth c H locs 0 0 (MQ below (va_Qi (fun r (u : HI × HL) => Φ r u.1 u.2) (fun u t => va_P D cls8 (wl 21 ad (GM cI cZ ad) u.1 u.2) t.heap) A) args s 0 0 A) (F0 m 176 ls [.int q2, .int q1, .ref (ad 18)]) := by
  unfold wbM_fixed_176 at h
  obtain ⟨g1, h⟩ := h
  refine x_iast K hP hS 18 (by decide) 0 (fun _ => rfl) rfl g1 dM_fixed_176 (fun H locs hP hS => ?_)
  refine lv_iload_n K.1 K.2.1 dM_fixed_177 rfl (lv_at hL 3 rfl) ?_
  refine lv_iload_n K.1 K.2.1 dM_fixed_178 rfl (lv_at hL 1 rfl) ?_
  refine lv_icmp_ne (tgt := 195) K.1 K.2.1 dM_fixed_179 rfl (fun hc => ?_) (fun hc => ?_)
  · have h := h.2 hc
    refine lv_iload_n K.1 K.2.1 dM_fixed_195 rfl (lv_at hL 2 rfl) ?_
    exact bM_fixed_196 K hr hZ hk16 h (lv_sub hL [0, 1, 3] rfl) hP hS
  · have h := h.1 hc
    refine lv_iload K.1 K.2.1 dM_fixed_182 (lv_at hL 4 rfl) ?_
    refine lv_if_ne (tgt := 191) K.1 K.2.1 dM_fixed_184 rfl (fun hc => ?_) (fun hc => ?_)
    · have h := h.2 hc
      refine lv_iconst (v := 0) K.1 K.2.1 dM_fixed_191 (by decide) ?_
      refine lv_goto (tgt := 196) K.1 K.2.1 dM_fixed_192 rfl ?_
      exact bM_fixed_196 K hr hZ hk16 h (lv_sub hL [0, 1, 3] rfl) hP hS
    · have h := h.1 hc
      refine lv_iconst (v := 1) K.1 K.2.1 dM_fixed_187 (by decide) ?_
      refine lv_goto (tgt := 196) K.1 K.2.1 dM_fixed_188 rfl ?_
      exact bM_fixed_196 K hr hZ hk16 h (lv_sub hL [0, 1, 3] rfl) hP hS
set_option maxRecDepth 100000 in
set_option maxHeartbeats 4000000 in
theorem bM_fixed_159 {p : Program} {l : Launch} {e : Env} {s : State} {m : MethodId} {args : Array Value} {below : List Frame} {meth : Method} {c : Code} {D : va_G} {cI cJ cC cZ cR : ClassId} {ad : Nat → Nat} {A : Nat → Prop} {Zs : State → Prop} (K : Cx p (rmX 1 21) s m args meth c cM_fixed 6 "WordCheckerModel" gT D cls8 (tys5 cI cJ cC cZ cR) 21 ad A Zs) (hr : meth.sig.returnType = (some .boolean)) (hZ : ZsOK A Zs) {Φ : Int32 → HI → HL → Prop} {k16 : Int32 → Int32 → Int32 → HI → HL → Prop} (hk16 : ∀ (v1 : Int32) (v2 : Int32) (v3 : Int32) (hi : HI) (hl : HL) (ls : Array Slot) (H : Heap) (locs : List Loc), k16 v1 v2 v3 hi hl → lv_has ls 6 [(0, .ref (ad 0)), (1, .int v1), (2, .int v2), (3, .int v3)] → va_P D cls8 (wl 21 ad (GM cI cZ ad) hi hl) H → va_S A s.heap H locs → W p l e (rmX 1 21) s m args below meth c H locs 0 0 (MQ below (va_Qi (fun r (u : HI × HL) => Φ r u.1 u.2) (fun u t => va_P D cls8 (wl 21 ad (GM cI cZ ad) u.1 u.2) t.heap) A) args s 0 0 A) (F0 m 16 ls [])) {v1 : Int32} {v2 : Int32} {v3 : Int32} {q0 : Int32} {hi : HI} {hl : HL} {H : Heap} {locs : List Loc} (h : wbM_fixed_159 k16 v1 v2 v3 q0 hi hl Φ) {ls : Array Slot} (hL : lv_has ls 6 [(0, .ref (ad 0)), (1, .int v1), (2, .int v2), (3, .int v3)]) (hP : va_P D cls8 (wl 21 ad (GM cI cZ ad) hi hl) H) (hS : va_S A s.heap H locs) : W p l e (rmX 1 21) s m args below meth c H locs 0 0 (MQ below (va_Qi (fun r (u : HI × HL) => Φ r u.1 u.2) (fun u t => va_P D cls8 (wl 21 ad (GM cI cZ ad) u.1 u.2) t.heap) A) args s 0 0 A) (F0 m 159 ls [.int q0]) := by
  unfold wbM_fixed_159 at h
  refine lv_istore (lv' := [(4, .int q0), (0, .ref (ad 0)), (1, .int v1), (2, .int v2), (3, .int v3)]) K.1 K.2.1 dM_fixed_159 hL (by decide) rfl (fun ls hL => ?_)
  refine lv_aload_n K.1 K.2.1 dM_fixed_161 rfl (lv_at hL 1 rfl) ?_
  refine x_get (v := .ref (ad 18)) K hP hinM (ci := 7) rfl 0 (by decide) rfl 22 (by decide) flM_62 rfl rfl dM_fixed_162 ?_
  refine lv_iload_n K.1 K.2.1 dM_fixed_165 rfl (lv_at hL 4 rfl) ?_
  refine lv_iload K.1 K.2.1 dM_fixed_166 (lv_at hL 0 rfl) ?_
  refine lv_if_eq (tgt := 175) K.1 K.2.1 dM_fixed_168 rfl (fun hc => ?_) (fun hc => ?_)
  · have h := h.1 hc
    refine lv_iconst (v := 0) K.1 K.2.1 dM_fixed_175 (by decide) ?_
    exact bM_fixed_176 K hr hZ hk16 h (lv_sub hL [1, 2, 3, 4, 0] rfl) hP hS
  · have h := h.2 hc
    refine lv_iconst (v := 1) K.1 K.2.1 dM_fixed_171 (by decide) ?_
    refine lv_goto (tgt := 176) K.1 K.2.1 dM_fixed_172 rfl ?_
    exact bM_fixed_176 K hr hZ hk16 h (lv_sub hL [1, 2, 3, 4, 0] rfl) hP hS
set_option maxRecDepth 100000 in
set_option maxHeartbeats 4000000 in
theorem bM_fixed_154 {p : Program} {l : Launch} {e : Env} {s : State} {m : MethodId} {args : Array Value} {below : List Frame} {meth : Method} {c : Code} {D : va_G} {cI cJ cC cZ cR : ClassId} {ad : Nat → Nat} {A : Nat → Prop} {Zs : State → Prop} (K : Cx p (rmX 1 21) s m args meth c cM_fixed 6 "WordCheckerModel" gT D cls8 (tys5 cI cJ cC cZ cR) 21 ad A Zs) (hr : meth.sig.returnType = (some .boolean)) (hZ : ZsOK A Zs) {Φ : Int32 → HI → HL → Prop} {k16 : Int32 → Int32 → Int32 → HI → HL → Prop} (hk16 : ∀ (v1 : Int32) (v2 : Int32) (v3 : Int32) (hi : HI) (hl : HL) (ls : Array Slot) (H : Heap) (locs : List Loc), k16 v1 v2 v3 hi hl → lv_has ls 6 [(0, .ref (ad 0)), (1, .int v1), (2, .int v2), (3, .int v3)] → va_P D cls8 (wl 21 ad (GM cI cZ ad) hi hl) H → va_S A s.heap H locs → W p l e (rmX 1 21) s m args below meth c H locs 0 0 (MQ below (va_Qi (fun r (u : HI × HL) => Φ r u.1 u.2) (fun u t => va_P D cls8 (wl 21 ad (GM cI cZ ad) u.1 u.2) t.heap) A) args s 0 0 A) (F0 m 16 ls [])) {v1 : Int32} {v2 : Int32} {v3 : Int32} {hi : HI} {hl : HL} {H : Heap} {locs : List Loc} (h : wbM_fixed_154 k16 v1 v2 v3 hi hl Φ) {ls : Array Slot} (hL : lv_has ls 6 [(0, .ref (ad 0)), (1, .int v1), (2, .int v2), (3, .int v3)]) (hP : va_P D cls8 (wl 21 ad (GM cI cZ ad) hi hl) H) (hS : va_S A s.heap H locs) : W p l e (rmX 1 21) s m args below meth c H locs 0 0 (MQ below (va_Qi (fun r (u : HI × HL) => Φ r u.1 u.2) (fun u t => va_P D cls8 (wl 21 ad (GM cI cZ ad) u.1 u.2) t.heap) A) args s 0 0 A) (F0 m 154 ls []) := by
  unfold wbM_fixed_154 at h
  refine lv_iconst (v := 1) K.1 K.2.1 dM_fixed_154 (by decide) ?_
  refine lv_goto (tgt := 159) K.1 K.2.1 dM_fixed_155 rfl ?_
  exact bM_fixed_159 K hr hZ hk16 h (lv_sub hL [0, 1, 2, 3] rfl) hP hS
set_option maxRecDepth 100000 in
set_option maxHeartbeats 4000000 in
theorem bM_fixed_158 {p : Program} {l : Launch} {e : Env} {s : State} {m : MethodId} {args : Array Value} {below : List Frame} {meth : Method} {c : Code} {D : va_G} {cI cJ cC cZ cR : ClassId} {ad : Nat → Nat} {A : Nat → Prop} {Zs : State → Prop} (K : Cx p (rmX 1 21) s m args meth c cM_fixed 6 "WordCheckerModel" gT D cls8 (tys5 cI cJ cC cZ cR) 21 ad A Zs) (hr : meth.sig.returnType = (some .boolean)) (hZ : ZsOK A Zs) {Φ : Int32 → HI → HL → Prop} {k16 : Int32 → Int32 → Int32 → HI → HL → Prop} (hk16 : ∀ (v1 : Int32) (v2 : Int32) (v3 : Int32) (hi : HI) (hl : HL) (ls : Array Slot) (H : Heap) (locs : List Loc), k16 v1 v2 v3 hi hl → lv_has ls 6 [(0, .ref (ad 0)), (1, .int v1), (2, .int v2), (3, .int v3)] → va_P D cls8 (wl 21 ad (GM cI cZ ad) hi hl) H → va_S A s.heap H locs → W p l e (rmX 1 21) s m args below meth c H locs 0 0 (MQ below (va_Qi (fun r (u : HI × HL) => Φ r u.1 u.2) (fun u t => va_P D cls8 (wl 21 ad (GM cI cZ ad) u.1 u.2) t.heap) A) args s 0 0 A) (F0 m 16 ls [])) {v1 : Int32} {v2 : Int32} {v3 : Int32} {hi : HI} {hl : HL} {H : Heap} {locs : List Loc} (h : wbM_fixed_158 k16 v1 v2 v3 hi hl Φ) {ls : Array Slot} (hL : lv_has ls 6 [(0, .ref (ad 0)), (1, .int v1), (2, .int v2), (3, .int v3)]) (hP : va_P D cls8 (wl 21 ad (GM cI cZ ad) hi hl) H) (hS : va_S A s.heap H locs) : W p l e (rmX 1 21) s m args below meth c H locs 0 0 (MQ below (va_Qi (fun r (u : HI × HL) => Φ r u.1 u.2) (fun u t => va_P D cls8 (wl 21 ad (GM cI cZ ad) u.1 u.2) t.heap) A) args s 0 0 A) (F0 m 158 ls []) := by
  unfold wbM_fixed_158 at h
  refine lv_iconst (v := 0) K.1 K.2.1 dM_fixed_158 (by decide) ?_
  exact bM_fixed_159 K hr hZ hk16 h (lv_sub hL [0, 1, 2, 3] rfl) hP hS
set_option maxRecDepth 100000 in
set_option maxHeartbeats 4000000 in
theorem bM_fixed_132 {p : Program} {l : Launch} {e : Env} {s : State} {m : MethodId} {args : Array Value} {below : List Frame} {meth : Method} {c : Code} {D : va_G} {cI cJ cC cZ cR : ClassId} {ad : Nat → Nat} {A : Nat → Prop} {Zs : State → Prop} (K : Cx p (rmX 1 21) s m args meth c cM_fixed 6 "WordCheckerModel" gT D cls8 (tys5 cI cJ cC cZ cR) 21 ad A Zs) (hr : meth.sig.returnType = (some .boolean)) (hZ : ZsOK A Zs) {Φ : Int32 → HI → HL → Prop} {k16 : Int32 → Int32 → Int32 → HI → HL → Prop} (hk16 : ∀ (v1 : Int32) (v2 : Int32) (v3 : Int32) (hi : HI) (hl : HL) (ls : Array Slot) (H : Heap) (locs : List Loc), k16 v1 v2 v3 hi hl → lv_has ls 6 [(0, .ref (ad 0)), (1, .int v1), (2, .int v2), (3, .int v3)] → va_P D cls8 (wl 21 ad (GM cI cZ ad) hi hl) H → va_S A s.heap H locs → W p l e (rmX 1 21) s m args below meth c H locs 0 0 (MQ below (va_Qi (fun r (u : HI × HL) => Φ r u.1 u.2) (fun u t => va_P D cls8 (wl 21 ad (GM cI cZ ad) u.1 u.2) t.heap) A) args s 0 0 A) (F0 m 16 ls [])) {v1 : Int32} {v2 : Int32} {v3 : Int32} {hi : HI} {hl : HL} {H : Heap} {locs : List Loc} (h : wbM_fixed_132 k16 v1 v2 v3 hi hl Φ) {ls : Array Slot} (hL : lv_has ls 6 [(0, .ref (ad 0)), (1, .int v1), (2, .int v2), (3, .int v3)]) (hP : va_P D cls8 (wl 21 ad (GM cI cZ ad) hi hl) H) (hS : va_S A s.heap H locs) : W p l e (rmX 1 21) s m args below meth c H locs 0 0 (MQ below (va_Qi (fun r (u : HI × HL) => Φ r u.1 u.2) (fun u t => va_P D cls8 (wl 21 ad (GM cI cZ ad) u.1 u.2) t.heap) A) args s 0 0 A) (F0 m 132 ls []) := by
  unfold wbM_fixed_132 at h
  refine lv_aload_n K.1 K.2.1 dM_fixed_132 rfl (lv_at hL 0 rfl) ?_
  refine x_get (v := .ref (ad 9)) K hP hinM (ci := 7) rfl 0 (by decide) rfl 12 (by decide) flM_34 rfl rfl dM_fixed_133 ?_
  refine lv_iload_n K.1 K.2.1 dM_fixed_136 rfl (lv_at hL 3 rfl) ?_
  obtain ⟨g1, h⟩ := h
  refine x_iald K hP 9 (by decide) 0 rfl rfl g1 dM_fixed_137 ?_
  refine lv_if_lt (tgt := 158) K.1 K.2.1 dM_fixed_138 rfl (fun hc => ?_) (fun hc => ?_)
  · have h := h.1 hc
    exact bM_fixed_158 K hr hZ hk16 h (lv_sub hL [0, 1, 2, 3] rfl) hP hS
  · have h := h.2 hc
    refine lv_aload_n K.1 K.2.1 dM_fixed_141 rfl (lv_at hL 0 rfl) ?_
    refine lv_aload_n K.1 K.2.1 dM_fixed_142 rfl (lv_at hL 0 rfl) ?_
    refine x_get (v := .ref (ad 9)) K hP hinM (ci := 7) rfl 0 (by decide) rfl 12 (by decide) flM_34 rfl rfl dM_fixed_143 ?_
    refine lv_iload_n K.1 K.2.1 dM_fixed_146 rfl (lv_at hL 3 rfl) ?_
    obtain ⟨g2, h⟩ := h
    refine x_iald K hP 9 (by decide) 0 rfl rfl g2 dM_fixed_147 ?_
    refine x_cVI (As := [.int (hi 9 (v3.toNatClampNeg))]) (rest := []) K gT_good hZ hP hS calM_seenFree mlM_208 0 (by decide) rfl rfl (mM_seenFree hZ K.2.2.2.2.2.2.2.1 h) ⟨Nat.le_of_ble_eq_true rfl, Nat.le_of_ble_eq_true rfl⟩ rfl hL.1 rfl (Nat.le_of_ble_eq_true rfl) dM_fixed_148 (fun r3 hi4 hl5 H locs h hP hS => ?_)
    refine lv_if_eq (tgt := 158) K.1 K.2.1 dM_fixed_151 rfl (fun hc => ?_) (fun hc => ?_)
    · have h := h.1 hc
      exact bM_fixed_158 K hr hZ hk16 h (lv_sub hL [0, 1, 2, 3] rfl) hP hS
    · have h := h.2 hc
      exact bM_fixed_154 K hr hZ hk16 h (lv_sub hL [0, 1, 2, 3] rfl) hP hS
set_option maxRecDepth 100000 in
set_option maxHeartbeats 4000000 in
theorem bM_fixed_110 {p : Program} {l : Launch} {e : Env} {s : State} {m : MethodId} {args : Array Value} {below : List Frame} {meth : Method} {c : Code} {D : va_G} {cI cJ cC cZ cR : ClassId} {ad : Nat → Nat} {A : Nat → Prop} {Zs : State → Prop} (K : Cx p (rmX 1 21) s m args meth c cM_fixed 6 "WordCheckerModel" gT D cls8 (tys5 cI cJ cC cZ cR) 21 ad A Zs) (hr : meth.sig.returnType = (some .boolean)) (hZ : ZsOK A Zs) {Φ : Int32 → HI → HL → Prop} {k16 : Int32 → Int32 → Int32 → HI → HL → Prop} (hk16 : ∀ (v1 : Int32) (v2 : Int32) (v3 : Int32) (hi : HI) (hl : HL) (ls : Array Slot) (H : Heap) (locs : List Loc), k16 v1 v2 v3 hi hl → lv_has ls 6 [(0, .ref (ad 0)), (1, .int v1), (2, .int v2), (3, .int v3)] → va_P D cls8 (wl 21 ad (GM cI cZ ad) hi hl) H → va_S A s.heap H locs → W p l e (rmX 1 21) s m args below meth c H locs 0 0 (MQ below (va_Qi (fun r (u : HI × HL) => Φ r u.1 u.2) (fun u t => va_P D cls8 (wl 21 ad (GM cI cZ ad) u.1 u.2) t.heap) A) args s 0 0 A) (F0 m 16 ls [])) {v1 : Int32} {v2 : Int32} {v3 : Int32} {hi : HI} {hl : HL} {H : Heap} {locs : List Loc} (h : wbM_fixed_110 k16 v1 v2 v3 hi hl Φ) {ls : Array Slot} (hL : lv_has ls 6 [(0, .ref (ad 0)), (1, .int v1), (2, .int v2), (3, .int v3)]) (hP : va_P D cls8 (wl 21 ad (GM cI cZ ad) hi hl) H) (hS : va_S A s.heap H locs) : W p l e (rmX 1 21) s m args below meth c H locs 0 0 (MQ below (va_Qi (fun r (u : HI × HL) => Φ r u.1 u.2) (fun u t => va_P D cls8 (wl 21 ad (GM cI cZ ad) u.1 u.2) t.heap) A) args s 0 0 A) (F0 m 110 ls []) := by
  unfold wbM_fixed_110 at h
  refine lv_aload_n K.1 K.2.1 dM_fixed_110 rfl (lv_at hL 0 rfl) ?_
  refine x_get (v := .ref (ad 8)) K hP hinM (ci := 7) rfl 0 (by decide) rfl 11 (by decide) flM_31 rfl rfl dM_fixed_111 ?_
  refine lv_iload_n K.1 K.2.1 dM_fixed_114 rfl (lv_at hL 3 rfl) ?_
  obtain ⟨g1, h⟩ := h
  refine x_iald K hP 8 (by decide) 0 rfl rfl g1 dM_fixed_115 ?_
  refine lv_if_lt (tgt := 132) K.1 K.2.1 dM_fixed_116 rfl (fun hc => ?_) (fun hc => ?_)
  · have h := h.1 hc
    exact bM_fixed_132 K hr hZ hk16 h (lv_sub hL [0, 1, 2, 3] rfl) hP hS
  · have h := h.2 hc
    refine lv_aload_n K.1 K.2.1 dM_fixed_119 rfl (lv_at hL 0 rfl) ?_
    refine lv_aload_n K.1 K.2.1 dM_fixed_120 rfl (lv_at hL 0 rfl) ?_
    refine x_get (v := .ref (ad 8)) K hP hinM (ci := 7) rfl 0 (by decide) rfl 11 (by decide) flM_31 rfl rfl dM_fixed_121 ?_
    refine lv_iload_n K.1 K.2.1 dM_fixed_124 rfl (lv_at hL 3 rfl) ?_
    obtain ⟨g2, h⟩ := h
    refine x_iald K hP 8 (by decide) 0 rfl rfl g2 dM_fixed_125 ?_
    refine x_cVI (As := [.int (hi 8 (v3.toNatClampNeg))]) (rest := []) K gT_good hZ hP hS calM_seenFree mlM_208 0 (by decide) rfl rfl (mM_seenFree hZ K.2.2.2.2.2.2.2.1 h) ⟨Nat.le_of_ble_eq_true rfl, Nat.le_of_ble_eq_true rfl⟩ rfl hL.1 rfl (Nat.le_of_ble_eq_true rfl) dM_fixed_126 (fun r3 hi4 hl5 H locs h hP hS => ?_)
    refine lv_if_ne (tgt := 154) K.1 K.2.1 dM_fixed_129 rfl (fun hc => ?_) (fun hc => ?_)
    · have h := h.2 hc
      exact bM_fixed_154 K hr hZ hk16 h (lv_sub hL [0, 1, 2, 3] rfl) hP hS
    · have h := h.1 hc
      exact bM_fixed_132 K hr hZ hk16 h (lv_sub hL [0, 1, 2, 3] rfl) hP hS
set_option maxRecDepth 100000 in
set_option maxHeartbeats 4000000 in
theorem bM_fixed_76 {p : Program} {l : Launch} {e : Env} {s : State} {m : MethodId} {args : Array Value} {below : List Frame} {meth : Method} {c : Code} {D : va_G} {cI cJ cC cZ cR : ClassId} {ad : Nat → Nat} {A : Nat → Prop} {Zs : State → Prop} (K : Cx p (rmX 1 21) s m args meth c cM_fixed 6 "WordCheckerModel" gT D cls8 (tys5 cI cJ cC cZ cR) 21 ad A Zs) (hr : meth.sig.returnType = (some .boolean)) (hZ : ZsOK A Zs) {Φ : Int32 → HI → HL → Prop} {k16 : Int32 → Int32 → Int32 → HI → HL → Prop} (hk16 : ∀ (v1 : Int32) (v2 : Int32) (v3 : Int32) (hi : HI) (hl : HL) (ls : Array Slot) (H : Heap) (locs : List Loc), k16 v1 v2 v3 hi hl → lv_has ls 6 [(0, .ref (ad 0)), (1, .int v1), (2, .int v2), (3, .int v3)] → va_P D cls8 (wl 21 ad (GM cI cZ ad) hi hl) H → va_S A s.heap H locs → W p l e (rmX 1 21) s m args below meth c H locs 0 0 (MQ below (va_Qi (fun r (u : HI × HL) => Φ r u.1 u.2) (fun u t => va_P D cls8 (wl 21 ad (GM cI cZ ad) u.1 u.2) t.heap) A) args s 0 0 A) (F0 m 16 ls [])) {v1 : Int32} {v2 : Int32} {v3 : Int32} {v4 : Int32} {q0 : Int32} {hi : HI} {hl : HL} {H : Heap} {locs : List Loc} (h : wbM_fixed_76 k16 v1 v2 v3 v4 q0 hi hl Φ) {ls : Array Slot} (hL : lv_has ls 6 [(0, .ref (ad 0)), (1, .int v1), (2, .int v2), (3, .int v3), (4, .int v4)]) (hP : va_P D cls8 (wl 21 ad (GM cI cZ ad) hi hl) H) (hS : va_S A s.heap H locs) : W p l e (rmX 1 21) s m args below meth c H locs 0 0 (MQ below (va_Qi (fun r (u : HI × HL) => Φ r u.1 u.2) (fun u t => va_P D cls8 (wl 21 ad (GM cI cZ ad) u.1 u.2) t.heap) A) args s 0 0 A) (F0 m 76 ls [.int q0]) := by
  unfold wbM_fixed_76 at h
  refine lv_istore (lv' := [(5, .int q0), (0, .ref (ad 0)), (1, .int v1), (2, .int v2), (3, .int v3), (4, .int v4)]) K.1 K.2.1 dM_fixed_76 hL (by decide) rfl (fun ls hL => ?_)
  refine lv_iload K.1 K.2.1 dM_fixed_78 (lv_at hL 5 rfl) ?_
  refine lv_if_ne (tgt := 154) K.1 K.2.1 dM_fixed_80 rfl (fun hc => ?_) (fun hc => ?_)
  · have h := h.2 hc
    exact bM_fixed_154 K hr hZ hk16 h (lv_sub hL [1, 2, 3, 4] rfl) hP hS
  · have h := h.1 hc
    refine lv_iload K.1 K.2.1 dM_fixed_83 (lv_at hL 0 rfl) ?_
    refine lv_if_eq (tgt := 158) K.1 K.2.1 dM_fixed_85 rfl (fun hc => ?_) (fun hc => ?_)
    · have h := h.1 hc
      exact bM_fixed_158 K hr hZ hk16 h (lv_sub hL [1, 2, 3, 4] rfl) hP hS
    · have h := h.2 hc
      refine lv_aload_n K.1 K.2.1 dM_fixed_88 rfl (lv_at hL 1 rfl) ?_
      refine x_get (v := .ref (ad 7)) K hP hinM (ci := 7) rfl 0 (by decide) rfl 10 (by decide) flM_28 rfl rfl dM_fixed_89 ?_
      refine lv_iload_n K.1 K.2.1 dM_fixed_92 rfl (lv_at hL 4 rfl) ?_
      obtain ⟨g1, h⟩ := h
      refine x_iald K hP 7 (by decide) 0 rfl rfl g1 dM_fixed_93 ?_
      refine lv_if_lt (tgt := 110) K.1 K.2.1 dM_fixed_94 rfl (fun hc => ?_) (fun hc => ?_)
      · have h := h.1 hc
        exact bM_fixed_110 K hr hZ hk16 h (lv_sub hL [1, 2, 3, 4] rfl) hP hS
      · have h := h.2 hc
        refine lv_aload_n K.1 K.2.1 dM_fixed_97 rfl (lv_at hL 1 rfl) ?_
        refine lv_aload_n K.1 K.2.1 dM_fixed_98 rfl (lv_at hL 1 rfl) ?_
        refine x_get (v := .ref (ad 7)) K hP hinM (ci := 7) rfl 0 (by decide) rfl 10 (by decide) flM_28 rfl rfl dM_fixed_99 ?_
        refine lv_iload_n K.1 K.2.1 dM_fixed_102 rfl (lv_at hL 4 rfl) ?_
        obtain ⟨g2, h⟩ := h
        refine x_iald K hP 7 (by decide) 0 rfl rfl g2 dM_fixed_103 ?_
        refine x_cVI (As := [.int (hi 7 (v3.toNatClampNeg))]) (rest := []) K gT_good hZ hP hS calM_seenFree mlM_208 0 (by decide) rfl rfl (mM_seenFree hZ K.2.2.2.2.2.2.2.1 h) ⟨Nat.le_of_ble_eq_true rfl, Nat.le_of_ble_eq_true rfl⟩ rfl hL.1 rfl (Nat.le_of_ble_eq_true rfl) dM_fixed_104 (fun r3 hi4 hl5 H locs h hP hS => ?_)
        refine lv_if_ne (tgt := 154) K.1 K.2.1 dM_fixed_107 rfl (fun hc => ?_) (fun hc => ?_)
        · have h := h.2 hc
          exact bM_fixed_154 K hr hZ hk16 h (lv_sub hL [1, 2, 3, 4] rfl) hP hS
        · have h := h.1 hc
          exact bM_fixed_110 K hr hZ hk16 h (lv_sub hL [1, 2, 3, 4] rfl) hP hS
set_option maxRecDepth 100000 in
set_option maxHeartbeats 4000000 in
theorem bM_fixed_75 {p : Program} {l : Launch} {e : Env} {s : State} {m : MethodId} {args : Array Value} {below : List Frame} {meth : Method} {c : Code} {D : va_G} {cI cJ cC cZ cR : ClassId} {ad : Nat → Nat} {A : Nat → Prop} {Zs : State → Prop} (K : Cx p (rmX 1 21) s m args meth c cM_fixed 6 "WordCheckerModel" gT D cls8 (tys5 cI cJ cC cZ cR) 21 ad A Zs) (hr : meth.sig.returnType = (some .boolean)) (hZ : ZsOK A Zs) {Φ : Int32 → HI → HL → Prop} {k16 : Int32 → Int32 → Int32 → HI → HL → Prop} (hk16 : ∀ (v1 : Int32) (v2 : Int32) (v3 : Int32) (hi : HI) (hl : HL) (ls : Array Slot) (H : Heap) (locs : List Loc), k16 v1 v2 v3 hi hl → lv_has ls 6 [(0, .ref (ad 0)), (1, .int v1), (2, .int v2), (3, .int v3)] → va_P D cls8 (wl 21 ad (GM cI cZ ad) hi hl) H → va_S A s.heap H locs → W p l e (rmX 1 21) s m args below meth c H locs 0 0 (MQ below (va_Qi (fun r (u : HI × HL) => Φ r u.1 u.2) (fun u t => va_P D cls8 (wl 21 ad (GM cI cZ ad) u.1 u.2) t.heap) A) args s 0 0 A) (F0 m 16 ls [])) {v1 : Int32} {v2 : Int32} {v3 : Int32} {v4 : Int32} {hi : HI} {hl : HL} {H : Heap} {locs : List Loc} (h : wbM_fixed_75 k16 v1 v2 v3 v4 hi hl Φ) {ls : Array Slot} (hL : lv_has ls 6 [(0, .ref (ad 0)), (1, .int v1), (2, .int v2), (3, .int v3), (4, .int v4)]) (hP : va_P D cls8 (wl 21 ad (GM cI cZ ad) hi hl) H) (hS : va_S A s.heap H locs) : W p l e (rmX 1 21) s m args below meth c H locs 0 0 (MQ below (va_Qi (fun r (u : HI × HL) => Φ r u.1 u.2) (fun u t => va_P D cls8 (wl 21 ad (GM cI cZ ad) u.1 u.2) t.heap) A) args s 0 0 A) (F0 m 75 ls []) := by
  unfold wbM_fixed_75 at h
  refine lv_iconst (v := 0) K.1 K.2.1 dM_fixed_75 (by decide) ?_
  exact bM_fixed_76 K hr hZ hk16 h (lv_sub hL [0, 1, 2, 3, 4] rfl) hP hS
set_option maxRecDepth 100000 in
set_option maxHeartbeats 4000000 in
theorem bM_fixed_46 {p : Program} {l : Launch} {e : Env} {s : State} {m : MethodId} {args : Array Value} {below : List Frame} {meth : Method} {c : Code} {D : va_G} {cI cJ cC cZ cR : ClassId} {ad : Nat → Nat} {A : Nat → Prop} {Zs : State → Prop} (K : Cx p (rmX 1 21) s m args meth c cM_fixed 6 "WordCheckerModel" gT D cls8 (tys5 cI cJ cC cZ cR) 21 ad A Zs) (hr : meth.sig.returnType = (some .boolean)) (hZ : ZsOK A Zs) {Φ : Int32 → HI → HL → Prop} {k16 : Int32 → Int32 → Int32 → HI → HL → Prop} (hk16 : ∀ (v1 : Int32) (v2 : Int32) (v3 : Int32) (hi : HI) (hl : HL) (ls : Array Slot) (H : Heap) (locs : List Loc), k16 v1 v2 v3 hi hl → lv_has ls 6 [(0, .ref (ad 0)), (1, .int v1), (2, .int v2), (3, .int v3)] → va_P D cls8 (wl 21 ad (GM cI cZ ad) hi hl) H → va_S A s.heap H locs → W p l e (rmX 1 21) s m args below meth c H locs 0 0 (MQ below (va_Qi (fun r (u : HI × HL) => Φ r u.1 u.2) (fun u t => va_P D cls8 (wl 21 ad (GM cI cZ ad) u.1 u.2) t.heap) A) args s 0 0 A) (F0 m 16 ls [])) {v1 : Int32} {v2 : Int32} {v3 : Int32} {q0 : Int32} {hi : HI} {hl : HL} {H : Heap} {locs : List Loc} (h : wbM_fixed_46 k16 v1 v2 v3 q0 hi hl Φ) {ls : Array Slot} (hL : lv_has ls 6 [(0, .ref (ad 0)), (1, .int v1), (2, .int v2), (3, .int v3)]) (hP : va_P D cls8 (wl 21 ad (GM cI cZ ad) hi hl) H) (hS : va_S A s.heap H locs) : W p l e (rmX 1 21) s m args below meth c H locs 0 0 (MQ below (va_Qi (fun r (u : HI × HL) => Φ r u.1 u.2) (fun u t => va_P D cls8 (wl 21 ad (GM cI cZ ad) u.1 u.2) t.heap) A) args s 0 0 A) (F0 m 46 ls [.int q0]) := by
  unfold wbM_fixed_46 at h
  refine lv_istore (lv' := [(4, .int q0), (0, .ref (ad 0)), (1, .int v1), (2, .int v2), (3, .int v3)]) K.1 K.2.1 dM_fixed_46 hL (by decide) rfl (fun ls hL => ?_)
  refine lv_aload_n K.1 K.2.1 dM_fixed_48 rfl (lv_at hL 1 rfl) ?_
  refine lv_iload_n K.1 K.2.1 dM_fixed_49 rfl (lv_at hL 4 rfl) ?_
  refine x_cVI (As := [.int v3]) (rest := []) K gT_good hZ hP hS calM_isNode mlM_172 0 (by decide) rfl rfl (mM_isNode hZ K.2.2.2.2.2.2.2.1 h) ⟨Nat.le_of_ble_eq_true rfl, Nat.le_of_ble_eq_true rfl⟩ rfl hL.1 rfl (Nat.le_of_ble_eq_true rfl) dM_fixed_50 (fun r1 hi2 hl3 H locs h hP hS => ?_)
  refine lv_if_eq (tgt := 75) K.1 K.2.1 dM_fixed_53 rfl (fun hc => ?_) (fun hc => ?_)
  · have h := h.1 hc
    exact bM_fixed_75 K hr hZ hk16 h (lv_sub hL [1, 2, 3, 4, 0] rfl) hP hS
  · have h := h.2 hc
    refine lv_aload_n K.1 K.2.1 dM_fixed_56 rfl (lv_at hL 1 rfl) ?_
    refine x_get (v := .ref (ad 5)) K hP hinM (ci := 7) rfl 0 (by decide) rfl 8 (by decide) flM_22 rfl rfl dM_fixed_57 ?_
    refine lv_iload_n K.1 K.2.1 dM_fixed_60 rfl (lv_at hL 4 rfl) ?_
    obtain ⟨g4, h⟩ := h
    refine x_iald K hP 5 (by decide) 0 rfl rfl g4 dM_fixed_61 ?_
    refine lv_iconst (v := 3) K.1 K.2.1 dM_fixed_62 (by decide) ?_
    refine lv_icmp_eq (tgt := 75) K.1 K.2.1 dM_fixed_63 rfl (fun hc => ?_) (fun hc => ?_)
    · have h := h.1 hc
      exact bM_fixed_75 K hr hZ hk16 h (lv_sub hL [1, 2, 3, 4, 0] rfl) hP hS
    · have h := h.2 hc
      refine lv_iload K.1 K.2.1 dM_fixed_66 (lv_at hL 0 rfl) ?_
      refine lv_if_ne (tgt := 75) K.1 K.2.1 dM_fixed_68 rfl (fun hc => ?_) (fun hc => ?_)
      · have h := h.2 hc
        exact bM_fixed_75 K hr hZ hk16 h (lv_sub hL [1, 2, 3, 4, 0] rfl) hP hS
      · have h := h.1 hc
        refine lv_iconst (v := 1) K.1 K.2.1 dM_fixed_71 (by decide) ?_
        refine lv_goto (tgt := 76) K.1 K.2.1 dM_fixed_72 rfl ?_
        exact bM_fixed_76 K hr hZ hk16 h (lv_sub hL [1, 2, 3, 4, 0] rfl) hP hS
set_option maxRecDepth 100000 in
set_option maxHeartbeats 4000000 in
theorem bM_fixed_41 {p : Program} {l : Launch} {e : Env} {s : State} {m : MethodId} {args : Array Value} {below : List Frame} {meth : Method} {c : Code} {D : va_G} {cI cJ cC cZ cR : ClassId} {ad : Nat → Nat} {A : Nat → Prop} {Zs : State → Prop} (K : Cx p (rmX 1 21) s m args meth c cM_fixed 6 "WordCheckerModel" gT D cls8 (tys5 cI cJ cC cZ cR) 21 ad A Zs) (hr : meth.sig.returnType = (some .boolean)) (hZ : ZsOK A Zs) {Φ : Int32 → HI → HL → Prop} {k16 : Int32 → Int32 → Int32 → HI → HL → Prop} (hk16 : ∀ (v1 : Int32) (v2 : Int32) (v3 : Int32) (hi : HI) (hl : HL) (ls : Array Slot) (H : Heap) (locs : List Loc), k16 v1 v2 v3 hi hl → lv_has ls 6 [(0, .ref (ad 0)), (1, .int v1), (2, .int v2), (3, .int v3)] → va_P D cls8 (wl 21 ad (GM cI cZ ad) hi hl) H → va_S A s.heap H locs → W p l e (rmX 1 21) s m args below meth c H locs 0 0 (MQ below (va_Qi (fun r (u : HI × HL) => Φ r u.1 u.2) (fun u t => va_P D cls8 (wl 21 ad (GM cI cZ ad) u.1 u.2) t.heap) A) args s 0 0 A) (F0 m 16 ls [])) {v1 : Int32} {v2 : Int32} {v3 : Int32} {hi : HI} {hl : HL} {H : Heap} {locs : List Loc} (h : wbM_fixed_41 k16 v1 v2 v3 hi hl Φ) {ls : Array Slot} (hL : lv_has ls 6 [(0, .ref (ad 0)), (1, .int v1), (2, .int v2), (3, .int v3)]) (hP : va_P D cls8 (wl 21 ad (GM cI cZ ad) hi hl) H) (hS : va_S A s.heap H locs) : W p l e (rmX 1 21) s m args below meth c H locs 0 0 (MQ below (va_Qi (fun r (u : HI × HL) => Φ r u.1 u.2) (fun u t => va_P D cls8 (wl 21 ad (GM cI cZ ad) u.1 u.2) t.heap) A) args s 0 0 A) (F0 m 41 ls []) := by
  unfold wbM_fixed_41 at h
  refine lv_iconst (v := 1) K.1 K.2.1 dM_fixed_41 (by decide) ?_
  refine lv_goto (tgt := 46) K.1 K.2.1 dM_fixed_42 rfl ?_
  exact bM_fixed_46 K hr hZ hk16 h (lv_sub hL [0, 1, 2, 3] rfl) hP hS
set_option maxRecDepth 100000 in
set_option maxHeartbeats 4000000 in
theorem bM_fixed_16 {p : Program} {l : Launch} {e : Env} {s : State} {m : MethodId} {args : Array Value} {below : List Frame} {meth : Method} {c : Code} {D : va_G} {cI cJ cC cZ cR : ClassId} {ad : Nat → Nat} {A : Nat → Prop} {Zs : State → Prop} (K : Cx p (rmX 1 21) s m args meth c cM_fixed 6 "WordCheckerModel" gT D cls8 (tys5 cI cJ cC cZ cR) 21 ad A Zs) (hr : meth.sig.returnType = (some .boolean)) (hZ : ZsOK A Zs) {Φ : Int32 → HI → HL → Prop} {n : Nat} {v1 : Int32} {v2 : Int32} {v3 : Int32} {hi : HI} {hl : HL} {H : Heap} {locs : List Loc} (h : wbM_fixed_16 n v1 v2 v3 hi hl Φ) {ls : Array Slot} (hL : lv_has ls 6 [(0, .ref (ad 0)), (1, .int v1), (2, .int v2), (3, .int v3)]) (hP : va_P D cls8 (wl 21 ad (GM cI cZ ad) hi hl) H) (hS : va_S A s.heap H locs) : W p l e (rmX 1 21) s m args below meth c H locs 0 0 (MQ below (va_Qi (fun r (u : HI × HL) => Φ r u.1 u.2) (fun u t => va_P D cls8 (wl 21 ad (GM cI cZ ad) u.1 u.2) t.heap) A) args s 0 0 A) (F0 m 16 ls []) := by
  induction n generalizing v1 v2 v3 hi hl ls H locs with
  | zero => exact False.elim h
  | succ n ih =>
    unfold wbM_fixed_16 at h
    refine lv_iload_n K.1 K.2.1 dM_fixed_16 rfl (lv_at hL 3 rfl) ?_
    refine lv_iload_n K.1 K.2.1 dM_fixed_17 rfl (lv_at hL 1 rfl) ?_
    refine lv_icmp_gt (tgt := 203) K.1 K.2.1 dM_fixed_18 rfl (fun hc => ?_) (fun hc => ?_)
    · have h := h.1 hc
      refine lv_iload_n K.1 K.2.1 dM_fixed_203 rfl (lv_at hL 2 rfl) ?_
      obtain ⟨g1, h⟩ := h
      exact x_zret K hr hP hS g1 h dM_fixed_204
    · have h := h.2 hc
      refine lv_aload_n K.1 K.2.1 dM_fixed_21 rfl (lv_at hL 0 rfl) ?_
      refine x_get (v := .ref (ad 5)) K hP hinM (ci := 7) rfl 0 (by decide) rfl 8 (by decide) flM_22 rfl rfl dM_fixed_22 ?_
      refine lv_iload_n K.1 K.2.1 dM_fixed_25 rfl (lv_at hL 3 rfl) ?_
      obtain ⟨g2, h⟩ := h
      refine x_iald K hP 5 (by decide) 0 rfl rfl g2 dM_fixed_26 ?_
      refine lv_iconst (v := 1) K.1 K.2.1 dM_fixed_27 (by decide) ?_
      refine lv_icmp_eq (tgt := 41) K.1 K.2.1 dM_fixed_28 rfl (fun hc => ?_) (fun hc => ?_)
      · have h := h.1 hc
        exact bM_fixed_41 K hr hZ (fun v1 v2 v3 hi hl ls H locs h hL hP hS => ih h hL hP hS) h (lv_sub hL [0, 1, 2, 3] rfl) hP hS
      · have h := h.2 hc
        refine lv_aload_n K.1 K.2.1 dM_fixed_31 rfl (lv_at hL 0 rfl) ?_
        refine x_get (v := .ref (ad 5)) K hP hinM (ci := 7) rfl 0 (by decide) rfl 8 (by decide) flM_22 rfl rfl dM_fixed_32 ?_
        refine lv_iload_n K.1 K.2.1 dM_fixed_35 rfl (lv_at hL 3 rfl) ?_
        obtain ⟨g3, h⟩ := h
        refine x_iald K hP 5 (by decide) 0 rfl rfl g3 dM_fixed_36 ?_
        refine lv_iconst (v := 2) K.1 K.2.1 dM_fixed_37 (by decide) ?_
        refine lv_icmp_ne (tgt := 45) K.1 K.2.1 dM_fixed_38 rfl (fun hc => ?_) (fun hc => ?_)
        · have h := h.2 hc
          refine lv_iconst (v := 0) K.1 K.2.1 dM_fixed_45 (by decide) ?_
          exact bM_fixed_46 K hr hZ (fun v1 v2 v3 hi hl ls H locs h hL hP hS => ih h hL hP hS) h (lv_sub hL [0, 1, 2, 3] rfl) hP hS
        · have h := h.1 hc
          exact bM_fixed_41 K hr hZ (fun v1 v2 v3 hi hl ls H locs h hL hP hS => ih h hL hP hS) h (lv_sub hL [0, 1, 2, 3] rfl) hP hS
set_option maxRecDepth 100000 in
set_option maxHeartbeats 4000000 in
theorem bM_fixed_0 {p : Program} {l : Launch} {e : Env} {s : State} {m : MethodId} {args : Array Value} {below : List Frame} {meth : Method} {c : Code} {D : va_G} {cI cJ cC cZ cR : ClassId} {ad : Nat → Nat} {A : Nat → Prop} {Zs : State → Prop} (K : Cx p (rmX 1 21) s m args meth c cM_fixed 6 "WordCheckerModel" gT D cls8 (tys5 cI cJ cC cZ cR) 21 ad A Zs) (hr : meth.sig.returnType = (some .boolean)) (hZ : ZsOK A Zs) {Φ : Int32 → HI → HL → Prop} {v1 : Int32} {hi : HI} {hl : HL} {H : Heap} {locs : List Loc} (h : wbM_fixed_0 v1 hi hl Φ) {ls : Array Slot} (hL : lv_has ls 6 [(0, .ref (ad 0)), (1, .int v1)]) (hP : va_P D cls8 (wl 21 ad (GM cI cZ ad) hi hl) H) (hS : va_S A s.heap H locs) : W p l e (rmX 1 21) s m args below meth c H locs 0 0 (MQ below (va_Qi (fun r (u : HI × HL) => Φ r u.1 u.2) (fun u t => va_P D cls8 (wl 21 ad (GM cI cZ ad) u.1 u.2) t.heap) A) args s 0 0 A) (F0 m 0 ls []) := by
  unfold wbM_fixed_0 at h
  refine lv_aload_n K.1 K.2.1 dM_fixed_0 rfl (lv_at hL 0 rfl) ?_
  refine x_get (v := .ref (ad 5)) K hP hinM (ci := 7) rfl 0 (by decide) rfl 8 (by decide) flM_22 rfl rfl dM_fixed_1 ?_
  refine lv_iload_n K.1 K.2.1 dM_fixed_4 rfl (lv_at hL 1 rfl) ?_
  obtain ⟨g1, h⟩ := h
  refine x_iald K hP 5 (by decide) 0 rfl rfl g1 dM_fixed_5 ?_
  refine lv_iconst (v := 3) K.1 K.2.1 dM_fixed_6 (by decide) ?_
  refine lv_icmp_ne (tgt := 12) K.1 K.2.1 dM_fixed_7 rfl (fun hc => ?_) (fun hc => ?_)
  · have h := h.2 hc
    refine lv_iconst (v := 1) K.1 K.2.1 dM_fixed_12 (by decide) ?_
    refine lv_istore_n (lv' := [(2, .int (1 : Int32)), (0, .ref (ad 0)), (1, .int v1)]) K.1 K.2.1 dM_fixed_13 rfl hL (by decide) rfl (fun ls hL => ?_)
    refine lv_iconst (v := 0) K.1 K.2.1 dM_fixed_14 (by decide) ?_
    refine lv_istore_n (lv' := [(3, .int (0 : Int32)), (2, .int (1 : Int32)), (0, .ref (ad 0)), (1, .int v1)]) K.1 K.2.1 dM_fixed_15 rfl hL (by decide) rfl (fun ls hL => ?_)
    obtain ⟨fu, h⟩ := h
    exact bM_fixed_16 K hr hZ h (lv_sub hL [2, 3, 1, 0] rfl) hP hS
  · have h := h.1 hc
    refine lv_iconst (v := 1) K.1 K.2.1 dM_fixed_10 (by decide) ?_
    obtain ⟨g2, h⟩ := h
    exact x_zret K hr hP hS g2 h dM_fixed_11
set_option maxRecDepth 100000 in
set_option maxHeartbeats 4000000 in
theorem mM_fixed {l : Launch} {D : va_G} {cI cJ cC cZ cR : ClassId} {ad : Nat → Nat} {A : Nat → Prop} {Zs : State → Prop} (hZ : ZsOK A Zs) (hD : wlD 21 ad A) {v1 : Int32} {hi : HI} {hl : HL} {Φ : Int32 → HI → HL → Prop} (h : wpM_fixed v1 hi hl Φ) : SpI l yM_fixed cM_fixed 6 (some .boolean) gT 1 21 [.ref (ad 0), .int v1] D cls8 (tys5 cI cJ cC cZ cR) 21 ad (GM cI cZ ad) A Zs hi hl Φ := by
  refine Met.ofW (cc := cM_fixed) (maxL := 6) (ret := (some .boolean)) (by decide) rfl ?_
  intro p e s m args below meth c s₁ B hml hv
  obtain ⟨rfl, hP, hK, hZs⟩ := hv
  have K : Cx p (rmX 1 21) s m _ meth c cM_fixed 6 "WordCheckerModel" gT D cls8 (tys5 cI cJ cC cZ cR) 21 ad A Zs := ⟨B.exec, B.bytes, hml, findClass_of_methodNamed B.named, fun w hw => atoms_spec B.pre w (List.mem_cons_of_mem _ hw), B.notSynchronized, hK, hD, hZs⟩
  have hL := lv_entry ([.ref (ad 0), .int v1]) (n := 6) (Nat.le_of_ble_eq_true rfl)
  rw [lg_entry_eq]
  generalize (lg_sl ([.ref (ad 0), .int v1]) ++ List.replicate (6 - (lg_sl ([.ref (ad 0), .int v1])).length) Slot.unset).toArray = ls at hL ⊢
  have hL : lv_has ls 6 [(0, .ref (ad 0)), (1, .int v1)] := hL
  unfold wpM_fixed at h
  exact bM_fixed_0 K B.returns hZ h (lv_sub hL [0, 1] rfl) hP va_S.rf
