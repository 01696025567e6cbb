set_option maxRecDepth 100000 in
set_option maxHeartbeats 4000000 in
theorem bM_has_45 {p : Program} {l : Launch} {e : Env} {s : State} {m : MethodId} {args : Array Value} {below : List Frame} {meth : Method} {c : Code} {D : va_G} {cI cJ cC cZ cR : ClassId} {ad : Nat → Nat} {A : Nat → Prop} {Zs : State → Prop} (K : Cx p (rmX 0 0) s m args meth c cM_has 5 "WordCheckerModel" gT D cls8 (tys5 cI cJ cC cZ cR) 21 ad A Zs) (hr : meth.sig.returnType = (some .boolean)) (hZ : ZsOK A Zs) {Φ : Int32 → HI → HL → Prop} {k5 : Int32 → Int32 → Int32 → Int32 → HI → HL → Prop} (hk5 : ∀ (v1 : Int32) (v2 : Int32) (v3 : Int32) (v4 : Int32) (hi : HI) (hl : HL) (ls : Array Slot) (H : Heap) (locs : List Loc), k5 v1 v2 v3 v4 hi hl → lv_has ls 5 [(0, .ref (ad 0)), (1, .int v1), (2, .int v2), (3, .int v3), (4, .int v4)] → va_P D cls8 (wl 21 ad (GM cI cZ ad) hi hl) H → va_S A s.heap H locs → W p l e (rmX 0 0) s m args below meth c H locs 0 0 (MQ below (va_Qi (fun r (u : HI × HL) => Φ r u.1 u.2) (fun u t => va_P D cls8 (wl 21 ad (GM cI cZ ad) u.1 u.2) t.heap) A) args s 0 0 A) (F0 m 5 ls [])) {v1 : Int32} {v2 : Int32} {v4 : Int32} {q0 : Int32} {hi : HI} {hl : HL} {H : Heap} {locs : List Loc} (h : wbM_has_45 k5 v1 v2 v4 q0 hi hl Φ) {ls : Array Slot} (hL : lv_has ls 5 [(0, .ref (ad 0)), (1, .int v1), (2, .int v2), (4, .int v4)]) (hP : va_P D cls8 (wl 21 ad (GM cI cZ ad) hi hl) H) (hS : va_S A s.heap H locs) : W p l e (rmX 0 0) s m args below meth c H locs 0 0 (MQ below (va_Qi (fun r (u : HI × HL) => Φ r u.1 u.2) (fun u t => va_P D cls8 (wl 21 ad (GM cI cZ ad) u.1 u.2) t.heap) A) args s 0 0 A) (F0 m 45 ls [.int q0]) := by
  unfold wbM_has_45 at h
  refine lv_istore_n (lv' := [(3, .int q0), (0, .ref (ad 0)), (1, .int v1), (2, .int v2), (4, .int v4)]) K.1 K.2.1 dM_has_45 rfl hL (by decide) rfl (fun ls hL => ?_)
  refine lv_iinc (k := 4) (lv' := [(4, .int (v4 + Int32.ofInt (1))), (3, .int q0), (0, .ref (ad 0)), (1, .int v1), (2, .int v2)]) K.1 K.2.1 dM_has_46 hL rfl rfl (by decide) rfl (fun ls hL => ?_)
  refine lv_goto (tgt := 5) K.1 K.2.1 dM_has_49 rfl ?_
  exact hk5 _ _ _ _ _ _ _ _ _ h (lv_sub hL [2, 3, 4, 1, 0] rfl) hP hS
set_option maxRecDepth 100000 in
set_option maxHeartbeats 4000000 in
theorem bM_has_40 {p : Program} {l : Launch} {e : Env} {s : State} {m : MethodId} {args : Array Value} {below : List Frame} {meth : Method} {c : Code} {D : va_G} {cI cJ cC cZ cR : ClassId} {ad : Nat → Nat} {A : Nat → Prop} {Zs : State → Prop} (K : Cx p (rmX 0 0) s m args meth c cM_has 5 "WordCheckerModel" gT D cls8 (tys5 cI cJ cC cZ cR) 21 ad A Zs) (hr : meth.sig.returnType = (some .boolean)) (hZ : ZsOK A Zs) {Φ : Int32 → HI → HL → Prop} {k5 : Int32 → Int32 → Int32 → Int32 → HI → HL → Prop} (hk5 : ∀ (v1 : Int32) (v2 : Int32) (v3 : Int32) (v4 : Int32) (hi : HI) (hl : HL) (ls : Array Slot) (H : Heap) (locs : List Loc), k5 v1 v2 v3 v4 hi hl → lv_has ls 5 [(0, .ref (ad 0)), (1, .int v1), (2, .int v2), (3, .int v3), (4, .int v4)] → va_P D cls8 (wl 21 ad (GM cI cZ ad) hi hl) H → va_S A s.heap H locs → W p l e (rmX 0 0) s m args below meth c H locs 0 0 (MQ below (va_Qi (fun r (u : HI × HL) => Φ r u.1 u.2) (fun u t => va_P D cls8 (wl 21 ad (GM cI cZ ad) u.1 u.2) t.heap) A) args s 0 0 A) (F0 m 5 ls [])) {v1 : Int32} {v2 : Int32} {v4 : Int32} {hi : HI} {hl : HL} {H : Heap} {locs : List Loc} (h : wbM_has_40 k5 v1 v2 v4 hi hl Φ) {ls : Array Slot} (hL : lv_has ls 5 [(0, .ref (ad 0)), (1, .int v1), (2, .int v2), (4, .int v4)]) (hP : va_P D cls8 (wl 21 ad (GM cI cZ ad) hi hl) H) (hS : va_S A s.heap H locs) : W p l e (rmX 0 0) s m args below meth c H locs 0 0 (MQ below (va_Qi (fun r (u : HI × HL) => Φ r u.1 u.2) (fun u t => va_P D cls8 (wl 21 ad (GM cI cZ ad) u.1 u.2) t.heap) A) args s 0 0 A) (F0 m 40 ls []) := by
  unfold wbM_has_40 at h
  refine lv_iconst (v := 1) K.1 K.2.1 dM_has_40 (by decide) ?_
  refine lv_goto (tgt := 45) K.1 K.2.1 dM_has_41 rfl ?_
  exact bM_has_45 K hr hZ hk5 h (lv_sub hL [0, 1, 2, 3] rfl) hP hS
set_option maxRecDepth 100000 in
set_option maxHeartbeats 4000000 in
theorem bM_has_44 {p : Program} {l : Launch} {e : Env} {s : State} {m : MethodId} {args : Array Value} {below : List Frame} {meth : Method} {c : Code} {D : va_G} {cI cJ cC cZ cR : ClassId} {ad : Nat → Nat} {A : Nat → Prop} {Zs : State → Prop} (K : Cx p (rmX 0 0) s m args meth c cM_has 5 "WordCheckerModel" gT D cls8 (tys5 cI cJ cC cZ cR) 21 ad A Zs) (hr : meth.sig.returnType = (some .boolean)) (hZ : ZsOK A Zs) {Φ : Int32 → HI → HL → Prop} {k5 : Int32 → Int32 → Int32 → Int32 → HI → HL → Prop} (hk5 : ∀ (v1 : Int32) (v2 : Int32) (v3 : Int32) (v4 : Int32) (hi : HI) (hl : HL) (ls : Array Slot) (H : Heap) (locs : List Loc), k5 v1 v2 v3 v4 hi hl → lv_has ls 5 [(0, .ref (ad 0)), (1, .int v1), (2, .int v2), (3, .int v3), (4, .int v4)] → va_P D cls8 (wl 21 ad (GM cI cZ ad) hi hl) H → va_S A s.heap H locs → W p l e (rmX 0 0) s m args below meth c H locs 0 0 (MQ below (va_Qi (fun r (u : HI × HL) => Φ r u.1 u.2) (fun u t => va_P D cls8 (wl 21 ad (GM cI cZ ad) u.1 u.2) t.heap) A) args s 0 0 A) (F0 m 5 ls [])) {v1 : Int32} {v2 : Int32} {v4 : Int32} {hi : HI} {hl : HL} {H : Heap} {locs : List Loc} (h : wbM_has_44 k5 v1 v2 v4 hi hl Φ) {ls : Array Slot} (hL : lv_has ls 5 [(0, .ref (ad 0)), (1, .int v1), (2, .int v2), (4, .int v4)]) (hP : va_P D cls8 (wl 21 ad (GM cI cZ ad) hi hl) H) (hS : va_S A s.heap H locs) : W p l e (rmX 0 0) s m args below meth c H locs 0 0 (MQ below (va_Qi (fun r (u : HI × HL) => Φ r u.1 u.2) (fun u t => va_P D cls8 (wl 21 ad (GM cI cZ ad) u.1 u.2) t.heap) A) args s 0 0 A) (F0 m 44 ls []) := by
  unfold wbM_has_44 at h
  refine lv_iconst (v := 0) K.1 K.2.1 dM_has_44 (by decide) ?_
  exact bM_has_45 K hr hZ hk5 h (lv_sub hL [0, 1, 2, 3] rfl) hP hS
set_option maxRecDepth 100000 in
set_option maxHeartbeats 4000000 in
theorem bM_has_5 {p : Program} {l : Launch} {e : Env} {s : State} {m : MethodId} {args : Array Value} {below : List Frame} {meth : Method} {c : Code} {D : va_G} {cI cJ cC cZ cR : ClassId} {ad : Nat → Nat} {A : Nat → Prop} {Zs : State → Prop} (K : Cx p (rmX 0 0) s m args meth c cM_has 5 "WordCheckerModel" gT D cls8 (tys5 cI cJ cC cZ cR) 21 ad A Zs) (hr : meth.sig.returnType = (some .boolean)) (hZ : ZsOK A Zs) {Φ : Int32 → HI → HL → Prop} {n : Nat} {v1 : Int32} {v2 : Int32} {v3 : Int32} {v4 : Int32} {hi : HI} {hl : HL} {H : Heap} {locs : List Loc} (h : wbM_has_5 n v1 v2 v3 v4 hi hl Φ) {ls : Array Slot} (hL : lv_has ls 5 [(0, .ref (ad 0)), (1, .int v1), (2, .int v2), (3, .int v3), (4, .int v4)]) (hP : va_P D cls8 (wl 21 ad (GM cI cZ ad) hi hl) H) (hS : va_S A s.heap H locs) : W p l e (rmX 0 0) s m args below meth c H locs 0 0 (MQ below (va_Qi (fun r (u : HI × HL) => Φ r u.1 u.2) (fun u t => va_P D cls8 (wl 21 ad (GM cI cZ ad) u.1 u.2) t.heap) A) args s 0 0 A) (F0 m 5 ls []) := by
  induction n generalizing v1 v2 v3 v4 hi hl ls H locs with
  | zero => exact False.elim h
  | succ n ih =>
    unfold wbM_has_5 at h
    refine lv_iload K.1 K.2.1 dM_has_5 (lv_at hL 4 rfl) ?_
    refine lv_aload_n K.1 K.2.1 dM_has_7 rfl (lv_at hL 0 rfl) ?_
    refine x_get (v := .int (hi 0 6)) K hP hinM (ci := 7) rfl 0 (by decide) rfl 6 (by decide) flM_155 rfl rfl dM_has_8 ?_
    refine lv_icmp_ge (tgt := 52) K.1 K.2.1 dM_has_11 rfl (fun hc => ?_) (fun hc => ?_)
    · have h := h.1 hc
      refine lv_iload_n K.1 K.2.1 dM_has_52 rfl (lv_at hL 3 rfl) ?_
      obtain ⟨g1, h⟩ := h
      exact x_zret K hr hP hS g1 h dM_has_53
    · have h := h.2 hc
      refine lv_iload_n K.1 K.2.1 dM_has_14 rfl (lv_at hL 3 rfl) ?_
      refine lv_if_ne (tgt := 40) K.1 K.2.1 dM_has_15 rfl (fun hc => ?_) (fun hc => ?_)
      · have h := h.2 hc
        exact bM_has_40 K hr hZ (fun v1 v2 v3 v4 hi hl ls H locs h hL hP hS => ih h hL hP hS) h (lv_sub hL [0, 1, 2, 4] rfl) hP hS
      · have h := h.1 hc
        refine lv_aload_n K.1 K.2.1 dM_has_18 rfl (lv_at hL 0 rfl) ?_
        refine x_get (v := .ref (ad 5)) K hP hinM (ci := 7) rfl 0 (by decide) rfl 8 (by decide) flM_22 rfl rfl dM_has_19 ?_
        refine lv_iload K.1 K.2.1 dM_has_22 (lv_at hL 4 rfl) ?_
        obtain ⟨g2, h⟩ := h
        refine x_iald K hP 5 (by decide) 0 rfl rfl g2 dM_has_24 ?_
        refine lv_iload_n K.1 K.2.1 dM_has_25 rfl (lv_at hL 1 rfl) ?_
        refine lv_icmp_ne (tgt := 44) K.1 K.2.1 dM_has_26 rfl (fun hc => ?_) (fun hc => ?_)
        · have h := h.2 hc
          exact bM_has_44 K hr hZ (fun v1 v2 v3 v4 hi hl ls H locs h hL hP hS => ih h hL hP hS) h (lv_sub hL [0, 1, 2, 4] rfl) hP hS
        · have h := h.1 hc
          refine lv_aload_n K.1 K.2.1 dM_has_29 rfl (lv_at hL 0 rfl) ?_
          refine x_get (v := .ref (ad 7)) K hP hinM (ci := 7) rfl 0 (by decide) rfl 10 (by decide) flM_28 rfl rfl dM_has_30 ?_
          refine lv_iload K.1 K.2.1 dM_has_33 (lv_at hL 4 rfl) ?_
          obtain ⟨g3, h⟩ := h
          refine x_iald K hP 7 (by decide) 0 rfl rfl g3 dM_has_35 ?_
          refine lv_iload_n K.1 K.2.1 dM_has_36 rfl (lv_at hL 2 rfl) ?_
          refine lv_icmp_ne (tgt := 44) K.1 K.2.1 dM_has_37 rfl (fun hc => ?_) (fun hc => ?_)
          · have h := h.2 hc
            exact bM_has_44 K hr hZ (fun v1 v2 v3 v4 hi hl ls H locs h hL hP hS => ih h hL hP hS) h (lv_sub hL [0, 1, 2, 4] rfl) hP hS
          · have h := h.1 hc
            exact bM_has_40 K hr hZ (fun v1 v2 v3 v4 hi hl ls H locs h hL hP hS => ih h hL hP hS) h (lv_sub hL [0, 1, 2, 4] rfl) hP hS
set_option maxRecDepth 100000 in
set_option maxHeartbeats 4000000 in
theorem bM_has_0 {p : Program} {l : Launch} {e : Env} {s : State} {m : MethodId} {args : Array Value} {below : List Frame} {meth : Method} {c : Code} {D : va_G} {cI cJ cC cZ cR : ClassId} {ad : Nat → Nat} {A : Nat → Prop} {Zs : State → Prop} (K : Cx p (rmX 0 0) s m args meth c cM_has 5 "WordCheckerModel" gT D cls8 (tys5 cI cJ cC cZ cR) 21 ad A Zs) (hr : meth.sig.returnType = (some .boolean)) (hZ : ZsOK A Zs) {Φ : Int32 → HI → HL → Prop} {v1 : Int32} {v2 : Int32} {hi : HI} {hl : HL} {H : Heap} {locs : List Loc} (h : wbM_has_0 v1 v2 hi hl Φ) {ls : Array Slot} (hL : lv_has ls 5 [(0, .ref (ad 0)), (1, .int v1), (2, .int v2)]) (hP : va_P D cls8 (wl 21 ad (GM cI cZ ad) hi hl) H) (hS : va_S A s.heap H locs) : W p l e (rmX 0 0) s m args below meth c H locs 0 0 (MQ below (va_Qi (fun r (u : HI × HL) => Φ r u.1 u.2) (fun u t => va_P D cls8 (wl 21 ad (GM cI cZ ad) u.1 u.2) t.heap) A) args s 0 0 A) (F0 m 0 ls []) := by
  unfold wbM_has_0 at h
  refine lv_iconst (v := 0) K.1 K.2.1 dM_has_0 (by decide) ?_
  refine lv_istore_n (lv' := [(3, .int (0 : Int32)), (0, .ref (ad 0)), (1, .int v1), (2, .int v2)]) K.1 K.2.1 dM_has_1 rfl hL (by decide) rfl (fun ls hL => ?_)
  refine lv_iconst (v := 0) K.1 K.2.1 dM_has_2 (by decide) ?_
  refine lv_istore (lv' := [(4, .int (0 : Int32)), (3, .int (0 : Int32)), (0, .ref (ad 0)), (1, .int v1), (2, .int v2)]) K.1 K.2.1 dM_has_3 hL (by decide) rfl (fun ls hL => ?_)
  obtain ⟨fu, h⟩ := h
  exact bM_has_5 K hr hZ h (lv_sub hL [2, 3, 4, 1, 0] rfl) hP hS
set_option maxRecDepth 100000 in
set_option maxHeartbeats 4000000 in
theorem mM_has {l : Launch} {D : va_G} {cI cJ cC cZ cR : ClassId} {ad : Nat → Nat} {A : Nat → Prop} {Zs : State → Prop} (hZ : ZsOK A Zs) (hD : wlD 21 ad A) {v1 : Int32} {v2 : Int32} {hi : HI} {hl : HL} {Φ : Int32 → HI → HL → Prop} (h : wpM_has v1 v2 hi hl Φ) : SpI l yM_has cM_has 5 (some .boolean) gT 0 0 [.ref (ad 0), .int v1, .int v2] D cls8 (tys5 cI cJ cC cZ cR) 21 ad (GM cI cZ ad) A Zs hi hl Φ := by
  refine Met.ofW (cc := cM_has) (maxL := 5) (ret := (some .boolean)) (by decide) rfl ?_
  intro p e s m args below meth c s₁ B hml hv
  obtain ⟨rfl, hP, hK, hZs⟩ := hv
  have K : Cx p (rmX 0 0) s m _ meth c cM_has 5 "WordCheckerModel" gT D cls8 (tys5 cI cJ cC cZ cR) 21 ad A Zs := ⟨B.exec, B.bytes, hml, findClass_of_methodNamed B.named, fun w hw => atoms_spec B.pre w (List.mem_cons_of_mem _ hw), B.notSynchronized, hK, hD, hZs⟩
  have hL := lv_entry ([.ref (ad 0), .int v1, .int v2]) (n := 5) (Nat.le_of_ble_eq_true rfl)
  rw [lg_entry_eq]
  generalize (lg_sl ([.ref (ad 0), .int v1, .int v2]) ++ List.replicate (5 - (lg_sl ([.ref (ad 0), .int v1, .int v2])).length) Slot.unset).toArray = ls at hL ⊢
  have hL : lv_has ls 5 [(0, .ref (ad 0)), (1, .int v1), (2, .int v2)] := hL
  unfold wpM_has at h
  exact bM_has_0 K B.returns hZ h (lv_sub hL [0, 1, 2] rfl) hP va_S.rf
set_option maxRecDepth 100000 in
set_option maxHeartbeats 4000000 in
theorem bM_readInit_166 {p : Program} {l : Launch} {e : Env} {s : State} {m : MethodId} {args : Array Value} {below : List Frame} {meth : Method} {c : Code} {D : va_G} {cI cJ cC cZ cR : ClassId} {ad : Nat → Nat} {A : Nat → Prop} {Zs : State → Prop} (K : Cx p (rmX 4 91) s m args meth c cM_readInit 5 "WordCheckerModel" gT D cls8 (tys5 cI cJ cC cZ cR) 21 ad A Zs) (hr : meth.sig.returnType = (some .boolean)) (hZ : ZsOK A Zs) {Φ : Int32 → HI → HL → Prop} {hi : HI} {hl : HL} {H : Heap} {locs : List Loc} (h : wbM_readInit_166 hi hl Φ) {ls : Array Slot} (hL : lv_has ls 5 []) (hP : va_P D cls8 (wl 21 ad (GM cI cZ ad) hi hl) H) (hS : va_S A s.heap H locs) : W p l e (rmX 4 91) s m args below meth c H locs 0 0 (MQ below (va_Qi (fun r (u : HI × HL) => Φ r u.1 u.2) (fun u t => va_P D cls8 (wl 21 ad (GM cI cZ ad) u.1 u.2) t.heap) A) args s 0 0 A) (F0 m 166 ls [.ref (ad 0)]) := by
  unfold wbM_readInit_166 at h
  refine lv_iconst (v := 0) K.1 K.2.1 dM_readInit_166 (by decide) ?_
  refine x_cVI (As := [.int (0 : Int32)]) (rest := []) K gT_good hZ hP hS calM_on mlM_184 0 (by decide) rfl rfl (mM_on hZ K.2.2.2.2.2.2.2.1 h) ⟨Nat.le_of_ble_eq_true rfl, Nat.le_of_ble_eq_true rfl⟩ rfl hL.1 rfl (Nat.le_of_ble_eq_true rfl) dM_readInit_167 (fun r1 hi2 hl3 H locs h hP hS => ?_)
  obtain ⟨g4, h⟩ := h
  exact x_zret K hr hP hS g4 h dM_readInit_170
set_option maxRecDepth 100000 in
set_option maxHeartbeats 4000000 in
theorem bM_readInit_162 {p : Program} {l : Launch} {e : Env} {s : State} {m : MethodId} {args : Array Value} {below : List Frame} {meth : Method} {c : Code} {D : va_G} {cI cJ cC cZ cR : ClassId} {ad : Nat → Nat} {A : Nat → Prop} {Zs : State → Prop} (K : Cx p (rmX 4 91) s m args meth c cM_readInit 5 "WordCheckerModel" gT D cls8 (tys5 cI cJ cC cZ cR) 21 ad A Zs) (hr : meth.sig.returnType = (some .boolean)) (hZ : ZsOK A Zs) {Φ : Int32 → HI → HL → Prop} {hi : HI} {hl : HL} {H : Heap} {locs : List Loc} (h : wbM_readInit_162 hi hl Φ) {ls : Array Slot} (hL : lv_has ls 5 []) (hP : va_P D cls8 (wl 21 ad (GM cI cZ ad) hi hl) H) (hS : va_S A s.heap H locs) : W p l e (rmX 4 91) s m args below meth c H locs 0 0 (MQ below (va_Qi (fun r (u : HI × HL) => Φ r u.1 u.2) (fun u t => va_P D cls8 (wl 21 ad (GM cI cZ ad) u.1 u.2) t.heap) A) args s 0 0 A) (F0 m 162 ls [.ref (ad 0)]) := by
  unfold wbM_readInit_162 at h
  refine lv_iconst (v := 1) K.1 K.2.1 dM_readInit_162 (by decide) ?_
  refine lv_goto (tgt := 167) K.1 K.2.1 dM_readInit_163 rfl ?_
  refine x_cVI (As := [.int (1 : Int32)]) (rest := []) K gT_good hZ hP hS calM_on mlM_184 0 (by decide) rfl rfl (mM_on hZ K.2.2.2.2.2.2.2.1 h) ⟨Nat.le_of_ble_eq_true rfl, Nat.le_of_ble_eq_true rfl⟩ rfl hL.1 rfl (Nat.le_of_ble_eq_true rfl) dM_readInit_167 (fun r1 hi2 hl3 H locs h hP hS => ?_)
  obtain ⟨g4, h⟩ := h
  exact x_zret K hr hP hS g4 h dM_readInit_170
set_option maxRecDepth 100000 in
set_option maxHeartbeats 4000000 in
theorem bM_readInit_88 {p : Program} {l : Launch} {e : Env} {s : State} {m : MethodId} {args : Array Value} {below : List Frame} {meth : Method} {c : Code} {D : va_G} {cI cJ cC cZ cR : ClassId} {ad : Nat → Nat} {A : Nat → Prop} {Zs : State → Prop} (K : Cx p (rmX 4 91) s m args meth c cM_readInit 5 "WordCheckerModel" gT D cls8 (tys5 cI cJ cC cZ cR) 21 ad A Zs) (hr : meth.sig.returnType = (some .boolean)) (hZ : ZsOK A Zs) {Φ : Int32 → HI → HL → Prop} {v1 : Int32} {v2 : Int32} {q1 : Int32} {hi : HI} {hl : HL} {H : Heap} {locs : List Loc} (h : wbM_readInit_88 v1 v2 q1 hi hl Φ) {ls : Array Slot} (hL : lv_has ls 5 [(0, .ref (ad 0)), (1, .int v1), (2, .int v2)]) (hP : va_P D cls8 (wl 21 ad (GM cI cZ ad) hi hl) H) (hS : va_S A s.heap H locs) : W p l e (rmX 4 91) s m args below meth c H locs 0 0 (MQ below (va_Qi (fun r (u : HI × HL) => Φ r u.1 u.2) (fun u t => va_P D cls8 (wl 21 ad (GM cI cZ ad) u.1 u.2) t.heap) A) args s 0 0 A) (F0 m 88 ls [.int q1, .ref (ad 0)]) := by
  unfold wbM_readInit_88 at h
  refine x_cVI (As := [.int q1]) (rest := []) K gT_good hZ hP hS calM_on mlM_184 0 (by decide) rfl rfl (mM_on hZ K.2.2.2.2.2.2.2.1 h) ⟨Nat.le_of_ble_eq_true rfl, Nat.le_of_ble_eq_true rfl⟩ rfl hL.1 rfl (Nat.le_of_ble_eq_true rfl) dM_readInit_88 (fun r1 hi2 hl3 H locs h hP hS => ?_)
  refine lv_if_ne (tgt := 96) K.1 K.2.1 dM_readInit_91 rfl (fun hc => ?_) (fun hc => ?_)
  · have h := h.2 hc
    refine lv_aload_n K.1 K.2.1 dM_readInit_96 rfl (lv_at hL 0 rfl) ?_
    refine x_cVI (As := []) (rest := []) K gT_good hZ hP hS calM_nodeWord mlM_176 0 (by decide) rfl rfl (mM_nodeWord hZ K.2.2.2.2.2.2.2.1 h) ⟨Nat.le_of_ble_eq_true rfl, Nat.le_of_ble_eq_true rfl⟩ rfl hL.1 rfl (Nat.le_of_ble_eq_true rfl) dM_readInit_97 (fun r4 hi5 hl6 H locs h hP hS => ?_)
    refine lv_istore (lv' := [(4, .int r4), (0, .ref (ad 0)), (1, .int v1), (2, .int v2)]) K.1 K.2.1 dM_readInit_100 hL (by decide) rfl (fun ls hL => ?_)
    refine lv_aload_n K.1 K.2.1 dM_readInit_102 rfl (lv_at hL 1 rfl) ?_
    refine x_get (v := .ref (ad 8)) K hP hinM (ci := 7) rfl 0 (by decide) rfl 11 (by decide) flM_31 rfl rfl dM_readInit_103 ?_
    refine lv_aload_n K.1 K.2.1 dM_readInit_106 rfl (lv_at hL 1 rfl) ?_
    refine x_get (v := .int (hi5 0 6)) K hP hinM (ci := 7) rfl 0 (by decide) rfl 6 (by decide) flM_155 rfl rfl dM_readInit_107 ?_
    refine lv_iload K.1 K.2.1 dM_readInit_110 (lv_at hL 0 rfl) ?_
    obtain ⟨g7, h⟩ := h
    refine x_iast K hP hS 8 (by decide) 0 (fun _ => rfl) rfl g7 dM_readInit_112 (fun H locs hP hS => ?_)
    refine lv_aload_n K.1 K.2.1 dM_readInit_113 rfl (lv_at hL 1 rfl) ?_
    refine x_get (v := .ref (ad 11)) K hP hinM (ci := 7) rfl 0 (by decide) rfl 14 (by decide) flM_41 rfl rfl dM_readInit_114 ?_
    refine lv_aload_n K.1 K.2.1 dM_readInit_117 rfl (lv_at hL 1 rfl) ?_
    refine x_get (v := .int ((u2 hi5 8 ((hi5 0 6).toNatClampNeg) r4) 0 6)) K hP hinM (ci := 7) rfl 0 (by decide) rfl 6 (by decide) flM_155 rfl rfl dM_readInit_118 ?_
    refine lv_aload_n K.1 K.2.1 dM_readInit_121 rfl (lv_at hL 1 rfl) ?_
    refine x_get (v := .int ((u2 hi5 8 ((hi5 0 6).toNatClampNeg) r4) 0 20)) K hP hinM (ci := 7) rfl 0 (by decide) rfl 20 (by decide) flM_168 rfl rfl dM_readInit_122 ?_
    obtain ⟨g8, h⟩ := h
    refine x_zast K hP hS 11 (by decide) 3 (fun _ => rfl) rfl g8 dM_readInit_125 (fun H locs hP hS => ?_)
    refine lv_aload_n K.1 K.2.1 dM_readInit_126 rfl (lv_at hL 1 rfl) ?_
    refine lv_iload K.1 K.2.1 dM_readInit_127 (lv_at hL 0 rfl) ?_
    refine lv_if_lt (tgt := 166) K.1 K.2.1 dM_readInit_129 rfl (fun hc => ?_) (fun hc => ?_)
    · have h := h.1 hc
      exact bM_readInit_166 K hr hZ h (lv_sub hL [] rfl) hP hS
    · have h := h.2 hc
      refine lv_aload_n K.1 K.2.1 dM_readInit_132 rfl (lv_at hL 1 rfl) ?_
      refine lv_aload_n K.1 K.2.1 dM_readInit_133 rfl (lv_at hL 1 rfl) ?_
      refine x_get (v := .ref (ad 6)) K hP hinM (ci := 7) rfl 0 (by decide) rfl 9 (by decide) flM_25 rfl rfl dM_readInit_134 ?_
      refine lv_iload K.1 K.2.1 dM_readInit_137 (lv_at hL 0 rfl) ?_
      obtain ⟨g9, h⟩ := h
      refine x_iald K hP 6 (by decide) 0 rfl rfl g9 dM_readInit_139 ?_
      refine lv_iload_n K.1 K.2.1 dM_readInit_140 rfl (lv_at hL 3 rfl) ?_
      refine x_cVI (As := [.int ((u2 (u2 hi5 8 ((hi5 0 6).toNatClampNeg) r4) 11 (((u2 hi5 8 ((hi5 0 6).toNatClampNeg) r4) 0 6).toNatClampNeg) (vp_nar .boolean ((u2 hi5 8 ((hi5 0 6).toNatClampNeg) r4) 0 20))) 6 (r4.toNatClampNeg)), .int v2]) (rest := [.ref (ad 0)]) K gT_good hZ hP hS calM_sameSort mlM_180 0 (by decide) rfl rfl (mM_sameSort hZ K.2.2.2.2.2.2.2.1 h) ⟨Nat.le_of_ble_eq_true rfl, Nat.le_of_ble_eq_true rfl⟩ rfl hL.1 rfl (Nat.le_of_ble_eq_true rfl) dM_readInit_141 (fun r10 hi11 hl12 H locs h hP hS => ?_)
      refine lv_if_eq (tgt := 166) K.1 K.2.1 dM_readInit_144 rfl (fun hc => ?_) (fun hc => ?_)
      · have h := h.1 hc
        exact bM_readInit_166 K hr hZ h (lv_sub hL [] rfl) hP hS
      · have h := h.2 hc
        refine lv_iload_n K.1 K.2.1 dM_readInit_147 rfl (lv_at hL 2 rfl) ?_
        refine lv_bipush (v := 28) K.1 K.2.1 dM_readInit_148 (by decide) ?_
        refine lv_icmp_eq (tgt := 162) K.1 K.2.1 dM_readInit_150 rfl (fun hc => ?_) (fun hc => ?_)
        · have h := h.1 hc
          exact bM_readInit_162 K hr hZ h (lv_sub hL [] rfl) hP hS
        · have h := h.2 hc
          refine lv_aload_n K.1 K.2.1 dM_readInit_153 rfl (lv_at hL 1 rfl) ?_
          refine lv_iload K.1 K.2.1 dM_readInit_154 (lv_at hL 0 rfl) ?_
          refine x_cVI (As := [.int r4]) (rest := [.ref (ad 0)]) K gT_good hZ hP hS calM_fixed mlM_214 0 (by decide) rfl rfl (mM_fixed hZ K.2.2.2.2.2.2.2.1 h) ⟨Nat.le_of_ble_eq_true rfl, Nat.le_of_ble_eq_true rfl⟩ rfl hL.1 rfl (Nat.le_of_ble_eq_true rfl) dM_readInit_156 (fun r13 hi14 hl15 H locs h hP hS => ?_)
          refine lv_if_eq (tgt := 166) K.1 K.2.1 dM_readInit_159 rfl (fun hc => ?_) (fun hc => ?_)
          · have h := h.1 hc
            exact bM_readInit_166 K hr hZ h (lv_sub hL [] rfl) hP hS
          · have h := h.2 hc
            exact bM_readInit_162 K hr hZ h (lv_sub hL [] rfl) hP hS
  · have h := h.1 hc
    refine lv_iconst (v := 0) K.1 K.2.1 dM_readInit_94 (by decide) ?_
    obtain ⟨g16, h⟩ := h
    exact x_zret K hr hP hS g16 h dM_readInit_95
set_option maxRecDepth 100000 in
set_option maxHeartbeats 4000000 in
theorem bM_readInit_87 {p : Program} {l : Launch} {e : Env} {s : State} {m : MethodId} {args : Array Value} {below : List Frame} {meth : Method} {c : Code} {D : va_G} {cI cJ cC cZ cR : ClassId} {ad : Nat → Nat} {A : Nat → Prop} {Zs : State → Prop} (K : Cx p (rmX 4 91) s m args meth c cM_readInit 5 "WordCheckerModel" gT D cls8 (tys5 cI cJ cC cZ cR) 21 ad A Zs) (hr : meth.sig.returnType = (some .boolean)) (hZ : ZsOK A Zs) {Φ : Int32 → HI → HL → Prop} {v1 : Int32} {v2 : Int32} {hi : HI} {hl : HL} {H : Heap} {locs : List Loc} (h : wbM_readInit_87 v1 v2 hi hl Φ) {ls : Array Slot} (hL : lv_has ls 5 [(0, .ref (ad 0)), (1, .int v1), (2, .int v2)]) (hP : va_P D cls8 (wl 21 ad (GM cI cZ ad) hi hl) H) (hS : va_S A s.heap H locs) : W p l e (rmX 4 91) s m args below meth c H locs 0 0 (MQ below (va_Qi (fun r (u : HI × HL) => Φ r u.1 u.2) (fun u t => va_P D cls8 (wl 21 ad (GM cI cZ ad) u.1 u.2) t.heap) A) args s 0 0 A) (F0 m 87 ls [.ref (ad 0)]) := by
  unfold wbM_readInit_87 at h
  refine lv_iconst (v := 0) K.1 K.2.1 dM_readInit_87 (by decide) ?_
  exact bM_readInit_88 K hr hZ h (lv_sub hL [0, 1, 2] rfl) hP hS
set_option maxRecDepth 100000 in
set_option maxHeartbeats 4000000 in
theorem bM_readInit_15 {p : Program} {l : Launch} {e : Env} {s : State} {m : MethodId} {args : Array Value} {below : List Frame} {meth : Method} {c : Code} {D : va_G} {cI cJ cC cZ cR : ClassId} {ad : Nat → Nat} {A : Nat → Prop} {Zs : State → Prop} (K : Cx p (rmX 4 91) s m args meth c cM_readInit 5 "WordCheckerModel" gT D cls8 (tys5 cI cJ cC cZ cR) 21 ad A Zs) (hr : meth.sig.returnType = (some .boolean)) (hZ : ZsOK A Zs) {Φ : Int32 → HI → HL → Prop} {v1 : Int32} {v2 : Int32} {q1 : Int32} {hi : HI} {hl : HL} {H : Heap} {locs : List Loc} (h : wbM_readInit_15 v1 v2 q1 hi hl Φ) {ls : Array Slot} (hL : lv_has ls 5 [(0, .ref (ad 0)), (1, .int v1), (2, .int v2)]) (hP : va_P D cls8 (wl 21 ad (GM cI cZ ad) hi hl) H) (hS : va_S A s.heap H locs) : W p l e (rmX 4 91) s m args below meth c H locs 0 0 (MQ below (va_Qi (fun r (u : HI × HL) => Φ r u.1 u.2) (fun u t => va_P D cls8 (wl 21 ad (GM cI cZ ad) u.1 u.2) t.heap) A) args s 0 0 A) (F0 m 15 ls [.int q1, .ref (ad 0)]) := by
  unfold wbM_readInit_15 at h
  refine x_cVI (As := [.int q1]) (rest := []) K gT_good hZ hP hS calM_on mlM_184 0 (by decide) rfl rfl (mM_on hZ K.2.2.2.2.2.2.2.1 h) ⟨Nat.le_of_ble_eq_true rfl, Nat.le_of_ble_eq_true rfl⟩ rfl hL.1 rfl (Nat.le_of_ble_eq_true rfl) dM_readInit_15 (fun r1 hi2 hl3 H locs h hP hS => ?_)
  refine lv_if_ne (tgt := 23) K.1 K.2.1 dM_readInit_18 rfl (fun hc => ?_) (fun hc => ?_)
  · have h := h.2 hc
    refine lv_aload_n K.1 K.2.1 dM_readInit_23 rfl (lv_at hL 0 rfl) ?_
    refine x_cVI (As := []) (rest := []) K gT_good hZ hP hS calM_nodeWord mlM_176 0 (by decide) rfl rfl (mM_nodeWord hZ K.2.2.2.2.2.2.2.1 h) ⟨Nat.le_of_ble_eq_true rfl, Nat.le_of_ble_eq_true rfl⟩ rfl hL.1 rfl (Nat.le_of_ble_eq_true rfl) dM_readInit_24 (fun r4 hi5 hl6 H locs h hP hS => ?_)
    refine lv_istore_n (lv' := [(3, .int r4), (0, .ref (ad 0)), (1, .int v1), (2, .int v2)]) K.1 K.2.1 dM_readInit_27 rfl hL (by decide) rfl (fun ls hL => ?_)
    refine lv_aload_n K.1 K.2.1 dM_readInit_28 rfl (lv_at hL 1 rfl) ?_
    refine x_get (v := .ref (ad 7)) K hP hinM (ci := 7) rfl 0 (by decide) rfl 10 (by decide) flM_28 rfl rfl dM_readInit_29 ?_
    refine lv_aload_n K.1 K.2.1 dM_readInit_32 rfl (lv_at hL 1 rfl) ?_
    refine x_get (v := .int (hi5 0 6)) K hP hinM (ci := 7) rfl 0 (by decide) rfl 6 (by decide) flM_155 rfl rfl dM_readInit_33 ?_
    refine lv_iload_n K.1 K.2.1 dM_readInit_36 rfl (lv_at hL 0 rfl) ?_
    obtain ⟨g7, h⟩ := h
    refine x_iast K hP hS 7 (by decide) 0 (fun _ => rfl) rfl g7 dM_readInit_37 (fun H locs hP hS => ?_)
    refine lv_aload_n K.1 K.2.1 dM_readInit_38 rfl (lv_at hL 1 rfl) ?_
    refine lv_iload_n K.1 K.2.1 dM_readInit_39 rfl (lv_at hL 0 rfl) ?_
    refine lv_if_lt (tgt := 87) K.1 K.2.1 dM_readInit_40 rfl (fun hc => ?_) (fun hc => ?_)
    · have h := h.1 hc
      exact bM_readInit_87 K hr hZ h (lv_sub hL [1, 2, 3] rfl) hP hS
    · have h := h.2 hc
      refine lv_aload_n K.1 K.2.1 dM_readInit_43 rfl (lv_at hL 1 rfl) ?_
      refine x_get (v := .int ((u2 hi5 7 ((hi5 0 6).toNatClampNeg) r4) 0 20)) K hP hinM (ci := 7) rfl 0 (by decide) rfl 20 (by decide) flM_168 rfl rfl dM_readInit_44 ?_
      refine lv_if_ne (tgt := 87) K.1 K.2.1 dM_readInit_47 rfl (fun hc => ?_) (fun hc => ?_)
      · have h := h.2 hc
        exact bM_readInit_87 K hr hZ h (lv_sub hL [1, 2, 3] rfl) hP hS
      · have h := h.1 hc
        refine lv_aload_n K.1 K.2.1 dM_readInit_50 rfl (lv_at hL 1 rfl) ?_
        refine x_get (v := .ref (ad 5)) K hP hinM (ci := 7) rfl 0 (by decide) rfl 8 (by decide) flM_22 rfl rfl dM_readInit_51 ?_
        refine lv_iload_n K.1 K.2.1 dM_readInit_54 rfl (lv_at hL 0 rfl) ?_
        obtain ⟨g8, h⟩ := h
        refine x_iald K hP 5 (by decide) 0 rfl rfl g8 dM_readInit_55 ?_
        refine lv_iconst (v := 2) K.1 K.2.1 dM_readInit_56 (by decide) ?_
        refine lv_icmp_ne (tgt := 87) K.1 K.2.1 dM_readInit_57 rfl (fun hc => ?_) (fun hc => ?_)
        · have h := h.2 hc
          exact bM_readInit_87 K hr hZ h (lv_sub hL [1, 2, 3] rfl) hP hS
        · have h := h.1 hc
          refine lv_aload_n K.1 K.2.1 dM_readInit_60 rfl (lv_at hL 1 rfl) ?_
          refine lv_aload_n K.1 K.2.1 dM_readInit_61 rfl (lv_at hL 1 rfl) ?_
          refine x_get (v := .ref (ad 6)) K hP hinM (ci := 7) rfl 0 (by decide) rfl 9 (by decide) flM_25 rfl rfl dM_readInit_62 ?_
          refine lv_iload_n K.1 K.2.1 dM_readInit_65 rfl (lv_at hL 0 rfl) ?_
          obtain ⟨g9, h⟩ := h
          refine x_iald K hP 6 (by decide) 0 rfl rfl g9 dM_readInit_66 ?_
          refine lv_iload_n K.1 K.2.1 dM_readInit_67 rfl (lv_at hL 3 rfl) ?_
          refine x_cVI (As := [.int ((u2 hi5 7 ((hi5 0 6).toNatClampNeg) r4) 6 (r4.toNatClampNeg)), .int v2]) (rest := [.ref (ad 0)]) K gT_good hZ hP hS calM_sameSort mlM_180 0 (by decide) rfl rfl (mM_sameSort hZ K.2.2.2.2.2.2.2.1 h) ⟨Nat.le_of_ble_eq_true rfl, Nat.le_of_ble_eq_true rfl⟩ rfl hL.1 rfl (Nat.le_of_ble_eq_true rfl) dM_readInit_68 (fun r10 hi11 hl12 H locs h hP hS => ?_)
          refine lv_if_eq (tgt := 87) K.1 K.2.1 dM_readInit_71 rfl (fun hc => ?_) (fun hc => ?_)
          · have h := h.1 hc
            exact bM_readInit_87 K hr hZ h (lv_sub hL [1, 2, 3] rfl) hP hS
          · have h := h.2 hc
            refine lv_aload_n K.1 K.2.1 dM_readInit_74 rfl (lv_at hL 1 rfl) ?_
            refine lv_iload_n K.1 K.2.1 dM_readInit_75 rfl (lv_at hL 2 rfl) ?_
            refine lv_iload_n K.1 K.2.1 dM_readInit_76 rfl (lv_at hL 0 rfl) ?_
            refine x_cVI (As := [.int v1, .int r4]) (rest := [.ref (ad 0)]) K gT_good hZ hP hS calM_has mlM_211 0 (by decide) rfl rfl (mM_has hZ K.2.2.2.2.2.2.2.1 h) ⟨Nat.le_of_ble_eq_true rfl, Nat.le_of_ble_eq_true rfl⟩ rfl hL.1 rfl (Nat.le_of_ble_eq_true rfl) dM_readInit_77 (fun r13 hi14 hl15 H locs h hP hS => ?_)
            refine lv_if_ne (tgt := 87) K.1 K.2.1 dM_readInit_80 rfl (fun hc => ?_) (fun hc => ?_)
            · have h := h.2 hc
              exact bM_readInit_87 K hr hZ h (lv_sub hL [1, 2, 3] rfl) hP hS
            · have h := h.1 hc
              refine lv_iconst (v := 1) K.1 K.2.1 dM_readInit_83 (by decide) ?_
              refine lv_goto (tgt := 88) K.1 K.2.1 dM_readInit_84 rfl ?_
              exact bM_readInit_88 K hr hZ h (lv_sub hL [1, 2, 3] rfl) hP hS
  · have h := h.1 hc
    refine lv_iconst (v := 0) K.1 K.2.1 dM_readInit_21 (by decide) ?_
    obtain ⟨g16, h⟩ := h
    exact x_zret K hr hP hS g16 h dM_readInit_22
set_option maxRecDepth 100000 in
set_option maxHeartbeats 4000000 in
theorem bM_readInit_0 {p : Program} {l : Launch} {e : Env} {s : State} {m : MethodId} {args : Array Value} {below : List Frame} {meth : Method} {c : Code} {D : va_G} {cI cJ cC cZ cR : ClassId} {ad : Nat → Nat} {A : Nat → Prop} {Zs : State → Prop} (K : Cx p (rmX 4 91) s m args meth c cM_readInit 5 "WordCheckerModel" gT D cls8 (tys5 cI cJ cC cZ cR) 21 ad A Zs) (hr : meth.sig.returnType = (some .boolean)) (hZ : ZsOK A Zs) {Φ : Int32 → HI → HL → Prop} {v1 : Int32} {hi : HI} {hl : HL} {H : Heap} {locs : List Loc} (h : wbM_readInit_0 v1 hi hl Φ) {ls : Array Slot} (hL : lv_has ls 5 [(0, .ref (ad 0)), (1, .int v1)]) (hP : va_P D cls8 (wl 21 ad (GM cI cZ ad) hi hl) H) (hS : va_S A s.heap H locs) : W p l e (rmX 4 91) s m args below meth c H locs 0 0 (MQ below (va_Qi (fun r (u : HI × HL) => Φ r u.1 u.2) (fun u t => va_P D cls8 (wl 21 ad (GM cI cZ ad) u.1 u.2) t.heap) A) args s 0 0 A) (F0 m 0 ls []) := by
  unfold wbM_readInit_0 at h
  refine lv_aload_n K.1 K.2.1 dM_readInit_0 rfl (lv_at hL 0 rfl) ?_
  refine x_cVI (As := []) (rest := []) K gT_good hZ hP hS calM_sortWord mlM_199 0 (by decide) rfl rfl (mM_sortWord hZ K.2.2.2.2.2.2.2.1 h) ⟨Nat.le_of_ble_eq_true rfl, Nat.le_of_ble_eq_true rfl⟩ rfl hL.1 rfl (Nat.le_of_ble_eq_true rfl) dM_readInit_1 (fun r1 hi2 hl3 H locs h hP hS => ?_)
  refine lv_istore_n (lv' := [(2, .int r1), (0, .ref (ad 0)), (1, .int v1)]) K.1 K.2.1 dM_readInit_4 rfl hL (by decide) rfl (fun ls hL => ?_)
  refine lv_aload_n K.1 K.2.1 dM_readInit_5 rfl (lv_at hL 1 rfl) ?_
  refine lv_iload_n K.1 K.2.1 dM_readInit_6 rfl (lv_at hL 0 rfl) ?_
  refine lv_if_lt (tgt := 14) K.1 K.2.1 dM_readInit_7 rfl (fun hc => ?_) (fun hc => ?_)
  · have h := h.1 hc
    refine lv_iconst (v := 0) K.1 K.2.1 dM_readInit_14 (by decide) ?_
    exact bM_readInit_15 K hr hZ h (lv_sub hL [1, 2, 0] rfl) hP hS
  · have h := h.2 hc
    refine lv_iconst (v := 1) K.1 K.2.1 dM_readInit_10 (by decide) ?_
    refine lv_goto (tgt := 15) K.1 K.2.1 dM_readInit_11 rfl ?_
    exact bM_readInit_15 K hr hZ h (lv_sub hL [1, 2, 0] rfl) hP hS
set_option maxRecDepth 100000 in
set_option maxHeartbeats 4000000 in
theorem mM_readInit {l : Launch} {D : va_G} {cI cJ cC cZ cR : ClassId} {ad : Nat → Nat} {A : Nat → Prop} {Zs : State → Prop} (hZ : ZsOK A Zs) (hD : wlD 21 ad A) {v1 : Int32} {hi : HI} {hl : HL} {Φ : Int32 → HI → HL → Prop} (h : wpM_readInit v1 hi hl Φ) : SpI l yM_readInit cM_readInit 5 (some .boolean) gT 4 91 [.ref (ad 0), .int v1] D cls8 (tys5 cI cJ cC cZ cR) 21 ad (GM cI cZ ad) A Zs hi hl Φ := by
  refine Met.ofW (cc := cM_readInit) (maxL := 5) (ret := (some .boolean)) (by decide) rfl ?_
  intro p e s m args below meth c s₁ B hml hv
  obtain ⟨rfl, hP, hK, hZs⟩ := hv
  have K : Cx p (rmX 4 91) s m _ meth c cM_readInit 5 "WordCheckerModel" gT D cls8 (tys5 cI cJ cC cZ cR) 21 ad A Zs := ⟨B.exec, B.bytes, hml, findClass_of_methodNamed B.named, fun w hw => atoms_spec B.pre w (List.mem_cons_of_mem _ hw), B.notSynchronized, hK, hD, hZs⟩
  have hL := lv_entry ([.ref (ad 0), .int v1]) (n := 5) (Nat.le_of_ble_eq_true rfl)
  rw [lg_entry_eq]
  generalize (lg_sl ([.ref (ad 0), .int v1]) ++ List.replicate (5 - (lg_sl ([.ref (ad 0), .int v1])).length) Slot.unset).toArray = ls at hL ⊢
  have hL : lv_has ls 5 [(0, .ref (ad 0)), (1, .int v1)] := hL
  unfold wpM_readInit at h
  exact bM_readInit_0 K B.returns hZ h (lv_sub hL [0, 1] rfl) hP va_S.rf
set_option maxRecDepth 100000 in
set_option maxHeartbeats 4000000 in
theorem bM_readSlice_128 {p : Program} {l : Launch} {e : Env} {s : State} {m : MethodId} {args : Array Value} {below : List Frame} {meth : Method} {c : Code} {D : va_G} {cI cJ cC cZ cR : ClassId} {ad : Nat → Nat} {A : Nat → Prop} {Zs : State → Prop} (K : Cx p (rmX 5 113) s m args meth c cM_readSlice 2 "WordCheckerModel" gT D cls8 (tys5 cI cJ cC cZ cR) 21 ad A Zs) (hr : meth.sig.returnType = (some .boolean)) (hZ : ZsOK A Zs) {Φ : Int32 → HI → HL → Prop} {hi : HI} {hl : HL} {H : Heap} {locs : List Loc} (h : wbM_readSlice_128 hi hl Φ) {ls : Array Slot} (hL : lv_has ls 2 []) (hP : va_P D cls8 (wl 21 ad (GM cI cZ ad) hi hl) H) (hS : va_S A s.heap H locs) : W p l e (rmX 5 113) s m args below meth c H locs 0 0 (MQ below (va_Qi (fun r (u : HI × HL) => Φ r u.1 u.2) (fun u t => va_P D cls8 (wl 21 ad (GM cI cZ ad) u.1 u.2) t.heap) A) args s 0 0 A) (F0 m 128 ls [.ref (ad 0)]) := by
  unfold wbM_readSlice_128 at h
  refine lv_iconst (v := 0) K.1 K.2.1 dM_readSlice_128 (by decide) ?_
  refine x_cVI (As := [.int (0 : Int32)]) (rest := []) K gT_good hZ hP hS calM_on mlM_184 0 (by decide) rfl rfl (mM_on hZ K.2.2.2.2.2.2.2.1 h) ⟨Nat.le_of_ble_eq_true rfl, Nat.le_of_ble_eq_true rfl⟩ rfl hL.1 rfl (Nat.le_of_ble_eq_true rfl) dM_readSlice_129 (fun r1 hi2 hl3 H locs h hP hS => ?_)
  obtain ⟨g4, h⟩ := h
  exact x_zret K hr hP hS g4 h dM_readSlice_132
set_option maxRecDepth 100000 in
set_option maxHeartbeats 4000000 in
theorem bM_readSlice_62 {p : Program} {l : Launch} {e : Env} {s : State} {m : MethodId} {args : Array Value} {below : List Frame} {meth : Method} {c : Code} {D : va_G} {cI cJ cC cZ cR : ClassId} {ad : Nat → Nat} {A : Nat → Prop} {Zs : State → Prop} (K : Cx p (rmX 5 113) s m args meth c cM_readSlice 2 "WordCheckerModel" gT D cls8 (tys5 cI cJ cC cZ cR) 21 ad A Zs) (hr : meth.sig.returnType = (some .boolean)) (hZ : ZsOK A Zs) {Φ : Int32 → HI → HL → Prop} {q1 : Int32} {hi : HI} {hl : HL} {H : Heap} {locs : List Loc} (h : wbM_readSlice_62 q1 hi hl Φ) {ls : Array Slot} (hL : lv_has ls 2 [(0, .ref (ad 0))]) (hP : va_P D cls8 (wl 21 ad (GM cI cZ ad) hi hl) H) (hS : va_S A s.heap H locs) : W p l e (rmX 5 113) s m args below meth c H locs 0 0 (MQ below (va_Qi (fun r (u : HI × HL) => Φ r u.1 u.2) (fun u t => va_P D cls8 (wl 21 ad (GM cI cZ ad) u.1 u.2) t.heap) A) args s 0 0 A) (F0 m 62 ls [.int q1, .ref (ad 0)]) := by
  unfold wbM_readSlice_62 at h
  refine x_cVI (As := [.int q1]) (rest := []) K gT_good hZ hP hS calM_on mlM_184 0 (by decide) rfl rfl (mM_on hZ K.2.2.2.2.2.2.2.1 h) ⟨Nat.le_of_ble_eq_true rfl, Nat.le_of_ble_eq_true rfl⟩ rfl hL.1 rfl (Nat.le_of_ble_eq_true rfl) dM_readSlice_62 (fun r1 hi2 hl3 H locs h hP hS => ?_)
  refine lv_if_ne (tgt := 70) K.1 K.2.1 dM_readSlice_65 rfl (fun hc => ?_) (fun hc => ?_)
  · have h := h.2 hc
    refine lv_aload_n K.1 K.2.1 dM_readSlice_70 rfl (lv_at hL 0 rfl) ?_
    refine lv_aload_n K.1 K.2.1 dM_readSlice_71 rfl (lv_at hL 0 rfl) ?_
    refine x_get (v := .int (hi2 0 5)) K hP hinM (ci := 7) rfl 0 (by decide) rfl 5 (by decide) flM_158 rfl rfl dM_readSlice_72 ?_
    refine x_cVI (As := [.int (hi2 0 5)]) (rest := []) K gT_good hZ hP hS calM_number mlM_161 0 (by decide) rfl rfl (mM_number hZ K.2.2.2.2.2.2.2.1 h) ⟨Nat.le_of_ble_eq_true rfl, Nat.le_of_ble_eq_true rfl⟩ rfl hL.1 rfl (Nat.le_of_ble_eq_true rfl) dM_readSlice_75 (fun r4 hi5 hl6 H locs h hP hS => ?_)
    refine lv_istore_n (lv' := [(1, .int r4), (0, .ref (ad 0))]) K.1 K.2.1 dM_readSlice_78 rfl hL (by decide) rfl (fun ls hL => ?_)
    refine lv_aload_n K.1 K.2.1 dM_readSlice_79 rfl (lv_at hL 1 rfl) ?_
    refine x_get (v := .ref (ad 14)) K hP hinM (ci := 7) rfl 0 (by decide) rfl 17 (by decide) flM_50 rfl rfl dM_readSlice_80 ?_
    refine lv_aload_n K.1 K.2.1 dM_readSlice_83 rfl (lv_at hL 1 rfl) ?_
    refine x_get (v := .int (hi5 0 6)) K hP hinM (ci := 7) rfl 0 (by decide) rfl 6 (by decide) flM_155 rfl rfl dM_readSlice_84 ?_
    refine lv_iload_n K.1 K.2.1 dM_readSlice_87 rfl (lv_at hL 0 rfl) ?_
    obtain ⟨g7, h⟩ := h
    refine x_iast K hP hS 14 (by decide) 0 (fun _ => rfl) rfl g7 dM_readSlice_88 (fun H locs hP hS => ?_)
    refine lv_aload_n K.1 K.2.1 dM_readSlice_89 rfl (lv_at hL 1 rfl) ?_
    refine lv_iload_n K.1 K.2.1 dM_readSlice_90 rfl (lv_at hL 0 rfl) ?_
    refine lv_if_lt (tgt := 128) K.1 K.2.1 dM_readSlice_91 rfl (fun hc => ?_) (fun hc => ?_)
    · have h := h.1 hc
      exact bM_readSlice_128 K hr hZ h (lv_sub hL [] rfl) hP hS
    · have h := h.2 hc
      refine lv_aload_n K.1 K.2.1 dM_readSlice_94 rfl (lv_at hL 1 rfl) ?_
      refine x_get (v := .ref (ad 13)) K hP hinM (ci := 7) rfl 0 (by decide) rfl 16 (by decide) flM_47 rfl rfl dM_readSlice_95 ?_
      refine lv_aload_n K.1 K.2.1 dM_readSlice_98 rfl (lv_at hL 1 rfl) ?_
      refine x_get (v := .int ((u2 hi5 14 ((hi5 0 6).toNatClampNeg) r4) 0 6)) K hP hinM (ci := 7) rfl 0 (by decide) rfl 6 (by decide) flM_155 rfl rfl dM_readSlice_99 ?_
      obtain ⟨g8, h⟩ := h
      refine x_iald K hP 13 (by decide) 0 rfl rfl g8 dM_readSlice_102 ?_
      refine lv_iload_n K.1 K.2.1 dM_readSlice_103 rfl (lv_at hL 0 rfl) ?_
      refine lv_isub K.1 K.2.1 dM_readSlice_104 ?_
      refine lv_iconst (v := 1) K.1 K.2.1 dM_readSlice_105 (by decide) ?_
      refine lv_iadd K.1 K.2.1 dM_readSlice_106 ?_
      refine lv_aload_n K.1 K.2.1 dM_readSlice_107 rfl (lv_at hL 1 rfl) ?_
      refine x_get (v := .ref (ad 16)) K hP hinM (ci := 7) rfl 0 (by decide) rfl 19 (by decide) flM_56 rfl rfl dM_readSlice_108 ?_
      refine lv_aload_n K.1 K.2.1 dM_readSlice_111 rfl (lv_at hL 1 rfl) ?_
      refine x_get (v := .ref (ad 6)) K hP hinM (ci := 7) rfl 0 (by decide) rfl 9 (by decide) flM_25 rfl rfl dM_readSlice_112 ?_
      refine lv_aload_n K.1 K.2.1 dM_readSlice_115 rfl (lv_at hL 1 rfl) ?_
      refine x_get (v := .int ((u2 hi5 14 ((hi5 0 6).toNatClampNeg) r4) 0 6)) K hP hinM (ci := 7) rfl 0 (by decide) rfl 6 (by decide) flM_155 rfl rfl dM_readSlice_116 ?_
      obtain ⟨g9, h⟩ := h
      refine x_iald K hP 6 (by decide) 0 rfl rfl g9 dM_readSlice_119 ?_
      obtain ⟨g10, h⟩ := h
      refine x_iald K hP 16 (by decide) 0 rfl rfl g10 dM_readSlice_120 ?_
      refine lv_icmp_ne (tgt := 128) K.1 K.2.1 dM_readSlice_121 rfl (fun hc => ?_) (fun hc => ?_)
      · have h := h.2 hc
        exact bM_readSlice_128 K hr hZ h (lv_sub hL [] rfl) hP hS
      · have h := h.1 hc
        refine lv_iconst (v := 1) K.1 K.2.1 dM_readSlice_124 (by decide) ?_
        refine lv_goto (tgt := 129) K.1 K.2.1 dM_readSlice_125 rfl ?_
        refine x_cVI (As := [.int (1 : Int32)]) (rest := []) K gT_good hZ hP hS calM_on mlM_184 0 (by decide) rfl rfl (mM_on hZ K.2.2.2.2.2.2.2.1 h) ⟨Nat.le_of_ble_eq_true rfl, Nat.le_of_ble_eq_true rfl⟩ rfl hL.1 rfl (Nat.le_of_ble_eq_true rfl) dM_readSlice_129 (fun r11 hi12 hl13 H locs h hP hS => ?_)
        obtain ⟨g14, h⟩ := h
        exact x_zret K hr hP hS g14 h dM_readSlice_132
  · have h := h.1 hc
    refine lv_iconst (v := 0) K.1 K.2.1 dM_readSlice_68 (by decide) ?_
    obtain ⟨g15, h⟩ := h
    exact x_zret K hr hP hS g15 h dM_readSlice_69
set_option maxRecDepth 100000 in
set_option maxHeartbeats 4000000 in
theorem bM_readSlice_61 {p : Program} {l : Launch} {e : Env} {s : State} {m : MethodId} {args : Array Value} {below : List Frame} {meth : Method} {c : Code} {D : va_G} {cI cJ cC cZ cR : ClassId} {ad : Nat → Nat} {A : Nat → Prop} {Zs : State → Prop} (K : Cx p (rmX 5 113) s m args meth c cM_readSlice 2 "WordCheckerModel" gT D cls8 (tys5 cI cJ cC cZ cR) 21 ad A Zs) (hr : meth.sig.returnType = (some .boolean)) (hZ : ZsOK A Zs) {Φ : Int32 → HI → HL → Prop} {hi : HI} {hl : HL} {H : Heap} {locs : List Loc} (h : wbM_readSlice_61 hi hl Φ) {ls : Array Slot} (hL : lv_has ls 2 [(0, .ref (ad 0))]) (hP : va_P D cls8 (wl 21 ad (GM cI cZ ad) hi hl) H) (hS : va_S A s.heap H locs) : W p l e (rmX 5 113) s m args below meth c H locs 0 0 (MQ below (va_Qi (fun r (u : HI × HL) => Φ r u.1 u.2) (fun u t => va_P D cls8 (wl 21 ad (GM cI cZ ad) u.1 u.2) t.heap) A) args s 0 0 A) (F0 m 61 ls [.ref (ad 0)]) := by
  unfold wbM_readSlice_61 at h
  refine lv_iconst (v := 0) K.1 K.2.1 dM_readSlice_61 (by decide) ?_
  exact bM_readSlice_62 K hr hZ h (lv_sub hL [0] rfl) hP hS
set_option maxRecDepth 100000 in
set_option maxHeartbeats 4000000 in
theorem bM_readSlice_0 {p : Program} {l : Launch} {e : Env} {s : State} {m : MethodId} {args : Array Value} {below : List Frame} {meth : Method} {c : Code} {D : va_G} {cI cJ cC cZ cR : ClassId} {ad : Nat → Nat} {A : Nat → Prop} {Zs : State → Prop} (K : Cx p (rmX 5 113) s m args meth c cM_readSlice 2 "WordCheckerModel" gT D cls8 (tys5 cI cJ cC cZ cR) 21 ad A Zs) (hr : meth.sig.returnType = (some .boolean)) (hZ : ZsOK A Zs) {Φ : Int32 → HI → HL → Prop} {hi : HI} {hl : HL} {H : Heap} {locs : List Loc} (h : wbM_readSlice_0 hi hl Φ) {ls : Array Slot} (hL : lv_has ls 2 [(0, .ref (ad 0))]) (hP : va_P D cls8 (wl 21 ad (GM cI cZ ad) hi hl) H) (hS : va_S A s.heap H locs) : W p l e (rmX 5 113) s m args below meth c H locs 0 0 (MQ below (va_Qi (fun r (u : HI × HL) => Φ r u.1 u.2) (fun u t => va_P D cls8 (wl 21 ad (GM cI cZ ad) u.1 u.2) t.heap) A) args s 0 0 A) (F0 m 0 ls []) := by
  unfold wbM_readSlice_0 at h
  refine lv_aload_n K.1 K.2.1 dM_readSlice_0 rfl (lv_at hL 0 rfl) ?_
  refine lv_iconst (v := 0) K.1 K.2.1 dM_readSlice_1 (by decide) ?_
  refine x_cVI (As := [.int (0 : Int32)]) (rest := []) K gT_good hZ hP hS calM_bitsA mlM_217 0 (by decide) rfl rfl (mM_bitsA hZ K.2.2.2.2.2.2.2.1 h) ⟨Nat.le_of_ble_eq_true rfl, Nat.le_of_ble_eq_true rfl⟩ rfl hL.1 rfl (Nat.le_of_ble_eq_true rfl) dM_readSlice_2 (fun r1 hi2 hl3 H locs h hP hS => ?_)
  refine lv_if_ne (tgt := 10) K.1 K.2.1 dM_readSlice_5 rfl (fun hc => ?_) (fun hc => ?_)
  · have h := h.2 hc
    refine lv_aload_n K.1 K.2.1 dM_readSlice_10 rfl (lv_at hL 0 rfl) ?_
    refine lv_aload_n K.1 K.2.1 dM_readSlice_11 rfl (lv_at hL 0 rfl) ?_
    refine x_get (v := .int (hi2 0 5)) K hP hinM (ci := 7) rfl 0 (by decide) rfl 5 (by decide) flM_158 rfl rfl dM_readSlice_12 ?_
    refine x_cVI (As := [.int (hi2 0 5)]) (rest := []) K gT_good hZ hP hS calM_number mlM_161 0 (by decide) rfl rfl (mM_number hZ K.2.2.2.2.2.2.2.1 h) ⟨Nat.le_of_ble_eq_true rfl, Nat.le_of_ble_eq_true rfl⟩ rfl hL.1 rfl (Nat.le_of_ble_eq_true rfl) dM_readSlice_15 (fun r4 hi5 hl6 H locs h hP hS => ?_)
    refine lv_istore_n (lv' := [(1, .int r4), (0, .ref (ad 0))]) K.1 K.2.1 dM_readSlice_18 rfl hL (by decide) rfl (fun ls hL => ?_)
    refine lv_aload_n K.1 K.2.1 dM_readSlice_19 rfl (lv_at hL 1 rfl) ?_
    refine x_get (v := .ref (ad 13)) K hP hinM (ci := 7) rfl 0 (by decide) rfl 16 (by decide) flM_47 rfl rfl dM_readSlice_20 ?_
    refine lv_aload_n K.1 K.2.1 dM_readSlice_23 rfl (lv_at hL 1 rfl) ?_
    refine x_get (v := .int (hi5 0 6)) K hP hinM (ci := 7) rfl 0 (by decide) rfl 6 (by decide) flM_155 rfl rfl dM_readSlice_24 ?_
    refine lv_iload_n K.1 K.2.1 dM_readSlice_27 rfl (lv_at hL 0 rfl) ?_
    obtain ⟨g7, h⟩ := h
    refine x_iast K hP hS 13 (by decide) 0 (fun _ => rfl) rfl g7 dM_readSlice_28 (fun H locs hP hS => ?_)
    refine lv_aload_n K.1 K.2.1 dM_readSlice_29 rfl (lv_at hL 1 rfl) ?_
    refine lv_iload_n K.1 K.2.1 dM_readSlice_30 rfl (lv_at hL 0 rfl) ?_
    refine lv_if_lt (tgt := 61) K.1 K.2.1 dM_readSlice_31 rfl (fun hc => ?_) (fun hc => ?_)
    · have h := h.1 hc
      exact bM_readSlice_61 K hr hZ h (lv_sub hL [1] rfl) hP hS
    · have h := h.2 hc
      refine lv_iload_n K.1 K.2.1 dM_readSlice_34 rfl (lv_at hL 0 rfl) ?_
      refine lv_aload_n K.1 K.2.1 dM_readSlice_35 rfl (lv_at hL 1 rfl) ?_
      refine x_get (v := .ref (ad 16)) K hP hinM (ci := 7) rfl 0 (by decide) rfl 19 (by decide) flM_56 rfl rfl dM_readSlice_36 ?_
      refine lv_aload_n K.1 K.2.1 dM_readSlice_39 rfl (lv_at hL 1 rfl) ?_
      refine x_get (v := .ref (ad 6)) K hP hinM (ci := 7) rfl 0 (by decide) rfl 9 (by decide) flM_25 rfl rfl dM_readSlice_40 ?_
      refine lv_aload_n K.1 K.2.1 dM_readSlice_43 rfl (lv_at hL 1 rfl) ?_
      refine x_get (v := .ref (ad 7)) K hP hinM (ci := 7) rfl 0 (by decide) rfl 10 (by decide) flM_28 rfl rfl dM_readSlice_44 ?_
      refine lv_aload_n K.1 K.2.1 dM_readSlice_47 rfl (lv_at hL 1 rfl) ?_
      refine x_get (v := .int ((u2 hi5 13 ((hi5 0 6).toNatClampNeg) r4) 0 6)) K hP hinM (ci := 7) rfl 0 (by decide) rfl 6 (by decide) flM_155 rfl rfl dM_readSlice_48 ?_
      obtain ⟨g8, h⟩ := h
      refine x_iald K hP 7 (by decide) 0 rfl rfl g8 dM_readSlice_51 ?_
      obtain ⟨g9, h⟩ := h
      refine x_iald K hP 6 (by decide) 0 rfl rfl g9 dM_readSlice_52 ?_
      obtain ⟨g10, h⟩ := h
      refine x_iald K hP 16 (by decide) 0 rfl rfl g10 dM_readSlice_53 ?_
      refine lv_icmp_ge (tgt := 61) K.1 K.2.1 dM_readSlice_54 rfl (fun hc => ?_) (fun hc => ?_)
      · have h := h.1 hc
        exact bM_readSlice_61 K hr hZ h (lv_sub hL [1] rfl) hP hS
      · have h := h.2 hc
        refine lv_iconst (v := 1) K.1 K.2.1 dM_readSlice_57 (by decide) ?_
        refine lv_goto (tgt := 62) K.1 K.2.1 dM_readSlice_58 rfl ?_
        exact bM_readSlice_62 K hr hZ h (lv_sub hL [1] rfl) hP hS
  · have h := h.1 hc
    refine lv_iconst (v := 0) K.1 K.2.1 dM_readSlice_8 (by decide) ?_
    obtain ⟨g11, h⟩ := h
    exact x_zret K hr hP hS g11 h dM_readSlice_9
set_option maxRecDepth 100000 in
set_option maxHeartbeats 4000000 in
theorem mM_readSlice {l : Launch} {D : va_G} {cI cJ cC cZ cR : ClassId} {ad : Nat → Nat} {A : Nat → Prop} {Zs : State → Prop} (hZ : ZsOK A Zs) (hD : wlD 21 ad A) {hi : HI} {hl : HL} {Φ : Int32 → HI → HL → Prop} (h : wpM_readSlice hi hl Φ) : SpI l yM_readSlice cM_readSlice 2 (some .boolean) gT 5 113 [.ref (ad 0)] D cls8 (tys5 cI cJ cC cZ cR) 21 ad (GM cI cZ ad) A Zs hi hl Φ := by
  refine Met.ofW (cc := cM_readSlice) (maxL := 2) (ret := (some .boolean)) (by decide) rfl ?_
  intro p e s m args below meth c s₁ B hml hv
  obtain ⟨rfl, hP, hK, hZs⟩ := hv
  have K : Cx p (rmX 5 113) s m _ meth c cM_readSlice 2 "WordCheckerModel" gT D cls8 (tys5 cI cJ cC cZ cR) 21 ad A Zs := ⟨B.exec, B.bytes, hml, findClass_of_methodNamed B.named, fun w hw => atoms_spec B.pre w (List.mem_cons_of_mem _ hw), B.notSynchronized, hK, hD, hZs⟩
  have hL := lv_entry ([.ref (ad 0)]) (n := 2) (Nat.le_of_ble_eq_true rfl)
  rw [lg_entry_eq]
  generalize (lg_sl ([.ref (ad 0)]) ++ List.replicate (2 - (lg_sl ([.ref (ad 0)])).length) Slot.unset).toArray = ls at hL ⊢
  have hL : lv_has ls 2 [(0, .ref (ad 0))] := hL
  unfold wpM_readSlice at h
  exact bM_readSlice_0 K B.returns hZ h (lv_sub hL [0] rfl) hP va_S.rf
set_option maxRecDepth 100000 in
set_option maxHeartbeats 4000000 in
theorem bM_readExtended_66 {p : Program} {l : Launch} {e : Env} {s : State} {m : MethodId} {args : Array Value} {below : List Frame} {meth : Method} {c : Code} {D : va_G} {cI cJ cC cZ cR : ClassId} {ad : Nat → Nat} {A : Nat → Prop} {Zs : State → Prop} (K : Cx p (rmX 5 113) s m args meth c cM_readExtended 2 "WordCheckerModel" gT D cls8 (tys5 cI cJ cC cZ cR) 21 ad A Zs) (hr : meth.sig.returnType = (some .boolean)) (hZ : ZsOK A Zs) {Φ : Int32 → HI → HL → Prop} {hi : HI} {hl : HL} {H : Heap} {locs : List Loc} (h : wbM_readExtended_66 hi hl Φ) {ls : Array Slot} (hL : lv_has ls 2 []) (hP : va_P D cls8 (wl 21 ad (GM cI cZ ad) hi hl) H) (hS : va_S A s.heap H locs) : W p l e (rmX 5 113) s m args below meth c H locs 0 0 (MQ below (va_Qi (fun r (u : HI × HL) => Φ r u.1 u.2) (fun u t => va_P D cls8 (wl 21 ad (GM cI cZ ad) u.1 u.2) t.heap) A) args s 0 0 A) (F0 m 66 ls [.ref (ad 0)]) := by
  unfold wbM_readExtended_66 at h
  refine lv_iconst (v := 0) K.1 K.2.1 dM_readExtended_66 (by decide) ?_
  refine x_cVI (As := [.int (0 : Int32)]) (rest := []) K gT_good hZ hP hS calM_on mlM_184 0 (by decide) rfl rfl (mM_on hZ K.2.2.2.2.2.2.2.1 h) ⟨Nat.le_of_ble_eq_true rfl, Nat.le_of_ble_eq_true rfl⟩ rfl hL.1 rfl (Nat.le_of_ble_eq_true rfl) dM_readExtended_67 (fun r1 hi2 hl3 H locs h hP hS => ?_)
  obtain ⟨g4, h⟩ := h
  exact x_zret K hr hP hS g4 h dM_readExtended_70
set_option maxRecDepth 100000 in
set_option maxHeartbeats 4000000 in
theorem bM_readExtended_0 {p : Program} {l : Launch} {e : Env} {s : State} {m : MethodId} {args : Array Value} {below : List Frame} {meth : Method} {c : Code} {D : va_G} {cI cJ cC cZ cR : ClassId} {ad : Nat → Nat} {A : Nat → Prop} {Zs : State → Prop} (K : Cx p (rmX 5 113) s m args meth c cM_readExtended 2 "WordCheckerModel" gT D cls8 (tys5 cI cJ cC cZ cR) 21 ad A Zs) (hr : meth.sig.returnType = (some .boolean)) (hZ : ZsOK A Zs) {Φ : Int32 → HI → HL → Prop} {hi : HI} {hl : HL} {H : Heap} {locs : List Loc} (h : wbM_readExtended_0 hi hl Φ) {ls : Array Slot} (hL : lv_has ls 2 [(0, .ref (ad 0))]) (hP : va_P D cls8 (wl 21 ad (GM cI cZ ad) hi hl) H) (hS : va_S A s.heap H locs) : W p l e (rmX 5 113) s m args below meth c H locs 0 0 (MQ below (va_Qi (fun r (u : HI × HL) => Φ r u.1 u.2) (fun u t => va_P D cls8 (wl 21 ad (GM cI cZ ad) u.1 u.2) t.heap) A) args s 0 0 A) (F0 m 0 ls []) := by
  unfold wbM_readExtended_0 at h
  refine lv_aload_n K.1 K.2.1 dM_readExtended_0 rfl (lv_at hL 0 rfl) ?_
  refine lv_iconst (v := 0) K.1 K.2.1 dM_readExtended_1 (by decide) ?_
  refine x_cVI (As := [.int (0 : Int32)]) (rest := []) K gT_good hZ hP hS calM_bitsA mlM_217 0 (by decide) rfl rfl (mM_bitsA hZ K.2.2.2.2.2.2.2.1 h) ⟨Nat.le_of_ble_eq_true rfl, Nat.le_of_ble_eq_true rfl⟩ rfl hL.1 rfl (Nat.le_of_ble_eq_true rfl) dM_readExtended_2 (fun r1 hi2 hl3 H locs h hP hS => ?_)
  refine lv_if_ne (tgt := 10) K.1 K.2.1 dM_readExtended_5 rfl (fun hc => ?_) (fun hc => ?_)
  · have h := h.2 hc
    refine lv_aload_n K.1 K.2.1 dM_readExtended_10 rfl (lv_at hL 0 rfl) ?_
    refine lv_aload_n K.1 K.2.1 dM_readExtended_11 rfl (lv_at hL 0 rfl) ?_
    refine x_get (v := .int (hi2 0 5)) K hP hinM (ci := 7) rfl 0 (by decide) rfl 5 (by decide) flM_158 rfl rfl dM_readExtended_12 ?_
    refine x_cVI (As := [.int (hi2 0 5)]) (rest := []) K gT_good hZ hP hS calM_number mlM_161 0 (by decide) rfl rfl (mM_number hZ K.2.2.2.2.2.2.2.1 h) ⟨Nat.le_of_ble_eq_true rfl, Nat.le_of_ble_eq_true rfl⟩ rfl hL.1 rfl (Nat.le_of_ble_eq_true rfl) dM_readExtended_15 (fun r4 hi5 hl6 H locs h hP hS => ?_)
    refine lv_istore_n (lv' := [(1, .int r4), (0, .ref (ad 0))]) K.1 K.2.1 dM_readExtended_18 rfl hL (by decide) rfl (fun ls hL => ?_)
    refine lv_aload_n K.1 K.2.1 dM_readExtended_19 rfl (lv_at hL 1 rfl) ?_
    refine lv_iload_n K.1 K.2.1 dM_readExtended_20 rfl (lv_at hL 0 rfl) ?_
    refine lv_if_lt (tgt := 66) K.1 K.2.1 dM_readExtended_21 rfl (fun hc => ?_) (fun hc => ?_)
    · have h := h.1 hc
      exact bM_readExtended_66 K hr hZ h (lv_sub hL [] rfl) hP hS
    · have h := h.2 hc
      refine lv_aload_n K.1 K.2.1 dM_readExtended_24 rfl (lv_at hL 1 rfl) ?_
      refine x_get (v := .ref (ad 16)) K hP hinM (ci := 7) rfl 0 (by decide) rfl 19 (by decide) flM_56 rfl rfl dM_readExtended_25 ?_
      refine lv_aload_n K.1 K.2.1 dM_readExtended_28 rfl (lv_at hL 1 rfl) ?_
      refine x_get (v := .ref (ad 6)) K hP hinM (ci := 7) rfl 0 (by decide) rfl 9 (by decide) flM_25 rfl rfl dM_readExtended_29 ?_
      refine lv_aload_n K.1 K.2.1 dM_readExtended_32 rfl (lv_at hL 1 rfl) ?_
      refine x_get (v := .ref (ad 7)) K hP hinM (ci := 7) rfl 0 (by decide) rfl 10 (by decide) flM_28 rfl rfl dM_readExtended_33 ?_
      refine lv_aload_n K.1 K.2.1 dM_readExtended_36 rfl (lv_at hL 1 rfl) ?_
      refine x_get (v := .int (hi5 0 6)) K hP hinM (ci := 7) rfl 0 (by decide) rfl 6 (by decide) flM_155 rfl rfl dM_readExtended_37 ?_
      obtain ⟨g7, h⟩ := h
      refine x_iald K hP 7 (by decide) 0 rfl rfl g7 dM_readExtended_40 ?_
      obtain ⟨g8, h⟩ := h
      refine x_iald K hP 6 (by decide) 0 rfl rfl g8 dM_readExtended_41 ?_
      obtain ⟨g9, h⟩ := h
      refine x_iald K hP 16 (by decide) 0 rfl rfl g9 dM_readExtended_42 ?_
      refine lv_iload_n K.1 K.2.1 dM_readExtended_43 rfl (lv_at hL 0 rfl) ?_
      refine lv_iadd K.1 K.2.1 dM_readExtended_44 ?_
      refine lv_aload_n K.1 K.2.1 dM_readExtended_45 rfl (lv_at hL 1 rfl) ?_
      refine x_get (v := .ref (ad 16)) K hP hinM (ci := 7) rfl 0 (by decide) rfl 19 (by decide) flM_56 rfl rfl dM_readExtended_46 ?_
      refine lv_aload_n K.1 K.2.1 dM_readExtended_49 rfl (lv_at hL 1 rfl) ?_
      refine x_get (v := .ref (ad 6)) K hP hinM (ci := 7) rfl 0 (by decide) rfl 9 (by decide) flM_25 rfl rfl dM_readExtended_50 ?_
      refine lv_aload_n K.1 K.2.1 dM_readExtended_53 rfl (lv_at hL 1 rfl) ?_
      refine x_get (v := .int (hi5 0 6)) K hP hinM (ci := 7) rfl 0 (by decide) rfl 6 (by decide) flM_155 rfl rfl dM_readExtended_54 ?_
      obtain ⟨g10, h⟩ := h
      refine x_iald K hP 6 (by decide) 0 rfl rfl g10 dM_readExtended_57 ?_
      obtain ⟨g11, h⟩ := h
      refine x_iald K hP 16 (by decide) 0 rfl rfl g11 dM_readExtended_58 ?_
      refine lv_icmp_ne (tgt := 66) K.1 K.2.1 dM_readExtended_59 rfl (fun hc => ?_) (fun hc => ?_)
      · have h := h.2 hc
        exact bM_readExtended_66 K hr hZ h (lv_sub hL [] rfl) hP hS
      · have h := h.1 hc
        refine lv_iconst (v := 1) K.1 K.2.1 dM_readExtended_62 (by decide) ?_
        refine lv_goto (tgt := 67) K.1 K.2.1 dM_readExtended_63 rfl ?_
        refine x_cVI (As := [.int (1 : Int32)]) (rest := []) K gT_good hZ hP hS calM_on mlM_184 0 (by decide) rfl rfl (mM_on hZ K.2.2.2.2.2.2.2.1 h) ⟨Nat.le_of_ble_eq_true rfl, Nat.le_of_ble_eq_true rfl⟩ rfl hL.1 rfl (Nat.le_of_ble_eq_true rfl) dM_readExtended_67 (fun r12 hi13 hl14 H locs h hP hS => ?_)
        obtain ⟨g15, h⟩ := h
        exact x_zret K hr hP hS g15 h dM_readExtended_70
  · have h := h.1 hc
    refine lv_iconst (v := 0) K.1 K.2.1 dM_readExtended_8 (by decide) ?_
    obtain ⟨g16, h⟩ := h
    exact x_zret K hr hP hS g16 h dM_readExtended_9
set_option maxRecDepth 100000 in
set_option maxHeartbeats 4000000 in
theorem mM_readExtended {l : Launch} {D : va_G} {cI cJ cC cZ cR : ClassId} {ad : Nat → Nat} {A : Nat → Prop} {Zs : State → Prop} (hZ : ZsOK A Zs) (hD : wlD 21 ad A) {hi : HI} {hl : HL} {Φ : Int32 → HI → HL → Prop} (h : wpM_readExtended hi hl Φ) : SpI l yM_readExtended cM_readExtended 2 (some .boolean) gT 5 113 [.ref (ad 0)] D cls8 (tys5 cI cJ cC cZ cR) 21 ad (GM cI cZ ad) A Zs hi hl Φ := by
  refine Met.ofW (cc := cM_readExtended) (maxL := 2) (ret := (some .boolean)) (by decide) rfl ?_
  intro p e s m args below meth c s₁ B hml hv
  obtain ⟨rfl, hP, hK, hZs⟩ := hv
  have K : Cx p (rmX 5 113) s m _ meth c cM_readExtended 2 "WordCheckerModel" gT D cls8 (tys5 cI cJ cC cZ cR) 21 ad A Zs := ⟨B.exec, B.bytes, hml, findClass_of_methodNamed B.named, fun w hw => atoms_spec B.pre w (List.mem_cons_of_mem _ hw), B.notSynchronized, hK, hD, hZs⟩
  have hL := lv_entry ([.ref (ad 0)]) (n := 2) (Nat.le_of_ble_eq_true rfl)
  rw [lg_entry_eq]
  generalize (lg_sl ([.ref (ad 0)]) ++ List.replicate (2 - (lg_sl ([.ref (ad 0)])).length) Slot.unset).toArray = ls at hL ⊢
  have hL : lv_has ls 2 [(0, .ref (ad 0))] := hL
  unfold wpM_readExtended at h
  exact bM_readExtended_0 K B.returns hZ h (lv_sub hL [0] rfl) hP va_S.rf
set_option maxRecDepth 100000 in
set_option maxHeartbeats 4000000 in
theorem bM_readConcat_81 {p : Program} {l : Launch} {e : Env} {s : State} {m : MethodId} {args : Array Value} {below : List Frame} {meth : Method} {c : Code} {D : va_G} {cI cJ cC cZ cR : ClassId} {ad : Nat → Nat} {A : Nat → Prop} {Zs : State → Prop} (K : Cx p (rmX 5 113) s m args meth c cM_readConcat 3 "WordCheckerModel" gT D cls8 (tys5 cI cJ cC cZ cR) 21 ad A Zs) (hr : meth.sig.returnType = (some .boolean)) (hZ : ZsOK A Zs) {Φ : Int32 → HI → HL → Prop} {v2 : Int32} {q1 : Int32} {hi : HI} {hl : HL} {H : Heap} {locs : List Loc} (h : wbM_readConcat_81 v2 q1 hi hl Φ) {ls : Array Slot} (hL : lv_has ls 3 [(0, .ref (ad 0)), (2, .int v2)]) (hP : va_P D cls8 (wl 21 ad (GM cI cZ ad) hi hl) H) (hS : va_S A s.heap H locs) : W p l e (rmX 5 113) s m args below meth c H locs 0 0 (MQ below (va_Qi (fun r (u : HI × HL) => Φ r u.1 u.2) (fun u t => va_P D cls8 (wl 21 ad (GM cI cZ ad) u.1 u.2) t.heap) A) args s 0 0 A) (F0 m 81 ls [.int q1, .ref (ad 0)]) := by
  unfold wbM_readConcat_81 at h
  refine x_cVI (As := [.int q1]) (rest := []) K gT_good hZ hP hS calM_on mlM_184 0 (by decide) rfl rfl (mM_on hZ K.2.2.2.2.2.2.2.1 h) ⟨Nat.le_of_ble_eq_true rfl, Nat.le_of_ble_eq_true rfl⟩ rfl hL.1 rfl (Nat.le_of_ble_eq_true rfl) dM_readConcat_81 (fun r1 hi2 hl3 H locs h hP hS => ?_)
  refine lv_if_ne (tgt := 89) K.1 K.2.1 dM_readConcat_84 rfl (fun hc => ?_) (fun hc => ?_)
  · have h := h.2 hc
    refine lv_aload_n K.1 K.2.1 dM_readConcat_89 rfl (lv_at hL 0 rfl) ?_
    refine lv_iload_n K.1 K.2.1 dM_readConcat_90 rfl (lv_at hL 1 rfl) ?_
    refine lv_aload_n K.1 K.2.1 dM_readConcat_91 rfl (lv_at hL 0 rfl) ?_
    refine x_get (v := .ref (ad 16)) K hP hinM (ci := 7) rfl 0 (by decide) rfl 19 (by decide) flM_56 rfl rfl dM_readConcat_92 ?_
    refine lv_aload_n K.1 K.2.1 dM_readConcat_95 rfl (lv_at hL 0 rfl) ?_
    refine x_get (v := .ref (ad 6)) K hP hinM (ci := 7) rfl 0 (by decide) rfl 9 (by decide) flM_25 rfl rfl dM_readConcat_96 ?_
    refine lv_aload_n K.1 K.2.1 dM_readConcat_99 rfl (lv_at hL 0 rfl) ?_
    refine x_get (v := .ref (ad 7)) K hP hinM (ci := 7) rfl 0 (by decide) rfl 10 (by decide) flM_28 rfl rfl dM_readConcat_100 ?_
    refine lv_aload_n K.1 K.2.1 dM_readConcat_103 rfl (lv_at hL 0 rfl) ?_
    refine x_get (v := .int (hi2 0 6)) K hP hinM (ci := 7) rfl 0 (by decide) rfl 6 (by decide) flM_155 rfl rfl dM_readConcat_104 ?_
    obtain ⟨g4, h⟩ := h
    refine x_iald K hP 7 (by decide) 0 rfl rfl g4 dM_readConcat_107 ?_
    obtain ⟨g5, h⟩ := h
    refine x_iald K hP 6 (by decide) 0 rfl rfl g5 dM_readConcat_108 ?_
    obtain ⟨g6, h⟩ := h
    refine x_iald K hP 16 (by decide) 0 rfl rfl g6 dM_readConcat_109 ?_
    refine lv_isub K.1 K.2.1 dM_readConcat_110 ?_
    refine x_cVI (As := [.int (v2 - (hi2 16 ((hi2 6 ((hi2 7 ((hi2 0 6).toNatClampNeg)).toNatClampNeg)).toNatClampNeg)))]) (rest := []) K gT_good hZ hP hS calM_bitsB mlM_220 0 (by decide) rfl rfl (mM_bitsB hZ K.2.2.2.2.2.2.2.1 h) ⟨Nat.le_of_ble_eq_true rfl, Nat.le_of_ble_eq_true rfl⟩ rfl hL.1 rfl (Nat.le_of_ble_eq_true rfl) dM_readConcat_111 (fun r7 hi8 hl9 H locs h hP hS => ?_)
    obtain ⟨g10, h⟩ := h
    exact x_zret K hr hP hS g10 h dM_readConcat_114
  · have h := h.1 hc
    refine lv_iconst (v := 0) K.1 K.2.1 dM_readConcat_87 (by decide) ?_
    obtain ⟨g11, h⟩ := h
    exact x_zret K hr hP hS g11 h dM_readConcat_88
set_option maxRecDepth 100000 in
set_option maxHeartbeats 4000000 in
theorem bM_readConcat_80 {p : Program} {l : Launch} {e : Env} {s : State} {m : MethodId} {args : Array Value} {below : List Frame} {meth : Method} {c : Code} {D : va_G} {cI cJ cC cZ cR : ClassId} {ad : Nat → Nat} {A : Nat → Prop} {Zs : State → Prop} (K : Cx p (rmX 5 113) s m args meth c cM_readConcat 3 "WordCheckerModel" gT D cls8 (tys5 cI cJ cC cZ cR) 21 ad A Zs) (hr : meth.sig.returnType = (some .boolean)) (hZ : ZsOK A Zs) {Φ : Int32 → HI → HL → Prop} {v2 : Int32} {hi : HI} {hl : HL} {H : Heap} {locs : List Loc} (h : wbM_readConcat_80 v2 hi hl Φ) {ls : Array Slot} (hL : lv_has ls 3 [(0, .ref (ad 0)), (2, .int v2)]) (hP : va_P D cls8 (wl 21 ad (GM cI cZ ad) hi hl) H) (hS : va_S A s.heap H locs) : W p l e (rmX 5 113) s m args below meth c H locs 0 0 (MQ below (va_Qi (fun r (u : HI × HL) => Φ r u.1 u.2) (fun u t => va_P D cls8 (wl 21 ad (GM cI cZ ad) u.1 u.2) t.heap) A) args s 0 0 A) (F0 m 80 ls [.ref (ad 0)]) := by
  unfold wbM_readConcat_80 at h
  refine lv_iconst (v := 0) K.1 K.2.1 dM_readConcat_80 (by decide) ?_
  exact bM_readConcat_81 K hr hZ h (lv_sub hL [0, 1] rfl) hP hS
set_option maxRecDepth 100000 in
set_option maxHeartbeats 4000000 in
theorem bM_readConcat_0 {p : Program} {l : Launch} {e : Env} {s : State} {m : MethodId} {args : Array Value} {below : List Frame} {meth : Method} {c : Code} {D : va_G} {cI cJ cC cZ cR : ClassId} {ad : Nat → Nat} {A : Nat → Prop} {Zs : State → Prop} (K : Cx p (rmX 5 113) s m args meth c cM_readConcat 3 "WordCheckerModel" gT D cls8 (tys5 cI cJ cC cZ cR) 21 ad A Zs) (hr : meth.sig.returnType = (some .boolean)) (hZ : ZsOK A Zs) {Φ : Int32 → HI → HL → Prop} {hi : HI} {hl : HL} {H : Heap} {locs : List Loc} (h : wbM_readConcat_0 hi hl Φ) {ls : Array Slot} (hL : lv_has ls 3 [(0, .ref (ad 0))]) (hP : va_P D cls8 (wl 21 ad (GM cI cZ ad) hi hl) H) (hS : va_S A s.heap H locs) : W p l e (rmX 5 113) s m args below meth c H locs 0 0 (MQ below (va_Qi (fun r (u : HI × HL) => Φ r u.1 u.2) (fun u t => va_P D cls8 (wl 21 ad (GM cI cZ ad) u.1 u.2) t.heap) A) args s 0 0 A) (F0 m 0 ls []) := by
  unfold wbM_readConcat_0 at h
  refine lv_aload_n K.1 K.2.1 dM_readConcat_0 rfl (lv_at hL 0 rfl) ?_
  refine x_cVI (As := []) (rest := []) K gT_good hZ hP hS calM_nodeWord mlM_176 0 (by decide) rfl rfl (mM_nodeWord hZ K.2.2.2.2.2.2.2.1 h) ⟨Nat.le_of_ble_eq_true rfl, Nat.le_of_ble_eq_true rfl⟩ rfl hL.1 rfl (Nat.le_of_ble_eq_true rfl) dM_readConcat_1 (fun r1 hi2 hl3 H locs h hP hS => ?_)
  refine lv_istore_n (lv' := [(1, .int r1), (0, .ref (ad 0))]) K.1 K.2.1 dM_readConcat_4 rfl hL (by decide) rfl (fun ls hL => ?_)
  refine lv_aload_n K.1 K.2.1 dM_readConcat_5 rfl (lv_at hL 1 rfl) ?_
  refine x_get (v := .ref (ad 7)) K hP hinM (ci := 7) rfl 0 (by decide) rfl 10 (by decide) flM_28 rfl rfl dM_readConcat_6 ?_
  refine lv_aload_n K.1 K.2.1 dM_readConcat_9 rfl (lv_at hL 1 rfl) ?_
  refine x_get (v := .int (hi2 0 6)) K hP hinM (ci := 7) rfl 0 (by decide) rfl 6 (by decide) flM_155 rfl rfl dM_readConcat_10 ?_
  refine lv_iload_n K.1 K.2.1 dM_readConcat_13 rfl (lv_at hL 0 rfl) ?_
  obtain ⟨g4, h⟩ := h
  refine x_iast K hP hS 7 (by decide) 0 (fun _ => rfl) rfl g4 dM_readConcat_14 (fun H locs hP hS => ?_)
  refine lv_aload_n K.1 K.2.1 dM_readConcat_15 rfl (lv_at hL 1 rfl) ?_
  refine x_get (v := .ref (ad 10)) K hP hinM (ci := 7) rfl 0 (by decide) rfl 13 (by decide) flM_37 rfl rfl dM_readConcat_16 ?_
  refine lv_aload_n K.1 K.2.1 dM_readConcat_19 rfl (lv_at hL 1 rfl) ?_
  refine x_get (v := .int ((u2 hi2 7 ((hi2 0 6).toNatClampNeg) r1) 0 6)) K hP hinM (ci := 7) rfl 0 (by decide) rfl 6 (by decide) flM_155 rfl rfl dM_readConcat_20 ?_
  refine lv_aload_n K.1 K.2.1 dM_readConcat_23 rfl (lv_at hL 1 rfl) ?_
  refine x_get (v := .int ((u2 hi2 7 ((hi2 0 6).toNatClampNeg) r1) 0 20)) K hP hinM (ci := 7) rfl 0 (by decide) rfl 20 (by decide) flM_168 rfl rfl dM_readConcat_24 ?_
  obtain ⟨g5, h⟩ := h
  refine x_zast K hP hS 10 (by decide) 3 (fun _ => rfl) rfl g5 dM_readConcat_27 (fun H locs hP hS => ?_)
  refine lv_aload_n K.1 K.2.1 dM_readConcat_28 rfl (lv_at hL 1 rfl) ?_
  refine x_get (v := .ref (ad 16)) K hP hinM (ci := 7) rfl 0 (by decide) rfl 19 (by decide) flM_56 rfl rfl dM_readConcat_29 ?_
  refine lv_aload_n K.1 K.2.1 dM_readConcat_32 rfl (lv_at hL 1 rfl) ?_
  refine x_get (v := .ref (ad 6)) K hP hinM (ci := 7) rfl 0 (by decide) rfl 9 (by decide) flM_25 rfl rfl dM_readConcat_33 ?_
  refine lv_aload_n K.1 K.2.1 dM_readConcat_36 rfl (lv_at hL 1 rfl) ?_
  refine x_get (v := .int ((u2 (u2 hi2 7 ((hi2 0 6).toNatClampNeg) r1) 10 (((u2 hi2 7 ((hi2 0 6).toNatClampNeg) r1) 0 6).toNatClampNeg) (vp_nar .boolean ((u2 hi2 7 ((hi2 0 6).toNatClampNeg) r1) 0 20))) 0 6)) K hP hinM (ci := 7) rfl 0 (by decide) rfl 6 (by decide) flM_155 rfl rfl dM_readConcat_37 ?_
  obtain ⟨g6, h⟩ := h
  refine x_iald K hP 6 (by decide) 0 rfl rfl g6 dM_readConcat_40 ?_
  obtain ⟨g7, h⟩ := h
  refine x_iald K hP 16 (by decide) 0 rfl rfl g7 dM_readConcat_41 ?_
  refine lv_istore_n (lv' := [(2, .int ((u2 (u2 hi2 7 ((hi2 0 6).toNatClampNeg) r1) 10 (((u2 hi2 7 ((hi2 0 6).toNatClampNeg) r1) 0 6).toNatClampNeg) (vp_nar .boolean ((u2 hi2 7 ((hi2 0 6).toNatClampNeg) r1) 0 20))) 16 (((u2 (u2 hi2 7 ((hi2 0 6).toNatClampNeg) r1) 10 (((u2 hi2 7 ((hi2 0 6).toNatClampNeg) r1) 0 6).toNatClampNeg) (vp_nar .boolean ((u2 hi2 7 ((hi2 0 6).toNatClampNeg) r1) 0 20))) 6 (((u2 (u2 hi2 7 ((hi2 0 6).toNatClampNeg) r1) 10 (((u2 hi2 7 ((hi2 0 6).toNatClampNeg) r1) 0 6).toNatClampNeg) (vp_nar .boolean ((u2 hi2 7 ((hi2 0 6).toNatClampNeg) r1) 0 20))) 0 6).toNatClampNeg)).toNatClampNeg))), (1, .int r1), (0, .ref (ad 0))]) K.1 K.2.1 dM_readConcat_42 rfl hL (by decide) rfl (fun ls hL => ?_)
  refine lv_aload_n K.1 K.2.1 dM_readConcat_43 rfl (lv_at hL 2 rfl) ?_
  refine lv_iload_n K.1 K.2.1 dM_readConcat_44 rfl (lv_at hL 1 rfl) ?_
  refine lv_if_lt (tgt := 80) K.1 K.2.1 dM_readConcat_45 rfl (fun hc => ?_) (fun hc => ?_)
  · have h := h.1 hc
    exact bM_readConcat_80 K hr hZ h (lv_sub hL [2, 0] rfl) hP hS
  · have h := h.2 hc
    refine lv_aload_n K.1 K.2.1 dM_readConcat_48 rfl (lv_at hL 2 rfl) ?_
    refine lv_aload_n K.1 K.2.1 dM_readConcat_49 rfl (lv_at hL 2 rfl) ?_
    refine x_get (v := .ref (ad 6)) K hP hinM (ci := 7) rfl 0 (by decide) rfl 9 (by decide) flM_25 rfl rfl dM_readConcat_50 ?_
    refine lv_iload_n K.1 K.2.1 dM_readConcat_53 rfl (lv_at hL 1 rfl) ?_
    obtain ⟨g8, h⟩ := h
    refine x_iald K hP 6 (by decide) 0 rfl rfl g8 dM_readConcat_54 ?_
    refine x_cVI (As := [.int ((u2 (u2 hi2 7 ((hi2 0 6).toNatClampNeg) r1) 10 (((u2 hi2 7 ((hi2 0 6).toNatClampNeg) r1) 0 6).toNatClampNeg) (vp_nar .boolean ((u2 hi2 7 ((hi2 0 6).toNatClampNeg) r1) 0 20))) 6 (r1.toNatClampNeg))]) (rest := [.ref (ad 0)]) K gT_good hZ hP hS calM_isBits mlM_188 0 (by decide) rfl rfl (mM_isBits hZ K.2.2.2.2.2.2.2.1 h) ⟨Nat.le_of_ble_eq_true rfl, Nat.le_of_ble_eq_true rfl⟩ rfl hL.1 rfl (Nat.le_of_ble_eq_true rfl) dM_readConcat_55 (fun r9 hi10 hl11 H locs h hP hS => ?_)
    refine lv_if_eq (tgt := 80) K.1 K.2.1 dM_readConcat_58 rfl (fun hc => ?_) (fun hc => ?_)
    · have h := h.1 hc
      exact bM_readConcat_80 K hr hZ h (lv_sub hL [2, 0] rfl) hP hS
    · have h := h.2 hc
      refine lv_aload_n K.1 K.2.1 dM_readConcat_61 rfl (lv_at hL 2 rfl) ?_
      refine x_get (v := .ref (ad 16)) K hP hinM (ci := 7) rfl 0 (by decide) rfl 19 (by decide) flM_56 rfl rfl dM_readConcat_62 ?_
      refine lv_aload_n K.1 K.2.1 dM_readConcat_65 rfl (lv_at hL 2 rfl) ?_
      refine x_get (v := .ref (ad 6)) K hP hinM (ci := 7) rfl 0 (by decide) rfl 9 (by decide) flM_25 rfl rfl dM_readConcat_66 ?_
      refine lv_iload_n K.1 K.2.1 dM_readConcat_69 rfl (lv_at hL 1 rfl) ?_
      obtain ⟨g12, h⟩ := h
      refine x_iald K hP 6 (by decide) 0 rfl rfl g12 dM_readConcat_70 ?_
      obtain ⟨g13, h⟩ := h
      refine x_iald K hP 16 (by decide) 0 rfl rfl g13 dM_readConcat_71 ?_
      refine lv_iload_n K.1 K.2.1 dM_readConcat_72 rfl (lv_at hL 0 rfl) ?_
      refine lv_icmp_ge (tgt := 80) K.1 K.2.1 dM_readConcat_73 rfl (fun hc => ?_) (fun hc => ?_)
      · have h := h.1 hc
        exact bM_readConcat_80 K hr hZ h (lv_sub hL [2, 0] rfl) hP hS
      · have h := h.2 hc
        refine lv_iconst (v := 1) K.1 K.2.1 dM_readConcat_76 (by decide) ?_
        refine lv_goto (tgt := 81) K.1 K.2.1 dM_readConcat_77 rfl ?_
        exact bM_readConcat_81 K hr hZ h (lv_sub hL [2, 0] rfl) hP hS
set_option maxRecDepth 100000 in
set_option maxHeartbeats 4000000 in
theorem mM_readConcat {l : Launch} {D : va_G} {cI cJ cC cZ cR : ClassId} {ad : Nat → Nat} {A : Nat → Prop} {Zs : State → Prop} (hZ : ZsOK A Zs) (hD : wlD 21 ad A) {hi : HI} {hl : HL} {Φ : Int32 → HI → HL → Prop} (h : wpM_readConcat hi hl Φ) : SpI l yM_readConcat cM_readConcat 3 (some .boolean) gT 5 113 [.ref (ad 0)] D cls8 (tys5 cI cJ cC cZ cR) 21 ad (GM cI cZ ad) A Zs hi hl Φ := by
  refine Met.ofW (cc := cM_readConcat) (maxL := 3) (ret := (some .boolean)) (by decide) rfl ?_
  intro p e s m args below meth c s₁ B hml hv
  obtain ⟨rfl, hP, hK, hZs⟩ := hv
  have K : Cx p (rmX 5 113) s m _ meth c cM_readConcat 3 "WordCheckerModel" gT D cls8 (tys5 cI cJ cC cZ cR) 21 ad A Zs := ⟨B.exec, B.bytes, hml, findClass_of_methodNamed B.named, fun w hw => atoms_spec B.pre w (List.mem_cons_of_mem _ hw), B.notSynchronized, hK, hD, hZs⟩
  have hL := lv_entry ([.ref (ad 0)]) (n := 3) (Nat.le_of_ble_eq_true rfl)
  rw [lg_entry_eq]
  generalize (lg_sl ([.ref (ad 0)]) ++ List.replicate (3 - (lg_sl ([.ref (ad 0)])).length) Slot.unset).toArray = ls at hL ⊢
  have hL : lv_has ls 3 [(0, .ref (ad 0))] := hL
  unfold wpM_readConcat at h
  exact bM_readConcat_0 K B.returns hZ h (lv_sub hL [0] rfl) hP va_S.rf
set_option maxRecDepth 100000 in
set_option maxHeartbeats 4000000 in
theorem bM_readIte_93 {p : Program} {l : Launch} {e : Env} {s : State} {m : MethodId} {args : Array Value} {below : List Frame} {meth : Method} {c : Code} {D : va_G} {cI cJ cC cZ cR : ClassId} {ad : Nat → Nat} {A : Nat → Prop} {Zs : State → Prop} (K : Cx p (rmX 5 114) s m args meth c cM_readIte 3 "WordCheckerModel" gT D cls8 (tys5 cI cJ cC cZ cR) 21 ad A Zs) (hr : meth.sig.returnType = (some .boolean)) (hZ : ZsOK A Zs) {Φ : Int32 → HI → HL → Prop} {hi : HI} {hl : HL} {H : Heap} {locs : List Loc} (h : wbM_readIte_93 hi hl Φ) {ls : Array Slot} (hL : lv_has ls 3 []) (hP : va_P D cls8 (wl 21 ad (GM cI cZ ad) hi hl) H) (hS : va_S A s.heap H locs) : W p l e (rmX 5 114) s m args below meth c H locs 0 0 (MQ below (va_Qi (fun r (u : HI × HL) => Φ r u.1 u.2) (fun u t => va_P D cls8 (wl 21 ad (GM cI cZ ad) u.1 u.2) t.heap) A) args s 0 0 A) (F0 m 93 ls []) := by
  unfold wbM_readIte_93 at h
  refine lv_iconst (v := 0) K.1 K.2.1 dM_readIte_93 (by decide) ?_
  obtain ⟨g1, h⟩ := h
  exact x_zret K hr hP hS g1 h dM_readIte_94
set_option maxRecDepth 100000 in
set_option maxHeartbeats 4000000 in
theorem bM_readIte_66 {p : Program} {l : Launch} {e : Env} {s : State} {m : MethodId} {args : Array Value} {below : List Frame} {meth : Method} {c : Code} {D : va_G} {cI cJ cC cZ cR : ClassId} {ad : Nat → Nat} {A : Nat → Prop} {Zs : State → Prop} (K : Cx p (rmX 5 114) s m args meth c cM_readIte 3 "WordCheckerModel" gT D cls8 (tys5 cI cJ cC cZ cR) 21 ad A Zs) (hr : meth.sig.returnType = (some .boolean)) (hZ : ZsOK A Zs) {Φ : Int32 → HI → HL → Prop} {v1 : Int32} {q1 : Int32} {hi : HI} {hl : HL} {H : Heap} {locs : List Loc} (h : wbM_readIte_66 v1 q1 hi hl Φ) {ls : Array Slot} (hL : lv_has ls 3 [(0, .ref (ad 0)), (1, .int v1)]) (hP : va_P D cls8 (wl 21 ad (GM cI cZ ad) hi hl) H) (hS : va_S A s.heap H locs) : W p l e (rmX 5 114) s m args below meth c H locs 0 0 (MQ below (va_Qi (fun r (u : HI × HL) => Φ r u.1 u.2) (fun u t => va_P D cls8 (wl 21 ad (GM cI cZ ad) u.1 u.2) t.heap) A) args s 0 0 A) (F0 m 66 ls [.int q1, .ref (ad 0)]) := by
  unfold wbM_readIte_66 at h
  refine x_cVI (As := [.int q1]) (rest := []) K gT_good hZ hP hS calM_on mlM_184 0 (by decide) rfl rfl (mM_on hZ K.2.2.2.2.2.2.2.1 h) ⟨Nat.le_of_ble_eq_true rfl, Nat.le_of_ble_eq_true rfl⟩ rfl hL.1 rfl (Nat.le_of_ble_eq_true rfl) dM_readIte_66 (fun r1 hi2 hl3 H locs h hP hS => ?_)
  refine lv_if_eq (tgt := 93) K.1 K.2.1 dM_readIte_69 rfl (fun hc => ?_) (fun hc => ?_)
  · have h := h.1 hc
    exact bM_readIte_93 K hr hZ h (lv_sub hL [] rfl) hP hS
  · have h := h.2 hc
    refine lv_aload_n K.1 K.2.1 dM_readIte_72 rfl (lv_at hL 0 rfl) ?_
    refine lv_iconst (v := 0) K.1 K.2.1 dM_readIte_73 (by decide) ?_
    refine lv_iload_n K.1 K.2.1 dM_readIte_74 rfl (lv_at hL 1 rfl) ?_
    refine x_cVI (As := [.int (0 : Int32), .int v1]) (rest := []) K gT_good hZ hP hS calM_readA mlM_223 0 (by decide) rfl rfl (mM_readA hZ K.2.2.2.2.2.2.2.1 h) ⟨Nat.le_of_ble_eq_true rfl, Nat.le_of_ble_eq_true rfl⟩ rfl hL.1 rfl (Nat.le_of_ble_eq_true rfl) dM_readIte_75 (fun r4 hi5 hl6 H locs h hP hS => ?_)
    refine lv_if_eq (tgt := 93) K.1 K.2.1 dM_readIte_78 rfl (fun hc => ?_) (fun hc => ?_)
    · have h := h.1 hc
      exact bM_readIte_93 K hr hZ h (lv_sub hL [] rfl) hP hS
    · have h := h.2 hc
      refine lv_aload_n K.1 K.2.1 dM_readIte_81 rfl (lv_at hL 0 rfl) ?_
      refine lv_iload_n K.1 K.2.1 dM_readIte_82 rfl (lv_at hL 1 rfl) ?_
      refine x_cVI (As := [.int v1]) (rest := []) K gT_good hZ hP hS calM_readB mlM_227 0 (by decide) rfl rfl (mM_readB hZ K.2.2.2.2.2.2.2.1 h) ⟨Nat.le_of_ble_eq_true rfl, Nat.le_of_ble_eq_true rfl⟩ rfl hL.1 rfl (Nat.le_of_ble_eq_true rfl) dM_readIte_83 (fun r7 hi8 hl9 H locs h hP hS => ?_)
      refine lv_if_eq (tgt := 93) K.1 K.2.1 dM_readIte_86 rfl (fun hc => ?_) (fun hc => ?_)
      · have h := h.1 hc
        exact bM_readIte_93 K hr hZ h (lv_sub hL [] rfl) hP hS
      · have h := h.2 hc
        refine lv_iconst (v := 1) K.1 K.2.1 dM_readIte_89 (by decide) ?_
        refine lv_goto (tgt := 94) K.1 K.2.1 dM_readIte_90 rfl ?_
        obtain ⟨g10, h⟩ := h
        exact x_zret K hr hP hS g10 h dM_readIte_94
set_option maxRecDepth 100000 in
set_option maxHeartbeats 4000000 in
theorem bM_readIte_65 {p : Program} {l : Launch} {e : Env} {s : State} {m : MethodId} {args : Array Value} {below : List Frame} {meth : Method} {c : Code} {D : va_G} {cI cJ cC cZ cR : ClassId} {ad : Nat → Nat} {A : Nat → Prop} {Zs : State → Prop} (K : Cx p (rmX 5 114) s m args meth c cM_readIte 3 "WordCheckerModel" gT D cls8 (tys5 cI cJ cC cZ cR) 21 ad A Zs) (hr : meth.sig.returnType = (some .boolean)) (hZ : ZsOK A Zs) {Φ : Int32 → HI → HL → Prop} {v1 : Int32} {hi : HI} {hl : HL} {H : Heap} {locs : List Loc} (h : wbM_readIte_65 v1 hi hl Φ) {ls : Array Slot} (hL : lv_has ls 3 [(0, .ref (ad 0)), (1, .int v1)]) (hP : va_P D cls8 (wl 21 ad (GM cI cZ ad) hi hl) H) (hS : va_S A s.heap H locs) : W p l e (rmX 5 114) s m args below meth c H locs 0 0 (MQ below (va_Qi (fun r (u : HI × HL) => Φ r u.1 u.2) (fun u t => va_P D cls8 (wl 21 ad (GM cI cZ ad) u.1 u.2) t.heap) A) args s 0 0 A) (F0 m 65 ls [.ref (ad 0)]) := by
  unfold wbM_readIte_65 at h
  refine lv_iconst (v := 0) K.1 K.2.1 dM_readIte_65 (by decide) ?_
  exact bM_readIte_66 K hr hZ h (lv_sub hL [0, 1] rfl) hP hS
set_option maxRecDepth 100000 in
set_option maxHeartbeats 4000000 in
theorem bM_readIte_0 {p : Program} {l : Launch} {e : Env} {s : State} {m : MethodId} {args : Array Value} {below : List Frame} {meth : Method} {c : Code} {D : va_G} {cI cJ cC cZ cR : ClassId} {ad : Nat → Nat} {A : Nat → Prop} {Zs : State → Prop} (K : Cx p (rmX 5 114) s m args meth c cM_readIte 3 "WordCheckerModel" gT D cls8 (tys5 cI cJ cC cZ cR) 21 ad A Zs) (hr : meth.sig.returnType = (some .boolean)) (hZ : ZsOK A Zs) {Φ : Int32 → HI → HL → Prop} {v1 : Int32} {hi : HI} {hl : HL} {H : Heap} {locs : List Loc} (h : wbM_readIte_0 v1 hi hl Φ) {ls : Array Slot} (hL : lv_has ls 3 [(0, .ref (ad 0)), (1, .int v1)]) (hP : va_P D cls8 (wl 21 ad (GM cI cZ ad) hi hl) H) (hS : va_S A s.heap H locs) : W p l e (rmX 5 114) s m args below meth c H locs 0 0 (MQ below (va_Qi (fun r (u : HI × HL) => Φ r u.1 u.2) (fun u t => va_P D cls8 (wl 21 ad (GM cI cZ ad) u.1 u.2) t.heap) A) args s 0 0 A) (F0 m 0 ls []) := by
  unfold wbM_readIte_0 at h
  refine lv_aload_n K.1 K.2.1 dM_readIte_0 rfl (lv_at hL 0 rfl) ?_
  refine x_cVI (As := []) (rest := []) K gT_good hZ hP hS calM_nodeWord mlM_176 0 (by decide) rfl rfl (mM_nodeWord hZ K.2.2.2.2.2.2.2.1 h) ⟨Nat.le_of_ble_eq_true rfl, Nat.le_of_ble_eq_true rfl⟩ rfl hL.1 rfl (Nat.le_of_ble_eq_true rfl) dM_readIte_1 (fun r1 hi2 hl3 H locs h hP hS => ?_)
  refine lv_istore_n (lv' := [(2, .int r1), (0, .ref (ad 0)), (1, .int v1)]) K.1 K.2.1 dM_readIte_4 rfl hL (by decide) rfl (fun ls hL => ?_)
  refine lv_aload_n K.1 K.2.1 dM_readIte_5 rfl (lv_at hL 1 rfl) ?_
  refine x_get (v := .ref (ad 9)) K hP hinM (ci := 7) rfl 0 (by decide) rfl 12 (by decide) flM_34 rfl rfl dM_readIte_6 ?_
  refine lv_aload_n K.1 K.2.1 dM_readIte_9 rfl (lv_at hL 1 rfl) ?_
  refine x_get (v := .int (hi2 0 6)) K hP hinM (ci := 7) rfl 0 (by decide) rfl 6 (by decide) flM_155 rfl rfl dM_readIte_10 ?_
  refine lv_iload_n K.1 K.2.1 dM_readIte_13 rfl (lv_at hL 0 rfl) ?_
  obtain ⟨g4, h⟩ := h
  refine x_iast K hP hS 9 (by decide) 0 (fun _ => rfl) rfl g4 dM_readIte_14 (fun H locs hP hS => ?_)
  refine lv_aload_n K.1 K.2.1 dM_readIte_15 rfl (lv_at hL 1 rfl) ?_
  refine x_get (v := .ref (ad 12)) K hP hinM (ci := 7) rfl 0 (by decide) rfl 15 (by decide) flM_44 rfl rfl dM_readIte_16 ?_
  refine lv_aload_n K.1 K.2.1 dM_readIte_19 rfl (lv_at hL 1 rfl) ?_
  refine x_get (v := .int ((u2 hi2 9 ((hi2 0 6).toNatClampNeg) r1) 0 6)) K hP hinM (ci := 7) rfl 0 (by decide) rfl 6 (by decide) flM_155 rfl rfl dM_readIte_20 ?_
  refine lv_aload_n K.1 K.2.1 dM_readIte_23 rfl (lv_at hL 1 rfl) ?_
  refine x_get (v := .int ((u2 hi2 9 ((hi2 0 6).toNatClampNeg) r1) 0 20)) K hP hinM (ci := 7) rfl 0 (by decide) rfl 20 (by decide) flM_168 rfl rfl dM_readIte_24 ?_
  obtain ⟨g5, h⟩ := h
  refine x_zast K hP hS 12 (by decide) 3 (fun _ => rfl) rfl g5 dM_readIte_27 (fun H locs hP hS => ?_)
  refine lv_aload_n K.1 K.2.1 dM_readIte_28 rfl (lv_at hL 1 rfl) ?_
  refine lv_iload_n K.1 K.2.1 dM_readIte_29 rfl (lv_at hL 0 rfl) ?_
  refine lv_if_lt (tgt := 65) K.1 K.2.1 dM_readIte_30 rfl (fun hc => ?_) (fun hc => ?_)
  · have h := h.1 hc
    exact bM_readIte_65 K hr hZ h (lv_sub hL [1, 2] rfl) hP hS
  · have h := h.2 hc
    refine lv_aload_n K.1 K.2.1 dM_readIte_33 rfl (lv_at hL 1 rfl) ?_
    refine lv_aload_n K.1 K.2.1 dM_readIte_34 rfl (lv_at hL 1 rfl) ?_
    refine x_get (v := .ref (ad 6)) K hP hinM (ci := 7) rfl 0 (by decide) rfl 9 (by decide) flM_25 rfl rfl dM_readIte_35 ?_
    refine lv_iload_n K.1 K.2.1 dM_readIte_38 rfl (lv_at hL 0 rfl) ?_
    obtain ⟨g6, h⟩ := h
    refine x_iald K hP 6 (by decide) 0 rfl rfl g6 dM_readIte_39 ?_
    refine x_cVI (As := [.int ((u2 (u2 hi2 9 ((hi2 0 6).toNatClampNeg) r1) 12 (((u2 hi2 9 ((hi2 0 6).toNatClampNeg) r1) 0 6).toNatClampNeg) (vp_nar .boolean ((u2 hi2 9 ((hi2 0 6).toNatClampNeg) r1) 0 20))) 6 (r1.toNatClampNeg))]) (rest := [.ref (ad 0)]) K gT_good hZ hP hS calM_isBits mlM_188 0 (by decide) rfl rfl (mM_isBits hZ K.2.2.2.2.2.2.2.1 h) ⟨Nat.le_of_ble_eq_true rfl, Nat.le_of_ble_eq_true rfl⟩ rfl hL.1 rfl (Nat.le_of_ble_eq_true rfl) dM_readIte_40 (fun r7 hi8 hl9 H locs h hP hS => ?_)
    refine lv_if_eq (tgt := 65) K.1 K.2.1 dM_readIte_43 rfl (fun hc => ?_) (fun hc => ?_)
    · have h := h.1 hc
      exact bM_readIte_65 K hr hZ h (lv_sub hL [1, 2] rfl) hP hS
    · have h := h.2 hc
      refine lv_aload_n K.1 K.2.1 dM_readIte_46 rfl (lv_at hL 1 rfl) ?_
      refine x_get (v := .ref (ad 16)) K hP hinM (ci := 7) rfl 0 (by decide) rfl 19 (by decide) flM_56 rfl rfl dM_readIte_47 ?_
      refine lv_aload_n K.1 K.2.1 dM_readIte_50 rfl (lv_at hL 1 rfl) ?_
      refine x_get (v := .ref (ad 6)) K hP hinM (ci := 7) rfl 0 (by decide) rfl 9 (by decide) flM_25 rfl rfl dM_readIte_51 ?_
      refine lv_iload_n K.1 K.2.1 dM_readIte_54 rfl (lv_at hL 0 rfl) ?_
      obtain ⟨g10, h⟩ := h
      refine x_iald K hP 6 (by decide) 0 rfl rfl g10 dM_readIte_55 ?_
      obtain ⟨g11, h⟩ := h
      refine x_iald K hP 16 (by decide) 0 rfl rfl g11 dM_readIte_56 ?_
      refine lv_iconst (v := 1) K.1 K.2.1 dM_readIte_57 (by decide) ?_
      refine lv_icmp_ne (tgt := 65) K.1 K.2.1 dM_readIte_58 rfl (fun hc => ?_) (fun hc => ?_)
      · have h := h.2 hc
        exact bM_readIte_65 K hr hZ h (lv_sub hL [1, 2] rfl) hP hS
      · have h := h.1 hc
        refine lv_iconst (v := 1) K.1 K.2.1 dM_readIte_61 (by decide) ?_
        refine lv_goto (tgt := 66) K.1 K.2.1 dM_readIte_62 rfl ?_
        exact bM_readIte_66 K hr hZ h (lv_sub hL [1, 2] rfl) hP hS
set_option maxRecDepth 100000 in
set_option maxHeartbeats 4000000 in
theorem mM_readIte {l : Launch} {D : va_G} {cI cJ cC cZ cR : ClassId} {ad : Nat → Nat} {A : Nat → Prop} {Zs : State → Prop} (hZ : ZsOK A Zs) (hD : wlD 21 ad A) {v1 : Int32} {hi : HI} {hl : HL} {Φ : Int32 → HI → HL → Prop} (h : wpM_readIte v1 hi hl Φ) : SpI l yM_readIte cM_readIte 3 (some .boolean) gT 5 114 [.ref (ad 0), .int v1] D cls8 (tys5 cI cJ cC cZ cR) 21 ad (GM cI cZ ad) A Zs hi hl Φ := by
  refine Met.ofW (cc := cM_readIte) (maxL := 3) (ret := (some .boolean)) (by decide) rfl ?_
  intro p e s m args below meth c s₁ B hml hv
  obtain ⟨rfl, hP, hK, hZs⟩ := hv
  have K : Cx p (rmX 5 114) s m _ meth c cM_readIte 3 "WordCheckerModel" gT D cls8 (tys5 cI cJ cC cZ cR) 21 ad A Zs := ⟨B.exec, B.bytes, hml, findClass_of_methodNamed B.named, fun w hw => atoms_spec B.pre w (List.mem_cons_of_mem _ hw), B.notSynchronized, hK, hD, hZs⟩
  have hL := lv_entry ([.ref (ad 0), .int v1]) (n := 3) (Nat.le_of_ble_eq_true rfl)
  rw [lg_entry_eq]
  generalize (lg_sl ([.ref (ad 0), .int v1]) ++ List.replicate (3 - (lg_sl ([.ref (ad 0), .int v1])).length) Slot.unset).toArray = ls at hL ⊢
  have hL : lv_has ls 3 [(0, .ref (ad 0)), (1, .int v1)] := hL
  unfold wpM_readIte at h
  exact bM_readIte_0 K B.returns hZ h (lv_sub hL [0, 1] rfl) hP va_S.rf
set_option maxRecDepth 100000 in
set_option maxHeartbeats 4000000 in
theorem bM_readPlace_167 {p : Program} {l : Launch} {e : Env} {s : State} {m : MethodId} {args : Array Value} {below : List Frame} {meth : Method} {c : Code} {D : va_G} {cI cJ cC cZ cR : ClassId} {ad : Nat → Nat} {A : Nat → Prop} {Zs : State → Prop} (K : Cx p (rmX 5 113) s m args meth c cM_readPlace 5 "WordCheckerModel" gT D cls8 (tys5 cI cJ cC cZ cR) 21 ad A Zs) (hr : meth.sig.returnType = (some .boolean)) (hZ : ZsOK A Zs) {Φ : Int32 → HI → HL → Prop} {hi : HI} {hl : HL} {H : Heap} {locs : List Loc} (h : wbM_readPlace_167 hi hl Φ) {ls : Array Slot} (hL : lv_has ls 5 []) (hP : va_P D cls8 (wl 21 ad (GM cI cZ ad) hi hl) H) (hS : va_S A s.heap H locs) : W p l e (rmX 5 113) s m args below meth c H locs 0 0 (MQ below (va_Qi (fun r (u : HI × HL) => Φ r u.1 u.2) (fun u t => va_P D cls8 (wl 21 ad (GM cI cZ ad) u.1 u.2) t.heap) A) args s 0 0 A) (F0 m 167 ls [.ref (ad 0)]) := by
  unfold wbM_readPlace_167 at h
  refine lv_iconst (v := 0) K.1 K.2.1 dM_readPlace_167 (by decide) ?_
  refine x_cVI (As := [.int (0 : Int32)]) (rest := []) K gT_good hZ hP hS calM_on mlM_184 0 (by decide) rfl rfl (mM_on hZ K.2.2.2.2.2.2.2.1 h) ⟨Nat.le_of_ble_eq_true rfl, Nat.le_of_ble_eq_true rfl⟩ rfl hL.1 rfl (Nat.le_of_ble_eq_true rfl) dM_readPlace_168 (fun r1 hi2 hl3 H locs h hP hS => ?_)
  obtain ⟨g4, h⟩ := h
  exact x_zret K hr hP hS g4 h dM_readPlace_171
set_option maxRecDepth 100000 in
set_option maxHeartbeats 4000000 in
theorem bM_readPlace_68 {p : Program} {l : Launch} {e : Env} {s : State} {m : MethodId} {args : Array Value} {below : List Frame} {meth : Method} {c : Code} {D : va_G} {cI cJ cC cZ cR : ClassId} {ad : Nat → Nat} {A : Nat → Prop} {Zs : State → Prop} (K : Cx p (rmX 5 113) s m args meth c cM_readPlace 5 "WordCheckerModel" gT D cls8 (tys5 cI cJ cC cZ cR) 21 ad A Zs) (hr : meth.sig.returnType = (some .boolean)) (hZ : ZsOK A Zs) {Φ : Int32 → HI → HL → Prop} {v1 : Int32} {v2 : Int32} {q0 : Int32} {hi : HI} {hl : HL} {H : Heap} {locs : List Loc} (h : wbM_readPlace_68 v1 v2 q0 hi hl Φ) {ls : Array Slot} (hL : lv_has ls 5 [(0, .ref (ad 0)), (1, .int v1), (2, .int v2)]) (hP : va_P D cls8 (wl 21 ad (GM cI cZ ad) hi hl) H) (hS : va_S A s.heap H locs) : W p l e (rmX 5 113) s m args below meth c H locs 0 0 (MQ below (va_Qi (fun r (u : HI × HL) => Φ r u.1 u.2) (fun u t => va_P D cls8 (wl 21 ad (GM cI cZ ad) u.1 u.2) t.heap) A) args s 0 0 A) (F0 m 68 ls [.int q0]) := by
  unfold wbM_readPlace_68 at h
  refine lv_istore (lv' := [(4, .int q0), (0, .ref (ad 0)), (1, .int v1), (2, .int v2)]) K.1 K.2.1 dM_readPlace_68 hL (by decide) rfl (fun ls hL => ?_)
  refine lv_aload_n K.1 K.2.1 dM_readPlace_70 rfl (lv_at hL 1 rfl) ?_
  refine lv_iload K.1 K.2.1 dM_readPlace_71 (lv_at hL 0 rfl) ?_
  refine x_cVI (As := [.int q0]) (rest := []) K gT_good hZ hP hS calM_on mlM_184 0 (by decide) rfl rfl (mM_on hZ K.2.2.2.2.2.2.2.1 h) ⟨Nat.le_of_ble_eq_true rfl, Nat.le_of_ble_eq_true rfl⟩ rfl hL.1 rfl (Nat.le_of_ble_eq_true rfl) dM_readPlace_73 (fun r1 hi2 hl3 H locs h hP hS => ?_)
  refine lv_if_eq (tgt := 87) K.1 K.2.1 dM_readPlace_76 rfl (fun hc => ?_) (fun hc => ?_)
  · have h := h.1 hc
    refine lv_iconst (v := 0) K.1 K.2.1 dM_readPlace_87 (by decide) ?_
    obtain ⟨g4, h⟩ := h
    exact x_zret K hr hP hS g4 h dM_readPlace_88
  · have h := h.2 hc
    refine lv_aload_n K.1 K.2.1 dM_readPlace_79 rfl (lv_at hL 1 rfl) ?_
    refine lv_iconst (v := 1) K.1 K.2.1 dM_readPlace_80 (by decide) ?_
    refine x_cVI (As := [.int (1 : Int32)]) (rest := []) K gT_good hZ hP hS calM_bitsB mlM_220 0 (by decide) rfl rfl (mM_bitsB hZ K.2.2.2.2.2.2.2.1 h) ⟨Nat.le_of_ble_eq_true rfl, Nat.le_of_ble_eq_true rfl⟩ rfl hL.1 rfl (Nat.le_of_ble_eq_true rfl) dM_readPlace_81 (fun r5 hi6 hl7 H locs h hP hS => ?_)
    refine lv_if_ne (tgt := 89) K.1 K.2.1 dM_readPlace_84 rfl (fun hc => ?_) (fun hc => ?_)
    · have h := h.2 hc
      refine lv_iload_n K.1 K.2.1 dM_readPlace_89 rfl (lv_at hL 2 rfl) ?_
      refine lv_bipush (v := 25) K.1 K.2.1 dM_readPlace_90 (by decide) ?_
      refine lv_icmp_ne (tgt := 97) K.1 K.2.1 dM_readPlace_92 rfl (fun hc => ?_) (fun hc => ?_)
      · have h := h.2 hc
        refine lv_aload_n K.1 K.2.1 dM_readPlace_97 rfl (lv_at hL 1 rfl) ?_
        refine x_cVI (As := []) (rest := []) K gT_good hZ hP hS calM_nodeWord mlM_176 0 (by decide) rfl rfl (mM_nodeWord hZ K.2.2.2.2.2.2.2.1 h) ⟨Nat.le_of_ble_eq_true rfl, Nat.le_of_ble_eq_true rfl⟩ rfl hL.1 rfl (Nat.le_of_ble_eq_true rfl) dM_readPlace_98 (fun r8 hi9 hl10 H locs h hP hS => ?_)
        refine lv_istore_n (lv' := [(3, .int r8), (4, .int q0), (0, .ref (ad 0)), (1, .int v1), (2, .int v2)]) K.1 K.2.1 dM_readPlace_101 rfl hL (by decide) rfl (fun ls hL => ?_)
        refine lv_aload_n K.1 K.2.1 dM_readPlace_102 rfl (lv_at hL 2 rfl) ?_
        refine x_get (v := .ref (ad 9)) K hP hinM (ci := 7) rfl 0 (by decide) rfl 12 (by decide) flM_34 rfl rfl dM_readPlace_103 ?_
        refine lv_aload_n K.1 K.2.1 dM_readPlace_106 rfl (lv_at hL 2 rfl) ?_
        refine x_get (v := .int (hi9 0 6)) K hP hinM (ci := 7) rfl 0 (by decide) rfl 6 (by decide) flM_155 rfl rfl dM_readPlace_107 ?_
        refine lv_iload_n K.1 K.2.1 dM_readPlace_110 rfl (lv_at hL 0 rfl) ?_
        obtain ⟨g11, h⟩ := h
        refine x_iast K hP hS 9 (by decide) 0 (fun _ => rfl) rfl g11 dM_readPlace_111 (fun H locs hP hS => ?_)
        refine lv_aload_n K.1 K.2.1 dM_readPlace_112 rfl (lv_at hL 2 rfl) ?_
        refine x_get (v := .ref (ad 12)) K hP hinM (ci := 7) rfl 0 (by decide) rfl 15 (by decide) flM_44 rfl rfl dM_readPlace_113 ?_
        refine lv_aload_n K.1 K.2.1 dM_readPlace_116 rfl (lv_at hL 2 rfl) ?_
        refine x_get (v := .int ((u2 hi9 9 ((hi9 0 6).toNatClampNeg) r8) 0 6)) K hP hinM (ci := 7) rfl 0 (by decide) rfl 6 (by decide) flM_155 rfl rfl dM_readPlace_117 ?_
        refine lv_aload_n K.1 K.2.1 dM_readPlace_120 rfl (lv_at hL 2 rfl) ?_
        refine x_get (v := .int ((u2 hi9 9 ((hi9 0 6).toNatClampNeg) r8) 0 20)) K hP hinM (ci := 7) rfl 0 (by decide) rfl 20 (by decide) flM_168 rfl rfl dM_readPlace_121 ?_
        obtain ⟨g12, h⟩ := h
        refine x_zast K hP hS 12 (by decide) 3 (fun _ => rfl) rfl g12 dM_readPlace_124 (fun H locs hP hS => ?_)
        refine lv_aload_n K.1 K.2.1 dM_readPlace_125 rfl (lv_at hL 2 rfl) ?_
        refine lv_iload_n K.1 K.2.1 dM_readPlace_126 rfl (lv_at hL 0 rfl) ?_
        refine lv_if_lt (tgt := 167) K.1 K.2.1 dM_readPlace_127 rfl (fun hc => ?_) (fun hc => ?_)
        · have h := h.1 hc
          exact bM_readPlace_167 K hr hZ h (lv_sub hL [] rfl) hP hS
        · have h := h.2 hc
          refine lv_aload_n K.1 K.2.1 dM_readPlace_130 rfl (lv_at hL 2 rfl) ?_
          refine lv_aload_n K.1 K.2.1 dM_readPlace_131 rfl (lv_at hL 2 rfl) ?_
          refine x_get (v := .ref (ad 6)) K hP hinM (ci := 7) rfl 0 (by decide) rfl 9 (by decide) flM_25 rfl rfl dM_readPlace_132 ?_
          refine lv_iload_n K.1 K.2.1 dM_readPlace_135 rfl (lv_at hL 0 rfl) ?_
          obtain ⟨g13, h⟩ := h
          refine x_iald K hP 6 (by decide) 0 rfl rfl g13 dM_readPlace_136 ?_
          refine x_cVI (As := [.int ((u2 (u2 hi9 9 ((hi9 0 6).toNatClampNeg) r8) 12 (((u2 hi9 9 ((hi9 0 6).toNatClampNeg) r8) 0 6).toNatClampNeg) (vp_nar .boolean ((u2 hi9 9 ((hi9 0 6).toNatClampNeg) r8) 0 20))) 6 (r8.toNatClampNeg))]) (rest := [.ref (ad 0)]) K gT_good hZ hP hS calM_isBits mlM_188 0 (by decide) rfl rfl (mM_isBits hZ K.2.2.2.2.2.2.2.1 h) ⟨Nat.le_of_ble_eq_true rfl, Nat.le_of_ble_eq_true rfl⟩ rfl hL.1 rfl (Nat.le_of_ble_eq_true rfl) dM_readPlace_137 (fun r14 hi15 hl16 H locs h hP hS => ?_)
          refine lv_if_eq (tgt := 167) K.1 K.2.1 dM_readPlace_140 rfl (fun hc => ?_) (fun hc => ?_)
          · have h := h.1 hc
            exact bM_readPlace_167 K hr hZ h (lv_sub hL [] rfl) hP hS
          · have h := h.2 hc
            refine lv_aload_n K.1 K.2.1 dM_readPlace_143 rfl (lv_at hL 2 rfl) ?_
            refine x_get (v := .ref (ad 16)) K hP hinM (ci := 7) rfl 0 (by decide) rfl 19 (by decide) flM_56 rfl rfl dM_readPlace_144 ?_
            refine lv_aload_n K.1 K.2.1 dM_readPlace_147 rfl (lv_at hL 2 rfl) ?_
            refine x_get (v := .ref (ad 6)) K hP hinM (ci := 7) rfl 0 (by decide) rfl 9 (by decide) flM_25 rfl rfl dM_readPlace_148 ?_
            refine lv_iload_n K.1 K.2.1 dM_readPlace_151 rfl (lv_at hL 0 rfl) ?_
            obtain ⟨g17, h⟩ := h
            refine x_iald K hP 6 (by decide) 0 rfl rfl g17 dM_readPlace_152 ?_
            obtain ⟨g18, h⟩ := h
            refine x_iald K hP 16 (by decide) 0 rfl rfl g18 dM_readPlace_153 ?_
            refine lv_aload_n K.1 K.2.1 dM_readPlace_154 rfl (lv_at hL 2 rfl) ?_
            refine x_get (v := .ref (ad 16)) K hP hinM (ci := 7) rfl 0 (by decide) rfl 19 (by decide) flM_56 rfl rfl dM_readPlace_155 ?_
            refine lv_iload_n K.1 K.2.1 dM_readPlace_158 rfl (lv_at hL 4 rfl) ?_
            obtain ⟨g19, h⟩ := h
            refine x_iald K hP 16 (by decide) 0 rfl rfl g19 dM_readPlace_159 ?_
            refine lv_icmp_ne (tgt := 167) K.1 K.2.1 dM_readPlace_160 rfl (fun hc => ?_) (fun hc => ?_)
            · have h := h.2 hc
              exact bM_readPlace_167 K hr hZ h (lv_sub hL [] rfl) hP hS
            · have h := h.1 hc
              refine lv_iconst (v := 1) K.1 K.2.1 dM_readPlace_163 (by decide) ?_
              refine lv_goto (tgt := 168) K.1 K.2.1 dM_readPlace_164 rfl ?_
              refine x_cVI (As := [.int (1 : Int32)]) (rest := []) K gT_good hZ hP hS calM_on mlM_184 0 (by decide) rfl rfl (mM_on hZ K.2.2.2.2.2.2.2.1 h) ⟨Nat.le_of_ble_eq_true rfl, Nat.le_of_ble_eq_true rfl⟩ rfl hL.1 rfl (Nat.le_of_ble_eq_true rfl) dM_readPlace_168 (fun r20 hi21 hl22 H locs h hP hS => ?_)
              obtain ⟨g23, h⟩ := h
              exact x_zret K hr hP hS g23 h dM_readPlace_171
      · have h := h.1 hc
        refine lv_iconst (v := 1) K.1 K.2.1 dM_readPlace_95 (by decide) ?_
        obtain ⟨g24, h⟩ := h
        exact x_zret K hr hP hS g24 h dM_readPlace_96
    · have h := h.1 hc
      refine lv_iconst (v := 0) K.1 K.2.1 dM_readPlace_87 (by decide) ?_
      obtain ⟨g25, h⟩ := h
      exact x_zret K hr hP hS g25 h dM_readPlace_88
set_option maxRecDepth 100000 in
set_option maxHeartbeats 4000000 in
theorem bM_readPlace_67 {p : Program} {l : Launch} {e : Env} {s : State} {m : MethodId} {args : Array Value} {below : List Frame} {meth : Method} {c : Code} {D : va_G} {cI cJ cC cZ cR : ClassId} {ad : Nat → Nat} {A : Nat → Prop} {Zs : State → Prop} (K : Cx p (rmX 5 113) s m args meth c cM_readPlace 5 "WordCheckerModel" gT D cls8 (tys5 cI cJ cC cZ cR) 21 ad A Zs) (hr : meth.sig.returnType = (some .boolean)) (hZ : ZsOK A Zs) {Φ : Int32 → HI → HL → Prop} {v1 : Int32} {v2 : Int32} {hi : HI} {hl : HL} {H : Heap} {locs : List Loc} (h : wbM_readPlace_67 v1 v2 hi hl Φ) {ls : Array Slot} (hL : lv_has ls 5 [(0, .ref (ad 0)), (1, .int v1), (2, .int v2)]) (hP : va_P D cls8 (wl 21 ad (GM cI cZ ad) hi hl) H) (hS : va_S A s.heap H locs) : W p l e (rmX 5 113) s m args below meth c H locs 0 0 (MQ below (va_Qi (fun r (u : HI × HL) => Φ r u.1 u.2) (fun u t => va_P D cls8 (wl 21 ad (GM cI cZ ad) u.1 u.2) t.heap) A) args s 0 0 A) (F0 m 67 ls []) := by
  unfold wbM_readPlace_67 at h
  refine lv_iconst (v := 0) K.1 K.2.1 dM_readPlace_67 (by decide) ?_
  exact bM_readPlace_68 K hr hZ h (lv_sub hL [0, 1, 2] rfl) hP hS
set_option maxRecDepth 100000 in
set_option maxHeartbeats 4000000 in
theorem bM_readPlace_0 {p : Program} {l : Launch} {e : Env} {s : State} {m : MethodId} {args : Array Value} {below : List Frame} {meth : Method} {c : Code} {D : va_G} {cI cJ cC cZ cR : ClassId} {ad : Nat → Nat} {A : Nat → Prop} {Zs : State → Prop} (K : Cx p (rmX 5 113) s m args meth c cM_readPlace 5 "WordCheckerModel" gT D cls8 (tys5 cI cJ cC cZ cR) 21 ad A Zs) (hr : meth.sig.returnType = (some .boolean)) (hZ : ZsOK A Zs) {Φ : Int32 → HI → HL → Prop} {v1 : Int32} {v2 : Int32} {hi : HI} {hl : HL} {H : Heap} {locs : List Loc} (h : wbM_readPlace_0 v1 v2 hi hl Φ) {ls : Array Slot} (hL : lv_has ls 5 [(0, .ref (ad 0)), (1, .int v1), (2, .int v2)]) (hP : va_P D cls8 (wl 21 ad (GM cI cZ ad) hi hl) H) (hS : va_S A s.heap H locs) : W p l e (rmX 5 113) s m args below meth c H locs 0 0 (MQ below (va_Qi (fun r (u : HI × HL) => Φ r u.1 u.2) (fun u t => va_P D cls8 (wl 21 ad (GM cI cZ ad) u.1 u.2) t.heap) A) args s 0 0 A) (F0 m 0 ls []) := by
  unfold wbM_readPlace_0 at h
  refine lv_aload_n K.1 K.2.1 dM_readPlace_0 rfl (lv_at hL 0 rfl) ?_
  refine x_cVI (As := []) (rest := []) K gT_good hZ hP hS calM_nodeWord mlM_176 0 (by decide) rfl rfl (mM_nodeWord hZ K.2.2.2.2.2.2.2.1 h) ⟨Nat.le_of_ble_eq_true rfl, Nat.le_of_ble_eq_true rfl⟩ rfl hL.1 rfl (Nat.le_of_ble_eq_true rfl) dM_readPlace_1 (fun r1 hi2 hl3 H locs h hP hS => ?_)
  refine lv_istore_n (lv' := [(3, .int r1), (0, .ref (ad 0)), (1, .int v1), (2, .int v2)]) K.1 K.2.1 dM_readPlace_4 rfl hL (by decide) rfl (fun ls hL => ?_)
  refine lv_aload_n K.1 K.2.1 dM_readPlace_5 rfl (lv_at hL 1 rfl) ?_
  refine x_get (v := .ref (ad 7)) K hP hinM (ci := 7) rfl 0 (by decide) rfl 10 (by decide) flM_28 rfl rfl dM_readPlace_6 ?_
  refine lv_aload_n K.1 K.2.1 dM_readPlace_9 rfl (lv_at hL 1 rfl) ?_
  refine x_get (v := .int (hi2 0 6)) K hP hinM (ci := 7) rfl 0 (by decide) rfl 6 (by decide) flM_155 rfl rfl dM_readPlace_10 ?_
  refine lv_iload_n K.1 K.2.1 dM_readPlace_13 rfl (lv_at hL 0 rfl) ?_
  obtain ⟨g4, h⟩ := h
  refine x_iast K hP hS 7 (by decide) 0 (fun _ => rfl) rfl g4 dM_readPlace_14 (fun H locs hP hS => ?_)
  refine lv_aload_n K.1 K.2.1 dM_readPlace_15 rfl (lv_at hL 1 rfl) ?_
  refine x_get (v := .ref (ad 10)) K hP hinM (ci := 7) rfl 0 (by decide) rfl 13 (by decide) flM_37 rfl rfl dM_readPlace_16 ?_
  refine lv_aload_n K.1 K.2.1 dM_readPlace_19 rfl (lv_at hL 1 rfl) ?_
  refine x_get (v := .int ((u2 hi2 7 ((hi2 0 6).toNatClampNeg) r1) 0 6)) K hP hinM (ci := 7) rfl 0 (by decide) rfl 6 (by decide) flM_155 rfl rfl dM_readPlace_20 ?_
  refine lv_iconst (v := 0) K.1 K.2.1 dM_readPlace_23 (by decide) ?_
  obtain ⟨g5, h⟩ := h
  refine x_zast K hP hS 10 (by decide) 3 (fun _ => rfl) rfl g5 dM_readPlace_24 (fun H locs hP hS => ?_)
  refine lv_iload_n K.1 K.2.1 dM_readPlace_25 rfl (lv_at hL 0 rfl) ?_
  refine lv_if_lt (tgt := 67) K.1 K.2.1 dM_readPlace_26 rfl (fun hc => ?_) (fun hc => ?_)
  · have h := h.1 hc
    exact bM_readPlace_67 K hr hZ h (lv_sub hL [1, 2, 3] rfl) hP hS
  · have h := h.2 hc
    refine lv_aload_n K.1 K.2.1 dM_readPlace_29 rfl (lv_at hL 1 rfl) ?_
    refine x_get (v := .ref (ad 15)) K hP hinM (ci := 7) rfl 0 (by decide) rfl 18 (by decide) flM_53 rfl rfl dM_readPlace_30 ?_
    refine lv_aload_n K.1 K.2.1 dM_readPlace_33 rfl (lv_at hL 1 rfl) ?_
    refine x_get (v := .ref (ad 6)) K hP hinM (ci := 7) rfl 0 (by decide) rfl 9 (by decide) flM_25 rfl rfl dM_readPlace_34 ?_
    refine lv_iload_n K.1 K.2.1 dM_readPlace_37 rfl (lv_at hL 0 rfl) ?_
    obtain ⟨g6, h⟩ := h
    refine x_iald K hP 6 (by decide) 0 rfl rfl g6 dM_readPlace_38 ?_
    obtain ⟨g7, h⟩ := h
    refine x_zald K hP 15 (by decide) 3 rfl rfl g7 dM_readPlace_39 ?_
    refine lv_if_eq (tgt := 67) K.1 K.2.1 dM_readPlace_40 rfl (fun hc => ?_) (fun hc => ?_)
    · have h := h.1 hc
      exact bM_readPlace_67 K hr hZ h (lv_sub hL [1, 2, 3] rfl) hP hS
    · have h := h.2 hc
      refine lv_aload_n K.1 K.2.1 dM_readPlace_43 rfl (lv_at hL 1 rfl) ?_
      refine x_get (v := .ref (ad 16)) K hP hinM (ci := 7) rfl 0 (by decide) rfl 19 (by decide) flM_56 rfl rfl dM_readPlace_44 ?_
      refine lv_aload_n K.1 K.2.1 dM_readPlace_47 rfl (lv_at hL 1 rfl) ?_
      refine x_get (v := .ref (ad 6)) K hP hinM (ci := 7) rfl 0 (by decide) rfl 9 (by decide) flM_25 rfl rfl dM_readPlace_48 ?_
      refine lv_iload_n K.1 K.2.1 dM_readPlace_51 rfl (lv_at hL 0 rfl) ?_
      obtain ⟨g8, h⟩ := h
      refine x_iald K hP 6 (by decide) 0 rfl rfl g8 dM_readPlace_52 ?_
      obtain ⟨g9, h⟩ := h
      refine x_iald K hP 16 (by decide) 0 rfl rfl g9 dM_readPlace_53 ?_
      refine lv_aload_n K.1 K.2.1 dM_readPlace_54 rfl (lv_at hL 1 rfl) ?_
      refine x_get (v := .ref (ad 16)) K hP hinM (ci := 7) rfl 0 (by decide) rfl 19 (by decide) flM_56 rfl rfl dM_readPlace_55 ?_
      refine lv_iload_n K.1 K.2.1 dM_readPlace_58 rfl (lv_at hL 3 rfl) ?_
      obtain ⟨g10, h⟩ := h
      refine x_iald K hP 16 (by decide) 0 rfl rfl g10 dM_readPlace_59 ?_
      refine lv_icmp_ne (tgt := 67) K.1 K.2.1 dM_readPlace_60 rfl (fun hc => ?_) (fun hc => ?_)
      · have h := h.2 hc
        exact bM_readPlace_67 K hr hZ h (lv_sub hL [1, 2, 3] rfl) hP hS
      · have h := h.1 hc
        refine lv_iconst (v := 1) K.1 K.2.1 dM_readPlace_63 (by decide) ?_
        refine lv_goto (tgt := 68) K.1 K.2.1 dM_readPlace_64 rfl ?_
        exact bM_readPlace_68 K hr hZ h (lv_sub hL [1, 2, 3] rfl) hP hS
set_option maxRecDepth 100000 in
set_option maxHeartbeats 4000000 in
theorem mM_readPlace {l : Launch} {D : va_G} {cI cJ cC cZ cR : ClassId} {ad : Nat → Nat} {A : Nat → Prop} {Zs : State → Prop} (hZ : ZsOK A Zs) (hD : wlD 21 ad A) {v1 : Int32} {v2 : Int32} {hi : HI} {hl : HL} {Φ : Int32 → HI → HL → Prop} (h : wpM_readPlace v1 v2 hi hl Φ) : SpI l yM_readPlace cM_readPlace 5 (some .boolean) gT 5 113 [.ref (ad 0), .int v1, .int v2] D cls8 (tys5 cI cJ cC cZ cR) 21 ad (GM cI cZ ad) A Zs hi hl Φ := by
  refine Met.ofW (cc := cM_readPlace) (maxL := 5) (ret := (some .boolean)) (by decide) rfl ?_
  intro p e s m args below meth c s₁ B hml hv
  obtain ⟨rfl, hP, hK, hZs⟩ := hv
  have K : Cx p (rmX 5 113) s m _ meth c cM_readPlace 5 "WordCheckerModel" gT D cls8 (tys5 cI cJ cC cZ cR) 21 ad A Zs := ⟨B.exec, B.bytes, hml, findClass_of_methodNamed B.named, fun w hw => atoms_spec B.pre w (List.mem_cons_of_mem _ hw), B.notSynchronized, hK, hD, hZs⟩
  have hL := lv_entry ([.ref (ad 0), .int v1, .int v2]) (n := 5) (Nat.le_of_ble_eq_true rfl)
  rw [lg_entry_eq]
  generalize (lg_sl ([.ref (ad 0), .int v1, .int v2]) ++ List.replicate (5 - (lg_sl ([.ref (ad 0), .int v1, .int v2])).length) Slot.unset).toArray = ls at hL ⊢
  have hL : lv_has ls 5 [(0, .ref (ad 0)), (1, .int v1), (2, .int v2)] := hL
  unfold wpM_readPlace at h
  exact bM_readPlace_0 K B.returns hZ h (lv_sub hL [0, 1, 2] rfl) hP va_S.rf
set_option maxRecDepth 100000 in
set_option maxHeartbeats 4000000 in
theorem bM_readRest_60 {p : Program} {l : Launch} {e : Env} {s : State} {m : MethodId} {args : Array Value} {below : List Frame} {meth : Method} {c : Code} {D : va_G} {cI cJ cC cZ cR : ClassId} {ad : Nat → Nat} {A : Nat → Prop} {Zs : State → Prop} (K : Cx p (rmX 6 137) s m args meth c cM_readRest 4 "WordCheckerModel" gT D cls8 (tys5 cI cJ cC cZ cR) 21 ad A Zs) (hr : meth.sig.returnType = (some .boolean)) (hZ : ZsOK A Zs) {Φ : Int32 → HI → HL → Prop} {v2 : Int32} {hi : HI} {hl : HL} {H : Heap} {locs : List Loc} (h : wbM_readRest_60 v2 hi hl Φ) {ls : Array Slot} (hL : lv_has ls 4 [(0, .ref (ad 0)), (2, .int v2)]) (hP : va_P D cls8 (wl 21 ad (GM cI cZ ad) hi hl) H) (hS : va_S A s.heap H locs) : W p l e (rmX 6 137) s m args below meth c H locs 0 0 (MQ below (va_Qi (fun r (u : HI × HL) => Φ r u.1 u.2) (fun u t => va_P D cls8 (wl 21 ad (GM cI cZ ad) u.1 u.2) t.heap) A) args s 0 0 A) (F0 m 60 ls []) := by
  unfold wbM_readRest_60 at h
  refine lv_aload_n K.1 K.2.1 dM_readRest_60 rfl (lv_at hL 0 rfl) ?_
  refine lv_iconst (v := 0) K.1 K.2.1 dM_readRest_61 (by decide) ?_
  refine lv_iload_n K.1 K.2.1 dM_readRest_62 rfl (lv_at hL 1 rfl) ?_
  refine x_cVI (As := [.int (0 : Int32), .int v2]) (rest := []) K gT_good hZ hP hS calM_readA mlM_223 0 (by decide) rfl rfl (mM_readA hZ K.2.2.2.2.2.2.2.1 h) ⟨Nat.le_of_ble_eq_true rfl, Nat.le_of_ble_eq_true rfl⟩ rfl hL.1 rfl (Nat.le_of_ble_eq_true rfl) dM_readRest_63 (fun r1 hi2 hl3 H locs h hP hS => ?_)
  obtain ⟨g4, h⟩ := h
  exact x_zret K hr hP hS g4 h dM_readRest_66
set_option maxRecDepth 100000 in
set_option maxHeartbeats 4000000 in
theorem bM_readRest_195 {p : Program} {l : Launch} {e : Env} {s : State} {m : MethodId} {args : Array Value} {below : List Frame} {meth : Method} {c : Code} {D : va_G} {cI cJ cC cZ cR : ClassId} {ad : Nat → Nat} {A : Nat → Prop} {Zs : State → Prop} (K : Cx p (rmX 6 137) s m args meth c cM_readRest 4 "WordCheckerModel" gT D cls8 (tys5 cI cJ cC cZ cR) 21 ad A Zs) (hr : meth.sig.returnType = (some .boolean)) (hZ : ZsOK A Zs) {Φ : Int32 → HI → HL → Prop} {hi : HI} {hl : HL} {H : Heap} {locs : List Loc} (h : wbM_readRest_195 hi hl Φ) {ls : Array Slot} (hL : lv_has ls 4 []) (hP : va_P D cls8 (wl 21 ad (GM cI cZ ad) hi hl) H) (hS : va_S A s.heap H locs) : W p l e (rmX 6 137) s m args below meth c H locs 0 0 (MQ below (va_Qi (fun r (u : HI × HL) => Φ r u.1 u.2) (fun u t => va_P D cls8 (wl 21 ad (GM cI cZ ad) u.1 u.2) t.heap) A) args s 0 0 A) (F0 m 195 ls []) := by
  unfold wbM_readRest_195 at h
  refine lv_iconst (v := 0) K.1 K.2.1 dM_readRest_195 (by decide) ?_
  obtain ⟨g1, h⟩ := h
  exact x_zret K hr hP hS g1 h dM_readRest_196
set_option maxRecDepth 100000 in
set_option maxHeartbeats 4000000 in
theorem bM_readRest_162 {p : Program} {l : Launch} {e : Env} {s : State} {m : MethodId} {args : Array Value} {below : List Frame} {meth : Method} {c : Code} {D : va_G} {cI cJ cC cZ cR : ClassId} {ad : Nat → Nat} {A : Nat → Prop} {Zs : State → Prop} (K : Cx p (rmX 6 137) s m args meth c cM_readRest 4 "WordCheckerModel" gT D cls8 (tys5 cI cJ cC cZ cR) 21 ad A Zs) (hr : meth.sig.returnType = (some .boolean)) (hZ : ZsOK A Zs) {Φ : Int32 → HI → HL → Prop} {hi : HI} {hl : HL} {H : Heap} {locs : List Loc} (h : wbM_readRest_162 hi hl Φ) {ls : Array Slot} (hL : lv_has ls 4 [(0, .ref (ad 0))]) (hP : va_P D cls8 (wl 21 ad (GM cI cZ ad) hi hl) H) (hS : va_S A s.heap H locs) : W p l e (rmX 6 137) s m args below meth c H locs 0 0 (MQ below (va_Qi (fun r (u : HI × HL) => Φ r u.1 u.2) (fun u t => va_P D cls8 (wl 21 ad (GM cI cZ ad) u.1 u.2) t.heap) A) args s 0 0 A) (F0 m 162 ls []) := by
  unfold wbM_readRest_162 at h
  refine lv_aload_n K.1 K.2.1 dM_readRest_162 rfl (lv_at hL 0 rfl) ?_
  refine lv_iconst (v := 0) K.1 K.2.1 dM_readRest_163 (by decide) ?_
  refine x_cVI (As := [.int (0 : Int32)]) (rest := []) K gT_good hZ hP hS calM_bitsA mlM_217 0 (by decide) rfl rfl (mM_bitsA hZ K.2.2.2.2.2.2.2.1 h) ⟨Nat.le_of_ble_eq_true rfl, Nat.le_of_ble_eq_true rfl⟩ rfl hL.1 rfl (Nat.le_of_ble_eq_true rfl) dM_readRest_164 (fun r1 hi2 hl3 H locs h hP hS => ?_)
  refine lv_if_eq (tgt := 195) K.1 K.2.1 dM_readRest_167 rfl (fun hc => ?_) (fun hc => ?_)
  · have h := h.1 hc
    exact bM_readRest_195 K hr hZ h (lv_sub hL [] rfl) hP hS
  · have h := h.2 hc
    refine lv_aload_n K.1 K.2.1 dM_readRest_170 rfl (lv_at hL 0 rfl) ?_
    refine lv_aload_n K.1 K.2.1 dM_readRest_171 rfl (lv_at hL 0 rfl) ?_
    refine x_get (v := .ref (ad 6)) K hP hinM (ci := 7) rfl 0 (by decide) rfl 9 (by decide) flM_25 rfl rfl dM_readRest_172 ?_
    refine lv_aload_n K.1 K.2.1 dM_readRest_175 rfl (lv_at hL 0 rfl) ?_
    refine x_get (v := .ref (ad 7)) K hP hinM (ci := 7) rfl 0 (by decide) rfl 10 (by decide) flM_28 rfl rfl dM_readRest_176 ?_
    refine lv_aload_n K.1 K.2.1 dM_readRest_179 rfl (lv_at hL 0 rfl) ?_
    refine x_get (v := .int (hi2 0 6)) K hP hinM (ci := 7) rfl 0 (by decide) rfl 6 (by decide) flM_155 rfl rfl dM_readRest_180 ?_
    obtain ⟨g4, h⟩ := h
    refine x_iald K hP 7 (by decide) 0 rfl rfl g4 dM_readRest_183 ?_
    obtain ⟨g5, h⟩ := h
    refine x_iald K hP 6 (by decide) 0 rfl rfl g5 dM_readRest_184 ?_
    refine x_cVI (As := [.int (hi2 6 ((hi2 7 ((hi2 0 6).toNatClampNeg)).toNatClampNeg))]) (rest := []) K gT_good hZ hP hS calM_readB mlM_227 0 (by decide) rfl rfl (mM_readB hZ K.2.2.2.2.2.2.2.1 h) ⟨Nat.le_of_ble_eq_true rfl, Nat.le_of_ble_eq_true rfl⟩ rfl hL.1 rfl (Nat.le_of_ble_eq_true rfl) dM_readRest_185 (fun r6 hi7 hl8 H locs h hP hS => ?_)
    refine lv_if_eq (tgt := 195) K.1 K.2.1 dM_readRest_188 rfl (fun hc => ?_) (fun hc => ?_)
    · have h := h.1 hc
      exact bM_readRest_195 K hr hZ h (lv_sub hL [] rfl) hP hS
    · have h := h.2 hc
      refine lv_iconst (v := 1) K.1 K.2.1 dM_readRest_191 (by decide) ?_
      refine lv_goto (tgt := 196) K.1 K.2.1 dM_readRest_192 rfl ?_
      obtain ⟨g9, h⟩ := h
      exact x_zret K hr hP hS g9 h dM_readRest_196
set_option maxRecDepth 100000 in
set_option maxHeartbeats 4000000 in
theorem bM_readRest_148 {p : Program} {l : Launch} {e : Env} {s : State} {m : MethodId} {args : Array Value} {below : List Frame} {meth : Method} {c : Code} {D : va_G} {cI cJ cC cZ cR : ClassId} {ad : Nat → Nat} {A : Nat → Prop} {Zs : State → Prop} (K : Cx p (rmX 6 137) s m args meth c cM_readRest 4 "WordCheckerModel" gT D cls8 (tys5 cI cJ cC cZ cR) 21 ad A Zs) (hr : meth.sig.returnType = (some .boolean)) (hZ : ZsOK A Zs) {Φ : Int32 → HI → HL → Prop} {hi : HI} {hl : HL} {H : Heap} {locs : List Loc} (h : wbM_readRest_148 hi hl Φ) {ls : Array Slot} (hL : lv_has ls 4 []) (hP : va_P D cls8 (wl 21 ad (GM cI cZ ad) hi hl) H) (hS : va_S A s.heap H locs) : W p l e (rmX 6 137) s m args below meth c H locs 0 0 (MQ below (va_Qi (fun r (u : HI × HL) => Φ r u.1 u.2) (fun u t => va_P D cls8 (wl 21 ad (GM cI cZ ad) u.1 u.2) t.heap) A) args s 0 0 A) (F0 m 148 ls []) := by
  unfold wbM_readRest_148 at h
  refine lv_iconst (v := 0) K.1 K.2.1 dM_readRest_148 (by decide) ?_
  obtain ⟨g1, h⟩ := h
  exact x_zret K hr hP hS g1 h dM_readRest_149
set_option maxRecDepth 100000 in
set_option maxHeartbeats 4000000 in
theorem bM_readRest_106 {p : Program} {l : Launch} {e : Env} {s : State} {m : MethodId} {args : Array Value} {below : List Frame} {meth : Method} {c : Code} {D : va_G} {cI cJ cC cZ cR : ClassId} {ad : Nat → Nat} {A : Nat → Prop} {Zs : State → Prop} (K : Cx p (rmX 6 137) s m args meth c cM_readRest 4 "WordCheckerModel" gT D cls8 (tys5 cI cJ cC cZ cR) 21 ad A Zs) (hr : meth.sig.returnType = (some .boolean)) (hZ : ZsOK A Zs) {Φ : Int32 → HI → HL → Prop} {hi : HI} {hl : HL} {H : Heap} {locs : List Loc} (h : wbM_readRest_106 hi hl Φ) {ls : Array Slot} (hL : lv_has ls 4 []) (hP : va_P D cls8 (wl 21 ad (GM cI cZ ad) hi hl) H) (hS : va_S A s.heap H locs) : W p l e (rmX 6 137) s m args below meth c H locs 0 0 (MQ below (va_Qi (fun r (u : HI × HL) => Φ r u.1 u.2) (fun u t => va_P D cls8 (wl 21 ad (GM cI cZ ad) u.1 u.2) t.heap) A) args s 0 0 A) (F0 m 106 ls []) := by
  unfold wbM_readRest_106 at h
  refine lv_iconst (v := 0) K.1 K.2.1 dM_readRest_106 (by decide) ?_
  obtain ⟨g1, h⟩ := h
  exact x_zret K hr hP hS g1 h dM_readRest_107
set_option maxRecDepth 100000 in
set_option maxHeartbeats 4000000 in
theorem bM_readRest_45 {p : Program} {l : Launch} {e : Env} {s : State} {m : MethodId} {args : Array Value} {below : List Frame} {meth : Method} {c : Code} {D : va_G} {cI cJ cC cZ cR : ClassId} {ad : Nat → Nat} {A : Nat → Prop} {Zs : State → Prop} (K : Cx p (rmX 6 137) s m args meth c cM_readRest 4 "WordCheckerModel" gT D cls8 (tys5 cI cJ cC cZ cR) 21 ad A Zs) (hr : meth.sig.returnType = (some .boolean)) (hZ : ZsOK A Zs) {Φ : Int32 → HI → HL → Prop} {hi : HI} {hl : HL} {H : Heap} {locs : List Loc} (h : wbM_readRest_45 hi hl Φ) {ls : Array Slot} (hL : lv_has ls 4 []) (hP : va_P D cls8 (wl 21 ad (GM cI cZ ad) hi hl) H) (hS : va_S A s.heap H locs) : W p l e (rmX 6 137) s m args below meth c H locs 0 0 (MQ below (va_Qi (fun r (u : HI × HL) => Φ r u.1 u.2) (fun u t => va_P D cls8 (wl 21 ad (GM cI cZ ad) u.1 u.2) t.heap) A) args s 0 0 A) (F0 m 45 ls [.ref (ad 0)]) := by
  unfold wbM_readRest_45 at h
  refine lv_iconst (v := 0) K.1 K.2.1 dM_readRest_45 (by decide) ?_
  refine x_cVI (As := [.int (0 : Int32)]) (rest := []) K gT_good hZ hP hS calM_on mlM_184 0 (by decide) rfl rfl (mM_on hZ K.2.2.2.2.2.2.2.1 h) ⟨Nat.le_of_ble_eq_true rfl, Nat.le_of_ble_eq_true rfl⟩ rfl hL.1 rfl (Nat.le_of_ble_eq_true rfl) dM_readRest_46 (fun r1 hi2 hl3 H locs h hP hS => ?_)
  obtain ⟨g4, h⟩ := h
  exact x_zret K hr hP hS g4 h dM_readRest_49
set_option maxRecDepth 100000 in
set_option maxHeartbeats 4000000 in
theorem bM_readRest_0 {p : Program} {l : Launch} {e : Env} {s : State} {m : MethodId} {args : Array Value} {below : List Frame} {meth : Method} {c : Code} {D : va_G} {cI cJ cC cZ cR : ClassId} {ad : Nat → Nat} {A : Nat → Prop} {Zs : State → Prop} (K : Cx p (rmX 6 137) s m args meth c cM_readRest 4 "WordCheckerModel" gT D cls8 (tys5 cI cJ cC cZ cR) 21 ad A Zs) (hr : meth.sig.returnType = (some .boolean)) (hZ : ZsOK A Zs) {Φ : Int32 → HI → HL → Prop} {v1 : Int32} {v2 : Int32} {hi : HI} {hl : HL} {H : Heap} {locs : List Loc} (h : wbM_readRest_0 v1 v2 hi hl Φ) {ls : Array Slot} (hL : lv_has ls 4 [(0, .ref (ad 0)), (1, .int v1), (2, .int v2)]) (hP : va_P D cls8 (wl 21 ad (GM cI cZ ad) hi hl) H) (hS : va_S A s.heap H locs) : W p l e (rmX 6 137) s m args below meth c H locs 0 0 (MQ below (va_Qi (fun r (u : HI × HL) => Φ r u.1 u.2) (fun u t => va_P D cls8 (wl 21 ad (GM cI cZ ad) u.1 u.2) t.heap) A) args s 0 0 A) (F0 m 0 ls []) := by
  unfold wbM_readRest_0 at h
  refine lv_iload_n K.1 K.2.1 dM_readRest_0 rfl (lv_at hL 1 rfl) ?_
  refine lv_iconst (v := 3) K.1 K.2.1 dM_readRest_1 (by decide) ?_
  refine lv_icmp_ne (tgt := 50) K.1 K.2.1 dM_readRest_2 rfl (fun hc => ?_) (fun hc => ?_)
  · have h := h.2 hc
    refine lv_iload_n K.1 K.2.1 dM_readRest_50 rfl (lv_at hL 1 rfl) ?_
    refine lv_iconst (v := 4) K.1 K.2.1 dM_readRest_51 (by decide) ?_
    refine lv_icmp_eq (tgt := 60) K.1 K.2.1 dM_readRest_52 rfl (fun hc => ?_) (fun hc => ?_)
    · have h := h.1 hc
      exact bM_readRest_60 K hr hZ h (lv_sub hL [0, 2] rfl) hP hS
    · have h := h.2 hc
      refine lv_iload_n K.1 K.2.1 dM_readRest_55 rfl (lv_at hL 1 rfl) ?_
      refine lv_iconst (v := 5) K.1 K.2.1 dM_readRest_56 (by decide) ?_
      refine lv_icmp_ne (tgt := 67) K.1 K.2.1 dM_readRest_57 rfl (fun hc => ?_) (fun hc => ?_)
      · have h := h.2 hc
        refine lv_iload_n K.1 K.2.1 dM_readRest_67 rfl (lv_at hL 1 rfl) ?_
        refine lv_bipush (v := 6) K.1 K.2.1 dM_readRest_68 (by decide) ?_
        refine lv_icmp_ne (tgt := 79) K.1 K.2.1 dM_readRest_70 rfl (fun hc => ?_) (fun hc => ?_)
        · have h := h.2 hc
          refine lv_iload_n K.1 K.2.1 dM_readRest_79 rfl (lv_at hL 1 rfl) ?_
          refine lv_bipush (v := 16) K.1 K.2.1 dM_readRest_80 (by decide) ?_
          refine lv_icmp_gt (tgt := 108) K.1 K.2.1 dM_readRest_82 rfl (fun hc => ?_) (fun hc => ?_)
          · have h := h.1 hc
            refine lv_iload_n K.1 K.2.1 dM_readRest_108 rfl (lv_at hL 1 rfl) ?_
            refine lv_bipush (v := 17) K.1 K.2.1 dM_readRest_109 (by decide) ?_
            refine lv_icmp_ne (tgt := 150) K.1 K.2.1 dM_readRest_111 rfl (fun hc => ?_) (fun hc => ?_)
            · have h := h.2 hc
              refine lv_iload_n K.1 K.2.1 dM_readRest_150 rfl (lv_at hL 1 rfl) ?_
              refine lv_bipush (v := 18) K.1 K.2.1 dM_readRest_151 (by decide) ?_
              refine lv_icmp_eq (tgt := 162) K.1 K.2.1 dM_readRest_153 rfl (fun hc => ?_) (fun hc => ?_)
              · have h := h.1 hc
                exact bM_readRest_162 K hr hZ h (lv_sub hL [0] rfl) hP hS
              · have h := h.2 hc
                refine lv_iload_n K.1 K.2.1 dM_readRest_156 rfl (lv_at hL 1 rfl) ?_
                refine lv_bipush (v := 19) K.1 K.2.1 dM_readRest_157 (by decide) ?_
                refine lv_icmp_ne (tgt := 197) K.1 K.2.1 dM_readRest_159 rfl (fun hc => ?_) (fun hc => ?_)
                · have h := h.2 hc
                  refine lv_iload_n K.1 K.2.1 dM_readRest_197 rfl (lv_at hL 1 rfl) ?_
                  refine lv_bipush (v := 20) K.1 K.2.1 dM_readRest_198 (by decide) ?_
                  refine lv_icmp_ne (tgt := 208) K.1 K.2.1 dM_readRest_200 rfl (fun hc => ?_) (fun hc => ?_)
                  · have h := h.2 hc
                    refine lv_iload_n K.1 K.2.1 dM_readRest_208 rfl (lv_at hL 1 rfl) ?_
                    refine lv_bipush (v := 21) K.1 K.2.1 dM_readRest_209 (by decide) ?_
                    refine lv_icmp_ne (tgt := 219) K.1 K.2.1 dM_readRest_211 rfl (fun hc => ?_) (fun hc => ?_)
                    · have h := h.2 hc
                      refine lv_iload_n K.1 K.2.1 dM_readRest_219 rfl (lv_at hL 1 rfl) ?_
                      refine lv_bipush (v := 22) K.1 K.2.1 dM_readRest_220 (by decide) ?_
                      refine lv_icmp_eq (tgt := 231) K.1 K.2.1 dM_readRest_222 rfl (fun hc => ?_) (fun hc => ?_)
                      · have h := h.1 hc
                        refine lv_aload_n K.1 K.2.1 dM_readRest_231 rfl (lv_at hL 0 rfl) ?_
                        refine x_cVI (As := []) (rest := []) K gT_good hZ hP hS calM_readExtended mlM_237 0 (by decide) rfl rfl (mM_readExtended hZ K.2.2.2.2.2.2.2.1 h) ⟨Nat.le_of_ble_eq_true rfl, Nat.le_of_ble_eq_true rfl⟩ rfl hL.1 rfl (Nat.le_of_ble_eq_true rfl) dM_readRest_232 (fun r1 hi2 hl3 H locs h hP hS => ?_)
                        obtain ⟨g4, h⟩ := h
                        exact x_zret K hr hP hS g4 h dM_readRest_235
                      · have h := h.2 hc
                        refine lv_iload_n K.1 K.2.1 dM_readRest_225 rfl (lv_at hL 1 rfl) ?_
                        refine lv_bipush (v := 23) K.1 K.2.1 dM_readRest_226 (by decide) ?_
                        refine lv_icmp_ne (tgt := 236) K.1 K.2.1 dM_readRest_228 rfl (fun hc => ?_) (fun hc => ?_)
                        · have h := h.2 hc
                          refine lv_iload_n K.1 K.2.1 dM_readRest_236 rfl (lv_at hL 1 rfl) ?_
                          refine lv_bipush (v := 24) K.1 K.2.1 dM_readRest_237 (by decide) ?_
                          refine lv_icmp_ne (tgt := 250) K.1 K.2.1 dM_readRest_239 rfl (fun hc => ?_) (fun hc => ?_)
                          · have h := h.2 hc
                            refine lv_aload_n K.1 K.2.1 dM_readRest_250 rfl (lv_at hL 0 rfl) ?_
                            refine lv_iload_n K.1 K.2.1 dM_readRest_251 rfl (lv_at hL 1 rfl) ?_
                            refine lv_iload_n K.1 K.2.1 dM_readRest_252 rfl (lv_at hL 2 rfl) ?_
                            refine x_cVI (As := [.int v1, .int v2]) (rest := []) K gT_good hZ hP hS calM_readPlace mlM_243 0 (by decide) rfl rfl (mM_readPlace hZ K.2.2.2.2.2.2.2.1 h) ⟨Nat.le_of_ble_eq_true rfl, Nat.le_of_ble_eq_true rfl⟩ rfl hL.1 rfl (Nat.le_of_ble_eq_true rfl) dM_readRest_253 (fun r5 hi6 hl7 H locs h hP hS => ?_)
                            obtain ⟨g8, h⟩ := h
                            exact x_zret K hr hP hS g8 h dM_readRest_256
                          · have h := h.1 hc
                            refine lv_aload_n K.1 K.2.1 dM_readRest_242 rfl (lv_at hL 0 rfl) ?_
                            refine lv_iload_n K.1 K.2.1 dM_readRest_243 rfl (lv_at hL 2 rfl) ?_
                            refine x_cVI (As := [.int v2]) (rest := []) K gT_good hZ hP hS calM_readIte mlM_240 0 (by decide) rfl rfl (mM_readIte hZ K.2.2.2.2.2.2.2.1 h) ⟨Nat.le_of_ble_eq_true rfl, Nat.le_of_ble_eq_true rfl⟩ rfl hL.1 rfl (Nat.le_of_ble_eq_true rfl) dM_readRest_244 (fun r9 hi10 hl11 H locs h hP hS => ?_)
                            refine lv_goto (tgt := 256) K.1 K.2.1 dM_readRest_247 rfl ?_
                            obtain ⟨g12, h⟩ := h
                            exact x_zret K hr hP hS g12 h dM_readRest_256
                        · have h := h.1 hc
                          refine lv_aload_n K.1 K.2.1 dM_readRest_231 rfl (lv_at hL 0 rfl) ?_
                          refine x_cVI (As := []) (rest := []) K gT_good hZ hP hS calM_readExtended mlM_237 0 (by decide) rfl rfl (mM_readExtended hZ K.2.2.2.2.2.2.2.1 h) ⟨Nat.le_of_ble_eq_true rfl, Nat.le_of_ble_eq_true rfl⟩ rfl hL.1 rfl (Nat.le_of_ble_eq_true rfl) dM_readRest_232 (fun r13 hi14 hl15 H locs h hP hS => ?_)
                          obtain ⟨g16, h⟩ := h
                          exact x_zret K hr hP hS g16 h dM_readRest_235
                    · have h := h.1 hc
                      refine lv_aload_n K.1 K.2.1 dM_readRest_214 rfl (lv_at hL 0 rfl) ?_
                      refine x_cVI (As := []) (rest := []) K gT_good hZ hP hS calM_readSlice mlM_234 0 (by decide) rfl rfl (mM_readSlice hZ K.2.2.2.2.2.2.2.1 h) ⟨Nat.le_of_ble_eq_true rfl, Nat.le_of_ble_eq_true rfl⟩ rfl hL.1 rfl (Nat.le_of_ble_eq_true rfl) dM_readRest_215 (fun r17 hi18 hl19 H locs h hP hS => ?_)
                      obtain ⟨g20, h⟩ := h
                      exact x_zret K hr hP hS g20 h dM_readRest_218
                  · have h := h.1 hc
                    refine lv_aload_n K.1 K.2.1 dM_readRest_203 rfl (lv_at hL 0 rfl) ?_
                    refine x_cVI (As := []) (rest := []) K gT_good hZ hP hS calM_readConcat mlM_230 0 (by decide) rfl rfl (mM_readConcat hZ K.2.2.2.2.2.2.2.1 h) ⟨Nat.le_of_ble_eq_true rfl, Nat.le_of_ble_eq_true rfl⟩ rfl hL.1 rfl (Nat.le_of_ble_eq_true rfl) dM_readRest_204 (fun r21 hi22 hl23 H locs h hP hS => ?_)
                    obtain ⟨g24, h⟩ := h
                    exact x_zret K hr hP hS g24 h dM_readRest_207
                · have h := h.1 hc
                  exact bM_readRest_162 K hr hZ h (lv_sub hL [0] rfl) hP hS
            · have h := h.1 hc
              refine lv_aload_n K.1 K.2.1 dM_readRest_114 rfl (lv_at hL 0 rfl) ?_
              refine lv_iconst (v := 1) K.1 K.2.1 dM_readRest_115 (by decide) ?_
              refine lv_iload_n K.1 K.2.1 dM_readRest_116 rfl (lv_at hL 2 rfl) ?_
              refine x_cVI (As := [.int (1 : Int32), .int v2]) (rest := []) K gT_good hZ hP hS calM_readA mlM_223 0 (by decide) rfl rfl (mM_readA hZ K.2.2.2.2.2.2.2.1 h) ⟨Nat.le_of_ble_eq_true rfl, Nat.le_of_ble_eq_true rfl⟩ rfl hL.1 rfl (Nat.le_of_ble_eq_true rfl) dM_readRest_117 (fun r25 hi26 hl27 H locs h hP hS => ?_)
              refine lv_if_eq (tgt := 148) K.1 K.2.1 dM_readRest_120 rfl (fun hc => ?_) (fun hc => ?_)
              · have h := h.1 hc
                exact bM_readRest_148 K hr hZ h (lv_sub hL [] rfl) hP hS
              · have h := h.2 hc
                refine lv_aload_n K.1 K.2.1 dM_readRest_123 rfl (lv_at hL 0 rfl) ?_
                refine lv_aload_n K.1 K.2.1 dM_readRest_124 rfl (lv_at hL 0 rfl) ?_
                refine x_get (v := .ref (ad 6)) K hP hinM (ci := 7) rfl 0 (by decide) rfl 9 (by decide) flM_25 rfl rfl dM_readRest_125 ?_
                refine lv_aload_n K.1 K.2.1 dM_readRest_128 rfl (lv_at hL 0 rfl) ?_
                refine x_get (v := .ref (ad 7)) K hP hinM (ci := 7) rfl 0 (by decide) rfl 10 (by decide) flM_28 rfl rfl dM_readRest_129 ?_
                refine lv_aload_n K.1 K.2.1 dM_readRest_132 rfl (lv_at hL 0 rfl) ?_
                refine x_get (v := .int (hi26 0 6)) K hP hinM (ci := 7) rfl 0 (by decide) rfl 6 (by decide) flM_155 rfl rfl dM_readRest_133 ?_
                obtain ⟨g28, h⟩ := h
                refine x_iald K hP 7 (by decide) 0 rfl rfl g28 dM_readRest_136 ?_
                obtain ⟨g29, h⟩ := h
                refine x_iald K hP 6 (by decide) 0 rfl rfl g29 dM_readRest_137 ?_
                refine x_cVI (As := [.int (hi26 6 ((hi26 7 ((hi26 0 6).toNatClampNeg)).toNatClampNeg))]) (rest := []) K gT_good hZ hP hS calM_readB mlM_227 0 (by decide) rfl rfl (mM_readB hZ K.2.2.2.2.2.2.2.1 h) ⟨Nat.le_of_ble_eq_true rfl, Nat.le_of_ble_eq_true rfl⟩ rfl hL.1 rfl (Nat.le_of_ble_eq_true rfl) dM_readRest_138 (fun r30 hi31 hl32 H locs h hP hS => ?_)
                refine lv_if_eq (tgt := 148) K.1 K.2.1 dM_readRest_141 rfl (fun hc => ?_) (fun hc => ?_)
                · have h := h.1 hc
                  exact bM_readRest_148 K hr hZ h (lv_sub hL [] rfl) hP hS
                · have h := h.2 hc
                  refine lv_iconst (v := 1) K.1 K.2.1 dM_readRest_144 (by decide) ?_
                  refine lv_goto (tgt := 149) K.1 K.2.1 dM_readRest_145 rfl ?_
                  obtain ⟨g33, h⟩ := h
                  exact x_zret K hr hP hS g33 h dM_readRest_149
          · have h := h.2 hc
            refine lv_aload_n K.1 K.2.1 dM_readRest_85 rfl (lv_at hL 0 rfl) ?_
            refine lv_iconst (v := 0) K.1 K.2.1 dM_readRest_86 (by decide) ?_
            refine lv_iload_n K.1 K.2.1 dM_readRest_87 rfl (lv_at hL 2 rfl) ?_
            refine x_cVI (As := [.int (0 : Int32), .int v2]) (rest := []) K gT_good hZ hP hS calM_readA mlM_223 0 (by decide) rfl rfl (mM_readA hZ K.2.2.2.2.2.2.2.1 h) ⟨Nat.le_of_ble_eq_true rfl, Nat.le_of_ble_eq_true rfl⟩ rfl hL.1 rfl (Nat.le_of_ble_eq_true rfl) dM_readRest_88 (fun r34 hi35 hl36 H locs h hP hS => ?_)
            refine lv_if_eq (tgt := 106) K.1 K.2.1 dM_readRest_91 rfl (fun hc => ?_) (fun hc => ?_)
            · have h := h.1 hc
              exact bM_readRest_106 K hr hZ h (lv_sub hL [] rfl) hP hS
            · have h := h.2 hc
              refine lv_aload_n K.1 K.2.1 dM_readRest_94 rfl (lv_at hL 0 rfl) ?_
              refine lv_iload_n K.1 K.2.1 dM_readRest_95 rfl (lv_at hL 2 rfl) ?_
              refine x_cVI (As := [.int v2]) (rest := []) K gT_good hZ hP hS calM_readB mlM_227 0 (by decide) rfl rfl (mM_readB hZ K.2.2.2.2.2.2.2.1 h) ⟨Nat.le_of_ble_eq_true rfl, Nat.le_of_ble_eq_true rfl⟩ rfl hL.1 rfl (Nat.le_of_ble_eq_true rfl) dM_readRest_96 (fun r37 hi38 hl39 H locs h hP hS => ?_)
              refine lv_if_eq (tgt := 106) K.1 K.2.1 dM_readRest_99 rfl (fun hc => ?_) (fun hc => ?_)
              · have h := h.1 hc
                exact bM_readRest_106 K hr hZ h (lv_sub hL [] rfl) hP hS
              · have h := h.2 hc
                refine lv_iconst (v := 1) K.1 K.2.1 dM_readRest_102 (by decide) ?_
                refine lv_goto (tgt := 107) K.1 K.2.1 dM_readRest_103 rfl ?_
                obtain ⟨g40, h⟩ := h
                exact x_zret K hr hP hS g40 h dM_readRest_107
        · have h := h.1 hc
          refine lv_aload_n K.1 K.2.1 dM_readRest_73 rfl (lv_at hL 0 rfl) ?_
          refine lv_iconst (v := 0) K.1 K.2.1 dM_readRest_74 (by decide) ?_
          refine x_cVI (As := [.int (0 : Int32)]) (rest := []) K gT_good hZ hP hS calM_bitsA mlM_217 0 (by decide) rfl rfl (mM_bitsA hZ K.2.2.2.2.2.2.2.1 h) ⟨Nat.le_of_ble_eq_true rfl, Nat.le_of_ble_eq_true rfl⟩ rfl hL.1 rfl (Nat.le_of_ble_eq_true rfl) dM_readRest_75 (fun r41 hi42 hl43 H locs h hP hS => ?_)
          obtain ⟨g44, h⟩ := h
          exact x_zret K hr hP hS g44 h dM_readRest_78
      · have h := h.1 hc
        exact bM_readRest_60 K hr hZ h (lv_sub hL [0, 2] rfl) hP hS
  · have h := h.1 hc
    refine lv_aload_n K.1 K.2.1 dM_readRest_5 rfl (lv_at hL 0 rfl) ?_
    refine lv_aload_n K.1 K.2.1 dM_readRest_6 rfl (lv_at hL 0 rfl) ?_
    refine x_get (v := .int (hi 0 5)) K hP hinM (ci := 7) rfl 0 (by decide) rfl 5 (by decide) flM_158 rfl rfl dM_readRest_7 ?_
    refine x_cVI (As := [.int (hi 0 5)]) (rest := []) K gT_good hZ hP hS calM_number mlM_161 0 (by decide) rfl rfl (mM_number hZ K.2.2.2.2.2.2.2.1 h) ⟨Nat.le_of_ble_eq_true rfl, Nat.le_of_ble_eq_true rfl⟩ rfl hL.1 rfl (Nat.le_of_ble_eq_true rfl) dM_readRest_10 (fun r45 hi46 hl47 H locs h hP hS => ?_)
    refine lv_istore_n (lv' := [(3, .int r45), (0, .ref (ad 0)), (1, .int v1), (2, .int v2)]) K.1 K.2.1 dM_readRest_13 rfl hL (by decide) rfl (fun ls hL => ?_)
    refine lv_aload_n K.1 K.2.1 dM_readRest_14 rfl (lv_at hL 1 rfl) ?_
    refine x_get (v := .ref (ad 13)) K hP hinM (ci := 7) rfl 0 (by decide) rfl 16 (by decide) flM_47 rfl rfl dM_readRest_15 ?_
    refine lv_aload_n K.1 K.2.1 dM_readRest_18 rfl (lv_at hL 1 rfl) ?_
    refine x_get (v := .int (hi46 0 6)) K hP hinM (ci := 7) rfl 0 (by decide) rfl 6 (by decide) flM_155 rfl rfl dM_readRest_19 ?_
    refine lv_iload_n K.1 K.2.1 dM_readRest_22 rfl (lv_at hL 0 rfl) ?_
    obtain ⟨g48, h⟩ := h
    refine x_iast K hP hS 13 (by decide) 0 (fun _ => rfl) rfl g48 dM_readRest_23 (fun H locs hP hS => ?_)
    refine lv_aload_n K.1 K.2.1 dM_readRest_24 rfl (lv_at hL 1 rfl) ?_
    refine lv_iload_n K.1 K.2.1 dM_readRest_25 rfl (lv_at hL 0 rfl) ?_
    refine lv_if_lt (tgt := 45) K.1 K.2.1 dM_readRest_26 rfl (fun hc => ?_) (fun hc => ?_)
    · have h := h.1 hc
      exact bM_readRest_45 K hr hZ h (lv_sub hL [] rfl) hP hS
    · have h := h.2 hc
      refine lv_iload_n K.1 K.2.1 dM_readRest_29 rfl (lv_at hL 0 rfl) ?_
      refine lv_iconst (v := 1) K.1 K.2.1 dM_readRest_30 (by decide) ?_
      refine lv_aload_n K.1 K.2.1 dM_readRest_31 rfl (lv_at hL 1 rfl) ?_
      refine x_get (v := .ref (ad 16)) K hP hinM (ci := 7) rfl 0 (by decide) rfl 19 (by decide) flM_56 rfl rfl dM_readRest_32 ?_
      refine lv_iload_n K.1 K.2.1 dM_readRest_35 rfl (lv_at hL 3 rfl) ?_
      obtain ⟨g49, h⟩ := h
      refine x_iald K hP 16 (by decide) 0 rfl rfl g49 dM_readRest_36 ?_
      refine lv_ishl K.1 K.2.1 dM_readRest_37 ?_
      refine lv_icmp_ge (tgt := 45) K.1 K.2.1 dM_readRest_38 rfl (fun hc => ?_) (fun hc => ?_)
      · have h := h.1 hc
        exact bM_readRest_45 K hr hZ h (lv_sub hL [] rfl) hP hS
      · have h := h.2 hc
        refine lv_iconst (v := 1) K.1 K.2.1 dM_readRest_41 (by decide) ?_
        refine lv_goto (tgt := 46) K.1 K.2.1 dM_readRest_42 rfl ?_
        refine x_cVI (As := [.int (1 : Int32)]) (rest := []) K gT_good hZ hP hS calM_on mlM_184 0 (by decide) rfl rfl (mM_on hZ K.2.2.2.2.2.2.2.1 h) ⟨Nat.le_of_ble_eq_true rfl, Nat.le_of_ble_eq_true rfl⟩ rfl hL.1 rfl (Nat.le_of_ble_eq_true rfl) dM_readRest_46 (fun r50 hi51 hl52 H locs h hP hS => ?_)
        obtain ⟨g53, h⟩ := h
        exact x_zret K hr hP hS g53 h dM_readRest_49
set_option maxRecDepth 100000 in
set_option maxHeartbeats 4000000 in
theorem mM_readRest {l : Launch} {D : va_G} {cI cJ cC cZ cR : ClassId} {ad : Nat → Nat} {A : Nat → Prop} {Zs : State → Prop} (hZ : ZsOK A Zs) (hD : wlD 21 ad A) {v1 : Int32} {v2 : Int32} {hi : HI} {hl : HL} {Φ : Int32 → HI → HL → Prop} (h : wpM_readRest v1 v2 hi hl Φ) : SpI l yM_readRest cM_readRest 4 (some .boolean) gT 6 137 [.ref (ad 0), .int v1, .int v2] D cls8 (tys5 cI cJ cC cZ cR) 21 ad (GM cI cZ ad) A Zs hi hl Φ := by
  refine Met.ofW (cc := cM_readRest) (maxL := 4) (ret := (some .boolean)) (by decide) rfl ?_
  intro p e s m args below meth c s₁ B hml hv
  obtain ⟨rfl, hP, hK, hZs⟩ := hv
  have K : Cx p (rmX 6 137) s m _ meth c cM_readRest 4 "WordCheckerModel" gT D cls8 (tys5 cI cJ cC cZ cR) 21 ad A Zs := ⟨B.exec, B.bytes, hml, findClass_of_methodNamed B.named, fun w hw => atoms_spec B.pre w (List.mem_cons_of_mem _ hw), B.notSynchronized, hK, hD, hZs⟩
  have hL := lv_entry ([.ref (ad 0), .int v1, .int v2]) (n := 4) (Nat.le_of_ble_eq_true rfl)
  rw [lg_entry_eq]
  generalize (lg_sl ([.ref (ad 0), .int v1, .int v2]) ++ List.replicate (4 - (lg_sl ([.ref (ad 0), .int v1, .int v2])).length) Slot.unset).toArray = ls at hL ⊢
  have hL : lv_has ls 4 [(0, .ref (ad 0)), (1, .int v1), (2, .int v2)] := hL
  unfold wpM_readRest at h
  exact bM_readRest_0 K B.returns hZ h (lv_sub hL [0, 1, 2] rfl) hP va_S.rf
set_option maxRecDepth 100000 in
set_option maxHeartbeats 4000000 in
theorem bM_asked_24 {p : Program} {l : Launch} {e : Env} {s : State} {m : MethodId} {args : Array Value} {below : List Frame} {meth : Method} {c : Code} {D : va_G} {cI cJ cC cZ cR : ClassId} {ad : Nat → Nat} {A : Nat → Prop} {Zs : State → Prop} (K : Cx p (rmX 0 0) s m args meth c cM_asked 1 "WordCheckerModel" gT D cls8 (tys5 cI cJ cC cZ cR) 21 ad A Zs) (hr : meth.sig.returnType = (some .int)) (hZ : ZsOK A Zs) {Φ : Int32 → HI → HL → Prop} {hi : HI} {hl : HL} {H : Heap} {locs : List Loc} (h : wbM_asked_24 hi hl Φ) {ls : Array Slot} (hL : lv_has ls 1 []) (hP : va_P D cls8 (wl 21 ad (GM cI cZ ad) hi hl) H) (hS : va_S A s.heap H locs) : W p l e (rmX 0 0) s m args below meth c H locs 0 0 (MQ below (va_Qi (fun r (u : HI × HL) => Φ r u.1 u.2) (fun u t => va_P D cls8 (wl 21 ad (GM cI cZ ad) u.1 u.2) t.heap) A) args s 0 0 A) (F0 m 24 ls []) := by
  unfold wbM_asked_24 at h
  refine lv_iconst (v := 1) K.1 K.2.1 dM_asked_24 (by decide) ?_
  refine lv_goto (tgt := 49) K.1 K.2.1 dM_asked_25 rfl ?_
  exact x_iret K hr hP hS h dM_asked_49
set_option maxRecDepth 100000 in
set_option maxHeartbeats 4000000 in
theorem bM_asked_0 {p : Program} {l : Launch} {e : Env} {s : State} {m : MethodId} {args : Array Value} {below : List Frame} {meth : Method} {c : Code} {D : va_G} {cI cJ cC cZ cR : ClassId} {ad : Nat → Nat} {A : Nat → Prop} {Zs : State → Prop} (K : Cx p (rmX 0 0) s m args meth c cM_asked 1 "WordCheckerModel" gT D cls8 (tys5 cI cJ cC cZ cR) 21 ad A Zs) (hr : meth.sig.returnType = (some .int)) (hZ : ZsOK A Zs) {Φ : Int32 → HI → HL → Prop} {v0 : Int32} {hi : HI} {hl : HL} {H : Heap} {locs : List Loc} (h : wbM_asked_0 v0 hi hl Φ) {ls : Array Slot} (hL : lv_has ls 1 [(0, .int v0)]) (hP : va_P D cls8 (wl 21 ad (GM cI cZ ad) hi hl) H) (hS : va_S A s.heap H locs) : W p l e (rmX 0 0) s m args below meth c H locs 0 0 (MQ below (va_Qi (fun r (u : HI × HL) => Φ r u.1 u.2) (fun u t => va_P D cls8 (wl 21 ad (GM cI cZ ad) u.1 u.2) t.heap) A) args s 0 0 A) (F0 m 0 ls []) := by
  unfold wbM_asked_0 at h
  refine lv_iload_n K.1 K.2.1 dM_asked_0 rfl (lv_at hL 0 rfl) ?_
  refine lv_bipush (v := 6) K.1 K.2.1 dM_asked_1 (by decide) ?_
  refine lv_icmp_eq (tgt := 24) K.1 K.2.1 dM_asked_3 rfl (fun hc => ?_) (fun hc => ?_)
  · have h := h.1 hc
    exact bM_asked_24 K hr hZ h (lv_sub hL [] rfl) hP hS
  · have h := h.2 hc
    refine lv_iload_n K.1 K.2.1 dM_asked_6 rfl (lv_at hL 0 rfl) ?_
    refine lv_bipush (v := 17) K.1 K.2.1 dM_asked_7 (by decide) ?_
    refine lv_icmp_eq (tgt := 24) K.1 K.2.1 dM_asked_9 rfl (fun hc => ?_) (fun hc => ?_)
    · have h := h.1 hc
      exact bM_asked_24 K hr hZ h (lv_sub hL [] rfl) hP hS
    · have h := h.2 hc
      refine lv_iload_n K.1 K.2.1 dM_asked_12 rfl (lv_at hL 0 rfl) ?_
      refine lv_bipush (v := 18) K.1 K.2.1 dM_asked_13 (by decide) ?_
      refine lv_icmp_eq (tgt := 24) K.1 K.2.1 dM_asked_15 rfl (fun hc => ?_) (fun hc => ?_)
      · have h := h.1 hc
        exact bM_asked_24 K hr hZ h (lv_sub hL [] rfl) hP hS
      · have h := h.2 hc
        refine lv_iload_n K.1 K.2.1 dM_asked_18 rfl (lv_at hL 0 rfl) ?_
        refine lv_bipush (v := 19) K.1 K.2.1 dM_asked_19 (by decide) ?_
        refine lv_icmp_ne (tgt := 28) K.1 K.2.1 dM_asked_21 rfl (fun hc => ?_) (fun hc => ?_)
        · have h := h.2 hc
          refine lv_iload_n K.1 K.2.1 dM_asked_28 rfl (lv_at hL 0 rfl) ?_
          refine lv_bipush (v := 26) K.1 K.2.1 dM_asked_29 (by decide) ?_
          refine lv_icmp_ne (tgt := 38) K.1 K.2.1 dM_asked_31 rfl (fun hc => ?_) (fun hc => ?_)
          · have h := h.2 hc
            refine lv_iload_n K.1 K.2.1 dM_asked_38 rfl (lv_at hL 0 rfl) ?_
            refine lv_bipush (v := 24) K.1 K.2.1 dM_asked_39 (by decide) ?_
            refine lv_icmp_ne (tgt := 48) K.1 K.2.1 dM_asked_41 rfl (fun hc => ?_) (fun hc => ?_)
            · have h := h.2 hc
              refine lv_iconst (v := 2) K.1 K.2.1 dM_asked_48 (by decide) ?_
              exact x_iret K hr hP hS h dM_asked_49
            · have h := h.1 hc
              refine lv_iconst (v := 0) K.1 K.2.1 dM_asked_44 (by decide) ?_
              refine lv_goto (tgt := 49) K.1 K.2.1 dM_asked_45 rfl ?_
              exact x_iret K hr hP hS h dM_asked_49
          · have h := h.1 hc
            refine lv_iconst (v := 3) K.1 K.2.1 dM_asked_34 (by decide) ?_
            refine lv_goto (tgt := 49) K.1 K.2.1 dM_asked_35 rfl ?_
            exact x_iret K hr hP hS h dM_asked_49
        · have h := h.1 hc
          exact bM_asked_24 K hr hZ h (lv_sub hL [] rfl) hP hS
set_option maxRecDepth 100000 in
set_option maxHeartbeats 4000000 in
theorem mM_asked {l : Launch} {D : va_G} {cI cJ cC cZ cR : ClassId} {ad : Nat → Nat} {A : Nat → Prop} {Zs : State → Prop} (hZ : ZsOK A Zs) (hD : wlD 21 ad A) {v0 : Int32} {hi : HI} {hl : HL} {Φ : Int32 → HI → HL → Prop} (h : wpM_asked v0 hi hl Φ) : SpI l yM_asked cM_asked 1 (some .int) gT 0 0 [.int v0] D cls8 (tys5 cI cJ cC cZ cR) 21 ad (GM cI cZ ad) A Zs hi hl Φ := by
  refine Met.ofW (cc := cM_asked) (maxL := 1) (ret := (some .int)) (by decide) rfl ?_
  intro p e s m args below meth c s₁ B hml hv
  obtain ⟨rfl, hP, hK, hZs⟩ := hv
  have K : Cx p (rmX 0 0) s m _ meth c cM_asked 1 "WordCheckerModel" gT D cls8 (tys5 cI cJ cC cZ cR) 21 ad A Zs := ⟨B.exec, B.bytes, hml, findClass_of_methodNamed B.named, fun w hw => atoms_spec B.pre w (List.mem_cons_of_mem _ hw), B.notSynchronized, hK, hD, hZs⟩
  have hL := lv_entry ([.int v0]) (n := 1) (Nat.le_of_ble_eq_true rfl)
  rw [lg_entry_eq]
  generalize (lg_sl ([.int v0]) ++ List.replicate (1 - (lg_sl ([.int v0])).length) Slot.unset).toArray = ls at hL ⊢
  have hL : lv_has ls 1 [(0, .int v0)] := hL
  unfold wpM_asked at h
  exact bM_asked_0 K B.returns hZ h (lv_sub hL [0] rfl) hP va_S.rf
