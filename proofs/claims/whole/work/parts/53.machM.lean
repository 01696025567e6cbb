set_option maxRecDepth 100000 in
set_option maxHeartbeats 4000000 in
theorem bM_readLine_239 {p : Program} {l : Launch} {e : Env} {s : State} {m : MethodId} {args : Array Value} {below : List Frame} {meth : Method} {c : Code} {D : va_G} {cI cJ cC cZ cR : ClassId} {ad : Nat → Nat} {A : Nat → Prop} {Zs : State → Prop} (K : Cx p (rmX 7 160) s m args meth c cM_readLine 7 "WordCheckerModel" gT D cls8 (tys5 cI cJ cC cZ cR) 21 ad A Zs) (hr : meth.sig.returnType = (some .boolean)) (hZ : ZsOK A Zs) {Φ : Int32 → HI → HL → Prop} {v2 : Int32} {hi : HI} {hl : HL} {H : Heap} {locs : List Loc} (h : wbM_readLine_239 v2 hi hl Φ) {ls : Array Slot} (hL : lv_has ls 7 [(0, .ref (ad 0)), (2, .int v2)]) (hP : va_P D cls8 (wl 21 ad (GM cI cZ ad) hi hl) H) (hS : va_S A s.heap H locs) : W p l e (rmX 7 160) s m args below meth c H locs 0 0 (MQ below (va_Qi (fun r (u : HI × HL) => Φ r u.1 u.2) (fun u t => va_P D cls8 (wl 21 ad (GM cI cZ ad) u.1 u.2) t.heap) A) args s 0 0 A) (F0 m 239 ls []) := by
  unfold wbM_readLine_239 at h
  refine lv_aload_n K.1 K.2.1 dM_readLine_239 rfl (lv_at hL 0 rfl) ?_
  refine lv_iload_n K.1 K.2.1 dM_readLine_240 rfl (lv_at hL 1 rfl) ?_
  refine x_cVI (As := [.int v2]) (rest := []) K gT_good hZ hP hS calM_readState mlM_253 0 (by decide) rfl rfl (mM_readState hZ K.2.2.2.2.2.2.2.1 h) ⟨Nat.le_of_ble_eq_true rfl, Nat.le_of_ble_eq_true rfl⟩ rfl hL.1 rfl (Nat.le_of_ble_eq_true rfl) dM_readLine_241 (fun r1 hi2 hl3 H locs h hP hS => ?_)
  obtain ⟨g4, h⟩ := h
  exact x_zret K hr hP hS g4 h dM_readLine_244
set_option maxRecDepth 100000 in
set_option maxHeartbeats 4000000 in
theorem bM_readLine_257 {p : Program} {l : Launch} {e : Env} {s : State} {m : MethodId} {args : Array Value} {below : List Frame} {meth : Method} {c : Code} {D : va_G} {cI cJ cC cZ cR : ClassId} {ad : Nat → Nat} {A : Nat → Prop} {Zs : State → Prop} (K : Cx p (rmX 7 160) s m args meth c cM_readLine 7 "WordCheckerModel" gT D cls8 (tys5 cI cJ cC cZ cR) 21 ad A Zs) (hr : meth.sig.returnType = (some .boolean)) (hZ : ZsOK A Zs) {Φ : Int32 → HI → HL → Prop} {v2 : Int32} {hi : HI} {hl : HL} {H : Heap} {locs : List Loc} (h : wbM_readLine_257 v2 hi hl Φ) {ls : Array Slot} (hL : lv_has ls 7 [(0, .ref (ad 0)), (2, .int v2)]) (hP : va_P D cls8 (wl 21 ad (GM cI cZ ad) hi hl) H) (hS : va_S A s.heap H locs) : W p l e (rmX 7 160) s m args below meth c H locs 0 0 (MQ below (va_Qi (fun r (u : HI × HL) => Φ r u.1 u.2) (fun u t => va_P D cls8 (wl 21 ad (GM cI cZ ad) u.1 u.2) t.heap) A) args s 0 0 A) (F0 m 257 ls []) := by
  unfold wbM_readLine_257 at h
  refine lv_aload_n K.1 K.2.1 dM_readLine_257 rfl (lv_at hL 0 rfl) ?_
  refine lv_iload_n K.1 K.2.1 dM_readLine_258 rfl (lv_at hL 1 rfl) ?_
  refine x_cVI (As := [.int v2]) (rest := []) K gT_good hZ hP hS calM_readInit mlM_256 0 (by decide) rfl rfl (mM_readInit hZ K.2.2.2.2.2.2.2.1 h) ⟨Nat.le_of_ble_eq_true rfl, Nat.le_of_ble_eq_true rfl⟩ rfl hL.1 rfl (Nat.le_of_ble_eq_true rfl) dM_readLine_259 (fun r1 hi2 hl3 H locs h hP hS => ?_)
  obtain ⟨g4, h⟩ := h
  exact x_zret K hr hP hS g4 h dM_readLine_262
set_option maxRecDepth 100000 in
set_option maxHeartbeats 4000000 in
theorem bM_readLine_383 {p : Program} {l : Launch} {e : Env} {s : State} {m : MethodId} {args : Array Value} {below : List Frame} {meth : Method} {c : Code} {D : va_G} {cI cJ cC cZ cR : ClassId} {ad : Nat → Nat} {A : Nat → Prop} {Zs : State → Prop} (K : Cx p (rmX 7 160) s m args meth c cM_readLine 7 "WordCheckerModel" gT D cls8 (tys5 cI cJ cC cZ cR) 21 ad A Zs) (hr : meth.sig.returnType = (some .boolean)) (hZ : ZsOK A Zs) {Φ : Int32 → HI → HL → Prop} {hi : HI} {hl : HL} {H : Heap} {locs : List Loc} (h : wbM_readLine_383 hi hl Φ) {ls : Array Slot} (hL : lv_has ls 7 []) (hP : va_P D cls8 (wl 21 ad (GM cI cZ ad) hi hl) H) (hS : va_S A s.heap H locs) : W p l e (rmX 7 160) s m args below meth c H locs 0 0 (MQ below (va_Qi (fun r (u : HI × HL) => Φ r u.1 u.2) (fun u t => va_P D cls8 (wl 21 ad (GM cI cZ ad) u.1 u.2) t.heap) A) args s 0 0 A) (F0 m 383 ls []) := by
  unfold wbM_readLine_383 at h
  refine lv_iconst (v := 0) K.1 K.2.1 dM_readLine_383 (by decide) ?_
  obtain ⟨g1, h⟩ := h
  exact x_zret K hr hP hS g1 h dM_readLine_384
set_option maxRecDepth 100000 in
set_option maxHeartbeats 4000000 in
theorem bM_readLine_358 {p : Program} {l : Launch} {e : Env} {s : State} {m : MethodId} {args : Array Value} {below : List Frame} {meth : Method} {c : Code} {D : va_G} {cI cJ cC cZ cR : ClassId} {ad : Nat → Nat} {A : Nat → Prop} {Zs : State → Prop} (K : Cx p (rmX 7 160) s m args meth c cM_readLine 7 "WordCheckerModel" gT D cls8 (tys5 cI cJ cC cZ cR) 21 ad A Zs) (hr : meth.sig.returnType = (some .boolean)) (hZ : ZsOK A Zs) {Φ : Int32 → HI → HL → Prop} {v2 : Int32} {v4 : Int32} {q0 : Int32} {hi : HI} {hl : HL} {H : Heap} {locs : List Loc} (h : wbM_readLine_358 v2 v4 q0 hi hl Φ) {ls : Array Slot} (hL : lv_has ls 7 [(0, .ref (ad 0)), (2, .int v2), (4, .int v4)]) (hP : va_P D cls8 (wl 21 ad (GM cI cZ ad) hi hl) H) (hS : va_S A s.heap H locs) : W p l e (rmX 7 160) s m args below meth c H locs 0 0 (MQ below (va_Qi (fun r (u : HI × HL) => Φ r u.1 u.2) (fun u t => va_P D cls8 (wl 21 ad (GM cI cZ ad) u.1 u.2) t.heap) A) args s 0 0 A) (F0 m 358 ls [.int q0]) := by
  unfold wbM_readLine_358 at h
  refine lv_istore (lv' := [(6, .int q0), (0, .ref (ad 0)), (2, .int v2), (4, .int v4)]) K.1 K.2.1 dM_readLine_358 hL (by decide) rfl (fun ls hL => ?_)
  refine lv_aload_n K.1 K.2.1 dM_readLine_360 rfl (lv_at hL 1 rfl) ?_
  refine lv_iload K.1 K.2.1 dM_readLine_361 (lv_at hL 0 rfl) ?_
  refine x_cVI (As := [.int q0]) (rest := []) K gT_good hZ hP hS calM_on mlM_184 0 (by decide) rfl rfl (mM_on hZ K.2.2.2.2.2.2.2.1 h) ⟨Nat.le_of_ble_eq_true rfl, Nat.le_of_ble_eq_true rfl⟩ rfl hL.1 rfl (Nat.le_of_ble_eq_true rfl) dM_readLine_363 (fun r1 hi2 hl3 H locs h hP hS => ?_)
  refine lv_if_eq (tgt := 383) K.1 K.2.1 dM_readLine_366 rfl (fun hc => ?_) (fun hc => ?_)
  · have h := h.1 hc
    exact bM_readLine_383 K hr hZ h (lv_sub hL [] rfl) hP hS
  · have h := h.2 hc
    refine lv_aload_n K.1 K.2.1 dM_readLine_369 rfl (lv_at hL 1 rfl) ?_
    refine lv_iload_n K.1 K.2.1 dM_readLine_370 rfl (lv_at hL 2 rfl) ?_
    refine lv_iload K.1 K.2.1 dM_readLine_371 (lv_at hL 3 rfl) ?_
    refine x_cVI (As := [.int v2, .int v4]) (rest := []) K gT_good hZ hP hS calM_readRest mlM_262 0 (by decide) rfl rfl (mM_readRest hZ K.2.2.2.2.2.2.2.1 h) ⟨Nat.le_of_ble_eq_true rfl, Nat.le_of_ble_eq_true rfl⟩ rfl hL.1 rfl (Nat.le_of_ble_eq_true rfl) dM_readLine_373 (fun r4 hi5 hl6 H locs h hP hS => ?_)
    refine lv_if_eq (tgt := 383) K.1 K.2.1 dM_readLine_376 rfl (fun hc => ?_) (fun hc => ?_)
    · have h := h.1 hc
      exact bM_readLine_383 K hr hZ h (lv_sub hL [] rfl) hP hS
    · have h := h.2 hc
      refine lv_iconst (v := 1) K.1 K.2.1 dM_readLine_379 (by decide) ?_
      refine lv_goto (tgt := 384) K.1 K.2.1 dM_readLine_380 rfl ?_
      obtain ⟨g7, h⟩ := h
      exact x_zret K hr hP hS g7 h dM_readLine_384
set_option maxRecDepth 100000 in
set_option maxHeartbeats 4000000 in
theorem bM_readLine_357 {p : Program} {l : Launch} {e : Env} {s : State} {m : MethodId} {args : Array Value} {below : List Frame} {meth : Method} {c : Code} {D : va_G} {cI cJ cC cZ cR : ClassId} {ad : Nat → Nat} {A : Nat → Prop} {Zs : State → Prop} (K : Cx p (rmX 7 160) s m args meth c cM_readLine 7 "WordCheckerModel" gT D cls8 (tys5 cI cJ cC cZ cR) 21 ad A Zs) (hr : meth.sig.returnType = (some .boolean)) (hZ : ZsOK A Zs) {Φ : Int32 → HI → HL → Prop} {v2 : Int32} {v4 : Int32} {hi : HI} {hl : HL} {H : Heap} {locs : List Loc} (h : wbM_readLine_357 v2 v4 hi hl Φ) {ls : Array Slot} (hL : lv_has ls 7 [(0, .ref (ad 0)), (2, .int v2), (4, .int v4)]) (hP : va_P D cls8 (wl 21 ad (GM cI cZ ad) hi hl) H) (hS : va_S A s.heap H locs) : W p l e (rmX 7 160) s m args below meth c H locs 0 0 (MQ below (va_Qi (fun r (u : HI × HL) => Φ r u.1 u.2) (fun u t => va_P D cls8 (wl 21 ad (GM cI cZ ad) u.1 u.2) t.heap) A) args s 0 0 A) (F0 m 357 ls []) := by
  unfold wbM_readLine_357 at h
  refine lv_iconst (v := 0) K.1 K.2.1 dM_readLine_357 (by decide) ?_
  exact bM_readLine_358 K hr hZ h (lv_sub hL [0, 1, 2] rfl) hP hS
set_option maxRecDepth 100000 in
set_option maxHeartbeats 4000000 in
theorem bM_readLine_353 {p : Program} {l : Launch} {e : Env} {s : State} {m : MethodId} {args : Array Value} {below : List Frame} {meth : Method} {c : Code} {D : va_G} {cI cJ cC cZ cR : ClassId} {ad : Nat → Nat} {A : Nat → Prop} {Zs : State → Prop} (K : Cx p (rmX 7 160) s m args meth c cM_readLine 7 "WordCheckerModel" gT D cls8 (tys5 cI cJ cC cZ cR) 21 ad A Zs) (hr : meth.sig.returnType = (some .boolean)) (hZ : ZsOK A Zs) {Φ : Int32 → HI → HL → Prop} {v2 : Int32} {v4 : Int32} {hi : HI} {hl : HL} {H : Heap} {locs : List Loc} (h : wbM_readLine_353 v2 v4 hi hl Φ) {ls : Array Slot} (hL : lv_has ls 7 [(0, .ref (ad 0)), (2, .int v2), (4, .int v4)]) (hP : va_P D cls8 (wl 21 ad (GM cI cZ ad) hi hl) H) (hS : va_S A s.heap H locs) : W p l e (rmX 7 160) s m args below meth c H locs 0 0 (MQ below (va_Qi (fun r (u : HI × HL) => Φ r u.1 u.2) (fun u t => va_P D cls8 (wl 21 ad (GM cI cZ ad) u.1 u.2) t.heap) A) args s 0 0 A) (F0 m 353 ls []) := by
  unfold wbM_readLine_353 at h
  refine lv_iconst (v := 1) K.1 K.2.1 dM_readLine_353 (by decide) ?_
  refine lv_goto (tgt := 358) K.1 K.2.1 dM_readLine_354 rfl ?_
  exact bM_readLine_358 K hr hZ h (lv_sub hL [0, 1, 2] rfl) hP hS
set_option maxRecDepth 100000 in
set_option maxHeartbeats 4000000 in
theorem bM_readLine_152 {p : Program} {l : Launch} {e : Env} {s : State} {m : MethodId} {args : Array Value} {below : List Frame} {meth : Method} {c : Code} {D : va_G} {cI cJ cC cZ cR : ClassId} {ad : Nat → Nat} {A : Nat → Prop} {Zs : State → Prop} (K : Cx p (rmX 7 160) s m args meth c cM_readLine 7 "WordCheckerModel" gT D cls8 (tys5 cI cJ cC cZ cR) 21 ad A Zs) (hr : meth.sig.returnType = (some .boolean)) (hZ : ZsOK A Zs) {Φ : Int32 → HI → HL → Prop} {v2 : Int32} {q1 : Int32} {hi : HI} {hl : HL} {H : Heap} {locs : List Loc} (h : wbM_readLine_152 v2 q1 hi hl Φ) {ls : Array Slot} (hL : lv_has ls 7 [(0, .ref (ad 0)), (2, .int v2)]) (hP : va_P D cls8 (wl 21 ad (GM cI cZ ad) hi hl) H) (hS : va_S A s.heap H locs) : W p l e (rmX 7 160) s m args below meth c H locs 0 0 (MQ below (va_Qi (fun r (u : HI × HL) => Φ r u.1 u.2) (fun u t => va_P D cls8 (wl 21 ad (GM cI cZ ad) u.1 u.2) t.heap) A) args s 0 0 A) (F0 m 152 ls [.int q1, .ref (ad 0)]) := by
  unfold wbM_readLine_152 at h
  refine x_cVI (As := [.int q1]) (rest := []) K gT_good hZ hP hS calM_on mlM_184 0 (by decide) rfl rfl (mM_on hZ K.2.2.2.2.2.2.2.1 h) ⟨Nat.le_of_ble_eq_true rfl, Nat.le_of_ble_eq_true rfl⟩ rfl hL.1 rfl (Nat.le_of_ble_eq_true rfl) dM_readLine_152 (fun r1 hi2 hl3 H locs h hP hS => ?_)
  refine lv_if_ne (tgt := 160) K.1 K.2.1 dM_readLine_155 rfl (fun hc => ?_) (fun hc => ?_)
  · have h := h.2 hc
    refine lv_aload_n K.1 K.2.1 dM_readLine_160 rfl (lv_at hL 0 rfl) ?_
    refine x_get (v := .ref (ad 7)) K hP hinM (ci := 7) rfl 0 (by decide) rfl 10 (by decide) flM_28 rfl rfl dM_readLine_161 ?_
    refine lv_aload_n K.1 K.2.1 dM_readLine_164 rfl (lv_at hL 0 rfl) ?_
    refine x_get (v := .int (hi2 0 6)) K hP hinM (ci := 7) rfl 0 (by decide) rfl 6 (by decide) flM_155 rfl rfl dM_readLine_165 ?_
    refine lv_iconst (v := -1) K.1 K.2.1 dM_readLine_168 (by decide) ?_
    obtain ⟨g4, h⟩ := h
    refine x_iast K hP hS 7 (by decide) 0 (fun _ => rfl) rfl g4 dM_readLine_169 (fun H locs hP hS => ?_)
    refine lv_aload_n K.1 K.2.1 dM_readLine_170 rfl (lv_at hL 0 rfl) ?_
    refine x_get (v := .ref (ad 8)) K hP hinM (ci := 7) rfl 0 (by decide) rfl 11 (by decide) flM_31 rfl rfl dM_readLine_171 ?_
    refine lv_aload_n K.1 K.2.1 dM_readLine_174 rfl (lv_at hL 0 rfl) ?_
    refine x_get (v := .int ((u2 hi2 7 ((hi2 0 6).toNatClampNeg) (-1 : Int32)) 0 6)) K hP hinM (ci := 7) rfl 0 (by decide) rfl 6 (by decide) flM_155 rfl rfl dM_readLine_175 ?_
    refine lv_iconst (v := -1) K.1 K.2.1 dM_readLine_178 (by decide) ?_
    obtain ⟨g5, h⟩ := h
    refine x_iast K hP hS 8 (by decide) 0 (fun _ => rfl) rfl g5 dM_readLine_179 (fun H locs hP hS => ?_)
    refine lv_aload_n K.1 K.2.1 dM_readLine_180 rfl (lv_at hL 0 rfl) ?_
    refine x_get (v := .ref (ad 9)) K hP hinM (ci := 7) rfl 0 (by decide) rfl 12 (by decide) flM_34 rfl rfl dM_readLine_181 ?_
    refine lv_aload_n K.1 K.2.1 dM_readLine_184 rfl (lv_at hL 0 rfl) ?_
    refine x_get (v := .int ((u2 (u2 hi2 7 ((hi2 0 6).toNatClampNeg) (-1 : Int32)) 8 (((u2 hi2 7 ((hi2 0 6).toNatClampNeg) (-1 : Int32)) 0 6).toNatClampNeg) (-1 : Int32)) 0 6)) K hP hinM (ci := 7) rfl 0 (by decide) rfl 6 (by decide) flM_155 rfl rfl dM_readLine_185 ?_
    refine lv_iconst (v := -1) K.1 K.2.1 dM_readLine_188 (by decide) ?_
    obtain ⟨g6, h⟩ := h
    refine x_iast K hP hS 9 (by decide) 0 (fun _ => rfl) rfl g6 dM_readLine_189 (fun H locs hP hS => ?_)
    refine lv_aload_n K.1 K.2.1 dM_readLine_190 rfl (lv_at hL 0 rfl) ?_
    refine x_get (v := .ref (ad 10)) K hP hinM (ci := 7) rfl 0 (by decide) rfl 13 (by decide) flM_37 rfl rfl dM_readLine_191 ?_
    refine lv_aload_n K.1 K.2.1 dM_readLine_194 rfl (lv_at hL 0 rfl) ?_
    refine x_get (v := .int ((u2 (u2 (u2 hi2 7 ((hi2 0 6).toNatClampNeg) (-1 : Int32)) 8 (((u2 hi2 7 ((hi2 0 6).toNatClampNeg) (-1 : Int32)) 0 6).toNatClampNeg) (-1 : Int32)) 9 (((u2 (u2 hi2 7 ((hi2 0 6).toNatClampNeg) (-1 : Int32)) 8 (((u2 hi2 7 ((hi2 0 6).toNatClampNeg) (-1 : Int32)) 0 6).toNatClampNeg) (-1 : Int32)) 0 6).toNatClampNeg) (-1 : Int32)) 0 6)) K hP hinM (ci := 7) rfl 0 (by decide) rfl 6 (by decide) flM_155 rfl rfl dM_readLine_195 ?_
    refine lv_iconst (v := 0) K.1 K.2.1 dM_readLine_198 (by decide) ?_
    obtain ⟨g7, h⟩ := h
    refine x_zast K hP hS 10 (by decide) 3 (fun _ => rfl) rfl g7 dM_readLine_199 (fun H locs hP hS => ?_)
    refine lv_aload_n K.1 K.2.1 dM_readLine_200 rfl (lv_at hL 0 rfl) ?_
    refine x_get (v := .ref (ad 11)) K hP hinM (ci := 7) rfl 0 (by decide) rfl 14 (by decide) flM_41 rfl rfl dM_readLine_201 ?_
    refine lv_aload_n K.1 K.2.1 dM_readLine_204 rfl (lv_at hL 0 rfl) ?_
    refine x_get (v := .int ((u2 (u2 (u2 (u2 hi2 7 ((hi2 0 6).toNatClampNeg) (-1 : Int32)) 8 (((u2 hi2 7 ((hi2 0 6).toNatClampNeg) (-1 : Int32)) 0 6).toNatClampNeg) (-1 : Int32)) 9 (((u2 (u2 hi2 7 ((hi2 0 6).toNatClampNeg) (-1 : Int32)) 8 (((u2 hi2 7 ((hi2 0 6).toNatClampNeg) (-1 : Int32)) 0 6).toNatClampNeg) (-1 : Int32)) 0 6).toNatClampNeg) (-1 : Int32)) 10 (((u2 (u2 (u2 hi2 7 ((hi2 0 6).toNatClampNeg) (-1 : Int32)) 8 (((u2 hi2 7 ((hi2 0 6).toNatClampNeg) (-1 : Int32)) 0 6).toNatClampNeg) (-1 : Int32)) 9 (((u2 (u2 hi2 7 ((hi2 0 6).toNatClampNeg) (-1 : Int32)) 8 (((u2 hi2 7 ((hi2 0 6).toNatClampNeg) (-1 : Int32)) 0 6).toNatClampNeg) (-1 : Int32)) 0 6).toNatClampNeg) (-1 : Int32)) 0 6).toNatClampNeg) (vp_nar .boolean (0 : Int32))) 0 6)) K hP hinM (ci := 7) rfl 0 (by decide) rfl 6 (by decide) flM_155 rfl rfl dM_readLine_205 ?_
    refine lv_iconst (v := 0) K.1 K.2.1 dM_readLine_208 (by decide) ?_
    obtain ⟨g8, h⟩ := h
    refine x_zast K hP hS 11 (by decide) 3 (fun _ => rfl) rfl g8 dM_readLine_209 (fun H locs hP hS => ?_)
    refine lv_aload_n K.1 K.2.1 dM_readLine_210 rfl (lv_at hL 0 rfl) ?_
    refine x_get (v := .ref (ad 12)) K hP hinM (ci := 7) rfl 0 (by decide) rfl 15 (by decide) flM_44 rfl rfl dM_readLine_211 ?_
    refine lv_aload_n K.1 K.2.1 dM_readLine_214 rfl (lv_at hL 0 rfl) ?_
    refine x_get (v := .int ((u2 (u2 (u2 (u2 (u2 hi2 7 ((hi2 0 6).toNatClampNeg) (-1 : Int32)) 8 (((u2 hi2 7 ((hi2 0 6).toNatClampNeg) (-1 : Int32)) 0 6).toNatClampNeg) (-1 : Int32)) 9 (((u2 (u2 hi2 7 ((hi2 0 6).toNatClampNeg) (-1 : Int32)) 8 (((u2 hi2 7 ((hi2 0 6).toNatClampNeg) (-1 : Int32)) 0 6).toNatClampNeg) (-1 : Int32)) 0 6).toNatClampNeg) (-1 : Int32)) 10 (((u2 (u2 (u2 hi2 7 ((hi2 0 6).toNatClampNeg) (-1 : Int32)) 8 (((u2 hi2 7 ((hi2 0 6).toNatClampNeg) (-1 : Int32)) 0 6).toNatClampNeg) (-1 : Int32)) 9 (((u2 (u2 hi2 7 ((hi2 0 6).toNatClampNeg) (-1 : Int32)) 8 (((u2 hi2 7 ((hi2 0 6).toNatClampNeg) (-1 : Int32)) 0 6).toNatClampNeg) (-1 : Int32)) 0 6).toNatClampNeg) (-1 : Int32)) 0 6).toNatClampNeg) (vp_nar .boolean (0 : Int32))) 11 (((u2 (u2 (u2 (u2 hi2 7 ((hi2 0 6).toNatClampNeg) (-1 : Int32)) 8 (((u2 hi2 7 ((hi2 0 6).toNatClampNeg) (-1 : Int32)) 0 6).toNatClampNeg) (-1 : Int32)) 9 (((u2 (u2 hi2 7 ((hi2 0 6).toNatClampNeg) (-1 : Int32)) 8 (((u2 hi2 7 ((hi2 0 6).toNatClampNeg) (-1 : Int32)) 0 6).toNatClampNeg) (-1 : Int32)) 0 6).toNatClampNeg) (-1 : Int32)) 10 (((u2 (u2 (u2 hi2 7 ((hi2 0 6).toNatClampNeg) (-1 : Int32)) 8 (((u2 hi2 7 ((hi2 0 6).toNatClampNeg) (-1 : Int32)) 0 6).toNatClampNeg) (-1 : Int32)) 9 (((u2 (u2 hi2 7 ((hi2 0 6).toNatClampNeg) (-1 : Int32)) 8 (((u2 hi2 7 ((hi2 0 6).toNatClampNeg) (-1 : Int32)) 0 6).toNatClampNeg) (-1 : Int32)) 0 6).toNatClampNeg) (-1 : Int32)) 0 6).toNatClampNeg) (vp_nar .boolean (0 : Int32))) 0 6).toNatClampNeg) (vp_nar .boolean (0 : Int32))) 0 6)) K hP hinM (ci := 7) rfl 0 (by decide) rfl 6 (by decide) flM_155 rfl rfl dM_readLine_215 ?_
    refine lv_iconst (v := 0) K.1 K.2.1 dM_readLine_218 (by decide) ?_
    obtain ⟨g9, h⟩ := h
    refine x_zast K hP hS 12 (by decide) 3 (fun _ => rfl) rfl g9 dM_readLine_219 (fun H locs hP hS => ?_)
    refine lv_iload_n K.1 K.2.1 dM_readLine_220 rfl (lv_at hL 1 rfl) ?_
    refine lv_if_ne (tgt := 229) K.1 K.2.1 dM_readLine_221 rfl (fun hc => ?_) (fun hc => ?_)
    · have h := h.2 hc
      refine lv_iload_n K.1 K.2.1 dM_readLine_229 rfl (lv_at hL 1 rfl) ?_
      refine lv_iconst (v := 1) K.1 K.2.1 dM_readLine_230 (by decide) ?_
      refine lv_icmp_eq (tgt := 239) K.1 K.2.1 dM_readLine_231 rfl (fun hc => ?_) (fun hc => ?_)
      · have h := h.1 hc
        exact bM_readLine_239 K hr hZ h (lv_sub hL [0, 1] rfl) hP hS
      · have h := h.2 hc
        refine lv_iload_n K.1 K.2.1 dM_readLine_234 rfl (lv_at hL 1 rfl) ?_
        refine lv_iconst (v := 2) K.1 K.2.1 dM_readLine_235 (by decide) ?_
        refine lv_icmp_ne (tgt := 245) K.1 K.2.1 dM_readLine_236 rfl (fun hc => ?_) (fun hc => ?_)
        · have h := h.2 hc
          refine lv_iload_n K.1 K.2.1 dM_readLine_245 rfl (lv_at hL 1 rfl) ?_
          refine lv_bipush (v := 27) K.1 K.2.1 dM_readLine_246 (by decide) ?_
          refine lv_icmp_eq (tgt := 257) K.1 K.2.1 dM_readLine_248 rfl (fun hc => ?_) (fun hc => ?_)
          · have h := h.1 hc
            exact bM_readLine_257 K hr hZ h (lv_sub hL [0, 1] rfl) hP hS
          · have h := h.2 hc
            refine lv_iload_n K.1 K.2.1 dM_readLine_251 rfl (lv_at hL 1 rfl) ?_
            refine lv_bipush (v := 28) K.1 K.2.1 dM_readLine_252 (by decide) ?_
            refine lv_icmp_ne (tgt := 263) K.1 K.2.1 dM_readLine_254 rfl (fun hc => ?_) (fun hc => ?_)
            · have h := h.2 hc
              refine lv_iload_n K.1 K.2.1 dM_readLine_263 rfl (lv_at hL 1 rfl) ?_
              refine lv_bipush (v := 29) K.1 K.2.1 dM_readLine_264 (by decide) ?_
              refine lv_icmp_lt (tgt := 275) K.1 K.2.1 dM_readLine_266 rfl (fun hc => ?_) (fun hc => ?_)
              · have h := h.1 hc
                refine lv_aload_n K.1 K.2.1 dM_readLine_275 rfl (lv_at hL 0 rfl) ?_
                refine x_cVI (As := []) (rest := []) K gT_good hZ hP hS calM_sortWord mlM_199 0 (by decide) rfl rfl (mM_sortWord hZ K.2.2.2.2.2.2.2.1 h) ⟨Nat.le_of_ble_eq_true rfl, Nat.le_of_ble_eq_true rfl⟩ rfl hL.1 rfl (Nat.le_of_ble_eq_true rfl) dM_readLine_276 (fun r10 hi11 hl12 H locs h hP hS => ?_)
                refine lv_istore (lv' := [(4, .int r10), (0, .ref (ad 0)), (2, .int v2)]) K.1 K.2.1 dM_readLine_279 hL (by decide) rfl (fun ls hL => ?_)
                refine lv_aload_n K.1 K.2.1 dM_readLine_281 rfl (lv_at hL 1 rfl) ?_
                refine x_get (v := .ref (ad 6)) K hP hinM (ci := 7) rfl 0 (by decide) rfl 9 (by decide) flM_25 rfl rfl dM_readLine_282 ?_
                refine lv_aload_n K.1 K.2.1 dM_readLine_285 rfl (lv_at hL 1 rfl) ?_
                refine x_get (v := .int (hi11 0 6)) K hP hinM (ci := 7) rfl 0 (by decide) rfl 6 (by decide) flM_155 rfl rfl dM_readLine_286 ?_
                refine lv_iload K.1 K.2.1 dM_readLine_289 (lv_at hL 0 rfl) ?_
                obtain ⟨g13, h⟩ := h
                refine x_iast K hP hS 6 (by decide) 0 (fun _ => rfl) rfl g13 dM_readLine_291 (fun H locs hP hS => ?_)
                refine lv_iload_n K.1 K.2.1 dM_readLine_292 rfl (lv_at hL 2 rfl) ?_
                refine x_cSI (As := [.int v2]) (rest := []) K gT_good hZ hP hS calM_asked mlM_259 (mM_asked hZ K.2.2.2.2.2.2.2.1 h) ⟨Nat.le_of_ble_eq_true rfl, Nat.le_of_ble_eq_true rfl⟩ rfl hL.1 rfl (Nat.le_of_ble_eq_true rfl) dM_readLine_293 (fun r14 hi15 hl16 H locs h hP hS => ?_)
                refine lv_istore (lv' := [(5, .int r14), (4, .int r10), (0, .ref (ad 0)), (2, .int v2)]) K.1 K.2.1 dM_readLine_296 hL (by decide) rfl (fun ls hL => ?_)
                refine lv_iload K.1 K.2.1 dM_readLine_298 (lv_at hL 1 rfl) ?_
                refine lv_if_lt (tgt := 357) K.1 K.2.1 dM_readLine_300 rfl (fun hc => ?_) (fun hc => ?_)
                · have h := h.1 hc
                  exact bM_readLine_357 K hr hZ h (lv_sub hL [2, 3, 1] rfl) hP hS
                · have h := h.2 hc
                  refine lv_iload K.1 K.2.1 dM_readLine_303 (lv_at hL 0 rfl) ?_
                  refine lv_if_eq (tgt := 353) K.1 K.2.1 dM_readLine_305 rfl (fun hc => ?_) (fun hc => ?_)
                  · have h := h.1 hc
                    exact bM_readLine_353 K hr hZ h (lv_sub hL [2, 3, 1] rfl) hP hS
                  · have h := h.2 hc
                    refine lv_iload K.1 K.2.1 dM_readLine_308 (lv_at hL 0 rfl) ?_
                    refine lv_iconst (v := 3) K.1 K.2.1 dM_readLine_310 (by decide) ?_
                    refine lv_icmp_ne (tgt := 327) K.1 K.2.1 dM_readLine_311 rfl (fun hc => ?_) (fun hc => ?_)
                    · have h := h.2 hc
                      refine lv_aload_n K.1 K.2.1 dM_readLine_327 rfl (lv_at hL 2 rfl) ?_
                      refine lv_iload K.1 K.2.1 dM_readLine_328 (lv_at hL 1 rfl) ?_
                      refine x_cVI (As := [.int r10]) (rest := []) K gT_good hZ hP hS calM_isBits mlM_188 0 (by decide) rfl rfl (mM_isBits hZ K.2.2.2.2.2.2.2.1 h) ⟨Nat.le_of_ble_eq_true rfl, Nat.le_of_ble_eq_true rfl⟩ rfl hL.1 rfl (Nat.le_of_ble_eq_true rfl) dM_readLine_330 (fun r17 hi18 hl19 H locs h hP hS => ?_)
                      refine lv_if_eq (tgt := 357) K.1 K.2.1 dM_readLine_333 rfl (fun hc => ?_) (fun hc => ?_)
                      · have h := h.1 hc
                        exact bM_readLine_357 K hr hZ h (lv_sub hL [2, 3, 1] rfl) hP hS
                      · have h := h.2 hc
                        refine lv_iload K.1 K.2.1 dM_readLine_336 (lv_at hL 0 rfl) ?_
                        refine lv_iconst (v := 2) K.1 K.2.1 dM_readLine_338 (by decide) ?_
                        refine lv_icmp_eq (tgt := 353) K.1 K.2.1 dM_readLine_339 rfl (fun hc => ?_) (fun hc => ?_)
                        · have h := h.1 hc
                          exact bM_readLine_353 K hr hZ h (lv_sub hL [2, 3, 1] rfl) hP hS
                        · have h := h.2 hc
                          refine lv_aload_n K.1 K.2.1 dM_readLine_342 rfl (lv_at hL 2 rfl) ?_
                          refine x_get (v := .ref (ad 16)) K hP hinM (ci := 7) rfl 0 (by decide) rfl 19 (by decide) flM_56 rfl rfl dM_readLine_343 ?_
                          refine lv_iload K.1 K.2.1 dM_readLine_346 (lv_at hL 1 rfl) ?_
                          obtain ⟨g20, h⟩ := h
                          refine x_iald K hP 16 (by decide) 0 rfl rfl g20 dM_readLine_348 ?_
                          refine lv_iconst (v := 1) K.1 K.2.1 dM_readLine_349 (by decide) ?_
                          refine lv_icmp_ne (tgt := 357) K.1 K.2.1 dM_readLine_350 rfl (fun hc => ?_) (fun hc => ?_)
                          · have h := h.2 hc
                            exact bM_readLine_357 K hr hZ h (lv_sub hL [2, 3, 1] rfl) hP hS
                          · have h := h.1 hc
                            exact bM_readLine_353 K hr hZ h (lv_sub hL [2, 3, 1] rfl) hP hS
                    · have h := h.1 hc
                      refine lv_aload_n K.1 K.2.1 dM_readLine_314 rfl (lv_at hL 2 rfl) ?_
                      refine x_get (v := .ref (ad 15)) K hP hinM (ci := 7) rfl 0 (by decide) rfl 18 (by decide) flM_53 rfl rfl dM_readLine_315 ?_
                      refine lv_iload K.1 K.2.1 dM_readLine_318 (lv_at hL 1 rfl) ?_
                      obtain ⟨g21, h⟩ := h
                      refine x_zald K hP 15 (by decide) 3 rfl rfl g21 dM_readLine_320 ?_
                      refine lv_if_eq (tgt := 357) K.1 K.2.1 dM_readLine_321 rfl (fun hc => ?_) (fun hc => ?_)
                      · have h := h.1 hc
                        exact bM_readLine_357 K hr hZ h (lv_sub hL [2, 3, 1] rfl) hP hS
                      · have h := h.2 hc
                        refine lv_goto (tgt := 353) K.1 K.2.1 dM_readLine_324 rfl ?_
                        exact bM_readLine_353 K hr hZ h (lv_sub hL [2, 3, 1] rfl) hP hS
              · have h := h.2 hc
                refine lv_aload_n K.1 K.2.1 dM_readLine_269 rfl (lv_at hL 0 rfl) ?_
                refine lv_iconst (v := 1) K.1 K.2.1 dM_readLine_270 (by decide) ?_
                refine x_cVI (As := [.int (1 : Int32)]) (rest := []) K gT_good hZ hP hS calM_bitsA mlM_217 0 (by decide) rfl rfl (mM_bitsA hZ K.2.2.2.2.2.2.2.1 h) ⟨Nat.le_of_ble_eq_true rfl, Nat.le_of_ble_eq_true rfl⟩ rfl hL.1 rfl (Nat.le_of_ble_eq_true rfl) dM_readLine_271 (fun r22 hi23 hl24 H locs h hP hS => ?_)
                obtain ⟨g25, h⟩ := h
                exact x_zret K hr hP hS g25 h dM_readLine_274
            · have h := h.1 hc
              exact bM_readLine_257 K hr hZ h (lv_sub hL [0, 1] rfl) hP hS
        · have h := h.1 hc
          exact bM_readLine_239 K hr hZ h (lv_sub hL [0, 1] rfl) hP hS
    · have h := h.1 hc
      refine lv_aload_n K.1 K.2.1 dM_readLine_224 rfl (lv_at hL 0 rfl) ?_
      refine x_cVI (As := []) (rest := []) K gT_good hZ hP hS calM_readSort mlM_250 0 (by decide) rfl rfl (mM_readSort hZ K.2.2.2.2.2.2.2.1 h) ⟨Nat.le_of_ble_eq_true rfl, Nat.le_of_ble_eq_true rfl⟩ rfl hL.1 rfl (Nat.le_of_ble_eq_true rfl) dM_readLine_225 (fun r26 hi27 hl28 H locs h hP hS => ?_)
      obtain ⟨g29, h⟩ := h
      exact x_zret K hr hP hS g29 h dM_readLine_228
  · have h := h.1 hc
    refine lv_iconst (v := 0) K.1 K.2.1 dM_readLine_158 (by decide) ?_
    obtain ⟨g30, h⟩ := h
    exact x_zret K hr hP hS g30 h dM_readLine_159
set_option maxRecDepth 100000 in
set_option maxHeartbeats 4000000 in
theorem bM_readLine_151 {p : Program} {l : Launch} {e : Env} {s : State} {m : MethodId} {args : Array Value} {below : List Frame} {meth : Method} {c : Code} {D : va_G} {cI cJ cC cZ cR : ClassId} {ad : Nat → Nat} {A : Nat → Prop} {Zs : State → Prop} (K : Cx p (rmX 7 160) s m args meth c cM_readLine 7 "WordCheckerModel" gT D cls8 (tys5 cI cJ cC cZ cR) 21 ad A Zs) (hr : meth.sig.returnType = (some .boolean)) (hZ : ZsOK A Zs) {Φ : Int32 → HI → HL → Prop} {v2 : Int32} {hi : HI} {hl : HL} {H : Heap} {locs : List Loc} (h : wbM_readLine_151 v2 hi hl Φ) {ls : Array Slot} (hL : lv_has ls 7 [(0, .ref (ad 0)), (2, .int v2)]) (hP : va_P D cls8 (wl 21 ad (GM cI cZ ad) hi hl) H) (hS : va_S A s.heap H locs) : W p l e (rmX 7 160) s m args below meth c H locs 0 0 (MQ below (va_Qi (fun r (u : HI × HL) => Φ r u.1 u.2) (fun u t => va_P D cls8 (wl 21 ad (GM cI cZ ad) u.1 u.2) t.heap) A) args s 0 0 A) (F0 m 151 ls [.ref (ad 0)]) := by
  unfold wbM_readLine_151 at h
  refine lv_iconst (v := 0) K.1 K.2.1 dM_readLine_151 (by decide) ?_
  exact bM_readLine_152 K hr hZ h (lv_sub hL [0, 1] rfl) hP hS
set_option maxRecDepth 100000 in
set_option maxHeartbeats 4000000 in
theorem bM_readLine_147 {p : Program} {l : Launch} {e : Env} {s : State} {m : MethodId} {args : Array Value} {below : List Frame} {meth : Method} {c : Code} {D : va_G} {cI cJ cC cZ cR : ClassId} {ad : Nat → Nat} {A : Nat → Prop} {Zs : State → Prop} (K : Cx p (rmX 7 160) s m args meth c cM_readLine 7 "WordCheckerModel" gT D cls8 (tys5 cI cJ cC cZ cR) 21 ad A Zs) (hr : meth.sig.returnType = (some .boolean)) (hZ : ZsOK A Zs) {Φ : Int32 → HI → HL → Prop} {v2 : Int32} {hi : HI} {hl : HL} {H : Heap} {locs : List Loc} (h : wbM_readLine_147 v2 hi hl Φ) {ls : Array Slot} (hL : lv_has ls 7 [(0, .ref (ad 0)), (2, .int v2)]) (hP : va_P D cls8 (wl 21 ad (GM cI cZ ad) hi hl) H) (hS : va_S A s.heap H locs) : W p l e (rmX 7 160) s m args below meth c H locs 0 0 (MQ below (va_Qi (fun r (u : HI × HL) => Φ r u.1 u.2) (fun u t => va_P D cls8 (wl 21 ad (GM cI cZ ad) u.1 u.2) t.heap) A) args s 0 0 A) (F0 m 147 ls [.ref (ad 0)]) := by
  unfold wbM_readLine_147 at h
  refine lv_iconst (v := 1) K.1 K.2.1 dM_readLine_147 (by decide) ?_
  refine lv_goto (tgt := 152) K.1 K.2.1 dM_readLine_148 rfl ?_
  exact bM_readLine_152 K hr hZ h (lv_sub hL [0, 1] rfl) hP hS
set_option maxRecDepth 100000 in
set_option maxHeartbeats 4000000 in
theorem bM_readLine_119 {p : Program} {l : Launch} {e : Env} {s : State} {m : MethodId} {args : Array Value} {below : List Frame} {meth : Method} {c : Code} {D : va_G} {cI cJ cC cZ cR : ClassId} {ad : Nat → Nat} {A : Nat → Prop} {Zs : State → Prop} (K : Cx p (rmX 7 160) s m args meth c cM_readLine 7 "WordCheckerModel" gT D cls8 (tys5 cI cJ cC cZ cR) 21 ad A Zs) (hr : meth.sig.returnType = (some .boolean)) (hZ : ZsOK A Zs) {Φ : Int32 → HI → HL → Prop} {k86 : Int32 → Int32 → Int32 → HI → HL → Prop} (hk86 : ∀ (v2 : Int32) (v3 : Int32) (v4 : Int32) (hi : HI) (hl : HL) (ls : Array Slot) (H : Heap) (locs : List Loc), k86 v2 v3 v4 hi hl → lv_has ls 7 [(0, .ref (ad 0)), (2, .int v2), (3, .int v3), (4, .int v4)] → va_P D cls8 (wl 21 ad (GM cI cZ ad) hi hl) H → va_S A s.heap H locs → W p l e (rmX 7 160) s m args below meth c H locs 0 0 (MQ below (va_Qi (fun r (u : HI × HL) => Φ r u.1 u.2) (fun u t => va_P D cls8 (wl 21 ad (GM cI cZ ad) u.1 u.2) t.heap) A) args s 0 0 A) (F0 m 86 ls [])) {v2 : Int32} {v4 : Int32} {q0 : Int32} {hi : HI} {hl : HL} {H : Heap} {locs : List Loc} (h : wbM_readLine_119 k86 v2 v4 q0 hi hl Φ) {ls : Array Slot} (hL : lv_has ls 7 [(0, .ref (ad 0)), (2, .int v2), (4, .int v4)]) (hP : va_P D cls8 (wl 21 ad (GM cI cZ ad) hi hl) H) (hS : va_S A s.heap H locs) : W p l e (rmX 7 160) s m args below meth c H locs 0 0 (MQ below (va_Qi (fun r (u : HI × HL) => Φ r u.1 u.2) (fun u t => va_P D cls8 (wl 21 ad (GM cI cZ ad) u.1 u.2) t.heap) A) args s 0 0 A) (F0 m 119 ls [.int q0]) := by
  unfold wbM_readLine_119 at h
  refine lv_istore_n (lv' := [(3, .int q0), (0, .ref (ad 0)), (2, .int v2), (4, .int v4)]) K.1 K.2.1 dM_readLine_119 rfl hL (by decide) rfl (fun ls hL => ?_)
  refine lv_iinc (k := 3) (lv' := [(4, .int (v4 + Int32.ofInt (1))), (3, .int q0), (0, .ref (ad 0)), (2, .int v2)]) K.1 K.2.1 dM_readLine_120 hL rfl rfl (by decide) rfl (fun ls hL => ?_)
  refine lv_goto (tgt := 86) K.1 K.2.1 dM_readLine_123 rfl ?_
  exact hk86 _ _ _ _ _ _ _ _ h (lv_sub hL [2, 3, 1, 0] rfl) hP hS
set_option maxRecDepth 100000 in
set_option maxHeartbeats 4000000 in
theorem bM_readLine_86 {p : Program} {l : Launch} {e : Env} {s : State} {m : MethodId} {args : Array Value} {below : List Frame} {meth : Method} {c : Code} {D : va_G} {cI cJ cC cZ cR : ClassId} {ad : Nat → Nat} {A : Nat → Prop} {Zs : State → Prop} (K : Cx p (rmX 7 160) s m args meth c cM_readLine 7 "WordCheckerModel" gT D cls8 (tys5 cI cJ cC cZ cR) 21 ad A Zs) (hr : meth.sig.returnType = (some .boolean)) (hZ : ZsOK A Zs) {Φ : Int32 → HI → HL → Prop} {n : Nat} {v2 : Int32} {v3 : Int32} {v4 : Int32} {hi : HI} {hl : HL} {H : Heap} {locs : List Loc} (h : wbM_readLine_86 n v2 v3 v4 hi hl Φ) {ls : Array Slot} (hL : lv_has ls 7 [(0, .ref (ad 0)), (2, .int v2), (3, .int v3), (4, .int v4)]) (hP : va_P D cls8 (wl 21 ad (GM cI cZ ad) hi hl) H) (hS : va_S A s.heap H locs) : W p l e (rmX 7 160) s m args below meth c H locs 0 0 (MQ below (va_Qi (fun r (u : HI × HL) => Φ r u.1 u.2) (fun u t => va_P D cls8 (wl 21 ad (GM cI cZ ad) u.1 u.2) t.heap) A) args s 0 0 A) (F0 m 86 ls []) := by
  induction n generalizing v2 v3 v4 hi hl ls H locs with
  | zero => exact False.elim h
  | succ n ih =>
    unfold wbM_readLine_86 at h
    refine lv_iload K.1 K.2.1 dM_readLine_86 (lv_at hL 3 rfl) ?_
    refine lv_aload_n K.1 K.2.1 dM_readLine_88 rfl (lv_at hL 0 rfl) ?_
    refine x_get (v := .int (hi 0 6)) K hP hinM (ci := 7) rfl 0 (by decide) rfl 6 (by decide) flM_155 rfl rfl dM_readLine_89 ?_
    refine lv_icmp_ge (tgt := 126) K.1 K.2.1 dM_readLine_92 rfl (fun hc => ?_) (fun hc => ?_)
    · have h := h.1 hc
      refine lv_aload_n K.1 K.2.1 dM_readLine_126 rfl (lv_at hL 0 rfl) ?_
      refine lv_iload_n K.1 K.2.1 dM_readLine_127 rfl (lv_at hL 1 rfl) ?_
      refine lv_if_lt (tgt := 151) K.1 K.2.1 dM_readLine_128 rfl (fun hc => ?_) (fun hc => ?_)
      · have h := h.1 hc
        exact bM_readLine_151 K hr hZ h (lv_sub hL [0, 1] rfl) hP hS
      · have h := h.2 hc
        refine lv_iload_n K.1 K.2.1 dM_readLine_131 rfl (lv_at hL 1 rfl) ?_
        refine lv_bipush (v := 12) K.1 K.2.1 dM_readLine_132 (by decide) ?_
        refine lv_bipush (v := 14) K.1 K.2.1 dM_readLine_134 (by decide) ?_
        refine x_cSI (As := [.int v2, .int (12 : Int32), .int (14 : Int32)]) (rest := [.ref (ad 0)]) K gT_good hZ hP hS calM_in mlM_75 (mM_in hZ K.2.2.2.2.2.2.2.1 h) ⟨Nat.le_of_ble_eq_true rfl, Nat.le_of_ble_eq_true rfl⟩ rfl hL.1 rfl (Nat.le_of_ble_eq_true rfl) dM_readLine_136 (fun r1 hi2 hl3 H locs h hP hS => ?_)
        refine lv_if_eq (tgt := 147) K.1 K.2.1 dM_readLine_139 rfl (fun hc => ?_) (fun hc => ?_)
        · have h := h.1 hc
          exact bM_readLine_147 K hr hZ h (lv_sub hL [0, 1] rfl) hP hS
        · have h := h.2 hc
          refine lv_iload_n K.1 K.2.1 dM_readLine_142 rfl (lv_at hL 2 rfl) ?_
          refine lv_iconst (v := 2) K.1 K.2.1 dM_readLine_143 (by decide) ?_
          refine lv_icmp_ge (tgt := 151) K.1 K.2.1 dM_readLine_144 rfl (fun hc => ?_) (fun hc => ?_)
          · have h := h.1 hc
            exact bM_readLine_151 K hr hZ h (lv_sub hL [0, 1] rfl) hP hS
          · have h := h.2 hc
            exact bM_readLine_147 K hr hZ h (lv_sub hL [0, 1] rfl) hP hS
    · have h := h.2 hc
      refine lv_aload_n K.1 K.2.1 dM_readLine_95 rfl (lv_at hL 0 rfl) ?_
      refine x_get (v := .ref (ad 5)) K hP hinM (ci := 7) rfl 0 (by decide) rfl 8 (by decide) flM_22 rfl rfl dM_readLine_96 ?_
      refine lv_iload K.1 K.2.1 dM_readLine_99 (lv_at hL 3 rfl) ?_
      obtain ⟨g4, h⟩ := h
      refine x_iald K hP 5 (by decide) 0 rfl rfl g4 dM_readLine_101 ?_
      refine lv_bipush (v := 12) K.1 K.2.1 dM_readLine_102 (by decide) ?_
      refine lv_bipush (v := 14) K.1 K.2.1 dM_readLine_104 (by decide) ?_
      refine x_cSI (As := [.int (hi 5 (v4.toNatClampNeg)), .int (12 : Int32), .int (14 : Int32)]) (rest := []) K gT_good hZ hP hS calM_in mlM_75 (mM_in hZ K.2.2.2.2.2.2.2.1 h) ⟨Nat.le_of_ble_eq_true rfl, Nat.le_of_ble_eq_true rfl⟩ rfl hL.1 rfl (Nat.le_of_ble_eq_true rfl) dM_readLine_106 (fun r5 hi6 hl7 H locs h hP hS => ?_)
      refine lv_if_eq (tgt := 118) K.1 K.2.1 dM_readLine_109 rfl (fun hc => ?_) (fun hc => ?_)
      · have h := h.1 hc
        refine lv_iload_n K.1 K.2.1 dM_readLine_118 rfl (lv_at hL 2 rfl) ?_
        exact bM_readLine_119 K hr hZ (fun v2 v3 v4 hi hl ls H locs h hL hP hS => ih h hL hP hS) h (lv_sub hL [0, 1, 3] rfl) hP hS
      · have h := h.2 hc
        refine lv_iload_n K.1 K.2.1 dM_readLine_112 rfl (lv_at hL 2 rfl) ?_
        refine lv_iconst (v := 1) K.1 K.2.1 dM_readLine_113 (by decide) ?_
        refine lv_iadd K.1 K.2.1 dM_readLine_114 ?_
        refine lv_goto (tgt := 119) K.1 K.2.1 dM_readLine_115 rfl ?_
        exact bM_readLine_119 K hr hZ (fun v2 v3 v4 hi hl ls H locs h hL hP hS => ih h hL hP hS) h (lv_sub hL [0, 1, 3] rfl) hP hS
set_option maxRecDepth 100000 in
set_option maxHeartbeats 4000000 in
theorem bM_readLine_54 {p : Program} {l : Launch} {e : Env} {s : State} {m : MethodId} {args : Array Value} {below : List Frame} {meth : Method} {c : Code} {D : va_G} {cI cJ cC cZ cR : ClassId} {ad : Nat → Nat} {A : Nat → Prop} {Zs : State → Prop} (K : Cx p (rmX 7 160) s m args meth c cM_readLine 7 "WordCheckerModel" gT D cls8 (tys5 cI cJ cC cZ cR) 21 ad A Zs) (hr : meth.sig.returnType = (some .boolean)) (hZ : ZsOK A Zs) {Φ : Int32 → HI → HL → Prop} {q1 : Int32} {hi : HI} {hl : HL} {H : Heap} {locs : List Loc} (h : wbM_readLine_54 q1 hi hl Φ) {ls : Array Slot} (hL : lv_has ls 7 [(0, .ref (ad 0))]) (hP : va_P D cls8 (wl 21 ad (GM cI cZ ad) hi hl) H) (hS : va_S A s.heap H locs) : W p l e (rmX 7 160) s m args below meth c H locs 0 0 (MQ below (va_Qi (fun r (u : HI × HL) => Φ r u.1 u.2) (fun u t => va_P D cls8 (wl 21 ad (GM cI cZ ad) u.1 u.2) t.heap) A) args s 0 0 A) (F0 m 54 ls [.int q1, .ref (ad 0)]) := by
  unfold wbM_readLine_54 at h
  refine x_cVI (As := [.int q1]) (rest := []) K gT_good hZ hP hS calM_on mlM_184 0 (by decide) rfl rfl (mM_on hZ K.2.2.2.2.2.2.2.1 h) ⟨Nat.le_of_ble_eq_true rfl, Nat.le_of_ble_eq_true rfl⟩ rfl hL.1 rfl (Nat.le_of_ble_eq_true rfl) dM_readLine_54 (fun r1 hi2 hl3 H locs h hP hS => ?_)
  refine lv_if_ne (tgt := 62) K.1 K.2.1 dM_readLine_57 rfl (fun hc => ?_) (fun hc => ?_)
  · have h := h.2 hc
    refine lv_aload_n K.1 K.2.1 dM_readLine_62 rfl (lv_at hL 0 rfl) ?_
    refine lv_iconst (v := 1) K.1 K.2.1 dM_readLine_63 (by decide) ?_
    refine x_cVJ (As := [.int (1 : Int32)]) (rest := []) K gT_good hZ hP hS calM_letters mlM_191 0 (by decide) rfl rfl (mM_letters hZ K.2.2.2.2.2.2.2.1 h) ⟨Nat.le_of_ble_eq_true rfl, Nat.le_of_ble_eq_true rfl⟩ rfl hL.1 rfl (Nat.le_of_ble_eq_true rfl) dM_readLine_64 (fun r4 hi5 hl6 H locs h hP hS => ?_)
    refine x_cSI (As := [.long r4]) (rest := []) K gT_good hZ hP hS calM_kindOf mlM_246 (mM_kindOf hZ K.2.2.2.2.2.2.2.1 h) ⟨Nat.le_of_ble_eq_true rfl, Nat.le_of_ble_eq_true rfl⟩ rfl hL.1 rfl (Nat.le_of_ble_eq_true rfl) dM_readLine_67 (fun r7 hi8 hl9 H locs h hP hS => ?_)
    refine lv_istore_n (lv' := [(2, .int r7), (0, .ref (ad 0))]) K.1 K.2.1 dM_readLine_70 rfl hL (by decide) rfl (fun ls hL => ?_)
    refine lv_aload_n K.1 K.2.1 dM_readLine_71 rfl (lv_at hL 1 rfl) ?_
    refine x_get (v := .ref (ad 5)) K hP hinM (ci := 7) rfl 0 (by decide) rfl 8 (by decide) flM_22 rfl rfl dM_readLine_72 ?_
    refine lv_aload_n K.1 K.2.1 dM_readLine_75 rfl (lv_at hL 1 rfl) ?_
    refine x_get (v := .int (hi8 0 6)) K hP hinM (ci := 7) rfl 0 (by decide) rfl 6 (by decide) flM_155 rfl rfl dM_readLine_76 ?_
    refine lv_iload_n K.1 K.2.1 dM_readLine_79 rfl (lv_at hL 0 rfl) ?_
    obtain ⟨g10, h⟩ := h
    refine x_iast K hP hS 5 (by decide) 0 (fun _ => rfl) rfl g10 dM_readLine_80 (fun H locs hP hS => ?_)
    refine lv_iconst (v := 0) K.1 K.2.1 dM_readLine_81 (by decide) ?_
    refine lv_istore_n (lv' := [(3, .int (0 : Int32)), (2, .int r7), (0, .ref (ad 0))]) K.1 K.2.1 dM_readLine_82 rfl hL (by decide) rfl (fun ls hL => ?_)
    refine lv_iconst (v := 0) K.1 K.2.1 dM_readLine_83 (by decide) ?_
    refine lv_istore (lv' := [(4, .int (0 : Int32)), (3, .int (0 : Int32)), (2, .int r7), (0, .ref (ad 0))]) K.1 K.2.1 dM_readLine_84 hL (by decide) rfl (fun ls hL => ?_)
    obtain ⟨fu, h⟩ := h
    exact bM_readLine_86 K hr hZ h (lv_sub hL [3, 2, 1, 0] rfl) hP hS
  · have h := h.1 hc
    refine lv_iconst (v := 0) K.1 K.2.1 dM_readLine_60 (by decide) ?_
    obtain ⟨g11, h⟩ := h
    exact x_zret K hr hP hS g11 h dM_readLine_61
set_option maxRecDepth 100000 in
set_option maxHeartbeats 4000000 in
theorem bM_readLine_53 {p : Program} {l : Launch} {e : Env} {s : State} {m : MethodId} {args : Array Value} {below : List Frame} {meth : Method} {c : Code} {D : va_G} {cI cJ cC cZ cR : ClassId} {ad : Nat → Nat} {A : Nat → Prop} {Zs : State → Prop} (K : Cx p (rmX 7 160) s m args meth c cM_readLine 7 "WordCheckerModel" gT D cls8 (tys5 cI cJ cC cZ cR) 21 ad A Zs) (hr : meth.sig.returnType = (some .boolean)) (hZ : ZsOK A Zs) {Φ : Int32 → HI → HL → Prop} {hi : HI} {hl : HL} {H : Heap} {locs : List Loc} (h : wbM_readLine_53 hi hl Φ) {ls : Array Slot} (hL : lv_has ls 7 [(0, .ref (ad 0))]) (hP : va_P D cls8 (wl 21 ad (GM cI cZ ad) hi hl) H) (hS : va_S A s.heap H locs) : W p l e (rmX 7 160) s m args below meth c H locs 0 0 (MQ below (va_Qi (fun r (u : HI × HL) => Φ r u.1 u.2) (fun u t => va_P D cls8 (wl 21 ad (GM cI cZ ad) u.1 u.2) t.heap) A) args s 0 0 A) (F0 m 53 ls [.ref (ad 0)]) := by
  unfold wbM_readLine_53 at h
  refine lv_iconst (v := 0) K.1 K.2.1 dM_readLine_53 (by decide) ?_
  exact bM_readLine_54 K hr hZ h (lv_sub hL [0] rfl) hP hS
set_option maxRecDepth 100000 in
set_option maxHeartbeats 4000000 in
theorem bM_readLine_49 {p : Program} {l : Launch} {e : Env} {s : State} {m : MethodId} {args : Array Value} {below : List Frame} {meth : Method} {c : Code} {D : va_G} {cI cJ cC cZ cR : ClassId} {ad : Nat → Nat} {A : Nat → Prop} {Zs : State → Prop} (K : Cx p (rmX 7 160) s m args meth c cM_readLine 7 "WordCheckerModel" gT D cls8 (tys5 cI cJ cC cZ cR) 21 ad A Zs) (hr : meth.sig.returnType = (some .boolean)) (hZ : ZsOK A Zs) {Φ : Int32 → HI → HL → Prop} {hi : HI} {hl : HL} {H : Heap} {locs : List Loc} (h : wbM_readLine_49 hi hl Φ) {ls : Array Slot} (hL : lv_has ls 7 [(0, .ref (ad 0))]) (hP : va_P D cls8 (wl 21 ad (GM cI cZ ad) hi hl) H) (hS : va_S A s.heap H locs) : W p l e (rmX 7 160) s m args below meth c H locs 0 0 (MQ below (va_Qi (fun r (u : HI × HL) => Φ r u.1 u.2) (fun u t => va_P D cls8 (wl 21 ad (GM cI cZ ad) u.1 u.2) t.heap) A) args s 0 0 A) (F0 m 49 ls [.ref (ad 0)]) := by
  unfold wbM_readLine_49 at h
  refine lv_iconst (v := 1) K.1 K.2.1 dM_readLine_49 (by decide) ?_
  refine lv_goto (tgt := 54) K.1 K.2.1 dM_readLine_50 rfl ?_
  exact bM_readLine_54 K hr hZ h (lv_sub hL [0] rfl) hP hS
set_option maxRecDepth 100000 in
set_option maxHeartbeats 4000000 in
theorem bM_readLine_0 {p : Program} {l : Launch} {e : Env} {s : State} {m : MethodId} {args : Array Value} {below : List Frame} {meth : Method} {c : Code} {D : va_G} {cI cJ cC cZ cR : ClassId} {ad : Nat → Nat} {A : Nat → Prop} {Zs : State → Prop} (K : Cx p (rmX 7 160) s m args meth c cM_readLine 7 "WordCheckerModel" gT D cls8 (tys5 cI cJ cC cZ cR) 21 ad A Zs) (hr : meth.sig.returnType = (some .boolean)) (hZ : ZsOK A Zs) {Φ : Int32 → HI → HL → Prop} {hi : HI} {hl : HL} {H : Heap} {locs : List Loc} (h : wbM_readLine_0 hi hl Φ) {ls : Array Slot} (hL : lv_has ls 7 [(0, .ref (ad 0))]) (hP : va_P D cls8 (wl 21 ad (GM cI cZ ad) hi hl) H) (hS : va_S A s.heap H locs) : W p l e (rmX 7 160) s m args below meth c H locs 0 0 (MQ below (va_Qi (fun r (u : HI × HL) => Φ r u.1 u.2) (fun u t => va_P D cls8 (wl 21 ad (GM cI cZ ad) u.1 u.2) t.heap) A) args s 0 0 A) (F0 m 0 ls []) := by
  unfold wbM_readLine_0 at h
  refine lv_aload_n K.1 K.2.1 dM_readLine_0 rfl (lv_at hL 0 rfl) ?_
  refine lv_iconst (v := 0) K.1 K.2.1 dM_readLine_1 (by decide) ?_
  refine x_put (v := .int (0 : Int32)) K hP hS hinM tyM tyM_ok nmM (ci := 7) rfl 0 (by decide) rfl 5 (by decide) flM_158 rfl rfl (0 : Int32) rfl rfl rfl (Nat.le_of_ble_eq_true rfl) dM_readLine_2 (fun H locs hP hS => ?_)
  refine lv_aload_n K.1 K.2.1 dM_readLine_5 rfl (lv_at hL 0 rfl) ?_
  refine lv_iconst (v := 0) K.1 K.2.1 dM_readLine_6 (by decide) ?_
  refine x_cVI (As := [.int (0 : Int32)]) (rest := []) K gT_good hZ hP hS calM_number mlM_161 0 (by decide) rfl rfl (mM_number hZ K.2.2.2.2.2.2.2.1 h) ⟨Nat.le_of_ble_eq_true rfl, Nat.le_of_ble_eq_true rfl⟩ rfl hL.1 rfl (Nat.le_of_ble_eq_true rfl) dM_readLine_7 (fun r1 hi2 hl3 H locs h hP hS => ?_)
  refine lv_istore_n (lv' := [(1, .int r1), (0, .ref (ad 0))]) K.1 K.2.1 dM_readLine_10 rfl hL (by decide) rfl (fun ls hL => ?_)
  refine lv_aload_n K.1 K.2.1 dM_readLine_11 rfl (lv_at hL 1 rfl) ?_
  refine x_get (v := .ref (ad 4)) K hP hinM (ci := 7) rfl 0 (by decide) rfl 7 (by decide) flM_19 rfl rfl dM_readLine_12 ?_
  refine lv_aload_n K.1 K.2.1 dM_readLine_15 rfl (lv_at hL 1 rfl) ?_
  refine x_get (v := .int (hi2 0 6)) K hP hinM (ci := 7) rfl 0 (by decide) rfl 6 (by decide) flM_155 rfl rfl dM_readLine_16 ?_
  refine lv_iload_n K.1 K.2.1 dM_readLine_19 rfl (lv_at hL 0 rfl) ?_
  obtain ⟨g4, h⟩ := h
  refine x_iast K hP hS 4 (by decide) 0 (fun _ => rfl) rfl g4 dM_readLine_20 (fun H locs hP hS => ?_)
  refine lv_aload_n K.1 K.2.1 dM_readLine_21 rfl (lv_at hL 1 rfl) ?_
  refine lv_iload_n K.1 K.2.1 dM_readLine_22 rfl (lv_at hL 0 rfl) ?_
  refine lv_iconst (v := 1) K.1 K.2.1 dM_readLine_23 (by decide) ?_
  refine lv_icmp_lt (tgt := 53) K.1 K.2.1 dM_readLine_24 rfl (fun hc => ?_) (fun hc => ?_)
  · have h := h.1 hc
    exact bM_readLine_53 K hr hZ h (lv_sub hL [1] rfl) hP hS
  · have h := h.2 hc
    refine lv_aload_n K.1 K.2.1 dM_readLine_27 rfl (lv_at hL 1 rfl) ?_
    refine x_get (v := .int ((u2 hi2 4 ((hi2 0 6).toNatClampNeg) r1) 0 6)) K hP hinM (ci := 7) rfl 0 (by decide) rfl 6 (by decide) flM_155 rfl rfl dM_readLine_28 ?_
    refine lv_if_eq (tgt := 49) K.1 K.2.1 dM_readLine_31 rfl (fun hc => ?_) (fun hc => ?_)
    · have h := h.1 hc
      exact bM_readLine_49 K hr hZ h (lv_sub hL [1] rfl) hP hS
    · have h := h.2 hc
      refine lv_iload_n K.1 K.2.1 dM_readLine_34 rfl (lv_at hL 0 rfl) ?_
      refine lv_aload_n K.1 K.2.1 dM_readLine_35 rfl (lv_at hL 1 rfl) ?_
      refine x_get (v := .ref (ad 4)) K hP hinM (ci := 7) rfl 0 (by decide) rfl 7 (by decide) flM_19 rfl rfl dM_readLine_36 ?_
      refine lv_aload_n K.1 K.2.1 dM_readLine_39 rfl (lv_at hL 1 rfl) ?_
      refine x_get (v := .int ((u2 hi2 4 ((hi2 0 6).toNatClampNeg) r1) 0 6)) K hP hinM (ci := 7) rfl 0 (by decide) rfl 6 (by decide) flM_155 rfl rfl dM_readLine_40 ?_
      refine lv_iconst (v := 1) K.1 K.2.1 dM_readLine_43 (by decide) ?_
      refine lv_isub K.1 K.2.1 dM_readLine_44 ?_
      obtain ⟨g5, h⟩ := h
      refine x_iald K hP 4 (by decide) 0 rfl rfl g5 dM_readLine_45 ?_
      refine lv_icmp_le (tgt := 53) K.1 K.2.1 dM_readLine_46 rfl (fun hc => ?_) (fun hc => ?_)
      · have h := h.1 hc
        exact bM_readLine_53 K hr hZ h (lv_sub hL [1] rfl) hP hS
      · have h := h.2 hc
        exact bM_readLine_49 K hr hZ h (lv_sub hL [1] rfl) hP hS
set_option maxRecDepth 100000 in
set_option maxHeartbeats 4000000 in
theorem mM_readLine {l : Launch} {D : va_G} {cI cJ cC cZ cR : ClassId} {ad : Nat → Nat} {A : Nat → Prop} {Zs : State → Prop} (hZ : ZsOK A Zs) (hD : wlD 21 ad A) {hi : HI} {hl : HL} {Φ : Int32 → HI → HL → Prop} (h : wpM_readLine hi hl Φ) : SpI l yM_readLine cM_readLine 7 (some .boolean) gT 7 160 [.ref (ad 0)] D cls8 (tys5 cI cJ cC cZ cR) 21 ad (GM cI cZ ad) A Zs hi hl Φ := by
  refine Met.ofW (cc := cM_readLine) (maxL := 7) (ret := (some .boolean)) (by decide) rfl ?_
  intro p e s m args below meth c s₁ B hml hv
  obtain ⟨rfl, hP, hK, hZs⟩ := hv
  have K : Cx p (rmX 7 160) s m _ meth c cM_readLine 7 "WordCheckerModel" gT D cls8 (tys5 cI cJ cC cZ cR) 21 ad A Zs := ⟨B.exec, B.bytes, hml, findClass_of_methodNamed B.named, fun w hw => atoms_spec B.pre w (List.mem_cons_of_mem _ hw), B.notSynchronized, hK, hD, hZs⟩
  have hL := lv_entry ([.ref (ad 0)]) (n := 7) (Nat.le_of_ble_eq_true rfl)
  rw [lg_entry_eq]
  generalize (lg_sl ([.ref (ad 0)]) ++ List.replicate (7 - (lg_sl ([.ref (ad 0)])).length) Slot.unset).toArray = ls at hL ⊢
  have hL : lv_has ls 7 [(0, .ref (ad 0))] := hL
  unfold wpM_readLine at h
  exact bM_readLine_0 K B.returns hZ h (lv_sub hL [0] rfl) hP va_S.rf
set_option maxRecDepth 100000 in
set_option maxHeartbeats 4000000 in
theorem bM_line_27 {p : Program} {l : Launch} {e : Env} {s : State} {m : MethodId} {args : Array Value} {below : List Frame} {meth : Method} {c : Code} {D : va_G} {cI cJ cC cZ cR : ClassId} {ad : Nat → Nat} {A : Nat → Prop} {Zs : State → Prop} (K : Cx p (rmX 8 186) s m args meth c cM_line 2 "WordCheckerModel" gT D cls8 (tys5 cI cJ cC cZ cR) 21 ad A Zs) (hr : meth.sig.returnType = (some .int)) (hZ : ZsOK A Zs) {Φ : Int32 → HI → HL → Prop} {q0 : Int32} {hi : HI} {hl : HL} {H : Heap} {locs : List Loc} (h : wbM_line_27 q0 hi hl Φ) {ls : Array Slot} (hL : lv_has ls 2 [(0, .ref (ad 0))]) (hP : va_P D cls8 (wl 21 ad (GM cI cZ ad) hi hl) H) (hS : va_S A s.heap H locs) : W p l e (rmX 8 186) s m args below meth c H locs 0 0 (MQ below (va_Qi (fun r (u : HI × HL) => Φ r u.1 u.2) (fun u t => va_P D cls8 (wl 21 ad (GM cI cZ ad) u.1 u.2) t.heap) A) args s 0 0 A) (F0 m 27 ls [.int q0]) := by
  unfold wbM_line_27 at h
  refine lv_istore_n (lv' := [(1, .int q0), (0, .ref (ad 0))]) K.1 K.2.1 dM_line_27 rfl hL (by decide) rfl (fun ls hL => ?_)
  refine lv_iload_n K.1 K.2.1 dM_line_28 rfl (lv_at hL 0 rfl) ?_
  refine lv_if_ne (tgt := 39) K.1 K.2.1 dM_line_29 rfl (fun hc => ?_) (fun hc => ?_)
  · have h := h.2 hc
    refine lv_aload_n K.1 K.2.1 dM_line_39 rfl (lv_at hL 1 rfl) ?_
    refine x_get (v := .int (hi 0 6)) K hP hinM (ci := 7) rfl 0 (by decide) rfl 6 (by decide) flM_155 rfl rfl dM_line_40 ?_
    refine lv_bipush (v := 20) K.1 K.2.1 dM_line_43 (by decide) ?_
    refine lv_icmp_lt (tgt := 51) K.1 K.2.1 dM_line_45 rfl (fun hc => ?_) (fun hc => ?_)
    · have h := h.1 hc
      refine lv_aload_n K.1 K.2.1 dM_line_51 rfl (lv_at hL 1 rfl) ?_
      refine lv_aload_n K.1 K.2.1 dM_line_52 rfl (lv_at hL 1 rfl) ?_
      refine x_get (v := .int (hi 0 6)) K hP hinM (ci := 7) rfl 0 (by decide) rfl 6 (by decide) flM_155 rfl rfl dM_line_53 ?_
      refine lv_iconst (v := 1) K.1 K.2.1 dM_line_56 (by decide) ?_
      refine lv_iadd K.1 K.2.1 dM_line_57 ?_
      refine x_put (v := .int ((hi 0 6) + (1 : Int32))) K hP hS hinM tyM tyM_ok nmM (ci := 7) rfl 0 (by decide) rfl 6 (by decide) flM_155 rfl rfl ((hi 0 6) + (1 : Int32)) rfl rfl rfl (Nat.le_of_ble_eq_true rfl) dM_line_58 (fun H locs hP hS => ?_)
      refine lv_aload_n K.1 K.2.1 dM_line_61 rfl (lv_at hL 1 rfl) ?_
      refine lv_iconst (v := 0) K.1 K.2.1 dM_line_62 (by decide) ?_
      obtain ⟨g1, h⟩ := h
      refine x_put (v := .int (0 : Int32)) K hP hS hinM tyM tyM_ok nmM (ci := 7) rfl 0 (by decide) rfl 23 (by decide) flM_271 rfl rfl (0 : Int32) rfl g1.nar g1.fit (Nat.le_of_ble_eq_true rfl) dM_line_63 (fun H locs hP hS => ?_)
      refine lv_aload_n K.1 K.2.1 dM_line_66 rfl (lv_at hL 1 rfl) ?_
      refine lv_iconst (v := -1) K.1 K.2.1 dM_line_67 (by decide) ?_
      refine x_put (v := .int (-1 : Int32)) K hP hS hinM tyM tyM_ok nmM (ci := 7) rfl 0 (by decide) rfl 25 (by decide) flM_68 rfl rfl (-1 : Int32) rfl rfl rfl (Nat.le_of_ble_eq_true rfl) dM_line_68 (fun H locs hP hS => ?_)
      refine lv_aload_n K.1 K.2.1 dM_line_71 rfl (lv_at hL 1 rfl) ?_
      refine x_get (v := .ref (ad 4)) K hP hinM (ci := 7) rfl 0 (by decide) rfl 7 (by decide) flM_19 rfl rfl dM_line_72 ?_
      refine lv_aload_n K.1 K.2.1 dM_line_75 rfl (lv_at hL 1 rfl) ?_
      refine x_get (v := .int ((u2 (u2 (u2 hi 0 6 ((hi 0 6) + (1 : Int32))) 0 23 (0 : Int32)) 0 25 (-1 : Int32)) 0 6)) K hP hinM (ci := 7) rfl 0 (by decide) rfl 6 (by decide) flM_155 rfl rfl dM_line_76 ?_
      refine lv_iconst (v := 1) K.1 K.2.1 dM_line_79 (by decide) ?_
      refine lv_isub K.1 K.2.1 dM_line_80 ?_
      obtain ⟨g2, h⟩ := h
      refine x_iald K hP 4 (by decide) 0 rfl rfl g2 dM_line_81 ?_
      exact x_iret K hr hP hS h dM_line_82
    · have h := h.2 hc
      refine lv_bipush (v := -100) K.1 K.2.1 dM_line_48 (by decide) ?_
      exact x_iret K hr hP hS h dM_line_50
  · have h := h.1 hc
    refine lv_iconst (v := -1) K.1 K.2.1 dM_line_32 (by decide) ?_
    refine lv_aload_n K.1 K.2.1 dM_line_33 rfl (lv_at hL 1 rfl) ?_
    refine x_get (v := .int (hi 0 5)) K hP hinM (ci := 7) rfl 0 (by decide) rfl 5 (by decide) flM_158 rfl rfl dM_line_34 ?_
    refine lv_isub K.1 K.2.1 dM_line_37 ?_
    exact x_iret K hr hP hS h dM_line_38
set_option maxRecDepth 100000 in
set_option maxHeartbeats 4000000 in
theorem bM_line_26 {p : Program} {l : Launch} {e : Env} {s : State} {m : MethodId} {args : Array Value} {below : List Frame} {meth : Method} {c : Code} {D : va_G} {cI cJ cC cZ cR : ClassId} {ad : Nat → Nat} {A : Nat → Prop} {Zs : State → Prop} (K : Cx p (rmX 8 186) s m args meth c cM_line 2 "WordCheckerModel" gT D cls8 (tys5 cI cJ cC cZ cR) 21 ad A Zs) (hr : meth.sig.returnType = (some .int)) (hZ : ZsOK A Zs) {Φ : Int32 → HI → HL → Prop} {hi : HI} {hl : HL} {H : Heap} {locs : List Loc} (h : wbM_line_26 hi hl Φ) {ls : Array Slot} (hL : lv_has ls 2 [(0, .ref (ad 0))]) (hP : va_P D cls8 (wl 21 ad (GM cI cZ ad) hi hl) H) (hS : va_S A s.heap H locs) : W p l e (rmX 8 186) s m args below meth c H locs 0 0 (MQ below (va_Qi (fun r (u : HI × HL) => Φ r u.1 u.2) (fun u t => va_P D cls8 (wl 21 ad (GM cI cZ ad) u.1 u.2) t.heap) A) args s 0 0 A) (F0 m 26 ls []) := by
  unfold wbM_line_26 at h
  refine lv_iconst (v := 0) K.1 K.2.1 dM_line_26 (by decide) ?_
  exact bM_line_27 K hr hZ h (lv_sub hL [0] rfl) hP hS
set_option maxRecDepth 100000 in
set_option maxHeartbeats 4000000 in
theorem bM_line_0 {p : Program} {l : Launch} {e : Env} {s : State} {m : MethodId} {args : Array Value} {below : List Frame} {meth : Method} {c : Code} {D : va_G} {cI cJ cC cZ cR : ClassId} {ad : Nat → Nat} {A : Nat → Prop} {Zs : State → Prop} (K : Cx p (rmX 8 186) s m args meth c cM_line 2 "WordCheckerModel" gT D cls8 (tys5 cI cJ cC cZ cR) 21 ad A Zs) (hr : meth.sig.returnType = (some .int)) (hZ : ZsOK A Zs) {Φ : Int32 → HI → HL → Prop} {hi : HI} {hl : HL} {H : Heap} {locs : List Loc} (h : wbM_line_0 hi hl Φ) {ls : Array Slot} (hL : lv_has ls 2 [(0, .ref (ad 0))]) (hP : va_P D cls8 (wl 21 ad (GM cI cZ ad) hi hl) H) (hS : va_S A s.heap H locs) : W p l e (rmX 8 186) s m args below meth c H locs 0 0 (MQ below (va_Qi (fun r (u : HI × HL) => Φ r u.1 u.2) (fun u t => va_P D cls8 (wl 21 ad (GM cI cZ ad) u.1 u.2) t.heap) A) args s 0 0 A) (F0 m 0 ls []) := by
  unfold wbM_line_0 at h
  refine lv_aload_n K.1 K.2.1 dM_line_0 rfl (lv_at hL 0 rfl) ?_
  refine x_cVV (As := []) (rest := []) K gT_good hZ hP hS calM_split mlM_265 0 (by decide) rfl rfl (mM_split hZ K.2.2.2.2.2.2.2.1 h) ⟨Nat.le_of_ble_eq_true rfl, Nat.le_of_ble_eq_true rfl⟩ rfl hL.1 rfl (Nat.le_of_ble_eq_true rfl) dM_line_1 (fun hi2 hl3 H locs h hP hS => ?_)
  refine lv_aload_n K.1 K.2.1 dM_line_4 rfl (lv_at hL 0 rfl) ?_
  refine x_cVI (As := []) (rest := []) K gT_good hZ hP hS calM_readLine mlM_268 0 (by decide) rfl rfl (mM_readLine hZ K.2.2.2.2.2.2.2.1 h) ⟨Nat.le_of_ble_eq_true rfl, Nat.le_of_ble_eq_true rfl⟩ rfl hL.1 rfl (Nat.le_of_ble_eq_true rfl) dM_line_5 (fun r4 hi5 hl6 H locs h hP hS => ?_)
  refine lv_if_eq (tgt := 26) K.1 K.2.1 dM_line_8 rfl (fun hc => ?_) (fun hc => ?_)
  · have h := h.1 hc
    exact bM_line_26 K hr hZ h (lv_sub hL [0] rfl) hP hS
  · have h := h.2 hc
    refine lv_aload_n K.1 K.2.1 dM_line_11 rfl (lv_at hL 0 rfl) ?_
    refine x_get (v := .int (hi5 0 5)) K hP hinM (ci := 7) rfl 0 (by decide) rfl 5 (by decide) flM_158 rfl rfl dM_line_12 ?_
    refine lv_aload_n K.1 K.2.1 dM_line_15 rfl (lv_at hL 0 rfl) ?_
    refine x_get (v := .int (hi5 0 2)) K hP hinM (ci := 7) rfl 0 (by decide) rfl 2 (by decide) flM_82 rfl rfl dM_line_16 ?_
    refine lv_icmp_ne (tgt := 26) K.1 K.2.1 dM_line_19 rfl (fun hc => ?_) (fun hc => ?_)
    · have h := h.2 hc
      exact bM_line_26 K hr hZ h (lv_sub hL [0] rfl) hP hS
    · have h := h.1 hc
      refine lv_iconst (v := 1) K.1 K.2.1 dM_line_22 (by decide) ?_
      refine lv_goto (tgt := 27) K.1 K.2.1 dM_line_23 rfl ?_
      exact bM_line_27 K hr hZ h (lv_sub hL [0] rfl) hP hS
set_option maxRecDepth 100000 in
set_option maxHeartbeats 4000000 in
theorem mM_line {l : Launch} {D : va_G} {cI cJ cC cZ cR : ClassId} {ad : Nat → Nat} {A : Nat → Prop} {Zs : State → Prop} (hZ : ZsOK A Zs) (hD : wlD 21 ad A) {hi : HI} {hl : HL} {Φ : Int32 → HI → HL → Prop} (h : wpM_line hi hl Φ) : SpI l yM_line cM_line 2 (some .int) gT 8 186 [.ref (ad 0)] D cls8 (tys5 cI cJ cC cZ cR) 21 ad (GM cI cZ ad) A Zs hi hl Φ := by
  refine Met.ofW (cc := cM_line) (maxL := 2) (ret := (some .int)) (by decide) rfl ?_
  intro p e s m args below meth c s₁ B hml hv
  obtain ⟨rfl, hP, hK, hZs⟩ := hv
  have K : Cx p (rmX 8 186) s m _ meth c cM_line 2 "WordCheckerModel" gT D cls8 (tys5 cI cJ cC cZ cR) 21 ad A Zs := ⟨B.exec, B.bytes, hml, findClass_of_methodNamed B.named, fun w hw => atoms_spec B.pre w (List.mem_cons_of_mem _ hw), B.notSynchronized, hK, hD, hZs⟩
  have hL := lv_entry ([.ref (ad 0)]) (n := 2) (Nat.le_of_ble_eq_true rfl)
  rw [lg_entry_eq]
  generalize (lg_sl ([.ref (ad 0)]) ++ List.replicate (2 - (lg_sl ([.ref (ad 0)])).length) Slot.unset).toArray = ls at hL ⊢
  have hL : lv_has ls 2 [(0, .ref (ad 0))] := hL
  unfold wpM_line at h
  exact bM_line_0 K B.returns hZ h (lv_sub hL [0] rfl) hP va_S.rf
set_option maxRecDepth 100000 in
set_option maxHeartbeats 4000000 in
theorem bM_lines_0 {p : Program} {l : Launch} {e : Env} {s : State} {m : MethodId} {args : Array Value} {below : List Frame} {meth : Method} {c : Code} {D : va_G} {cI cJ cC cZ cR : ClassId} {ad : Nat → Nat} {A : Nat → Prop} {Zs : State → Prop} (K : Cx p (rmX 0 0) s m args meth c cM_lines 1 "WordCheckerModel" gT D cls8 (tys5 cI cJ cC cZ cR) 21 ad A Zs) (hr : meth.sig.returnType = (some .int)) (hZ : ZsOK A Zs) {Φ : Int32 → HI → HL → Prop} {hi : HI} {hl : HL} {H : Heap} {locs : List Loc} (h : wbM_lines_0 hi hl Φ) {ls : Array Slot} (hL : lv_has ls 1 [(0, .ref (ad 0))]) (hP : va_P D cls8 (wl 21 ad (GM cI cZ ad) hi hl) H) (hS : va_S A s.heap H locs) : W p l e (rmX 0 0) s m args below meth c H locs 0 0 (MQ below (va_Qi (fun r (u : HI × HL) => Φ r u.1 u.2) (fun u t => va_P D cls8 (wl 21 ad (GM cI cZ ad) u.1 u.2) t.heap) A) args s 0 0 A) (F0 m 0 ls []) := by
  unfold wbM_lines_0 at h
  refine lv_aload_n K.1 K.2.1 dM_lines_0 rfl (lv_at hL 0 rfl) ?_
  refine x_get (v := .int (hi 0 6)) K hP hinM (ci := 7) rfl 0 (by decide) rfl 6 (by decide) flM_155 rfl rfl dM_lines_1 ?_
  exact x_iret K hr hP hS h dM_lines_4
set_option maxRecDepth 100000 in
set_option maxHeartbeats 4000000 in
theorem mM_lines {l : Launch} {D : va_G} {cI cJ cC cZ cR : ClassId} {ad : Nat → Nat} {A : Nat → Prop} {Zs : State → Prop} (hZ : ZsOK A Zs) (hD : wlD 21 ad A) {hi : HI} {hl : HL} {Φ : Int32 → HI → HL → Prop} (h : wpM_lines hi hl Φ) : SpI l yM_lines cM_lines 1 (some .int) gT 0 0 [.ref (ad 0)] D cls8 (tys5 cI cJ cC cZ cR) 21 ad (GM cI cZ ad) A Zs hi hl Φ := by
  refine Met.ofW (cc := cM_lines) (maxL := 1) (ret := (some .int)) (by decide) rfl ?_
  intro p e s m args below meth c s₁ B hml hv
  obtain ⟨rfl, hP, hK, hZs⟩ := hv
  have K : Cx p (rmX 0 0) s m _ meth c cM_lines 1 "WordCheckerModel" gT D cls8 (tys5 cI cJ cC cZ cR) 21 ad A Zs := ⟨B.exec, B.bytes, hml, findClass_of_methodNamed B.named, fun w hw => atoms_spec B.pre w (List.mem_cons_of_mem _ hw), B.notSynchronized, hK, hD, hZs⟩
  have hL := lv_entry ([.ref (ad 0)]) (n := 1) (Nat.le_of_ble_eq_true rfl)
  rw [lg_entry_eq]
  generalize (lg_sl ([.ref (ad 0)]) ++ List.replicate (1 - (lg_sl ([.ref (ad 0)])).length) Slot.unset).toArray = ls at hL ⊢
  have hL : lv_has ls 1 [(0, .ref (ad 0))] := hL
  unfold wpM_lines at h
  exact bM_lines_0 K B.returns hZ h (lv_sub hL [0] rfl) hP va_S.rf
set_option maxRecDepth 100000 in
set_option maxHeartbeats 4000000 in
theorem bM_get_0 {p : Program} {l : Launch} {e : Env} {s : State} {m : MethodId} {args : Array Value} {below : List Frame} {meth : Method} {c : Code} {D : va_G} {cI cJ cC cZ cR : ClassId} {ad : Nat → Nat} {A : Nat → Prop} {Zs : State → Prop} (K : Cx p (rmX 0 0) s m args meth c cM_get 3 "WordCheckerModel" gT D cls8 (tys5 cI cJ cC cZ cR) 21 ad A Zs) (hr : meth.sig.returnType = (some .int)) (hZ : ZsOK A Zs) {Φ : Int32 → HI → HL → Prop} {v1 : Int32} {v2 : Int32} {hi : HI} {hl : HL} {H : Heap} {locs : List Loc} (h : wbM_get_0 v1 v2 hi hl Φ) {ls : Array Slot} (hL : lv_has ls 3 [(0, .ref (ad 0)), (1, .int v1), (2, .int v2)]) (hP : va_P D cls8 (wl 21 ad (GM cI cZ ad) hi hl) H) (hS : va_S A s.heap H locs) : W p l e (rmX 0 0) s m args below meth c H locs 0 0 (MQ below (va_Qi (fun r (u : HI × HL) => Φ r u.1 u.2) (fun u t => va_P D cls8 (wl 21 ad (GM cI cZ ad) u.1 u.2) t.heap) A) args s 0 0 A) (F0 m 0 ls []) := by
  unfold wbM_get_0 at h
  refine lv_iload_n K.1 K.2.1 dM_get_0 rfl (lv_at hL 2 rfl) ?_
  refine lv_if_eq (tgt := 29) K.1 K.2.1 dM_get_1 rfl (fun hc => ?_) (fun hc => ?_)
  · have h := h.1 hc
    refine lv_aload_n K.1 K.2.1 dM_get_29 rfl (lv_at hL 0 rfl) ?_
    refine x_get (v := .ref (ad 17)) K hP hinM (ci := 7) rfl 0 (by decide) rfl 21 (by decide) flM_59 rfl rfl dM_get_30 ?_
    refine lv_iload_n K.1 K.2.1 dM_get_33 rfl (lv_at hL 1 rfl) ?_
    obtain ⟨g1, h⟩ := h
    refine x_iald K hP 17 (by decide) 0 rfl rfl g1 dM_get_34 ?_
    exact x_iret K hr hP hS h dM_get_35
  · have h := h.2 hc
    refine lv_iconst (v := 1) K.1 K.2.1 dM_get_4 (by decide) ?_
    refine lv_aload_n K.1 K.2.1 dM_get_5 rfl (lv_at hL 0 rfl) ?_
    refine x_get (v := .ref (ad 16)) K hP hinM (ci := 7) rfl 0 (by decide) rfl 19 (by decide) flM_56 rfl rfl dM_get_6 ?_
    refine lv_aload_n K.1 K.2.1 dM_get_9 rfl (lv_at hL 0 rfl) ?_
    refine x_get (v := .ref (ad 6)) K hP hinM (ci := 7) rfl 0 (by decide) rfl 9 (by decide) flM_25 rfl rfl dM_get_10 ?_
    refine lv_iload_n K.1 K.2.1 dM_get_13 rfl (lv_at hL 1 rfl) ?_
    obtain ⟨g2, h⟩ := h
    refine x_iald K hP 6 (by decide) 0 rfl rfl g2 dM_get_14 ?_
    obtain ⟨g3, h⟩ := h
    refine x_iald K hP 16 (by decide) 0 rfl rfl g3 dM_get_15 ?_
    refine lv_ishl K.1 K.2.1 dM_get_16 ?_
    refine lv_iconst (v := 1) K.1 K.2.1 dM_get_17 (by decide) ?_
    refine lv_isub K.1 K.2.1 dM_get_18 ?_
    refine lv_aload_n K.1 K.2.1 dM_get_19 rfl (lv_at hL 0 rfl) ?_
    refine x_get (v := .ref (ad 17)) K hP hinM (ci := 7) rfl 0 (by decide) rfl 21 (by decide) flM_59 rfl rfl dM_get_20 ?_
    refine lv_iload_n K.1 K.2.1 dM_get_23 rfl (lv_at hL 1 rfl) ?_
    obtain ⟨g4, h⟩ := h
    refine x_iald K hP 17 (by decide) 0 rfl rfl g4 dM_get_24 ?_
    refine lv_isub K.1 K.2.1 dM_get_25 ?_
    refine lv_goto (tgt := 35) K.1 K.2.1 dM_get_26 rfl ?_
    exact x_iret K hr hP hS h dM_get_35
set_option maxRecDepth 100000 in
set_option maxHeartbeats 4000000 in
theorem mM_get {l : Launch} {D : va_G} {cI cJ cC cZ cR : ClassId} {ad : Nat → Nat} {A : Nat → Prop} {Zs : State → Prop} (hZ : ZsOK A Zs) (hD : wlD 21 ad A) {v1 : Int32} {v2 : Int32} {hi : HI} {hl : HL} {Φ : Int32 → HI → HL → Prop} (h : wpM_get v1 v2 hi hl Φ) : SpI l yM_get cM_get 3 (some .int) gT 0 0 [.ref (ad 0), .int v1, .int v2] D cls8 (tys5 cI cJ cC cZ cR) 21 ad (GM cI cZ ad) A Zs hi hl Φ := by
  refine Met.ofW (cc := cM_get) (maxL := 3) (ret := (some .int)) (by decide) rfl ?_
  intro p e s m args below meth c s₁ B hml hv
  obtain ⟨rfl, hP, hK, hZs⟩ := hv
  have K : Cx p (rmX 0 0) s m _ meth c cM_get 3 "WordCheckerModel" gT D cls8 (tys5 cI cJ cC cZ cR) 21 ad A Zs := ⟨B.exec, B.bytes, hml, findClass_of_methodNamed B.named, fun w hw => atoms_spec B.pre w (List.mem_cons_of_mem _ hw), B.notSynchronized, hK, hD, hZs⟩
  have hL := lv_entry ([.ref (ad 0), .int v1, .int v2]) (n := 3) (Nat.le_of_ble_eq_true rfl)
  rw [lg_entry_eq]
  generalize (lg_sl ([.ref (ad 0), .int v1, .int v2]) ++ List.replicate (3 - (lg_sl ([.ref (ad 0), .int v1, .int v2])).length) Slot.unset).toArray = ls at hL ⊢
  have hL : lv_has ls 3 [(0, .ref (ad 0)), (1, .int v1), (2, .int v2)] := hL
  unfold wpM_get at h
  exact bM_get_0 K B.returns hZ h (lv_sub hL [0, 1, 2] rfl) hP va_S.rf
set_option maxRecDepth 100000 in
set_option maxHeartbeats 4000000 in
theorem bM_sign_0 {p : Program} {l : Launch} {e : Env} {s : State} {m : MethodId} {args : Array Value} {below : List Frame} {meth : Method} {c : Code} {D : va_G} {cI cJ cC cZ cR : ClassId} {ad : Nat → Nat} {A : Nat → Prop} {Zs : State → Prop} (K : Cx p (rmX 0 0) s m args meth c cM_sign 3 "WordCheckerModel" gT D cls8 (tys5 cI cJ cC cZ cR) 21 ad A Zs) (hr : meth.sig.returnType = (some .int)) (hZ : ZsOK A Zs) {Φ : Int32 → HI → HL → Prop} {v1 : Int32} {v2 : Int32} {hi : HI} {hl : HL} {H : Heap} {locs : List Loc} (h : wbM_sign_0 v1 v2 hi hl Φ) {ls : Array Slot} (hL : lv_has ls 3 [(1, .int v1), (2, .int v2)]) (hP : va_P D cls8 (wl 21 ad (GM cI cZ ad) hi hl) H) (hS : va_S A s.heap H locs) : W p l e (rmX 0 0) s m args below meth c H locs 0 0 (MQ below (va_Qi (fun r (u : HI × HL) => Φ r u.1 u.2) (fun u t => va_P D cls8 (wl 21 ad (GM cI cZ ad) u.1 u.2) t.heap) A) args s 0 0 A) (F0 m 0 ls []) := by
  unfold wbM_sign_0 at h
  refine lv_iload_n K.1 K.2.1 dM_sign_0 rfl (lv_at hL 0 rfl) ?_
  refine lv_iconst (v := 1) K.1 K.2.1 dM_sign_1 (by decide) ?_
  refine lv_iload_n K.1 K.2.1 dM_sign_2 rfl (lv_at hL 1 rfl) ?_
  refine lv_iconst (v := 1) K.1 K.2.1 dM_sign_3 (by decide) ?_
  refine lv_isub K.1 K.2.1 dM_sign_4 ?_
  refine lv_ishl K.1 K.2.1 dM_sign_5 ?_
  refine lv_icmp_lt (tgt := 17) K.1 K.2.1 dM_sign_6 rfl (fun hc => ?_) (fun hc => ?_)
  · have h := h.1 hc
    refine lv_iload_n K.1 K.2.1 dM_sign_17 rfl (lv_at hL 0 rfl) ?_
    exact x_iret K hr hP hS h dM_sign_18
  · have h := h.2 hc
    refine lv_iload_n K.1 K.2.1 dM_sign_9 rfl (lv_at hL 0 rfl) ?_
    refine lv_iconst (v := 1) K.1 K.2.1 dM_sign_10 (by decide) ?_
    refine lv_iload_n K.1 K.2.1 dM_sign_11 rfl (lv_at hL 1 rfl) ?_
    refine lv_ishl K.1 K.2.1 dM_sign_12 ?_
    refine lv_isub K.1 K.2.1 dM_sign_13 ?_
    refine lv_goto (tgt := 18) K.1 K.2.1 dM_sign_14 rfl ?_
    exact x_iret K hr hP hS h dM_sign_18
set_option maxRecDepth 100000 in
set_option maxHeartbeats 4000000 in
theorem mM_sign {l : Launch} {D : va_G} {cI cJ cC cZ cR : ClassId} {ad : Nat → Nat} {A : Nat → Prop} {Zs : State → Prop} (hZ : ZsOK A Zs) (hD : wlD 21 ad A) {v1 : Int32} {v2 : Int32} {hi : HI} {hl : HL} {Φ : Int32 → HI → HL → Prop} (h : wpM_sign v1 v2 hi hl Φ) : SpI l yM_sign cM_sign 3 (some .int) gT 0 0 [.ref (ad 0), .int v1, .int v2] D cls8 (tys5 cI cJ cC cZ cR) 21 ad (GM cI cZ ad) A Zs hi hl Φ := by
  refine Met.ofW (cc := cM_sign) (maxL := 3) (ret := (some .int)) (by decide) rfl ?_
  intro p e s m args below meth c s₁ B hml hv
  obtain ⟨rfl, hP, hK, hZs⟩ := hv
  have K : Cx p (rmX 0 0) s m _ meth c cM_sign 3 "WordCheckerModel" gT D cls8 (tys5 cI cJ cC cZ cR) 21 ad A Zs := ⟨B.exec, B.bytes, hml, findClass_of_methodNamed B.named, fun w hw => atoms_spec B.pre w (List.mem_cons_of_mem _ hw), B.notSynchronized, hK, hD, hZs⟩
  have hL := lv_entry ([.ref (ad 0), .int v1, .int v2]) (n := 3) (Nat.le_of_ble_eq_true rfl)
  rw [lg_entry_eq]
  generalize (lg_sl ([.ref (ad 0), .int v1, .int v2]) ++ List.replicate (3 - (lg_sl ([.ref (ad 0), .int v1, .int v2])).length) Slot.unset).toArray = ls at hL ⊢
  have hL : lv_has ls 3 [(0, .ref (ad 0)), (1, .int v1), (2, .int v2)] := hL
  unfold wpM_sign at h
  exact bM_sign_0 K B.returns hZ h (lv_sub hL [1, 2] rfl) hP va_S.rf
set_option maxRecDepth 100000 in
set_option maxHeartbeats 4000000 in
theorem bM_binary_0 {p : Program} {l : Launch} {e : Env} {s : State} {m : MethodId} {args : Array Value} {below : List Frame} {meth : Method} {c : Code} {D : va_G} {cI cJ cC cZ cR : ClassId} {ad : Nat → Nat} {A : Nat → Prop} {Zs : State → Prop} (K : Cx p (rmX 0 0) s m args meth c cM_binary 6 "WordCheckerModel" gT D cls8 (tys5 cI cJ cC cZ cR) 21 ad A Zs) (hr : meth.sig.returnType = (some .int)) (hZ : ZsOK A Zs) {Φ : Int32 → HI → HL → Prop} {v1 : Int32} {v2 : Int32} {v3 : Int32} {v4 : Int32} {hi : HI} {hl : HL} {H : Heap} {locs : List Loc} (h : wbM_binary_0 v1 v2 v3 v4 hi hl Φ) {ls : Array Slot} (hL : lv_has ls 6 [(1, .int v1), (2, .int v2), (3, .int v3), (4, .int v4)]) (hP : va_P D cls8 (wl 21 ad (GM cI cZ ad) hi hl) H) (hS : va_S A s.heap H locs) : W p l e (rmX 0 0) s m args below meth c H locs 0 0 (MQ below (va_Qi (fun r (u : HI × HL) => Φ r u.1 u.2) (fun u t => va_P D cls8 (wl 21 ad (GM cI cZ ad) u.1 u.2) t.heap) A) args s 0 0 A) (F0 m 0 ls []) := by
  unfold wbM_binary_0 at h
  refine lv_iconst (v := 1) K.1 K.2.1 dM_binary_0 (by decide) ?_
  refine lv_iload K.1 K.2.1 dM_binary_1 (lv_at hL 3 rfl) ?_
  refine lv_ishl K.1 K.2.1 dM_binary_3 ?_
  refine lv_iconst (v := 1) K.1 K.2.1 dM_binary_4 (by decide) ?_
  refine lv_isub K.1 K.2.1 dM_binary_5 ?_
  refine lv_istore (lv' := [(5, .int (((1 : Int32) <<< (v4 &&& 31)) - (1 : Int32))), (1, .int v1), (2, .int v2), (3, .int v3), (4, .int v4)]) K.1 K.2.1 dM_binary_6 hL (by decide) rfl (fun ls hL => ?_)
  refine lv_iload_n K.1 K.2.1 dM_binary_8 rfl (lv_at hL 1 rfl) ?_
  by_cases hc0 : v1 = 7
  · have h := h.1 hc0
    refine lv_tableIn (off := 51) (tgt := 60) K.1 K.2.1 dM_binary_9 (by rw [hc0]; decide) (by rw [hc0]; decide) (by rw [hc0]; rfl) rfl ?_
    refine lv_iload_n K.1 K.2.1 dM_binary_60 rfl (lv_at hL 2 rfl) ?_
    refine lv_iload_n K.1 K.2.1 dM_binary_61 rfl (lv_at hL 3 rfl) ?_
    refine lv_iand K.1 K.2.1 dM_binary_62 ?_
    exact x_iret K hr hP hS h dM_binary_63
  by_cases hc1 : v1 = 8
  · have h := h.2.1 hc1
    refine lv_tableIn (off := 55) (tgt := 64) K.1 K.2.1 dM_binary_9 (by rw [hc1]; decide) (by rw [hc1]; decide) (by rw [hc1]; rfl) rfl ?_
    refine lv_iload_n K.1 K.2.1 dM_binary_64 rfl (lv_at hL 2 rfl) ?_
    refine lv_iload_n K.1 K.2.1 dM_binary_65 rfl (lv_at hL 3 rfl) ?_
    refine lv_ior K.1 K.2.1 dM_binary_66 ?_
    exact x_iret K hr hP hS h dM_binary_67
  by_cases hc2 : v1 = 9
  · have h := h.2.2.1 hc2
    refine lv_tableIn (off := 59) (tgt := 68) K.1 K.2.1 dM_binary_9 (by rw [hc2]; decide) (by rw [hc2]; decide) (by rw [hc2]; rfl) rfl ?_
    refine lv_iload_n K.1 K.2.1 dM_binary_68 rfl (lv_at hL 2 rfl) ?_
    refine lv_iload_n K.1 K.2.1 dM_binary_69 rfl (lv_at hL 3 rfl) ?_
    refine lv_ixor K.1 K.2.1 dM_binary_70 ?_
    exact x_iret K hr hP hS h dM_binary_71
  by_cases hc3 : v1 = 10
  · have h := h.2.2.2.1 hc3
    refine lv_tableIn (off := 63) (tgt := 72) K.1 K.2.1 dM_binary_9 (by rw [hc3]; decide) (by rw [hc3]; decide) (by rw [hc3]; rfl) rfl ?_
    refine lv_iload_n K.1 K.2.1 dM_binary_72 rfl (lv_at hL 2 rfl) ?_
    refine lv_iload_n K.1 K.2.1 dM_binary_73 rfl (lv_at hL 3 rfl) ?_
    refine lv_iadd K.1 K.2.1 dM_binary_74 ?_
    refine lv_iload K.1 K.2.1 dM_binary_75 (lv_at hL 0 rfl) ?_
    refine lv_iand K.1 K.2.1 dM_binary_77 ?_
    exact x_iret K hr hP hS h dM_binary_78
  by_cases hc4 : v1 = 11
  · have h := h.2.2.2.2.1 hc4
    refine lv_tableIn (off := 70) (tgt := 79) K.1 K.2.1 dM_binary_9 (by rw [hc4]; decide) (by rw [hc4]; decide) (by rw [hc4]; rfl) rfl ?_
    refine lv_iload_n K.1 K.2.1 dM_binary_79 rfl (lv_at hL 2 rfl) ?_
    refine lv_iload_n K.1 K.2.1 dM_binary_80 rfl (lv_at hL 3 rfl) ?_
    refine lv_isub K.1 K.2.1 dM_binary_81 ?_
    refine lv_iload K.1 K.2.1 dM_binary_82 (lv_at hL 0 rfl) ?_
    refine lv_iand K.1 K.2.1 dM_binary_84 ?_
    exact x_iret K hr hP hS h dM_binary_85
  by_cases hc5 : v1 = 12
  · have h := h.2.2.2.2.2.1 hc5
    refine lv_tableIn (off := 77) (tgt := 86) K.1 K.2.1 dM_binary_9 (by rw [hc5]; decide) (by rw [hc5]; decide) (by rw [hc5]; rfl) rfl ?_
    refine lv_iload_n K.1 K.2.1 dM_binary_86 rfl (lv_at hL 2 rfl) ?_
    refine lv_iload_n K.1 K.2.1 dM_binary_87 rfl (lv_at hL 3 rfl) ?_
    refine lv_imul K.1 K.2.1 dM_binary_88 ?_
    refine lv_iload K.1 K.2.1 dM_binary_89 (lv_at hL 0 rfl) ?_
    refine lv_iand K.1 K.2.1 dM_binary_91 ?_
    exact x_iret K hr hP hS h dM_binary_92
  by_cases hc6 : v1 = 13
  · have h := h.2.2.2.2.2.2.1 hc6
    refine lv_tableIn (off := 84) (tgt := 93) K.1 K.2.1 dM_binary_9 (by rw [hc6]; decide) (by rw [hc6]; decide) (by rw [hc6]; rfl) rfl ?_
    refine lv_iload_n K.1 K.2.1 dM_binary_93 rfl (lv_at hL 3 rfl) ?_
    refine lv_if_ne (tgt := 102) K.1 K.2.1 dM_binary_94 rfl (fun hc => ?_) (fun hc => ?_)
    · have h := h.2 hc
      refine lv_iload_n K.1 K.2.1 dM_binary_102 rfl (lv_at hL 2 rfl) ?_
      refine lv_iload_n K.1 K.2.1 dM_binary_103 rfl (lv_at hL 3 rfl) ?_
      obtain ⟨g1, h⟩ := h
      refine lv_idiv K.1 K.2.1 dM_binary_104 g1 ?_
      exact x_iret K hr hP hS h dM_binary_105
    · have h := h.1 hc
      refine lv_iload K.1 K.2.1 dM_binary_97 (lv_at hL 0 rfl) ?_
      refine lv_goto (tgt := 105) K.1 K.2.1 dM_binary_99 rfl ?_
      exact x_iret K hr hP hS h dM_binary_105
  by_cases hc7 : v1 = 14
  · have h := h.2.2.2.2.2.2.2.1 hc7
    refine lv_tableIn (off := 97) (tgt := 106) K.1 K.2.1 dM_binary_9 (by rw [hc7]; decide) (by rw [hc7]; decide) (by rw [hc7]; rfl) rfl ?_
    refine lv_iload_n K.1 K.2.1 dM_binary_106 rfl (lv_at hL 3 rfl) ?_
    refine lv_if_ne (tgt := 114) K.1 K.2.1 dM_binary_107 rfl (fun hc => ?_) (fun hc => ?_)
    · have h := h.2 hc
      refine lv_iload_n K.1 K.2.1 dM_binary_114 rfl (lv_at hL 2 rfl) ?_
      refine lv_iload_n K.1 K.2.1 dM_binary_115 rfl (lv_at hL 3 rfl) ?_
      obtain ⟨g2, h⟩ := h
      refine lv_irem K.1 K.2.1 dM_binary_116 g2 ?_
      exact x_iret K hr hP hS h dM_binary_117
    · have h := h.1 hc
      refine lv_iload_n K.1 K.2.1 dM_binary_110 rfl (lv_at hL 2 rfl) ?_
      refine lv_goto (tgt := 117) K.1 K.2.1 dM_binary_111 rfl ?_
      exact x_iret K hr hP hS h dM_binary_117
  by_cases hc8 : v1 = 15
  · have h := h.2.2.2.2.2.2.2.2.1 hc8
    refine lv_tableIn (off := 109) (tgt := 118) K.1 K.2.1 dM_binary_9 (by rw [hc8]; decide) (by rw [hc8]; decide) (by rw [hc8]; rfl) rfl ?_
    refine lv_iload_n K.1 K.2.1 dM_binary_118 rfl (lv_at hL 2 rfl) ?_
    refine lv_iload_n K.1 K.2.1 dM_binary_119 rfl (lv_at hL 3 rfl) ?_
    refine lv_ishl K.1 K.2.1 dM_binary_120 ?_
    refine lv_iload K.1 K.2.1 dM_binary_121 (lv_at hL 0 rfl) ?_
    refine lv_iand K.1 K.2.1 dM_binary_123 ?_
    exact x_iret K hr hP hS h dM_binary_124
  have h := h.2.2.2.2.2.2.2.2.2 hc0 hc1 hc2 hc3 hc4 hc5 hc6 hc7 hc8
  refine lv_tableOut (tgt := 125) K.1 K.2.1 dM_binary_9 (by have e0 := i_ne hc0 (n := 7) (by decide); have e1 := i_ne hc1 (n := 8) (by decide); have e2 := i_ne hc2 (n := 9) (by decide); have e3 := i_ne hc3 (n := 10) (by decide); have e4 := i_ne hc4 (n := 11) (by decide); have e5 := i_ne hc5 (n := 12) (by decide); have e6 := i_ne hc6 (n := 13) (by decide); have e7 := i_ne hc7 (n := 14) (by decide); have e8 := i_ne hc8 (n := 15) (by decide); omega) rfl ?_
  refine lv_iload_n K.1 K.2.1 dM_binary_125 rfl (lv_at hL 2 rfl) ?_
  refine lv_iload_n K.1 K.2.1 dM_binary_126 rfl (lv_at hL 3 rfl) ?_
  refine lv_ishr K.1 K.2.1 dM_binary_127 ?_
  exact x_iret K hr hP hS h dM_binary_128
set_option maxRecDepth 100000 in
set_option maxHeartbeats 4000000 in
theorem mM_binary {l : Launch} {D : va_G} {cI cJ cC cZ cR : ClassId} {ad : Nat → Nat} {A : Nat → Prop} {Zs : State → Prop} (hZ : ZsOK A Zs) (hD : wlD 21 ad A) {v1 : Int32} {v2 : Int32} {v3 : Int32} {v4 : Int32} {hi : HI} {hl : HL} {Φ : Int32 → HI → HL → Prop} (h : wpM_binary v1 v2 v3 v4 hi hl Φ) : SpI l yM_binary cM_binary 6 (some .int) gT 0 0 [.ref (ad 0), .int v1, .int v2, .int v3, .int v4] D cls8 (tys5 cI cJ cC cZ cR) 21 ad (GM cI cZ ad) A Zs hi hl Φ := by
  refine Met.ofW (cc := cM_binary) (maxL := 6) (ret := (some .int)) (by decide) rfl ?_
  intro p e s m args below meth c s₁ B hml hv
  obtain ⟨rfl, hP, hK, hZs⟩ := hv
  have K : Cx p (rmX 0 0) s m _ meth c cM_binary 6 "WordCheckerModel" gT D cls8 (tys5 cI cJ cC cZ cR) 21 ad A Zs := ⟨B.exec, B.bytes, hml, findClass_of_methodNamed B.named, fun w hw => atoms_spec B.pre w (List.mem_cons_of_mem _ hw), B.notSynchronized, hK, hD, hZs⟩
  have hL := lv_entry ([.ref (ad 0), .int v1, .int v2, .int v3, .int v4]) (n := 6) (Nat.le_of_ble_eq_true rfl)
  rw [lg_entry_eq]
  generalize (lg_sl ([.ref (ad 0), .int v1, .int v2, .int v3, .int v4]) ++ List.replicate (6 - (lg_sl ([.ref (ad 0), .int v1, .int v2, .int v3, .int v4])).length) Slot.unset).toArray = ls at hL ⊢
  have hL : lv_has ls 6 [(0, .ref (ad 0)), (1, .int v1), (2, .int v2), (3, .int v3), (4, .int v4)] := hL
  unfold wpM_binary at h
  exact bM_binary_0 K B.returns hZ h (lv_sub hL [1, 2, 3, 4] rfl) hP va_S.rf
set_option maxRecDepth 100000 in
set_option maxHeartbeats 4000000 in
theorem bM_elementOf_0 {p : Program} {l : Launch} {e : Env} {s : State} {m : MethodId} {args : Array Value} {below : List Frame} {meth : Method} {c : Code} {D : va_G} {cI cJ cC cZ cR : ClassId} {ad : Nat → Nat} {A : Nat → Prop} {Zs : State → Prop} (K : Cx p (rmX 0 0) s m args meth c cM_elementOf 4 "WordCheckerModel" gT D cls8 (tys5 cI cJ cC cZ cR) 21 ad A Zs) (hr : meth.sig.returnType = (some .int)) (hZ : ZsOK A Zs) {Φ : Int32 → HI → HL → Prop} {v1 : Int32} {v2 : Int32} {v3 : Int32} {hi : HI} {hl : HL} {H : Heap} {locs : List Loc} (h : wbM_elementOf_0 v1 v2 v3 hi hl Φ) {ls : Array Slot} (hL : lv_has ls 4 [(1, .int v1), (2, .int v2), (3, .int v3)]) (hP : va_P D cls8 (wl 21 ad (GM cI cZ ad) hi hl) H) (hS : va_S A s.heap H locs) : W p l e (rmX 0 0) s m args below meth c H locs 0 0 (MQ below (va_Qi (fun r (u : HI × HL) => Φ r u.1 u.2) (fun u t => va_P D cls8 (wl 21 ad (GM cI cZ ad) u.1 u.2) t.heap) A) args s 0 0 A) (F0 m 0 ls []) := by
  unfold wbM_elementOf_0 at h
  refine lv_iload_n K.1 K.2.1 dM_elementOf_0 rfl (lv_at hL 1 rfl) ?_
  refine lv_if_ne (tgt := 14) K.1 K.2.1 dM_elementOf_1 rfl (fun hc => ?_) (fun hc => ?_)
  · have h := h.2 hc
    refine lv_iload_n K.1 K.2.1 dM_elementOf_14 rfl (lv_at hL 0 rfl) ?_
    refine lv_iload_n K.1 K.2.1 dM_elementOf_15 rfl (lv_at hL 2 rfl) ?_
    refine lv_ishr K.1 K.2.1 dM_elementOf_16 ?_
    exact x_iret K hr hP hS h dM_elementOf_17
  · have h := h.1 hc
    refine lv_iload_n K.1 K.2.1 dM_elementOf_4 rfl (lv_at hL 0 rfl) ?_
    refine lv_iconst (v := 1) K.1 K.2.1 dM_elementOf_5 (by decide) ?_
    refine lv_iload_n K.1 K.2.1 dM_elementOf_6 rfl (lv_at hL 2 rfl) ?_
    refine lv_ishl K.1 K.2.1 dM_elementOf_7 ?_
    refine lv_iconst (v := 1) K.1 K.2.1 dM_elementOf_8 (by decide) ?_
    refine lv_isub K.1 K.2.1 dM_elementOf_9 ?_
    refine lv_iand K.1 K.2.1 dM_elementOf_10 ?_
    refine lv_goto (tgt := 17) K.1 K.2.1 dM_elementOf_11 rfl ?_
    exact x_iret K hr hP hS h dM_elementOf_17
set_option maxRecDepth 100000 in
set_option maxHeartbeats 4000000 in
theorem mM_elementOf {l : Launch} {D : va_G} {cI cJ cC cZ cR : ClassId} {ad : Nat → Nat} {A : Nat → Prop} {Zs : State → Prop} (hZ : ZsOK A Zs) (hD : wlD 21 ad A) {v1 : Int32} {v2 : Int32} {v3 : Int32} {hi : HI} {hl : HL} {Φ : Int32 → HI → HL → Prop} (h : wpM_elementOf v1 v2 v3 hi hl Φ) : SpI l yM_elementOf cM_elementOf 4 (some .int) gT 0 0 [.ref (ad 0), .int v1, .int v2, .int v3] D cls8 (tys5 cI cJ cC cZ cR) 21 ad (GM cI cZ ad) A Zs hi hl Φ := by
  refine Met.ofW (cc := cM_elementOf) (maxL := 4) (ret := (some .int)) (by decide) rfl ?_
  intro p e s m args below meth c s₁ B hml hv
  obtain ⟨rfl, hP, hK, hZs⟩ := hv
  have K : Cx p (rmX 0 0) s m _ meth c cM_elementOf 4 "WordCheckerModel" gT D cls8 (tys5 cI cJ cC cZ cR) 21 ad A Zs := ⟨B.exec, B.bytes, hml, findClass_of_methodNamed B.named, fun w hw => atoms_spec B.pre w (List.mem_cons_of_mem _ hw), B.notSynchronized, hK, hD, hZs⟩
  have hL := lv_entry ([.ref (ad 0), .int v1, .int v2, .int v3]) (n := 4) (Nat.le_of_ble_eq_true rfl)
  rw [lg_entry_eq]
  generalize (lg_sl ([.ref (ad 0), .int v1, .int v2, .int v3]) ++ List.replicate (4 - (lg_sl ([.ref (ad 0), .int v1, .int v2, .int v3])).length) Slot.unset).toArray = ls at hL ⊢
  have hL : lv_has ls 4 [(0, .ref (ad 0)), (1, .int v1), (2, .int v2), (3, .int v3)] := hL
  unfold wpM_elementOf at h
  exact bM_elementOf_0 K B.returns hZ h (lv_sub hL [1, 2, 3] rfl) hP va_S.rf
set_option maxRecDepth 100000 in
set_option maxHeartbeats 4000000 in
theorem bM_written_68 {p : Program} {l : Launch} {e : Env} {s : State} {m : MethodId} {args : Array Value} {below : List Frame} {meth : Method} {c : Code} {D : va_G} {cI cJ cC cZ cR : ClassId} {ad : Nat → Nat} {A : Nat → Prop} {Zs : State → Prop} (K : Cx p (rmX 1 23) s m args meth c cM_written 8 "WordCheckerModel" gT D cls8 (tys5 cI cJ cC cZ cR) 21 ad A Zs) (hr : meth.sig.returnType = (some .int)) (hZ : ZsOK A Zs) {Φ : Int32 → HI → HL → Prop} {v4 : Int32} {v6 : Int32} {q0 : Int32} {hi : HI} {hl : HL} {H : Heap} {locs : List Loc} (h : wbM_written_68 v4 v6 q0 hi hl Φ) {ls : Array Slot} (hL : lv_has ls 8 [(4, .int v4), (6, .int v6)]) (hP : va_P D cls8 (wl 21 ad (GM cI cZ ad) hi hl) H) (hS : va_S A s.heap H locs) : W p l e (rmX 1 23) s m args below meth c H locs 0 0 (MQ below (va_Qi (fun r (u : HI × HL) => Φ r u.1 u.2) (fun u t => va_P D cls8 (wl 21 ad (GM cI cZ ad) u.1 u.2) t.heap) A) args s 0 0 A) (F0 m 68 ls [.int q0]) := by
  unfold wbM_written_68 at h
  refine lv_istore (lv' := [(7, .int q0), (4, .int v4), (6, .int v6)]) K.1 K.2.1 dM_written_68 hL (by decide) rfl (fun ls hL => ?_)
  refine lv_iload K.1 K.2.1 dM_written_70 (lv_at hL 2 rfl) ?_
  refine lv_iload K.1 K.2.1 dM_written_72 (lv_at hL 0 rfl) ?_
  refine lv_iload K.1 K.2.1 dM_written_74 (lv_at hL 1 rfl) ?_
  refine lv_ishl K.1 K.2.1 dM_written_76 ?_
  refine lv_iadd K.1 K.2.1 dM_written_77 ?_
  exact x_iret K hr hP hS h dM_written_78
set_option maxRecDepth 100000 in
set_option maxHeartbeats 4000000 in
theorem bM_written_48 {p : Program} {l : Launch} {e : Env} {s : State} {m : MethodId} {args : Array Value} {below : List Frame} {meth : Method} {c : Code} {D : va_G} {cI cJ cC cZ cR : ClassId} {ad : Nat → Nat} {A : Nat → Prop} {Zs : State → Prop} (K : Cx p (rmX 1 23) s m args meth c cM_written 8 "WordCheckerModel" gT D cls8 (tys5 cI cJ cC cZ cR) 21 ad A Zs) (hr : meth.sig.returnType = (some .int)) (hZ : ZsOK A Zs) {Φ : Int32 → HI → HL → Prop} {v2 : Int32} {v3 : Int32} {v4 : Int32} {v5 : Int32} {q0 : Int32} {hi : HI} {hl : HL} {H : Heap} {locs : List Loc} (h : wbM_written_48 v2 v3 v4 v5 q0 hi hl Φ) {ls : Array Slot} (hL : lv_has ls 8 [(0, .ref (ad 0)), (2, .int v2), (3, .int v3), (4, .int v4), (5, .int v5)]) (hP : va_P D cls8 (wl 21 ad (GM cI cZ ad) hi hl) H) (hS : va_S A s.heap H locs) : W p l e (rmX 1 23) s m args below meth c H locs 0 0 (MQ below (va_Qi (fun r (u : HI × HL) => Φ r u.1 u.2) (fun u t => va_P D cls8 (wl 21 ad (GM cI cZ ad) u.1 u.2) t.heap) A) args s 0 0 A) (F0 m 48 ls [.int q0]) := by
  unfold wbM_written_48 at h
  refine lv_istore (lv' := [(6, .int q0), (0, .ref (ad 0)), (2, .int v2), (3, .int v3), (4, .int v4), (5, .int v5)]) K.1 K.2.1 dM_written_48 hL (by decide) rfl (fun ls hL => ?_)
  refine lv_iload_n K.1 K.2.1 dM_written_50 rfl (lv_at hL 3 rfl) ?_
  refine lv_iconst (v := 1) K.1 K.2.1 dM_written_51 (by decide) ?_
  refine lv_icmp_ne (tgt := 60) K.1 K.2.1 dM_written_52 rfl (fun hc => ?_) (fun hc => ?_)
  · have h := h.2 hc
    refine lv_aload_n K.1 K.2.1 dM_written_60 rfl (lv_at hL 1 rfl) ?_
    refine lv_iload_n K.1 K.2.1 dM_written_61 rfl (lv_at hL 2 rfl) ?_
    refine lv_iconst (v := 1) K.1 K.2.1 dM_written_62 (by decide) ?_
    refine lv_iload K.1 K.2.1 dM_written_63 (lv_at hL 4 rfl) ?_
    refine x_cVI (As := [.int v2, .int (1 : Int32), .int v4]) (rest := []) K gT_good hZ hP hS calM_elementOf mlM_278 0 (by decide) rfl rfl (mM_elementOf hZ K.2.2.2.2.2.2.2.1 h) ⟨Nat.le_of_ble_eq_true rfl, Nat.le_of_ble_eq_true rfl⟩ rfl hL.1 rfl (Nat.le_of_ble_eq_true rfl) dM_written_65 (fun r1 hi2 hl3 H locs h hP hS => ?_)
    exact bM_written_68 K hr hZ h (lv_sub hL [4, 0] rfl) hP hS
  · have h := h.1 hc
    refine lv_iload K.1 K.2.1 dM_written_55 (lv_at hL 5 rfl) ?_
    refine lv_goto (tgt := 68) K.1 K.2.1 dM_written_57 rfl ?_
    exact bM_written_68 K hr hZ h (lv_sub hL [4, 0] rfl) hP hS
set_option maxRecDepth 100000 in
set_option maxHeartbeats 4000000 in
theorem bM_written_0 {p : Program} {l : Launch} {e : Env} {s : State} {m : MethodId} {args : Array Value} {below : List Frame} {meth : Method} {c : Code} {D : va_G} {cI cJ cC cZ cR : ClassId} {ad : Nat → Nat} {A : Nat → Prop} {Zs : State → Prop} (K : Cx p (rmX 1 23) s m args meth c cM_written 8 "WordCheckerModel" gT D cls8 (tys5 cI cJ cC cZ cR) 21 ad A Zs) (hr : meth.sig.returnType = (some .int)) (hZ : ZsOK A Zs) {Φ : Int32 → HI → HL → Prop} {v1 : Int32} {v2 : Int32} {v3 : Int32} {hi : HI} {hl : HL} {H : Heap} {locs : List Loc} (h : wbM_written_0 v1 v2 v3 hi hl Φ) {ls : Array Slot} (hL : lv_has ls 8 [(0, .ref (ad 0)), (1, .int v1), (2, .int v2), (3, .int v3)]) (hP : va_P D cls8 (wl 21 ad (GM cI cZ ad) hi hl) H) (hS : va_S A s.heap H locs) : W p l e (rmX 1 23) s m args below meth c H locs 0 0 (MQ below (va_Qi (fun r (u : HI × HL) => Φ r u.1 u.2) (fun u t => va_P D cls8 (wl 21 ad (GM cI cZ ad) u.1 u.2) t.heap) A) args s 0 0 A) (F0 m 0 ls []) := by
  unfold wbM_written_0 at h
  refine lv_aload_n K.1 K.2.1 dM_written_0 rfl (lv_at hL 0 rfl) ?_
  refine x_get (v := .ref (ad 16)) K hP hinM (ci := 7) rfl 0 (by decide) rfl 19 (by decide) flM_56 rfl rfl dM_written_1 ?_
  refine lv_aload_n K.1 K.2.1 dM_written_4 rfl (lv_at hL 0 rfl) ?_
  refine x_get (v := .ref (ad 6)) K hP hinM (ci := 7) rfl 0 (by decide) rfl 9 (by decide) flM_25 rfl rfl dM_written_5 ?_
  refine lv_iload_n K.1 K.2.1 dM_written_8 rfl (lv_at hL 1 rfl) ?_
  obtain ⟨g1, h⟩ := h
  refine x_iald K hP 6 (by decide) 0 rfl rfl g1 dM_written_9 ?_
  obtain ⟨g2, h⟩ := h
  refine x_iald K hP 16 (by decide) 0 rfl rfl g2 dM_written_10 ?_
  refine lv_istore (lv' := [(4, .int (hi 16 ((hi 6 (v1.toNatClampNeg)).toNatClampNeg))), (0, .ref (ad 0)), (1, .int v1), (2, .int v2), (3, .int v3)]) K.1 K.2.1 dM_written_11 hL (by decide) rfl (fun ls hL => ?_)
  refine lv_aload_n K.1 K.2.1 dM_written_13 rfl (lv_at hL 1 rfl) ?_
  refine lv_aload_n K.1 K.2.1 dM_written_14 rfl (lv_at hL 1 rfl) ?_
  refine x_get (v := .ref (ad 9)) K hP hinM (ci := 7) rfl 0 (by decide) rfl 12 (by decide) flM_34 rfl rfl dM_written_15 ?_
  refine lv_iload_n K.1 K.2.1 dM_written_18 rfl (lv_at hL 2 rfl) ?_
  obtain ⟨g3, h⟩ := h
  refine x_iald K hP 9 (by decide) 0 rfl rfl g3 dM_written_19 ?_
  refine lv_aload_n K.1 K.2.1 dM_written_20 rfl (lv_at hL 1 rfl) ?_
  refine x_get (v := .ref (ad 12)) K hP hinM (ci := 7) rfl 0 (by decide) rfl 15 (by decide) flM_44 rfl rfl dM_written_21 ?_
  refine lv_iload_n K.1 K.2.1 dM_written_24 rfl (lv_at hL 2 rfl) ?_
  obtain ⟨g4, h⟩ := h
  refine x_zald K hP 12 (by decide) 3 rfl rfl g4 dM_written_25 ?_
  refine x_cVI (As := [.int (hi 9 (v1.toNatClampNeg)), .int (hi 12 (v1.toNatClampNeg))]) (rest := []) K gT_good hZ hP hS calM_get mlM_274 0 (by decide) rfl rfl (mM_get hZ K.2.2.2.2.2.2.2.1 h) ⟨Nat.le_of_ble_eq_true rfl, Nat.le_of_ble_eq_true rfl⟩ rfl hL.1 rfl (Nat.le_of_ble_eq_true rfl) dM_written_26 (fun r5 hi6 hl7 H locs h hP hS => ?_)
  refine lv_istore (lv' := [(5, .int r5), (4, .int (hi 16 ((hi 6 (v1.toNatClampNeg)).toNatClampNeg))), (0, .ref (ad 0)), (1, .int v1), (2, .int v2), (3, .int v3)]) K.1 K.2.1 dM_written_29 hL (by decide) rfl (fun ls hL => ?_)
  refine lv_iload_n K.1 K.2.1 dM_written_31 rfl (lv_at hL 5 rfl) ?_
  refine lv_if_ne (tgt := 40) K.1 K.2.1 dM_written_32 rfl (fun hc => ?_) (fun hc => ?_)
  · have h := h.2 hc
    refine lv_aload_n K.1 K.2.1 dM_written_40 rfl (lv_at hL 2 rfl) ?_
    refine lv_iload_n K.1 K.2.1 dM_written_41 rfl (lv_at hL 4 rfl) ?_
    refine lv_iconst (v := 0) K.1 K.2.1 dM_written_42 (by decide) ?_
    refine lv_iload K.1 K.2.1 dM_written_43 (lv_at hL 1 rfl) ?_
    refine x_cVI (As := [.int v2, .int (0 : Int32), .int (hi 16 ((hi 6 (v1.toNatClampNeg)).toNatClampNeg))]) (rest := []) K gT_good hZ hP hS calM_elementOf mlM_278 0 (by decide) rfl rfl (mM_elementOf hZ K.2.2.2.2.2.2.2.1 h) ⟨Nat.le_of_ble_eq_true rfl, Nat.le_of_ble_eq_true rfl⟩ rfl hL.1 rfl (Nat.le_of_ble_eq_true rfl) dM_written_45 (fun r8 hi9 hl10 H locs h hP hS => ?_)
    exact bM_written_48 K hr hZ h (lv_sub hL [2, 4, 5, 1, 0] rfl) hP hS
  · have h := h.1 hc
    refine lv_iload K.1 K.2.1 dM_written_35 (lv_at hL 0 rfl) ?_
    refine lv_goto (tgt := 48) K.1 K.2.1 dM_written_37 rfl ?_
    exact bM_written_48 K hr hZ h (lv_sub hL [2, 4, 5, 1, 0] rfl) hP hS
set_option maxRecDepth 100000 in
set_option maxHeartbeats 4000000 in
theorem mM_written {l : Launch} {D : va_G} {cI cJ cC cZ cR : ClassId} {ad : Nat → Nat} {A : Nat → Prop} {Zs : State → Prop} (hZ : ZsOK A Zs) (hD : wlD 21 ad A) {v1 : Int32} {v2 : Int32} {v3 : Int32} {hi : HI} {hl : HL} {Φ : Int32 → HI → HL → Prop} (h : wpM_written v1 v2 v3 hi hl Φ) : SpI l yM_written cM_written 8 (some .int) gT 1 23 [.ref (ad 0), .int v1, .int v2, .int v3] D cls8 (tys5 cI cJ cC cZ cR) 21 ad (GM cI cZ ad) A Zs hi hl Φ := by
  refine Met.ofW (cc := cM_written) (maxL := 8) (ret := (some .int)) (by decide) rfl ?_
  intro p e s m args below meth c s₁ B hml hv
  obtain ⟨rfl, hP, hK, hZs⟩ := hv
  have K : Cx p (rmX 1 23) s m _ meth c cM_written 8 "WordCheckerModel" gT D cls8 (tys5 cI cJ cC cZ cR) 21 ad A Zs := ⟨B.exec, B.bytes, hml, findClass_of_methodNamed B.named, fun w hw => atoms_spec B.pre w (List.mem_cons_of_mem _ hw), B.notSynchronized, hK, hD, hZs⟩
  have hL := lv_entry ([.ref (ad 0), .int v1, .int v2, .int v3]) (n := 8) (Nat.le_of_ble_eq_true rfl)
  rw [lg_entry_eq]
  generalize (lg_sl ([.ref (ad 0), .int v1, .int v2, .int v3]) ++ List.replicate (8 - (lg_sl ([.ref (ad 0), .int v1, .int v2, .int v3])).length) Slot.unset).toArray = ls at hL ⊢
  have hL : lv_has ls 8 [(0, .ref (ad 0)), (1, .int v1), (2, .int v2), (3, .int v3)] := hL
  unfold wpM_written at h
  exact bM_written_0 K B.returns hZ h (lv_sub hL [0, 1, 2, 3] rfl) hP va_S.rf
set_option maxRecDepth 100000 in
set_option maxHeartbeats 4000000 in
theorem bM_compute_111 {p : Program} {l : Launch} {e : Env} {s : State} {m : MethodId} {args : Array Value} {below : List Frame} {meth : Method} {c : Code} {D : va_G} {cI cJ cC cZ cR : ClassId} {ad : Nat → Nat} {A : Nat → Prop} {Zs : State → Prop} (K : Cx p (rmX 2 50) s m args meth c cM_compute 7 "WordCheckerModel" gT D cls8 (tys5 cI cJ cC cZ cR) 21 ad A Zs) (hr : meth.sig.returnType = (some .int)) (hZ : ZsOK A Zs) {Φ : Int32 → HI → HL → Prop} {v1 : Int32} {v2 : Int32} {v3 : Int32} {v4 : Int32} {v5 : Int32} {q0 : Int32} {hi : HI} {hl : HL} {H : Heap} {locs : List Loc} (h : wbM_compute_111 v1 v2 v3 v4 v5 q0 hi hl Φ) {ls : Array Slot} (hL : lv_has ls 7 [(0, .ref (ad 0)), (1, .int v1), (2, .int v2), (3, .int v3), (4, .int v4), (5, .int v5)]) (hP : va_P D cls8 (wl 21 ad (GM cI cZ ad) hi hl) H) (hS : va_S A s.heap H locs) : W p l e (rmX 2 50) s m args below meth c H locs 0 0 (MQ below (va_Qi (fun r (u : HI × HL) => Φ r u.1 u.2) (fun u t => va_P D cls8 (wl 21 ad (GM cI cZ ad) u.1 u.2) t.heap) A) args s 0 0 A) (F0 m 111 ls [.int q0]) := by
  unfold wbM_compute_111 at h
  refine lv_istore (lv' := [(6, .int q0), (0, .ref (ad 0)), (1, .int v1), (2, .int v2), (3, .int v3), (4, .int v4), (5, .int v5)]) K.1 K.2.1 dM_compute_111 hL (by decide) rfl (fun ls hL => ?_)
  refine lv_aload_n K.1 K.2.1 dM_compute_113 rfl (lv_at hL 1 rfl) ?_
  refine x_get (v := .ref (ad 5)) K hP hinM (ci := 7) rfl 0 (by decide) rfl 8 (by decide) flM_22 rfl rfl dM_compute_114 ?_
  refine lv_iload_n K.1 K.2.1 dM_compute_117 rfl (lv_at hL 2 rfl) ?_
  obtain ⟨g1, h⟩ := h
  refine x_iald K hP 5 (by decide) 0 rfl rfl g1 dM_compute_118 ?_
  by_cases hc0 : (hi 5 (v1.toNatClampNeg)) = 3
  · have h := h.1 hc0
    refine lv_tableIn (off := 109) (tgt := 228) K.1 K.2.1 dM_compute_119 (by rw [hc0]; decide) (by rw [hc0]; decide) (by rw [hc0]; rfl) rfl ?_
    refine lv_aload_n K.1 K.2.1 dM_compute_228 rfl (lv_at hL 1 rfl) ?_
    refine x_get (v := .ref (ad 13)) K hP hinM (ci := 7) rfl 0 (by decide) rfl 16 (by decide) flM_47 rfl rfl dM_compute_229 ?_
    refine lv_iload_n K.1 K.2.1 dM_compute_232 rfl (lv_at hL 2 rfl) ?_
    obtain ⟨g2, h⟩ := h
    refine x_iald K hP 13 (by decide) 0 rfl rfl g2 dM_compute_233 ?_
    exact x_iret K hr hP hS h dM_compute_234
  by_cases hc1 : (hi 5 (v1.toNatClampNeg)) = 4
  · have h := h.2.1 hc1
    refine lv_tableIn (off := 116) (tgt := 235) K.1 K.2.1 dM_compute_119 (by rw [hc1]; decide) (by rw [hc1]; decide) (by rw [hc1]; rfl) rfl ?_
    refine lv_iload K.1 K.2.1 dM_compute_235 (lv_at hL 6 rfl) ?_
    refine lv_iload_n K.1 K.2.1 dM_compute_237 rfl (lv_at hL 3 rfl) ?_
    refine lv_isub K.1 K.2.1 dM_compute_238 ?_
    exact x_iret K hr hP hS h dM_compute_239
  by_cases hc2 : (hi 5 (v1.toNatClampNeg)) = 5
  · have h := h.2.2.1 hc2
    refine lv_tableIn (off := 121) (tgt := 240) K.1 K.2.1 dM_compute_119 (by rw [hc2]; decide) (by rw [hc2]; decide) (by rw [hc2]; rfl) rfl ?_
    refine lv_iload_n K.1 K.2.1 dM_compute_240 rfl (lv_at hL 3 rfl) ?_
    refine lv_ineg K.1 K.2.1 dM_compute_241 ?_
    refine lv_iload K.1 K.2.1 dM_compute_242 (lv_at hL 6 rfl) ?_
    refine lv_iand K.1 K.2.1 dM_compute_244 ?_
    exact x_iret K hr hP hS h dM_compute_245
  by_cases hc3 : (hi 5 (v1.toNatClampNeg)) = 6
  · have h := h.2.2.2.1 hc3
    refine lv_tableIn (off := 127) (tgt := 246) K.1 K.2.1 dM_compute_119 (by rw [hc3]; decide) (by rw [hc3]; decide) (by rw [hc3]; rfl) rfl ?_
    refine lv_iload_n K.1 K.2.1 dM_compute_246 rfl (lv_at hL 3 rfl) ?_
    refine lv_if_eq (tgt := 254) K.1 K.2.1 dM_compute_247 rfl (fun hc => ?_) (fun hc => ?_)
    · have h := h.1 hc
      refine lv_iconst (v := 0) K.1 K.2.1 dM_compute_254 (by decide) ?_
      exact x_iret K hr hP hS h dM_compute_255
    · have h := h.2 hc
      refine lv_iconst (v := 1) K.1 K.2.1 dM_compute_250 (by decide) ?_
      refine lv_goto (tgt := 255) K.1 K.2.1 dM_compute_251 rfl ?_
      exact x_iret K hr hP hS h dM_compute_255
  by_cases hc4 : (hi 5 (v1.toNatClampNeg)) = 7
  · have h := h.2.2.2.2.1 hc4
    refine lv_tableIn (off := 271) (tgt := 390) K.1 K.2.1 dM_compute_119 (by rw [hc4]; decide) (by rw [hc4]; decide) (by rw [hc4]; rfl) rfl ?_
    refine lv_aload_n K.1 K.2.1 dM_compute_390 rfl (lv_at hL 1 rfl) ?_
    refine lv_aload_n K.1 K.2.1 dM_compute_391 rfl (lv_at hL 1 rfl) ?_
    refine x_get (v := .ref (ad 5)) K hP hinM (ci := 7) rfl 0 (by decide) rfl 8 (by decide) flM_22 rfl rfl dM_compute_392 ?_
    refine lv_iload_n K.1 K.2.1 dM_compute_395 rfl (lv_at hL 2 rfl) ?_
    obtain ⟨g3, h⟩ := h
    refine x_iald K hP 5 (by decide) 0 rfl rfl g3 dM_compute_396 ?_
    refine lv_iload_n K.1 K.2.1 dM_compute_397 rfl (lv_at hL 3 rfl) ?_
    refine lv_iload_n K.1 K.2.1 dM_compute_398 rfl (lv_at hL 4 rfl) ?_
    refine lv_iload K.1 K.2.1 dM_compute_399 (lv_at hL 5 rfl) ?_
    refine x_cVI (As := [.int (hi 5 (v1.toNatClampNeg)), .int v2, .int v3, .int v4]) (rest := []) K gT_good hZ hP hS calM_binary mlM_288 0 (by decide) rfl rfl (mM_binary hZ K.2.2.2.2.2.2.2.1 h) ⟨Nat.le_of_ble_eq_true rfl, Nat.le_of_ble_eq_true rfl⟩ rfl hL.1 rfl (Nat.le_of_ble_eq_true rfl) dM_compute_401 (fun r4 hi5 hl6 H locs h hP hS => ?_)
    exact x_iret K hr hP hS h dM_compute_404
  by_cases hc5 : (hi 5 (v1.toNatClampNeg)) = 8
  · have h := h.2.2.2.2.2.1 hc5
    refine lv_tableIn (off := 271) (tgt := 390) K.1 K.2.1 dM_compute_119 (by rw [hc5]; decide) (by rw [hc5]; decide) (by rw [hc5]; rfl) rfl ?_
    refine lv_aload_n K.1 K.2.1 dM_compute_390 rfl (lv_at hL 1 rfl) ?_
    refine lv_aload_n K.1 K.2.1 dM_compute_391 rfl (lv_at hL 1 rfl) ?_
    refine x_get (v := .ref (ad 5)) K hP hinM (ci := 7) rfl 0 (by decide) rfl 8 (by decide) flM_22 rfl rfl dM_compute_392 ?_
    refine lv_iload_n K.1 K.2.1 dM_compute_395 rfl (lv_at hL 2 rfl) ?_
    obtain ⟨g7, h⟩ := h
    refine x_iald K hP 5 (by decide) 0 rfl rfl g7 dM_compute_396 ?_
    refine lv_iload_n K.1 K.2.1 dM_compute_397 rfl (lv_at hL 3 rfl) ?_
    refine lv_iload_n K.1 K.2.1 dM_compute_398 rfl (lv_at hL 4 rfl) ?_
    refine lv_iload K.1 K.2.1 dM_compute_399 (lv_at hL 5 rfl) ?_
    refine x_cVI (As := [.int (hi 5 (v1.toNatClampNeg)), .int v2, .int v3, .int v4]) (rest := []) K gT_good hZ hP hS calM_binary mlM_288 0 (by decide) rfl rfl (mM_binary hZ K.2.2.2.2.2.2.2.1 h) ⟨Nat.le_of_ble_eq_true rfl, Nat.le_of_ble_eq_true rfl⟩ rfl hL.1 rfl (Nat.le_of_ble_eq_true rfl) dM_compute_401 (fun r8 hi9 hl10 H locs h hP hS => ?_)
    exact x_iret K hr hP hS h dM_compute_404
  by_cases hc6 : (hi 5 (v1.toNatClampNeg)) = 9
  · have h := h.2.2.2.2.2.2.1 hc6
    refine lv_tableIn (off := 271) (tgt := 390) K.1 K.2.1 dM_compute_119 (by rw [hc6]; decide) (by rw [hc6]; decide) (by rw [hc6]; rfl) rfl ?_
    refine lv_aload_n K.1 K.2.1 dM_compute_390 rfl (lv_at hL 1 rfl) ?_
    refine lv_aload_n K.1 K.2.1 dM_compute_391 rfl (lv_at hL 1 rfl) ?_
    refine x_get (v := .ref (ad 5)) K hP hinM (ci := 7) rfl 0 (by decide) rfl 8 (by decide) flM_22 rfl rfl dM_compute_392 ?_
    refine lv_iload_n K.1 K.2.1 dM_compute_395 rfl (lv_at hL 2 rfl) ?_
    obtain ⟨g11, h⟩ := h
    refine x_iald K hP 5 (by decide) 0 rfl rfl g11 dM_compute_396 ?_
    refine lv_iload_n K.1 K.2.1 dM_compute_397 rfl (lv_at hL 3 rfl) ?_
    refine lv_iload_n K.1 K.2.1 dM_compute_398 rfl (lv_at hL 4 rfl) ?_
    refine lv_iload K.1 K.2.1 dM_compute_399 (lv_at hL 5 rfl) ?_
    refine x_cVI (As := [.int (hi 5 (v1.toNatClampNeg)), .int v2, .int v3, .int v4]) (rest := []) K gT_good hZ hP hS calM_binary mlM_288 0 (by decide) rfl rfl (mM_binary hZ K.2.2.2.2.2.2.2.1 h) ⟨Nat.le_of_ble_eq_true rfl, Nat.le_of_ble_eq_true rfl⟩ rfl hL.1 rfl (Nat.le_of_ble_eq_true rfl) dM_compute_401 (fun r12 hi13 hl14 H locs h hP hS => ?_)
    exact x_iret K hr hP hS h dM_compute_404
  by_cases hc7 : (hi 5 (v1.toNatClampNeg)) = 10
  · have h := h.2.2.2.2.2.2.2.1 hc7
    refine lv_tableIn (off := 271) (tgt := 390) K.1 K.2.1 dM_compute_119 (by rw [hc7]; decide) (by rw [hc7]; decide) (by rw [hc7]; rfl) rfl ?_
    refine lv_aload_n K.1 K.2.1 dM_compute_390 rfl (lv_at hL 1 rfl) ?_
    refine lv_aload_n K.1 K.2.1 dM_compute_391 rfl (lv_at hL 1 rfl) ?_
    refine x_get (v := .ref (ad 5)) K hP hinM (ci := 7) rfl 0 (by decide) rfl 8 (by decide) flM_22 rfl rfl dM_compute_392 ?_
    refine lv_iload_n K.1 K.2.1 dM_compute_395 rfl (lv_at hL 2 rfl) ?_
    obtain ⟨g15, h⟩ := h
    refine x_iald K hP 5 (by decide) 0 rfl rfl g15 dM_compute_396 ?_
    refine lv_iload_n K.1 K.2.1 dM_compute_397 rfl (lv_at hL 3 rfl) ?_
    refine lv_iload_n K.1 K.2.1 dM_compute_398 rfl (lv_at hL 4 rfl) ?_
    refine lv_iload K.1 K.2.1 dM_compute_399 (lv_at hL 5 rfl) ?_
    refine x_cVI (As := [.int (hi 5 (v1.toNatClampNeg)), .int v2, .int v3, .int v4]) (rest := []) K gT_good hZ hP hS calM_binary mlM_288 0 (by decide) rfl rfl (mM_binary hZ K.2.2.2.2.2.2.2.1 h) ⟨Nat.le_of_ble_eq_true rfl, Nat.le_of_ble_eq_true rfl⟩ rfl hL.1 rfl (Nat.le_of_ble_eq_true rfl) dM_compute_401 (fun r16 hi17 hl18 H locs h hP hS => ?_)
    exact x_iret K hr hP hS h dM_compute_404
  by_cases hc8 : (hi 5 (v1.toNatClampNeg)) = 11
  · have h := h.2.2.2.2.2.2.2.2.1 hc8
    refine lv_tableIn (off := 271) (tgt := 390) K.1 K.2.1 dM_compute_119 (by rw [hc8]; decide) (by rw [hc8]; decide) (by rw [hc8]; rfl) rfl ?_
    refine lv_aload_n K.1 K.2.1 dM_compute_390 rfl (lv_at hL 1 rfl) ?_
    refine lv_aload_n K.1 K.2.1 dM_compute_391 rfl (lv_at hL 1 rfl) ?_
    refine x_get (v := .ref (ad 5)) K hP hinM (ci := 7) rfl 0 (by decide) rfl 8 (by decide) flM_22 rfl rfl dM_compute_392 ?_
    refine lv_iload_n K.1 K.2.1 dM_compute_395 rfl (lv_at hL 2 rfl) ?_
    obtain ⟨g19, h⟩ := h
    refine x_iald K hP 5 (by decide) 0 rfl rfl g19 dM_compute_396 ?_
    refine lv_iload_n K.1 K.2.1 dM_compute_397 rfl (lv_at hL 3 rfl) ?_
    refine lv_iload_n K.1 K.2.1 dM_compute_398 rfl (lv_at hL 4 rfl) ?_
    refine lv_iload K.1 K.2.1 dM_compute_399 (lv_at hL 5 rfl) ?_
    refine x_cVI (As := [.int (hi 5 (v1.toNatClampNeg)), .int v2, .int v3, .int v4]) (rest := []) K gT_good hZ hP hS calM_binary mlM_288 0 (by decide) rfl rfl (mM_binary hZ K.2.2.2.2.2.2.2.1 h) ⟨Nat.le_of_ble_eq_true rfl, Nat.le_of_ble_eq_true rfl⟩ rfl hL.1 rfl (Nat.le_of_ble_eq_true rfl) dM_compute_401 (fun r20 hi21 hl22 H locs h hP hS => ?_)
    exact x_iret K hr hP hS h dM_compute_404
  by_cases hc9 : (hi 5 (v1.toNatClampNeg)) = 12
  · have h := h.2.2.2.2.2.2.2.2.2.1 hc9
    refine lv_tableIn (off := 271) (tgt := 390) K.1 K.2.1 dM_compute_119 (by rw [hc9]; decide) (by rw [hc9]; decide) (by rw [hc9]; rfl) rfl ?_
    refine lv_aload_n K.1 K.2.1 dM_compute_390 rfl (lv_at hL 1 rfl) ?_
    refine lv_aload_n K.1 K.2.1 dM_compute_391 rfl (lv_at hL 1 rfl) ?_
    refine x_get (v := .ref (ad 5)) K hP hinM (ci := 7) rfl 0 (by decide) rfl 8 (by decide) flM_22 rfl rfl dM_compute_392 ?_
    refine lv_iload_n K.1 K.2.1 dM_compute_395 rfl (lv_at hL 2 rfl) ?_
    obtain ⟨g23, h⟩ := h
    refine x_iald K hP 5 (by decide) 0 rfl rfl g23 dM_compute_396 ?_
    refine lv_iload_n K.1 K.2.1 dM_compute_397 rfl (lv_at hL 3 rfl) ?_
    refine lv_iload_n K.1 K.2.1 dM_compute_398 rfl (lv_at hL 4 rfl) ?_
    refine lv_iload K.1 K.2.1 dM_compute_399 (lv_at hL 5 rfl) ?_
    refine x_cVI (As := [.int (hi 5 (v1.toNatClampNeg)), .int v2, .int v3, .int v4]) (rest := []) K gT_good hZ hP hS calM_binary mlM_288 0 (by decide) rfl rfl (mM_binary hZ K.2.2.2.2.2.2.2.1 h) ⟨Nat.le_of_ble_eq_true rfl, Nat.le_of_ble_eq_true rfl⟩ rfl hL.1 rfl (Nat.le_of_ble_eq_true rfl) dM_compute_401 (fun r24 hi25 hl26 H locs h hP hS => ?_)
    exact x_iret K hr hP hS h dM_compute_404
  by_cases hc10 : (hi 5 (v1.toNatClampNeg)) = 13
  · have h := h.2.2.2.2.2.2.2.2.2.2.1 hc10
    refine lv_tableIn (off := 271) (tgt := 390) K.1 K.2.1 dM_compute_119 (by rw [hc10]; decide) (by rw [hc10]; decide) (by rw [hc10]; rfl) rfl ?_
    refine lv_aload_n K.1 K.2.1 dM_compute_390 rfl (lv_at hL 1 rfl) ?_
    refine lv_aload_n K.1 K.2.1 dM_compute_391 rfl (lv_at hL 1 rfl) ?_
    refine x_get (v := .ref (ad 5)) K hP hinM (ci := 7) rfl 0 (by decide) rfl 8 (by decide) flM_22 rfl rfl dM_compute_392 ?_
    refine lv_iload_n K.1 K.2.1 dM_compute_395 rfl (lv_at hL 2 rfl) ?_
    obtain ⟨g27, h⟩ := h
    refine x_iald K hP 5 (by decide) 0 rfl rfl g27 dM_compute_396 ?_
    refine lv_iload_n K.1 K.2.1 dM_compute_397 rfl (lv_at hL 3 rfl) ?_
    refine lv_iload_n K.1 K.2.1 dM_compute_398 rfl (lv_at hL 4 rfl) ?_
    refine lv_iload K.1 K.2.1 dM_compute_399 (lv_at hL 5 rfl) ?_
    refine x_cVI (As := [.int (hi 5 (v1.toNatClampNeg)), .int v2, .int v3, .int v4]) (rest := []) K gT_good hZ hP hS calM_binary mlM_288 0 (by decide) rfl rfl (mM_binary hZ K.2.2.2.2.2.2.2.1 h) ⟨Nat.le_of_ble_eq_true rfl, Nat.le_of_ble_eq_true rfl⟩ rfl hL.1 rfl (Nat.le_of_ble_eq_true rfl) dM_compute_401 (fun r28 hi29 hl30 H locs h hP hS => ?_)
    exact x_iret K hr hP hS h dM_compute_404
  by_cases hc11 : (hi 5 (v1.toNatClampNeg)) = 14
  · have h := h.2.2.2.2.2.2.2.2.2.2.2.1 hc11
    refine lv_tableIn (off := 271) (tgt := 390) K.1 K.2.1 dM_compute_119 (by rw [hc11]; decide) (by rw [hc11]; decide) (by rw [hc11]; rfl) rfl ?_
    refine lv_aload_n K.1 K.2.1 dM_compute_390 rfl (lv_at hL 1 rfl) ?_
    refine lv_aload_n K.1 K.2.1 dM_compute_391 rfl (lv_at hL 1 rfl) ?_
    refine x_get (v := .ref (ad 5)) K hP hinM (ci := 7) rfl 0 (by decide) rfl 8 (by decide) flM_22 rfl rfl dM_compute_392 ?_
    refine lv_iload_n K.1 K.2.1 dM_compute_395 rfl (lv_at hL 2 rfl) ?_
    obtain ⟨g31, h⟩ := h
    refine x_iald K hP 5 (by decide) 0 rfl rfl g31 dM_compute_396 ?_
    refine lv_iload_n K.1 K.2.1 dM_compute_397 rfl (lv_at hL 3 rfl) ?_
    refine lv_iload_n K.1 K.2.1 dM_compute_398 rfl (lv_at hL 4 rfl) ?_
    refine lv_iload K.1 K.2.1 dM_compute_399 (lv_at hL 5 rfl) ?_
    refine x_cVI (As := [.int (hi 5 (v1.toNatClampNeg)), .int v2, .int v3, .int v4]) (rest := []) K gT_good hZ hP hS calM_binary mlM_288 0 (by decide) rfl rfl (mM_binary hZ K.2.2.2.2.2.2.2.1 h) ⟨Nat.le_of_ble_eq_true rfl, Nat.le_of_ble_eq_true rfl⟩ rfl hL.1 rfl (Nat.le_of_ble_eq_true rfl) dM_compute_401 (fun r32 hi33 hl34 H locs h hP hS => ?_)
    exact x_iret K hr hP hS h dM_compute_404
  by_cases hc12 : (hi 5 (v1.toNatClampNeg)) = 15
  · have h := h.2.2.2.2.2.2.2.2.2.2.2.2.1 hc12
    refine lv_tableIn (off := 271) (tgt := 390) K.1 K.2.1 dM_compute_119 (by rw [hc12]; decide) (by rw [hc12]; decide) (by rw [hc12]; rfl) rfl ?_
    refine lv_aload_n K.1 K.2.1 dM_compute_390 rfl (lv_at hL 1 rfl) ?_
    refine lv_aload_n K.1 K.2.1 dM_compute_391 rfl (lv_at hL 1 rfl) ?_
    refine x_get (v := .ref (ad 5)) K hP hinM (ci := 7) rfl 0 (by decide) rfl 8 (by decide) flM_22 rfl rfl dM_compute_392 ?_
    refine lv_iload_n K.1 K.2.1 dM_compute_395 rfl (lv_at hL 2 rfl) ?_
    obtain ⟨g35, h⟩ := h
    refine x_iald K hP 5 (by decide) 0 rfl rfl g35 dM_compute_396 ?_
    refine lv_iload_n K.1 K.2.1 dM_compute_397 rfl (lv_at hL 3 rfl) ?_
    refine lv_iload_n K.1 K.2.1 dM_compute_398 rfl (lv_at hL 4 rfl) ?_
    refine lv_iload K.1 K.2.1 dM_compute_399 (lv_at hL 5 rfl) ?_
    refine x_cVI (As := [.int (hi 5 (v1.toNatClampNeg)), .int v2, .int v3, .int v4]) (rest := []) K gT_good hZ hP hS calM_binary mlM_288 0 (by decide) rfl rfl (mM_binary hZ K.2.2.2.2.2.2.2.1 h) ⟨Nat.le_of_ble_eq_true rfl, Nat.le_of_ble_eq_true rfl⟩ rfl hL.1 rfl (Nat.le_of_ble_eq_true rfl) dM_compute_401 (fun r36 hi37 hl38 H locs h hP hS => ?_)
    exact x_iret K hr hP hS h dM_compute_404
  by_cases hc13 : (hi 5 (v1.toNatClampNeg)) = 16
  · have h := h.2.2.2.2.2.2.2.2.2.2.2.2.2.1 hc13
    refine lv_tableIn (off := 271) (tgt := 390) K.1 K.2.1 dM_compute_119 (by rw [hc13]; decide) (by rw [hc13]; decide) (by rw [hc13]; rfl) rfl ?_
    refine lv_aload_n K.1 K.2.1 dM_compute_390 rfl (lv_at hL 1 rfl) ?_
    refine lv_aload_n K.1 K.2.1 dM_compute_391 rfl (lv_at hL 1 rfl) ?_
    refine x_get (v := .ref (ad 5)) K hP hinM (ci := 7) rfl 0 (by decide) rfl 8 (by decide) flM_22 rfl rfl dM_compute_392 ?_
    refine lv_iload_n K.1 K.2.1 dM_compute_395 rfl (lv_at hL 2 rfl) ?_
    obtain ⟨g39, h⟩ := h
    refine x_iald K hP 5 (by decide) 0 rfl rfl g39 dM_compute_396 ?_
    refine lv_iload_n K.1 K.2.1 dM_compute_397 rfl (lv_at hL 3 rfl) ?_
    refine lv_iload_n K.1 K.2.1 dM_compute_398 rfl (lv_at hL 4 rfl) ?_
    refine lv_iload K.1 K.2.1 dM_compute_399 (lv_at hL 5 rfl) ?_
    refine x_cVI (As := [.int (hi 5 (v1.toNatClampNeg)), .int v2, .int v3, .int v4]) (rest := []) K gT_good hZ hP hS calM_binary mlM_288 0 (by decide) rfl rfl (mM_binary hZ K.2.2.2.2.2.2.2.1 h) ⟨Nat.le_of_ble_eq_true rfl, Nat.le_of_ble_eq_true rfl⟩ rfl hL.1 rfl (Nat.le_of_ble_eq_true rfl) dM_compute_401 (fun r40 hi41 hl42 H locs h hP hS => ?_)
    exact x_iret K hr hP hS h dM_compute_404
  by_cases hc14 : (hi 5 (v1.toNatClampNeg)) = 17
  · have h := h.2.2.2.2.2.2.2.2.2.2.2.2.2.2.1 hc14
    refine lv_tableIn (off := 137) (tgt := 256) K.1 K.2.1 dM_compute_119 (by rw [hc14]; decide) (by rw [hc14]; decide) (by rw [hc14]; rfl) rfl ?_
    refine lv_iload_n K.1 K.2.1 dM_compute_256 rfl (lv_at hL 3 rfl) ?_
    refine lv_iload_n K.1 K.2.1 dM_compute_257 rfl (lv_at hL 4 rfl) ?_
    refine lv_icmp_ne (tgt := 265) K.1 K.2.1 dM_compute_258 rfl (fun hc => ?_) (fun hc => ?_)
    · have h := h.2 hc
      refine lv_iconst (v := 0) K.1 K.2.1 dM_compute_265 (by decide) ?_
      exact x_iret K hr hP hS h dM_compute_266
    · have h := h.1 hc
      refine lv_iconst (v := 1) K.1 K.2.1 dM_compute_261 (by decide) ?_
      refine lv_goto (tgt := 266) K.1 K.2.1 dM_compute_262 rfl ?_
      exact x_iret K hr hP hS h dM_compute_266
  by_cases hc15 : (hi 5 (v1.toNatClampNeg)) = 18
  · have h := h.2.2.2.2.2.2.2.2.2.2.2.2.2.2.2.1 hc15
    refine lv_tableIn (off := 148) (tgt := 267) K.1 K.2.1 dM_compute_119 (by rw [hc15]; decide) (by rw [hc15]; decide) (by rw [hc15]; rfl) rfl ?_
    refine lv_iload_n K.1 K.2.1 dM_compute_267 rfl (lv_at hL 3 rfl) ?_
    refine lv_iload_n K.1 K.2.1 dM_compute_268 rfl (lv_at hL 4 rfl) ?_
    refine lv_icmp_ge (tgt := 276) K.1 K.2.1 dM_compute_269 rfl (fun hc => ?_) (fun hc => ?_)
    · have h := h.1 hc
      refine lv_iconst (v := 0) K.1 K.2.1 dM_compute_276 (by decide) ?_
      exact x_iret K hr hP hS h dM_compute_277
    · have h := h.2 hc
      refine lv_iconst (v := 1) K.1 K.2.1 dM_compute_272 (by decide) ?_
      refine lv_goto (tgt := 277) K.1 K.2.1 dM_compute_273 rfl ?_
      exact x_iret K hr hP hS h dM_compute_277
  by_cases hc16 : (hi 5 (v1.toNatClampNeg)) = 19
  · have h := h.2.2.2.2.2.2.2.2.2.2.2.2.2.2.2.2.1 hc16
    refine lv_tableIn (off := 159) (tgt := 278) K.1 K.2.1 dM_compute_119 (by rw [hc16]; decide) (by rw [hc16]; decide) (by rw [hc16]; rfl) rfl ?_
    refine lv_aload_n K.1 K.2.1 dM_compute_278 rfl (lv_at hL 1 rfl) ?_
    refine lv_iload_n K.1 K.2.1 dM_compute_279 rfl (lv_at hL 3 rfl) ?_
    refine lv_iload K.1 K.2.1 dM_compute_280 (lv_at hL 0 rfl) ?_
    refine x_cVI (As := [.int v2, .int q0]) (rest := []) K gT_good hZ hP hS calM_sign mlM_282 0 (by decide) rfl rfl (mM_sign hZ K.2.2.2.2.2.2.2.1 h) ⟨Nat.le_of_ble_eq_true rfl, Nat.le_of_ble_eq_true rfl⟩ rfl hL.1 rfl (Nat.le_of_ble_eq_true rfl) dM_compute_282 (fun r43 hi44 hl45 H locs h hP hS => ?_)
    refine lv_aload_n K.1 K.2.1 dM_compute_285 rfl (lv_at hL 1 rfl) ?_
    refine lv_iload_n K.1 K.2.1 dM_compute_286 rfl (lv_at hL 4 rfl) ?_
    refine lv_iload K.1 K.2.1 dM_compute_287 (lv_at hL 0 rfl) ?_
    refine x_cVI (As := [.int v3, .int q0]) (rest := [.int r43]) K gT_good hZ hP hS calM_sign mlM_282 0 (by decide) rfl rfl (mM_sign hZ K.2.2.2.2.2.2.2.1 h) ⟨Nat.le_of_ble_eq_true rfl, Nat.le_of_ble_eq_true rfl⟩ rfl hL.1 rfl (Nat.le_of_ble_eq_true rfl) dM_compute_289 (fun r46 hi47 hl48 H locs h hP hS => ?_)
    refine lv_icmp_ge (tgt := 299) K.1 K.2.1 dM_compute_292 rfl (fun hc => ?_) (fun hc => ?_)
    · have h := h.1 hc
      refine lv_iconst (v := 0) K.1 K.2.1 dM_compute_299 (by decide) ?_
      exact x_iret K hr hP hS h dM_compute_300
    · have h := h.2 hc
      refine lv_iconst (v := 1) K.1 K.2.1 dM_compute_295 (by decide) ?_
      refine lv_goto (tgt := 300) K.1 K.2.1 dM_compute_296 rfl ?_
      exact x_iret K hr hP hS h dM_compute_300
  by_cases hc17 : (hi 5 (v1.toNatClampNeg)) = 20
  · have h := h.2.2.2.2.2.2.2.2.2.2.2.2.2.2.2.2.2.1 hc17
    refine lv_tableIn (off := 182) (tgt := 301) K.1 K.2.1 dM_compute_119 (by rw [hc17]; decide) (by rw [hc17]; decide) (by rw [hc17]; rfl) rfl ?_
    refine lv_iload_n K.1 K.2.1 dM_compute_301 rfl (lv_at hL 3 rfl) ?_
    refine lv_aload_n K.1 K.2.1 dM_compute_302 rfl (lv_at hL 1 rfl) ?_
    refine x_get (v := .ref (ad 16)) K hP hinM (ci := 7) rfl 0 (by decide) rfl 19 (by decide) flM_56 rfl rfl dM_compute_303 ?_
    refine lv_aload_n K.1 K.2.1 dM_compute_306 rfl (lv_at hL 1 rfl) ?_
    refine x_get (v := .ref (ad 6)) K hP hinM (ci := 7) rfl 0 (by decide) rfl 9 (by decide) flM_25 rfl rfl dM_compute_307 ?_
    refine lv_aload_n K.1 K.2.1 dM_compute_310 rfl (lv_at hL 1 rfl) ?_
    refine x_get (v := .ref (ad 8)) K hP hinM (ci := 7) rfl 0 (by decide) rfl 11 (by decide) flM_31 rfl rfl dM_compute_311 ?_
    refine lv_iload_n K.1 K.2.1 dM_compute_314 rfl (lv_at hL 2 rfl) ?_
    obtain ⟨g49, h⟩ := h
    refine x_iald K hP 8 (by decide) 0 rfl rfl g49 dM_compute_315 ?_
    obtain ⟨g50, h⟩ := h
    refine x_iald K hP 6 (by decide) 0 rfl rfl g50 dM_compute_316 ?_
    obtain ⟨g51, h⟩ := h
    refine x_iald K hP 16 (by decide) 0 rfl rfl g51 dM_compute_317 ?_
    refine lv_ishl K.1 K.2.1 dM_compute_318 ?_
    refine lv_iload_n K.1 K.2.1 dM_compute_319 rfl (lv_at hL 4 rfl) ?_
    refine lv_iadd K.1 K.2.1 dM_compute_320 ?_
    exact x_iret K hr hP hS h dM_compute_321
  by_cases hc18 : (hi 5 (v1.toNatClampNeg)) = 21
  · have h := h.2.2.2.2.2.2.2.2.2.2.2.2.2.2.2.2.2.2.1 hc18
    refine lv_tableIn (off := 203) (tgt := 322) K.1 K.2.1 dM_compute_119 (by rw [hc18]; decide) (by rw [hc18]; decide) (by rw [hc18]; rfl) rfl ?_
    refine lv_iload_n K.1 K.2.1 dM_compute_322 rfl (lv_at hL 3 rfl) ?_
    refine lv_aload_n K.1 K.2.1 dM_compute_323 rfl (lv_at hL 1 rfl) ?_
    refine x_get (v := .ref (ad 14)) K hP hinM (ci := 7) rfl 0 (by decide) rfl 17 (by decide) flM_50 rfl rfl dM_compute_324 ?_
    refine lv_iload_n K.1 K.2.1 dM_compute_327 rfl (lv_at hL 2 rfl) ?_
    obtain ⟨g52, h⟩ := h
    refine x_iald K hP 14 (by decide) 0 rfl rfl g52 dM_compute_328 ?_
    refine lv_ishr K.1 K.2.1 dM_compute_329 ?_
    refine lv_iload K.1 K.2.1 dM_compute_330 (lv_at hL 6 rfl) ?_
    refine lv_iand K.1 K.2.1 dM_compute_332 ?_
    exact x_iret K hr hP hS h dM_compute_333
  by_cases hc19 : (hi 5 (v1.toNatClampNeg)) = 22
  · have h := h.2.2.2.2.2.2.2.2.2.2.2.2.2.2.2.2.2.2.2.1 hc19
    refine lv_tableIn (off := 215) (tgt := 334) K.1 K.2.1 dM_compute_119 (by rw [hc19]; decide) (by rw [hc19]; decide) (by rw [hc19]; rfl) rfl ?_
    refine lv_iload_n K.1 K.2.1 dM_compute_334 rfl (lv_at hL 3 rfl) ?_
    exact x_iret K hr hP hS h dM_compute_335
  by_cases hc20 : (hi 5 (v1.toNatClampNeg)) = 23
  · have h := h.2.2.2.2.2.2.2.2.2.2.2.2.2.2.2.2.2.2.2.2.1 hc20
    refine lv_tableIn (off := 217) (tgt := 336) K.1 K.2.1 dM_compute_119 (by rw [hc20]; decide) (by rw [hc20]; decide) (by rw [hc20]; rfl) rfl ?_
    refine lv_aload_n K.1 K.2.1 dM_compute_336 rfl (lv_at hL 1 rfl) ?_
    refine lv_iload_n K.1 K.2.1 dM_compute_337 rfl (lv_at hL 3 rfl) ?_
    refine lv_iload K.1 K.2.1 dM_compute_338 (lv_at hL 0 rfl) ?_
    refine x_cVI (As := [.int v2, .int q0]) (rest := []) K gT_good hZ hP hS calM_sign mlM_282 0 (by decide) rfl rfl (mM_sign hZ K.2.2.2.2.2.2.2.1 h) ⟨Nat.le_of_ble_eq_true rfl, Nat.le_of_ble_eq_true rfl⟩ rfl hL.1 rfl (Nat.le_of_ble_eq_true rfl) dM_compute_340 (fun r53 hi54 hl55 H locs h hP hS => ?_)
    refine lv_iload K.1 K.2.1 dM_compute_343 (lv_at hL 6 rfl) ?_
    refine lv_iand K.1 K.2.1 dM_compute_345 ?_
    exact x_iret K hr hP hS h dM_compute_346
  by_cases hc21 : (hi 5 (v1.toNatClampNeg)) = 24
  · have h := h.2.2.2.2.2.2.2.2.2.2.2.2.2.2.2.2.2.2.2.2.2.1 hc21
    refine lv_tableIn (off := 228) (tgt := 347) K.1 K.2.1 dM_compute_119 (by rw [hc21]; decide) (by rw [hc21]; decide) (by rw [hc21]; rfl) rfl ?_
    refine lv_aload_n K.1 K.2.1 dM_compute_347 rfl (lv_at hL 1 rfl) ?_
    refine lv_aload_n K.1 K.2.1 dM_compute_348 rfl (lv_at hL 1 rfl) ?_
    refine x_get (v := .ref (ad 9)) K hP hinM (ci := 7) rfl 0 (by decide) rfl 12 (by decide) flM_34 rfl rfl dM_compute_349 ?_
    refine lv_iload_n K.1 K.2.1 dM_compute_352 rfl (lv_at hL 2 rfl) ?_
    obtain ⟨g56, h⟩ := h
    refine x_iald K hP 9 (by decide) 0 rfl rfl g56 dM_compute_353 ?_
    refine lv_aload_n K.1 K.2.1 dM_compute_354 rfl (lv_at hL 1 rfl) ?_
    refine x_get (v := .ref (ad 12)) K hP hinM (ci := 7) rfl 0 (by decide) rfl 15 (by decide) flM_44 rfl rfl dM_compute_355 ?_
    refine lv_iload_n K.1 K.2.1 dM_compute_358 rfl (lv_at hL 2 rfl) ?_
    obtain ⟨g57, h⟩ := h
    refine x_zald K hP 12 (by decide) 3 rfl rfl g57 dM_compute_359 ?_
    refine x_cVI (As := [.int (hi 9 (v1.toNatClampNeg)), .int (hi 12 (v1.toNatClampNeg))]) (rest := []) K gT_good hZ hP hS calM_get mlM_274 0 (by decide) rfl rfl (mM_get hZ K.2.2.2.2.2.2.2.1 h) ⟨Nat.le_of_ble_eq_true rfl, Nat.le_of_ble_eq_true rfl⟩ rfl hL.1 rfl (Nat.le_of_ble_eq_true rfl) dM_compute_360 (fun r58 hi59 hl60 H locs h hP hS => ?_)
    refine lv_iconst (v := 1) K.1 K.2.1 dM_compute_363 (by decide) ?_
    refine lv_icmp_ne (tgt := 371) K.1 K.2.1 dM_compute_364 rfl (fun hc => ?_) (fun hc => ?_)
    · have h := h.2 hc
      refine lv_iload_n K.1 K.2.1 dM_compute_371 rfl (lv_at hL 4 rfl) ?_
      exact x_iret K hr hP hS h dM_compute_372
    · have h := h.1 hc
      refine lv_iload_n K.1 K.2.1 dM_compute_367 rfl (lv_at hL 3 rfl) ?_
      refine lv_goto (tgt := 372) K.1 K.2.1 dM_compute_368 rfl ?_
      exact x_iret K hr hP hS h dM_compute_372
  by_cases hc22 : (hi 5 (v1.toNatClampNeg)) = 25
  · have h := h.2.2.2.2.2.2.2.2.2.2.2.2.2.2.2.2.2.2.2.2.2.2.1 hc22
    refine lv_tableIn (off := 254) (tgt := 373) K.1 K.2.1 dM_compute_119 (by rw [hc22]; decide) (by rw [hc22]; decide) (by rw [hc22]; rfl) rfl ?_
    refine lv_aload_n K.1 K.2.1 dM_compute_373 rfl (lv_at hL 1 rfl) ?_
    refine lv_iload_n K.1 K.2.1 dM_compute_374 rfl (lv_at hL 3 rfl) ?_
    refine lv_iload_n K.1 K.2.1 dM_compute_375 rfl (lv_at hL 4 rfl) ?_
    refine lv_iload K.1 K.2.1 dM_compute_376 (lv_at hL 5 rfl) ?_
    refine x_cVI (As := [.int v2, .int v3, .int v4]) (rest := []) K gT_good hZ hP hS calM_elementOf mlM_278 0 (by decide) rfl rfl (mM_elementOf hZ K.2.2.2.2.2.2.2.1 h) ⟨Nat.le_of_ble_eq_true rfl, Nat.le_of_ble_eq_true rfl⟩ rfl hL.1 rfl (Nat.le_of_ble_eq_true rfl) dM_compute_378 (fun r61 hi62 hl63 H locs h hP hS => ?_)
    exact x_iret K hr hP hS h dM_compute_381
  by_cases hc23 : (hi 5 (v1.toNatClampNeg)) = 26
  · have h := h.2.2.2.2.2.2.2.2.2.2.2.2.2.2.2.2.2.2.2.2.2.2.2.1 hc23
    refine lv_tableIn (off := 263) (tgt := 382) K.1 K.2.1 dM_compute_119 (by rw [hc23]; decide) (by rw [hc23]; decide) (by rw [hc23]; rfl) rfl ?_
    refine lv_aload_n K.1 K.2.1 dM_compute_382 rfl (lv_at hL 1 rfl) ?_
    refine lv_iload_n K.1 K.2.1 dM_compute_383 rfl (lv_at hL 2 rfl) ?_
    refine lv_iload_n K.1 K.2.1 dM_compute_384 rfl (lv_at hL 3 rfl) ?_
    refine lv_iload_n K.1 K.2.1 dM_compute_385 rfl (lv_at hL 4 rfl) ?_
    refine x_cVI (As := [.int v1, .int v2, .int v3]) (rest := []) K gT_good hZ hP hS calM_written mlM_285 0 (by decide) rfl rfl (mM_written hZ K.2.2.2.2.2.2.2.1 h) ⟨Nat.le_of_ble_eq_true rfl, Nat.le_of_ble_eq_true rfl⟩ rfl hL.1 rfl (Nat.le_of_ble_eq_true rfl) dM_compute_386 (fun r64 hi65 hl66 H locs h hP hS => ?_)
    exact x_iret K hr hP hS h dM_compute_389
  have h := h.2.2.2.2.2.2.2.2.2.2.2.2.2.2.2.2.2.2.2.2.2.2.2.2 hc0 hc1 hc2 hc3 hc4 hc5 hc6 hc7 hc8 hc9 hc10 hc11 hc12 hc13 hc14 hc15 hc16 hc17 hc18 hc19 hc20 hc21 hc22 hc23
  refine lv_tableOut (tgt := 390) K.1 K.2.1 dM_compute_119 (by have e0 := i_ne hc0 (n := 3) (by decide); have e1 := i_ne hc1 (n := 4) (by decide); have e2 := i_ne hc2 (n := 5) (by decide); have e3 := i_ne hc3 (n := 6) (by decide); have e4 := i_ne hc4 (n := 7) (by decide); have e5 := i_ne hc5 (n := 8) (by decide); have e6 := i_ne hc6 (n := 9) (by decide); have e7 := i_ne hc7 (n := 10) (by decide); have e8 := i_ne hc8 (n := 11) (by decide); have e9 := i_ne hc9 (n := 12) (by decide); have e10 := i_ne hc10 (n := 13) (by decide); have e11 := i_ne hc11 (n := 14) (by decide); have e12 := i_ne hc12 (n := 15) (by decide); have e13 := i_ne hc13 (n := 16) (by decide); have e14 := i_ne hc14 (n := 17) (by decide); have e15 := i_ne hc15 (n := 18) (by decide); have e16 := i_ne hc16 (n := 19) (by decide); have e17 := i_ne hc17 (n := 20) (by decide); have e18 := i_ne hc18 (n := 21) (by decide); have e19 := i_ne hc19 (n := 22) (by decide); have e20 := i_ne hc20 (n := 23) (by decide); have e21 := i_ne hc21 (n := 24) (by decide); have e22 := i_ne hc22 (n := 25) (by decide); have e23 := i_ne hc23 (n := 26) (by decide); omega) rfl ?_
  refine lv_aload_n K.1 K.2.1 dM_compute_390 rfl (lv_at hL 1 rfl) ?_
  refine lv_aload_n K.1 K.2.1 dM_compute_391 rfl (lv_at hL 1 rfl) ?_
  refine x_get (v := .ref (ad 5)) K hP hinM (ci := 7) rfl 0 (by decide) rfl 8 (by decide) flM_22 rfl rfl dM_compute_392 ?_
  refine lv_iload_n K.1 K.2.1 dM_compute_395 rfl (lv_at hL 2 rfl) ?_
  obtain ⟨g67, h⟩ := h
  refine x_iald K hP 5 (by decide) 0 rfl rfl g67 dM_compute_396 ?_
  refine lv_iload_n K.1 K.2.1 dM_compute_397 rfl (lv_at hL 3 rfl) ?_
  refine lv_iload_n K.1 K.2.1 dM_compute_398 rfl (lv_at hL 4 rfl) ?_
  refine lv_iload K.1 K.2.1 dM_compute_399 (lv_at hL 5 rfl) ?_
  refine x_cVI (As := [.int (hi 5 (v1.toNatClampNeg)), .int v2, .int v3, .int v4]) (rest := []) K gT_good hZ hP hS calM_binary mlM_288 0 (by decide) rfl rfl (mM_binary hZ K.2.2.2.2.2.2.2.1 h) ⟨Nat.le_of_ble_eq_true rfl, Nat.le_of_ble_eq_true rfl⟩ rfl hL.1 rfl (Nat.le_of_ble_eq_true rfl) dM_compute_401 (fun r68 hi69 hl70 H locs h hP hS => ?_)
  exact x_iret K hr hP hS h dM_compute_404
set_option maxRecDepth 100000 in
set_option maxHeartbeats 4000000 in
theorem bM_compute_59 {p : Program} {l : Launch} {e : Env} {s : State} {m : MethodId} {args : Array Value} {below : List Frame} {meth : Method} {c : Code} {D : va_G} {cI cJ cC cZ cR : ClassId} {ad : Nat → Nat} {A : Nat → Prop} {Zs : State → Prop} (K : Cx p (rmX 2 50) s m args meth c cM_compute 7 "WordCheckerModel" gT D cls8 (tys5 cI cJ cC cZ cR) 21 ad A Zs) (hr : meth.sig.returnType = (some .int)) (hZ : ZsOK A Zs) {Φ : Int32 → HI → HL → Prop} {v1 : Int32} {v2 : Int32} {q0 : Int32} {hi : HI} {hl : HL} {H : Heap} {locs : List Loc} (h : wbM_compute_59 v1 v2 q0 hi hl Φ) {ls : Array Slot} (hL : lv_has ls 7 [(0, .ref (ad 0)), (1, .int v1), (2, .int v2)]) (hP : va_P D cls8 (wl 21 ad (GM cI cZ ad) hi hl) H) (hS : va_S A s.heap H locs) : W p l e (rmX 2 50) s m args below meth c H locs 0 0 (MQ below (va_Qi (fun r (u : HI × HL) => Φ r u.1 u.2) (fun u t => va_P D cls8 (wl 21 ad (GM cI cZ ad) u.1 u.2) t.heap) A) args s 0 0 A) (F0 m 59 ls [.int q0]) := by
  unfold wbM_compute_59 at h
  refine lv_istore_n (lv' := [(3, .int q0), (0, .ref (ad 0)), (1, .int v1), (2, .int v2)]) K.1 K.2.1 dM_compute_59 rfl hL (by decide) rfl (fun ls hL => ?_)
  refine lv_aload_n K.1 K.2.1 dM_compute_60 rfl (lv_at hL 1 rfl) ?_
  refine x_get (v := .ref (ad 16)) K hP hinM (ci := 7) rfl 0 (by decide) rfl 19 (by decide) flM_56 rfl rfl dM_compute_61 ?_
  refine lv_aload_n K.1 K.2.1 dM_compute_64 rfl (lv_at hL 1 rfl) ?_
  refine x_get (v := .ref (ad 6)) K hP hinM (ci := 7) rfl 0 (by decide) rfl 9 (by decide) flM_25 rfl rfl dM_compute_65 ?_
  refine lv_iload_n K.1 K.2.1 dM_compute_68 rfl (lv_at hL 2 rfl) ?_
  obtain ⟨g1, h⟩ := h
  refine x_iald K hP 6 (by decide) 0 rfl rfl g1 dM_compute_69 ?_
  obtain ⟨g2, h⟩ := h
  refine x_iald K hP 16 (by decide) 0 rfl rfl g2 dM_compute_70 ?_
  refine lv_istore (lv' := [(4, .int (hi 16 ((hi 6 (v1.toNatClampNeg)).toNatClampNeg))), (3, .int q0), (0, .ref (ad 0)), (1, .int v1), (2, .int v2)]) K.1 K.2.1 dM_compute_71 hL (by decide) rfl (fun ls hL => ?_)
  refine lv_iconst (v := 1) K.1 K.2.1 dM_compute_73 (by decide) ?_
  refine lv_iload K.1 K.2.1 dM_compute_74 (lv_at hL 0 rfl) ?_
  refine lv_ishl K.1 K.2.1 dM_compute_76 ?_
  refine lv_iconst (v := 1) K.1 K.2.1 dM_compute_77 (by decide) ?_
  refine lv_isub K.1 K.2.1 dM_compute_78 ?_
  refine lv_istore (lv' := [(5, .int (((1 : Int32) <<< ((hi 16 ((hi 6 (v1.toNatClampNeg)).toNatClampNeg)) &&& 31)) - (1 : Int32))), (4, .int (hi 16 ((hi 6 (v1.toNatClampNeg)).toNatClampNeg))), (3, .int q0), (0, .ref (ad 0)), (1, .int v1), (2, .int v2)]) K.1 K.2.1 dM_compute_79 hL (by decide) rfl (fun ls hL => ?_)
  refine lv_aload_n K.1 K.2.1 dM_compute_81 rfl (lv_at hL 3 rfl) ?_
  refine x_get (v := .ref (ad 7)) K hP hinM (ci := 7) rfl 0 (by decide) rfl 10 (by decide) flM_28 rfl rfl dM_compute_82 ?_
  refine lv_iload_n K.1 K.2.1 dM_compute_85 rfl (lv_at hL 4 rfl) ?_
  obtain ⟨g3, h⟩ := h
  refine x_iald K hP 7 (by decide) 0 rfl rfl g3 dM_compute_86 ?_
  refine lv_if_ge (tgt := 95) K.1 K.2.1 dM_compute_87 rfl (fun hc => ?_) (fun hc => ?_)
  · have h := h.1 hc
    refine lv_aload_n K.1 K.2.1 dM_compute_95 rfl (lv_at hL 3 rfl) ?_
    refine x_get (v := .ref (ad 16)) K hP hinM (ci := 7) rfl 0 (by decide) rfl 19 (by decide) flM_56 rfl rfl dM_compute_96 ?_
    refine lv_aload_n K.1 K.2.1 dM_compute_99 rfl (lv_at hL 3 rfl) ?_
    refine x_get (v := .ref (ad 6)) K hP hinM (ci := 7) rfl 0 (by decide) rfl 9 (by decide) flM_25 rfl rfl dM_compute_100 ?_
    refine lv_aload_n K.1 K.2.1 dM_compute_103 rfl (lv_at hL 3 rfl) ?_
    refine x_get (v := .ref (ad 7)) K hP hinM (ci := 7) rfl 0 (by decide) rfl 10 (by decide) flM_28 rfl rfl dM_compute_104 ?_
    refine lv_iload_n K.1 K.2.1 dM_compute_107 rfl (lv_at hL 4 rfl) ?_
    obtain ⟨g4, h⟩ := h
    refine x_iald K hP 7 (by decide) 0 rfl rfl g4 dM_compute_108 ?_
    obtain ⟨g5, h⟩ := h
    refine x_iald K hP 6 (by decide) 0 rfl rfl g5 dM_compute_109 ?_
    obtain ⟨g6, h⟩ := h
    refine x_iald K hP 16 (by decide) 0 rfl rfl g6 dM_compute_110 ?_
    exact bM_compute_111 K hr hZ h (lv_sub hL [3, 4, 5, 2, 1, 0] rfl) hP hS
  · have h := h.2 hc
    refine lv_iload K.1 K.2.1 dM_compute_90 (lv_at hL 1 rfl) ?_
    refine lv_goto (tgt := 111) K.1 K.2.1 dM_compute_92 rfl ?_
    exact bM_compute_111 K hr hZ h (lv_sub hL [3, 4, 5, 2, 1, 0] rfl) hP hS
set_option maxRecDepth 100000 in
set_option maxHeartbeats 4000000 in
theorem bM_compute_29 {p : Program} {l : Launch} {e : Env} {s : State} {m : MethodId} {args : Array Value} {below : List Frame} {meth : Method} {c : Code} {D : va_G} {cI cJ cC cZ cR : ClassId} {ad : Nat → Nat} {A : Nat → Prop} {Zs : State → Prop} (K : Cx p (rmX 2 50) s m args meth c cM_compute 7 "WordCheckerModel" gT D cls8 (tys5 cI cJ cC cZ cR) 21 ad A Zs) (hr : meth.sig.returnType = (some .int)) (hZ : ZsOK A Zs) {Φ : Int32 → HI → HL → Prop} {v1 : Int32} {q0 : Int32} {hi : HI} {hl : HL} {H : Heap} {locs : List Loc} (h : wbM_compute_29 v1 q0 hi hl Φ) {ls : Array Slot} (hL : lv_has ls 7 [(0, .ref (ad 0)), (1, .int v1)]) (hP : va_P D cls8 (wl 21 ad (GM cI cZ ad) hi hl) H) (hS : va_S A s.heap H locs) : W p l e (rmX 2 50) s m args below meth c H locs 0 0 (MQ below (va_Qi (fun r (u : HI × HL) => Φ r u.1 u.2) (fun u t => va_P D cls8 (wl 21 ad (GM cI cZ ad) u.1 u.2) t.heap) A) args s 0 0 A) (F0 m 29 ls [.int q0]) := by
  unfold wbM_compute_29 at h
  refine lv_istore_n (lv' := [(2, .int q0), (0, .ref (ad 0)), (1, .int v1)]) K.1 K.2.1 dM_compute_29 rfl hL (by decide) rfl (fun ls hL => ?_)
  refine lv_aload_n K.1 K.2.1 dM_compute_30 rfl (lv_at hL 1 rfl) ?_
  refine x_get (v := .ref (ad 8)) K hP hinM (ci := 7) rfl 0 (by decide) rfl 11 (by decide) flM_31 rfl rfl dM_compute_31 ?_
  refine lv_iload_n K.1 K.2.1 dM_compute_34 rfl (lv_at hL 2 rfl) ?_
  obtain ⟨g1, h⟩ := h
  refine x_iald K hP 8 (by decide) 0 rfl rfl g1 dM_compute_35 ?_
  refine lv_if_ge (tgt := 43) K.1 K.2.1 dM_compute_36 rfl (fun hc => ?_) (fun hc => ?_)
  · have h := h.1 hc
    refine lv_aload_n K.1 K.2.1 dM_compute_43 rfl (lv_at hL 1 rfl) ?_
    refine lv_aload_n K.1 K.2.1 dM_compute_44 rfl (lv_at hL 1 rfl) ?_
    refine x_get (v := .ref (ad 8)) K hP hinM (ci := 7) rfl 0 (by decide) rfl 11 (by decide) flM_31 rfl rfl dM_compute_45 ?_
    refine lv_iload_n K.1 K.2.1 dM_compute_48 rfl (lv_at hL 2 rfl) ?_
    obtain ⟨g2, h⟩ := h
    refine x_iald K hP 8 (by decide) 0 rfl rfl g2 dM_compute_49 ?_
    refine lv_aload_n K.1 K.2.1 dM_compute_50 rfl (lv_at hL 1 rfl) ?_
    refine x_get (v := .ref (ad 11)) K hP hinM (ci := 7) rfl 0 (by decide) rfl 14 (by decide) flM_41 rfl rfl dM_compute_51 ?_
    refine lv_iload_n K.1 K.2.1 dM_compute_54 rfl (lv_at hL 2 rfl) ?_
    obtain ⟨g3, h⟩ := h
    refine x_zald K hP 11 (by decide) 3 rfl rfl g3 dM_compute_55 ?_
    refine x_cVI (As := [.int (hi 8 (v1.toNatClampNeg)), .int (hi 11 (v1.toNatClampNeg))]) (rest := []) K gT_good hZ hP hS calM_get mlM_274 0 (by decide) rfl rfl (mM_get hZ K.2.2.2.2.2.2.2.1 h) ⟨Nat.le_of_ble_eq_true rfl, Nat.le_of_ble_eq_true rfl⟩ rfl hL.1 rfl (Nat.le_of_ble_eq_true rfl) dM_compute_56 (fun r4 hi5 hl6 H locs h hP hS => ?_)
    exact bM_compute_59 K hr hZ h (lv_sub hL [1, 2, 0] rfl) hP hS
  · have h := h.2 hc
    refine lv_iconst (v := 0) K.1 K.2.1 dM_compute_39 (by decide) ?_
    refine lv_goto (tgt := 59) K.1 K.2.1 dM_compute_40 rfl ?_
    exact bM_compute_59 K hr hZ h (lv_sub hL [1, 2, 0] rfl) hP hS
set_option maxRecDepth 100000 in
set_option maxHeartbeats 4000000 in
theorem bM_compute_0 {p : Program} {l : Launch} {e : Env} {s : State} {m : MethodId} {args : Array Value} {below : List Frame} {meth : Method} {c : Code} {D : va_G} {cI cJ cC cZ cR : ClassId} {ad : Nat → Nat} {A : Nat → Prop} {Zs : State → Prop} (K : Cx p (rmX 2 50) s m args meth c cM_compute 7 "WordCheckerModel" gT D cls8 (tys5 cI cJ cC cZ cR) 21 ad A Zs) (hr : meth.sig.returnType = (some .int)) (hZ : ZsOK A Zs) {Φ : Int32 → HI → HL → Prop} {v1 : Int32} {hi : HI} {hl : HL} {H : Heap} {locs : List Loc} (h : wbM_compute_0 v1 hi hl Φ) {ls : Array Slot} (hL : lv_has ls 7 [(0, .ref (ad 0)), (1, .int v1)]) (hP : va_P D cls8 (wl 21 ad (GM cI cZ ad) hi hl) H) (hS : va_S A s.heap H locs) : W p l e (rmX 2 50) s m args below meth c H locs 0 0 (MQ below (va_Qi (fun r (u : HI × HL) => Φ r u.1 u.2) (fun u t => va_P D cls8 (wl 21 ad (GM cI cZ ad) u.1 u.2) t.heap) A) args s 0 0 A) (F0 m 0 ls []) := by
  unfold wbM_compute_0 at h
  refine lv_aload_n K.1 K.2.1 dM_compute_0 rfl (lv_at hL 0 rfl) ?_
  refine x_get (v := .ref (ad 7)) K hP hinM (ci := 7) rfl 0 (by decide) rfl 10 (by decide) flM_28 rfl rfl dM_compute_1 ?_
  refine lv_iload_n K.1 K.2.1 dM_compute_4 rfl (lv_at hL 1 rfl) ?_
  obtain ⟨g1, h⟩ := h
  refine x_iald K hP 7 (by decide) 0 rfl rfl g1 dM_compute_5 ?_
  refine lv_if_ge (tgt := 13) K.1 K.2.1 dM_compute_6 rfl (fun hc => ?_) (fun hc => ?_)
  · have h := h.1 hc
    refine lv_aload_n K.1 K.2.1 dM_compute_13 rfl (lv_at hL 0 rfl) ?_
    refine lv_aload_n K.1 K.2.1 dM_compute_14 rfl (lv_at hL 0 rfl) ?_
    refine x_get (v := .ref (ad 7)) K hP hinM (ci := 7) rfl 0 (by decide) rfl 10 (by decide) flM_28 rfl rfl dM_compute_15 ?_
    refine lv_iload_n K.1 K.2.1 dM_compute_18 rfl (lv_at hL 1 rfl) ?_
    obtain ⟨g2, h⟩ := h
    refine x_iald K hP 7 (by decide) 0 rfl rfl g2 dM_compute_19 ?_
    refine lv_aload_n K.1 K.2.1 dM_compute_20 rfl (lv_at hL 0 rfl) ?_
    refine x_get (v := .ref (ad 10)) K hP hinM (ci := 7) rfl 0 (by decide) rfl 13 (by decide) flM_37 rfl rfl dM_compute_21 ?_
    refine lv_iload_n K.1 K.2.1 dM_compute_24 rfl (lv_at hL 1 rfl) ?_
    obtain ⟨g3, h⟩ := h
    refine x_zald K hP 10 (by decide) 3 rfl rfl g3 dM_compute_25 ?_
    refine x_cVI (As := [.int (hi 7 (v1.toNatClampNeg)), .int (hi 10 (v1.toNatClampNeg))]) (rest := []) K gT_good hZ hP hS calM_get mlM_274 0 (by decide) rfl rfl (mM_get hZ K.2.2.2.2.2.2.2.1 h) ⟨Nat.le_of_ble_eq_true rfl, Nat.le_of_ble_eq_true rfl⟩ rfl hL.1 rfl (Nat.le_of_ble_eq_true rfl) dM_compute_26 (fun r4 hi5 hl6 H locs h hP hS => ?_)
    exact bM_compute_29 K hr hZ h (lv_sub hL [0, 1] rfl) hP hS
  · have h := h.2 hc
    refine lv_iconst (v := 0) K.1 K.2.1 dM_compute_9 (by decide) ?_
    refine lv_goto (tgt := 29) K.1 K.2.1 dM_compute_10 rfl ?_
    exact bM_compute_29 K hr hZ h (lv_sub hL [0, 1] rfl) hP hS
set_option maxRecDepth 100000 in
set_option maxHeartbeats 4000000 in
theorem mM_compute {l : Launch} {D : va_G} {cI cJ cC cZ cR : ClassId} {ad : Nat → Nat} {A : Nat → Prop} {Zs : State → Prop} (hZ : ZsOK A Zs) (hD : wlD 21 ad A) {v1 : Int32} {hi : HI} {hl : HL} {Φ : Int32 → HI → HL → Prop} (h : wpM_compute v1 hi hl Φ) : SpI l yM_compute cM_compute 7 (some .int) gT 2 50 [.ref (ad 0), .int v1] D cls8 (tys5 cI cJ cC cZ cR) 21 ad (GM cI cZ ad) A Zs hi hl Φ := by
  refine Met.ofW (cc := cM_compute) (maxL := 7) (ret := (some .int)) (by decide) rfl ?_
  intro p e s m args below meth c s₁ B hml hv
  obtain ⟨rfl, hP, hK, hZs⟩ := hv
  have K : Cx p (rmX 2 50) s m _ meth c cM_compute 7 "WordCheckerModel" gT D cls8 (tys5 cI cJ cC cZ cR) 21 ad A Zs := ⟨B.exec, B.bytes, hml, findClass_of_methodNamed B.named, fun w hw => atoms_spec B.pre w (List.mem_cons_of_mem _ hw), B.notSynchronized, hK, hD, hZs⟩
  have hL := lv_entry ([.ref (ad 0), .int v1]) (n := 7) (Nat.le_of_ble_eq_true rfl)
  rw [lg_entry_eq]
  generalize (lg_sl ([.ref (ad 0), .int v1]) ++ List.replicate (7 - (lg_sl ([.ref (ad 0), .int v1])).length) Slot.unset).toArray = ls at hL ⊢
  have hL : lv_has ls 7 [(0, .ref (ad 0)), (1, .int v1)] := hL
  unfold wpM_compute at h
  exact bM_compute_0 K B.returns hZ h (lv_sub hL [0, 1] rfl) hP va_S.rf
