set_option maxRecDepth 100000 in
set_option maxHeartbeats 4000000 in
theorem bM_leads_27 {p : Program} {l : Launch} {e : Env} {s : State} {m : MethodId} {args : Array Value} {below : List Frame} {meth : Method} {c : Code} {D : va_G} {cI cJ cC cZ cR : ClassId} {ad : Nat → Nat} {A : Nat → Prop} {Zs : State → Prop} (K : Cx p (rmX 6 143) s m args meth c cM_leads 6 "WordCheckerModel" gT D cls8 (tys5 cI cJ cC cZ cR) 21 ad A Zs) (hr : meth.sig.returnType = (some .boolean)) (hZ : ZsOK A Zs) {Φ : Int32 → HI → HL → Prop} {k12 : Int32 → Int32 → Int32 → Int32 → HI → HL → Prop} (hk12 : ∀ (v1 : Int32) (v3 : Int32) (v4 : Int32) (v5 : Int32) (hi : HI) (hl : HL) (ls : Array Slot) (H : Heap) (locs : List Loc), k12 v1 v3 v4 v5 hi hl → lv_has ls 6 [(0, .ref (ad 0)), (1, .int v1), (3, .int v3), (4, .int v4), (5, .int v5)] → va_P D cls8 (wl 21 ad (GM cI cZ ad) hi hl) H → va_S A s.heap H locs → W p l e (rmX 6 143) s m args below meth c H locs 0 0 (MQ below (va_Qi (fun r (u : HI × HL) => Φ r u.1 u.2) (fun u t => va_P D cls8 (wl 21 ad (GM cI cZ ad) u.1 u.2) t.heap) A) args s 0 0 A) (F0 m 12 ls [])) {v1 : Int32} {v3 : Int32} {v4 : Int32} {v5 : Int32} {hi : HI} {hl : HL} {H : Heap} {locs : List Loc} (h : wbM_leads_27 k12 v1 v3 v4 v5 hi hl Φ) {ls : Array Slot} (hL : lv_has ls 6 [(0, .ref (ad 0)), (1, .int v1), (3, .int v3), (4, .int v4), (5, .int v5)]) (hP : va_P D cls8 (wl 21 ad (GM cI cZ ad) hi hl) H) (hS : va_S A s.heap H locs) : W p l e (rmX 6 143) s m args below meth c H locs 0 0 (MQ below (va_Qi (fun r (u : HI × HL) => Φ r u.1 u.2) (fun u t => va_P D cls8 (wl 21 ad (GM cI cZ ad) u.1 u.2) t.heap) A) args s 0 0 A) (F0 m 27 ls []) := by
  unfold wbM_leads_27 at h
  refine lv_aload_n K.1 K.2.1 dM_leads_27 rfl (lv_at hL 0 rfl) ?_
  refine lv_iload_n K.1 K.2.1 dM_leads_28 rfl (lv_at hL 1 rfl) ?_
  refine lv_iload K.1 K.2.1 dM_leads_29 (lv_at hL 3 rfl) ?_
  refine x_cVI (As := [.int v1, .int v4]) (rest := []) K gT_good hZ hP hS calM_put mlM_321 0 (by decide) rfl rfl (mM_put hZ K.2.2.2.2.2.2.2.1 h) ⟨Nat.le_of_ble_eq_true rfl, Nat.le_of_ble_eq_true rfl⟩ rfl hL.1 rfl (Nat.le_of_ble_eq_true rfl) dM_leads_31 (fun r1 hi2 hl3 H locs h hP hS => ?_)
  refine lv_istore (lv' := [(4, .int r1), (0, .ref (ad 0)), (1, .int v1), (3, .int v3), (5, .int v5)]) K.1 K.2.1 dM_leads_34 hL (by decide) rfl (fun ls hL => ?_)
  refine lv_aload_n K.1 K.2.1 dM_leads_36 rfl (lv_at hL 1 rfl) ?_
  refine x_cVI (As := []) (rest := []) K gT_good hZ hP hS calM_holds mlM_324 0 (by decide) rfl rfl (mM_holds hZ K.2.2.2.2.2.2.2.1 h) ⟨Nat.le_of_ble_eq_true rfl, Nat.le_of_ble_eq_true rfl⟩ rfl hL.1 rfl (Nat.le_of_ble_eq_true rfl) dM_leads_37 (fun r4 hi5 hl6 H locs h hP hS => ?_)
  refine lv_if_ne (tgt := 45) K.1 K.2.1 dM_leads_40 rfl (fun hc => ?_) (fun hc => ?_)
  · have h := h.2 hc
    refine lv_iinc (k := 4) (lv' := [(5, .int (v5 + Int32.ofInt (1))), (4, .int r1), (0, .ref (ad 0)), (1, .int v1), (3, .int v3)]) K.1 K.2.1 dM_leads_45 hL rfl rfl (by decide) rfl (fun ls hL => ?_)
    refine lv_goto (tgt := 12) K.1 K.2.1 dM_leads_48 rfl ?_
    exact hk12 _ _ _ _ _ _ _ _ _ h (lv_sub hL [2, 3, 4, 1, 0] rfl) hP hS
  · have h := h.1 hc
    refine lv_iconst (v := 0) K.1 K.2.1 dM_leads_43 (by decide) ?_
    obtain ⟨g7, h⟩ := h
    exact x_zret K hr hP hS g7 h dM_leads_44
set_option maxRecDepth 100000 in
set_option maxHeartbeats 4000000 in
theorem bM_leads_12 {p : Program} {l : Launch} {e : Env} {s : State} {m : MethodId} {args : Array Value} {below : List Frame} {meth : Method} {c : Code} {D : va_G} {cI cJ cC cZ cR : ClassId} {ad : Nat → Nat} {A : Nat → Prop} {Zs : State → Prop} (K : Cx p (rmX 6 143) s m args meth c cM_leads 6 "WordCheckerModel" gT D cls8 (tys5 cI cJ cC cZ cR) 21 ad A Zs) (hr : meth.sig.returnType = (some .boolean)) (hZ : ZsOK A Zs) {Φ : Int32 → HI → HL → Prop} {n : Nat} {v1 : Int32} {v3 : Int32} {v4 : Int32} {v5 : Int32} {hi : HI} {hl : HL} {H : Heap} {locs : List Loc} (h : wbM_leads_12 n v1 v3 v4 v5 hi hl Φ) {ls : Array Slot} (hL : lv_has ls 6 [(0, .ref (ad 0)), (1, .int v1), (3, .int v3), (4, .int v4), (5, .int v5)]) (hP : va_P D cls8 (wl 21 ad (GM cI cZ ad) hi hl) H) (hS : va_S A s.heap H locs) : W p l e (rmX 6 143) s m args below meth c H locs 0 0 (MQ below (va_Qi (fun r (u : HI × HL) => Φ r u.1 u.2) (fun u t => va_P D cls8 (wl 21 ad (GM cI cZ ad) u.1 u.2) t.heap) A) args s 0 0 A) (F0 m 12 ls []) := by
  induction n generalizing v1 v3 v4 v5 hi hl ls H locs with
  | zero => exact False.elim h
  | succ n ih =>
    unfold wbM_leads_12 at h
    refine lv_iload K.1 K.2.1 dM_leads_12 (lv_at hL 4 rfl) ?_
    refine lv_iload_n K.1 K.2.1 dM_leads_14 rfl (lv_at hL 2 rfl) ?_
    refine lv_icmp_gt (tgt := 51) K.1 K.2.1 dM_leads_15 rfl (fun hc => ?_) (fun hc => ?_)
    · have h := h.1 hc
      refine lv_aload_n K.1 K.2.1 dM_leads_51 rfl (lv_at hL 0 rfl) ?_
      refine x_cVI (As := []) (rest := []) K gT_good hZ hP hS calM_isBad mlM_327 0 (by decide) rfl rfl (mM_isBad hZ K.2.2.2.2.2.2.2.1 h) ⟨Nat.le_of_ble_eq_true rfl, Nat.le_of_ble_eq_true rfl⟩ rfl hL.1 rfl (Nat.le_of_ble_eq_true rfl) dM_leads_52 (fun r1 hi2 hl3 H locs h hP hS => ?_)
      obtain ⟨g4, h⟩ := h
      exact x_zret K hr hP hS g4 h dM_leads_55
    · have h := h.2 hc
      refine lv_iload K.1 K.2.1 dM_leads_18 (lv_at hL 4 rfl) ?_
      refine lv_if_le (tgt := 27) K.1 K.2.1 dM_leads_20 rfl (fun hc => ?_) (fun hc => ?_)
      · have h := h.1 hc
        exact bM_leads_27 K hr hZ (fun v1 v3 v4 v5 hi hl ls H locs h hL hP hS => ih h hL hP hS) h (lv_sub hL [0, 1, 2, 3, 4] rfl) hP hS
      · have h := h.2 hc
        refine lv_aload_n K.1 K.2.1 dM_leads_23 rfl (lv_at hL 0 rfl) ?_
        refine x_cVV (As := []) (rest := []) K gT_good hZ hP hS calM_advance mlM_314 0 (by decide) rfl rfl (mM_advance hZ K.2.2.2.2.2.2.2.1 h) ⟨Nat.le_of_ble_eq_true rfl, Nat.le_of_ble_eq_true rfl⟩ rfl hL.1 rfl (Nat.le_of_ble_eq_true rfl) dM_leads_24 (fun hi6 hl7 H locs h hP hS => ?_)
        exact bM_leads_27 K hr hZ (fun v1 v3 v4 v5 hi hl ls H locs h hL hP hS => ih h hL hP hS) h (lv_sub hL [0, 1, 2, 3, 4] rfl) hP hS
set_option maxRecDepth 100000 in
set_option maxHeartbeats 4000000 in
theorem bM_leads_0 {p : Program} {l : Launch} {e : Env} {s : State} {m : MethodId} {args : Array Value} {below : List Frame} {meth : Method} {c : Code} {D : va_G} {cI cJ cC cZ cR : ClassId} {ad : Nat → Nat} {A : Nat → Prop} {Zs : State → Prop} (K : Cx p (rmX 6 143) s m args meth c cM_leads 6 "WordCheckerModel" gT D cls8 (tys5 cI cJ cC cZ cR) 21 ad A Zs) (hr : meth.sig.returnType = (some .boolean)) (hZ : ZsOK A Zs) {Φ : Int32 → HI → HL → Prop} {v1 : Int32} {v2 : Int32} {v3 : Int32} {hi : HI} {hl : HL} {H : Heap} {locs : List Loc} (h : wbM_leads_0 v1 v2 v3 hi hl Φ) {ls : Array Slot} (hL : lv_has ls 6 [(0, .ref (ad 0)), (1, .int v1), (2, .int v2), (3, .int v3)]) (hP : va_P D cls8 (wl 21 ad (GM cI cZ ad) hi hl) H) (hS : va_S A s.heap H locs) : W p l e (rmX 6 143) s m args below meth c H locs 0 0 (MQ below (va_Qi (fun r (u : HI × HL) => Φ r u.1 u.2) (fun u t => va_P D cls8 (wl 21 ad (GM cI cZ ad) u.1 u.2) t.heap) A) args s 0 0 A) (F0 m 0 ls []) := by
  unfold wbM_leads_0 at h
  refine lv_aload_n K.1 K.2.1 dM_leads_0 rfl (lv_at hL 0 rfl) ?_
  refine lv_iload_n K.1 K.2.1 dM_leads_1 rfl (lv_at hL 1 rfl) ?_
  refine lv_iload_n K.1 K.2.1 dM_leads_2 rfl (lv_at hL 2 rfl) ?_
  refine lv_iconst (v := 0) K.1 K.2.1 dM_leads_3 (by decide) ?_
  refine x_cVI (As := [.int v1, .int v2, .int (0 : Int32)]) (rest := []) K gT_good hZ hP hS calM_start mlM_317 0 (by decide) rfl rfl (mM_start hZ K.2.2.2.2.2.2.2.1 h) ⟨Nat.le_of_ble_eq_true rfl, Nat.le_of_ble_eq_true rfl⟩ rfl hL.1 rfl (Nat.le_of_ble_eq_true rfl) dM_leads_4 (fun r1 hi2 hl3 H locs h hP hS => ?_)
  refine lv_istore (lv' := [(4, .int r1), (0, .ref (ad 0)), (1, .int v1), (2, .int v2), (3, .int v3)]) K.1 K.2.1 dM_leads_7 hL (by decide) rfl (fun ls hL => ?_)
  refine lv_iconst (v := 0) K.1 K.2.1 dM_leads_9 (by decide) ?_
  refine lv_istore (lv' := [(5, .int (0 : Int32)), (4, .int r1), (0, .ref (ad 0)), (1, .int v1), (2, .int v2), (3, .int v3)]) K.1 K.2.1 dM_leads_10 hL (by decide) rfl (fun ls hL => ?_)
  obtain ⟨fu, h⟩ := h
  exact bM_leads_12 K hr hZ h (lv_sub hL [2, 3, 5, 1, 0] rfl) hP hS
set_option maxRecDepth 100000 in
set_option maxHeartbeats 4000000 in
theorem mM_leads {l : Launch} {D : va_G} {cI cJ cC cZ cR : ClassId} {ad : Nat → Nat} {A : Nat → Prop} {Zs : State → Prop} (hZ : ZsOK A Zs) (hD : wlD 21 ad A) {v1 : Int32} {v2 : Int32} {v3 : Int32} {hi : HI} {hl : HL} {Φ : Int32 → HI → HL → Prop} (h : wpM_leads v1 v2 v3 hi hl Φ) : SpI l yM_leads cM_leads 6 (some .boolean) gT 6 143 [.ref (ad 0), .int v1, .int v2, .int v3] D cls8 (tys5 cI cJ cC cZ cR) 21 ad (GM cI cZ ad) A Zs hi hl Φ := by
  refine Met.ofW (cc := cM_leads) (maxL := 6) (ret := (some .boolean)) (by decide) rfl ?_
  intro p e s m args below meth c s₁ B hml hv
  obtain ⟨rfl, hP, hK, hZs⟩ := hv
  have K : Cx p (rmX 6 143) s m _ meth c cM_leads 6 "WordCheckerModel" gT D cls8 (tys5 cI cJ cC cZ cR) 21 ad A Zs := ⟨B.exec, B.bytes, hml, findClass_of_methodNamed B.named, fun w hw => atoms_spec B.pre w (List.mem_cons_of_mem _ hw), B.notSynchronized, hK, hD, hZs⟩
  have hL := lv_entry ([.ref (ad 0), .int v1, .int v2, .int v3]) (n := 6) (Nat.le_of_ble_eq_true rfl)
  rw [lg_entry_eq]
  generalize (lg_sl ([.ref (ad 0), .int v1, .int v2, .int v3]) ++ List.replicate (6 - (lg_sl ([.ref (ad 0), .int v1, .int v2, .int v3])).length) Slot.unset).toArray = ls at hL ⊢
  have hL : lv_has ls 6 [(0, .ref (ad 0)), (1, .int v1), (2, .int v2), (3, .int v3)] := hL
  unfold wpM_leads at h
  exact bM_leads_0 K B.returns hZ h (lv_sub hL [0, 1, 2, 3] rfl) hP va_S.rf
set_option maxRecDepth 100000 in
set_option maxHeartbeats 4000000 in
theorem bM_isStretch_126 {p : Program} {l : Launch} {e : Env} {s : State} {m : MethodId} {args : Array Value} {below : List Frame} {meth : Method} {c : Code} {D : va_G} {cI cJ cC cZ cR : ClassId} {ad : Nat → Nat} {A : Nat → Prop} {Zs : State → Prop} (K : Cx p (rmX 6 143) s m args meth c cM_isStretch 8 "WordCheckerModel" gT D cls8 (tys5 cI cJ cC cZ cR) 21 ad A Zs) (hr : meth.sig.returnType = (some .boolean)) (hZ : ZsOK A Zs) {Φ : Int32 → HI → HL → Prop} {k12 : Int32 → Int32 → Int32 → Int32 → HI → HL → Prop} (hk12 : ∀ (v1 : Int32) (v3 : Int32) (v4 : Int32) (v5 : Int32) (hi : HI) (hl : HL) (ls : Array Slot) (H : Heap) (locs : List Loc), k12 v1 v3 v4 v5 hi hl → lv_has ls 8 [(0, .ref (ad 0)), (1, .int v1), (3, .int v3), (4, .int v4), (5, .int v5)] → va_P D cls8 (wl 21 ad (GM cI cZ ad) hi hl) H → va_S A s.heap H locs → W p l e (rmX 6 143) s m args below meth c H locs 0 0 (MQ below (va_Qi (fun r (u : HI × HL) => Φ r u.1 u.2) (fun u t => va_P D cls8 (wl 21 ad (GM cI cZ ad) u.1 u.2) t.heap) A) args s 0 0 A) (F0 m 12 ls [])) {v1 : Int32} {v3 : Int32} {v4 : Int32} {v5 : Int32} {q0 : Int32} {q1 : Int32} {hi : HI} {hl : HL} {H : Heap} {locs : List Loc} (h : wbM_isStretch_126 k12 v1 v3 v4 v5 q0 q1 hi hl Φ) {ls : Array Slot} (hL : lv_has ls 8 [(0, .ref (ad 0)), (1, .int v1), (3, .int v3), (4, .int v4), (5, .int v5)]) (hP : va_P D cls8 (wl 21 ad (GM cI cZ ad) hi hl) H) (hS : va_S A s.heap H locs) : W p l e (rmX 6 143) s m args below meth c H locs 0 0 (MQ below (va_Qi (fun r (u : HI × HL) => Φ r u.1 u.2) (fun u t => va_P D cls8 (wl 21 ad (GM cI cZ ad) u.1 u.2) t.heap) A) args s 0 0 A) (F0 m 126 ls [.int q1, .int q0]) := by
  unfold wbM_isStretch_126 at h
  refine lv_icmp_eq (tgt := 131) K.1 K.2.1 dM_isStretch_126 rfl (fun hc => ?_) (fun hc => ?_)
  · have h := h.1 hc
    refine lv_iinc (k := 4) (lv' := [(5, .int (v5 + Int32.ofInt (1))), (0, .ref (ad 0)), (1, .int v1), (3, .int v3), (4, .int v4)]) K.1 K.2.1 dM_isStretch_131 hL rfl rfl (by decide) rfl (fun ls hL => ?_)
    refine lv_goto (tgt := 12) K.1 K.2.1 dM_isStretch_134 rfl ?_
    exact hk12 _ _ _ _ _ _ _ _ _ h (lv_sub hL [1, 2, 3, 4, 0] rfl) hP hS
  · have h := h.2 hc
    refine lv_iconst (v := 0) K.1 K.2.1 dM_isStretch_129 (by decide) ?_
    obtain ⟨g1, h⟩ := h
    exact x_zret K hr hP hS g1 h dM_isStretch_130
set_option maxRecDepth 100000 in
set_option maxHeartbeats 4000000 in
theorem bM_isStretch_89 {p : Program} {l : Launch} {e : Env} {s : State} {m : MethodId} {args : Array Value} {below : List Frame} {meth : Method} {c : Code} {D : va_G} {cI cJ cC cZ cR : ClassId} {ad : Nat → Nat} {A : Nat → Prop} {Zs : State → Prop} (K : Cx p (rmX 6 143) s m args meth c cM_isStretch 8 "WordCheckerModel" gT D cls8 (tys5 cI cJ cC cZ cR) 21 ad A Zs) (hr : meth.sig.returnType = (some .boolean)) (hZ : ZsOK A Zs) {Φ : Int32 → HI → HL → Prop} {k12 : Int32 → Int32 → Int32 → Int32 → HI → HL → Prop} (hk12 : ∀ (v1 : Int32) (v3 : Int32) (v4 : Int32) (v5 : Int32) (hi : HI) (hl : HL) (ls : Array Slot) (H : Heap) (locs : List Loc), k12 v1 v3 v4 v5 hi hl → lv_has ls 8 [(0, .ref (ad 0)), (1, .int v1), (3, .int v3), (4, .int v4), (5, .int v5)] → va_P D cls8 (wl 21 ad (GM cI cZ ad) hi hl) H → va_S A s.heap H locs → W p l e (rmX 6 143) s m args below meth c H locs 0 0 (MQ below (va_Qi (fun r (u : HI × HL) => Φ r u.1 u.2) (fun u t => va_P D cls8 (wl 21 ad (GM cI cZ ad) u.1 u.2) t.heap) A) args s 0 0 A) (F0 m 12 ls [])) {k55 : Int32 → Int32 → Int32 → Int32 → Int32 → Int32 → HI → HL → Prop} (hk55 : ∀ (v1 : Int32) (v3 : Int32) (v4 : Int32) (v5 : Int32) (v6 : Int32) (v7 : Int32) (hi : HI) (hl : HL) (ls : Array Slot) (H : Heap) (locs : List Loc), k55 v1 v3 v4 v5 v6 v7 hi hl → lv_has ls 8 [(0, .ref (ad 0)), (1, .int v1), (3, .int v3), (4, .int v4), (5, .int v5), (6, .int v6), (7, .int v7)] → va_P D cls8 (wl 21 ad (GM cI cZ ad) hi hl) H → va_S A s.heap H locs → W p l e (rmX 6 143) s m args below meth c H locs 0 0 (MQ below (va_Qi (fun r (u : HI × HL) => Φ r u.1 u.2) (fun u t => va_P D cls8 (wl 21 ad (GM cI cZ ad) u.1 u.2) t.heap) A) args s 0 0 A) (F0 m 55 ls [])) {v1 : Int32} {v3 : Int32} {v4 : Int32} {v5 : Int32} {v7 : Int32} {q0 : Int32} {hi : HI} {hl : HL} {H : Heap} {locs : List Loc} (h : wbM_isStretch_89 k12 k55 v1 v3 v4 v5 v7 q0 hi hl Φ) {ls : Array Slot} (hL : lv_has ls 8 [(0, .ref (ad 0)), (1, .int v1), (3, .int v3), (4, .int v4), (5, .int v5), (7, .int v7)]) (hP : va_P D cls8 (wl 21 ad (GM cI cZ ad) hi hl) H) (hS : va_S A s.heap H locs) : W p l e (rmX 6 143) s m args below meth c H locs 0 0 (MQ below (va_Qi (fun r (u : HI × HL) => Φ r u.1 u.2) (fun u t => va_P D cls8 (wl 21 ad (GM cI cZ ad) u.1 u.2) t.heap) A) args s 0 0 A) (F0 m 89 ls [.int q0]) := by
  unfold wbM_isStretch_89 at h
  refine lv_istore (lv' := [(6, .int q0), (0, .ref (ad 0)), (1, .int v1), (3, .int v3), (4, .int v4), (5, .int v5), (7, .int v7)]) K.1 K.2.1 dM_isStretch_89 hL (by decide) rfl (fun ls hL => ?_)
  refine lv_iinc (k := 6) (lv' := [(7, .int (v7 + Int32.ofInt (1))), (6, .int q0), (0, .ref (ad 0)), (1, .int v1), (3, .int v3), (4, .int v4), (5, .int v5)]) K.1 K.2.1 dM_isStretch_91 hL rfl rfl (by decide) rfl (fun ls hL => ?_)
  refine lv_goto (tgt := 55) K.1 K.2.1 dM_isStretch_94 rfl ?_
  exact hk55 _ _ _ _ _ _ _ _ _ _ _ h (lv_sub hL [2, 3, 4, 5, 6, 1, 0] rfl) hP hS
set_option maxRecDepth 100000 in
set_option maxHeartbeats 4000000 in
theorem bM_isStretch_88 {p : Program} {l : Launch} {e : Env} {s : State} {m : MethodId} {args : Array Value} {below : List Frame} {meth : Method} {c : Code} {D : va_G} {cI cJ cC cZ cR : ClassId} {ad : Nat → Nat} {A : Nat → Prop} {Zs : State → Prop} (K : Cx p (rmX 6 143) s m args meth c cM_isStretch 8 "WordCheckerModel" gT D cls8 (tys5 cI cJ cC cZ cR) 21 ad A Zs) (hr : meth.sig.returnType = (some .boolean)) (hZ : ZsOK A Zs) {Φ : Int32 → HI → HL → Prop} {k12 : Int32 → Int32 → Int32 → Int32 → HI → HL → Prop} (hk12 : ∀ (v1 : Int32) (v3 : Int32) (v4 : Int32) (v5 : Int32) (hi : HI) (hl : HL) (ls : Array Slot) (H : Heap) (locs : List Loc), k12 v1 v3 v4 v5 hi hl → lv_has ls 8 [(0, .ref (ad 0)), (1, .int v1), (3, .int v3), (4, .int v4), (5, .int v5)] → va_P D cls8 (wl 21 ad (GM cI cZ ad) hi hl) H → va_S A s.heap H locs → W p l e (rmX 6 143) s m args below meth c H locs 0 0 (MQ below (va_Qi (fun r (u : HI × HL) => Φ r u.1 u.2) (fun u t => va_P D cls8 (wl 21 ad (GM cI cZ ad) u.1 u.2) t.heap) A) args s 0 0 A) (F0 m 12 ls [])) {k55 : Int32 → Int32 → Int32 → Int32 → Int32 → Int32 → HI → HL → Prop} (hk55 : ∀ (v1 : Int32) (v3 : Int32) (v4 : Int32) (v5 : Int32) (v6 : Int32) (v7 : Int32) (hi : HI) (hl : HL) (ls : Array Slot) (H : Heap) (locs : List Loc), k55 v1 v3 v4 v5 v6 v7 hi hl → lv_has ls 8 [(0, .ref (ad 0)), (1, .int v1), (3, .int v3), (4, .int v4), (5, .int v5), (6, .int v6), (7, .int v7)] → va_P D cls8 (wl 21 ad (GM cI cZ ad) hi hl) H → va_S A s.heap H locs → W p l e (rmX 6 143) s m args below meth c H locs 0 0 (MQ below (va_Qi (fun r (u : HI × HL) => Φ r u.1 u.2) (fun u t => va_P D cls8 (wl 21 ad (GM cI cZ ad) u.1 u.2) t.heap) A) args s 0 0 A) (F0 m 55 ls [])) {v1 : Int32} {v3 : Int32} {v4 : Int32} {v5 : Int32} {v7 : Int32} {hi : HI} {hl : HL} {H : Heap} {locs : List Loc} (h : wbM_isStretch_88 k12 k55 v1 v3 v4 v5 v7 hi hl Φ) {ls : Array Slot} (hL : lv_has ls 8 [(0, .ref (ad 0)), (1, .int v1), (3, .int v3), (4, .int v4), (5, .int v5), (7, .int v7)]) (hP : va_P D cls8 (wl 21 ad (GM cI cZ ad) hi hl) H) (hS : va_S A s.heap H locs) : W p l e (rmX 6 143) s m args below meth c H locs 0 0 (MQ below (va_Qi (fun r (u : HI × HL) => Φ r u.1 u.2) (fun u t => va_P D cls8 (wl 21 ad (GM cI cZ ad) u.1 u.2) t.heap) A) args s 0 0 A) (F0 m 88 ls []) := by
  unfold wbM_isStretch_88 at h
  refine lv_iconst (v := 0) K.1 K.2.1 dM_isStretch_88 (by decide) ?_
  exact bM_isStretch_89 K hr hZ hk12 hk55 h (lv_sub hL [0, 1, 2, 3, 4, 5] rfl) hP hS
set_option maxRecDepth 100000 in
set_option maxHeartbeats 4000000 in
theorem bM_isStretch_55 {p : Program} {l : Launch} {e : Env} {s : State} {m : MethodId} {args : Array Value} {below : List Frame} {meth : Method} {c : Code} {D : va_G} {cI cJ cC cZ cR : ClassId} {ad : Nat → Nat} {A : Nat → Prop} {Zs : State → Prop} (K : Cx p (rmX 6 143) s m args meth c cM_isStretch 8 "WordCheckerModel" gT D cls8 (tys5 cI cJ cC cZ cR) 21 ad A Zs) (hr : meth.sig.returnType = (some .boolean)) (hZ : ZsOK A Zs) {Φ : Int32 → HI → HL → Prop} {k12 : Int32 → Int32 → Int32 → Int32 → HI → HL → Prop} (hk12 : ∀ (v1 : Int32) (v3 : Int32) (v4 : Int32) (v5 : Int32) (hi : HI) (hl : HL) (ls : Array Slot) (H : Heap) (locs : List Loc), k12 v1 v3 v4 v5 hi hl → lv_has ls 8 [(0, .ref (ad 0)), (1, .int v1), (3, .int v3), (4, .int v4), (5, .int v5)] → va_P D cls8 (wl 21 ad (GM cI cZ ad) hi hl) H → va_S A s.heap H locs → W p l e (rmX 6 143) s m args below meth c H locs 0 0 (MQ below (va_Qi (fun r (u : HI × HL) => Φ r u.1 u.2) (fun u t => va_P D cls8 (wl 21 ad (GM cI cZ ad) u.1 u.2) t.heap) A) args s 0 0 A) (F0 m 12 ls [])) {n : Nat} {v1 : Int32} {v3 : Int32} {v4 : Int32} {v5 : Int32} {v6 : Int32} {v7 : Int32} {hi : HI} {hl : HL} {H : Heap} {locs : List Loc} (h : wbM_isStretch_55 k12 n v1 v3 v4 v5 v6 v7 hi hl Φ) {ls : Array Slot} (hL : lv_has ls 8 [(0, .ref (ad 0)), (1, .int v1), (3, .int v3), (4, .int v4), (5, .int v5), (6, .int v6), (7, .int v7)]) (hP : va_P D cls8 (wl 21 ad (GM cI cZ ad) hi hl) H) (hS : va_S A s.heap H locs) : W p l e (rmX 6 143) s m args below meth c H locs 0 0 (MQ below (va_Qi (fun r (u : HI × HL) => Φ r u.1 u.2) (fun u t => va_P D cls8 (wl 21 ad (GM cI cZ ad) u.1 u.2) t.heap) A) args s 0 0 A) (F0 m 55 ls []) := by
  induction n generalizing v1 v3 v4 v5 v6 v7 hi hl ls H locs with
  | zero => exact False.elim h
  | succ n ih =>
    unfold wbM_isStretch_55 at h
    refine lv_iload K.1 K.2.1 dM_isStretch_55 (lv_at hL 6 rfl) ?_
    refine lv_iload K.1 K.2.1 dM_isStretch_57 (lv_at hL 4 rfl) ?_
    refine lv_icmp_ge (tgt := 97) K.1 K.2.1 dM_isStretch_59 rfl (fun hc => ?_) (fun hc => ?_)
    · have h := h.1 hc
      refine lv_iload K.1 K.2.1 dM_isStretch_97 (lv_at hL 5 rfl) ?_
      refine lv_if_eq (tgt := 129) K.1 K.2.1 dM_isStretch_99 rfl (fun hc => ?_) (fun hc => ?_)
      · have h := h.1 hc
        refine lv_iconst (v := 0) K.1 K.2.1 dM_isStretch_129 (by decide) ?_
        obtain ⟨g1, h⟩ := h
        exact x_zret K hr hP hS g1 h dM_isStretch_130
      · have h := h.2 hc
        refine lv_aload_n K.1 K.2.1 dM_isStretch_102 rfl (lv_at hL 0 rfl) ?_
        refine x_cVI (As := []) (rest := []) K gT_good hZ hP hS calM_holds mlM_324 0 (by decide) rfl rfl (mM_holds hZ K.2.2.2.2.2.2.2.1 h) ⟨Nat.le_of_ble_eq_true rfl, Nat.le_of_ble_eq_true rfl⟩ rfl hL.1 rfl (Nat.le_of_ble_eq_true rfl) dM_isStretch_103 (fun r2 hi3 hl4 H locs h hP hS => ?_)
        refine lv_if_eq (tgt := 129) K.1 K.2.1 dM_isStretch_106 rfl (fun hc => ?_) (fun hc => ?_)
        · have h := h.1 hc
          refine lv_iconst (v := 0) K.1 K.2.1 dM_isStretch_129 (by decide) ?_
          obtain ⟨g5, h⟩ := h
          exact x_zret K hr hP hS g5 h dM_isStretch_130
        · have h := h.2 hc
          refine lv_aload_n K.1 K.2.1 dM_isStretch_109 rfl (lv_at hL 0 rfl) ?_
          refine x_cVI (As := []) (rest := []) K gT_good hZ hP hS calM_isBad mlM_327 0 (by decide) rfl rfl (mM_isBad hZ K.2.2.2.2.2.2.2.1 h) ⟨Nat.le_of_ble_eq_true rfl, Nat.le_of_ble_eq_true rfl⟩ rfl hL.1 rfl (Nat.le_of_ble_eq_true rfl) dM_isStretch_110 (fun r6 hi7 hl8 H locs h hP hS => ?_)
          refine lv_iload K.1 K.2.1 dM_isStretch_113 (lv_at hL 4 rfl) ?_
          refine lv_iload_n K.1 K.2.1 dM_isStretch_115 rfl (lv_at hL 2 rfl) ?_
          refine lv_iconst (v := 1) K.1 K.2.1 dM_isStretch_116 (by decide) ?_
          refine lv_iadd K.1 K.2.1 dM_isStretch_117 ?_
          refine lv_icmp_ne (tgt := 125) K.1 K.2.1 dM_isStretch_118 rfl (fun hc => ?_) (fun hc => ?_)
          · have h := h.2 hc
            refine lv_iconst (v := 0) K.1 K.2.1 dM_isStretch_125 (by decide) ?_
            exact bM_isStretch_126 K hr hZ hk12 h (lv_sub hL [0, 1, 2, 3, 4] rfl) hP hS
          · have h := h.1 hc
            refine lv_iconst (v := 1) K.1 K.2.1 dM_isStretch_121 (by decide) ?_
            refine lv_goto (tgt := 126) K.1 K.2.1 dM_isStretch_122 rfl ?_
            exact bM_isStretch_126 K hr hZ hk12 h (lv_sub hL [0, 1, 2, 3, 4] rfl) hP hS
    · have h := h.2 hc
      refine lv_iload K.1 K.2.1 dM_isStretch_62 (lv_at hL 5 rfl) ?_
      refine lv_if_eq (tgt := 88) K.1 K.2.1 dM_isStretch_64 rfl (fun hc => ?_) (fun hc => ?_)
      · have h := h.1 hc
        exact bM_isStretch_88 K hr hZ hk12 (fun v1 v3 v4 v5 v6 v7 hi hl ls H locs h hL hP hS => ih h hL hP hS) h (lv_sub hL [0, 1, 2, 3, 4, 6] rfl) hP hS
      · have h := h.2 hc
        refine lv_aload_n K.1 K.2.1 dM_isStretch_67 rfl (lv_at hL 0 rfl) ?_
        refine x_get (v := .ref (ad 20)) K hP hinM (ci := 7) rfl 0 (by decide) rfl 27 (by decide) flM_72 rfl rfl dM_isStretch_68 ?_
        refine lv_iload K.1 K.2.1 dM_isStretch_71 (lv_at hL 6 rfl) ?_
        obtain ⟨g9, h⟩ := h
        refine x_iald K hP 20 (by decide) 0 rfl rfl g9 dM_isStretch_73 ?_
        refine lv_aload_n K.1 K.2.1 dM_isStretch_74 rfl (lv_at hL 0 rfl) ?_
        refine x_get (v := .ref (ad 20)) K hP hinM (ci := 7) rfl 0 (by decide) rfl 27 (by decide) flM_72 rfl rfl dM_isStretch_75 ?_
        refine lv_iload K.1 K.2.1 dM_isStretch_78 (lv_at hL 4 rfl) ?_
        obtain ⟨g10, h⟩ := h
        refine x_iald K hP 20 (by decide) 0 rfl rfl g10 dM_isStretch_80 ?_
        refine lv_icmp_eq (tgt := 88) K.1 K.2.1 dM_isStretch_81 rfl (fun hc => ?_) (fun hc => ?_)
        · have h := h.1 hc
          exact bM_isStretch_88 K hr hZ hk12 (fun v1 v3 v4 v5 v6 v7 hi hl ls H locs h hL hP hS => ih h hL hP hS) h (lv_sub hL [0, 1, 2, 3, 4, 6] rfl) hP hS
        · have h := h.2 hc
          refine lv_iconst (v := 1) K.1 K.2.1 dM_isStretch_84 (by decide) ?_
          refine lv_goto (tgt := 89) K.1 K.2.1 dM_isStretch_85 rfl ?_
          exact bM_isStretch_89 K hr hZ hk12 (fun v1 v3 v4 v5 v6 v7 hi hl ls H locs h hL hP hS => ih h hL hP hS) h (lv_sub hL [0, 1, 2, 3, 4, 6] rfl) hP hS
set_option maxRecDepth 100000 in
set_option maxHeartbeats 4000000 in
theorem bM_isStretch_29 {p : Program} {l : Launch} {e : Env} {s : State} {m : MethodId} {args : Array Value} {below : List Frame} {meth : Method} {c : Code} {D : va_G} {cI cJ cC cZ cR : ClassId} {ad : Nat → Nat} {A : Nat → Prop} {Zs : State → Prop} (K : Cx p (rmX 6 143) s m args meth c cM_isStretch 8 "WordCheckerModel" gT D cls8 (tys5 cI cJ cC cZ cR) 21 ad A Zs) (hr : meth.sig.returnType = (some .boolean)) (hZ : ZsOK A Zs) {Φ : Int32 → HI → HL → Prop} {k12 : Int32 → Int32 → Int32 → Int32 → HI → HL → Prop} (hk12 : ∀ (v1 : Int32) (v3 : Int32) (v4 : Int32) (v5 : Int32) (hi : HI) (hl : HL) (ls : Array Slot) (H : Heap) (locs : List Loc), k12 v1 v3 v4 v5 hi hl → lv_has ls 8 [(0, .ref (ad 0)), (1, .int v1), (3, .int v3), (4, .int v4), (5, .int v5)] → va_P D cls8 (wl 21 ad (GM cI cZ ad) hi hl) H → va_S A s.heap H locs → W p l e (rmX 6 143) s m args below meth c H locs 0 0 (MQ below (va_Qi (fun r (u : HI × HL) => Φ r u.1 u.2) (fun u t => va_P D cls8 (wl 21 ad (GM cI cZ ad) u.1 u.2) t.heap) A) args s 0 0 A) (F0 m 12 ls [])) {v1 : Int32} {v3 : Int32} {v4 : Int32} {v5 : Int32} {hi : HI} {hl : HL} {H : Heap} {locs : List Loc} (h : wbM_isStretch_29 k12 v1 v3 v4 v5 hi hl Φ) {ls : Array Slot} (hL : lv_has ls 8 [(0, .ref (ad 0)), (1, .int v1), (3, .int v3), (4, .int v4), (5, .int v5)]) (hP : va_P D cls8 (wl 21 ad (GM cI cZ ad) hi hl) H) (hS : va_S A s.heap H locs) : W p l e (rmX 6 143) s m args below meth c H locs 0 0 (MQ below (va_Qi (fun r (u : HI × HL) => Φ r u.1 u.2) (fun u t => va_P D cls8 (wl 21 ad (GM cI cZ ad) u.1 u.2) t.heap) A) args s 0 0 A) (F0 m 29 ls []) := by
  unfold wbM_isStretch_29 at h
  refine lv_aload_n K.1 K.2.1 dM_isStretch_29 rfl (lv_at hL 0 rfl) ?_
  refine lv_iload_n K.1 K.2.1 dM_isStretch_30 rfl (lv_at hL 1 rfl) ?_
  refine lv_iload K.1 K.2.1 dM_isStretch_31 (lv_at hL 3 rfl) ?_
  refine x_cVI (As := [.int v1, .int v4]) (rest := []) K gT_good hZ hP hS calM_put mlM_321 0 (by decide) rfl rfl (mM_put hZ K.2.2.2.2.2.2.2.1 h) ⟨Nat.le_of_ble_eq_true rfl, Nat.le_of_ble_eq_true rfl⟩ rfl hL.1 rfl (Nat.le_of_ble_eq_true rfl) dM_isStretch_33 (fun r1 hi2 hl3 H locs h hP hS => ?_)
  refine lv_istore (lv' := [(4, .int r1), (0, .ref (ad 0)), (1, .int v1), (3, .int v3), (5, .int v5)]) K.1 K.2.1 dM_isStretch_36 hL (by decide) rfl (fun ls hL => ?_)
  refine lv_aload_n K.1 K.2.1 dM_isStretch_38 rfl (lv_at hL 1 rfl) ?_
  refine x_get (v := .ref (ad 20)) K hP hinM (ci := 7) rfl 0 (by decide) rfl 27 (by decide) flM_72 rfl rfl dM_isStretch_39 ?_
  refine lv_iload K.1 K.2.1 dM_isStretch_42 (lv_at hL 4 rfl) ?_
  refine lv_aload_n K.1 K.2.1 dM_isStretch_44 rfl (lv_at hL 1 rfl) ?_
  refine x_cVI (As := []) (rest := [.int v5, .ref (ad 20)]) K gT_good hZ hP hS calM_states mlM_330 0 (by decide) rfl rfl (mM_states hZ K.2.2.2.2.2.2.2.1 h) ⟨Nat.le_of_ble_eq_true rfl, Nat.le_of_ble_eq_true rfl⟩ rfl hL.1 rfl (Nat.le_of_ble_eq_true rfl) dM_isStretch_45 (fun r4 hi5 hl6 H locs h hP hS => ?_)
  obtain ⟨g7, h⟩ := h
  refine x_iast K hP hS 20 (by decide) 0 (fun _ => rfl) rfl g7 dM_isStretch_48 (fun H locs hP hS => ?_)
  refine lv_iconst (v := 1) K.1 K.2.1 dM_isStretch_49 (by decide) ?_
  refine lv_istore (lv' := [(6, .int (1 : Int32)), (4, .int r1), (0, .ref (ad 0)), (1, .int v1), (3, .int v3), (5, .int v5)]) K.1 K.2.1 dM_isStretch_50 hL (by decide) rfl (fun ls hL => ?_)
  refine lv_iconst (v := 0) K.1 K.2.1 dM_isStretch_52 (by decide) ?_
  refine lv_istore (lv' := [(7, .int (0 : Int32)), (6, .int (1 : Int32)), (4, .int r1), (0, .ref (ad 0)), (1, .int v1), (3, .int v3), (5, .int v5)]) K.1 K.2.1 dM_isStretch_53 hL (by decide) rfl (fun ls hL => ?_)
  obtain ⟨fu, h⟩ := h
  exact bM_isStretch_55 K hr hZ hk12 h (lv_sub hL [3, 4, 5, 2, 6, 1, 0] rfl) hP hS
set_option maxRecDepth 100000 in
set_option maxHeartbeats 4000000 in
theorem bM_isStretch_12 {p : Program} {l : Launch} {e : Env} {s : State} {m : MethodId} {args : Array Value} {below : List Frame} {meth : Method} {c : Code} {D : va_G} {cI cJ cC cZ cR : ClassId} {ad : Nat → Nat} {A : Nat → Prop} {Zs : State → Prop} (K : Cx p (rmX 6 143) s m args meth c cM_isStretch 8 "WordCheckerModel" gT D cls8 (tys5 cI cJ cC cZ cR) 21 ad A Zs) (hr : meth.sig.returnType = (some .boolean)) (hZ : ZsOK A Zs) {Φ : Int32 → HI → HL → Prop} {n : Nat} {v1 : Int32} {v3 : Int32} {v4 : Int32} {v5 : Int32} {hi : HI} {hl : HL} {H : Heap} {locs : List Loc} (h : wbM_isStretch_12 n v1 v3 v4 v5 hi hl Φ) {ls : Array Slot} (hL : lv_has ls 8 [(0, .ref (ad 0)), (1, .int v1), (3, .int v3), (4, .int v4), (5, .int v5)]) (hP : va_P D cls8 (wl 21 ad (GM cI cZ ad) hi hl) H) (hS : va_S A s.heap H locs) : W p l e (rmX 6 143) s m args below meth c H locs 0 0 (MQ below (va_Qi (fun r (u : HI × HL) => Φ r u.1 u.2) (fun u t => va_P D cls8 (wl 21 ad (GM cI cZ ad) u.1 u.2) t.heap) A) args s 0 0 A) (F0 m 12 ls []) := by
  induction n generalizing v1 v3 v4 v5 hi hl ls H locs with
  | zero => exact False.elim h
  | succ n ih =>
    unfold wbM_isStretch_12 at h
    refine lv_iload K.1 K.2.1 dM_isStretch_12 (lv_at hL 4 rfl) ?_
    refine lv_iload_n K.1 K.2.1 dM_isStretch_14 rfl (lv_at hL 2 rfl) ?_
    refine lv_iconst (v := 1) K.1 K.2.1 dM_isStretch_15 (by decide) ?_
    refine lv_iadd K.1 K.2.1 dM_isStretch_16 ?_
    refine lv_icmp_gt (tgt := 137) K.1 K.2.1 dM_isStretch_17 rfl (fun hc => ?_) (fun hc => ?_)
    · have h := h.1 hc
      refine lv_iconst (v := 1) K.1 K.2.1 dM_isStretch_137 (by decide) ?_
      obtain ⟨g1, h⟩ := h
      exact x_zret K hr hP hS g1 h dM_isStretch_138
    · have h := h.2 hc
      refine lv_iload K.1 K.2.1 dM_isStretch_20 (lv_at hL 4 rfl) ?_
      refine lv_if_le (tgt := 29) K.1 K.2.1 dM_isStretch_22 rfl (fun hc => ?_) (fun hc => ?_)
      · have h := h.1 hc
        exact bM_isStretch_29 K hr hZ (fun v1 v3 v4 v5 hi hl ls H locs h hL hP hS => ih h hL hP hS) h (lv_sub hL [0, 1, 2, 3, 4] rfl) hP hS
      · have h := h.2 hc
        refine lv_aload_n K.1 K.2.1 dM_isStretch_25 rfl (lv_at hL 0 rfl) ?_
        refine x_cVV (As := []) (rest := []) K gT_good hZ hP hS calM_advance mlM_314 0 (by decide) rfl rfl (mM_advance hZ K.2.2.2.2.2.2.2.1 h) ⟨Nat.le_of_ble_eq_true rfl, Nat.le_of_ble_eq_true rfl⟩ rfl hL.1 rfl (Nat.le_of_ble_eq_true rfl) dM_isStretch_26 (fun hi3 hl4 H locs h hP hS => ?_)
        exact bM_isStretch_29 K hr hZ (fun v1 v3 v4 v5 hi hl ls H locs h hL hP hS => ih h hL hP hS) h (lv_sub hL [0, 1, 2, 3, 4] rfl) hP hS
set_option maxRecDepth 100000 in
set_option maxHeartbeats 4000000 in
theorem bM_isStretch_0 {p : Program} {l : Launch} {e : Env} {s : State} {m : MethodId} {args : Array Value} {below : List Frame} {meth : Method} {c : Code} {D : va_G} {cI cJ cC cZ cR : ClassId} {ad : Nat → Nat} {A : Nat → Prop} {Zs : State → Prop} (K : Cx p (rmX 6 143) s m args meth c cM_isStretch 8 "WordCheckerModel" gT D cls8 (tys5 cI cJ cC cZ cR) 21 ad A Zs) (hr : meth.sig.returnType = (some .boolean)) (hZ : ZsOK A Zs) {Φ : Int32 → HI → HL → Prop} {v1 : Int32} {v2 : Int32} {v3 : Int32} {hi : HI} {hl : HL} {H : Heap} {locs : List Loc} (h : wbM_isStretch_0 v1 v2 v3 hi hl Φ) {ls : Array Slot} (hL : lv_has ls 8 [(0, .ref (ad 0)), (1, .int v1), (2, .int v2), (3, .int v3)]) (hP : va_P D cls8 (wl 21 ad (GM cI cZ ad) hi hl) H) (hS : va_S A s.heap H locs) : W p l e (rmX 6 143) s m args below meth c H locs 0 0 (MQ below (va_Qi (fun r (u : HI × HL) => Φ r u.1 u.2) (fun u t => va_P D cls8 (wl 21 ad (GM cI cZ ad) u.1 u.2) t.heap) A) args s 0 0 A) (F0 m 0 ls []) := by
  unfold wbM_isStretch_0 at h
  refine lv_aload_n K.1 K.2.1 dM_isStretch_0 rfl (lv_at hL 0 rfl) ?_
  refine lv_iload_n K.1 K.2.1 dM_isStretch_1 rfl (lv_at hL 1 rfl) ?_
  refine lv_iload_n K.1 K.2.1 dM_isStretch_2 rfl (lv_at hL 2 rfl) ?_
  refine lv_iconst (v := 1) K.1 K.2.1 dM_isStretch_3 (by decide) ?_
  refine x_cVI (As := [.int v1, .int v2, .int (1 : Int32)]) (rest := []) K gT_good hZ hP hS calM_start mlM_317 0 (by decide) rfl rfl (mM_start hZ K.2.2.2.2.2.2.2.1 h) ⟨Nat.le_of_ble_eq_true rfl, Nat.le_of_ble_eq_true rfl⟩ rfl hL.1 rfl (Nat.le_of_ble_eq_true rfl) dM_isStretch_4 (fun r1 hi2 hl3 H locs h hP hS => ?_)
  refine lv_istore (lv' := [(4, .int r1), (0, .ref (ad 0)), (1, .int v1), (2, .int v2), (3, .int v3)]) K.1 K.2.1 dM_isStretch_7 hL (by decide) rfl (fun ls hL => ?_)
  refine lv_iconst (v := 0) K.1 K.2.1 dM_isStretch_9 (by decide) ?_
  refine lv_istore (lv' := [(5, .int (0 : Int32)), (4, .int r1), (0, .ref (ad 0)), (1, .int v1), (2, .int v2), (3, .int v3)]) K.1 K.2.1 dM_isStretch_10 hL (by decide) rfl (fun ls hL => ?_)
  obtain ⟨fu, h⟩ := h
  exact bM_isStretch_12 K hr hZ h (lv_sub hL [2, 3, 5, 1, 0] rfl) hP hS
set_option maxRecDepth 100000 in
set_option maxHeartbeats 4000000 in
theorem mM_isStretch {l : Launch} {D : va_G} {cI cJ cC cZ cR : ClassId} {ad : Nat → Nat} {A : Nat → Prop} {Zs : State → Prop} (hZ : ZsOK A Zs) (hD : wlD 21 ad A) {v1 : Int32} {v2 : Int32} {v3 : Int32} {hi : HI} {hl : HL} {Φ : Int32 → HI → HL → Prop} (h : wpM_isStretch v1 v2 v3 hi hl Φ) : SpI l yM_isStretch cM_isStretch 8 (some .boolean) gT 6 143 [.ref (ad 0), .int v1, .int v2, .int v3] D cls8 (tys5 cI cJ cC cZ cR) 21 ad (GM cI cZ ad) A Zs hi hl Φ := by
  refine Met.ofW (cc := cM_isStretch) (maxL := 8) (ret := (some .boolean)) (by decide) rfl ?_
  intro p e s m args below meth c s₁ B hml hv
  obtain ⟨rfl, hP, hK, hZs⟩ := hv
  have K : Cx p (rmX 6 143) s m _ meth c cM_isStretch 8 "WordCheckerModel" gT D cls8 (tys5 cI cJ cC cZ cR) 21 ad A Zs := ⟨B.exec, B.bytes, hml, findClass_of_methodNamed B.named, fun w hw => atoms_spec B.pre w (List.mem_cons_of_mem _ hw), B.notSynchronized, hK, hD, hZs⟩
  have hL := lv_entry ([.ref (ad 0), .int v1, .int v2, .int v3]) (n := 8) (Nat.le_of_ble_eq_true rfl)
  rw [lg_entry_eq]
  generalize (lg_sl ([.ref (ad 0), .int v1, .int v2, .int v3]) ++ List.replicate (8 - (lg_sl ([.ref (ad 0), .int v1, .int v2, .int v3])).length) Slot.unset).toArray = ls at hL ⊢
  have hL : lv_has ls 8 [(0, .ref (ad 0)), (1, .int v1), (2, .int v2), (3, .int v3)] := hL
  unfold wpM_isStretch at h
  exact bM_isStretch_0 K B.returns hZ h (lv_sub hL [0, 1, 2, 3] rfl) hP va_S.rf
set_option maxRecDepth 100000 in
set_option maxHeartbeats 4000000 in
theorem bM_places_0 {p : Program} {l : Launch} {e : Env} {s : State} {m : MethodId} {args : Array Value} {below : List Frame} {meth : Method} {c : Code} {D : va_G} {cI cJ cC cZ cR : ClassId} {ad : Nat → Nat} {A : Nat → Prop} {Zs : State → Prop} (K : Cx p (rmX 3 68) s m args meth c cM_places 4 "WordCheckerModel" gT D cls8 (tys5 cI cJ cC cZ cR) 21 ad A Zs) (hr : meth.sig.returnType = (some .int)) (hZ : ZsOK A Zs) {Φ : Int32 → HI → HL → Prop} {v1 : Int32} {v2 : Int32} {hi : HI} {hl : HL} {H : Heap} {locs : List Loc} (h : wbM_places_0 v1 v2 hi hl Φ) {ls : Array Slot} (hL : lv_has ls 4 [(0, .ref (ad 0)), (1, .int v1), (2, .int v2)]) (hP : va_P D cls8 (wl 21 ad (GM cI cZ ad) hi hl) H) (hS : va_S A s.heap H locs) : W p l e (rmX 3 68) s m args below meth c H locs 0 0 (MQ below (va_Qi (fun r (u : HI × HL) => Φ r u.1 u.2) (fun u t => va_P D cls8 (wl 21 ad (GM cI cZ ad) u.1 u.2) t.heap) A) args s 0 0 A) (F0 m 0 ls []) := by
  unfold wbM_places_0 at h
  refine lv_aload_n K.1 K.2.1 dM_places_0 rfl (lv_at hL 0 rfl) ?_
  refine lv_iconst (v := 1) K.1 K.2.1 dM_places_1 (by decide) ?_
  refine x_cVI (As := [.int (1 : Int32)]) (rest := []) K gT_good hZ hP hS calM_total mlM_205 0 (by decide) rfl rfl (mM_total hZ K.2.2.2.2.2.2.2.1 h) ⟨Nat.le_of_ble_eq_true rfl, Nat.le_of_ble_eq_true rfl⟩ rfl hL.1 rfl (Nat.le_of_ble_eq_true rfl) dM_places_2 (fun r1 hi2 hl3 H locs h hP hS => ?_)
  refine lv_istore_n (lv' := [(3, .int r1), (0, .ref (ad 0)), (1, .int v1), (2, .int v2)]) K.1 K.2.1 dM_places_5 rfl hL (by decide) rfl (fun ls hL => ?_)
  refine lv_aload_n K.1 K.2.1 dM_places_6 rfl (lv_at hL 1 rfl) ?_
  refine lv_iload_n K.1 K.2.1 dM_places_7 rfl (lv_at hL 3 rfl) ?_
  refine x_cVI (As := [.int v2]) (rest := []) K gT_good hZ hP hS calM_width mlM_333 0 (by decide) rfl rfl (mM_width hZ K.2.2.2.2.2.2.2.1 h) ⟨Nat.le_of_ble_eq_true rfl, Nat.le_of_ble_eq_true rfl⟩ rfl hL.1 rfl (Nat.le_of_ble_eq_true rfl) dM_places_8 (fun r4 hi5 hl6 H locs h hP hS => ?_)
  refine lv_iload_n K.1 K.2.1 dM_places_11 rfl (lv_at hL 2 rfl) ?_
  refine lv_iconst (v := 1) K.1 K.2.1 dM_places_12 (by decide) ?_
  refine lv_iadd K.1 K.2.1 dM_places_13 ?_
  refine lv_iload_n K.1 K.2.1 dM_places_14 rfl (lv_at hL 0 rfl) ?_
  refine lv_imul K.1 K.2.1 dM_places_15 ?_
  refine lv_iadd K.1 K.2.1 dM_places_16 ?_
  exact x_iret K hr hP hS h dM_places_17
set_option maxRecDepth 100000 in
set_option maxHeartbeats 4000000 in
theorem mM_places {l : Launch} {D : va_G} {cI cJ cC cZ cR : ClassId} {ad : Nat → Nat} {A : Nat → Prop} {Zs : State → Prop} (hZ : ZsOK A Zs) (hD : wlD 21 ad A) {v1 : Int32} {v2 : Int32} {hi : HI} {hl : HL} {Φ : Int32 → HI → HL → Prop} (h : wpM_places v1 v2 hi hl Φ) : SpI l yM_places cM_places 4 (some .int) gT 3 68 [.ref (ad 0), .int v1, .int v2] D cls8 (tys5 cI cJ cC cZ cR) 21 ad (GM cI cZ ad) A Zs hi hl Φ := by
  refine Met.ofW (cc := cM_places) (maxL := 4) (ret := (some .int)) (by decide) rfl ?_
  intro p e s m args below meth c s₁ B hml hv
  obtain ⟨rfl, hP, hK, hZs⟩ := hv
  have K : Cx p (rmX 3 68) s m _ meth c cM_places 4 "WordCheckerModel" gT D cls8 (tys5 cI cJ cC cZ cR) 21 ad A Zs := ⟨B.exec, B.bytes, hml, findClass_of_methodNamed B.named, fun w hw => atoms_spec B.pre w (List.mem_cons_of_mem _ hw), B.notSynchronized, hK, hD, hZs⟩
  have hL := lv_entry ([.ref (ad 0), .int v1, .int v2]) (n := 4) (Nat.le_of_ble_eq_true rfl)
  rw [lg_entry_eq]
  generalize (lg_sl ([.ref (ad 0), .int v1, .int v2]) ++ List.replicate (4 - (lg_sl ([.ref (ad 0), .int v1, .int v2])).length) Slot.unset).toArray = ls at hL ⊢
  have hL : lv_has ls 4 [(0, .ref (ad 0)), (1, .int v1), (2, .int v2)] := hL
  unfold wpM_places at h
  exact bM_places_0 K B.returns hZ h (lv_sub hL [0, 1, 2] rfl) hP va_S.rf
set_option maxRecDepth 100000 in
set_option maxHeartbeats 4000000 in
theorem bM_find_34 {p : Program} {l : Launch} {e : Env} {s : State} {m : MethodId} {args : Array Value} {below : List Frame} {meth : Method} {c : Code} {D : va_G} {cI cJ cC cZ cR : ClassId} {ad : Nat → Nat} {A : Nat → Prop} {Zs : State → Prop} (K : Cx p (rmX 7 168) s m args meth c cM_find 5 "WordCheckerModel" gT D cls8 (tys5 cI cJ cC cZ cR) 21 ad A Zs) (hr : meth.sig.returnType = (some .int)) (hZ : ZsOK A Zs) {Φ : Int32 → HI → HL → Prop} {k19 : Int32 → Int32 → HI → HL → Prop} (hk19 : ∀ (v1 : Int32) (v2 : Int32) (hi : HI) (hl : HL) (ls : Array Slot) (H : Heap) (locs : List Loc), k19 v1 v2 hi hl → lv_has ls 5 [(0, .ref (ad 0)), (1, .int v1), (2, .int v2)] → va_P D cls8 (wl 21 ad (GM cI cZ ad) hi hl) H → va_S A s.heap H locs → W p l e (rmX 7 168) s m args below meth c H locs 0 0 (MQ below (va_Qi (fun r (u : HI × HL) => Φ r u.1 u.2) (fun u t => va_P D cls8 (wl 21 ad (GM cI cZ ad) u.1 u.2) t.heap) A) args s 0 0 A) (F0 m 19 ls [])) {n : Nat} {v1 : Int32} {v2 : Int32} {v3 : Int32} {v4 : Int32} {hi : HI} {hl : HL} {H : Heap} {locs : List Loc} (h : wbM_find_34 k19 n v1 v2 v3 v4 hi hl Φ) {ls : Array Slot} (hL : lv_has ls 5 [(0, .ref (ad 0)), (1, .int v1), (2, .int v2), (3, .int v3), (4, .int v4)]) (hP : va_P D cls8 (wl 21 ad (GM cI cZ ad) hi hl) H) (hS : va_S A s.heap H locs) : W p l e (rmX 7 168) s m args below meth c H locs 0 0 (MQ below (va_Qi (fun r (u : HI × HL) => Φ r u.1 u.2) (fun u t => va_P D cls8 (wl 21 ad (GM cI cZ ad) u.1 u.2) t.heap) A) args s 0 0 A) (F0 m 34 ls []) := by
  induction n generalizing v1 v2 v3 v4 hi hl ls H locs with
  | zero => exact False.elim h
  | succ n ih =>
    unfold wbM_find_34 at h
    refine lv_iload K.1 K.2.1 dM_find_34 (lv_at hL 4 rfl) ?_
    refine lv_iconst (v := 1) K.1 K.2.1 dM_find_36 (by decide) ?_
    refine lv_iload_n K.1 K.2.1 dM_find_37 rfl (lv_at hL 3 rfl) ?_
    refine lv_ishl K.1 K.2.1 dM_find_38 ?_
    refine lv_icmp_ge (tgt := 72) K.1 K.2.1 dM_find_39 rfl (fun hc => ?_) (fun hc => ?_)
    · have h := h.1 hc
      refine lv_iinc (k := 2) (lv' := [(2, .int (v2 + Int32.ofInt (1))), (0, .ref (ad 0)), (1, .int v1), (3, .int v3), (4, .int v4)]) K.1 K.2.1 dM_find_72 hL rfl rfl (by decide) rfl (fun ls hL => ?_)
      refine lv_goto (tgt := 19) K.1 K.2.1 dM_find_75 rfl ?_
      exact hk19 _ _ _ _ _ _ _ h (lv_sub hL [1, 2, 0] rfl) hP hS
    · have h := h.2 hc
      refine lv_aload_n K.1 K.2.1 dM_find_42 rfl (lv_at hL 0 rfl) ?_
      refine lv_iload K.1 K.2.1 dM_find_43 (lv_at hL 4 rfl) ?_
      refine lv_iload_n K.1 K.2.1 dM_find_45 rfl (lv_at hL 3 rfl) ?_
      refine lv_iload_n K.1 K.2.1 dM_find_46 rfl (lv_at hL 2 rfl) ?_
      refine x_cVI (As := [.int v4, .int v3, .int v2]) (rest := []) K gT_good hZ hP hS calM_leads mlM_339 0 (by decide) rfl rfl (mM_leads hZ K.2.2.2.2.2.2.2.1 h) ⟨Nat.le_of_ble_eq_true rfl, Nat.le_of_ble_eq_true rfl⟩ rfl hL.1 rfl (Nat.le_of_ble_eq_true rfl) dM_find_47 (fun r1 hi2 hl3 H locs h hP hS => ?_)
      refine lv_if_eq (tgt := 66) K.1 K.2.1 dM_find_50 rfl (fun hc => ?_) (fun hc => ?_)
      · have h := h.1 hc
        refine lv_iinc (k := 4) (lv' := [(4, .int (v4 + Int32.ofInt (1))), (0, .ref (ad 0)), (1, .int v1), (2, .int v2), (3, .int v3)]) K.1 K.2.1 dM_find_66 hL rfl rfl (by decide) rfl (fun ls hL => ?_)
        refine lv_goto (tgt := 34) K.1 K.2.1 dM_find_69 rfl ?_
        exact ih h (lv_sub hL [1, 2, 3, 4, 0] rfl) hP hS
      · have h := h.2 hc
        refine lv_aload_n K.1 K.2.1 dM_find_53 rfl (lv_at hL 0 rfl) ?_
        refine lv_iload_n K.1 K.2.1 dM_find_54 rfl (lv_at hL 2 rfl) ?_
        refine x_put (v := .int v2) K hP hS hinM tyM tyM_ok nmM (ci := 7) rfl 0 (by decide) rfl 25 (by decide) flM_68 rfl rfl v2 rfl rfl rfl (Nat.le_of_ble_eq_true rfl) dM_find_55 (fun H locs hP hS => ?_)
        refine lv_aload_n K.1 K.2.1 dM_find_58 rfl (lv_at hL 0 rfl) ?_
        refine lv_iload K.1 K.2.1 dM_find_59 (lv_at hL 4 rfl) ?_
        refine x_put (v := .int v4) K hP hS hinM tyM tyM_ok nmM (ci := 7) rfl 0 (by decide) rfl 26 (by decide) flM_342 rfl rfl v4 rfl rfl rfl (Nat.le_of_ble_eq_true rfl) dM_find_61 (fun H locs hP hS => ?_)
        refine lv_iload_n K.1 K.2.1 dM_find_64 rfl (lv_at hL 2 rfl) ?_
        exact x_iret K hr hP hS h dM_find_65
set_option maxRecDepth 100000 in
set_option maxHeartbeats 4000000 in
theorem bM_find_19 {p : Program} {l : Launch} {e : Env} {s : State} {m : MethodId} {args : Array Value} {below : List Frame} {meth : Method} {c : Code} {D : va_G} {cI cJ cC cZ cR : ClassId} {ad : Nat → Nat} {A : Nat → Prop} {Zs : State → Prop} (K : Cx p (rmX 7 168) s m args meth c cM_find 5 "WordCheckerModel" gT D cls8 (tys5 cI cJ cC cZ cR) 21 ad A Zs) (hr : meth.sig.returnType = (some .int)) (hZ : ZsOK A Zs) {Φ : Int32 → HI → HL → Prop} {n : Nat} {v1 : Int32} {v2 : Int32} {hi : HI} {hl : HL} {H : Heap} {locs : List Loc} (h : wbM_find_19 n v1 v2 hi hl Φ) {ls : Array Slot} (hL : lv_has ls 5 [(0, .ref (ad 0)), (1, .int v1), (2, .int v2)]) (hP : va_P D cls8 (wl 21 ad (GM cI cZ ad) hi hl) H) (hS : va_S A s.heap H locs) : W p l e (rmX 7 168) s m args below meth c H locs 0 0 (MQ below (va_Qi (fun r (u : HI × HL) => Φ r u.1 u.2) (fun u t => va_P D cls8 (wl 21 ad (GM cI cZ ad) u.1 u.2) t.heap) A) args s 0 0 A) (F0 m 19 ls []) := by
  induction n generalizing v1 v2 hi hl ls H locs with
  | zero => exact False.elim h
  | succ n ih =>
    unfold wbM_find_19 at h
    refine lv_iload_n K.1 K.2.1 dM_find_19 rfl (lv_at hL 2 rfl) ?_
    refine lv_iload_n K.1 K.2.1 dM_find_20 rfl (lv_at hL 1 rfl) ?_
    refine lv_icmp_gt (tgt := 78) K.1 K.2.1 dM_find_21 rfl (fun hc => ?_) (fun hc => ?_)
    · have h := h.1 hc
      refine lv_iconst (v := -1) K.1 K.2.1 dM_find_78 (by decide) ?_
      exact x_iret K hr hP hS h dM_find_79
    · have h := h.2 hc
      refine lv_aload_n K.1 K.2.1 dM_find_24 rfl (lv_at hL 0 rfl) ?_
      refine lv_iload_n K.1 K.2.1 dM_find_25 rfl (lv_at hL 2 rfl) ?_
      refine lv_iconst (v := 0) K.1 K.2.1 dM_find_26 (by decide) ?_
      refine x_cVI (As := [.int v2, .int (0 : Int32)]) (rest := []) K gT_good hZ hP hS calM_places mlM_336 0 (by decide) rfl rfl (mM_places hZ K.2.2.2.2.2.2.2.1 h) ⟨Nat.le_of_ble_eq_true rfl, Nat.le_of_ble_eq_true rfl⟩ rfl hL.1 rfl (Nat.le_of_ble_eq_true rfl) dM_find_27 (fun r1 hi2 hl3 H locs h hP hS => ?_)
      refine lv_istore_n (lv' := [(3, .int r1), (0, .ref (ad 0)), (1, .int v1), (2, .int v2)]) K.1 K.2.1 dM_find_30 rfl hL (by decide) rfl (fun ls hL => ?_)
      refine lv_iconst (v := 0) K.1 K.2.1 dM_find_31 (by decide) ?_
      refine lv_istore (lv' := [(4, .int (0 : Int32)), (3, .int r1), (0, .ref (ad 0)), (1, .int v1), (2, .int v2)]) K.1 K.2.1 dM_find_32 hL (by decide) rfl (fun ls hL => ?_)
      obtain ⟨fu, h⟩ := h
      exact bM_find_34 K hr hZ (fun v1 v2 hi hl ls H locs h hL hP hS => ih h hL hP hS) h (lv_sub hL [2, 3, 4, 1, 0] rfl) hP hS
set_option maxRecDepth 100000 in
set_option maxHeartbeats 4000000 in
theorem bM_find_0 {p : Program} {l : Launch} {e : Env} {s : State} {m : MethodId} {args : Array Value} {below : List Frame} {meth : Method} {c : Code} {D : va_G} {cI cJ cC cZ cR : ClassId} {ad : Nat → Nat} {A : Nat → Prop} {Zs : State → Prop} (K : Cx p (rmX 7 168) s m args meth c cM_find 5 "WordCheckerModel" gT D cls8 (tys5 cI cJ cC cZ cR) 21 ad A Zs) (hr : meth.sig.returnType = (some .int)) (hZ : ZsOK A Zs) {Φ : Int32 → HI → HL → Prop} {v1 : Int32} {hi : HI} {hl : HL} {H : Heap} {locs : List Loc} (h : wbM_find_0 v1 hi hl Φ) {ls : Array Slot} (hL : lv_has ls 5 [(0, .ref (ad 0)), (1, .int v1)]) (hP : va_P D cls8 (wl 21 ad (GM cI cZ ad) hi hl) H) (hS : va_S A s.heap H locs) : W p l e (rmX 7 168) s m args below meth c H locs 0 0 (MQ below (va_Qi (fun r (u : HI × HL) => Φ r u.1 u.2) (fun u t => va_P D cls8 (wl 21 ad (GM cI cZ ad) u.1 u.2) t.heap) A) args s 0 0 A) (F0 m 0 ls []) := by
  unfold wbM_find_0 at h
  refine lv_iload_n K.1 K.2.1 dM_find_0 rfl (lv_at hL 1 rfl) ?_
  refine lv_iconst (v := 0) K.1 K.2.1 dM_find_1 (by decide) ?_
  refine lv_iconst (v := 3) K.1 K.2.1 dM_find_2 (by decide) ?_
  refine x_cSI (As := [.int v1, .int (0 : Int32), .int (3 : Int32)]) (rest := []) K gT_good hZ hP hS calM_in mlM_75 (mM_in hZ K.2.2.2.2.2.2.2.1 h) ⟨Nat.le_of_ble_eq_true rfl, Nat.le_of_ble_eq_true rfl⟩ rfl hL.1 rfl (Nat.le_of_ble_eq_true rfl) dM_find_3 (fun r1 hi2 hl3 H locs h hP hS => ?_)
  refine lv_if_ne (tgt := 12) K.1 K.2.1 dM_find_6 rfl (fun hc => ?_) (fun hc => ?_)
  · have h := h.2 hc
    refine lv_aload_n K.1 K.2.1 dM_find_12 rfl (lv_at hL 0 rfl) ?_
    refine lv_iconst (v := -1) K.1 K.2.1 dM_find_13 (by decide) ?_
    refine x_put (v := .int (-1 : Int32)) K hP hS hinM tyM tyM_ok nmM (ci := 7) rfl 0 (by decide) rfl 25 (by decide) flM_68 rfl rfl (-1 : Int32) rfl rfl rfl (Nat.le_of_ble_eq_true rfl) dM_find_14 (fun H locs hP hS => ?_)
    refine lv_iconst (v := 0) K.1 K.2.1 dM_find_17 (by decide) ?_
    refine lv_istore_n (lv' := [(2, .int (0 : Int32)), (0, .ref (ad 0)), (1, .int v1)]) K.1 K.2.1 dM_find_18 rfl hL (by decide) rfl (fun ls hL => ?_)
    obtain ⟨fu, h⟩ := h
    exact bM_find_19 K hr hZ h (lv_sub hL [1, 2, 0] rfl) hP hS
  · have h := h.1 hc
    refine lv_bipush (v := -2) K.1 K.2.1 dM_find_9 (by decide) ?_
    exact x_iret K hr hP hS h dM_find_11
set_option maxRecDepth 100000 in
set_option maxHeartbeats 4000000 in
theorem mM_find {l : Launch} {D : va_G} {cI cJ cC cZ cR : ClassId} {ad : Nat → Nat} {A : Nat → Prop} {Zs : State → Prop} (hZ : ZsOK A Zs) (hD : wlD 21 ad A) {v1 : Int32} {hi : HI} {hl : HL} {Φ : Int32 → HI → HL → Prop} (h : wpM_find v1 hi hl Φ) : SpI l yM_find cM_find 5 (some .int) gT 7 168 [.ref (ad 0), .int v1] D cls8 (tys5 cI cJ cC cZ cR) 21 ad (GM cI cZ ad) A Zs hi hl Φ := by
  refine Met.ofW (cc := cM_find) (maxL := 5) (ret := (some .int)) (by decide) rfl ?_
  intro p e s m args below meth c s₁ B hml hv
  obtain ⟨rfl, hP, hK, hZs⟩ := hv
  have K : Cx p (rmX 7 168) s m _ meth c cM_find 5 "WordCheckerModel" gT D cls8 (tys5 cI cJ cC cZ cR) 21 ad A Zs := ⟨B.exec, B.bytes, hml, findClass_of_methodNamed B.named, fun w hw => atoms_spec B.pre w (List.mem_cons_of_mem _ hw), B.notSynchronized, hK, hD, hZs⟩
  have hL := lv_entry ([.ref (ad 0), .int v1]) (n := 5) (Nat.le_of_ble_eq_true rfl)
  rw [lg_entry_eq]
  generalize (lg_sl ([.ref (ad 0), .int v1]) ++ List.replicate (5 - (lg_sl ([.ref (ad 0), .int v1])).length) Slot.unset).toArray = ls at hL ⊢
  have hL : lv_has ls 5 [(0, .ref (ad 0)), (1, .int v1)] := hL
  unfold wpM_find at h
  exact bM_find_0 K B.returns hZ h (lv_sub hL [0, 1] rfl) hP va_S.rf
set_option maxRecDepth 100000 in
set_option maxHeartbeats 4000000 in
theorem bM_shown_67 {p : Program} {l : Launch} {e : Env} {s : State} {m : MethodId} {args : Array Value} {below : List Frame} {meth : Method} {c : Code} {D : va_G} {cI cJ cC cZ cR : ClassId} {ad : Nat → Nat} {A : Nat → Prop} {Zs : State → Prop} (K : Cx p (rmX 6 143) s m args meth c cM_shown 7 "WordCheckerModel" gT D cls8 (tys5 cI cJ cC cZ cR) 21 ad A Zs) (hr : meth.sig.returnType = (some .int)) (hZ : ZsOK A Zs) {Φ : Int32 → HI → HL → Prop} {n : Nat} {v1 : Int32} {v3 : Int32} {v5 : Int32} {v6 : Int32} {hi : HI} {hl : HL} {H : Heap} {locs : List Loc} (h : wbM_shown_67 n v1 v3 v5 v6 hi hl Φ) {ls : Array Slot} (hL : lv_has ls 7 [(0, .ref (ad 0)), (1, .int v1), (3, .int v3), (5, .int v5), (6, .int v6)]) (hP : va_P D cls8 (wl 21 ad (GM cI cZ ad) hi hl) H) (hS : va_S A s.heap H locs) : W p l e (rmX 6 143) s m args below meth c H locs 0 0 (MQ below (va_Qi (fun r (u : HI × HL) => Φ r u.1 u.2) (fun u t => va_P D cls8 (wl 21 ad (GM cI cZ ad) u.1 u.2) t.heap) A) args s 0 0 A) (F0 m 67 ls []) := by
  induction n generalizing v1 v3 v5 v6 hi hl ls H locs with
  | zero => exact False.elim h
  | succ n ih =>
    unfold wbM_shown_67 at h
    refine lv_iload K.1 K.2.1 dM_shown_67 (lv_at hL 4 rfl) ?_
    refine lv_iload_n K.1 K.2.1 dM_shown_69 rfl (lv_at hL 1 rfl) ?_
    refine lv_icmp_gt (tgt := 95) K.1 K.2.1 dM_shown_70 rfl (fun hc => ?_) (fun hc => ?_)
    · have h := h.1 hc
      refine lv_aload_n K.1 K.2.1 dM_shown_95 rfl (lv_at hL 0 rfl) ?_
      refine x_get (v := .ref (ad 17)) K hP hinM (ci := 7) rfl 0 (by decide) rfl 21 (by decide) flM_59 rfl rfl dM_shown_96 ?_
      refine lv_iload_n K.1 K.2.1 dM_shown_99 rfl (lv_at hL 2 rfl) ?_
      obtain ⟨g1, h⟩ := h
      refine x_iald K hP 17 (by decide) 0 rfl rfl g1 dM_shown_100 ?_
      exact x_iret K hr hP hS h dM_shown_101
    · have h := h.2 hc
      refine lv_aload_n K.1 K.2.1 dM_shown_73 rfl (lv_at hL 0 rfl) ?_
      refine x_cVV (As := []) (rest := []) K gT_good hZ hP hS calM_advance mlM_314 0 (by decide) rfl rfl (mM_advance hZ K.2.2.2.2.2.2.2.1 h) ⟨Nat.le_of_ble_eq_true rfl, Nat.le_of_ble_eq_true rfl⟩ rfl hL.1 rfl (Nat.le_of_ble_eq_true rfl) dM_shown_74 (fun hi3 hl4 H locs h hP hS => ?_)
      refine lv_aload_n K.1 K.2.1 dM_shown_77 rfl (lv_at hL 0 rfl) ?_
      refine lv_aload_n K.1 K.2.1 dM_shown_78 rfl (lv_at hL 0 rfl) ?_
      refine x_get (v := .int (hi3 0 26)) K hP hinM (ci := 7) rfl 0 (by decide) rfl 26 (by decide) flM_342 rfl rfl dM_shown_79 ?_
      refine lv_iload K.1 K.2.1 dM_shown_82 (lv_at hL 3 rfl) ?_
      refine x_cVI (As := [.int (hi3 0 26), .int v5]) (rest := []) K gT_good hZ hP hS calM_put mlM_321 0 (by decide) rfl rfl (mM_put hZ K.2.2.2.2.2.2.2.1 h) ⟨Nat.le_of_ble_eq_true rfl, Nat.le_of_ble_eq_true rfl⟩ rfl hL.1 rfl (Nat.le_of_ble_eq_true rfl) dM_shown_84 (fun r5 hi6 hl7 H locs h hP hS => ?_)
      refine lv_istore (lv' := [(5, .int r5), (0, .ref (ad 0)), (1, .int v1), (3, .int v3), (6, .int v6)]) K.1 K.2.1 dM_shown_87 hL (by decide) rfl (fun ls hL => ?_)
      refine lv_iinc (k := 4) (lv' := [(6, .int (v6 + Int32.ofInt (1))), (5, .int r5), (0, .ref (ad 0)), (1, .int v1), (3, .int v3)]) K.1 K.2.1 dM_shown_89 hL rfl rfl (by decide) rfl (fun ls hL => ?_)
      refine lv_goto (tgt := 67) K.1 K.2.1 dM_shown_92 rfl ?_
      exact ih h (lv_sub hL [2, 3, 4, 1, 0] rfl) hP hS
set_option maxRecDepth 100000 in
set_option maxHeartbeats 4000000 in
theorem bM_shown_0 {p : Program} {l : Launch} {e : Env} {s : State} {m : MethodId} {args : Array Value} {below : List Frame} {meth : Method} {c : Code} {D : va_G} {cI cJ cC cZ cR : ClassId} {ad : Nat → Nat} {A : Nat → Prop} {Zs : State → Prop} (K : Cx p (rmX 6 143) s m args meth c cM_shown 7 "WordCheckerModel" gT D cls8 (tys5 cI cJ cC cZ cR) 21 ad A Zs) (hr : meth.sig.returnType = (some .int)) (hZ : ZsOK A Zs) {Φ : Int32 → HI → HL → Prop} {v1 : Int32} {v2 : Int32} {hi : HI} {hl : HL} {H : Heap} {locs : List Loc} (h : wbM_shown_0 v1 v2 hi hl Φ) {ls : Array Slot} (hL : lv_has ls 7 [(0, .ref (ad 0)), (1, .int v1), (2, .int v2)]) (hP : va_P D cls8 (wl 21 ad (GM cI cZ ad) hi hl) H) (hS : va_S A s.heap H locs) : W p l e (rmX 6 143) s m args below meth c H locs 0 0 (MQ below (va_Qi (fun r (u : HI × HL) => Φ r u.1 u.2) (fun u t => va_P D cls8 (wl 21 ad (GM cI cZ ad) u.1 u.2) t.heap) A) args s 0 0 A) (F0 m 0 ls []) := by
  unfold wbM_shown_0 at h
  refine lv_aload_n K.1 K.2.1 dM_shown_0 rfl (lv_at hL 0 rfl) ?_
  refine lv_iload_n K.1 K.2.1 dM_shown_1 rfl (lv_at hL 2 rfl) ?_
  refine x_cVI (As := [.int v2]) (rest := []) K gT_good hZ hP hS calM_lineOf mlM_165 0 (by decide) rfl rfl (mM_lineOf hZ K.2.2.2.2.2.2.2.1 h) ⟨Nat.le_of_ble_eq_true rfl, Nat.le_of_ble_eq_true rfl⟩ rfl hL.1 rfl (Nat.le_of_ble_eq_true rfl) dM_shown_2 (fun r1 hi2 hl3 H locs h hP hS => ?_)
  refine lv_istore_n (lv' := [(3, .int r1), (0, .ref (ad 0)), (1, .int v1), (2, .int v2)]) K.1 K.2.1 dM_shown_5 rfl hL (by decide) rfl (fun ls hL => ?_)
  refine lv_aload_n K.1 K.2.1 dM_shown_6 rfl (lv_at hL 1 rfl) ?_
  refine lv_iload_n K.1 K.2.1 dM_shown_7 rfl (lv_at hL 0 rfl) ?_
  refine x_cVI (As := [.int r1]) (rest := []) K gT_good hZ hP hS calM_isNode mlM_172 0 (by decide) rfl rfl (mM_isNode hZ K.2.2.2.2.2.2.2.1 h) ⟨Nat.le_of_ble_eq_true rfl, Nat.le_of_ble_eq_true rfl⟩ rfl hL.1 rfl (Nat.le_of_ble_eq_true rfl) dM_shown_8 (fun r4 hi5 hl6 H locs h hP hS => ?_)
  refine lv_if_eq (tgt := 26) K.1 K.2.1 dM_shown_11 rfl (fun hc => ?_) (fun hc => ?_)
  · have h := h.1 hc
    refine lv_iconst (v := -1) K.1 K.2.1 dM_shown_26 (by decide) ?_
    exact x_iret K hr hP hS h dM_shown_27
  · have h := h.2 hc
    refine lv_iload_n K.1 K.2.1 dM_shown_14 rfl (lv_at hL 2 rfl) ?_
    refine lv_iconst (v := 0) K.1 K.2.1 dM_shown_15 (by decide) ?_
    refine lv_aload_n K.1 K.2.1 dM_shown_16 rfl (lv_at hL 1 rfl) ?_
    refine x_get (v := .int (hi5 0 25)) K hP hinM (ci := 7) rfl 0 (by decide) rfl 25 (by decide) flM_68 rfl rfl dM_shown_17 ?_
    refine x_cSI (As := [.int v1, .int (0 : Int32), .int (hi5 0 25)]) (rest := []) K gT_good hZ hP hS calM_in mlM_75 (mM_in hZ K.2.2.2.2.2.2.2.1 h) ⟨Nat.le_of_ble_eq_true rfl, Nat.le_of_ble_eq_true rfl⟩ rfl hL.1 rfl (Nat.le_of_ble_eq_true rfl) dM_shown_20 (fun r7 hi8 hl9 H locs h hP hS => ?_)
    refine lv_if_ne (tgt := 28) K.1 K.2.1 dM_shown_23 rfl (fun hc => ?_) (fun hc => ?_)
    · have h := h.2 hc
      refine lv_aload_n K.1 K.2.1 dM_shown_28 rfl (lv_at hL 1 rfl) ?_
      refine lv_aload_n K.1 K.2.1 dM_shown_29 rfl (lv_at hL 1 rfl) ?_
      refine x_get (v := .int (hi8 0 25)) K hP hinM (ci := 7) rfl 0 (by decide) rfl 25 (by decide) flM_68 rfl rfl dM_shown_30 ?_
      refine lv_iconst (v := 0) K.1 K.2.1 dM_shown_33 (by decide) ?_
      refine x_cVI (As := [.int (hi8 0 25), .int (0 : Int32)]) (rest := []) K gT_good hZ hP hS calM_places mlM_336 0 (by decide) rfl rfl (mM_places hZ K.2.2.2.2.2.2.2.1 h) ⟨Nat.le_of_ble_eq_true rfl, Nat.le_of_ble_eq_true rfl⟩ rfl hL.1 rfl (Nat.le_of_ble_eq_true rfl) dM_shown_34 (fun r10 hi11 hl12 H locs h hP hS => ?_)
      refine lv_istore (lv' := [(4, .int r10), (3, .int r1), (0, .ref (ad 0)), (1, .int v1), (2, .int v2)]) K.1 K.2.1 dM_shown_37 hL (by decide) rfl (fun ls hL => ?_)
      refine lv_aload_n K.1 K.2.1 dM_shown_39 rfl (lv_at hL 2 rfl) ?_
      refine lv_aload_n K.1 K.2.1 dM_shown_40 rfl (lv_at hL 2 rfl) ?_
      refine x_get (v := .int (hi11 0 26)) K hP hinM (ci := 7) rfl 0 (by decide) rfl 26 (by decide) flM_342 rfl rfl dM_shown_41 ?_
      refine lv_iload K.1 K.2.1 dM_shown_44 (lv_at hL 0 rfl) ?_
      refine lv_iconst (v := 0) K.1 K.2.1 dM_shown_46 (by decide) ?_
      refine x_cVI (As := [.int (hi11 0 26), .int r10, .int (0 : Int32)]) (rest := []) K gT_good hZ hP hS calM_start mlM_317 0 (by decide) rfl rfl (mM_start hZ K.2.2.2.2.2.2.2.1 h) ⟨Nat.le_of_ble_eq_true rfl, Nat.le_of_ble_eq_true rfl⟩ rfl hL.1 rfl (Nat.le_of_ble_eq_true rfl) dM_shown_47 (fun r13 hi14 hl15 H locs h hP hS => ?_)
      refine lv_istore (lv' := [(5, .int r13), (4, .int r10), (3, .int r1), (0, .ref (ad 0)), (1, .int v1), (2, .int v2)]) K.1 K.2.1 dM_shown_50 hL (by decide) rfl (fun ls hL => ?_)
      refine lv_aload_n K.1 K.2.1 dM_shown_52 rfl (lv_at hL 3 rfl) ?_
      refine lv_aload_n K.1 K.2.1 dM_shown_53 rfl (lv_at hL 3 rfl) ?_
      refine x_get (v := .int (hi14 0 26)) K hP hinM (ci := 7) rfl 0 (by decide) rfl 26 (by decide) flM_342 rfl rfl dM_shown_54 ?_
      refine lv_iload K.1 K.2.1 dM_shown_57 (lv_at hL 0 rfl) ?_
      refine x_cVI (As := [.int (hi14 0 26), .int r13]) (rest := []) K gT_good hZ hP hS calM_put mlM_321 0 (by decide) rfl rfl (mM_put hZ K.2.2.2.2.2.2.2.1 h) ⟨Nat.le_of_ble_eq_true rfl, Nat.le_of_ble_eq_true rfl⟩ rfl hL.1 rfl (Nat.le_of_ble_eq_true rfl) dM_shown_59 (fun r16 hi17 hl18 H locs h hP hS => ?_)
      refine lv_istore (lv' := [(5, .int r16), (4, .int r10), (3, .int r1), (0, .ref (ad 0)), (1, .int v1), (2, .int v2)]) K.1 K.2.1 dM_shown_62 hL (by decide) rfl (fun ls hL => ?_)
      refine lv_iconst (v := 1) K.1 K.2.1 dM_shown_64 (by decide) ?_
      refine lv_istore (lv' := [(6, .int (1 : Int32)), (5, .int r16), (4, .int r10), (3, .int r1), (0, .ref (ad 0)), (1, .int v1), (2, .int v2)]) K.1 K.2.1 dM_shown_65 hL (by decide) rfl (fun ls hL => ?_)
      obtain ⟨fu, h⟩ := h
      exact bM_shown_67 K hr hZ h (lv_sub hL [4, 5, 3, 1, 0] rfl) hP hS
    · have h := h.1 hc
      refine lv_iconst (v := -1) K.1 K.2.1 dM_shown_26 (by decide) ?_
      exact x_iret K hr hP hS h dM_shown_27
set_option maxRecDepth 100000 in
set_option maxHeartbeats 4000000 in
theorem mM_shown {l : Launch} {D : va_G} {cI cJ cC cZ cR : ClassId} {ad : Nat → Nat} {A : Nat → Prop} {Zs : State → Prop} (hZ : ZsOK A Zs) (hD : wlD 21 ad A) {v1 : Int32} {v2 : Int32} {hi : HI} {hl : HL} {Φ : Int32 → HI → HL → Prop} (h : wpM_shown v1 v2 hi hl Φ) : SpI l yM_shown cM_shown 7 (some .int) gT 6 143 [.ref (ad 0), .int v1, .int v2] D cls8 (tys5 cI cJ cC cZ cR) 21 ad (GM cI cZ ad) A Zs hi hl Φ := by
  refine Met.ofW (cc := cM_shown) (maxL := 7) (ret := (some .int)) (by decide) rfl ?_
  intro p e s m args below meth c s₁ B hml hv
  obtain ⟨rfl, hP, hK, hZs⟩ := hv
  have K : Cx p (rmX 6 143) s m _ meth c cM_shown 7 "WordCheckerModel" gT D cls8 (tys5 cI cJ cC cZ cR) 21 ad A Zs := ⟨B.exec, B.bytes, hml, findClass_of_methodNamed B.named, fun w hw => atoms_spec B.pre w (List.mem_cons_of_mem _ hw), B.notSynchronized, hK, hD, hZs⟩
  have hL := lv_entry ([.ref (ad 0), .int v1, .int v2]) (n := 7) (Nat.le_of_ble_eq_true rfl)
  rw [lg_entry_eq]
  generalize (lg_sl ([.ref (ad 0), .int v1, .int v2]) ++ List.replicate (7 - (lg_sl ([.ref (ad 0), .int v1, .int v2])).length) Slot.unset).toArray = ls at hL ⊢
  have hL : lv_has ls 7 [(0, .ref (ad 0)), (1, .int v1), (2, .int v2)] := hL
  unfold wpM_shown at h
  exact bM_shown_0 K B.returns hZ h (lv_sub hL [0, 1, 2] rfl) hP va_S.rf
set_option maxRecDepth 100000 in
set_option maxHeartbeats 4000000 in
theorem bM_prove_33 {p : Program} {l : Launch} {e : Env} {s : State} {m : MethodId} {args : Array Value} {below : List Frame} {meth : Method} {c : Code} {D : va_G} {cI cJ cC cZ cR : ClassId} {ad : Nat → Nat} {A : Nat → Prop} {Zs : State → Prop} (K : Cx p (rmX 8 192) s m args meth c cM_prove 4 "WordCheckerModel" gT D cls8 (tys5 cI cJ cC cZ cR) 21 ad A Zs) (hr : meth.sig.returnType = (some .int)) (hZ : ZsOK A Zs) {Φ : Int32 → HI → HL → Prop} {n : Nat} {v1 : Int32} {v2 : Int32} {v3 : Int32} {hi : HI} {hl : HL} {H : Heap} {locs : List Loc} (h : wbM_prove_33 n v1 v2 v3 hi hl Φ) {ls : Array Slot} (hL : lv_has ls 4 [(0, .ref (ad 0)), (1, .int v1), (2, .int v2), (3, .int v3)]) (hP : va_P D cls8 (wl 21 ad (GM cI cZ ad) hi hl) H) (hS : va_S A s.heap H locs) : W p l e (rmX 8 192) s m args below meth c H locs 0 0 (MQ below (va_Qi (fun r (u : HI × HL) => Φ r u.1 u.2) (fun u t => va_P D cls8 (wl 21 ad (GM cI cZ ad) u.1 u.2) t.heap) A) args s 0 0 A) (F0 m 33 ls []) := by
  induction n generalizing v1 v2 v3 hi hl ls H locs with
  | zero => exact False.elim h
  | succ n ih =>
    unfold wbM_prove_33 at h
    refine lv_iload_n K.1 K.2.1 dM_prove_33 rfl (lv_at hL 3 rfl) ?_
    refine lv_iconst (v := 1) K.1 K.2.1 dM_prove_34 (by decide) ?_
    refine lv_iload_n K.1 K.2.1 dM_prove_35 rfl (lv_at hL 2 rfl) ?_
    refine lv_ishl K.1 K.2.1 dM_prove_36 ?_
    refine lv_icmp_ge (tgt := 58) K.1 K.2.1 dM_prove_37 rfl (fun hc => ?_) (fun hc => ?_)
    · have h := h.1 hc
      refine lv_iconst (v := 1) K.1 K.2.1 dM_prove_58 (by decide) ?_
      exact x_iret K hr hP hS h dM_prove_59
    · have h := h.2 hc
      refine lv_aload_n K.1 K.2.1 dM_prove_40 rfl (lv_at hL 0 rfl) ?_
      refine lv_iload_n K.1 K.2.1 dM_prove_41 rfl (lv_at hL 3 rfl) ?_
      refine lv_iload_n K.1 K.2.1 dM_prove_42 rfl (lv_at hL 2 rfl) ?_
      refine lv_iload_n K.1 K.2.1 dM_prove_43 rfl (lv_at hL 1 rfl) ?_
      refine x_cVI (As := [.int v3, .int v2, .int v1]) (rest := []) K gT_good hZ hP hS calM_isStretch mlM_348 0 (by decide) rfl rfl (mM_isStretch hZ K.2.2.2.2.2.2.2.1 h) ⟨Nat.le_of_ble_eq_true rfl, Nat.le_of_ble_eq_true rfl⟩ rfl hL.1 rfl (Nat.le_of_ble_eq_true rfl) dM_prove_44 (fun r1 hi2 hl3 H locs h hP hS => ?_)
      refine lv_if_eq (tgt := 52) K.1 K.2.1 dM_prove_47 rfl (fun hc => ?_) (fun hc => ?_)
      · have h := h.1 hc
        refine lv_iinc (k := 3) (lv' := [(3, .int (v3 + Int32.ofInt (1))), (0, .ref (ad 0)), (1, .int v1), (2, .int v2)]) K.1 K.2.1 dM_prove_52 hL rfl rfl (by decide) rfl (fun ls hL => ?_)
        refine lv_goto (tgt := 33) K.1 K.2.1 dM_prove_55 rfl ?_
        exact ih h (lv_sub hL [1, 2, 3, 0] rfl) hP hS
      · have h := h.2 hc
        refine lv_iconst (v := 0) K.1 K.2.1 dM_prove_50 (by decide) ?_
        exact x_iret K hr hP hS h dM_prove_51
set_option maxRecDepth 100000 in
set_option maxHeartbeats 4000000 in
theorem bM_prove_0 {p : Program} {l : Launch} {e : Env} {s : State} {m : MethodId} {args : Array Value} {below : List Frame} {meth : Method} {c : Code} {D : va_G} {cI cJ cC cZ cR : ClassId} {ad : Nat → Nat} {A : Nat → Prop} {Zs : State → Prop} (K : Cx p (rmX 8 192) s m args meth c cM_prove 4 "WordCheckerModel" gT D cls8 (tys5 cI cJ cC cZ cR) 21 ad A Zs) (hr : meth.sig.returnType = (some .int)) (hZ : ZsOK A Zs) {Φ : Int32 → HI → HL → Prop} {v1 : Int32} {hi : HI} {hl : HL} {H : Heap} {locs : List Loc} (h : wbM_prove_0 v1 hi hl Φ) {ls : Array Slot} (hL : lv_has ls 4 [(0, .ref (ad 0)), (1, .int v1)]) (hP : va_P D cls8 (wl 21 ad (GM cI cZ ad) hi hl) H) (hS : va_S A s.heap H locs) : W p l e (rmX 8 192) s m args below meth c H locs 0 0 (MQ below (va_Qi (fun r (u : HI × HL) => Φ r u.1 u.2) (fun u t => va_P D cls8 (wl 21 ad (GM cI cZ ad) u.1 u.2) t.heap) A) args s 0 0 A) (F0 m 0 ls []) := by
  unfold wbM_prove_0 at h
  refine lv_iload_n K.1 K.2.1 dM_prove_0 rfl (lv_at hL 1 rfl) ?_
  refine lv_iconst (v := 0) K.1 K.2.1 dM_prove_1 (by decide) ?_
  refine lv_iconst (v := 2) K.1 K.2.1 dM_prove_2 (by decide) ?_
  refine x_cSI (As := [.int v1, .int (0 : Int32), .int (2 : Int32)]) (rest := []) K gT_good hZ hP hS calM_in mlM_75 (mM_in hZ K.2.2.2.2.2.2.2.1 h) ⟨Nat.le_of_ble_eq_true rfl, Nat.le_of_ble_eq_true rfl⟩ rfl hL.1 rfl (Nat.le_of_ble_eq_true rfl) dM_prove_3 (fun r1 hi2 hl3 H locs h hP hS => ?_)
  refine lv_if_ne (tgt := 12) K.1 K.2.1 dM_prove_6 rfl (fun hc => ?_) (fun hc => ?_)
  · have h := h.2 hc
    refine lv_aload_n K.1 K.2.1 dM_prove_12 rfl (lv_at hL 0 rfl) ?_
    refine lv_iload_n K.1 K.2.1 dM_prove_13 rfl (lv_at hL 1 rfl) ?_
    refine x_cVI (As := [.int v1]) (rest := []) K gT_good hZ hP hS calM_find mlM_345 0 (by decide) rfl rfl (mM_find hZ K.2.2.2.2.2.2.2.1 h) ⟨Nat.le_of_ble_eq_true rfl, Nat.le_of_ble_eq_true rfl⟩ rfl hL.1 rfl (Nat.le_of_ble_eq_true rfl) dM_prove_14 (fun r4 hi5 hl6 H locs h hP hS => ?_)
    refine lv_if_lt (tgt := 22) K.1 K.2.1 dM_prove_17 rfl (fun hc => ?_) (fun hc => ?_)
    · have h := h.1 hc
      refine lv_aload_n K.1 K.2.1 dM_prove_22 rfl (lv_at hL 0 rfl) ?_
      refine lv_iload_n K.1 K.2.1 dM_prove_23 rfl (lv_at hL 1 rfl) ?_
      refine lv_iconst (v := 1) K.1 K.2.1 dM_prove_24 (by decide) ?_
      refine lv_iadd K.1 K.2.1 dM_prove_25 ?_
      refine lv_iconst (v := 1) K.1 K.2.1 dM_prove_26 (by decide) ?_
      refine x_cVI (As := [.int (v1 + (1 : Int32)), .int (1 : Int32)]) (rest := []) K gT_good hZ hP hS calM_places mlM_336 0 (by decide) rfl rfl (mM_places hZ K.2.2.2.2.2.2.2.1 h) ⟨Nat.le_of_ble_eq_true rfl, Nat.le_of_ble_eq_true rfl⟩ rfl hL.1 rfl (Nat.le_of_ble_eq_true rfl) dM_prove_27 (fun r7 hi8 hl9 H locs h hP hS => ?_)
      refine lv_istore_n (lv' := [(2, .int r7), (0, .ref (ad 0)), (1, .int v1)]) K.1 K.2.1 dM_prove_30 rfl hL (by decide) rfl (fun ls hL => ?_)
      refine lv_iconst (v := 0) K.1 K.2.1 dM_prove_31 (by decide) ?_
      refine lv_istore_n (lv' := [(3, .int (0 : Int32)), (2, .int r7), (0, .ref (ad 0)), (1, .int v1)]) K.1 K.2.1 dM_prove_32 rfl hL (by decide) rfl (fun ls hL => ?_)
      obtain ⟨fu, h⟩ := h
      exact bM_prove_33 K hr hZ h (lv_sub hL [2, 3, 1, 0] rfl) hP hS
    · have h := h.2 hc
      refine lv_iconst (v := 2) K.1 K.2.1 dM_prove_20 (by decide) ?_
      exact x_iret K hr hP hS h dM_prove_21
  · have h := h.1 hc
    refine lv_bipush (v := -2) K.1 K.2.1 dM_prove_9 (by decide) ?_
    exact x_iret K hr hP hS h dM_prove_11
set_option maxRecDepth 100000 in
set_option maxHeartbeats 4000000 in
theorem mM_prove {l : Launch} {D : va_G} {cI cJ cC cZ cR : ClassId} {ad : Nat → Nat} {A : Nat → Prop} {Zs : State → Prop} (hZ : ZsOK A Zs) (hD : wlD 21 ad A) {v1 : Int32} {hi : HI} {hl : HL} {Φ : Int32 → HI → HL → Prop} (h : wpM_prove v1 hi hl Φ) : SpI l yM_prove cM_prove 4 (some .int) gT 8 192 [.ref (ad 0), .int v1] D cls8 (tys5 cI cJ cC cZ cR) 21 ad (GM cI cZ ad) A Zs hi hl Φ := by
  refine Met.ofW (cc := cM_prove) (maxL := 4) (ret := (some .int)) (by decide) rfl ?_
  intro p e s m args below meth c s₁ B hml hv
  obtain ⟨rfl, hP, hK, hZs⟩ := hv
  have K : Cx p (rmX 8 192) s m _ meth c cM_prove 4 "WordCheckerModel" gT D cls8 (tys5 cI cJ cC cZ cR) 21 ad A Zs := ⟨B.exec, B.bytes, hml, findClass_of_methodNamed B.named, fun w hw => atoms_spec B.pre w (List.mem_cons_of_mem _ hw), B.notSynchronized, hK, hD, hZs⟩
  have hL := lv_entry ([.ref (ad 0), .int v1]) (n := 4) (Nat.le_of_ble_eq_true rfl)
  rw [lg_entry_eq]
  generalize (lg_sl ([.ref (ad 0), .int v1]) ++ List.replicate (4 - (lg_sl ([.ref (ad 0), .int v1])).length) Slot.unset).toArray = ls at hL ⊢
  have hL : lv_has ls 4 [(0, .ref (ad 0)), (1, .int v1)] := hL
  unfold wpM_prove at h
  exact bM_prove_0 K B.returns hZ h (lv_sub hL [0, 1] rfl) hP va_S.rf
