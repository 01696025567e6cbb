set_option maxRecDepth 100000 in
set_option maxHeartbeats 4000000 in
theorem bM_settle_39 {p : Program} {l : Launch} {e : Env} {s : State} {m : MethodId} {args : Array Value} {below : List Frame} {meth : Method} {c : Code} {D : va_G} {cI cJ cC cZ cR : ClassId} {ad : Nat → Nat} {A : Nat → Prop} {Zs : State → Prop} (K : Cx p (rmX 3 76) s m args meth c cM_settle 2 "WordCheckerModel" gT D cls8 (tys5 cI cJ cC cZ cR) 21 ad A Zs) (hr : meth.sig.returnType = none) (hZ : ZsOK A Zs) {Φ : HI → HL → Prop} {k2 : Int32 → HI → HL → Prop} (hk2 : ∀ (v1 : Int32) (hi : HI) (hl : HL) (ls : Array Slot) (H : Heap) (locs : List Loc), k2 v1 hi hl → lv_has ls 2 [(0, .ref (ad 0)), (1, .int v1)] → va_P D cls8 (wl 21 ad (GM cI cZ ad) hi hl) H → va_S A s.heap H locs → W p l e (rmX 3 76) s m args below meth c H locs 0 0 (MQ below (va_Qv (fun (u : HI × HL) => Φ u.1 u.2) (fun u t => va_P D cls8 (wl 21 ad (GM cI cZ ad) u.1 u.2) t.heap) A) args s 0 0 A) (F0 m 2 ls [])) {v1 : Int32} {hi : HI} {hl : HL} {H : Heap} {locs : List Loc} (h : wbM_settle_39 k2 v1 hi hl Φ) {ls : Array Slot} (hL : lv_has ls 2 [(0, .ref (ad 0)), (1, .int v1)]) (hP : va_P D cls8 (wl 21 ad (GM cI cZ ad) hi hl) H) (hS : va_S A s.heap H locs) : W p l e (rmX 3 76) s m args below meth c H locs 0 0 (MQ below (va_Qv (fun (u : HI × HL) => Φ u.1 u.2) (fun u t => va_P D cls8 (wl 21 ad (GM cI cZ ad) u.1 u.2) t.heap) A) args s 0 0 A) (F0 m 39 ls []) := by
  unfold wbM_settle_39 at h
  refine lv_iinc (k := 1) (lv' := [(1, .int (v1 + Int32.ofInt (1))), (0, .ref (ad 0))]) K.1 K.2.1 dM_settle_39 hL rfl rfl (by decide) rfl (fun ls hL => ?_)
  refine lv_goto (tgt := 2) K.1 K.2.1 dM_settle_42 rfl ?_
  exact hk2 _ _ _ _ _ _ h (lv_sub hL [1, 0] rfl) hP hS
set_option maxRecDepth 100000 in
set_option maxHeartbeats 4000000 in
theorem bM_settle_2 {p : Program} {l : Launch} {e : Env} {s : State} {m : MethodId} {args : Array Value} {below : List Frame} {meth : Method} {c : Code} {D : va_G} {cI cJ cC cZ cR : ClassId} {ad : Nat → Nat} {A : Nat → Prop} {Zs : State → Prop} (K : Cx p (rmX 3 76) s m args meth c cM_settle 2 "WordCheckerModel" gT D cls8 (tys5 cI cJ cC cZ cR) 21 ad A Zs) (hr : meth.sig.returnType = none) (hZ : ZsOK A Zs) {Φ : HI → HL → Prop} {n : Nat} {v1 : Int32} {hi : HI} {hl : HL} {H : Heap} {locs : List Loc} (h : wbM_settle_2 n v1 hi hl Φ) {ls : Array Slot} (hL : lv_has ls 2 [(0, .ref (ad 0)), (1, .int v1)]) (hP : va_P D cls8 (wl 21 ad (GM cI cZ ad) hi hl) H) (hS : va_S A s.heap H locs) : W p l e (rmX 3 76) s m args below meth c H locs 0 0 (MQ below (va_Qv (fun (u : HI × HL) => Φ u.1 u.2) (fun u t => va_P D cls8 (wl 21 ad (GM cI cZ ad) u.1 u.2) t.heap) A) args s 0 0 A) (F0 m 2 ls []) := by
  induction n generalizing v1 hi hl ls H locs with
  | zero => exact False.elim h
  | succ n ih =>
    unfold wbM_settle_2 at h
    refine lv_iload_n K.1 K.2.1 dM_settle_2 rfl (lv_at hL 1 rfl) ?_
    refine lv_aload_n K.1 K.2.1 dM_settle_3 rfl (lv_at hL 0 rfl) ?_
    refine x_get (v := .int (hi 0 6)) K hP hinM (ci := 7) rfl 0 (by decide) rfl 6 (by decide) flM_155 rfl rfl dM_settle_4 ?_
    refine lv_icmp_ge (tgt := 45) K.1 K.2.1 dM_settle_7 rfl (fun hc => ?_) (fun hc => ?_)
    · have h := h.1 hc
      exact x_vret K hr hP hS h dM_settle_45
    · have h := h.2 hc
      refine lv_aload_n K.1 K.2.1 dM_settle_10 rfl (lv_at hL 0 rfl) ?_
      refine lv_iload_n K.1 K.2.1 dM_settle_11 rfl (lv_at hL 1 rfl) ?_
      refine x_cVI (As := [.int v1]) (rest := []) K gT_good hZ hP hS calM_isNode mlM_172 0 (by decide) rfl rfl (mM_isNode hZ K.2.2.2.2.2.2.2.1 h) ⟨Nat.le_of_ble_eq_true rfl, Nat.le_of_ble_eq_true rfl⟩ rfl hL.1 rfl (Nat.le_of_ble_eq_true rfl) dM_settle_12 (fun r1 hi2 hl3 H locs h hP hS => ?_)
      refine lv_if_eq (tgt := 39) K.1 K.2.1 dM_settle_15 rfl (fun hc => ?_) (fun hc => ?_)
      · have h := h.1 hc
        exact bM_settle_39 K hr hZ (fun v1 hi hl ls H locs h hL hP hS => ih h hL hP hS) h (lv_sub hL [0, 1] rfl) hP hS
      · have h := h.2 hc
        refine lv_aload_n K.1 K.2.1 dM_settle_18 rfl (lv_at hL 0 rfl) ?_
        refine x_get (v := .ref (ad 5)) K hP hinM (ci := 7) rfl 0 (by decide) rfl 8 (by decide) flM_22 rfl rfl dM_settle_19 ?_
        refine lv_iload_n K.1 K.2.1 dM_settle_22 rfl (lv_at hL 1 rfl) ?_
        obtain ⟨g4, h⟩ := h
        refine x_iald K hP 5 (by decide) 0 rfl rfl g4 dM_settle_23 ?_
        refine lv_iconst (v := 2) K.1 K.2.1 dM_settle_24 (by decide) ?_
        refine lv_icmp_le (tgt := 39) K.1 K.2.1 dM_settle_25 rfl (fun hc => ?_) (fun hc => ?_)
        · have h := h.1 hc
          exact bM_settle_39 K hr hZ (fun v1 hi hl ls H locs h hL hP hS => ih h hL hP hS) h (lv_sub hL [0, 1] rfl) hP hS
        · have h := h.2 hc
          refine lv_aload_n K.1 K.2.1 dM_settle_28 rfl (lv_at hL 0 rfl) ?_
          refine x_get (v := .ref (ad 17)) K hP hinM (ci := 7) rfl 0 (by decide) rfl 21 (by decide) flM_59 rfl rfl dM_settle_29 ?_
          refine lv_iload_n K.1 K.2.1 dM_settle_32 rfl (lv_at hL 1 rfl) ?_
          refine lv_aload_n K.1 K.2.1 dM_settle_33 rfl (lv_at hL 0 rfl) ?_
          refine lv_iload_n K.1 K.2.1 dM_settle_34 rfl (lv_at hL 1 rfl) ?_
          refine x_cVI (As := [.int v1]) (rest := [.int v1, .ref (ad 17)]) K gT_good hZ hP hS calM_compute mlM_292 0 (by decide) rfl rfl (mM_compute hZ K.2.2.2.2.2.2.2.1 h) ⟨Nat.le_of_ble_eq_true rfl, Nat.le_of_ble_eq_true rfl⟩ rfl hL.1 rfl (Nat.le_of_ble_eq_true rfl) dM_settle_35 (fun r5 hi6 hl7 H locs h hP hS => ?_)
          obtain ⟨g8, h⟩ := h
          refine x_iast K hP hS 17 (by decide) 0 (fun _ => rfl) rfl g8 dM_settle_38 (fun H locs hP hS => ?_)
          exact bM_settle_39 K hr hZ (fun v1 hi hl ls H locs h hL hP hS => ih h hL hP hS) h (lv_sub hL [0, 1] rfl) hP hS
set_option maxRecDepth 100000 in
set_option maxHeartbeats 4000000 in
theorem bM_settle_0 {p : Program} {l : Launch} {e : Env} {s : State} {m : MethodId} {args : Array Value} {below : List Frame} {meth : Method} {c : Code} {D : va_G} {cI cJ cC cZ cR : ClassId} {ad : Nat → Nat} {A : Nat → Prop} {Zs : State → Prop} (K : Cx p (rmX 3 76) s m args meth c cM_settle 2 "WordCheckerModel" gT D cls8 (tys5 cI cJ cC cZ cR) 21 ad A Zs) (hr : meth.sig.returnType = none) (hZ : ZsOK A Zs) {Φ : HI → HL → Prop} {hi : HI} {hl : HL} {H : Heap} {locs : List Loc} (h : wbM_settle_0 hi hl Φ) {ls : Array Slot} (hL : lv_has ls 2 [(0, .ref (ad 0))]) (hP : va_P D cls8 (wl 21 ad (GM cI cZ ad) hi hl) H) (hS : va_S A s.heap H locs) : W p l e (rmX 3 76) s m args below meth c H locs 0 0 (MQ below (va_Qv (fun (u : HI × HL) => Φ u.1 u.2) (fun u t => va_P D cls8 (wl 21 ad (GM cI cZ ad) u.1 u.2) t.heap) A) args s 0 0 A) (F0 m 0 ls []) := by
  unfold wbM_settle_0 at h
  refine lv_iconst (v := 0) K.1 K.2.1 dM_settle_0 (by decide) ?_
  refine lv_istore_n (lv' := [(1, .int (0 : Int32)), (0, .ref (ad 0))]) K.1 K.2.1 dM_settle_1 rfl hL (by decide) rfl (fun ls hL => ?_)
  obtain ⟨fu, h⟩ := h
  exact bM_settle_2 K hr hZ h (lv_sub hL [1, 0] rfl) hP hS
set_option maxRecDepth 100000 in
set_option maxHeartbeats 4000000 in
theorem mM_settle {l : Launch} {D : va_G} {cI cJ cC cZ cR : ClassId} {ad : Nat → Nat} {A : Nat → Prop} {Zs : State → Prop} (hZ : ZsOK A Zs) (hD : wlD 21 ad A) {hi : HI} {hl : HL} {Φ : HI → HL → Prop} (h : wpM_settle hi hl Φ) : SpV l yM_settle cM_settle 2 none gT 3 76 [.ref (ad 0)] D cls8 (tys5 cI cJ cC cZ cR) 21 ad (GM cI cZ ad) A Zs hi hl Φ := by
  refine Met.ofW (cc := cM_settle) (maxL := 2) (ret := none) (by decide) rfl ?_
  intro p e s m args below meth c s₁ B hml hv
  obtain ⟨rfl, hP, hK, hZs⟩ := hv
  have K : Cx p (rmX 3 76) s m _ meth c cM_settle 2 "WordCheckerModel" gT D cls8 (tys5 cI cJ cC cZ cR) 21 ad A Zs := ⟨B.exec, B.bytes, hml, findClass_of_methodNamed B.named, fun w hw => atoms_spec B.pre w (List.mem_cons_of_mem _ hw), B.notSynchronized, hK, hD, hZs⟩
  have hL := lv_entry ([.ref (ad 0)]) (n := 2) (Nat.le_of_ble_eq_true rfl)
  rw [lg_entry_eq]
  generalize (lg_sl ([.ref (ad 0)]) ++ List.replicate (2 - (lg_sl ([.ref (ad 0)])).length) Slot.unset).toArray = ls at hL ⊢
  have hL : lv_has ls 2 [(0, .ref (ad 0))] := hL
  unfold wpM_settle at h
  exact bM_settle_0 K B.returns hZ h (lv_sub hL [0] rfl) hP va_S.rf
set_option maxRecDepth 100000 in
set_option maxHeartbeats 4000000 in
theorem bM_advance_97 {p : Program} {l : Launch} {e : Env} {s : State} {m : MethodId} {args : Array Value} {below : List Frame} {meth : Method} {c : Code} {D : va_G} {cI cJ cC cZ cR : ClassId} {ad : Nat → Nat} {A : Nat → Prop} {Zs : State → Prop} (K : Cx p (rmX 1 22) s m args meth c cM_advance 2 "WordCheckerModel" gT D cls8 (tys5 cI cJ cC cZ cR) 21 ad A Zs) (hr : meth.sig.returnType = none) (hZ : ZsOK A Zs) {Φ : HI → HL → Prop} {k56 : Int32 → HI → HL → Prop} (hk56 : ∀ (v1 : Int32) (hi : HI) (hl : HL) (ls : Array Slot) (H : Heap) (locs : List Loc), k56 v1 hi hl → lv_has ls 2 [(0, .ref (ad 0)), (1, .int v1)] → va_P D cls8 (wl 21 ad (GM cI cZ ad) hi hl) H → va_S A s.heap H locs → W p l e (rmX 1 22) s m args below meth c H locs 0 0 (MQ below (va_Qv (fun (u : HI × HL) => Φ u.1 u.2) (fun u t => va_P D cls8 (wl 21 ad (GM cI cZ ad) u.1 u.2) t.heap) A) args s 0 0 A) (F0 m 56 ls [])) {v1 : Int32} {hi : HI} {hl : HL} {H : Heap} {locs : List Loc} (h : wbM_advance_97 k56 v1 hi hl Φ) {ls : Array Slot} (hL : lv_has ls 2 [(0, .ref (ad 0)), (1, .int v1)]) (hP : va_P D cls8 (wl 21 ad (GM cI cZ ad) hi hl) H) (hS : va_S A s.heap H locs) : W p l e (rmX 1 22) s m args below meth c H locs 0 0 (MQ below (va_Qv (fun (u : HI × HL) => Φ u.1 u.2) (fun u t => va_P D cls8 (wl 21 ad (GM cI cZ ad) u.1 u.2) t.heap) A) args s 0 0 A) (F0 m 97 ls []) := by
  unfold wbM_advance_97 at h
  refine lv_iinc (k := 1) (lv' := [(1, .int (v1 + Int32.ofInt (1))), (0, .ref (ad 0))]) K.1 K.2.1 dM_advance_97 hL rfl rfl (by decide) rfl (fun ls hL => ?_)
  refine lv_goto (tgt := 56) K.1 K.2.1 dM_advance_100 rfl ?_
  exact hk56 _ _ _ _ _ _ h (lv_sub hL [1, 0] rfl) hP hS
set_option maxRecDepth 100000 in
set_option maxHeartbeats 4000000 in
theorem bM_advance_56 {p : Program} {l : Launch} {e : Env} {s : State} {m : MethodId} {args : Array Value} {below : List Frame} {meth : Method} {c : Code} {D : va_G} {cI cJ cC cZ cR : ClassId} {ad : Nat → Nat} {A : Nat → Prop} {Zs : State → Prop} (K : Cx p (rmX 1 22) s m args meth c cM_advance 2 "WordCheckerModel" gT D cls8 (tys5 cI cJ cC cZ cR) 21 ad A Zs) (hr : meth.sig.returnType = none) (hZ : ZsOK A Zs) {Φ : HI → HL → Prop} {n : Nat} {v1 : Int32} {hi : HI} {hl : HL} {H : Heap} {locs : List Loc} (h : wbM_advance_56 n v1 hi hl Φ) {ls : Array Slot} (hL : lv_has ls 2 [(0, .ref (ad 0)), (1, .int v1)]) (hP : va_P D cls8 (wl 21 ad (GM cI cZ ad) hi hl) H) (hS : va_S A s.heap H locs) : W p l e (rmX 1 22) s m args below meth c H locs 0 0 (MQ below (va_Qv (fun (u : HI × HL) => Φ u.1 u.2) (fun u t => va_P D cls8 (wl 21 ad (GM cI cZ ad) u.1 u.2) t.heap) A) args s 0 0 A) (F0 m 56 ls []) := by
  induction n generalizing v1 hi hl ls H locs with
  | zero => exact False.elim h
  | succ n ih =>
    unfold wbM_advance_56 at h
    refine lv_iload_n K.1 K.2.1 dM_advance_56 rfl (lv_at hL 1 rfl) ?_
    refine lv_aload_n K.1 K.2.1 dM_advance_57 rfl (lv_at hL 0 rfl) ?_
    refine x_get (v := .int (hi 0 6)) K hP hinM (ci := 7) rfl 0 (by decide) rfl 6 (by decide) flM_155 rfl rfl dM_advance_58 ?_
    refine lv_icmp_ge (tgt := 103) K.1 K.2.1 dM_advance_61 rfl (fun hc => ?_) (fun hc => ?_)
    · have h := h.1 hc
      exact x_vret K hr hP hS h dM_advance_103
    · have h := h.2 hc
      refine lv_aload_n K.1 K.2.1 dM_advance_64 rfl (lv_at hL 0 rfl) ?_
      refine x_get (v := .ref (ad 5)) K hP hinM (ci := 7) rfl 0 (by decide) rfl 8 (by decide) flM_22 rfl rfl dM_advance_65 ?_
      refine lv_iload_n K.1 K.2.1 dM_advance_68 rfl (lv_at hL 1 rfl) ?_
      obtain ⟨g1, h⟩ := h
      refine x_iald K hP 5 (by decide) 0 rfl rfl g1 dM_advance_69 ?_
      refine lv_bipush (v := 28) K.1 K.2.1 dM_advance_70 (by decide) ?_
      refine lv_icmp_ne (tgt := 97) K.1 K.2.1 dM_advance_72 rfl (fun hc => ?_) (fun hc => ?_)
      · have h := h.2 hc
        exact bM_advance_97 K hr hZ (fun v1 hi hl ls H locs h hL hP hS => ih h hL hP hS) h (lv_sub hL [0, 1] rfl) hP hS
      · have h := h.1 hc
        refine lv_aload_n K.1 K.2.1 dM_advance_75 rfl (lv_at hL 0 rfl) ?_
        refine x_get (v := .ref (ad 17)) K hP hinM (ci := 7) rfl 0 (by decide) rfl 21 (by decide) flM_59 rfl rfl dM_advance_76 ?_
        refine lv_aload_n K.1 K.2.1 dM_advance_79 rfl (lv_at hL 0 rfl) ?_
        refine x_get (v := .ref (ad 7)) K hP hinM (ci := 7) rfl 0 (by decide) rfl 10 (by decide) flM_28 rfl rfl dM_advance_80 ?_
        refine lv_iload_n K.1 K.2.1 dM_advance_83 rfl (lv_at hL 1 rfl) ?_
        obtain ⟨g2, h⟩ := h
        refine x_iald K hP 7 (by decide) 0 rfl rfl g2 dM_advance_84 ?_
        refine lv_aload_n K.1 K.2.1 dM_advance_85 rfl (lv_at hL 0 rfl) ?_
        refine x_get (v := .ref (ad 18)) K hP hinM (ci := 7) rfl 0 (by decide) rfl 22 (by decide) flM_62 rfl rfl dM_advance_86 ?_
        refine lv_aload_n K.1 K.2.1 dM_advance_89 rfl (lv_at hL 0 rfl) ?_
        refine x_get (v := .ref (ad 7)) K hP hinM (ci := 7) rfl 0 (by decide) rfl 10 (by decide) flM_28 rfl rfl dM_advance_90 ?_
        refine lv_iload_n K.1 K.2.1 dM_advance_93 rfl (lv_at hL 1 rfl) ?_
        obtain ⟨g3, h⟩ := h
        refine x_iald K hP 7 (by decide) 0 rfl rfl g3 dM_advance_94 ?_
        obtain ⟨g4, h⟩ := h
        refine x_iald K hP 18 (by decide) 0 rfl rfl g4 dM_advance_95 ?_
        obtain ⟨g5, h⟩ := h
        refine x_iast K hP hS 17 (by decide) 0 (fun _ => rfl) rfl g5 dM_advance_96 (fun H locs hP hS => ?_)
        exact bM_advance_97 K hr hZ (fun v1 hi hl ls H locs h hL hP hS => ih h hL hP hS) h (lv_sub hL [0, 1] rfl) hP hS
set_option maxRecDepth 100000 in
set_option maxHeartbeats 4000000 in
theorem bM_advance_48 {p : Program} {l : Launch} {e : Env} {s : State} {m : MethodId} {args : Array Value} {below : List Frame} {meth : Method} {c : Code} {D : va_G} {cI cJ cC cZ cR : ClassId} {ad : Nat → Nat} {A : Nat → Prop} {Zs : State → Prop} (K : Cx p (rmX 1 22) s m args meth c cM_advance 2 "WordCheckerModel" gT D cls8 (tys5 cI cJ cC cZ cR) 21 ad A Zs) (hr : meth.sig.returnType = none) (hZ : ZsOK A Zs) {Φ : HI → HL → Prop} {k2 : Int32 → HI → HL → Prop} (hk2 : ∀ (v1 : Int32) (hi : HI) (hl : HL) (ls : Array Slot) (H : Heap) (locs : List Loc), k2 v1 hi hl → lv_has ls 2 [(0, .ref (ad 0)), (1, .int v1)] → va_P D cls8 (wl 21 ad (GM cI cZ ad) hi hl) H → va_S A s.heap H locs → W p l e (rmX 1 22) s m args below meth c H locs 0 0 (MQ below (va_Qv (fun (u : HI × HL) => Φ u.1 u.2) (fun u t => va_P D cls8 (wl 21 ad (GM cI cZ ad) u.1 u.2) t.heap) A) args s 0 0 A) (F0 m 2 ls [])) {v1 : Int32} {hi : HI} {hl : HL} {H : Heap} {locs : List Loc} (h : wbM_advance_48 k2 v1 hi hl Φ) {ls : Array Slot} (hL : lv_has ls 2 [(0, .ref (ad 0)), (1, .int v1)]) (hP : va_P D cls8 (wl 21 ad (GM cI cZ ad) hi hl) H) (hS : va_S A s.heap H locs) : W p l e (rmX 1 22) s m args below meth c H locs 0 0 (MQ below (va_Qv (fun (u : HI × HL) => Φ u.1 u.2) (fun u t => va_P D cls8 (wl 21 ad (GM cI cZ ad) u.1 u.2) t.heap) A) args s 0 0 A) (F0 m 48 ls []) := by
  unfold wbM_advance_48 at h
  refine lv_iinc (k := 1) (lv' := [(1, .int (v1 + Int32.ofInt (1))), (0, .ref (ad 0))]) K.1 K.2.1 dM_advance_48 hL rfl rfl (by decide) rfl (fun ls hL => ?_)
  refine lv_goto (tgt := 2) K.1 K.2.1 dM_advance_51 rfl ?_
  exact hk2 _ _ _ _ _ _ h (lv_sub hL [1, 0] rfl) hP hS
set_option maxRecDepth 100000 in
set_option maxHeartbeats 4000000 in
theorem bM_advance_2 {p : Program} {l : Launch} {e : Env} {s : State} {m : MethodId} {args : Array Value} {below : List Frame} {meth : Method} {c : Code} {D : va_G} {cI cJ cC cZ cR : ClassId} {ad : Nat → Nat} {A : Nat → Prop} {Zs : State → Prop} (K : Cx p (rmX 1 22) s m args meth c cM_advance 2 "WordCheckerModel" gT D cls8 (tys5 cI cJ cC cZ cR) 21 ad A Zs) (hr : meth.sig.returnType = none) (hZ : ZsOK A Zs) {Φ : HI → HL → Prop} {n : Nat} {v1 : Int32} {hi : HI} {hl : HL} {H : Heap} {locs : List Loc} (h : wbM_advance_2 n v1 hi hl Φ) {ls : Array Slot} (hL : lv_has ls 2 [(0, .ref (ad 0)), (1, .int v1)]) (hP : va_P D cls8 (wl 21 ad (GM cI cZ ad) hi hl) H) (hS : va_S A s.heap H locs) : W p l e (rmX 1 22) s m args below meth c H locs 0 0 (MQ below (va_Qv (fun (u : HI × HL) => Φ u.1 u.2) (fun u t => va_P D cls8 (wl 21 ad (GM cI cZ ad) u.1 u.2) t.heap) A) args s 0 0 A) (F0 m 2 ls []) := by
  induction n generalizing v1 hi hl ls H locs with
  | zero => exact False.elim h
  | succ n ih =>
    unfold wbM_advance_2 at h
    refine lv_iload_n K.1 K.2.1 dM_advance_2 rfl (lv_at hL 1 rfl) ?_
    refine lv_aload_n K.1 K.2.1 dM_advance_3 rfl (lv_at hL 0 rfl) ?_
    refine x_get (v := .int (hi 0 6)) K hP hinM (ci := 7) rfl 0 (by decide) rfl 6 (by decide) flM_155 rfl rfl dM_advance_4 ?_
    refine lv_icmp_ge (tgt := 54) K.1 K.2.1 dM_advance_7 rfl (fun hc => ?_) (fun hc => ?_)
    · have h := h.1 hc
      refine lv_iconst (v := 0) K.1 K.2.1 dM_advance_54 (by decide) ?_
      refine lv_istore_n (lv' := [(1, .int (0 : Int32)), (0, .ref (ad 0))]) K.1 K.2.1 dM_advance_55 rfl hL (by decide) rfl (fun ls hL => ?_)
      obtain ⟨fu, h⟩ := h
      exact bM_advance_56 K hr hZ h (lv_sub hL [1, 0] rfl) hP hS
    · have h := h.2 hc
      refine lv_aload_n K.1 K.2.1 dM_advance_10 rfl (lv_at hL 0 rfl) ?_
      refine x_get (v := .ref (ad 5)) K hP hinM (ci := 7) rfl 0 (by decide) rfl 8 (by decide) flM_22 rfl rfl dM_advance_11 ?_
      refine lv_iload_n K.1 K.2.1 dM_advance_14 rfl (lv_at hL 1 rfl) ?_
      obtain ⟨g1, h⟩ := h
      refine x_iald K hP 5 (by decide) 0 rfl rfl g1 dM_advance_15 ?_
      refine lv_bipush (v := 28) K.1 K.2.1 dM_advance_16 (by decide) ?_
      refine lv_icmp_ne (tgt := 48) K.1 K.2.1 dM_advance_18 rfl (fun hc => ?_) (fun hc => ?_)
      · have h := h.2 hc
        exact bM_advance_48 K hr hZ (fun v1 hi hl ls H locs h hL hP hS => ih h hL hP hS) h (lv_sub hL [0, 1] rfl) hP hS
      · have h := h.1 hc
        refine lv_aload_n K.1 K.2.1 dM_advance_21 rfl (lv_at hL 0 rfl) ?_
        refine x_get (v := .ref (ad 18)) K hP hinM (ci := 7) rfl 0 (by decide) rfl 22 (by decide) flM_62 rfl rfl dM_advance_22 ?_
        refine lv_aload_n K.1 K.2.1 dM_advance_25 rfl (lv_at hL 0 rfl) ?_
        refine x_get (v := .ref (ad 7)) K hP hinM (ci := 7) rfl 0 (by decide) rfl 10 (by decide) flM_28 rfl rfl dM_advance_26 ?_
        refine lv_iload_n K.1 K.2.1 dM_advance_29 rfl (lv_at hL 1 rfl) ?_
        obtain ⟨g2, h⟩ := h
        refine x_iald K hP 7 (by decide) 0 rfl rfl g2 dM_advance_30 ?_
        refine lv_aload_n K.1 K.2.1 dM_advance_31 rfl (lv_at hL 0 rfl) ?_
        refine lv_aload_n K.1 K.2.1 dM_advance_32 rfl (lv_at hL 0 rfl) ?_
        refine x_get (v := .ref (ad 8)) K hP hinM (ci := 7) rfl 0 (by decide) rfl 11 (by decide) flM_31 rfl rfl dM_advance_33 ?_
        refine lv_iload_n K.1 K.2.1 dM_advance_36 rfl (lv_at hL 1 rfl) ?_
        obtain ⟨g3, h⟩ := h
        refine x_iald K hP 8 (by decide) 0 rfl rfl g3 dM_advance_37 ?_
        refine lv_aload_n K.1 K.2.1 dM_advance_38 rfl (lv_at hL 0 rfl) ?_
        refine x_get (v := .ref (ad 11)) K hP hinM (ci := 7) rfl 0 (by decide) rfl 14 (by decide) flM_41 rfl rfl dM_advance_39 ?_
        refine lv_iload_n K.1 K.2.1 dM_advance_42 rfl (lv_at hL 1 rfl) ?_
        obtain ⟨g4, h⟩ := h
        refine x_zald K hP 11 (by decide) 3 rfl rfl g4 dM_advance_43 ?_
        refine x_cVI (As := [.int (hi 8 (v1.toNatClampNeg)), .int (hi 11 (v1.toNatClampNeg))]) (rest := [.int (hi 7 (v1.toNatClampNeg)), .ref (ad 18)]) K gT_good hZ hP hS calM_get mlM_274 0 (by decide) rfl rfl (mM_get hZ K.2.2.2.2.2.2.2.1 h) ⟨Nat.le_of_ble_eq_true rfl, Nat.le_of_ble_eq_true rfl⟩ rfl hL.1 rfl (Nat.le_of_ble_eq_true rfl) dM_advance_44 (fun r5 hi6 hl7 H locs h hP hS => ?_)
        obtain ⟨g8, h⟩ := h
        refine x_iast K hP hS 18 (by decide) 0 (fun _ => rfl) rfl g8 dM_advance_47 (fun H locs hP hS => ?_)
        exact bM_advance_48 K hr hZ (fun v1 hi hl ls H locs h hL hP hS => ih h hL hP hS) h (lv_sub hL [0, 1] rfl) hP hS
set_option maxRecDepth 100000 in
set_option maxHeartbeats 4000000 in
theorem bM_advance_0 {p : Program} {l : Launch} {e : Env} {s : State} {m : MethodId} {args : Array Value} {below : List Frame} {meth : Method} {c : Code} {D : va_G} {cI cJ cC cZ cR : ClassId} {ad : Nat → Nat} {A : Nat → Prop} {Zs : State → Prop} (K : Cx p (rmX 1 22) s m args meth c cM_advance 2 "WordCheckerModel" gT D cls8 (tys5 cI cJ cC cZ cR) 21 ad A Zs) (hr : meth.sig.returnType = none) (hZ : ZsOK A Zs) {Φ : HI → HL → Prop} {hi : HI} {hl : HL} {H : Heap} {locs : List Loc} (h : wbM_advance_0 hi hl Φ) {ls : Array Slot} (hL : lv_has ls 2 [(0, .ref (ad 0))]) (hP : va_P D cls8 (wl 21 ad (GM cI cZ ad) hi hl) H) (hS : va_S A s.heap H locs) : W p l e (rmX 1 22) s m args below meth c H locs 0 0 (MQ below (va_Qv (fun (u : HI × HL) => Φ u.1 u.2) (fun u t => va_P D cls8 (wl 21 ad (GM cI cZ ad) u.1 u.2) t.heap) A) args s 0 0 A) (F0 m 0 ls []) := by
  unfold wbM_advance_0 at h
  refine lv_iconst (v := 0) K.1 K.2.1 dM_advance_0 (by decide) ?_
  refine lv_istore_n (lv' := [(1, .int (0 : Int32)), (0, .ref (ad 0))]) K.1 K.2.1 dM_advance_1 rfl hL (by decide) rfl (fun ls hL => ?_)
  obtain ⟨fu, h⟩ := h
  exact bM_advance_2 K hr hZ h (lv_sub hL [1, 0] rfl) hP hS
set_option maxRecDepth 100000 in
set_option maxHeartbeats 4000000 in
theorem mM_advance {l : Launch} {D : va_G} {cI cJ cC cZ cR : ClassId} {ad : Nat → Nat} {A : Nat → Prop} {Zs : State → Prop} (hZ : ZsOK A Zs) (hD : wlD 21 ad A) {hi : HI} {hl : HL} {Φ : HI → HL → Prop} (h : wpM_advance hi hl Φ) : SpV l yM_advance cM_advance 2 none gT 1 22 [.ref (ad 0)] D cls8 (tys5 cI cJ cC cZ cR) 21 ad (GM cI cZ ad) A Zs hi hl Φ := by
  refine Met.ofW (cc := cM_advance) (maxL := 2) (ret := none) (by decide) rfl ?_
  intro p e s m args below meth c s₁ B hml hv
  obtain ⟨rfl, hP, hK, hZs⟩ := hv
  have K : Cx p (rmX 1 22) s m _ meth c cM_advance 2 "WordCheckerModel" gT D cls8 (tys5 cI cJ cC cZ cR) 21 ad A Zs := ⟨B.exec, B.bytes, hml, findClass_of_methodNamed B.named, fun w hw => atoms_spec B.pre w (List.mem_cons_of_mem _ hw), B.notSynchronized, hK, hD, hZs⟩
  have hL := lv_entry ([.ref (ad 0)]) (n := 2) (Nat.le_of_ble_eq_true rfl)
  rw [lg_entry_eq]
  generalize (lg_sl ([.ref (ad 0)]) ++ List.replicate (2 - (lg_sl ([.ref (ad 0)])).length) Slot.unset).toArray = ls at hL ⊢
  have hL : lv_has ls 2 [(0, .ref (ad 0))] := hL
  unfold wpM_advance at h
  exact bM_advance_0 K B.returns hZ h (lv_sub hL [0] rfl) hP va_S.rf
set_option maxRecDepth 100000 in
set_option maxHeartbeats 4000000 in
theorem bM_initz_95 {p : Program} {l : Launch} {e : Env} {s : State} {m : MethodId} {args : Array Value} {below : List Frame} {meth : Method} {c : Code} {D : va_G} {cI cJ cC cZ cR : ClassId} {ad : Nat → Nat} {A : Nat → Prop} {Zs : State → Prop} (K : Cx p (rmX 4 97) s m args meth c cM_initz 2 "WordCheckerModel" gT D cls8 (tys5 cI cJ cC cZ cR) 21 ad A Zs) (hr : meth.sig.returnType = none) (hZ : ZsOK A Zs) {Φ : HI → HL → Prop} {k49 : Int32 → HI → HL → Prop} (hk49 : ∀ (v1 : Int32) (hi : HI) (hl : HL) (ls : Array Slot) (H : Heap) (locs : List Loc), k49 v1 hi hl → lv_has ls 2 [(0, .ref (ad 0)), (1, .int v1)] → va_P D cls8 (wl 21 ad (GM cI cZ ad) hi hl) H → va_S A s.heap H locs → W p l e (rmX 4 97) s m args below meth c H locs 0 0 (MQ below (va_Qv (fun (u : HI × HL) => Φ u.1 u.2) (fun u t => va_P D cls8 (wl 21 ad (GM cI cZ ad) u.1 u.2) t.heap) A) args s 0 0 A) (F0 m 49 ls [])) {v1 : Int32} {hi : HI} {hl : HL} {H : Heap} {locs : List Loc} (h : wbM_initz_95 k49 v1 hi hl Φ) {ls : Array Slot} (hL : lv_has ls 2 [(0, .ref (ad 0)), (1, .int v1)]) (hP : va_P D cls8 (wl 21 ad (GM cI cZ ad) hi hl) H) (hS : va_S A s.heap H locs) : W p l e (rmX 4 97) s m args below meth c H locs 0 0 (MQ below (va_Qv (fun (u : HI × HL) => Φ u.1 u.2) (fun u t => va_P D cls8 (wl 21 ad (GM cI cZ ad) u.1 u.2) t.heap) A) args s 0 0 A) (F0 m 95 ls []) := by
  unfold wbM_initz_95 at h
  refine lv_iinc (k := 1) (lv' := [(1, .int (v1 + Int32.ofInt (1))), (0, .ref (ad 0))]) K.1 K.2.1 dM_initz_95 hL rfl rfl (by decide) rfl (fun ls hL => ?_)
  refine lv_goto (tgt := 49) K.1 K.2.1 dM_initz_98 rfl ?_
  exact hk49 _ _ _ _ _ _ h (lv_sub hL [1, 0] rfl) hP hS
set_option maxRecDepth 100000 in
set_option maxHeartbeats 4000000 in
theorem bM_initz_49 {p : Program} {l : Launch} {e : Env} {s : State} {m : MethodId} {args : Array Value} {below : List Frame} {meth : Method} {c : Code} {D : va_G} {cI cJ cC cZ cR : ClassId} {ad : Nat → Nat} {A : Nat → Prop} {Zs : State → Prop} (K : Cx p (rmX 4 97) s m args meth c cM_initz 2 "WordCheckerModel" gT D cls8 (tys5 cI cJ cC cZ cR) 21 ad A Zs) (hr : meth.sig.returnType = none) (hZ : ZsOK A Zs) {Φ : HI → HL → Prop} {n : Nat} {v1 : Int32} {hi : HI} {hl : HL} {H : Heap} {locs : List Loc} (h : wbM_initz_49 n v1 hi hl Φ) {ls : Array Slot} (hL : lv_has ls 2 [(0, .ref (ad 0)), (1, .int v1)]) (hP : va_P D cls8 (wl 21 ad (GM cI cZ ad) hi hl) H) (hS : va_S A s.heap H locs) : W p l e (rmX 4 97) s m args below meth c H locs 0 0 (MQ below (va_Qv (fun (u : HI × HL) => Φ u.1 u.2) (fun u t => va_P D cls8 (wl 21 ad (GM cI cZ ad) u.1 u.2) t.heap) A) args s 0 0 A) (F0 m 49 ls []) := by
  induction n generalizing v1 hi hl ls H locs with
  | zero => exact False.elim h
  | succ n ih =>
    unfold wbM_initz_49 at h
    refine lv_iload_n K.1 K.2.1 dM_initz_49 rfl (lv_at hL 1 rfl) ?_
    refine lv_aload_n K.1 K.2.1 dM_initz_50 rfl (lv_at hL 0 rfl) ?_
    refine x_get (v := .int (hi 0 6)) K hP hinM (ci := 7) rfl 0 (by decide) rfl 6 (by decide) flM_155 rfl rfl dM_initz_51 ?_
    refine lv_icmp_ge (tgt := 101) K.1 K.2.1 dM_initz_54 rfl (fun hc => ?_) (fun hc => ?_)
    · have h := h.1 hc
      exact x_vret K hr hP hS h dM_initz_101
    · have h := h.2 hc
      refine lv_aload_n K.1 K.2.1 dM_initz_57 rfl (lv_at hL 0 rfl) ?_
      refine x_get (v := .ref (ad 5)) K hP hinM (ci := 7) rfl 0 (by decide) rfl 8 (by decide) flM_22 rfl rfl dM_initz_58 ?_
      refine lv_iload_n K.1 K.2.1 dM_initz_61 rfl (lv_at hL 1 rfl) ?_
      obtain ⟨g1, h⟩ := h
      refine x_iald K hP 5 (by decide) 0 rfl rfl g1 dM_initz_62 ?_
      refine lv_bipush (v := 27) K.1 K.2.1 dM_initz_63 (by decide) ?_
      refine lv_icmp_ne (tgt := 95) K.1 K.2.1 dM_initz_65 rfl (fun hc => ?_) (fun hc => ?_)
      · have h := h.2 hc
        exact bM_initz_95 K hr hZ (fun v1 hi hl ls H locs h hL hP hS => ih h hL hP hS) h (lv_sub hL [0, 1] rfl) hP hS
      · have h := h.1 hc
        refine lv_aload_n K.1 K.2.1 dM_initz_68 rfl (lv_at hL 0 rfl) ?_
        refine x_get (v := .ref (ad 17)) K hP hinM (ci := 7) rfl 0 (by decide) rfl 21 (by decide) flM_59 rfl rfl dM_initz_69 ?_
        refine lv_aload_n K.1 K.2.1 dM_initz_72 rfl (lv_at hL 0 rfl) ?_
        refine x_get (v := .ref (ad 7)) K hP hinM (ci := 7) rfl 0 (by decide) rfl 10 (by decide) flM_28 rfl rfl dM_initz_73 ?_
        refine lv_iload_n K.1 K.2.1 dM_initz_76 rfl (lv_at hL 1 rfl) ?_
        obtain ⟨g2, h⟩ := h
        refine x_iald K hP 7 (by decide) 0 rfl rfl g2 dM_initz_77 ?_
        refine lv_aload_n K.1 K.2.1 dM_initz_78 rfl (lv_at hL 0 rfl) ?_
        refine lv_aload_n K.1 K.2.1 dM_initz_79 rfl (lv_at hL 0 rfl) ?_
        refine x_get (v := .ref (ad 8)) K hP hinM (ci := 7) rfl 0 (by decide) rfl 11 (by decide) flM_31 rfl rfl dM_initz_80 ?_
        refine lv_iload_n K.1 K.2.1 dM_initz_83 rfl (lv_at hL 1 rfl) ?_
        obtain ⟨g3, h⟩ := h
        refine x_iald K hP 8 (by decide) 0 rfl rfl g3 dM_initz_84 ?_
        refine lv_aload_n K.1 K.2.1 dM_initz_85 rfl (lv_at hL 0 rfl) ?_
        refine x_get (v := .ref (ad 11)) K hP hinM (ci := 7) rfl 0 (by decide) rfl 14 (by decide) flM_41 rfl rfl dM_initz_86 ?_
        refine lv_iload_n K.1 K.2.1 dM_initz_89 rfl (lv_at hL 1 rfl) ?_
        obtain ⟨g4, h⟩ := h
        refine x_zald K hP 11 (by decide) 3 rfl rfl g4 dM_initz_90 ?_
        refine x_cVI (As := [.int (hi 8 (v1.toNatClampNeg)), .int (hi 11 (v1.toNatClampNeg))]) (rest := [.int (hi 7 (v1.toNatClampNeg)), .ref (ad 17)]) K gT_good hZ hP hS calM_get mlM_274 0 (by decide) rfl rfl (mM_get hZ K.2.2.2.2.2.2.2.1 h) ⟨Nat.le_of_ble_eq_true rfl, Nat.le_of_ble_eq_true rfl⟩ rfl hL.1 rfl (Nat.le_of_ble_eq_true rfl) dM_initz_91 (fun r5 hi6 hl7 H locs h hP hS => ?_)
        obtain ⟨g8, h⟩ := h
        refine x_iast K hP hS 17 (by decide) 0 (fun _ => rfl) rfl g8 dM_initz_94 (fun H locs hP hS => ?_)
        exact bM_initz_95 K hr hZ (fun v1 hi hl ls H locs h hL hP hS => ih h hL hP hS) h (lv_sub hL [0, 1] rfl) hP hS
set_option maxRecDepth 100000 in
set_option maxHeartbeats 4000000 in
theorem bM_initz_37 {p : Program} {l : Launch} {e : Env} {s : State} {m : MethodId} {args : Array Value} {below : List Frame} {meth : Method} {c : Code} {D : va_G} {cI cJ cC cZ cR : ClassId} {ad : Nat → Nat} {A : Nat → Prop} {Zs : State → Prop} (K : Cx p (rmX 4 97) s m args meth c cM_initz 2 "WordCheckerModel" gT D cls8 (tys5 cI cJ cC cZ cR) 21 ad A Zs) (hr : meth.sig.returnType = none) (hZ : ZsOK A Zs) {Φ : HI → HL → Prop} {k2 : Int32 → HI → HL → Prop} (hk2 : ∀ (v1 : Int32) (hi : HI) (hl : HL) (ls : Array Slot) (H : Heap) (locs : List Loc), k2 v1 hi hl → lv_has ls 2 [(0, .ref (ad 0)), (1, .int v1)] → va_P D cls8 (wl 21 ad (GM cI cZ ad) hi hl) H → va_S A s.heap H locs → W p l e (rmX 4 97) s m args below meth c H locs 0 0 (MQ below (va_Qv (fun (u : HI × HL) => Φ u.1 u.2) (fun u t => va_P D cls8 (wl 21 ad (GM cI cZ ad) u.1 u.2) t.heap) A) args s 0 0 A) (F0 m 2 ls [])) {v1 : Int32} {hi : HI} {hl : HL} {H : Heap} {locs : List Loc} (h : wbM_initz_37 k2 v1 hi hl Φ) {ls : Array Slot} (hL : lv_has ls 2 [(0, .ref (ad 0)), (1, .int v1)]) (hP : va_P D cls8 (wl 21 ad (GM cI cZ ad) hi hl) H) (hS : va_S A s.heap H locs) : W p l e (rmX 4 97) s m args below meth c H locs 0 0 (MQ below (va_Qv (fun (u : HI × HL) => Φ u.1 u.2) (fun u t => va_P D cls8 (wl 21 ad (GM cI cZ ad) u.1 u.2) t.heap) A) args s 0 0 A) (F0 m 37 ls []) := by
  unfold wbM_initz_37 at h
  refine lv_iinc (k := 1) (lv' := [(1, .int (v1 + Int32.ofInt (1))), (0, .ref (ad 0))]) K.1 K.2.1 dM_initz_37 hL rfl rfl (by decide) rfl (fun ls hL => ?_)
  refine lv_goto (tgt := 2) K.1 K.2.1 dM_initz_40 rfl ?_
  exact hk2 _ _ _ _ _ _ h (lv_sub hL [1, 0] rfl) hP hS
set_option maxRecDepth 100000 in
set_option maxHeartbeats 4000000 in
theorem bM_initz_30 {p : Program} {l : Launch} {e : Env} {s : State} {m : MethodId} {args : Array Value} {below : List Frame} {meth : Method} {c : Code} {D : va_G} {cI cJ cC cZ cR : ClassId} {ad : Nat → Nat} {A : Nat → Prop} {Zs : State → Prop} (K : Cx p (rmX 4 97) s m args meth c cM_initz 2 "WordCheckerModel" gT D cls8 (tys5 cI cJ cC cZ cR) 21 ad A Zs) (hr : meth.sig.returnType = none) (hZ : ZsOK A Zs) {Φ : HI → HL → Prop} {k2 : Int32 → HI → HL → Prop} (hk2 : ∀ (v1 : Int32) (hi : HI) (hl : HL) (ls : Array Slot) (H : Heap) (locs : List Loc), k2 v1 hi hl → lv_has ls 2 [(0, .ref (ad 0)), (1, .int v1)] → va_P D cls8 (wl 21 ad (GM cI cZ ad) hi hl) H → va_S A s.heap H locs → W p l e (rmX 4 97) s m args below meth c H locs 0 0 (MQ below (va_Qv (fun (u : HI × HL) => Φ u.1 u.2) (fun u t => va_P D cls8 (wl 21 ad (GM cI cZ ad) u.1 u.2) t.heap) A) args s 0 0 A) (F0 m 2 ls [])) {v1 : Int32} {hi : HI} {hl : HL} {H : Heap} {locs : List Loc} (h : wbM_initz_30 k2 v1 hi hl Φ) {ls : Array Slot} (hL : lv_has ls 2 [(0, .ref (ad 0)), (1, .int v1)]) (hP : va_P D cls8 (wl 21 ad (GM cI cZ ad) hi hl) H) (hS : va_S A s.heap H locs) : W p l e (rmX 4 97) s m args below meth c H locs 0 0 (MQ below (va_Qv (fun (u : HI × HL) => Φ u.1 u.2) (fun u t => va_P D cls8 (wl 21 ad (GM cI cZ ad) u.1 u.2) t.heap) A) args s 0 0 A) (F0 m 30 ls []) := by
  unfold wbM_initz_30 at h
  refine lv_aload_n K.1 K.2.1 dM_initz_30 rfl (lv_at hL 0 rfl) ?_
  refine x_get (v := .ref (ad 17)) K hP hinM (ci := 7) rfl 0 (by decide) rfl 21 (by decide) flM_59 rfl rfl dM_initz_31 ?_
  refine lv_iload_n K.1 K.2.1 dM_initz_34 rfl (lv_at hL 1 rfl) ?_
  refine lv_iconst (v := 0) K.1 K.2.1 dM_initz_35 (by decide) ?_
  obtain ⟨g1, h⟩ := h
  refine x_iast K hP hS 17 (by decide) 0 (fun _ => rfl) rfl g1 dM_initz_36 (fun H locs hP hS => ?_)
  exact bM_initz_37 K hr hZ hk2 h (lv_sub hL [0, 1] rfl) hP hS
set_option maxRecDepth 100000 in
set_option maxHeartbeats 4000000 in
theorem bM_initz_2 {p : Program} {l : Launch} {e : Env} {s : State} {m : MethodId} {args : Array Value} {below : List Frame} {meth : Method} {c : Code} {D : va_G} {cI cJ cC cZ cR : ClassId} {ad : Nat → Nat} {A : Nat → Prop} {Zs : State → Prop} (K : Cx p (rmX 4 97) s m args meth c cM_initz 2 "WordCheckerModel" gT D cls8 (tys5 cI cJ cC cZ cR) 21 ad A Zs) (hr : meth.sig.returnType = none) (hZ : ZsOK A Zs) {Φ : HI → HL → Prop} {n : Nat} {v1 : Int32} {hi : HI} {hl : HL} {H : Heap} {locs : List Loc} (h : wbM_initz_2 n v1 hi hl Φ) {ls : Array Slot} (hL : lv_has ls 2 [(0, .ref (ad 0)), (1, .int v1)]) (hP : va_P D cls8 (wl 21 ad (GM cI cZ ad) hi hl) H) (hS : va_S A s.heap H locs) : W p l e (rmX 4 97) s m args below meth c H locs 0 0 (MQ below (va_Qv (fun (u : HI × HL) => Φ u.1 u.2) (fun u t => va_P D cls8 (wl 21 ad (GM cI cZ ad) u.1 u.2) t.heap) A) args s 0 0 A) (F0 m 2 ls []) := by
  induction n generalizing v1 hi hl ls H locs with
  | zero => exact False.elim h
  | succ n ih =>
    unfold wbM_initz_2 at h
    refine lv_iload_n K.1 K.2.1 dM_initz_2 rfl (lv_at hL 1 rfl) ?_
    refine lv_aload_n K.1 K.2.1 dM_initz_3 rfl (lv_at hL 0 rfl) ?_
    refine x_get (v := .int (hi 0 6)) K hP hinM (ci := 7) rfl 0 (by decide) rfl 6 (by decide) flM_155 rfl rfl dM_initz_4 ?_
    refine lv_icmp_ge (tgt := 43) K.1 K.2.1 dM_initz_7 rfl (fun hc => ?_) (fun hc => ?_)
    · have h := h.1 hc
      refine lv_aload_n K.1 K.2.1 dM_initz_43 rfl (lv_at hL 0 rfl) ?_
      refine x_cVV (As := []) (rest := []) K gT_good hZ hP hS calM_settle mlM_295 0 (by decide) rfl rfl (mM_settle hZ K.2.2.2.2.2.2.2.1 h) ⟨Nat.le_of_ble_eq_true rfl, Nat.le_of_ble_eq_true rfl⟩ rfl hL.1 rfl (Nat.le_of_ble_eq_true rfl) dM_initz_44 (fun hi2 hl3 H locs h hP hS => ?_)
      refine lv_iconst (v := 0) K.1 K.2.1 dM_initz_47 (by decide) ?_
      refine lv_istore_n (lv' := [(1, .int (0 : Int32)), (0, .ref (ad 0))]) K.1 K.2.1 dM_initz_48 rfl hL (by decide) rfl (fun ls hL => ?_)
      obtain ⟨fu, h⟩ := h
      exact bM_initz_49 K hr hZ h (lv_sub hL [1, 0] rfl) hP hS
    · have h := h.2 hc
      refine lv_aload_n K.1 K.2.1 dM_initz_10 rfl (lv_at hL 0 rfl) ?_
      refine x_get (v := .ref (ad 5)) K hP hinM (ci := 7) rfl 0 (by decide) rfl 8 (by decide) flM_22 rfl rfl dM_initz_11 ?_
      refine lv_iload_n K.1 K.2.1 dM_initz_14 rfl (lv_at hL 1 rfl) ?_
      obtain ⟨g4, h⟩ := h
      refine x_iald K hP 5 (by decide) 0 rfl rfl g4 dM_initz_15 ?_
      refine lv_iconst (v := 1) K.1 K.2.1 dM_initz_16 (by decide) ?_
      refine lv_icmp_eq (tgt := 30) K.1 K.2.1 dM_initz_17 rfl (fun hc => ?_) (fun hc => ?_)
      · have h := h.1 hc
        exact bM_initz_30 K hr hZ (fun v1 hi hl ls H locs h hL hP hS => ih h hL hP hS) h (lv_sub hL [0, 1] rfl) hP hS
      · have h := h.2 hc
        refine lv_aload_n K.1 K.2.1 dM_initz_20 rfl (lv_at hL 0 rfl) ?_
        refine x_get (v := .ref (ad 5)) K hP hinM (ci := 7) rfl 0 (by decide) rfl 8 (by decide) flM_22 rfl rfl dM_initz_21 ?_
        refine lv_iload_n K.1 K.2.1 dM_initz_24 rfl (lv_at hL 1 rfl) ?_
        obtain ⟨g5, h⟩ := h
        refine x_iald K hP 5 (by decide) 0 rfl rfl g5 dM_initz_25 ?_
        refine lv_iconst (v := 2) K.1 K.2.1 dM_initz_26 (by decide) ?_
        refine lv_icmp_ne (tgt := 37) K.1 K.2.1 dM_initz_27 rfl (fun hc => ?_) (fun hc => ?_)
        · have h := h.2 hc
          exact bM_initz_37 K hr hZ (fun v1 hi hl ls H locs h hL hP hS => ih h hL hP hS) h (lv_sub hL [0, 1] rfl) hP hS
        · have h := h.1 hc
          exact bM_initz_30 K hr hZ (fun v1 hi hl ls H locs h hL hP hS => ih h hL hP hS) h (lv_sub hL [0, 1] rfl) hP hS
set_option maxRecDepth 100000 in
set_option maxHeartbeats 4000000 in
theorem bM_initz_0 {p : Program} {l : Launch} {e : Env} {s : State} {m : MethodId} {args : Array Value} {below : List Frame} {meth : Method} {c : Code} {D : va_G} {cI cJ cC cZ cR : ClassId} {ad : Nat → Nat} {A : Nat → Prop} {Zs : State → Prop} (K : Cx p (rmX 4 97) s m args meth c cM_initz 2 "WordCheckerModel" gT D cls8 (tys5 cI cJ cC cZ cR) 21 ad A Zs) (hr : meth.sig.returnType = none) (hZ : ZsOK A Zs) {Φ : HI → HL → Prop} {hi : HI} {hl : HL} {H : Heap} {locs : List Loc} (h : wbM_initz_0 hi hl Φ) {ls : Array Slot} (hL : lv_has ls 2 [(0, .ref (ad 0))]) (hP : va_P D cls8 (wl 21 ad (GM cI cZ ad) hi hl) H) (hS : va_S A s.heap H locs) : W p l e (rmX 4 97) s m args below meth c H locs 0 0 (MQ below (va_Qv (fun (u : HI × HL) => Φ u.1 u.2) (fun u t => va_P D cls8 (wl 21 ad (GM cI cZ ad) u.1 u.2) t.heap) A) args s 0 0 A) (F0 m 0 ls []) := by
  unfold wbM_initz_0 at h
  refine lv_iconst (v := 0) K.1 K.2.1 dM_initz_0 (by decide) ?_
  refine lv_istore_n (lv' := [(1, .int (0 : Int32)), (0, .ref (ad 0))]) K.1 K.2.1 dM_initz_1 rfl hL (by decide) rfl (fun ls hL => ?_)
  obtain ⟨fu, h⟩ := h
  exact bM_initz_2 K hr hZ h (lv_sub hL [1, 0] rfl) hP hS
set_option maxRecDepth 100000 in
set_option maxHeartbeats 4000000 in
theorem mM_initz {l : Launch} {D : va_G} {cI cJ cC cZ cR : ClassId} {ad : Nat → Nat} {A : Nat → Prop} {Zs : State → Prop} (hZ : ZsOK A Zs) (hD : wlD 21 ad A) {hi : HI} {hl : HL} {Φ : HI → HL → Prop} (h : wpM_initz hi hl Φ) : SpV l yM_initz cM_initz 2 none gT 4 97 [.ref (ad 0)] D cls8 (tys5 cI cJ cC cZ cR) 21 ad (GM cI cZ ad) A Zs hi hl Φ := by
  refine Met.ofW (cc := cM_initz) (maxL := 2) (ret := none) (by decide) rfl ?_
  intro p e s m args below meth c s₁ B hml hv
  obtain ⟨rfl, hP, hK, hZs⟩ := hv
  have K : Cx p (rmX 4 97) s m _ meth c cM_initz 2 "WordCheckerModel" gT D cls8 (tys5 cI cJ cC cZ cR) 21 ad A Zs := ⟨B.exec, B.bytes, hml, findClass_of_methodNamed B.named, fun w hw => atoms_spec B.pre w (List.mem_cons_of_mem _ hw), B.notSynchronized, hK, hD, hZs⟩
  have hL := lv_entry ([.ref (ad 0)]) (n := 2) (Nat.le_of_ble_eq_true rfl)
  rw [lg_entry_eq]
  generalize (lg_sl ([.ref (ad 0)]) ++ List.replicate (2 - (lg_sl ([.ref (ad 0)])).length) Slot.unset).toArray = ls at hL ⊢
  have hL : lv_has ls 2 [(0, .ref (ad 0))] := hL
  unfold wpM_initz at h
  exact bM_initz_0 K B.returns hZ h (lv_sub hL [0] rfl) hP va_S.rf
set_option maxRecDepth 100000 in
set_option maxHeartbeats 4000000 in
theorem bM_chosen_24 {p : Program} {l : Launch} {e : Env} {s : State} {m : MethodId} {args : Array Value} {below : List Frame} {meth : Method} {c : Code} {D : va_G} {cI cJ cC cZ cR : ClassId} {ad : Nat → Nat} {A : Nat → Prop} {Zs : State → Prop} (K : Cx p (rmX 1 24) s m args meth c cM_chosen 2 "WordCheckerModel" gT D cls8 (tys5 cI cJ cC cZ cR) 21 ad A Zs) (hr : meth.sig.returnType = (some .boolean)) (hZ : ZsOK A Zs) {Φ : Int32 → HI → HL → Prop} {hi : HI} {hl : HL} {H : Heap} {locs : List Loc} (h : wbM_chosen_24 hi hl Φ) {ls : Array Slot} (hL : lv_has ls 2 []) (hP : va_P D cls8 (wl 21 ad (GM cI cZ ad) hi hl) H) (hS : va_S A s.heap H locs) : W p l e (rmX 1 24) s m args below meth c H locs 0 0 (MQ below (va_Qi (fun r (u : HI × HL) => Φ r u.1 u.2) (fun u t => va_P D cls8 (wl 21 ad (GM cI cZ ad) u.1 u.2) t.heap) A) args s 0 0 A) (F0 m 24 ls []) := by
  unfold wbM_chosen_24 at h
  refine lv_iconst (v := 0) K.1 K.2.1 dM_chosen_24 (by decide) ?_
  obtain ⟨g1, h⟩ := h
  exact x_zret K hr hP hS g1 h dM_chosen_25
set_option maxRecDepth 100000 in
set_option maxHeartbeats 4000000 in
theorem bM_chosen_0 {p : Program} {l : Launch} {e : Env} {s : State} {m : MethodId} {args : Array Value} {below : List Frame} {meth : Method} {c : Code} {D : va_G} {cI cJ cC cZ cR : ClassId} {ad : Nat → Nat} {A : Nat → Prop} {Zs : State → Prop} (K : Cx p (rmX 1 24) s m args meth c cM_chosen 2 "WordCheckerModel" gT D cls8 (tys5 cI cJ cC cZ cR) 21 ad A Zs) (hr : meth.sig.returnType = (some .boolean)) (hZ : ZsOK A Zs) {Φ : Int32 → HI → HL → Prop} {v1 : Int32} {hi : HI} {hl : HL} {H : Heap} {locs : List Loc} (h : wbM_chosen_0 v1 hi hl Φ) {ls : Array Slot} (hL : lv_has ls 2 [(0, .ref (ad 0)), (1, .int v1)]) (hP : va_P D cls8 (wl 21 ad (GM cI cZ ad) hi hl) H) (hS : va_S A s.heap H locs) : W p l e (rmX 1 24) s m args below meth c H locs 0 0 (MQ below (va_Qi (fun r (u : HI × HL) => Φ r u.1 u.2) (fun u t => va_P D cls8 (wl 21 ad (GM cI cZ ad) u.1 u.2) t.heap) A) args s 0 0 A) (F0 m 0 ls []) := by
  unfold wbM_chosen_0 at h
  refine lv_aload_n K.1 K.2.1 dM_chosen_0 rfl (lv_at hL 0 rfl) ?_
  refine x_get (v := .ref (ad 5)) K hP hinM (ci := 7) rfl 0 (by decide) rfl 8 (by decide) flM_22 rfl rfl dM_chosen_1 ?_
  refine lv_iload_n K.1 K.2.1 dM_chosen_4 rfl (lv_at hL 1 rfl) ?_
  obtain ⟨g1, h⟩ := h
  refine x_iald K hP 5 (by decide) 0 rfl rfl g1 dM_chosen_5 ?_
  refine lv_iconst (v := 2) K.1 K.2.1 dM_chosen_6 (by decide) ?_
  refine lv_icmp_ne (tgt := 24) K.1 K.2.1 dM_chosen_7 rfl (fun hc => ?_) (fun hc => ?_)
  · have h := h.2 hc
    exact bM_chosen_24 K hr hZ h (lv_sub hL [] rfl) hP hS
  · have h := h.1 hc
    refine lv_aload_n K.1 K.2.1 dM_chosen_10 rfl (lv_at hL 0 rfl) ?_
    refine lv_bipush (v := 27) K.1 K.2.1 dM_chosen_11 (by decide) ?_
    refine lv_iload_n K.1 K.2.1 dM_chosen_13 rfl (lv_at hL 1 rfl) ?_
    refine x_cVI (As := [.int (27 : Int32), .int v1]) (rest := []) K gT_good hZ hP hS calM_has mlM_211 0 (by decide) rfl rfl (mM_has hZ K.2.2.2.2.2.2.2.1 h) ⟨Nat.le_of_ble_eq_true rfl, Nat.le_of_ble_eq_true rfl⟩ rfl hL.1 rfl (Nat.le_of_ble_eq_true rfl) dM_chosen_14 (fun r2 hi3 hl4 H locs h hP hS => ?_)
    refine lv_if_ne (tgt := 24) K.1 K.2.1 dM_chosen_17 rfl (fun hc => ?_) (fun hc => ?_)
    · have h := h.2 hc
      exact bM_chosen_24 K hr hZ h (lv_sub hL [] rfl) hP hS
    · have h := h.1 hc
      refine lv_iconst (v := 1) K.1 K.2.1 dM_chosen_20 (by decide) ?_
      refine lv_goto (tgt := 25) K.1 K.2.1 dM_chosen_21 rfl ?_
      obtain ⟨g5, h⟩ := h
      exact x_zret K hr hP hS g5 h dM_chosen_25
set_option maxRecDepth 100000 in
set_option maxHeartbeats 4000000 in
theorem mM_chosen {l : Launch} {D : va_G} {cI cJ cC cZ cR : ClassId} {ad : Nat → Nat} {A : Nat → Prop} {Zs : State → Prop} (hZ : ZsOK A Zs) (hD : wlD 21 ad A) {v1 : Int32} {hi : HI} {hl : HL} {Φ : Int32 → HI → HL → Prop} (h : wpM_chosen v1 hi hl Φ) : SpI l yM_chosen cM_chosen 2 (some .boolean) gT 1 24 [.ref (ad 0), .int v1] D cls8 (tys5 cI cJ cC cZ cR) 21 ad (GM cI cZ ad) A Zs hi hl Φ := by
  refine Met.ofW (cc := cM_chosen) (maxL := 2) (ret := (some .boolean)) (by decide) rfl ?_
  intro p e s m args below meth c s₁ B hml hv
  obtain ⟨rfl, hP, hK, hZs⟩ := hv
  have K : Cx p (rmX 1 24) s m _ meth c cM_chosen 2 "WordCheckerModel" gT D cls8 (tys5 cI cJ cC cZ cR) 21 ad A Zs := ⟨B.exec, B.bytes, hml, findClass_of_methodNamed B.named, fun w hw => atoms_spec B.pre w (List.mem_cons_of_mem _ hw), B.notSynchronized, hK, hD, hZs⟩
  have hL := lv_entry ([.ref (ad 0), .int v1]) (n := 2) (Nat.le_of_ble_eq_true rfl)
  rw [lg_entry_eq]
  generalize (lg_sl ([.ref (ad 0), .int v1]) ++ List.replicate (2 - (lg_sl ([.ref (ad 0), .int v1])).length) Slot.unset).toArray = ls at hL ⊢
  have hL : lv_has ls 2 [(0, .ref (ad 0)), (1, .int v1)] := hL
  unfold wpM_chosen at h
  exact bM_chosen_0 K B.returns hZ h (lv_sub hL [0, 1] rfl) hP va_S.rf
set_option maxRecDepth 100000 in
set_option maxHeartbeats 4000000 in
theorem bM_holds_52 {p : Program} {l : Launch} {e : Env} {s : State} {m : MethodId} {args : Array Value} {below : List Frame} {meth : Method} {c : Code} {D : va_G} {cI cJ cC cZ cR : ClassId} {ad : Nat → Nat} {A : Nat → Prop} {Zs : State → Prop} (K : Cx p (rmX 1 22) s m args meth c cM_holds 3 "WordCheckerModel" gT D cls8 (tys5 cI cJ cC cZ cR) 21 ad A Zs) (hr : meth.sig.returnType = (some .boolean)) (hZ : ZsOK A Zs) {Φ : Int32 → HI → HL → Prop} {k4 : Int32 → Int32 → HI → HL → Prop} (hk4 : ∀ (v1 : Int32) (v2 : Int32) (hi : HI) (hl : HL) (ls : Array Slot) (H : Heap) (locs : List Loc), k4 v1 v2 hi hl → lv_has ls 3 [(0, .ref (ad 0)), (1, .int v1), (2, .int v2)] → va_P D cls8 (wl 21 ad (GM cI cZ ad) hi hl) H → va_S A s.heap H locs → W p l e (rmX 1 22) s m args below meth c H locs 0 0 (MQ below (va_Qi (fun r (u : HI × HL) => Φ r u.1 u.2) (fun u t => va_P D cls8 (wl 21 ad (GM cI cZ ad) u.1 u.2) t.heap) A) args s 0 0 A) (F0 m 4 ls [])) {v2 : Int32} {q0 : Int32} {hi : HI} {hl : HL} {H : Heap} {locs : List Loc} (h : wbM_holds_52 k4 v2 q0 hi hl Φ) {ls : Array Slot} (hL : lv_has ls 3 [(0, .ref (ad 0)), (2, .int v2)]) (hP : va_P D cls8 (wl 21 ad (GM cI cZ ad) hi hl) H) (hS : va_S A s.heap H locs) : W p l e (rmX 1 22) s m args below meth c H locs 0 0 (MQ below (va_Qi (fun r (u : HI × HL) => Φ r u.1 u.2) (fun u t => va_P D cls8 (wl 21 ad (GM cI cZ ad) u.1 u.2) t.heap) A) args s 0 0 A) (F0 m 52 ls [.int q0]) := by
  unfold wbM_holds_52 at h
  refine lv_istore_n (lv' := [(1, .int q0), (0, .ref (ad 0)), (2, .int v2)]) K.1 K.2.1 dM_holds_52 rfl hL (by decide) rfl (fun ls hL => ?_)
  refine lv_iinc (k := 2) (lv' := [(2, .int (v2 + Int32.ofInt (1))), (1, .int q0), (0, .ref (ad 0))]) K.1 K.2.1 dM_holds_53 hL rfl rfl (by decide) rfl (fun ls hL => ?_)
  refine lv_goto (tgt := 4) K.1 K.2.1 dM_holds_56 rfl ?_
  exact hk4 _ _ _ _ _ _ _ h (lv_sub hL [2, 1, 0] rfl) hP hS
set_option maxRecDepth 100000 in
set_option maxHeartbeats 4000000 in
theorem bM_holds_51 {p : Program} {l : Launch} {e : Env} {s : State} {m : MethodId} {args : Array Value} {below : List Frame} {meth : Method} {c : Code} {D : va_G} {cI cJ cC cZ cR : ClassId} {ad : Nat → Nat} {A : Nat → Prop} {Zs : State → Prop} (K : Cx p (rmX 1 22) s m args meth c cM_holds 3 "WordCheckerModel" gT D cls8 (tys5 cI cJ cC cZ cR) 21 ad A Zs) (hr : meth.sig.returnType = (some .boolean)) (hZ : ZsOK A Zs) {Φ : Int32 → HI → HL → Prop} {k4 : Int32 → Int32 → HI → HL → Prop} (hk4 : ∀ (v1 : Int32) (v2 : Int32) (hi : HI) (hl : HL) (ls : Array Slot) (H : Heap) (locs : List Loc), k4 v1 v2 hi hl → lv_has ls 3 [(0, .ref (ad 0)), (1, .int v1), (2, .int v2)] → va_P D cls8 (wl 21 ad (GM cI cZ ad) hi hl) H → va_S A s.heap H locs → W p l e (rmX 1 22) s m args below meth c H locs 0 0 (MQ below (va_Qi (fun r (u : HI × HL) => Φ r u.1 u.2) (fun u t => va_P D cls8 (wl 21 ad (GM cI cZ ad) u.1 u.2) t.heap) A) args s 0 0 A) (F0 m 4 ls [])) {v2 : Int32} {hi : HI} {hl : HL} {H : Heap} {locs : List Loc} (h : wbM_holds_51 k4 v2 hi hl Φ) {ls : Array Slot} (hL : lv_has ls 3 [(0, .ref (ad 0)), (2, .int v2)]) (hP : va_P D cls8 (wl 21 ad (GM cI cZ ad) hi hl) H) (hS : va_S A s.heap H locs) : W p l e (rmX 1 22) s m args below meth c H locs 0 0 (MQ below (va_Qi (fun r (u : HI × HL) => Φ r u.1 u.2) (fun u t => va_P D cls8 (wl 21 ad (GM cI cZ ad) u.1 u.2) t.heap) A) args s 0 0 A) (F0 m 51 ls []) := by
  unfold wbM_holds_51 at h
  refine lv_iconst (v := 0) K.1 K.2.1 dM_holds_51 (by decide) ?_
  exact bM_holds_52 K hr hZ hk4 h (lv_sub hL [0, 1] rfl) hP hS
set_option maxRecDepth 100000 in
set_option maxHeartbeats 4000000 in
theorem bM_holds_47 {p : Program} {l : Launch} {e : Env} {s : State} {m : MethodId} {args : Array Value} {below : List Frame} {meth : Method} {c : Code} {D : va_G} {cI cJ cC cZ cR : ClassId} {ad : Nat → Nat} {A : Nat → Prop} {Zs : State → Prop} (K : Cx p (rmX 1 22) s m args meth c cM_holds 3 "WordCheckerModel" gT D cls8 (tys5 cI cJ cC cZ cR) 21 ad A Zs) (hr : meth.sig.returnType = (some .boolean)) (hZ : ZsOK A Zs) {Φ : Int32 → HI → HL → Prop} {k4 : Int32 → Int32 → HI → HL → Prop} (hk4 : ∀ (v1 : Int32) (v2 : Int32) (hi : HI) (hl : HL) (ls : Array Slot) (H : Heap) (locs : List Loc), k4 v1 v2 hi hl → lv_has ls 3 [(0, .ref (ad 0)), (1, .int v1), (2, .int v2)] → va_P D cls8 (wl 21 ad (GM cI cZ ad) hi hl) H → va_S A s.heap H locs → W p l e (rmX 1 22) s m args below meth c H locs 0 0 (MQ below (va_Qi (fun r (u : HI × HL) => Φ r u.1 u.2) (fun u t => va_P D cls8 (wl 21 ad (GM cI cZ ad) u.1 u.2) t.heap) A) args s 0 0 A) (F0 m 4 ls [])) {v2 : Int32} {hi : HI} {hl : HL} {H : Heap} {locs : List Loc} (h : wbM_holds_47 k4 v2 hi hl Φ) {ls : Array Slot} (hL : lv_has ls 3 [(0, .ref (ad 0)), (2, .int v2)]) (hP : va_P D cls8 (wl 21 ad (GM cI cZ ad) hi hl) H) (hS : va_S A s.heap H locs) : W p l e (rmX 1 22) s m args below meth c H locs 0 0 (MQ below (va_Qi (fun r (u : HI × HL) => Φ r u.1 u.2) (fun u t => va_P D cls8 (wl 21 ad (GM cI cZ ad) u.1 u.2) t.heap) A) args s 0 0 A) (F0 m 47 ls []) := by
  unfold wbM_holds_47 at h
  refine lv_iconst (v := 1) K.1 K.2.1 dM_holds_47 (by decide) ?_
  refine lv_goto (tgt := 52) K.1 K.2.1 dM_holds_48 rfl ?_
  exact bM_holds_52 K hr hZ hk4 h (lv_sub hL [0, 1] rfl) hP hS
set_option maxRecDepth 100000 in
set_option maxHeartbeats 4000000 in
theorem bM_holds_4 {p : Program} {l : Launch} {e : Env} {s : State} {m : MethodId} {args : Array Value} {below : List Frame} {meth : Method} {c : Code} {D : va_G} {cI cJ cC cZ cR : ClassId} {ad : Nat → Nat} {A : Nat → Prop} {Zs : State → Prop} (K : Cx p (rmX 1 22) s m args meth c cM_holds 3 "WordCheckerModel" gT D cls8 (tys5 cI cJ cC cZ cR) 21 ad A Zs) (hr : meth.sig.returnType = (some .boolean)) (hZ : ZsOK A Zs) {Φ : Int32 → HI → HL → Prop} {n : Nat} {v1 : Int32} {v2 : Int32} {hi : HI} {hl : HL} {H : Heap} {locs : List Loc} (h : wbM_holds_4 n v1 v2 hi hl Φ) {ls : Array Slot} (hL : lv_has ls 3 [(0, .ref (ad 0)), (1, .int v1), (2, .int v2)]) (hP : va_P D cls8 (wl 21 ad (GM cI cZ ad) hi hl) H) (hS : va_S A s.heap H locs) : W p l e (rmX 1 22) s m args below meth c H locs 0 0 (MQ below (va_Qi (fun r (u : HI × HL) => Φ r u.1 u.2) (fun u t => va_P D cls8 (wl 21 ad (GM cI cZ ad) u.1 u.2) t.heap) A) args s 0 0 A) (F0 m 4 ls []) := by
  induction n generalizing v1 v2 hi hl ls H locs with
  | zero => exact False.elim h
  | succ n ih =>
    unfold wbM_holds_4 at h
    refine lv_iload_n K.1 K.2.1 dM_holds_4 rfl (lv_at hL 2 rfl) ?_
    refine lv_aload_n K.1 K.2.1 dM_holds_5 rfl (lv_at hL 0 rfl) ?_
    refine x_get (v := .int (hi 0 6)) K hP hinM (ci := 7) rfl 0 (by decide) rfl 6 (by decide) flM_155 rfl rfl dM_holds_6 ?_
    refine lv_icmp_ge (tgt := 59) K.1 K.2.1 dM_holds_9 rfl (fun hc => ?_) (fun hc => ?_)
    · have h := h.1 hc
      refine lv_iload_n K.1 K.2.1 dM_holds_59 rfl (lv_at hL 1 rfl) ?_
      obtain ⟨g1, h⟩ := h
      exact x_zret K hr hP hS g1 h dM_holds_60
    · have h := h.2 hc
      refine lv_iload_n K.1 K.2.1 dM_holds_12 rfl (lv_at hL 1 rfl) ?_
      refine lv_if_eq (tgt := 51) K.1 K.2.1 dM_holds_13 rfl (fun hc => ?_) (fun hc => ?_)
      · have h := h.1 hc
        exact bM_holds_51 K hr hZ (fun v1 v2 hi hl ls H locs h hL hP hS => ih h hL hP hS) h (lv_sub hL [0, 2] rfl) hP hS
      · have h := h.2 hc
        refine lv_aload_n K.1 K.2.1 dM_holds_16 rfl (lv_at hL 0 rfl) ?_
        refine x_get (v := .ref (ad 5)) K hP hinM (ci := 7) rfl 0 (by decide) rfl 8 (by decide) flM_22 rfl rfl dM_holds_17 ?_
        refine lv_iload_n K.1 K.2.1 dM_holds_20 rfl (lv_at hL 2 rfl) ?_
        obtain ⟨g2, h⟩ := h
        refine x_iald K hP 5 (by decide) 0 rfl rfl g2 dM_holds_21 ?_
        refine lv_bipush (v := 30) K.1 K.2.1 dM_holds_22 (by decide) ?_
        refine lv_icmp_ne (tgt := 47) K.1 K.2.1 dM_holds_24 rfl (fun hc => ?_) (fun hc => ?_)
        · have h := h.2 hc
          exact bM_holds_47 K hr hZ (fun v1 v2 hi hl ls H locs h hL hP hS => ih h hL hP hS) h (lv_sub hL [0, 2] rfl) hP hS
        · have h := h.1 hc
          refine lv_aload_n K.1 K.2.1 dM_holds_27 rfl (lv_at hL 0 rfl) ?_
          refine lv_aload_n K.1 K.2.1 dM_holds_28 rfl (lv_at hL 0 rfl) ?_
          refine x_get (v := .ref (ad 7)) K hP hinM (ci := 7) rfl 0 (by decide) rfl 10 (by decide) flM_28 rfl rfl dM_holds_29 ?_
          refine lv_iload_n K.1 K.2.1 dM_holds_32 rfl (lv_at hL 2 rfl) ?_
          obtain ⟨g3, h⟩ := h
          refine x_iald K hP 7 (by decide) 0 rfl rfl g3 dM_holds_33 ?_
          refine lv_aload_n K.1 K.2.1 dM_holds_34 rfl (lv_at hL 0 rfl) ?_
          refine x_get (v := .ref (ad 10)) K hP hinM (ci := 7) rfl 0 (by decide) rfl 13 (by decide) flM_37 rfl rfl dM_holds_35 ?_
          refine lv_iload_n K.1 K.2.1 dM_holds_38 rfl (lv_at hL 2 rfl) ?_
          obtain ⟨g4, h⟩ := h
          refine x_zald K hP 10 (by decide) 3 rfl rfl g4 dM_holds_39 ?_
          refine x_cVI (As := [.int (hi 7 (v2.toNatClampNeg)), .int (hi 10 (v2.toNatClampNeg))]) (rest := []) K gT_good hZ hP hS calM_get mlM_274 0 (by decide) rfl rfl (mM_get hZ K.2.2.2.2.2.2.2.1 h) ⟨Nat.le_of_ble_eq_true rfl, Nat.le_of_ble_eq_true rfl⟩ rfl hL.1 rfl (Nat.le_of_ble_eq_true rfl) dM_holds_40 (fun r5 hi6 hl7 H locs h hP hS => ?_)
          refine lv_iconst (v := 1) K.1 K.2.1 dM_holds_43 (by decide) ?_
          refine lv_icmp_ne (tgt := 51) K.1 K.2.1 dM_holds_44 rfl (fun hc => ?_) (fun hc => ?_)
          · have h := h.2 hc
            exact bM_holds_51 K hr hZ (fun v1 v2 hi hl ls H locs h hL hP hS => ih h hL hP hS) h (lv_sub hL [0, 2] rfl) hP hS
          · have h := h.1 hc
            exact bM_holds_47 K hr hZ (fun v1 v2 hi hl ls H locs h hL hP hS => ih h hL hP hS) h (lv_sub hL [0, 2] rfl) hP hS
set_option maxRecDepth 100000 in
set_option maxHeartbeats 4000000 in
theorem bM_holds_0 {p : Program} {l : Launch} {e : Env} {s : State} {m : MethodId} {args : Array Value} {below : List Frame} {meth : Method} {c : Code} {D : va_G} {cI cJ cC cZ cR : ClassId} {ad : Nat → Nat} {A : Nat → Prop} {Zs : State → Prop} (K : Cx p (rmX 1 22) s m args meth c cM_holds 3 "WordCheckerModel" gT D cls8 (tys5 cI cJ cC cZ cR) 21 ad A Zs) (hr : meth.sig.returnType = (some .boolean)) (hZ : ZsOK A Zs) {Φ : Int32 → HI → HL → Prop} {hi : HI} {hl : HL} {H : Heap} {locs : List Loc} (h : wbM_holds_0 hi hl Φ) {ls : Array Slot} (hL : lv_has ls 3 [(0, .ref (ad 0))]) (hP : va_P D cls8 (wl 21 ad (GM cI cZ ad) hi hl) H) (hS : va_S A s.heap H locs) : W p l e (rmX 1 22) s m args below meth c H locs 0 0 (MQ below (va_Qi (fun r (u : HI × HL) => Φ r u.1 u.2) (fun u t => va_P D cls8 (wl 21 ad (GM cI cZ ad) u.1 u.2) t.heap) A) args s 0 0 A) (F0 m 0 ls []) := by
  unfold wbM_holds_0 at h
  refine lv_iconst (v := 1) K.1 K.2.1 dM_holds_0 (by decide) ?_
  refine lv_istore_n (lv' := [(1, .int (1 : Int32)), (0, .ref (ad 0))]) K.1 K.2.1 dM_holds_1 rfl hL (by decide) rfl (fun ls hL => ?_)
  refine lv_iconst (v := 0) K.1 K.2.1 dM_holds_2 (by decide) ?_
  refine lv_istore_n (lv' := [(2, .int (0 : Int32)), (1, .int (1 : Int32)), (0, .ref (ad 0))]) K.1 K.2.1 dM_holds_3 rfl hL (by decide) rfl (fun ls hL => ?_)
  obtain ⟨fu, h⟩ := h
  exact bM_holds_4 K hr hZ h (lv_sub hL [2, 1, 0] rfl) hP hS
set_option maxRecDepth 100000 in
set_option maxHeartbeats 4000000 in
theorem mM_holds {l : Launch} {D : va_G} {cI cJ cC cZ cR : ClassId} {ad : Nat → Nat} {A : Nat → Prop} {Zs : State → Prop} (hZ : ZsOK A Zs) (hD : wlD 21 ad A) {hi : HI} {hl : HL} {Φ : Int32 → HI → HL → Prop} (h : wpM_holds hi hl Φ) : SpI l yM_holds cM_holds 3 (some .boolean) gT 1 22 [.ref (ad 0)] D cls8 (tys5 cI cJ cC cZ cR) 21 ad (GM cI cZ ad) A Zs hi hl Φ := by
  refine Met.ofW (cc := cM_holds) (maxL := 3) (ret := (some .boolean)) (by decide) rfl ?_
  intro p e s m args below meth c s₁ B hml hv
  obtain ⟨rfl, hP, hK, hZs⟩ := hv
  have K : Cx p (rmX 1 22) s m _ meth c cM_holds 3 "WordCheckerModel" gT D cls8 (tys5 cI cJ cC cZ cR) 21 ad A Zs := ⟨B.exec, B.bytes, hml, findClass_of_methodNamed B.named, fun w hw => atoms_spec B.pre w (List.mem_cons_of_mem _ hw), B.notSynchronized, hK, hD, hZs⟩
  have hL := lv_entry ([.ref (ad 0)]) (n := 3) (Nat.le_of_ble_eq_true rfl)
  rw [lg_entry_eq]
  generalize (lg_sl ([.ref (ad 0)]) ++ List.replicate (3 - (lg_sl ([.ref (ad 0)])).length) Slot.unset).toArray = ls at hL ⊢
  have hL : lv_has ls 3 [(0, .ref (ad 0))] := hL
  unfold wpM_holds at h
  exact bM_holds_0 K B.returns hZ h (lv_sub hL [0] rfl) hP va_S.rf
set_option maxRecDepth 100000 in
set_option maxHeartbeats 4000000 in
theorem bM_isBad_52 {p : Program} {l : Launch} {e : Env} {s : State} {m : MethodId} {args : Array Value} {below : List Frame} {meth : Method} {c : Code} {D : va_G} {cI cJ cC cZ cR : ClassId} {ad : Nat → Nat} {A : Nat → Prop} {Zs : State → Prop} (K : Cx p (rmX 1 22) s m args meth c cM_isBad 3 "WordCheckerModel" gT D cls8 (tys5 cI cJ cC cZ cR) 21 ad A Zs) (hr : meth.sig.returnType = (some .boolean)) (hZ : ZsOK A Zs) {Φ : Int32 → HI → HL → Prop} {k4 : Int32 → Int32 → HI → HL → Prop} (hk4 : ∀ (v1 : Int32) (v2 : Int32) (hi : HI) (hl : HL) (ls : Array Slot) (H : Heap) (locs : List Loc), k4 v1 v2 hi hl → lv_has ls 3 [(0, .ref (ad 0)), (1, .int v1), (2, .int v2)] → va_P D cls8 (wl 21 ad (GM cI cZ ad) hi hl) H → va_S A s.heap H locs → W p l e (rmX 1 22) s m args below meth c H locs 0 0 (MQ below (va_Qi (fun r (u : HI × HL) => Φ r u.1 u.2) (fun u t => va_P D cls8 (wl 21 ad (GM cI cZ ad) u.1 u.2) t.heap) A) args s 0 0 A) (F0 m 4 ls [])) {v2 : Int32} {q0 : Int32} {hi : HI} {hl : HL} {H : Heap} {locs : List Loc} (h : wbM_isBad_52 k4 v2 q0 hi hl Φ) {ls : Array Slot} (hL : lv_has ls 3 [(0, .ref (ad 0)), (2, .int v2)]) (hP : va_P D cls8 (wl 21 ad (GM cI cZ ad) hi hl) H) (hS : va_S A s.heap H locs) : W p l e (rmX 1 22) s m args below meth c H locs 0 0 (MQ below (va_Qi (fun r (u : HI × HL) => Φ r u.1 u.2) (fun u t => va_P D cls8 (wl 21 ad (GM cI cZ ad) u.1 u.2) t.heap) A) args s 0 0 A) (F0 m 52 ls [.int q0]) := by
  unfold wbM_isBad_52 at h
  refine lv_istore_n (lv' := [(1, .int q0), (0, .ref (ad 0)), (2, .int v2)]) K.1 K.2.1 dM_isBad_52 rfl hL (by decide) rfl (fun ls hL => ?_)
  refine lv_iinc (k := 2) (lv' := [(2, .int (v2 + Int32.ofInt (1))), (1, .int q0), (0, .ref (ad 0))]) K.1 K.2.1 dM_isBad_53 hL rfl rfl (by decide) rfl (fun ls hL => ?_)
  refine lv_goto (tgt := 4) K.1 K.2.1 dM_isBad_56 rfl ?_
  exact hk4 _ _ _ _ _ _ _ h (lv_sub hL [2, 1, 0] rfl) hP hS
set_option maxRecDepth 100000 in
set_option maxHeartbeats 4000000 in
theorem bM_isBad_47 {p : Program} {l : Launch} {e : Env} {s : State} {m : MethodId} {args : Array Value} {below : List Frame} {meth : Method} {c : Code} {D : va_G} {cI cJ cC cZ cR : ClassId} {ad : Nat → Nat} {A : Nat → Prop} {Zs : State → Prop} (K : Cx p (rmX 1 22) s m args meth c cM_isBad 3 "WordCheckerModel" gT D cls8 (tys5 cI cJ cC cZ cR) 21 ad A Zs) (hr : meth.sig.returnType = (some .boolean)) (hZ : ZsOK A Zs) {Φ : Int32 → HI → HL → Prop} {k4 : Int32 → Int32 → HI → HL → Prop} (hk4 : ∀ (v1 : Int32) (v2 : Int32) (hi : HI) (hl : HL) (ls : Array Slot) (H : Heap) (locs : List Loc), k4 v1 v2 hi hl → lv_has ls 3 [(0, .ref (ad 0)), (1, .int v1), (2, .int v2)] → va_P D cls8 (wl 21 ad (GM cI cZ ad) hi hl) H → va_S A s.heap H locs → W p l e (rmX 1 22) s m args below meth c H locs 0 0 (MQ below (va_Qi (fun r (u : HI × HL) => Φ r u.1 u.2) (fun u t => va_P D cls8 (wl 21 ad (GM cI cZ ad) u.1 u.2) t.heap) A) args s 0 0 A) (F0 m 4 ls [])) {v2 : Int32} {hi : HI} {hl : HL} {H : Heap} {locs : List Loc} (h : wbM_isBad_47 k4 v2 hi hl Φ) {ls : Array Slot} (hL : lv_has ls 3 [(0, .ref (ad 0)), (2, .int v2)]) (hP : va_P D cls8 (wl 21 ad (GM cI cZ ad) hi hl) H) (hS : va_S A s.heap H locs) : W p l e (rmX 1 22) s m args below meth c H locs 0 0 (MQ below (va_Qi (fun r (u : HI × HL) => Φ r u.1 u.2) (fun u t => va_P D cls8 (wl 21 ad (GM cI cZ ad) u.1 u.2) t.heap) A) args s 0 0 A) (F0 m 47 ls []) := by
  unfold wbM_isBad_47 at h
  refine lv_iconst (v := 1) K.1 K.2.1 dM_isBad_47 (by decide) ?_
  refine lv_goto (tgt := 52) K.1 K.2.1 dM_isBad_48 rfl ?_
  exact bM_isBad_52 K hr hZ hk4 h (lv_sub hL [0, 1] rfl) hP hS
set_option maxRecDepth 100000 in
set_option maxHeartbeats 4000000 in
theorem bM_isBad_51 {p : Program} {l : Launch} {e : Env} {s : State} {m : MethodId} {args : Array Value} {below : List Frame} {meth : Method} {c : Code} {D : va_G} {cI cJ cC cZ cR : ClassId} {ad : Nat → Nat} {A : Nat → Prop} {Zs : State → Prop} (K : Cx p (rmX 1 22) s m args meth c cM_isBad 3 "WordCheckerModel" gT D cls8 (tys5 cI cJ cC cZ cR) 21 ad A Zs) (hr : meth.sig.returnType = (some .boolean)) (hZ : ZsOK A Zs) {Φ : Int32 → HI → HL → Prop} {k4 : Int32 → Int32 → HI → HL → Prop} (hk4 : ∀ (v1 : Int32) (v2 : Int32) (hi : HI) (hl : HL) (ls : Array Slot) (H : Heap) (locs : List Loc), k4 v1 v2 hi hl → lv_has ls 3 [(0, .ref (ad 0)), (1, .int v1), (2, .int v2)] → va_P D cls8 (wl 21 ad (GM cI cZ ad) hi hl) H → va_S A s.heap H locs → W p l e (rmX 1 22) s m args below meth c H locs 0 0 (MQ below (va_Qi (fun r (u : HI × HL) => Φ r u.1 u.2) (fun u t => va_P D cls8 (wl 21 ad (GM cI cZ ad) u.1 u.2) t.heap) A) args s 0 0 A) (F0 m 4 ls [])) {v2 : Int32} {hi : HI} {hl : HL} {H : Heap} {locs : List Loc} (h : wbM_isBad_51 k4 v2 hi hl Φ) {ls : Array Slot} (hL : lv_has ls 3 [(0, .ref (ad 0)), (2, .int v2)]) (hP : va_P D cls8 (wl 21 ad (GM cI cZ ad) hi hl) H) (hS : va_S A s.heap H locs) : W p l e (rmX 1 22) s m args below meth c H locs 0 0 (MQ below (va_Qi (fun r (u : HI × HL) => Φ r u.1 u.2) (fun u t => va_P D cls8 (wl 21 ad (GM cI cZ ad) u.1 u.2) t.heap) A) args s 0 0 A) (F0 m 51 ls []) := by
  unfold wbM_isBad_51 at h
  refine lv_iconst (v := 0) K.1 K.2.1 dM_isBad_51 (by decide) ?_
  exact bM_isBad_52 K hr hZ hk4 h (lv_sub hL [0, 1] rfl) hP hS
set_option maxRecDepth 100000 in
set_option maxHeartbeats 4000000 in
theorem bM_isBad_4 {p : Program} {l : Launch} {e : Env} {s : State} {m : MethodId} {args : Array Value} {below : List Frame} {meth : Method} {c : Code} {D : va_G} {cI cJ cC cZ cR : ClassId} {ad : Nat → Nat} {A : Nat → Prop} {Zs : State → Prop} (K : Cx p (rmX 1 22) s m args meth c cM_isBad 3 "WordCheckerModel" gT D cls8 (tys5 cI cJ cC cZ cR) 21 ad A Zs) (hr : meth.sig.returnType = (some .boolean)) (hZ : ZsOK A Zs) {Φ : Int32 → HI → HL → Prop} {n : Nat} {v1 : Int32} {v2 : Int32} {hi : HI} {hl : HL} {H : Heap} {locs : List Loc} (h : wbM_isBad_4 n v1 v2 hi hl Φ) {ls : Array Slot} (hL : lv_has ls 3 [(0, .ref (ad 0)), (1, .int v1), (2, .int v2)]) (hP : va_P D cls8 (wl 21 ad (GM cI cZ ad) hi hl) H) (hS : va_S A s.heap H locs) : W p l e (rmX 1 22) s m args below meth c H locs 0 0 (MQ below (va_Qi (fun r (u : HI × HL) => Φ r u.1 u.2) (fun u t => va_P D cls8 (wl 21 ad (GM cI cZ ad) u.1 u.2) t.heap) A) args s 0 0 A) (F0 m 4 ls []) := by
  induction n generalizing v1 v2 hi hl ls H locs with
  | zero => exact False.elim h
  | succ n ih =>
    unfold wbM_isBad_4 at h
    refine lv_iload_n K.1 K.2.1 dM_isBad_4 rfl (lv_at hL 2 rfl) ?_
    refine lv_aload_n K.1 K.2.1 dM_isBad_5 rfl (lv_at hL 0 rfl) ?_
    refine x_get (v := .int (hi 0 6)) K hP hinM (ci := 7) rfl 0 (by decide) rfl 6 (by decide) flM_155 rfl rfl dM_isBad_6 ?_
    refine lv_icmp_ge (tgt := 59) K.1 K.2.1 dM_isBad_9 rfl (fun hc => ?_) (fun hc => ?_)
    · have h := h.1 hc
      refine lv_iload_n K.1 K.2.1 dM_isBad_59 rfl (lv_at hL 1 rfl) ?_
      obtain ⟨g1, h⟩ := h
      exact x_zret K hr hP hS g1 h dM_isBad_60
    · have h := h.2 hc
      refine lv_iload_n K.1 K.2.1 dM_isBad_12 rfl (lv_at hL 1 rfl) ?_
      refine lv_if_ne (tgt := 47) K.1 K.2.1 dM_isBad_13 rfl (fun hc => ?_) (fun hc => ?_)
      · have h := h.2 hc
        exact bM_isBad_47 K hr hZ (fun v1 v2 hi hl ls H locs h hL hP hS => ih h hL hP hS) h (lv_sub hL [0, 2] rfl) hP hS
      · have h := h.1 hc
        refine lv_aload_n K.1 K.2.1 dM_isBad_16 rfl (lv_at hL 0 rfl) ?_
        refine x_get (v := .ref (ad 5)) K hP hinM (ci := 7) rfl 0 (by decide) rfl 8 (by decide) flM_22 rfl rfl dM_isBad_17 ?_
        refine lv_iload_n K.1 K.2.1 dM_isBad_20 rfl (lv_at hL 2 rfl) ?_
        obtain ⟨g2, h⟩ := h
        refine x_iald K hP 5 (by decide) 0 rfl rfl g2 dM_isBad_21 ?_
        refine lv_bipush (v := 29) K.1 K.2.1 dM_isBad_22 (by decide) ?_
        refine lv_icmp_ne (tgt := 51) K.1 K.2.1 dM_isBad_24 rfl (fun hc => ?_) (fun hc => ?_)
        · have h := h.2 hc
          exact bM_isBad_51 K hr hZ (fun v1 v2 hi hl ls H locs h hL hP hS => ih h hL hP hS) h (lv_sub hL [0, 2] rfl) hP hS
        · have h := h.1 hc
          refine lv_aload_n K.1 K.2.1 dM_isBad_27 rfl (lv_at hL 0 rfl) ?_
          refine lv_aload_n K.1 K.2.1 dM_isBad_28 rfl (lv_at hL 0 rfl) ?_
          refine x_get (v := .ref (ad 7)) K hP hinM (ci := 7) rfl 0 (by decide) rfl 10 (by decide) flM_28 rfl rfl dM_isBad_29 ?_
          refine lv_iload_n K.1 K.2.1 dM_isBad_32 rfl (lv_at hL 2 rfl) ?_
          obtain ⟨g3, h⟩ := h
          refine x_iald K hP 7 (by decide) 0 rfl rfl g3 dM_isBad_33 ?_
          refine lv_aload_n K.1 K.2.1 dM_isBad_34 rfl (lv_at hL 0 rfl) ?_
          refine x_get (v := .ref (ad 10)) K hP hinM (ci := 7) rfl 0 (by decide) rfl 13 (by decide) flM_37 rfl rfl dM_isBad_35 ?_
          refine lv_iload_n K.1 K.2.1 dM_isBad_38 rfl (lv_at hL 2 rfl) ?_
          obtain ⟨g4, h⟩ := h
          refine x_zald K hP 10 (by decide) 3 rfl rfl g4 dM_isBad_39 ?_
          refine x_cVI (As := [.int (hi 7 (v2.toNatClampNeg)), .int (hi 10 (v2.toNatClampNeg))]) (rest := []) K gT_good hZ hP hS calM_get mlM_274 0 (by decide) rfl rfl (mM_get hZ K.2.2.2.2.2.2.2.1 h) ⟨Nat.le_of_ble_eq_true rfl, Nat.le_of_ble_eq_true rfl⟩ rfl hL.1 rfl (Nat.le_of_ble_eq_true rfl) dM_isBad_40 (fun r5 hi6 hl7 H locs h hP hS => ?_)
          refine lv_iconst (v := 1) K.1 K.2.1 dM_isBad_43 (by decide) ?_
          refine lv_icmp_ne (tgt := 51) K.1 K.2.1 dM_isBad_44 rfl (fun hc => ?_) (fun hc => ?_)
          · have h := h.2 hc
            exact bM_isBad_51 K hr hZ (fun v1 v2 hi hl ls H locs h hL hP hS => ih h hL hP hS) h (lv_sub hL [0, 2] rfl) hP hS
          · have h := h.1 hc
            exact bM_isBad_47 K hr hZ (fun v1 v2 hi hl ls H locs h hL hP hS => ih h hL hP hS) h (lv_sub hL [0, 2] rfl) hP hS
set_option maxRecDepth 100000 in
set_option maxHeartbeats 4000000 in
theorem bM_isBad_0 {p : Program} {l : Launch} {e : Env} {s : State} {m : MethodId} {args : Array Value} {below : List Frame} {meth : Method} {c : Code} {D : va_G} {cI cJ cC cZ cR : ClassId} {ad : Nat → Nat} {A : Nat → Prop} {Zs : State → Prop} (K : Cx p (rmX 1 22) s m args meth c cM_isBad 3 "WordCheckerModel" gT D cls8 (tys5 cI cJ cC cZ cR) 21 ad A Zs) (hr : meth.sig.returnType = (some .boolean)) (hZ : ZsOK A Zs) {Φ : Int32 → HI → HL → Prop} {hi : HI} {hl : HL} {H : Heap} {locs : List Loc} (h : wbM_isBad_0 hi hl Φ) {ls : Array Slot} (hL : lv_has ls 3 [(0, .ref (ad 0))]) (hP : va_P D cls8 (wl 21 ad (GM cI cZ ad) hi hl) H) (hS : va_S A s.heap H locs) : W p l e (rmX 1 22) s m args below meth c H locs 0 0 (MQ below (va_Qi (fun r (u : HI × HL) => Φ r u.1 u.2) (fun u t => va_P D cls8 (wl 21 ad (GM cI cZ ad) u.1 u.2) t.heap) A) args s 0 0 A) (F0 m 0 ls []) := by
  unfold wbM_isBad_0 at h
  refine lv_iconst (v := 0) K.1 K.2.1 dM_isBad_0 (by decide) ?_
  refine lv_istore_n (lv' := [(1, .int (0 : Int32)), (0, .ref (ad 0))]) K.1 K.2.1 dM_isBad_1 rfl hL (by decide) rfl (fun ls hL => ?_)
  refine lv_iconst (v := 0) K.1 K.2.1 dM_isBad_2 (by decide) ?_
  refine lv_istore_n (lv' := [(2, .int (0 : Int32)), (1, .int (0 : Int32)), (0, .ref (ad 0))]) K.1 K.2.1 dM_isBad_3 rfl hL (by decide) rfl (fun ls hL => ?_)
  obtain ⟨fu, h⟩ := h
  exact bM_isBad_4 K hr hZ h (lv_sub hL [2, 1, 0] rfl) hP hS
set_option maxRecDepth 100000 in
set_option maxHeartbeats 4000000 in
theorem mM_isBad {l : Launch} {D : va_G} {cI cJ cC cZ cR : ClassId} {ad : Nat → Nat} {A : Nat → Prop} {Zs : State → Prop} (hZ : ZsOK A Zs) (hD : wlD 21 ad A) {hi : HI} {hl : HL} {Φ : Int32 → HI → HL → Prop} (h : wpM_isBad hi hl Φ) : SpI l yM_isBad cM_isBad 3 (some .boolean) gT 1 22 [.ref (ad 0)] D cls8 (tys5 cI cJ cC cZ cR) 21 ad (GM cI cZ ad) A Zs hi hl Φ := by
  refine Met.ofW (cc := cM_isBad) (maxL := 3) (ret := (some .boolean)) (by decide) rfl ?_
  intro p e s m args below meth c s₁ B hml hv
  obtain ⟨rfl, hP, hK, hZs⟩ := hv
  have K : Cx p (rmX 1 22) s m _ meth c cM_isBad 3 "WordCheckerModel" gT D cls8 (tys5 cI cJ cC cZ cR) 21 ad A Zs := ⟨B.exec, B.bytes, hml, findClass_of_methodNamed B.named, fun w hw => atoms_spec B.pre w (List.mem_cons_of_mem _ hw), B.notSynchronized, hK, hD, hZs⟩
  have hL := lv_entry ([.ref (ad 0)]) (n := 3) (Nat.le_of_ble_eq_true rfl)
  rw [lg_entry_eq]
  generalize (lg_sl ([.ref (ad 0)]) ++ List.replicate (3 - (lg_sl ([.ref (ad 0)])).length) Slot.unset).toArray = ls at hL ⊢
  have hL : lv_has ls 3 [(0, .ref (ad 0))] := hL
  unfold wpM_isBad at h
  exact bM_isBad_0 K B.returns hZ h (lv_sub hL [0] rfl) hP va_S.rf
set_option maxRecDepth 100000 in
set_option maxHeartbeats 4000000 in
theorem bM_deal_83 {p : Program} {l : Launch} {e : Env} {s : State} {m : MethodId} {args : Array Value} {below : List Frame} {meth : Method} {c : Code} {D : va_G} {cI cJ cC cZ cR : ClassId} {ad : Nat → Nat} {A : Nat → Prop} {Zs : State → Prop} (K : Cx p (rmX 4 97) s m args meth c cM_deal 7 "WordCheckerModel" gT D cls8 (tys5 cI cJ cC cZ cR) 21 ad A Zs) (hr : meth.sig.returnType = none) (hZ : ZsOK A Zs) {Φ : HI → HL → Prop} {k5 : Int32 → Int32 → Int32 → HI → HL → Prop} (hk5 : ∀ (v2 : Int32) (v3 : Int32) (v4 : Int32) (hi : HI) (hl : HL) (ls : Array Slot) (H : Heap) (locs : List Loc), k5 v2 v3 v4 hi hl → lv_has ls 7 [(0, .ref (ad 0)), (2, .int v2), (3, .int v3), (4, .int v4)] → va_P D cls8 (wl 21 ad (GM cI cZ ad) hi hl) H → va_S A s.heap H locs → W p l e (rmX 4 97) s m args below meth c H locs 0 0 (MQ below (va_Qv (fun (u : HI × HL) => Φ u.1 u.2) (fun u t => va_P D cls8 (wl 21 ad (GM cI cZ ad) u.1 u.2) t.heap) A) args s 0 0 A) (F0 m 5 ls [])) {v2 : Int32} {v3 : Int32} {v4 : Int32} {hi : HI} {hl : HL} {H : Heap} {locs : List Loc} (h : wbM_deal_83 k5 v2 v3 v4 hi hl Φ) {ls : Array Slot} (hL : lv_has ls 7 [(0, .ref (ad 0)), (2, .int v2), (3, .int v3), (4, .int v4)]) (hP : va_P D cls8 (wl 21 ad (GM cI cZ ad) hi hl) H) (hS : va_S A s.heap H locs) : W p l e (rmX 4 97) s m args below meth c H locs 0 0 (MQ below (va_Qv (fun (u : HI × HL) => Φ u.1 u.2) (fun u t => va_P D cls8 (wl 21 ad (GM cI cZ ad) u.1 u.2) t.heap) A) args s 0 0 A) (F0 m 83 ls []) := by
  unfold wbM_deal_83 at h
  refine lv_iinc (k := 3) (lv' := [(4, .int (v4 + Int32.ofInt (1))), (0, .ref (ad 0)), (2, .int v2), (3, .int v3)]) K.1 K.2.1 dM_deal_83 hL rfl rfl (by decide) rfl (fun ls hL => ?_)
  refine lv_goto (tgt := 5) K.1 K.2.1 dM_deal_86 rfl ?_
  exact hk5 _ _ _ _ _ _ _ _ h (lv_sub hL [1, 2, 3, 0] rfl) hP hS
set_option maxRecDepth 100000 in
set_option maxHeartbeats 4000000 in
theorem bM_deal_43 {p : Program} {l : Launch} {e : Env} {s : State} {m : MethodId} {args : Array Value} {below : List Frame} {meth : Method} {c : Code} {D : va_G} {cI cJ cC cZ cR : ClassId} {ad : Nat → Nat} {A : Nat → Prop} {Zs : State → Prop} (K : Cx p (rmX 4 97) s m args meth c cM_deal 7 "WordCheckerModel" gT D cls8 (tys5 cI cJ cC cZ cR) 21 ad A Zs) (hr : meth.sig.returnType = none) (hZ : ZsOK A Zs) {Φ : HI → HL → Prop} {k5 : Int32 → Int32 → Int32 → HI → HL → Prop} (hk5 : ∀ (v2 : Int32) (v3 : Int32) (v4 : Int32) (hi : HI) (hl : HL) (ls : Array Slot) (H : Heap) (locs : List Loc), k5 v2 v3 v4 hi hl → lv_has ls 7 [(0, .ref (ad 0)), (2, .int v2), (3, .int v3), (4, .int v4)] → va_P D cls8 (wl 21 ad (GM cI cZ ad) hi hl) H → va_S A s.heap H locs → W p l e (rmX 4 97) s m args below meth c H locs 0 0 (MQ below (va_Qv (fun (u : HI × HL) => Φ u.1 u.2) (fun u t => va_P D cls8 (wl 21 ad (GM cI cZ ad) u.1 u.2) t.heap) A) args s 0 0 A) (F0 m 5 ls [])) {v2 : Int32} {v3 : Int32} {v4 : Int32} {q0 : Int32} {hi : HI} {hl : HL} {H : Heap} {locs : List Loc} (h : wbM_deal_43 k5 v2 v3 v4 q0 hi hl Φ) {ls : Array Slot} (hL : lv_has ls 7 [(0, .ref (ad 0)), (2, .int v2), (3, .int v3), (4, .int v4)]) (hP : va_P D cls8 (wl 21 ad (GM cI cZ ad) hi hl) H) (hS : va_S A s.heap H locs) : W p l e (rmX 4 97) s m args below meth c H locs 0 0 (MQ below (va_Qv (fun (u : HI × HL) => Φ u.1 u.2) (fun u t => va_P D cls8 (wl 21 ad (GM cI cZ ad) u.1 u.2) t.heap) A) args s 0 0 A) (F0 m 43 ls [.int q0]) := by
  unfold wbM_deal_43 at h
  refine lv_istore (lv' := [(5, .int q0), (0, .ref (ad 0)), (2, .int v2), (3, .int v3), (4, .int v4)]) K.1 K.2.1 dM_deal_43 hL (by decide) rfl (fun ls hL => ?_)
  refine lv_iload K.1 K.2.1 dM_deal_45 (lv_at hL 0 rfl) ?_
  refine lv_if_eq (tgt := 83) K.1 K.2.1 dM_deal_47 rfl (fun hc => ?_) (fun hc => ?_)
  · have h := h.1 hc
    exact bM_deal_83 K hr hZ hk5 h (lv_sub hL [1, 2, 3, 4] rfl) hP hS
  · have h := h.2 hc
    refine lv_aload_n K.1 K.2.1 dM_deal_50 rfl (lv_at hL 1 rfl) ?_
    refine lv_aload_n K.1 K.2.1 dM_deal_51 rfl (lv_at hL 1 rfl) ?_
    refine x_get (v := .ref (ad 6)) K hP hinM (ci := 7) rfl 0 (by decide) rfl 9 (by decide) flM_25 rfl rfl dM_deal_52 ?_
    refine lv_iload K.1 K.2.1 dM_deal_55 (lv_at hL 4 rfl) ?_
    obtain ⟨g1, h⟩ := h
    refine x_iald K hP 6 (by decide) 0 rfl rfl g1 dM_deal_57 ?_
    refine x_cVI (As := [.int (hi 6 (v4.toNatClampNeg))]) (rest := []) K gT_good hZ hP hS calM_bits mlM_202 0 (by decide) rfl rfl (mM_bits hZ K.2.2.2.2.2.2.2.1 h) ⟨Nat.le_of_ble_eq_true rfl, Nat.le_of_ble_eq_true rfl⟩ rfl hL.1 rfl (Nat.le_of_ble_eq_true rfl) dM_deal_58 (fun r2 hi3 hl4 H locs h hP hS => ?_)
    refine lv_istore (lv' := [(6, .int r2), (5, .int q0), (0, .ref (ad 0)), (2, .int v2), (3, .int v3), (4, .int v4)]) K.1 K.2.1 dM_deal_61 hL (by decide) rfl (fun ls hL => ?_)
    refine lv_aload_n K.1 K.2.1 dM_deal_63 rfl (lv_at hL 2 rfl) ?_
    refine x_get (v := .ref (ad 17)) K hP hinM (ci := 7) rfl 0 (by decide) rfl 21 (by decide) flM_59 rfl rfl dM_deal_64 ?_
    refine lv_iload K.1 K.2.1 dM_deal_67 (lv_at hL 5 rfl) ?_
    refine lv_iload_n K.1 K.2.1 dM_deal_69 rfl (lv_at hL 4 rfl) ?_
    refine lv_iconst (v := 1) K.1 K.2.1 dM_deal_70 (by decide) ?_
    refine lv_iload K.1 K.2.1 dM_deal_71 (lv_at hL 0 rfl) ?_
    refine lv_ishl K.1 K.2.1 dM_deal_73 ?_
    refine lv_iconst (v := 1) K.1 K.2.1 dM_deal_74 (by decide) ?_
    refine lv_isub K.1 K.2.1 dM_deal_75 ?_
    refine lv_iand K.1 K.2.1 dM_deal_76 ?_
    obtain ⟨g5, h⟩ := h
    refine x_iast K hP hS 17 (by decide) 0 (fun _ => rfl) rfl g5 dM_deal_77 (fun H locs hP hS => ?_)
    refine lv_iload_n K.1 K.2.1 dM_deal_78 rfl (lv_at hL 4 rfl) ?_
    refine lv_iload K.1 K.2.1 dM_deal_79 (lv_at hL 0 rfl) ?_
    refine lv_ishr K.1 K.2.1 dM_deal_81 ?_
    refine lv_istore_n (lv' := [(3, .int (v3 >>> (r2 &&& 31))), (6, .int r2), (5, .int q0), (0, .ref (ad 0)), (2, .int v2), (4, .int v4)]) K.1 K.2.1 dM_deal_82 rfl hL (by decide) rfl (fun ls hL => ?_)
    exact bM_deal_83 K hr hZ hk5 h (lv_sub hL [3, 4, 0, 5] rfl) hP hS
set_option maxRecDepth 100000 in
set_option maxHeartbeats 4000000 in
theorem bM_deal_5 {p : Program} {l : Launch} {e : Env} {s : State} {m : MethodId} {args : Array Value} {below : List Frame} {meth : Method} {c : Code} {D : va_G} {cI cJ cC cZ cR : ClassId} {ad : Nat → Nat} {A : Nat → Prop} {Zs : State → Prop} (K : Cx p (rmX 4 97) s m args meth c cM_deal 7 "WordCheckerModel" gT D cls8 (tys5 cI cJ cC cZ cR) 21 ad A Zs) (hr : meth.sig.returnType = none) (hZ : ZsOK A Zs) {Φ : HI → HL → Prop} {n : Nat} {v2 : Int32} {v3 : Int32} {v4 : Int32} {hi : HI} {hl : HL} {H : Heap} {locs : List Loc} (h : wbM_deal_5 n v2 v3 v4 hi hl Φ) {ls : Array Slot} (hL : lv_has ls 7 [(0, .ref (ad 0)), (2, .int v2), (3, .int v3), (4, .int v4)]) (hP : va_P D cls8 (wl 21 ad (GM cI cZ ad) hi hl) H) (hS : va_S A s.heap H locs) : W p l e (rmX 4 97) s m args below meth c H locs 0 0 (MQ below (va_Qv (fun (u : HI × HL) => Φ u.1 u.2) (fun u t => va_P D cls8 (wl 21 ad (GM cI cZ ad) u.1 u.2) t.heap) A) args s 0 0 A) (F0 m 5 ls []) := by
  induction n generalizing v2 v3 v4 hi hl ls H locs with
  | zero => exact False.elim h
  | succ n ih =>
    unfold wbM_deal_5 at h
    refine lv_iload K.1 K.2.1 dM_deal_5 (lv_at hL 3 rfl) ?_
    refine lv_aload_n K.1 K.2.1 dM_deal_7 rfl (lv_at hL 0 rfl) ?_
    refine x_get (v := .int (hi 0 6)) K hP hinM (ci := 7) rfl 0 (by decide) rfl 6 (by decide) flM_155 rfl rfl dM_deal_8 ?_
    refine lv_icmp_ge (tgt := 89) K.1 K.2.1 dM_deal_11 rfl (fun hc => ?_) (fun hc => ?_)
    · have h := h.1 hc
      refine lv_aload_n K.1 K.2.1 dM_deal_89 rfl (lv_at hL 0 rfl) ?_
      refine x_cVV (As := []) (rest := []) K gT_good hZ hP hS calM_settle mlM_295 0 (by decide) rfl rfl (mM_settle hZ K.2.2.2.2.2.2.2.1 h) ⟨Nat.le_of_ble_eq_true rfl, Nat.le_of_ble_eq_true rfl⟩ rfl hL.1 rfl (Nat.le_of_ble_eq_true rfl) dM_deal_90 (fun hi2 hl3 H locs h hP hS => ?_)
      exact x_vret K hr hP hS h dM_deal_93
    · have h := h.2 hc
      refine lv_iload_n K.1 K.2.1 dM_deal_14 rfl (lv_at hL 1 rfl) ?_
      refine lv_if_eq (tgt := 27) K.1 K.2.1 dM_deal_15 rfl (fun hc => ?_) (fun hc => ?_)
      · have h := h.1 hc
        refine lv_aload_n K.1 K.2.1 dM_deal_27 rfl (lv_at hL 0 rfl) ?_
        refine x_get (v := .ref (ad 5)) K hP hinM (ci := 7) rfl 0 (by decide) rfl 8 (by decide) flM_22 rfl rfl dM_deal_28 ?_
        refine lv_iload K.1 K.2.1 dM_deal_31 (lv_at hL 3 rfl) ?_
        obtain ⟨g4, h⟩ := h
        refine x_iald K hP 5 (by decide) 0 rfl rfl g4 dM_deal_33 ?_
        refine lv_iconst (v := 1) K.1 K.2.1 dM_deal_34 (by decide) ?_
        refine lv_icmp_ne (tgt := 42) K.1 K.2.1 dM_deal_35 rfl (fun hc => ?_) (fun hc => ?_)
        · have h := h.2 hc
          refine lv_iconst (v := 0) K.1 K.2.1 dM_deal_42 (by decide) ?_
          exact bM_deal_43 K hr hZ (fun v2 v3 v4 hi hl ls H locs h hL hP hS => ih h hL hP hS) h (lv_sub hL [0, 1, 2, 3] rfl) hP hS
        · have h := h.1 hc
          refine lv_iconst (v := 1) K.1 K.2.1 dM_deal_38 (by decide) ?_
          refine lv_goto (tgt := 43) K.1 K.2.1 dM_deal_39 rfl ?_
          exact bM_deal_43 K hr hZ (fun v2 v3 v4 hi hl ls H locs h hL hP hS => ih h hL hP hS) h (lv_sub hL [0, 1, 2, 3] rfl) hP hS
      · have h := h.2 hc
        refine lv_aload_n K.1 K.2.1 dM_deal_18 rfl (lv_at hL 0 rfl) ?_
        refine lv_iload K.1 K.2.1 dM_deal_19 (lv_at hL 3 rfl) ?_
        refine x_cVI (As := [.int v4]) (rest := []) K gT_good hZ hP hS calM_chosen mlM_298 0 (by decide) rfl rfl (mM_chosen hZ K.2.2.2.2.2.2.2.1 h) ⟨Nat.le_of_ble_eq_true rfl, Nat.le_of_ble_eq_true rfl⟩ rfl hL.1 rfl (Nat.le_of_ble_eq_true rfl) dM_deal_21 (fun r5 hi6 hl7 H locs h hP hS => ?_)
        refine lv_goto (tgt := 43) K.1 K.2.1 dM_deal_24 rfl ?_
        exact bM_deal_43 K hr hZ (fun v2 v3 v4 hi hl ls H locs h hL hP hS => ih h hL hP hS) h (lv_sub hL [0, 1, 2, 3] rfl) hP hS
set_option maxRecDepth 100000 in
set_option maxHeartbeats 4000000 in
theorem bM_deal_0 {p : Program} {l : Launch} {e : Env} {s : State} {m : MethodId} {args : Array Value} {below : List Frame} {meth : Method} {c : Code} {D : va_G} {cI cJ cC cZ cR : ClassId} {ad : Nat → Nat} {A : Nat → Prop} {Zs : State → Prop} (K : Cx p (rmX 4 97) s m args meth c cM_deal 7 "WordCheckerModel" gT D cls8 (tys5 cI cJ cC cZ cR) 21 ad A Zs) (hr : meth.sig.returnType = none) (hZ : ZsOK A Zs) {Φ : HI → HL → Prop} {v1 : Int32} {v2 : Int32} {hi : HI} {hl : HL} {H : Heap} {locs : List Loc} (h : wbM_deal_0 v1 v2 hi hl Φ) {ls : Array Slot} (hL : lv_has ls 7 [(0, .ref (ad 0)), (1, .int v1), (2, .int v2)]) (hP : va_P D cls8 (wl 21 ad (GM cI cZ ad) hi hl) H) (hS : va_S A s.heap H locs) : W p l e (rmX 4 97) s m args below meth c H locs 0 0 (MQ below (va_Qv (fun (u : HI × HL) => Φ u.1 u.2) (fun u t => va_P D cls8 (wl 21 ad (GM cI cZ ad) u.1 u.2) t.heap) A) args s 0 0 A) (F0 m 0 ls []) := by
  unfold wbM_deal_0 at h
  refine lv_iload_n K.1 K.2.1 dM_deal_0 rfl (lv_at hL 1 rfl) ?_
  refine lv_istore_n (lv' := [(3, .int v1), (0, .ref (ad 0)), (1, .int v1), (2, .int v2)]) K.1 K.2.1 dM_deal_1 rfl hL (by decide) rfl (fun ls hL => ?_)
  refine lv_iconst (v := 0) K.1 K.2.1 dM_deal_2 (by decide) ?_
  refine lv_istore (lv' := [(4, .int (0 : Int32)), (3, .int v1), (0, .ref (ad 0)), (1, .int v1), (2, .int v2)]) K.1 K.2.1 dM_deal_3 hL (by decide) rfl (fun ls hL => ?_)
  obtain ⟨fu, h⟩ := h
  exact bM_deal_5 K hr hZ h (lv_sub hL [2, 4, 1, 0] rfl) hP hS
set_option maxRecDepth 100000 in
set_option maxHeartbeats 4000000 in
theorem mM_deal {l : Launch} {D : va_G} {cI cJ cC cZ cR : ClassId} {ad : Nat → Nat} {A : Nat → Prop} {Zs : State → Prop} (hZ : ZsOK A Zs) (hD : wlD 21 ad A) {v1 : Int32} {v2 : Int32} {hi : HI} {hl : HL} {Φ : HI → HL → Prop} (h : wpM_deal v1 v2 hi hl Φ) : SpV l yM_deal cM_deal 7 none gT 4 97 [.ref (ad 0), .int v1, .int v2] D cls8 (tys5 cI cJ cC cZ cR) 21 ad (GM cI cZ ad) A Zs hi hl Φ := by
  refine Met.ofW (cc := cM_deal) (maxL := 7) (ret := none) (by decide) rfl ?_
  intro p e s m args below meth c s₁ B hml hv
  obtain ⟨rfl, hP, hK, hZs⟩ := hv
  have K : Cx p (rmX 4 97) s m _ meth c cM_deal 7 "WordCheckerModel" gT D cls8 (tys5 cI cJ cC cZ cR) 21 ad A Zs := ⟨B.exec, B.bytes, hml, findClass_of_methodNamed B.named, fun w hw => atoms_spec B.pre w (List.mem_cons_of_mem _ hw), B.notSynchronized, hK, hD, hZs⟩
  have hL := lv_entry ([.ref (ad 0), .int v1, .int v2]) (n := 7) (Nat.le_of_ble_eq_true rfl)
  rw [lg_entry_eq]
  generalize (lg_sl ([.ref (ad 0), .int v1, .int v2]) ++ List.replicate (7 - (lg_sl ([.ref (ad 0), .int v1, .int v2])).length) Slot.unset).toArray = ls at hL ⊢
  have hL : lv_has ls 7 [(0, .ref (ad 0)), (1, .int v1), (2, .int v2)] := hL
  unfold wpM_deal at h
  exact bM_deal_0 K B.returns hZ h (lv_sub hL [0, 1, 2] rfl) hP va_S.rf
set_option maxRecDepth 100000 in
set_option maxHeartbeats 4000000 in
theorem bM_remember_2 {p : Program} {l : Launch} {e : Env} {s : State} {m : MethodId} {args : Array Value} {below : List Frame} {meth : Method} {c : Code} {D : va_G} {cI cJ cC cZ cR : ClassId} {ad : Nat → Nat} {A : Nat → Prop} {Zs : State → Prop} (K : Cx p (rmX 0 0) s m args meth c cM_remember 2 "WordCheckerModel" gT D cls8 (tys5 cI cJ cC cZ cR) 21 ad A Zs) (hr : meth.sig.returnType = none) (hZ : ZsOK A Zs) {Φ : HI → HL → Prop} {n : Nat} {v1 : Int32} {hi : HI} {hl : HL} {H : Heap} {locs : List Loc} (h : wbM_remember_2 n v1 hi hl Φ) {ls : Array Slot} (hL : lv_has ls 2 [(0, .ref (ad 0)), (1, .int v1)]) (hP : va_P D cls8 (wl 21 ad (GM cI cZ ad) hi hl) H) (hS : va_S A s.heap H locs) : W p l e (rmX 0 0) s m args below meth c H locs 0 0 (MQ below (va_Qv (fun (u : HI × HL) => Φ u.1 u.2) (fun u t => va_P D cls8 (wl 21 ad (GM cI cZ ad) u.1 u.2) t.heap) A) args s 0 0 A) (F0 m 2 ls []) := by
  induction n generalizing v1 hi hl ls H locs with
  | zero => exact False.elim h
  | succ n ih =>
    unfold wbM_remember_2 at h
    refine lv_iload_n K.1 K.2.1 dM_remember_2 rfl (lv_at hL 1 rfl) ?_
    refine lv_aload_n K.1 K.2.1 dM_remember_3 rfl (lv_at hL 0 rfl) ?_
    refine x_get (v := .int (hi 0 6)) K hP hinM (ci := 7) rfl 0 (by decide) rfl 6 (by decide) flM_155 rfl rfl dM_remember_4 ?_
    refine lv_icmp_ge (tgt := 28) K.1 K.2.1 dM_remember_7 rfl (fun hc => ?_) (fun hc => ?_)
    · have h := h.1 hc
      exact x_vret K hr hP hS h dM_remember_28
    · have h := h.2 hc
      refine lv_aload_n K.1 K.2.1 dM_remember_10 rfl (lv_at hL 0 rfl) ?_
      refine x_get (v := .ref (ad 19)) K hP hinM (ci := 7) rfl 0 (by decide) rfl 24 (by decide) flM_65 rfl rfl dM_remember_11 ?_
      refine lv_iload_n K.1 K.2.1 dM_remember_14 rfl (lv_at hL 1 rfl) ?_
      refine lv_aload_n K.1 K.2.1 dM_remember_15 rfl (lv_at hL 0 rfl) ?_
      refine x_get (v := .ref (ad 17)) K hP hinM (ci := 7) rfl 0 (by decide) rfl 21 (by decide) flM_59 rfl rfl dM_remember_16 ?_
      refine lv_iload_n K.1 K.2.1 dM_remember_19 rfl (lv_at hL 1 rfl) ?_
      obtain ⟨g1, h⟩ := h
      refine x_iald K hP 17 (by decide) 0 rfl rfl g1 dM_remember_20 ?_
      obtain ⟨g2, h⟩ := h
      refine x_iast K hP hS 19 (by decide) 0 (fun _ => rfl) rfl g2 dM_remember_21 (fun H locs hP hS => ?_)
      refine lv_iinc (k := 1) (lv' := [(1, .int (v1 + Int32.ofInt (1))), (0, .ref (ad 0))]) K.1 K.2.1 dM_remember_22 hL rfl rfl (by decide) rfl (fun ls hL => ?_)
      refine lv_goto (tgt := 2) K.1 K.2.1 dM_remember_25 rfl ?_
      exact ih h (lv_sub hL [1, 0] rfl) hP hS
set_option maxRecDepth 100000 in
set_option maxHeartbeats 4000000 in
theorem bM_remember_0 {p : Program} {l : Launch} {e : Env} {s : State} {m : MethodId} {args : Array Value} {below : List Frame} {meth : Method} {c : Code} {D : va_G} {cI cJ cC cZ cR : ClassId} {ad : Nat → Nat} {A : Nat → Prop} {Zs : State → Prop} (K : Cx p (rmX 0 0) s m args meth c cM_remember 2 "WordCheckerModel" gT D cls8 (tys5 cI cJ cC cZ cR) 21 ad A Zs) (hr : meth.sig.returnType = none) (hZ : ZsOK A Zs) {Φ : HI → HL → Prop} {hi : HI} {hl : HL} {H : Heap} {locs : List Loc} (h : wbM_remember_0 hi hl Φ) {ls : Array Slot} (hL : lv_has ls 2 [(0, .ref (ad 0))]) (hP : va_P D cls8 (wl 21 ad (GM cI cZ ad) hi hl) H) (hS : va_S A s.heap H locs) : W p l e (rmX 0 0) s m args below meth c H locs 0 0 (MQ below (va_Qv (fun (u : HI × HL) => Φ u.1 u.2) (fun u t => va_P D cls8 (wl 21 ad (GM cI cZ ad) u.1 u.2) t.heap) A) args s 0 0 A) (F0 m 0 ls []) := by
  unfold wbM_remember_0 at h
  refine lv_iconst (v := 0) K.1 K.2.1 dM_remember_0 (by decide) ?_
  refine lv_istore_n (lv' := [(1, .int (0 : Int32)), (0, .ref (ad 0))]) K.1 K.2.1 dM_remember_1 rfl hL (by decide) rfl (fun ls hL => ?_)
  obtain ⟨fu, h⟩ := h
  exact bM_remember_2 K hr hZ h (lv_sub hL [1, 0] rfl) hP hS
set_option maxRecDepth 100000 in
set_option maxHeartbeats 4000000 in
theorem mM_remember {l : Launch} {D : va_G} {cI cJ cC cZ cR : ClassId} {ad : Nat → Nat} {A : Nat → Prop} {Zs : State → Prop} (hZ : ZsOK A Zs) (hD : wlD 21 ad A) {hi : HI} {hl : HL} {Φ : HI → HL → Prop} (h : wpM_remember hi hl Φ) : SpV l yM_remember cM_remember 2 none gT 0 0 [.ref (ad 0)] D cls8 (tys5 cI cJ cC cZ cR) 21 ad (GM cI cZ ad) A Zs hi hl Φ := by
  refine Met.ofW (cc := cM_remember) (maxL := 2) (ret := none) (by decide) rfl ?_
  intro p e s m args below meth c s₁ B hml hv
  obtain ⟨rfl, hP, hK, hZs⟩ := hv
  have K : Cx p (rmX 0 0) s m _ meth c cM_remember 2 "WordCheckerModel" gT D cls8 (tys5 cI cJ cC cZ cR) 21 ad A Zs := ⟨B.exec, B.bytes, hml, findClass_of_methodNamed B.named, fun w hw => atoms_spec B.pre w (List.mem_cons_of_mem _ hw), B.notSynchronized, hK, hD, hZs⟩
  have hL := lv_entry ([.ref (ad 0)]) (n := 2) (Nat.le_of_ble_eq_true rfl)
  rw [lg_entry_eq]
  generalize (lg_sl ([.ref (ad 0)]) ++ List.replicate (2 - (lg_sl ([.ref (ad 0)])).length) Slot.unset).toArray = ls at hL ⊢
  have hL : lv_has ls 2 [(0, .ref (ad 0))] := hL
  unfold wpM_remember at h
  exact bM_remember_0 K B.returns hZ h (lv_sub hL [0] rfl) hP va_S.rf
set_option maxRecDepth 100000 in
set_option maxHeartbeats 4000000 in
theorem bM_recall_2 {p : Program} {l : Launch} {e : Env} {s : State} {m : MethodId} {args : Array Value} {below : List Frame} {meth : Method} {c : Code} {D : va_G} {cI cJ cC cZ cR : ClassId} {ad : Nat → Nat} {A : Nat → Prop} {Zs : State → Prop} (K : Cx p (rmX 4 97) s m args meth c cM_recall 2 "WordCheckerModel" gT D cls8 (tys5 cI cJ cC cZ cR) 21 ad A Zs) (hr : meth.sig.returnType = none) (hZ : ZsOK A Zs) {Φ : HI → HL → Prop} {n : Nat} {v1 : Int32} {hi : HI} {hl : HL} {H : Heap} {locs : List Loc} (h : wbM_recall_2 n v1 hi hl Φ) {ls : Array Slot} (hL : lv_has ls 2 [(0, .ref (ad 0)), (1, .int v1)]) (hP : va_P D cls8 (wl 21 ad (GM cI cZ ad) hi hl) H) (hS : va_S A s.heap H locs) : W p l e (rmX 4 97) s m args below meth c H locs 0 0 (MQ below (va_Qv (fun (u : HI × HL) => Φ u.1 u.2) (fun u t => va_P D cls8 (wl 21 ad (GM cI cZ ad) u.1 u.2) t.heap) A) args s 0 0 A) (F0 m 2 ls []) := by
  induction n generalizing v1 hi hl ls H locs with
  | zero => exact False.elim h
  | succ n ih =>
    unfold wbM_recall_2 at h
    refine lv_iload_n K.1 K.2.1 dM_recall_2 rfl (lv_at hL 1 rfl) ?_
    refine lv_aload_n K.1 K.2.1 dM_recall_3 rfl (lv_at hL 0 rfl) ?_
    refine x_get (v := .int (hi 0 6)) K hP hinM (ci := 7) rfl 0 (by decide) rfl 6 (by decide) flM_155 rfl rfl dM_recall_4 ?_
    refine lv_icmp_ge (tgt := 28) K.1 K.2.1 dM_recall_7 rfl (fun hc => ?_) (fun hc => ?_)
    · have h := h.1 hc
      refine lv_aload_n K.1 K.2.1 dM_recall_28 rfl (lv_at hL 0 rfl) ?_
      refine x_cVV (As := []) (rest := []) K gT_good hZ hP hS calM_settle mlM_295 0 (by decide) rfl rfl (mM_settle hZ K.2.2.2.2.2.2.2.1 h) ⟨Nat.le_of_ble_eq_true rfl, Nat.le_of_ble_eq_true rfl⟩ rfl hL.1 rfl (Nat.le_of_ble_eq_true rfl) dM_recall_29 (fun hi2 hl3 H locs h hP hS => ?_)
      exact x_vret K hr hP hS h dM_recall_32
    · have h := h.2 hc
      refine lv_aload_n K.1 K.2.1 dM_recall_10 rfl (lv_at hL 0 rfl) ?_
      refine x_get (v := .ref (ad 17)) K hP hinM (ci := 7) rfl 0 (by decide) rfl 21 (by decide) flM_59 rfl rfl dM_recall_11 ?_
      refine lv_iload_n K.1 K.2.1 dM_recall_14 rfl (lv_at hL 1 rfl) ?_
      refine lv_aload_n K.1 K.2.1 dM_recall_15 rfl (lv_at hL 0 rfl) ?_
      refine x_get (v := .ref (ad 19)) K hP hinM (ci := 7) rfl 0 (by decide) rfl 24 (by decide) flM_65 rfl rfl dM_recall_16 ?_
      refine lv_iload_n K.1 K.2.1 dM_recall_19 rfl (lv_at hL 1 rfl) ?_
      obtain ⟨g4, h⟩ := h
      refine x_iald K hP 19 (by decide) 0 rfl rfl g4 dM_recall_20 ?_
      obtain ⟨g5, h⟩ := h
      refine x_iast K hP hS 17 (by decide) 0 (fun _ => rfl) rfl g5 dM_recall_21 (fun H locs hP hS => ?_)
      refine lv_iinc (k := 1) (lv' := [(1, .int (v1 + Int32.ofInt (1))), (0, .ref (ad 0))]) K.1 K.2.1 dM_recall_22 hL rfl rfl (by decide) rfl (fun ls hL => ?_)
      refine lv_goto (tgt := 2) K.1 K.2.1 dM_recall_25 rfl ?_
      exact ih h (lv_sub hL [1, 0] rfl) hP hS
set_option maxRecDepth 100000 in
set_option maxHeartbeats 4000000 in
theorem bM_recall_0 {p : Program} {l : Launch} {e : Env} {s : State} {m : MethodId} {args : Array Value} {below : List Frame} {meth : Method} {c : Code} {D : va_G} {cI cJ cC cZ cR : ClassId} {ad : Nat → Nat} {A : Nat → Prop} {Zs : State → Prop} (K : Cx p (rmX 4 97) s m args meth c cM_recall 2 "WordCheckerModel" gT D cls8 (tys5 cI cJ cC cZ cR) 21 ad A Zs) (hr : meth.sig.returnType = none) (hZ : ZsOK A Zs) {Φ : HI → HL → Prop} {hi : HI} {hl : HL} {H : Heap} {locs : List Loc} (h : wbM_recall_0 hi hl Φ) {ls : Array Slot} (hL : lv_has ls 2 [(0, .ref (ad 0))]) (hP : va_P D cls8 (wl 21 ad (GM cI cZ ad) hi hl) H) (hS : va_S A s.heap H locs) : W p l e (rmX 4 97) s m args below meth c H locs 0 0 (MQ below (va_Qv (fun (u : HI × HL) => Φ u.1 u.2) (fun u t => va_P D cls8 (wl 21 ad (GM cI cZ ad) u.1 u.2) t.heap) A) args s 0 0 A) (F0 m 0 ls []) := by
  unfold wbM_recall_0 at h
  refine lv_iconst (v := 0) K.1 K.2.1 dM_recall_0 (by decide) ?_
  refine lv_istore_n (lv' := [(1, .int (0 : Int32)), (0, .ref (ad 0))]) K.1 K.2.1 dM_recall_1 rfl hL (by decide) rfl (fun ls hL => ?_)
  obtain ⟨fu, h⟩ := h
  exact bM_recall_2 K hr hZ h (lv_sub hL [1, 0] rfl) hP hS
set_option maxRecDepth 100000 in
set_option maxHeartbeats 4000000 in
theorem mM_recall {l : Launch} {D : va_G} {cI cJ cC cZ cR : ClassId} {ad : Nat → Nat} {A : Nat → Prop} {Zs : State → Prop} (hZ : ZsOK A Zs) (hD : wlD 21 ad A) {hi : HI} {hl : HL} {Φ : HI → HL → Prop} (h : wpM_recall hi hl Φ) : SpV l yM_recall cM_recall 2 none gT 4 97 [.ref (ad 0)] D cls8 (tys5 cI cJ cC cZ cR) 21 ad (GM cI cZ ad) A Zs hi hl Φ := by
  refine Met.ofW (cc := cM_recall) (maxL := 2) (ret := none) (by decide) rfl ?_
  intro p e s m args below meth c s₁ B hml hv
  obtain ⟨rfl, hP, hK, hZs⟩ := hv
  have K : Cx p (rmX 4 97) s m _ meth c cM_recall 2 "WordCheckerModel" gT D cls8 (tys5 cI cJ cC cZ cR) 21 ad A Zs := ⟨B.exec, B.bytes, hml, findClass_of_methodNamed B.named, fun w hw => atoms_spec B.pre w (List.mem_cons_of_mem _ hw), B.notSynchronized, hK, hD, hZs⟩
  have hL := lv_entry ([.ref (ad 0)]) (n := 2) (Nat.le_of_ble_eq_true rfl)
  rw [lg_entry_eq]
  generalize (lg_sl ([.ref (ad 0)]) ++ List.replicate (2 - (lg_sl ([.ref (ad 0)])).length) Slot.unset).toArray = ls at hL ⊢
  have hL : lv_has ls 2 [(0, .ref (ad 0))] := hL
  unfold wpM_recall at h
  exact bM_recall_0 K B.returns hZ h (lv_sub hL [0] rfl) hP va_S.rf
set_option maxRecDepth 100000 in
set_option maxHeartbeats 4000000 in
theorem bM_begin_0 {p : Program} {l : Launch} {e : Env} {s : State} {m : MethodId} {args : Array Value} {below : List Frame} {meth : Method} {c : Code} {D : va_G} {cI cJ cC cZ cR : ClassId} {ad : Nat → Nat} {A : Nat → Prop} {Zs : State → Prop} (K : Cx p (rmX 5 123) s m args meth c cM_begin 2 "WordCheckerModel" gT D cls8 (tys5 cI cJ cC cZ cR) 21 ad A Zs) (hr : meth.sig.returnType = none) (hZ : ZsOK A Zs) {Φ : HI → HL → Prop} {v1 : Int32} {hi : HI} {hl : HL} {H : Heap} {locs : List Loc} (h : wbM_begin_0 v1 hi hl Φ) {ls : Array Slot} (hL : lv_has ls 2 [(0, .ref (ad 0)), (1, .int v1)]) (hP : va_P D cls8 (wl 21 ad (GM cI cZ ad) hi hl) H) (hS : va_S A s.heap H locs) : W p l e (rmX 5 123) s m args below meth c H locs 0 0 (MQ below (va_Qv (fun (u : HI × HL) => Φ u.1 u.2) (fun u t => va_P D cls8 (wl 21 ad (GM cI cZ ad) u.1 u.2) t.heap) A) args s 0 0 A) (F0 m 0 ls []) := by
  unfold wbM_begin_0 at h
  refine lv_aload_n K.1 K.2.1 dM_begin_0 rfl (lv_at hL 0 rfl) ?_
  refine x_cVV (As := []) (rest := []) K gT_good hZ hP hS calM_initz mlM_301 0 (by decide) rfl rfl (mM_initz hZ K.2.2.2.2.2.2.2.1 h) ⟨Nat.le_of_ble_eq_true rfl, Nat.le_of_ble_eq_true rfl⟩ rfl hL.1 rfl (Nat.le_of_ble_eq_true rfl) dM_begin_1 (fun hi2 hl3 H locs h hP hS => ?_)
  refine lv_aload_n K.1 K.2.1 dM_begin_4 rfl (lv_at hL 0 rfl) ?_
  refine lv_iload_n K.1 K.2.1 dM_begin_5 rfl (lv_at hL 1 rfl) ?_
  refine lv_iconst (v := 1) K.1 K.2.1 dM_begin_6 (by decide) ?_
  refine x_cVV (As := [.int v1, .int (1 : Int32)]) (rest := []) K gT_good hZ hP hS calM_deal mlM_304 0 (by decide) rfl rfl (mM_deal hZ K.2.2.2.2.2.2.2.1 h) ⟨Nat.le_of_ble_eq_true rfl, Nat.le_of_ble_eq_true rfl⟩ rfl hL.1 rfl (Nat.le_of_ble_eq_true rfl) dM_begin_7 (fun hi5 hl6 H locs h hP hS => ?_)
  refine lv_aload_n K.1 K.2.1 dM_begin_10 rfl (lv_at hL 0 rfl) ?_
  refine lv_iconst (v := 1) K.1 K.2.1 dM_begin_11 (by decide) ?_
  obtain ⟨g7, h⟩ := h
  refine x_put (v := .int (1 : Int32)) K hP hS hinM tyM tyM_ok nmM (ci := 7) rfl 0 (by decide) rfl 23 (by decide) flM_271 rfl rfl (1 : Int32) rfl g7.nar g7.fit (Nat.le_of_ble_eq_true rfl) dM_begin_12 (fun H locs hP hS => ?_)
  refine lv_aload_n K.1 K.2.1 dM_begin_15 rfl (lv_at hL 0 rfl) ?_
  refine x_cVV (As := []) (rest := []) K gT_good hZ hP hS calM_remember mlM_308 0 (by decide) rfl rfl (mM_remember hZ K.2.2.2.2.2.2.2.1 h) ⟨Nat.le_of_ble_eq_true rfl, Nat.le_of_ble_eq_true rfl⟩ rfl hL.1 rfl (Nat.le_of_ble_eq_true rfl) dM_begin_16 (fun hi9 hl10 H locs h hP hS => ?_)
  exact x_vret K hr hP hS h dM_begin_19
set_option maxRecDepth 100000 in
set_option maxHeartbeats 4000000 in
theorem mM_begin {l : Launch} {D : va_G} {cI cJ cC cZ cR : ClassId} {ad : Nat → Nat} {A : Nat → Prop} {Zs : State → Prop} (hZ : ZsOK A Zs) (hD : wlD 21 ad A) {v1 : Int32} {hi : HI} {hl : HL} {Φ : HI → HL → Prop} (h : wpM_begin v1 hi hl Φ) : SpV l yM_begin cM_begin 2 none gT 5 123 [.ref (ad 0), .int v1] D cls8 (tys5 cI cJ cC cZ cR) 21 ad (GM cI cZ ad) A Zs hi hl Φ := by
  refine Met.ofW (cc := cM_begin) (maxL := 2) (ret := none) (by decide) rfl ?_
  intro p e s m args below meth c s₁ B hml hv
  obtain ⟨rfl, hP, hK, hZs⟩ := hv
  have K : Cx p (rmX 5 123) s m _ meth c cM_begin 2 "WordCheckerModel" gT D cls8 (tys5 cI cJ cC cZ cR) 21 ad A Zs := ⟨B.exec, B.bytes, hml, findClass_of_methodNamed B.named, fun w hw => atoms_spec B.pre w (List.mem_cons_of_mem _ hw), B.notSynchronized, hK, hD, hZs⟩
  have hL := lv_entry ([.ref (ad 0), .int v1]) (n := 2) (Nat.le_of_ble_eq_true rfl)
  rw [lg_entry_eq]
  generalize (lg_sl ([.ref (ad 0), .int v1]) ++ List.replicate (2 - (lg_sl ([.ref (ad 0), .int v1])).length) Slot.unset).toArray = ls at hL ⊢
  have hL : lv_has ls 2 [(0, .ref (ad 0)), (1, .int v1)] := hL
  unfold wpM_begin at h
  exact bM_begin_0 K B.returns hZ h (lv_sub hL [0, 1] rfl) hP va_S.rf
set_option maxRecDepth 100000 in
set_option maxHeartbeats 4000000 in
theorem bM_feed_0 {p : Program} {l : Launch} {e : Env} {s : State} {m : MethodId} {args : Array Value} {below : List Frame} {meth : Method} {c : Code} {D : va_G} {cI cJ cC cZ cR : ClassId} {ad : Nat → Nat} {A : Nat → Prop} {Zs : State → Prop} (K : Cx p (rmX 5 123) s m args meth c cM_feed 2 "WordCheckerModel" gT D cls8 (tys5 cI cJ cC cZ cR) 21 ad A Zs) (hr : meth.sig.returnType = (some .boolean)) (hZ : ZsOK A Zs) {Φ : Int32 → HI → HL → Prop} {v1 : Int32} {hi : HI} {hl : HL} {H : Heap} {locs : List Loc} (h : wbM_feed_0 v1 hi hl Φ) {ls : Array Slot} (hL : lv_has ls 2 [(0, .ref (ad 0)), (1, .int v1)]) (hP : va_P D cls8 (wl 21 ad (GM cI cZ ad) hi hl) H) (hS : va_S A s.heap H locs) : W p l e (rmX 5 123) s m args below meth c H locs 0 0 (MQ below (va_Qi (fun r (u : HI × HL) => Φ r u.1 u.2) (fun u t => va_P D cls8 (wl 21 ad (GM cI cZ ad) u.1 u.2) t.heap) A) args s 0 0 A) (F0 m 0 ls []) := by
  unfold wbM_feed_0 at h
  refine lv_aload_n K.1 K.2.1 dM_feed_0 rfl (lv_at hL 0 rfl) ?_
  refine x_get (v := .int (hi 0 23)) K hP hinM (ci := 7) rfl 0 (by decide) rfl 23 (by decide) flM_271 rfl rfl dM_feed_1 ?_
  refine lv_if_ne (tgt := 9) K.1 K.2.1 dM_feed_4 rfl (fun hc => ?_) (fun hc => ?_)
  · have h := h.2 hc
    refine lv_aload_n K.1 K.2.1 dM_feed_9 rfl (lv_at hL 0 rfl) ?_
    refine x_cVV (As := []) (rest := []) K gT_good hZ hP hS calM_recall mlM_311 0 (by decide) rfl rfl (mM_recall hZ K.2.2.2.2.2.2.2.1 h) ⟨Nat.le_of_ble_eq_true rfl, Nat.le_of_ble_eq_true rfl⟩ rfl hL.1 rfl (Nat.le_of_ble_eq_true rfl) dM_feed_10 (fun hi2 hl3 H locs h hP hS => ?_)
    refine lv_aload_n K.1 K.2.1 dM_feed_13 rfl (lv_at hL 0 rfl) ?_
    refine lv_iload_n K.1 K.2.1 dM_feed_14 rfl (lv_at hL 1 rfl) ?_
    refine lv_iconst (v := 0) K.1 K.2.1 dM_feed_15 (by decide) ?_
    refine x_cVV (As := [.int v1, .int (0 : Int32)]) (rest := []) K gT_good hZ hP hS calM_deal mlM_304 0 (by decide) rfl rfl (mM_deal hZ K.2.2.2.2.2.2.2.1 h) ⟨Nat.le_of_ble_eq_true rfl, Nat.le_of_ble_eq_true rfl⟩ rfl hL.1 rfl (Nat.le_of_ble_eq_true rfl) dM_feed_16 (fun hi5 hl6 H locs h hP hS => ?_)
    refine lv_aload_n K.1 K.2.1 dM_feed_19 rfl (lv_at hL 0 rfl) ?_
    refine x_cVV (As := []) (rest := []) K gT_good hZ hP hS calM_remember mlM_308 0 (by decide) rfl rfl (mM_remember hZ K.2.2.2.2.2.2.2.1 h) ⟨Nat.le_of_ble_eq_true rfl, Nat.le_of_ble_eq_true rfl⟩ rfl hL.1 rfl (Nat.le_of_ble_eq_true rfl) dM_feed_20 (fun hi8 hl9 H locs h hP hS => ?_)
    refine lv_iconst (v := 1) K.1 K.2.1 dM_feed_23 (by decide) ?_
    obtain ⟨g10, h⟩ := h
    exact x_zret K hr hP hS g10 h dM_feed_24
  · have h := h.1 hc
    refine lv_iconst (v := 0) K.1 K.2.1 dM_feed_7 (by decide) ?_
    obtain ⟨g11, h⟩ := h
    exact x_zret K hr hP hS g11 h dM_feed_8
set_option maxRecDepth 100000 in
set_option maxHeartbeats 4000000 in
theorem mM_feed {l : Launch} {D : va_G} {cI cJ cC cZ cR : ClassId} {ad : Nat → Nat} {A : Nat → Prop} {Zs : State → Prop} (hZ : ZsOK A Zs) (hD : wlD 21 ad A) {v1 : Int32} {hi : HI} {hl : HL} {Φ : Int32 → HI → HL → Prop} (h : wpM_feed v1 hi hl Φ) : SpI l yM_feed cM_feed 2 (some .boolean) gT 5 123 [.ref (ad 0), .int v1] D cls8 (tys5 cI cJ cC cZ cR) 21 ad (GM cI cZ ad) A Zs hi hl Φ := by
  refine Met.ofW (cc := cM_feed) (maxL := 2) (ret := (some .boolean)) (by decide) rfl ?_
  intro p e s m args below meth c s₁ B hml hv
  obtain ⟨rfl, hP, hK, hZs⟩ := hv
  have K : Cx p (rmX 5 123) s m _ meth c cM_feed 2 "WordCheckerModel" gT D cls8 (tys5 cI cJ cC cZ cR) 21 ad A Zs := ⟨B.exec, B.bytes, hml, findClass_of_methodNamed B.named, fun w hw => atoms_spec B.pre w (List.mem_cons_of_mem _ hw), B.notSynchronized, hK, hD, hZs⟩
  have hL := lv_entry ([.ref (ad 0), .int v1]) (n := 2) (Nat.le_of_ble_eq_true rfl)
  rw [lg_entry_eq]
  generalize (lg_sl ([.ref (ad 0), .int v1]) ++ List.replicate (2 - (lg_sl ([.ref (ad 0), .int v1])).length) Slot.unset).toArray = ls at hL ⊢
  have hL : lv_has ls 2 [(0, .ref (ad 0)), (1, .int v1)] := hL
  unfold wpM_feed at h
  exact bM_feed_0 K B.returns hZ h (lv_sub hL [0, 1] rfl) hP va_S.rf
set_option maxRecDepth 100000 in
set_option maxHeartbeats 4000000 in
theorem bM_step_0 {p : Program} {l : Launch} {e : Env} {s : State} {m : MethodId} {args : Array Value} {below : List Frame} {meth : Method} {c : Code} {D : va_G} {cI cJ cC cZ cR : ClassId} {ad : Nat → Nat} {A : Nat → Prop} {Zs : State → Prop} (K : Cx p (rmX 5 123) s m args meth c cM_step 1 "WordCheckerModel" gT D cls8 (tys5 cI cJ cC cZ cR) 21 ad A Zs) (hr : meth.sig.returnType = (some .boolean)) (hZ : ZsOK A Zs) {Φ : Int32 → HI → HL → Prop} {hi : HI} {hl : HL} {H : Heap} {locs : List Loc} (h : wbM_step_0 hi hl Φ) {ls : Array Slot} (hL : lv_has ls 1 [(0, .ref (ad 0))]) (hP : va_P D cls8 (wl 21 ad (GM cI cZ ad) hi hl) H) (hS : va_S A s.heap H locs) : W p l e (rmX 5 123) s m args below meth c H locs 0 0 (MQ below (va_Qi (fun r (u : HI × HL) => Φ r u.1 u.2) (fun u t => va_P D cls8 (wl 21 ad (GM cI cZ ad) u.1 u.2) t.heap) A) args s 0 0 A) (F0 m 0 ls []) := by
  unfold wbM_step_0 at h
  refine lv_aload_n K.1 K.2.1 dM_step_0 rfl (lv_at hL 0 rfl) ?_
  refine x_get (v := .int (hi 0 23)) K hP hinM (ci := 7) rfl 0 (by decide) rfl 23 (by decide) flM_271 rfl rfl dM_step_1 ?_
  refine lv_if_ne (tgt := 9) K.1 K.2.1 dM_step_4 rfl (fun hc => ?_) (fun hc => ?_)
  · have h := h.2 hc
    refine lv_aload_n K.1 K.2.1 dM_step_9 rfl (lv_at hL 0 rfl) ?_
    refine x_cVV (As := []) (rest := []) K gT_good hZ hP hS calM_recall mlM_311 0 (by decide) rfl rfl (mM_recall hZ K.2.2.2.2.2.2.2.1 h) ⟨Nat.le_of_ble_eq_true rfl, Nat.le_of_ble_eq_true rfl⟩ rfl hL.1 rfl (Nat.le_of_ble_eq_true rfl) dM_step_10 (fun hi2 hl3 H locs h hP hS => ?_)
    refine lv_aload_n K.1 K.2.1 dM_step_13 rfl (lv_at hL 0 rfl) ?_
    refine x_cVV (As := []) (rest := []) K gT_good hZ hP hS calM_advance mlM_314 0 (by decide) rfl rfl (mM_advance hZ K.2.2.2.2.2.2.2.1 h) ⟨Nat.le_of_ble_eq_true rfl, Nat.le_of_ble_eq_true rfl⟩ rfl hL.1 rfl (Nat.le_of_ble_eq_true rfl) dM_step_14 (fun hi5 hl6 H locs h hP hS => ?_)
    refine lv_aload_n K.1 K.2.1 dM_step_17 rfl (lv_at hL 0 rfl) ?_
    refine lv_iconst (v := 0) K.1 K.2.1 dM_step_18 (by decide) ?_
    refine lv_iconst (v := 0) K.1 K.2.1 dM_step_19 (by decide) ?_
    refine x_cVV (As := [.int (0 : Int32), .int (0 : Int32)]) (rest := []) K gT_good hZ hP hS calM_deal mlM_304 0 (by decide) rfl rfl (mM_deal hZ K.2.2.2.2.2.2.2.1 h) ⟨Nat.le_of_ble_eq_true rfl, Nat.le_of_ble_eq_true rfl⟩ rfl hL.1 rfl (Nat.le_of_ble_eq_true rfl) dM_step_20 (fun hi8 hl9 H locs h hP hS => ?_)
    refine lv_aload_n K.1 K.2.1 dM_step_23 rfl (lv_at hL 0 rfl) ?_
    refine x_cVV (As := []) (rest := []) K gT_good hZ hP hS calM_remember mlM_308 0 (by decide) rfl rfl (mM_remember hZ K.2.2.2.2.2.2.2.1 h) ⟨Nat.le_of_ble_eq_true rfl, Nat.le_of_ble_eq_true rfl⟩ rfl hL.1 rfl (Nat.le_of_ble_eq_true rfl) dM_step_24 (fun hi11 hl12 H locs h hP hS => ?_)
    refine lv_iconst (v := 1) K.1 K.2.1 dM_step_27 (by decide) ?_
    obtain ⟨g13, h⟩ := h
    exact x_zret K hr hP hS g13 h dM_step_28
  · have h := h.1 hc
    refine lv_iconst (v := 0) K.1 K.2.1 dM_step_7 (by decide) ?_
    obtain ⟨g14, h⟩ := h
    exact x_zret K hr hP hS g14 h dM_step_8
set_option maxRecDepth 100000 in
set_option maxHeartbeats 4000000 in
theorem mM_step {l : Launch} {D : va_G} {cI cJ cC cZ cR : ClassId} {ad : Nat → Nat} {A : Nat → Prop} {Zs : State → Prop} (hZ : ZsOK A Zs) (hD : wlD 21 ad A) {hi : HI} {hl : HL} {Φ : Int32 → HI → HL → Prop} (h : wpM_step hi hl Φ) : SpI l yM_step cM_step 1 (some .boolean) gT 5 123 [.ref (ad 0)] D cls8 (tys5 cI cJ cC cZ cR) 21 ad (GM cI cZ ad) A Zs hi hl Φ := by
  refine Met.ofW (cc := cM_step) (maxL := 1) (ret := (some .boolean)) (by decide) rfl ?_
  intro p e s m args below meth c s₁ B hml hv
  obtain ⟨rfl, hP, hK, hZs⟩ := hv
  have K : Cx p (rmX 5 123) s m _ meth c cM_step 1 "WordCheckerModel" gT D cls8 (tys5 cI cJ cC cZ cR) 21 ad A Zs := ⟨B.exec, B.bytes, hml, findClass_of_methodNamed B.named, fun w hw => atoms_spec B.pre w (List.mem_cons_of_mem _ hw), B.notSynchronized, hK, hD, hZs⟩
  have hL := lv_entry ([.ref (ad 0)]) (n := 1) (Nat.le_of_ble_eq_true rfl)
  rw [lg_entry_eq]
  generalize (lg_sl ([.ref (ad 0)]) ++ List.replicate (1 - (lg_sl ([.ref (ad 0)])).length) Slot.unset).toArray = ls at hL ⊢
  have hL : lv_has ls 1 [(0, .ref (ad 0))] := hL
  unfold wpM_step at h
  exact bM_step_0 K B.returns hZ h (lv_sub hL [0] rfl) hP va_S.rf
set_option maxRecDepth 100000 in
set_option maxHeartbeats 4000000 in
theorem bM_value_0 {p : Program} {l : Launch} {e : Env} {s : State} {m : MethodId} {args : Array Value} {below : List Frame} {meth : Method} {c : Code} {D : va_G} {cI cJ cC cZ cR : ClassId} {ad : Nat → Nat} {A : Nat → Prop} {Zs : State → Prop} (K : Cx p (rmX 5 118) s m args meth c cM_value 3 "WordCheckerModel" gT D cls8 (tys5 cI cJ cC cZ cR) 21 ad A Zs) (hr : meth.sig.returnType = (some .int)) (hZ : ZsOK A Zs) {Φ : Int32 → HI → HL → Prop} {v1 : Int32} {hi : HI} {hl : HL} {H : Heap} {locs : List Loc} (h : wbM_value_0 v1 hi hl Φ) {ls : Array Slot} (hL : lv_has ls 3 [(0, .ref (ad 0)), (1, .int v1)]) (hP : va_P D cls8 (wl 21 ad (GM cI cZ ad) hi hl) H) (hS : va_S A s.heap H locs) : W p l e (rmX 5 118) s m args below meth c H locs 0 0 (MQ below (va_Qi (fun r (u : HI × HL) => Φ r u.1 u.2) (fun u t => va_P D cls8 (wl 21 ad (GM cI cZ ad) u.1 u.2) t.heap) A) args s 0 0 A) (F0 m 0 ls []) := by
  unfold wbM_value_0 at h
  refine lv_aload_n K.1 K.2.1 dM_value_0 rfl (lv_at hL 0 rfl) ?_
  refine lv_iload_n K.1 K.2.1 dM_value_1 rfl (lv_at hL 1 rfl) ?_
  refine x_cVI (As := [.int v1]) (rest := []) K gT_good hZ hP hS calM_lineOf mlM_165 0 (by decide) rfl rfl (mM_lineOf hZ K.2.2.2.2.2.2.2.1 h) ⟨Nat.le_of_ble_eq_true rfl, Nat.le_of_ble_eq_true rfl⟩ rfl hL.1 rfl (Nat.le_of_ble_eq_true rfl) dM_value_2 (fun r1 hi2 hl3 H locs h hP hS => ?_)
  refine lv_istore_n (lv' := [(2, .int r1), (0, .ref (ad 0)), (1, .int v1)]) K.1 K.2.1 dM_value_5 rfl hL (by decide) rfl (fun ls hL => ?_)
  refine lv_aload_n K.1 K.2.1 dM_value_6 rfl (lv_at hL 1 rfl) ?_
  refine x_get (v := .int (hi2 0 23)) K hP hinM (ci := 7) rfl 0 (by decide) rfl 23 (by decide) flM_271 rfl rfl dM_value_7 ?_
  refine lv_if_eq (tgt := 21) K.1 K.2.1 dM_value_10 rfl (fun hc => ?_) (fun hc => ?_)
  · have h := h.1 hc
    refine lv_iconst (v := -1) K.1 K.2.1 dM_value_21 (by decide) ?_
    exact x_iret K hr hP hS h dM_value_22
  · have h := h.2 hc
    refine lv_aload_n K.1 K.2.1 dM_value_13 rfl (lv_at hL 1 rfl) ?_
    refine lv_iload_n K.1 K.2.1 dM_value_14 rfl (lv_at hL 0 rfl) ?_
    refine x_cVI (As := [.int r1]) (rest := []) K gT_good hZ hP hS calM_isNode mlM_172 0 (by decide) rfl rfl (mM_isNode hZ K.2.2.2.2.2.2.2.1 h) ⟨Nat.le_of_ble_eq_true rfl, Nat.le_of_ble_eq_true rfl⟩ rfl hL.1 rfl (Nat.le_of_ble_eq_true rfl) dM_value_15 (fun r4 hi5 hl6 H locs h hP hS => ?_)
    refine lv_if_ne (tgt := 23) K.1 K.2.1 dM_value_18 rfl (fun hc => ?_) (fun hc => ?_)
    · have h := h.2 hc
      refine lv_aload_n K.1 K.2.1 dM_value_23 rfl (lv_at hL 1 rfl) ?_
      refine x_cVV (As := []) (rest := []) K gT_good hZ hP hS calM_recall mlM_311 0 (by decide) rfl rfl (mM_recall hZ K.2.2.2.2.2.2.2.1 h) ⟨Nat.le_of_ble_eq_true rfl, Nat.le_of_ble_eq_true rfl⟩ rfl hL.1 rfl (Nat.le_of_ble_eq_true rfl) dM_value_24 (fun hi8 hl9 H locs h hP hS => ?_)
      refine lv_aload_n K.1 K.2.1 dM_value_27 rfl (lv_at hL 1 rfl) ?_
      refine x_get (v := .ref (ad 17)) K hP hinM (ci := 7) rfl 0 (by decide) rfl 21 (by decide) flM_59 rfl rfl dM_value_28 ?_
      refine lv_iload_n K.1 K.2.1 dM_value_31 rfl (lv_at hL 0 rfl) ?_
      obtain ⟨g10, h⟩ := h
      refine x_iald K hP 17 (by decide) 0 rfl rfl g10 dM_value_32 ?_
      exact x_iret K hr hP hS h dM_value_33
    · have h := h.1 hc
      refine lv_iconst (v := -1) K.1 K.2.1 dM_value_21 (by decide) ?_
      exact x_iret K hr hP hS h dM_value_22
set_option maxRecDepth 100000 in
set_option maxHeartbeats 4000000 in
theorem mM_value {l : Launch} {D : va_G} {cI cJ cC cZ cR : ClassId} {ad : Nat → Nat} {A : Nat → Prop} {Zs : State → Prop} (hZ : ZsOK A Zs) (hD : wlD 21 ad A) {v1 : Int32} {hi : HI} {hl : HL} {Φ : Int32 → HI → HL → Prop} (h : wpM_value v1 hi hl Φ) : SpI l yM_value cM_value 3 (some .int) gT 5 118 [.ref (ad 0), .int v1] D cls8 (tys5 cI cJ cC cZ cR) 21 ad (GM cI cZ ad) A Zs hi hl Φ := by
  refine Met.ofW (cc := cM_value) (maxL := 3) (ret := (some .int)) (by decide) rfl ?_
  intro p e s m args below meth c s₁ B hml hv
  obtain ⟨rfl, hP, hK, hZs⟩ := hv
  have K : Cx p (rmX 5 118) s m _ meth c cM_value 3 "WordCheckerModel" gT D cls8 (tys5 cI cJ cC cZ cR) 21 ad A Zs := ⟨B.exec, B.bytes, hml, findClass_of_methodNamed B.named, fun w hw => atoms_spec B.pre w (List.mem_cons_of_mem _ hw), B.notSynchronized, hK, hD, hZs⟩
  have hL := lv_entry ([.ref (ad 0), .int v1]) (n := 3) (Nat.le_of_ble_eq_true rfl)
  rw [lg_entry_eq]
  generalize (lg_sl ([.ref (ad 0), .int v1]) ++ List.replicate (3 - (lg_sl ([.ref (ad 0), .int v1])).length) Slot.unset).toArray = ls at hL ⊢
  have hL : lv_has ls 3 [(0, .ref (ad 0)), (1, .int v1)] := hL
  unfold wpM_value at h
  exact bM_value_0 K B.returns hZ h (lv_sub hL [0, 1] rfl) hP va_S.rf
set_option maxRecDepth 100000 in
set_option maxHeartbeats 4000000 in
theorem bM_width_50 {p : Program} {l : Launch} {e : Env} {s : State} {m : MethodId} {args : Array Value} {below : List Frame} {meth : Method} {c : Code} {D : va_G} {cI cJ cC cZ cR : ClassId} {ad : Nat → Nat} {A : Nat → Prop} {Zs : State → Prop} (K : Cx p (rmX 2 45) s m args meth c cM_width 4 "WordCheckerModel" gT D cls8 (tys5 cI cJ cC cZ cR) 21 ad A Zs) (hr : meth.sig.returnType = (some .int)) (hZ : ZsOK A Zs) {Φ : Int32 → HI → HL → Prop} {k4 : Int32 → Int32 → Int32 → HI → HL → Prop} (hk4 : ∀ (v1 : Int32) (v2 : Int32) (v3 : Int32) (hi : HI) (hl : HL) (ls : Array Slot) (H : Heap) (locs : List Loc), k4 v1 v2 v3 hi hl → lv_has ls 4 [(0, .ref (ad 0)), (1, .int v1), (2, .int v2), (3, .int v3)] → va_P D cls8 (wl 21 ad (GM cI cZ ad) hi hl) H → va_S A s.heap H locs → W p l e (rmX 2 45) s m args below meth c H locs 0 0 (MQ below (va_Qi (fun r (u : HI × HL) => Φ r u.1 u.2) (fun u t => va_P D cls8 (wl 21 ad (GM cI cZ ad) u.1 u.2) t.heap) A) args s 0 0 A) (F0 m 4 ls [])) {v1 : Int32} {v3 : Int32} {q0 : Int32} {hi : HI} {hl : HL} {H : Heap} {locs : List Loc} (h : wbM_width_50 k4 v1 v3 q0 hi hl Φ) {ls : Array Slot} (hL : lv_has ls 4 [(0, .ref (ad 0)), (1, .int v1), (3, .int v3)]) (hP : va_P D cls8 (wl 21 ad (GM cI cZ ad) hi hl) H) (hS : va_S A s.heap H locs) : W p l e (rmX 2 45) s m args below meth c H locs 0 0 (MQ below (va_Qi (fun r (u : HI × HL) => Φ r u.1 u.2) (fun u t => va_P D cls8 (wl 21 ad (GM cI cZ ad) u.1 u.2) t.heap) A) args s 0 0 A) (F0 m 50 ls [.int q0]) := by
  unfold wbM_width_50 at h
  refine lv_istore_n (lv' := [(2, .int q0), (0, .ref (ad 0)), (1, .int v1), (3, .int v3)]) K.1 K.2.1 dM_width_50 rfl hL (by decide) rfl (fun ls hL => ?_)
  refine lv_iinc (k := 3) (lv' := [(3, .int (v3 + Int32.ofInt (1))), (2, .int q0), (0, .ref (ad 0)), (1, .int v1)]) K.1 K.2.1 dM_width_51 hL rfl rfl (by decide) rfl (fun ls hL => ?_)
  refine lv_goto (tgt := 4) K.1 K.2.1 dM_width_54 rfl ?_
  exact hk4 _ _ _ _ _ _ _ _ h (lv_sub hL [2, 3, 1, 0] rfl) hP hS
set_option maxRecDepth 100000 in
set_option maxHeartbeats 4000000 in
theorem bM_width_34 {p : Program} {l : Launch} {e : Env} {s : State} {m : MethodId} {args : Array Value} {below : List Frame} {meth : Method} {c : Code} {D : va_G} {cI cJ cC cZ cR : ClassId} {ad : Nat → Nat} {A : Nat → Prop} {Zs : State → Prop} (K : Cx p (rmX 2 45) s m args meth c cM_width 4 "WordCheckerModel" gT D cls8 (tys5 cI cJ cC cZ cR) 21 ad A Zs) (hr : meth.sig.returnType = (some .int)) (hZ : ZsOK A Zs) {Φ : Int32 → HI → HL → Prop} {k4 : Int32 → Int32 → Int32 → HI → HL → Prop} (hk4 : ∀ (v1 : Int32) (v2 : Int32) (v3 : Int32) (hi : HI) (hl : HL) (ls : Array Slot) (H : Heap) (locs : List Loc), k4 v1 v2 v3 hi hl → lv_has ls 4 [(0, .ref (ad 0)), (1, .int v1), (2, .int v2), (3, .int v3)] → va_P D cls8 (wl 21 ad (GM cI cZ ad) hi hl) H → va_S A s.heap H locs → W p l e (rmX 2 45) s m args below meth c H locs 0 0 (MQ below (va_Qi (fun r (u : HI × HL) => Φ r u.1 u.2) (fun u t => va_P D cls8 (wl 21 ad (GM cI cZ ad) u.1 u.2) t.heap) A) args s 0 0 A) (F0 m 4 ls [])) {v1 : Int32} {v2 : Int32} {v3 : Int32} {hi : HI} {hl : HL} {H : Heap} {locs : List Loc} (h : wbM_width_34 k4 v1 v2 v3 hi hl Φ) {ls : Array Slot} (hL : lv_has ls 4 [(0, .ref (ad 0)), (1, .int v1), (2, .int v2), (3, .int v3)]) (hP : va_P D cls8 (wl 21 ad (GM cI cZ ad) hi hl) H) (hS : va_S A s.heap H locs) : W p l e (rmX 2 45) s m args below meth c H locs 0 0 (MQ below (va_Qi (fun r (u : HI × HL) => Φ r u.1 u.2) (fun u t => va_P D cls8 (wl 21 ad (GM cI cZ ad) u.1 u.2) t.heap) A) args s 0 0 A) (F0 m 34 ls []) := by
  unfold wbM_width_34 at h
  refine lv_iload_n K.1 K.2.1 dM_width_34 rfl (lv_at hL 2 rfl) ?_
  refine lv_aload_n K.1 K.2.1 dM_width_35 rfl (lv_at hL 0 rfl) ?_
  refine lv_aload_n K.1 K.2.1 dM_width_36 rfl (lv_at hL 0 rfl) ?_
  refine x_get (v := .ref (ad 6)) K hP hinM (ci := 7) rfl 0 (by decide) rfl 9 (by decide) flM_25 rfl rfl dM_width_37 ?_
  refine lv_iload_n K.1 K.2.1 dM_width_40 rfl (lv_at hL 3 rfl) ?_
  obtain ⟨g1, h⟩ := h
  refine x_iald K hP 6 (by decide) 0 rfl rfl g1 dM_width_41 ?_
  refine x_cVI (As := [.int (hi 6 (v3.toNatClampNeg))]) (rest := [.int v2]) K gT_good hZ hP hS calM_bits mlM_202 0 (by decide) rfl rfl (mM_bits hZ K.2.2.2.2.2.2.2.1 h) ⟨Nat.le_of_ble_eq_true rfl, Nat.le_of_ble_eq_true rfl⟩ rfl hL.1 rfl (Nat.le_of_ble_eq_true rfl) dM_width_42 (fun r2 hi3 hl4 H locs h hP hS => ?_)
  refine lv_iadd K.1 K.2.1 dM_width_45 ?_
  refine lv_goto (tgt := 50) K.1 K.2.1 dM_width_46 rfl ?_
  exact bM_width_50 K hr hZ hk4 h (lv_sub hL [0, 1, 3] rfl) hP hS
set_option maxRecDepth 100000 in
set_option maxHeartbeats 4000000 in
theorem bM_width_26 {p : Program} {l : Launch} {e : Env} {s : State} {m : MethodId} {args : Array Value} {below : List Frame} {meth : Method} {c : Code} {D : va_G} {cI cJ cC cZ cR : ClassId} {ad : Nat → Nat} {A : Nat → Prop} {Zs : State → Prop} (K : Cx p (rmX 2 45) s m args meth c cM_width 4 "WordCheckerModel" gT D cls8 (tys5 cI cJ cC cZ cR) 21 ad A Zs) (hr : meth.sig.returnType = (some .int)) (hZ : ZsOK A Zs) {Φ : Int32 → HI → HL → Prop} {k4 : Int32 → Int32 → Int32 → HI → HL → Prop} (hk4 : ∀ (v1 : Int32) (v2 : Int32) (v3 : Int32) (hi : HI) (hl : HL) (ls : Array Slot) (H : Heap) (locs : List Loc), k4 v1 v2 v3 hi hl → lv_has ls 4 [(0, .ref (ad 0)), (1, .int v1), (2, .int v2), (3, .int v3)] → va_P D cls8 (wl 21 ad (GM cI cZ ad) hi hl) H → va_S A s.heap H locs → W p l e (rmX 2 45) s m args below meth c H locs 0 0 (MQ below (va_Qi (fun r (u : HI × HL) => Φ r u.1 u.2) (fun u t => va_P D cls8 (wl 21 ad (GM cI cZ ad) u.1 u.2) t.heap) A) args s 0 0 A) (F0 m 4 ls [])) {v1 : Int32} {v2 : Int32} {v3 : Int32} {hi : HI} {hl : HL} {H : Heap} {locs : List Loc} (h : wbM_width_26 k4 v1 v2 v3 hi hl Φ) {ls : Array Slot} (hL : lv_has ls 4 [(0, .ref (ad 0)), (1, .int v1), (2, .int v2), (3, .int v3)]) (hP : va_P D cls8 (wl 21 ad (GM cI cZ ad) hi hl) H) (hS : va_S A s.heap H locs) : W p l e (rmX 2 45) s m args below meth c H locs 0 0 (MQ below (va_Qi (fun r (u : HI × HL) => Φ r u.1 u.2) (fun u t => va_P D cls8 (wl 21 ad (GM cI cZ ad) u.1 u.2) t.heap) A) args s 0 0 A) (F0 m 26 ls []) := by
  unfold wbM_width_26 at h
  refine lv_aload_n K.1 K.2.1 dM_width_26 rfl (lv_at hL 0 rfl) ?_
  refine lv_iload_n K.1 K.2.1 dM_width_27 rfl (lv_at hL 3 rfl) ?_
  refine x_cVI (As := [.int v3]) (rest := []) K gT_good hZ hP hS calM_chosen mlM_298 0 (by decide) rfl rfl (mM_chosen hZ K.2.2.2.2.2.2.2.1 h) ⟨Nat.le_of_ble_eq_true rfl, Nat.le_of_ble_eq_true rfl⟩ rfl hL.1 rfl (Nat.le_of_ble_eq_true rfl) dM_width_28 (fun r1 hi2 hl3 H locs h hP hS => ?_)
  refine lv_if_eq (tgt := 49) K.1 K.2.1 dM_width_31 rfl (fun hc => ?_) (fun hc => ?_)
  · have h := h.1 hc
    refine lv_iload_n K.1 K.2.1 dM_width_49 rfl (lv_at hL 2 rfl) ?_
    exact bM_width_50 K hr hZ hk4 h (lv_sub hL [0, 1, 3] rfl) hP hS
  · have h := h.2 hc
    exact bM_width_34 K hr hZ hk4 h (lv_sub hL [0, 1, 2, 3] rfl) hP hS
set_option maxRecDepth 100000 in
set_option maxHeartbeats 4000000 in
theorem bM_width_4 {p : Program} {l : Launch} {e : Env} {s : State} {m : MethodId} {args : Array Value} {below : List Frame} {meth : Method} {c : Code} {D : va_G} {cI cJ cC cZ cR : ClassId} {ad : Nat → Nat} {A : Nat → Prop} {Zs : State → Prop} (K : Cx p (rmX 2 45) s m args meth c cM_width 4 "WordCheckerModel" gT D cls8 (tys5 cI cJ cC cZ cR) 21 ad A Zs) (hr : meth.sig.returnType = (some .int)) (hZ : ZsOK A Zs) {Φ : Int32 → HI → HL → Prop} {n : Nat} {v1 : Int32} {v2 : Int32} {v3 : Int32} {hi : HI} {hl : HL} {H : Heap} {locs : List Loc} (h : wbM_width_4 n v1 v2 v3 hi hl Φ) {ls : Array Slot} (hL : lv_has ls 4 [(0, .ref (ad 0)), (1, .int v1), (2, .int v2), (3, .int v3)]) (hP : va_P D cls8 (wl 21 ad (GM cI cZ ad) hi hl) H) (hS : va_S A s.heap H locs) : W p l e (rmX 2 45) s m args below meth c H locs 0 0 (MQ below (va_Qi (fun r (u : HI × HL) => Φ r u.1 u.2) (fun u t => va_P D cls8 (wl 21 ad (GM cI cZ ad) u.1 u.2) t.heap) A) args s 0 0 A) (F0 m 4 ls []) := by
  induction n generalizing v1 v2 v3 hi hl ls H locs with
  | zero => exact False.elim h
  | succ n ih =>
    unfold wbM_width_4 at h
    refine lv_iload_n K.1 K.2.1 dM_width_4 rfl (lv_at hL 3 rfl) ?_
    refine lv_aload_n K.1 K.2.1 dM_width_5 rfl (lv_at hL 0 rfl) ?_
    refine x_get (v := .int (hi 0 6)) K hP hinM (ci := 7) rfl 0 (by decide) rfl 6 (by decide) flM_155 rfl rfl dM_width_6 ?_
    refine lv_icmp_ge (tgt := 57) K.1 K.2.1 dM_width_9 rfl (fun hc => ?_) (fun hc => ?_)
    · have h := h.1 hc
      refine lv_iload_n K.1 K.2.1 dM_width_57 rfl (lv_at hL 2 rfl) ?_
      exact x_iret K hr hP hS h dM_width_58
    · have h := h.2 hc
      refine lv_iload_n K.1 K.2.1 dM_width_12 rfl (lv_at hL 1 rfl) ?_
      refine lv_if_eq (tgt := 26) K.1 K.2.1 dM_width_13 rfl (fun hc => ?_) (fun hc => ?_)
      · have h := h.1 hc
        exact bM_width_26 K hr hZ (fun v1 v2 v3 hi hl ls H locs h hL hP hS => ih h hL hP hS) h (lv_sub hL [0, 1, 2, 3] rfl) hP hS
      · have h := h.2 hc
        refine lv_aload_n K.1 K.2.1 dM_width_16 rfl (lv_at hL 0 rfl) ?_
        refine x_get (v := .ref (ad 5)) K hP hinM (ci := 7) rfl 0 (by decide) rfl 8 (by decide) flM_22 rfl rfl dM_width_17 ?_
        refine lv_iload_n K.1 K.2.1 dM_width_20 rfl (lv_at hL 3 rfl) ?_
        obtain ⟨g1, h⟩ := h
        refine x_iald K hP 5 (by decide) 0 rfl rfl g1 dM_width_21 ?_
        refine lv_iconst (v := 2) K.1 K.2.1 dM_width_22 (by decide) ?_
        refine lv_icmp_eq (tgt := 34) K.1 K.2.1 dM_width_23 rfl (fun hc => ?_) (fun hc => ?_)
        · have h := h.1 hc
          exact bM_width_34 K hr hZ (fun v1 v2 v3 hi hl ls H locs h hL hP hS => ih h hL hP hS) h (lv_sub hL [0, 1, 2, 3] rfl) hP hS
        · have h := h.2 hc
          exact bM_width_26 K hr hZ (fun v1 v2 v3 hi hl ls H locs h hL hP hS => ih h hL hP hS) h (lv_sub hL [0, 1, 2, 3] rfl) hP hS
set_option maxRecDepth 100000 in
set_option maxHeartbeats 4000000 in
theorem bM_width_0 {p : Program} {l : Launch} {e : Env} {s : State} {m : MethodId} {args : Array Value} {below : List Frame} {meth : Method} {c : Code} {D : va_G} {cI cJ cC cZ cR : ClassId} {ad : Nat → Nat} {A : Nat → Prop} {Zs : State → Prop} (K : Cx p (rmX 2 45) s m args meth c cM_width 4 "WordCheckerModel" gT D cls8 (tys5 cI cJ cC cZ cR) 21 ad A Zs) (hr : meth.sig.returnType = (some .int)) (hZ : ZsOK A Zs) {Φ : Int32 → HI → HL → Prop} {v1 : Int32} {hi : HI} {hl : HL} {H : Heap} {locs : List Loc} (h : wbM_width_0 v1 hi hl Φ) {ls : Array Slot} (hL : lv_has ls 4 [(0, .ref (ad 0)), (1, .int v1)]) (hP : va_P D cls8 (wl 21 ad (GM cI cZ ad) hi hl) H) (hS : va_S A s.heap H locs) : W p l e (rmX 2 45) s m args below meth c H locs 0 0 (MQ below (va_Qi (fun r (u : HI × HL) => Φ r u.1 u.2) (fun u t => va_P D cls8 (wl 21 ad (GM cI cZ ad) u.1 u.2) t.heap) A) args s 0 0 A) (F0 m 0 ls []) := by
  unfold wbM_width_0 at h
  refine lv_iconst (v := 0) K.1 K.2.1 dM_width_0 (by decide) ?_
  refine lv_istore_n (lv' := [(2, .int (0 : Int32)), (0, .ref (ad 0)), (1, .int v1)]) K.1 K.2.1 dM_width_1 rfl hL (by decide) rfl (fun ls hL => ?_)
  refine lv_iconst (v := 0) K.1 K.2.1 dM_width_2 (by decide) ?_
  refine lv_istore_n (lv' := [(3, .int (0 : Int32)), (2, .int (0 : Int32)), (0, .ref (ad 0)), (1, .int v1)]) K.1 K.2.1 dM_width_3 rfl hL (by decide) rfl (fun ls hL => ?_)
  obtain ⟨fu, h⟩ := h
  exact bM_width_4 K hr hZ h (lv_sub hL [2, 3, 1, 0] rfl) hP hS
set_option maxRecDepth 100000 in
set_option maxHeartbeats 4000000 in
theorem mM_width {l : Launch} {D : va_G} {cI cJ cC cZ cR : ClassId} {ad : Nat → Nat} {A : Nat → Prop} {Zs : State → Prop} (hZ : ZsOK A Zs) (hD : wlD 21 ad A) {v1 : Int32} {hi : HI} {hl : HL} {Φ : Int32 → HI → HL → Prop} (h : wpM_width v1 hi hl Φ) : SpI l yM_width cM_width 4 (some .int) gT 2 45 [.ref (ad 0), .int v1] D cls8 (tys5 cI cJ cC cZ cR) 21 ad (GM cI cZ ad) A Zs hi hl Φ := by
  refine Met.ofW (cc := cM_width) (maxL := 4) (ret := (some .int)) (by decide) rfl ?_
  intro p e s m args below meth c s₁ B hml hv
  obtain ⟨rfl, hP, hK, hZs⟩ := hv
  have K : Cx p (rmX 2 45) s m _ meth c cM_width 4 "WordCheckerModel" gT D cls8 (tys5 cI cJ cC cZ cR) 21 ad A Zs := ⟨B.exec, B.bytes, hml, findClass_of_methodNamed B.named, fun w hw => atoms_spec B.pre w (List.mem_cons_of_mem _ hw), B.notSynchronized, hK, hD, hZs⟩
  have hL := lv_entry ([.ref (ad 0), .int v1]) (n := 4) (Nat.le_of_ble_eq_true rfl)
  rw [lg_entry_eq]
  generalize (lg_sl ([.ref (ad 0), .int v1]) ++ List.replicate (4 - (lg_sl ([.ref (ad 0), .int v1])).length) Slot.unset).toArray = ls at hL ⊢
  have hL : lv_has ls 4 [(0, .ref (ad 0)), (1, .int v1)] := hL
  unfold wpM_width at h
  exact bM_width_0 K B.returns hZ h (lv_sub hL [0, 1] rfl) hP va_S.rf
set_option maxRecDepth 100000 in
set_option maxHeartbeats 4000000 in
theorem bM_start_86 {p : Program} {l : Launch} {e : Env} {s : State} {m : MethodId} {args : Array Value} {below : List Frame} {meth : Method} {c : Code} {D : va_G} {cI cJ cC cZ cR : ClassId} {ad : Nat → Nat} {A : Nat → Prop} {Zs : State → Prop} (K : Cx p (rmX 5 118) s m args meth c cM_start 6 "WordCheckerModel" gT D cls8 (tys5 cI cJ cC cZ cR) 21 ad A Zs) (hr : meth.sig.returnType = (some .int)) (hZ : ZsOK A Zs) {Φ : Int32 → HI → HL → Prop} {k10 : Int32 → Int32 → Int32 → Int32 → HI → HL → Prop} (hk10 : ∀ (v1 : Int32) (v3 : Int32) (v4 : Int32) (v5 : Int32) (hi : HI) (hl : HL) (ls : Array Slot) (H : Heap) (locs : List Loc), k10 v1 v3 v4 v5 hi hl → lv_has ls 6 [(0, .ref (ad 0)), (1, .int v1), (3, .int v3), (4, .int v4), (5, .int v5)] → va_P D cls8 (wl 21 ad (GM cI cZ ad) hi hl) H → va_S A s.heap H locs → W p l e (rmX 5 118) s m args below meth c H locs 0 0 (MQ below (va_Qi (fun r (u : HI × HL) => Φ r u.1 u.2) (fun u t => va_P D cls8 (wl 21 ad (GM cI cZ ad) u.1 u.2) t.heap) A) args s 0 0 A) (F0 m 10 ls [])) {v1 : Int32} {v3 : Int32} {v4 : Int32} {v5 : Int32} {hi : HI} {hl : HL} {H : Heap} {locs : List Loc} (h : wbM_start_86 k10 v1 v3 v4 v5 hi hl Φ) {ls : Array Slot} (hL : lv_has ls 6 [(0, .ref (ad 0)), (1, .int v1), (3, .int v3), (4, .int v4), (5, .int v5)]) (hP : va_P D cls8 (wl 21 ad (GM cI cZ ad) hi hl) H) (hS : va_S A s.heap H locs) : W p l e (rmX 5 118) s m args below meth c H locs 0 0 (MQ below (va_Qi (fun r (u : HI × HL) => Φ r u.1 u.2) (fun u t => va_P D cls8 (wl 21 ad (GM cI cZ ad) u.1 u.2) t.heap) A) args s 0 0 A) (F0 m 86 ls []) := by
  unfold wbM_start_86 at h
  refine lv_iinc (k := 4) (lv' := [(5, .int (v5 + Int32.ofInt (1))), (0, .ref (ad 0)), (1, .int v1), (3, .int v3), (4, .int v4)]) K.1 K.2.1 dM_start_86 hL rfl rfl (by decide) rfl (fun ls hL => ?_)
  refine lv_goto (tgt := 10) K.1 K.2.1 dM_start_89 rfl ?_
  exact hk10 _ _ _ _ _ _ _ _ _ h (lv_sub hL [1, 2, 3, 4, 0] rfl) hP hS
set_option maxRecDepth 100000 in
set_option maxHeartbeats 4000000 in
theorem bM_start_43 {p : Program} {l : Launch} {e : Env} {s : State} {m : MethodId} {args : Array Value} {below : List Frame} {meth : Method} {c : Code} {D : va_G} {cI cJ cC cZ cR : ClassId} {ad : Nat → Nat} {A : Nat → Prop} {Zs : State → Prop} (K : Cx p (rmX 5 118) s m args meth c cM_start 6 "WordCheckerModel" gT D cls8 (tys5 cI cJ cC cZ cR) 21 ad A Zs) (hr : meth.sig.returnType = (some .int)) (hZ : ZsOK A Zs) {Φ : Int32 → HI → HL → Prop} {k10 : Int32 → Int32 → Int32 → Int32 → HI → HL → Prop} (hk10 : ∀ (v1 : Int32) (v3 : Int32) (v4 : Int32) (v5 : Int32) (hi : HI) (hl : HL) (ls : Array Slot) (H : Heap) (locs : List Loc), k10 v1 v3 v4 v5 hi hl → lv_has ls 6 [(0, .ref (ad 0)), (1, .int v1), (3, .int v3), (4, .int v4), (5, .int v5)] → va_P D cls8 (wl 21 ad (GM cI cZ ad) hi hl) H → va_S A s.heap H locs → W p l e (rmX 5 118) s m args below meth c H locs 0 0 (MQ below (va_Qi (fun r (u : HI × HL) => Φ r u.1 u.2) (fun u t => va_P D cls8 (wl 21 ad (GM cI cZ ad) u.1 u.2) t.heap) A) args s 0 0 A) (F0 m 10 ls [])) {v1 : Int32} {v3 : Int32} {v4 : Int32} {v5 : Int32} {hi : HI} {hl : HL} {H : Heap} {locs : List Loc} (h : wbM_start_43 k10 v1 v3 v4 v5 hi hl Φ) {ls : Array Slot} (hL : lv_has ls 6 [(0, .ref (ad 0)), (1, .int v1), (3, .int v3), (4, .int v4), (5, .int v5)]) (hP : va_P D cls8 (wl 21 ad (GM cI cZ ad) hi hl) H) (hS : va_S A s.heap H locs) : W p l e (rmX 5 118) s m args below meth c H locs 0 0 (MQ below (va_Qi (fun r (u : HI × HL) => Φ r u.1 u.2) (fun u t => va_P D cls8 (wl 21 ad (GM cI cZ ad) u.1 u.2) t.heap) A) args s 0 0 A) (F0 m 43 ls []) := by
  unfold wbM_start_43 at h
  refine lv_iload K.1 K.2.1 dM_start_43 (lv_at hL 3 rfl) ?_
  refine lv_aload_n K.1 K.2.1 dM_start_45 rfl (lv_at hL 0 rfl) ?_
  refine lv_aload_n K.1 K.2.1 dM_start_46 rfl (lv_at hL 0 rfl) ?_
  refine x_get (v := .ref (ad 6)) K hP hinM (ci := 7) rfl 0 (by decide) rfl 9 (by decide) flM_25 rfl rfl dM_start_47 ?_
  refine lv_iload K.1 K.2.1 dM_start_50 (lv_at hL 4 rfl) ?_
  obtain ⟨g1, h⟩ := h
  refine x_iald K hP 6 (by decide) 0 rfl rfl g1 dM_start_52 ?_
  refine x_cVI (As := [.int (hi 6 (v5.toNatClampNeg))]) (rest := [.int v4]) K gT_good hZ hP hS calM_bits mlM_202 0 (by decide) rfl rfl (mM_bits hZ K.2.2.2.2.2.2.2.1 h) ⟨Nat.le_of_ble_eq_true rfl, Nat.le_of_ble_eq_true rfl⟩ rfl hL.1 rfl (Nat.le_of_ble_eq_true rfl) dM_start_53 (fun r2 hi3 hl4 H locs h hP hS => ?_)
  refine lv_isub K.1 K.2.1 dM_start_56 ?_
  refine lv_istore (lv' := [(4, .int (v4 - r2)), (0, .ref (ad 0)), (1, .int v1), (3, .int v3), (5, .int v5)]) K.1 K.2.1 dM_start_57 hL (by decide) rfl (fun ls hL => ?_)
  refine lv_aload_n K.1 K.2.1 dM_start_59 rfl (lv_at hL 1 rfl) ?_
  refine x_get (v := .ref (ad 17)) K hP hinM (ci := 7) rfl 0 (by decide) rfl 21 (by decide) flM_59 rfl rfl dM_start_60 ?_
  refine lv_iload K.1 K.2.1 dM_start_63 (lv_at hL 4 rfl) ?_
  refine lv_iload_n K.1 K.2.1 dM_start_65 rfl (lv_at hL 2 rfl) ?_
  refine lv_iload K.1 K.2.1 dM_start_66 (lv_at hL 0 rfl) ?_
  refine lv_ishr K.1 K.2.1 dM_start_68 ?_
  refine lv_iconst (v := 1) K.1 K.2.1 dM_start_69 (by decide) ?_
  refine lv_aload_n K.1 K.2.1 dM_start_70 rfl (lv_at hL 1 rfl) ?_
  refine lv_aload_n K.1 K.2.1 dM_start_71 rfl (lv_at hL 1 rfl) ?_
  refine x_get (v := .ref (ad 6)) K hP hinM (ci := 7) rfl 0 (by decide) rfl 9 (by decide) flM_25 rfl rfl dM_start_72 ?_
  refine lv_iload K.1 K.2.1 dM_start_75 (lv_at hL 4 rfl) ?_
  obtain ⟨g5, h⟩ := h
  refine x_iald K hP 6 (by decide) 0 rfl rfl g5 dM_start_77 ?_
  refine x_cVI (As := [.int (hi3 6 (v5.toNatClampNeg))]) (rest := [.int (1 : Int32), .int (v1 >>> ((v4 - r2) &&& 31)), .int v5, .ref (ad 17)]) K gT_good hZ hP hS calM_bits mlM_202 0 (by decide) rfl rfl (mM_bits hZ K.2.2.2.2.2.2.2.1 h) ⟨Nat.le_of_ble_eq_true rfl, Nat.le_of_ble_eq_true rfl⟩ rfl hL.1 rfl (Nat.le_of_ble_eq_true rfl) dM_start_78 (fun r6 hi7 hl8 H locs h hP hS => ?_)
  refine lv_ishl K.1 K.2.1 dM_start_81 ?_
  refine lv_iconst (v := 1) K.1 K.2.1 dM_start_82 (by decide) ?_
  refine lv_isub K.1 K.2.1 dM_start_83 ?_
  refine lv_iand K.1 K.2.1 dM_start_84 ?_
  obtain ⟨g9, h⟩ := h
  refine x_iast K hP hS 17 (by decide) 0 (fun _ => rfl) rfl g9 dM_start_85 (fun H locs hP hS => ?_)
  exact bM_start_86 K hr hZ hk10 h (lv_sub hL [1, 2, 3, 0, 4] rfl) hP hS
set_option maxRecDepth 100000 in
set_option maxHeartbeats 4000000 in
theorem bM_start_34 {p : Program} {l : Launch} {e : Env} {s : State} {m : MethodId} {args : Array Value} {below : List Frame} {meth : Method} {c : Code} {D : va_G} {cI cJ cC cZ cR : ClassId} {ad : Nat → Nat} {A : Nat → Prop} {Zs : State → Prop} (K : Cx p (rmX 5 118) s m args meth c cM_start 6 "WordCheckerModel" gT D cls8 (tys5 cI cJ cC cZ cR) 21 ad A Zs) (hr : meth.sig.returnType = (some .int)) (hZ : ZsOK A Zs) {Φ : Int32 → HI → HL → Prop} {k10 : Int32 → Int32 → Int32 → Int32 → HI → HL → Prop} (hk10 : ∀ (v1 : Int32) (v3 : Int32) (v4 : Int32) (v5 : Int32) (hi : HI) (hl : HL) (ls : Array Slot) (H : Heap) (locs : List Loc), k10 v1 v3 v4 v5 hi hl → lv_has ls 6 [(0, .ref (ad 0)), (1, .int v1), (3, .int v3), (4, .int v4), (5, .int v5)] → va_P D cls8 (wl 21 ad (GM cI cZ ad) hi hl) H → va_S A s.heap H locs → W p l e (rmX 5 118) s m args below meth c H locs 0 0 (MQ below (va_Qi (fun r (u : HI × HL) => Φ r u.1 u.2) (fun u t => va_P D cls8 (wl 21 ad (GM cI cZ ad) u.1 u.2) t.heap) A) args s 0 0 A) (F0 m 10 ls [])) {v1 : Int32} {v3 : Int32} {v4 : Int32} {v5 : Int32} {hi : HI} {hl : HL} {H : Heap} {locs : List Loc} (h : wbM_start_34 k10 v1 v3 v4 v5 hi hl Φ) {ls : Array Slot} (hL : lv_has ls 6 [(0, .ref (ad 0)), (1, .int v1), (3, .int v3), (4, .int v4), (5, .int v5)]) (hP : va_P D cls8 (wl 21 ad (GM cI cZ ad) hi hl) H) (hS : va_S A s.heap H locs) : W p l e (rmX 5 118) s m args below meth c H locs 0 0 (MQ below (va_Qi (fun r (u : HI × HL) => Φ r u.1 u.2) (fun u t => va_P D cls8 (wl 21 ad (GM cI cZ ad) u.1 u.2) t.heap) A) args s 0 0 A) (F0 m 34 ls []) := by
  unfold wbM_start_34 at h
  refine lv_aload_n K.1 K.2.1 dM_start_34 rfl (lv_at hL 0 rfl) ?_
  refine lv_iload K.1 K.2.1 dM_start_35 (lv_at hL 4 rfl) ?_
  refine x_cVI (As := [.int v5]) (rest := []) K gT_good hZ hP hS calM_chosen mlM_298 0 (by decide) rfl rfl (mM_chosen hZ K.2.2.2.2.2.2.2.1 h) ⟨Nat.le_of_ble_eq_true rfl, Nat.le_of_ble_eq_true rfl⟩ rfl hL.1 rfl (Nat.le_of_ble_eq_true rfl) dM_start_37 (fun r1 hi2 hl3 H locs h hP hS => ?_)
  refine lv_if_eq (tgt := 86) K.1 K.2.1 dM_start_40 rfl (fun hc => ?_) (fun hc => ?_)
  · have h := h.1 hc
    exact bM_start_86 K hr hZ hk10 h (lv_sub hL [0, 1, 2, 3, 4] rfl) hP hS
  · have h := h.2 hc
    exact bM_start_43 K hr hZ hk10 h (lv_sub hL [0, 1, 2, 3, 4] rfl) hP hS
set_option maxRecDepth 100000 in
set_option maxHeartbeats 4000000 in
theorem bM_start_10 {p : Program} {l : Launch} {e : Env} {s : State} {m : MethodId} {args : Array Value} {below : List Frame} {meth : Method} {c : Code} {D : va_G} {cI cJ cC cZ cR : ClassId} {ad : Nat → Nat} {A : Nat → Prop} {Zs : State → Prop} (K : Cx p (rmX 5 118) s m args meth c cM_start 6 "WordCheckerModel" gT D cls8 (tys5 cI cJ cC cZ cR) 21 ad A Zs) (hr : meth.sig.returnType = (some .int)) (hZ : ZsOK A Zs) {Φ : Int32 → HI → HL → Prop} {n : Nat} {v1 : Int32} {v3 : Int32} {v4 : Int32} {v5 : Int32} {hi : HI} {hl : HL} {H : Heap} {locs : List Loc} (h : wbM_start_10 n v1 v3 v4 v5 hi hl Φ) {ls : Array Slot} (hL : lv_has ls 6 [(0, .ref (ad 0)), (1, .int v1), (3, .int v3), (4, .int v4), (5, .int v5)]) (hP : va_P D cls8 (wl 21 ad (GM cI cZ ad) hi hl) H) (hS : va_S A s.heap H locs) : W p l e (rmX 5 118) s m args below meth c H locs 0 0 (MQ below (va_Qi (fun r (u : HI × HL) => Φ r u.1 u.2) (fun u t => va_P D cls8 (wl 21 ad (GM cI cZ ad) u.1 u.2) t.heap) A) args s 0 0 A) (F0 m 10 ls []) := by
  induction n generalizing v1 v3 v4 v5 hi hl ls H locs with
  | zero => exact False.elim h
  | succ n ih =>
    unfold wbM_start_10 at h
    refine lv_iload K.1 K.2.1 dM_start_10 (lv_at hL 4 rfl) ?_
    refine lv_aload_n K.1 K.2.1 dM_start_12 rfl (lv_at hL 0 rfl) ?_
    refine x_get (v := .int (hi 0 6)) K hP hinM (ci := 7) rfl 0 (by decide) rfl 6 (by decide) flM_155 rfl rfl dM_start_13 ?_
    refine lv_icmp_ge (tgt := 92) K.1 K.2.1 dM_start_16 rfl (fun hc => ?_) (fun hc => ?_)
    · have h := h.1 hc
      refine lv_iload K.1 K.2.1 dM_start_92 (lv_at hL 3 rfl) ?_
      exact x_iret K hr hP hS h dM_start_94
    · have h := h.2 hc
      refine lv_iload_n K.1 K.2.1 dM_start_19 rfl (lv_at hL 2 rfl) ?_
      refine lv_if_eq (tgt := 34) K.1 K.2.1 dM_start_20 rfl (fun hc => ?_) (fun hc => ?_)
      · have h := h.1 hc
        exact bM_start_34 K hr hZ (fun v1 v3 v4 v5 hi hl ls H locs h hL hP hS => ih h hL hP hS) h (lv_sub hL [0, 1, 2, 3, 4] rfl) hP hS
      · have h := h.2 hc
        refine lv_aload_n K.1 K.2.1 dM_start_23 rfl (lv_at hL 0 rfl) ?_
        refine x_get (v := .ref (ad 5)) K hP hinM (ci := 7) rfl 0 (by decide) rfl 8 (by decide) flM_22 rfl rfl dM_start_24 ?_
        refine lv_iload K.1 K.2.1 dM_start_27 (lv_at hL 4 rfl) ?_
        obtain ⟨g1, h⟩ := h
        refine x_iald K hP 5 (by decide) 0 rfl rfl g1 dM_start_29 ?_
        refine lv_iconst (v := 2) K.1 K.2.1 dM_start_30 (by decide) ?_
        refine lv_icmp_eq (tgt := 43) K.1 K.2.1 dM_start_31 rfl (fun hc => ?_) (fun hc => ?_)
        · have h := h.1 hc
          exact bM_start_43 K hr hZ (fun v1 v3 v4 v5 hi hl ls H locs h hL hP hS => ih h hL hP hS) h (lv_sub hL [0, 1, 2, 3, 4] rfl) hP hS
        · have h := h.2 hc
          exact bM_start_34 K hr hZ (fun v1 v3 v4 v5 hi hl ls H locs h hL hP hS => ih h hL hP hS) h (lv_sub hL [0, 1, 2, 3, 4] rfl) hP hS
set_option maxRecDepth 100000 in
set_option maxHeartbeats 4000000 in
theorem bM_start_0 {p : Program} {l : Launch} {e : Env} {s : State} {m : MethodId} {args : Array Value} {below : List Frame} {meth : Method} {c : Code} {D : va_G} {cI cJ cC cZ cR : ClassId} {ad : Nat → Nat} {A : Nat → Prop} {Zs : State → Prop} (K : Cx p (rmX 5 118) s m args meth c cM_start 6 "WordCheckerModel" gT D cls8 (tys5 cI cJ cC cZ cR) 21 ad A Zs) (hr : meth.sig.returnType = (some .int)) (hZ : ZsOK A Zs) {Φ : Int32 → HI → HL → Prop} {v1 : Int32} {v2 : Int32} {v3 : Int32} {hi : HI} {hl : HL} {H : Heap} {locs : List Loc} (h : wbM_start_0 v1 v2 v3 hi hl Φ) {ls : Array Slot} (hL : lv_has ls 6 [(0, .ref (ad 0)), (1, .int v1), (2, .int v2), (3, .int v3)]) (hP : va_P D cls8 (wl 21 ad (GM cI cZ ad) hi hl) H) (hS : va_S A s.heap H locs) : W p l e (rmX 5 118) s m args below meth c H locs 0 0 (MQ below (va_Qi (fun r (u : HI × HL) => Φ r u.1 u.2) (fun u t => va_P D cls8 (wl 21 ad (GM cI cZ ad) u.1 u.2) t.heap) A) args s 0 0 A) (F0 m 0 ls []) := by
  unfold wbM_start_0 at h
  refine lv_aload_n K.1 K.2.1 dM_start_0 rfl (lv_at hL 0 rfl) ?_
  refine x_cVV (As := []) (rest := []) K gT_good hZ hP hS calM_initz mlM_301 0 (by decide) rfl rfl (mM_initz hZ K.2.2.2.2.2.2.2.1 h) ⟨Nat.le_of_ble_eq_true rfl, Nat.le_of_ble_eq_true rfl⟩ rfl hL.1 rfl (Nat.le_of_ble_eq_true rfl) dM_start_1 (fun hi2 hl3 H locs h hP hS => ?_)
  refine lv_iload_n K.1 K.2.1 dM_start_4 rfl (lv_at hL 2 rfl) ?_
  refine lv_istore (lv' := [(4, .int v2), (0, .ref (ad 0)), (1, .int v1), (2, .int v2), (3, .int v3)]) K.1 K.2.1 dM_start_5 hL (by decide) rfl (fun ls hL => ?_)
  refine lv_iconst (v := 0) K.1 K.2.1 dM_start_7 (by decide) ?_
  refine lv_istore (lv' := [(5, .int (0 : Int32)), (4, .int v2), (0, .ref (ad 0)), (1, .int v1), (2, .int v2), (3, .int v3)]) K.1 K.2.1 dM_start_8 hL (by decide) rfl (fun ls hL => ?_)
  obtain ⟨fu, h⟩ := h
  exact bM_start_10 K hr hZ h (lv_sub hL [2, 3, 5, 1, 0] rfl) hP hS
set_option maxRecDepth 100000 in
set_option maxHeartbeats 4000000 in
theorem mM_start {l : Launch} {D : va_G} {cI cJ cC cZ cR : ClassId} {ad : Nat → Nat} {A : Nat → Prop} {Zs : State → Prop} (hZ : ZsOK A Zs) (hD : wlD 21 ad A) {v1 : Int32} {v2 : Int32} {v3 : Int32} {hi : HI} {hl : HL} {Φ : Int32 → HI → HL → Prop} (h : wpM_start v1 v2 v3 hi hl Φ) : SpI l yM_start cM_start 6 (some .int) gT 5 118 [.ref (ad 0), .int v1, .int v2, .int v3] D cls8 (tys5 cI cJ cC cZ cR) 21 ad (GM cI cZ ad) A Zs hi hl Φ := by
  refine Met.ofW (cc := cM_start) (maxL := 6) (ret := (some .int)) (by decide) rfl ?_
  intro p e s m args below meth c s₁ B hml hv
  obtain ⟨rfl, hP, hK, hZs⟩ := hv
  have K : Cx p (rmX 5 118) s m _ meth c cM_start 6 "WordCheckerModel" gT D cls8 (tys5 cI cJ cC cZ cR) 21 ad A Zs := ⟨B.exec, B.bytes, hml, findClass_of_methodNamed B.named, fun w hw => atoms_spec B.pre w (List.mem_cons_of_mem _ hw), B.notSynchronized, hK, hD, hZs⟩
  have hL := lv_entry ([.ref (ad 0), .int v1, .int v2, .int v3]) (n := 6) (Nat.le_of_ble_eq_true rfl)
  rw [lg_entry_eq]
  generalize (lg_sl ([.ref (ad 0), .int v1, .int v2, .int v3]) ++ List.replicate (6 - (lg_sl ([.ref (ad 0), .int v1, .int v2, .int v3])).length) Slot.unset).toArray = ls at hL ⊢
  have hL : lv_has ls 6 [(0, .ref (ad 0)), (1, .int v1), (2, .int v2), (3, .int v3)] := hL
  unfold wpM_start at h
  exact bM_start_0 K B.returns hZ h (lv_sub hL [0, 1, 2, 3] rfl) hP va_S.rf
set_option maxRecDepth 100000 in
set_option maxHeartbeats 4000000 in
theorem bM_put_65 {p : Program} {l : Launch} {e : Env} {s : State} {m : MethodId} {args : Array Value} {below : List Frame} {meth : Method} {c : Code} {D : va_G} {cI cJ cC cZ cR : ClassId} {ad : Nat → Nat} {A : Nat → Prop} {Zs : State → Prop} (K : Cx p (rmX 4 97) s m args meth c cM_put 5 "WordCheckerModel" gT D cls8 (tys5 cI cJ cC cZ cR) 21 ad A Zs) (hr : meth.sig.returnType = (some .int)) (hZ : ZsOK A Zs) {Φ : Int32 → HI → HL → Prop} {k5 : Int32 → Int32 → Int32 → HI → HL → Prop} (hk5 : ∀ (v1 : Int32) (v3 : Int32) (v4 : Int32) (hi : HI) (hl : HL) (ls : Array Slot) (H : Heap) (locs : List Loc), k5 v1 v3 v4 hi hl → lv_has ls 5 [(0, .ref (ad 0)), (1, .int v1), (3, .int v3), (4, .int v4)] → va_P D cls8 (wl 21 ad (GM cI cZ ad) hi hl) H → va_S A s.heap H locs → W p l e (rmX 4 97) s m args below meth c H locs 0 0 (MQ below (va_Qi (fun r (u : HI × HL) => Φ r u.1 u.2) (fun u t => va_P D cls8 (wl 21 ad (GM cI cZ ad) u.1 u.2) t.heap) A) args s 0 0 A) (F0 m 5 ls [])) {v1 : Int32} {v3 : Int32} {v4 : Int32} {hi : HI} {hl : HL} {H : Heap} {locs : List Loc} (h : wbM_put_65 k5 v1 v3 v4 hi hl Φ) {ls : Array Slot} (hL : lv_has ls 5 [(0, .ref (ad 0)), (1, .int v1), (3, .int v3), (4, .int v4)]) (hP : va_P D cls8 (wl 21 ad (GM cI cZ ad) hi hl) H) (hS : va_S A s.heap H locs) : W p l e (rmX 4 97) s m args below meth c H locs 0 0 (MQ below (va_Qi (fun r (u : HI × HL) => Φ r u.1 u.2) (fun u t => va_P D cls8 (wl 21 ad (GM cI cZ ad) u.1 u.2) t.heap) A) args s 0 0 A) (F0 m 65 ls []) := by
  unfold wbM_put_65 at h
  refine lv_iinc (k := 3) (lv' := [(4, .int (v4 + Int32.ofInt (1))), (0, .ref (ad 0)), (1, .int v1), (3, .int v3)]) K.1 K.2.1 dM_put_65 hL rfl rfl (by decide) rfl (fun ls hL => ?_)
  refine lv_goto (tgt := 5) K.1 K.2.1 dM_put_68 rfl ?_
  exact hk5 _ _ _ _ _ _ _ _ h (lv_sub hL [1, 2, 3, 0] rfl) hP hS
set_option maxRecDepth 100000 in
set_option maxHeartbeats 4000000 in
theorem bM_put_5 {p : Program} {l : Launch} {e : Env} {s : State} {m : MethodId} {args : Array Value} {below : List Frame} {meth : Method} {c : Code} {D : va_G} {cI cJ cC cZ cR : ClassId} {ad : Nat → Nat} {A : Nat → Prop} {Zs : State → Prop} (K : Cx p (rmX 4 97) s m args meth c cM_put 5 "WordCheckerModel" gT D cls8 (tys5 cI cJ cC cZ cR) 21 ad A Zs) (hr : meth.sig.returnType = (some .int)) (hZ : ZsOK A Zs) {Φ : Int32 → HI → HL → Prop} {n : Nat} {v1 : Int32} {v3 : Int32} {v4 : Int32} {hi : HI} {hl : HL} {H : Heap} {locs : List Loc} (h : wbM_put_5 n v1 v3 v4 hi hl Φ) {ls : Array Slot} (hL : lv_has ls 5 [(0, .ref (ad 0)), (1, .int v1), (3, .int v3), (4, .int v4)]) (hP : va_P D cls8 (wl 21 ad (GM cI cZ ad) hi hl) H) (hS : va_S A s.heap H locs) : W p l e (rmX 4 97) s m args below meth c H locs 0 0 (MQ below (va_Qi (fun r (u : HI × HL) => Φ r u.1 u.2) (fun u t => va_P D cls8 (wl 21 ad (GM cI cZ ad) u.1 u.2) t.heap) A) args s 0 0 A) (F0 m 5 ls []) := by
  induction n generalizing v1 v3 v4 hi hl ls H locs with
  | zero => exact False.elim h
  | succ n ih =>
    unfold wbM_put_5 at h
    refine lv_iload K.1 K.2.1 dM_put_5 (lv_at hL 3 rfl) ?_
    refine lv_aload_n K.1 K.2.1 dM_put_7 rfl (lv_at hL 0 rfl) ?_
    refine x_get (v := .int (hi 0 6)) K hP hinM (ci := 7) rfl 0 (by decide) rfl 6 (by decide) flM_155 rfl rfl dM_put_8 ?_
    refine lv_icmp_ge (tgt := 71) K.1 K.2.1 dM_put_11 rfl (fun hc => ?_) (fun hc => ?_)
    · have h := h.1 hc
      refine lv_aload_n K.1 K.2.1 dM_put_71 rfl (lv_at hL 0 rfl) ?_
      refine x_cVV (As := []) (rest := []) K gT_good hZ hP hS calM_settle mlM_295 0 (by decide) rfl rfl (mM_settle hZ K.2.2.2.2.2.2.2.1 h) ⟨Nat.le_of_ble_eq_true rfl, Nat.le_of_ble_eq_true rfl⟩ rfl hL.1 rfl (Nat.le_of_ble_eq_true rfl) dM_put_72 (fun hi2 hl3 H locs h hP hS => ?_)
      refine lv_iload_n K.1 K.2.1 dM_put_75 rfl (lv_at hL 2 rfl) ?_
      exact x_iret K hr hP hS h dM_put_76
    · have h := h.2 hc
      refine lv_aload_n K.1 K.2.1 dM_put_14 rfl (lv_at hL 0 rfl) ?_
      refine x_get (v := .ref (ad 5)) K hP hinM (ci := 7) rfl 0 (by decide) rfl 8 (by decide) flM_22 rfl rfl dM_put_15 ?_
      refine lv_iload K.1 K.2.1 dM_put_18 (lv_at hL 3 rfl) ?_
      obtain ⟨g4, h⟩ := h
      refine x_iald K hP 5 (by decide) 0 rfl rfl g4 dM_put_20 ?_
      refine lv_iconst (v := 1) K.1 K.2.1 dM_put_21 (by decide) ?_
      refine lv_icmp_ne (tgt := 65) K.1 K.2.1 dM_put_22 rfl (fun hc => ?_) (fun hc => ?_)
      · have h := h.2 hc
        exact bM_put_65 K hr hZ (fun v1 v3 v4 hi hl ls H locs h hL hP hS => ih h hL hP hS) h (lv_sub hL [0, 1, 2, 3] rfl) hP hS
      · have h := h.1 hc
        refine lv_iload_n K.1 K.2.1 dM_put_25 rfl (lv_at hL 2 rfl) ?_
        refine lv_aload_n K.1 K.2.1 dM_put_26 rfl (lv_at hL 0 rfl) ?_
        refine lv_aload_n K.1 K.2.1 dM_put_27 rfl (lv_at hL 0 rfl) ?_
        refine x_get (v := .ref (ad 6)) K hP hinM (ci := 7) rfl 0 (by decide) rfl 9 (by decide) flM_25 rfl rfl dM_put_28 ?_
        refine lv_iload K.1 K.2.1 dM_put_31 (lv_at hL 3 rfl) ?_
        obtain ⟨g5, h⟩ := h
        refine x_iald K hP 6 (by decide) 0 rfl rfl g5 dM_put_33 ?_
        refine x_cVI (As := [.int (hi 6 (v4.toNatClampNeg))]) (rest := [.int v3]) K gT_good hZ hP hS calM_bits mlM_202 0 (by decide) rfl rfl (mM_bits hZ K.2.2.2.2.2.2.2.1 h) ⟨Nat.le_of_ble_eq_true rfl, Nat.le_of_ble_eq_true rfl⟩ rfl hL.1 rfl (Nat.le_of_ble_eq_true rfl) dM_put_34 (fun r6 hi7 hl8 H locs h hP hS => ?_)
        refine lv_isub K.1 K.2.1 dM_put_37 ?_
        refine lv_istore_n (lv' := [(3, .int (v3 - r6)), (0, .ref (ad 0)), (1, .int v1), (4, .int v4)]) K.1 K.2.1 dM_put_38 rfl hL (by decide) rfl (fun ls hL => ?_)
        refine lv_aload_n K.1 K.2.1 dM_put_39 rfl (lv_at hL 1 rfl) ?_
        refine x_get (v := .ref (ad 17)) K hP hinM (ci := 7) rfl 0 (by decide) rfl 21 (by decide) flM_59 rfl rfl dM_put_40 ?_
        refine lv_iload K.1 K.2.1 dM_put_43 (lv_at hL 3 rfl) ?_
        refine lv_iload_n K.1 K.2.1 dM_put_45 rfl (lv_at hL 2 rfl) ?_
        refine lv_iload_n K.1 K.2.1 dM_put_46 rfl (lv_at hL 0 rfl) ?_
        refine lv_ishr K.1 K.2.1 dM_put_47 ?_
        refine lv_iconst (v := 1) K.1 K.2.1 dM_put_48 (by decide) ?_
        refine lv_aload_n K.1 K.2.1 dM_put_49 rfl (lv_at hL 1 rfl) ?_
        refine lv_aload_n K.1 K.2.1 dM_put_50 rfl (lv_at hL 1 rfl) ?_
        refine x_get (v := .ref (ad 6)) K hP hinM (ci := 7) rfl 0 (by decide) rfl 9 (by decide) flM_25 rfl rfl dM_put_51 ?_
        refine lv_iload K.1 K.2.1 dM_put_54 (lv_at hL 3 rfl) ?_
        obtain ⟨g9, h⟩ := h
        refine x_iald K hP 6 (by decide) 0 rfl rfl g9 dM_put_56 ?_
        refine x_cVI (As := [.int (hi7 6 (v4.toNatClampNeg))]) (rest := [.int (1 : Int32), .int (v1 >>> ((v3 - r6) &&& 31)), .int v4, .ref (ad 17)]) K gT_good hZ hP hS calM_bits mlM_202 0 (by decide) rfl rfl (mM_bits hZ K.2.2.2.2.2.2.2.1 h) ⟨Nat.le_of_ble_eq_true rfl, Nat.le_of_ble_eq_true rfl⟩ rfl hL.1 rfl (Nat.le_of_ble_eq_true rfl) dM_put_57 (fun r10 hi11 hl12 H locs h hP hS => ?_)
        refine lv_ishl K.1 K.2.1 dM_put_60 ?_
        refine lv_iconst (v := 1) K.1 K.2.1 dM_put_61 (by decide) ?_
        refine lv_isub K.1 K.2.1 dM_put_62 ?_
        refine lv_iand K.1 K.2.1 dM_put_63 ?_
        obtain ⟨g13, h⟩ := h
        refine x_iast K hP hS 17 (by decide) 0 (fun _ => rfl) rfl g13 dM_put_64 (fun H locs hP hS => ?_)
        exact bM_put_65 K hr hZ (fun v1 v3 v4 hi hl ls H locs h hL hP hS => ih h hL hP hS) h (lv_sub hL [1, 2, 0, 3] rfl) hP hS
set_option maxRecDepth 100000 in
set_option maxHeartbeats 4000000 in
theorem bM_put_0 {p : Program} {l : Launch} {e : Env} {s : State} {m : MethodId} {args : Array Value} {below : List Frame} {meth : Method} {c : Code} {D : va_G} {cI cJ cC cZ cR : ClassId} {ad : Nat → Nat} {A : Nat → Prop} {Zs : State → Prop} (K : Cx p (rmX 4 97) s m args meth c cM_put 5 "WordCheckerModel" gT D cls8 (tys5 cI cJ cC cZ cR) 21 ad A Zs) (hr : meth.sig.returnType = (some .int)) (hZ : ZsOK A Zs) {Φ : Int32 → HI → HL → Prop} {v1 : Int32} {v2 : Int32} {hi : HI} {hl : HL} {H : Heap} {locs : List Loc} (h : wbM_put_0 v1 v2 hi hl Φ) {ls : Array Slot} (hL : lv_has ls 5 [(0, .ref (ad 0)), (1, .int v1), (2, .int v2)]) (hP : va_P D cls8 (wl 21 ad (GM cI cZ ad) hi hl) H) (hS : va_S A s.heap H locs) : W p l e (rmX 4 97) s m args below meth c H locs 0 0 (MQ below (va_Qi (fun r (u : HI × HL) => Φ r u.1 u.2) (fun u t => va_P D cls8 (wl 21 ad (GM cI cZ ad) u.1 u.2) t.heap) A) args s 0 0 A) (F0 m 0 ls []) := by
  unfold wbM_put_0 at h
  refine lv_iload_n K.1 K.2.1 dM_put_0 rfl (lv_at hL 2 rfl) ?_
  refine lv_istore_n (lv' := [(3, .int v2), (0, .ref (ad 0)), (1, .int v1), (2, .int v2)]) K.1 K.2.1 dM_put_1 rfl hL (by decide) rfl (fun ls hL => ?_)
  refine lv_iconst (v := 0) K.1 K.2.1 dM_put_2 (by decide) ?_
  refine lv_istore (lv' := [(4, .int (0 : Int32)), (3, .int v2), (0, .ref (ad 0)), (1, .int v1), (2, .int v2)]) K.1 K.2.1 dM_put_3 hL (by decide) rfl (fun ls hL => ?_)
  obtain ⟨fu, h⟩ := h
  exact bM_put_5 K hr hZ h (lv_sub hL [2, 3, 1, 0] rfl) hP hS
set_option maxRecDepth 100000 in
set_option maxHeartbeats 4000000 in
theorem mM_put {l : Launch} {D : va_G} {cI cJ cC cZ cR : ClassId} {ad : Nat → Nat} {A : Nat → Prop} {Zs : State → Prop} (hZ : ZsOK A Zs) (hD : wlD 21 ad A) {v1 : Int32} {v2 : Int32} {hi : HI} {hl : HL} {Φ : Int32 → HI → HL → Prop} (h : wpM_put v1 v2 hi hl Φ) : SpI l yM_put cM_put 5 (some .int) gT 4 97 [.ref (ad 0), .int v1, .int v2] D cls8 (tys5 cI cJ cC cZ cR) 21 ad (GM cI cZ ad) A Zs hi hl Φ := by
  refine Met.ofW (cc := cM_put) (maxL := 5) (ret := (some .int)) (by decide) rfl ?_
  intro p e s m args below meth c s₁ B hml hv
  obtain ⟨rfl, hP, hK, hZs⟩ := hv
  have K : Cx p (rmX 4 97) s m _ meth c cM_put 5 "WordCheckerModel" gT D cls8 (tys5 cI cJ cC cZ cR) 21 ad A Zs := ⟨B.exec, B.bytes, hml, findClass_of_methodNamed B.named, fun w hw => atoms_spec B.pre w (List.mem_cons_of_mem _ hw), B.notSynchronized, hK, hD, hZs⟩
  have hL := lv_entry ([.ref (ad 0), .int v1, .int v2]) (n := 5) (Nat.le_of_ble_eq_true rfl)
  rw [lg_entry_eq]
  generalize (lg_sl ([.ref (ad 0), .int v1, .int v2]) ++ List.replicate (5 - (lg_sl ([.ref (ad 0), .int v1, .int v2])).length) Slot.unset).toArray = ls at hL ⊢
  have hL : lv_has ls 5 [(0, .ref (ad 0)), (1, .int v1), (2, .int v2)] := hL
  unfold wpM_put at h
  exact bM_put_0 K B.returns hZ h (lv_sub hL [0, 1, 2] rfl) hP va_S.rf
set_option maxRecDepth 100000 in
set_option maxHeartbeats 4000000 in
theorem bM_states_45 {p : Program} {l : Launch} {e : Env} {s : State} {m : MethodId} {args : Array Value} {below : List Frame} {meth : Method} {c : Code} {D : va_G} {cI cJ cC cZ cR : ClassId} {ad : Nat → Nat} {A : Nat → Prop} {Zs : State → Prop} (K : Cx p (rmX 1 21) s m args meth c cM_states 3 "WordCheckerModel" gT D cls8 (tys5 cI cJ cC cZ cR) 21 ad A Zs) (hr : meth.sig.returnType = (some .int)) (hZ : ZsOK A Zs) {Φ : Int32 → HI → HL → Prop} {k4 : Int32 → Int32 → HI → HL → Prop} (hk4 : ∀ (v1 : Int32) (v2 : Int32) (hi : HI) (hl : HL) (ls : Array Slot) (H : Heap) (locs : List Loc), k4 v1 v2 hi hl → lv_has ls 3 [(0, .ref (ad 0)), (1, .int v1), (2, .int v2)] → va_P D cls8 (wl 21 ad (GM cI cZ ad) hi hl) H → va_S A s.heap H locs → W p l e (rmX 1 21) s m args below meth c H locs 0 0 (MQ below (va_Qi (fun r (u : HI × HL) => Φ r u.1 u.2) (fun u t => va_P D cls8 (wl 21 ad (GM cI cZ ad) u.1 u.2) t.heap) A) args s 0 0 A) (F0 m 4 ls [])) {v2 : Int32} {q0 : Int32} {hi : HI} {hl : HL} {H : Heap} {locs : List Loc} (h : wbM_states_45 k4 v2 q0 hi hl Φ) {ls : Array Slot} (hL : lv_has ls 3 [(0, .ref (ad 0)), (2, .int v2)]) (hP : va_P D cls8 (wl 21 ad (GM cI cZ ad) hi hl) H) (hS : va_S A s.heap H locs) : W p l e (rmX 1 21) s m args below meth c H locs 0 0 (MQ below (va_Qi (fun r (u : HI × HL) => Φ r u.1 u.2) (fun u t => va_P D cls8 (wl 21 ad (GM cI cZ ad) u.1 u.2) t.heap) A) args s 0 0 A) (F0 m 45 ls [.int q0]) := by
  unfold wbM_states_45 at h
  refine lv_istore_n (lv' := [(1, .int q0), (0, .ref (ad 0)), (2, .int v2)]) K.1 K.2.1 dM_states_45 rfl hL (by decide) rfl (fun ls hL => ?_)
  refine lv_iinc (k := 2) (lv' := [(2, .int (v2 + Int32.ofInt (1))), (1, .int q0), (0, .ref (ad 0))]) K.1 K.2.1 dM_states_46 hL rfl rfl (by decide) rfl (fun ls hL => ?_)
  refine lv_goto (tgt := 4) K.1 K.2.1 dM_states_49 rfl ?_
  exact hk4 _ _ _ _ _ _ _ h (lv_sub hL [2, 1, 0] rfl) hP hS
set_option maxRecDepth 100000 in
set_option maxHeartbeats 4000000 in
theorem bM_states_4 {p : Program} {l : Launch} {e : Env} {s : State} {m : MethodId} {args : Array Value} {below : List Frame} {meth : Method} {c : Code} {D : va_G} {cI cJ cC cZ cR : ClassId} {ad : Nat → Nat} {A : Nat → Prop} {Zs : State → Prop} (K : Cx p (rmX 1 21) s m args meth c cM_states 3 "WordCheckerModel" gT D cls8 (tys5 cI cJ cC cZ cR) 21 ad A Zs) (hr : meth.sig.returnType = (some .int)) (hZ : ZsOK A Zs) {Φ : Int32 → HI → HL → Prop} {n : Nat} {v1 : Int32} {v2 : Int32} {hi : HI} {hl : HL} {H : Heap} {locs : List Loc} (h : wbM_states_4 n v1 v2 hi hl Φ) {ls : Array Slot} (hL : lv_has ls 3 [(0, .ref (ad 0)), (1, .int v1), (2, .int v2)]) (hP : va_P D cls8 (wl 21 ad (GM cI cZ ad) hi hl) H) (hS : va_S A s.heap H locs) : W p l e (rmX 1 21) s m args below meth c H locs 0 0 (MQ below (va_Qi (fun r (u : HI × HL) => Φ r u.1 u.2) (fun u t => va_P D cls8 (wl 21 ad (GM cI cZ ad) u.1 u.2) t.heap) A) args s 0 0 A) (F0 m 4 ls []) := by
  induction n generalizing v1 v2 hi hl ls H locs with
  | zero => exact False.elim h
  | succ n ih =>
    unfold wbM_states_4 at h
    refine lv_iload_n K.1 K.2.1 dM_states_4 rfl (lv_at hL 2 rfl) ?_
    refine lv_aload_n K.1 K.2.1 dM_states_5 rfl (lv_at hL 0 rfl) ?_
    refine x_get (v := .int (hi 0 6)) K hP hinM (ci := 7) rfl 0 (by decide) rfl 6 (by decide) flM_155 rfl rfl dM_states_6 ?_
    refine lv_icmp_ge (tgt := 52) K.1 K.2.1 dM_states_9 rfl (fun hc => ?_) (fun hc => ?_)
    · have h := h.1 hc
      refine lv_iload_n K.1 K.2.1 dM_states_52 rfl (lv_at hL 1 rfl) ?_
      exact x_iret K hr hP hS h dM_states_53
    · have h := h.2 hc
      refine lv_aload_n K.1 K.2.1 dM_states_12 rfl (lv_at hL 0 rfl) ?_
      refine x_get (v := .ref (ad 5)) K hP hinM (ci := 7) rfl 0 (by decide) rfl 8 (by decide) flM_22 rfl rfl dM_states_13 ?_
      refine lv_iload_n K.1 K.2.1 dM_states_16 rfl (lv_at hL 2 rfl) ?_
      obtain ⟨g1, h⟩ := h
      refine x_iald K hP 5 (by decide) 0 rfl rfl g1 dM_states_17 ?_
      refine lv_iconst (v := 2) K.1 K.2.1 dM_states_18 (by decide) ?_
      refine lv_icmp_ne (tgt := 44) K.1 K.2.1 dM_states_19 rfl (fun hc => ?_) (fun hc => ?_)
      · have h := h.2 hc
        refine lv_iload_n K.1 K.2.1 dM_states_44 rfl (lv_at hL 1 rfl) ?_
        exact bM_states_45 K hr hZ (fun v1 v2 hi hl ls H locs h hL hP hS => ih h hL hP hS) h (lv_sub hL [0, 2] rfl) hP hS
      · have h := h.1 hc
        refine lv_iload_n K.1 K.2.1 dM_states_22 rfl (lv_at hL 1 rfl) ?_
        refine lv_aload_n K.1 K.2.1 dM_states_23 rfl (lv_at hL 0 rfl) ?_
        refine lv_aload_n K.1 K.2.1 dM_states_24 rfl (lv_at hL 0 rfl) ?_
        refine x_get (v := .ref (ad 6)) K hP hinM (ci := 7) rfl 0 (by decide) rfl 9 (by decide) flM_25 rfl rfl dM_states_25 ?_
        refine lv_iload_n K.1 K.2.1 dM_states_28 rfl (lv_at hL 2 rfl) ?_
        obtain ⟨g2, h⟩ := h
        refine x_iald K hP 6 (by decide) 0 rfl rfl g2 dM_states_29 ?_
        refine x_cVI (As := [.int (hi 6 (v2.toNatClampNeg))]) (rest := [.int v1]) K gT_good hZ hP hS calM_bits mlM_202 0 (by decide) rfl rfl (mM_bits hZ K.2.2.2.2.2.2.2.1 h) ⟨Nat.le_of_ble_eq_true rfl, Nat.le_of_ble_eq_true rfl⟩ rfl hL.1 rfl (Nat.le_of_ble_eq_true rfl) dM_states_30 (fun r3 hi4 hl5 H locs h hP hS => ?_)
        refine lv_ishl K.1 K.2.1 dM_states_33 ?_
        refine lv_aload_n K.1 K.2.1 dM_states_34 rfl (lv_at hL 0 rfl) ?_
        refine x_get (v := .ref (ad 17)) K hP hinM (ci := 7) rfl 0 (by decide) rfl 21 (by decide) flM_59 rfl rfl dM_states_35 ?_
        refine lv_iload_n K.1 K.2.1 dM_states_38 rfl (lv_at hL 2 rfl) ?_
        obtain ⟨g6, h⟩ := h
        refine x_iald K hP 17 (by decide) 0 rfl rfl g6 dM_states_39 ?_
        refine lv_iadd K.1 K.2.1 dM_states_40 ?_
        refine lv_goto (tgt := 45) K.1 K.2.1 dM_states_41 rfl ?_
        exact bM_states_45 K hr hZ (fun v1 v2 hi hl ls H locs h hL hP hS => ih h hL hP hS) h (lv_sub hL [0, 2] rfl) hP hS
set_option maxRecDepth 100000 in
set_option maxHeartbeats 4000000 in
theorem bM_states_0 {p : Program} {l : Launch} {e : Env} {s : State} {m : MethodId} {args : Array Value} {below : List Frame} {meth : Method} {c : Code} {D : va_G} {cI cJ cC cZ cR : ClassId} {ad : Nat → Nat} {A : Nat → Prop} {Zs : State → Prop} (K : Cx p (rmX 1 21) s m args meth c cM_states 3 "WordCheckerModel" gT D cls8 (tys5 cI cJ cC cZ cR) 21 ad A Zs) (hr : meth.sig.returnType = (some .int)) (hZ : ZsOK A Zs) {Φ : Int32 → HI → HL → Prop} {hi : HI} {hl : HL} {H : Heap} {locs : List Loc} (h : wbM_states_0 hi hl Φ) {ls : Array Slot} (hL : lv_has ls 3 [(0, .ref (ad 0))]) (hP : va_P D cls8 (wl 21 ad (GM cI cZ ad) hi hl) H) (hS : va_S A s.heap H locs) : W p l e (rmX 1 21) s m args below meth c H locs 0 0 (MQ below (va_Qi (fun r (u : HI × HL) => Φ r u.1 u.2) (fun u t => va_P D cls8 (wl 21 ad (GM cI cZ ad) u.1 u.2) t.heap) A) args s 0 0 A) (F0 m 0 ls []) := by
  unfold wbM_states_0 at h
  refine lv_iconst (v := 0) K.1 K.2.1 dM_states_0 (by decide) ?_
  refine lv_istore_n (lv' := [(1, .int (0 : Int32)), (0, .ref (ad 0))]) K.1 K.2.1 dM_states_1 rfl hL (by decide) rfl (fun ls hL => ?_)
  refine lv_iconst (v := 0) K.1 K.2.1 dM_states_2 (by decide) ?_
  refine lv_istore_n (lv' := [(2, .int (0 : Int32)), (1, .int (0 : Int32)), (0, .ref (ad 0))]) K.1 K.2.1 dM_states_3 rfl hL (by decide) rfl (fun ls hL => ?_)
  obtain ⟨fu, h⟩ := h
  exact bM_states_4 K hr hZ h (lv_sub hL [2, 1, 0] rfl) hP hS
set_option maxRecDepth 100000 in
set_option maxHeartbeats 4000000 in
theorem mM_states {l : Launch} {D : va_G} {cI cJ cC cZ cR : ClassId} {ad : Nat → Nat} {A : Nat → Prop} {Zs : State → Prop} (hZ : ZsOK A Zs) (hD : wlD 21 ad A) {hi : HI} {hl : HL} {Φ : Int32 → HI → HL → Prop} (h : wpM_states hi hl Φ) : SpI l yM_states cM_states 3 (some .int) gT 1 21 [.ref (ad 0)] D cls8 (tys5 cI cJ cC cZ cR) 21 ad (GM cI cZ ad) A Zs hi hl Φ := by
  refine Met.ofW (cc := cM_states) (maxL := 3) (ret := (some .int)) (by decide) rfl ?_
  intro p e s m args below meth c s₁ B hml hv
  obtain ⟨rfl, hP, hK, hZs⟩ := hv
  have K : Cx p (rmX 1 21) s m _ meth c cM_states 3 "WordCheckerModel" gT D cls8 (tys5 cI cJ cC cZ cR) 21 ad A Zs := ⟨B.exec, B.bytes, hml, findClass_of_methodNamed B.named, fun w hw => atoms_spec B.pre w (List.mem_cons_of_mem _ hw), B.notSynchronized, hK, hD, hZs⟩
  have hL := lv_entry ([.ref (ad 0)]) (n := 3) (Nat.le_of_ble_eq_true rfl)
  rw [lg_entry_eq]
  generalize (lg_sl ([.ref (ad 0)]) ++ List.replicate (3 - (lg_sl ([.ref (ad 0)])).length) Slot.unset).toArray = ls at hL ⊢
  have hL : lv_has ls 3 [(0, .ref (ad 0))] := hL
  unfold wpM_states at h
  exact bM_states_0 K B.returns hZ h (lv_sub hL [0] rfl) hP va_S.rf
