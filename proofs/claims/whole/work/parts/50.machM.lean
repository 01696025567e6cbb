set_option maxRecDepth 100000 in
set_option maxHeartbeats 4000000 in
theorem bM_in_14 {p : Program} {l : Launch} {e : Env} {s : State} {m : MethodId} {args : Array Value} {below : List Frame} {meth : Method} {c : Code} {D : va_G} {cI cJ cC cZ cR : ClassId} {ad : Nat → Nat} {A : Nat → Prop} {Zs : State → Prop} (K : Cx p (rmX 0 0) s m args meth c cM_in 3 "WordCheckerModel" gT D cls8 (tys5 cI cJ cC cZ cR) 21 ad A Zs) (hr : meth.sig.returnType = (some .boolean)) (hZ : ZsOK A Zs) {Φ : Int32 → HI → HL → Prop} {hi : HI} {hl : HL} {H : Heap} {locs : List Loc} (h : wbM_in_14 hi hl Φ) {ls : Array Slot} (hL : lv_has ls 3 []) (hP : va_P D cls8 (wl 21 ad (GM cI cZ ad) hi hl) H) (hS : va_S A s.heap H locs) : W p l e (rmX 0 0) s m args below meth c H locs 0 0 (MQ below (va_Qi (fun r (u : HI × HL) => Φ r u.1 u.2) (fun u t => va_P D cls8 (wl 21 ad (GM cI cZ ad) u.1 u.2) t.heap) A) args s 0 0 A) (F0 m 14 ls []) := by
  unfold wbM_in_14 at h
  refine lv_iconst (v := 0) K.1 K.2.1 dM_in_14 (by decide) ?_
  obtain ⟨g1, h⟩ := h
  exact x_zret K hr hP hS g1 h dM_in_15
set_option maxRecDepth 100000 in
set_option maxHeartbeats 4000000 in
theorem bM_in_0 {p : Program} {l : Launch} {e : Env} {s : State} {m : MethodId} {args : Array Value} {below : List Frame} {meth : Method} {c : Code} {D : va_G} {cI cJ cC cZ cR : ClassId} {ad : Nat → Nat} {A : Nat → Prop} {Zs : State → Prop} (K : Cx p (rmX 0 0) s m args meth c cM_in 3 "WordCheckerModel" gT D cls8 (tys5 cI cJ cC cZ cR) 21 ad A Zs) (hr : meth.sig.returnType = (some .boolean)) (hZ : ZsOK A Zs) {Φ : Int32 → HI → HL → Prop} {v0 : Int32} {v1 : Int32} {v2 : Int32} {hi : HI} {hl : HL} {H : Heap} {locs : List Loc} (h : wbM_in_0 v0 v1 v2 hi hl Φ) {ls : Array Slot} (hL : lv_has ls 3 [(0, .int v0), (1, .int v1), (2, .int v2)]) (hP : va_P D cls8 (wl 21 ad (GM cI cZ ad) hi hl) H) (hS : va_S A s.heap H locs) : W p l e (rmX 0 0) s m args below meth c H locs 0 0 (MQ below (va_Qi (fun r (u : HI × HL) => Φ r u.1 u.2) (fun u t => va_P D cls8 (wl 21 ad (GM cI cZ ad) u.1 u.2) t.heap) A) args s 0 0 A) (F0 m 0 ls []) := by
  unfold wbM_in_0 at h
  refine lv_iload_n K.1 K.2.1 dM_in_0 rfl (lv_at hL 0 rfl) ?_
  refine lv_iload_n K.1 K.2.1 dM_in_1 rfl (lv_at hL 1 rfl) ?_
  refine lv_icmp_lt (tgt := 14) K.1 K.2.1 dM_in_2 rfl (fun hc => ?_) (fun hc => ?_)
  · have h := h.1 hc
    exact bM_in_14 K hr hZ h (lv_sub hL [] rfl) hP hS
  · have h := h.2 hc
    refine lv_iload_n K.1 K.2.1 dM_in_5 rfl (lv_at hL 0 rfl) ?_
    refine lv_iload_n K.1 K.2.1 dM_in_6 rfl (lv_at hL 2 rfl) ?_
    refine lv_icmp_gt (tgt := 14) K.1 K.2.1 dM_in_7 rfl (fun hc => ?_) (fun hc => ?_)
    · have h := h.1 hc
      exact bM_in_14 K hr hZ h (lv_sub hL [] rfl) hP hS
    · have h := h.2 hc
      refine lv_iconst (v := 1) K.1 K.2.1 dM_in_10 (by decide) ?_
      refine lv_goto (tgt := 15) K.1 K.2.1 dM_in_11 rfl ?_
      obtain ⟨g1, h⟩ := h
      exact x_zret K hr hP hS g1 h dM_in_15
set_option maxRecDepth 100000 in
set_option maxHeartbeats 4000000 in
theorem mM_in {l : Launch} {D : va_G} {cI cJ cC cZ cR : ClassId} {ad : Nat → Nat} {A : Nat → Prop} {Zs : State → Prop} (hZ : ZsOK A Zs) (hD : wlD 21 ad A) {v0 : Int32} {v1 : Int32} {v2 : Int32} {hi : HI} {hl : HL} {Φ : Int32 → HI → HL → Prop} (h : wpM_in v0 v1 v2 hi hl Φ) : SpI l yM_in cM_in 3 (some .boolean) gT 0 0 [.int v0, .int v1, .int v2] D cls8 (tys5 cI cJ cC cZ cR) 21 ad (GM cI cZ ad) A Zs hi hl Φ := by
  refine Met.ofW (cc := cM_in) (maxL := 3) (ret := (some .boolean)) (by decide) rfl ?_
  intro p e s m args below meth c s₁ B hml hv
  obtain ⟨rfl, hP, hK, hZs⟩ := hv
  have K : Cx p (rmX 0 0) s m _ meth c cM_in 3 "WordCheckerModel" gT D cls8 (tys5 cI cJ cC cZ cR) 21 ad A Zs := ⟨B.exec, B.bytes, hml, findClass_of_methodNamed B.named, fun w hw => atoms_spec B.pre w (List.mem_cons_of_mem _ hw), B.notSynchronized, hK, hD, hZs⟩
  have hL := lv_entry ([.int v0, .int v1, .int v2]) (n := 3) (Nat.le_of_ble_eq_true rfl)
  rw [lg_entry_eq]
  generalize (lg_sl ([.int v0, .int v1, .int v2]) ++ List.replicate (3 - (lg_sl ([.int v0, .int v1, .int v2])).length) Slot.unset).toArray = ls at hL ⊢
  have hL : lv_has ls 3 [(0, .int v0), (1, .int v1), (2, .int v2)] := hL
  unfold wpM_in at h
  exact bM_in_0 K B.returns hZ h (lv_sub hL [0, 1, 2] rfl) hP va_S.rf
set_option maxRecDepth 100000 in
set_option maxHeartbeats 4000000 in
theorem bM_type_69 {p : Program} {l : Launch} {e : Env} {s : State} {m : MethodId} {args : Array Value} {below : List Frame} {meth : Method} {c : Code} {D : va_G} {cI cJ cC cZ cR : ClassId} {ad : Nat → Nat} {A : Nat → Prop} {Zs : State → Prop} (K : Cx p (rmX 1 22) s m args meth c cM_type 5 "WordCheckerModel" gT D cls8 (tys5 cI cJ cC cZ cR) 21 ad A Zs) (hr : meth.sig.returnType = (some .boolean)) (hZ : ZsOK A Zs) {Φ : Int32 → HI → HL → Prop} {n : Nat} {v1 : Int32} {v3 : Int32} {v4 : Int32} {hi : HI} {hl : HL} {H : Heap} {locs : List Loc} (h : wbM_type_69 n v1 v3 v4 hi hl Φ) {ls : Array Slot} (hL : lv_has ls 5 [(0, .ref (ad 0)), (1, .int v1), (3, .int v3), (4, .int v4)]) (hP : va_P D cls8 (wl 21 ad (GM cI cZ ad) hi hl) H) (hS : va_S A s.heap H locs) : W p l e (rmX 1 22) s m args below meth c H locs 0 0 (MQ below (va_Qi (fun r (u : HI × HL) => Φ r u.1 u.2) (fun u t => va_P D cls8 (wl 21 ad (GM cI cZ ad) u.1 u.2) t.heap) A) args s 0 0 A) (F0 m 69 ls []) := by
  induction n generalizing v1 v3 v4 hi hl ls H locs with
  | zero => exact False.elim h
  | succ n ih =>
    unfold wbM_type_69 at h
    refine lv_iload K.1 K.2.1 dM_type_69 (lv_at hL 3 rfl) ?_
    refine lv_if_lt (tgt := 114) K.1 K.2.1 dM_type_71 rfl (fun hc => ?_) (fun hc => ?_)
    · have h := h.1 hc
      refine lv_iload_n K.1 K.2.1 dM_type_114 rfl (lv_at hL 2 rfl) ?_
      obtain ⟨g1, h⟩ := h
      exact x_zret K hr hP hS g1 h dM_type_115
    · have h := h.2 hc
      refine lv_iload_n K.1 K.2.1 dM_type_74 rfl (lv_at hL 2 rfl) ?_
      refine lv_if_eq (tgt := 114) K.1 K.2.1 dM_type_75 rfl (fun hc => ?_) (fun hc => ?_)
      · have h := h.1 hc
        refine lv_iload_n K.1 K.2.1 dM_type_114 rfl (lv_at hL 2 rfl) ?_
        obtain ⟨g2, h⟩ := h
        exact x_zret K hr hP hS g2 h dM_type_115
      · have h := h.2 hc
        refine lv_aload_n K.1 K.2.1 dM_type_78 rfl (lv_at hL 0 rfl) ?_
        refine x_get (v := .ref (ad 1)) K hP hinM (ci := 7) rfl 0 (by decide) rfl 0 (by decide) flM_7 rfl rfl dM_type_79 ?_
        refine lv_aload_n K.1 K.2.1 dM_type_82 rfl (lv_at hL 0 rfl) ?_
        refine x_get (v := .int (hi 0 1)) K hP hinM (ci := 7) rfl 0 (by decide) rfl 1 (by decide) flM_79 rfl rfl dM_type_83 ?_
        refine lv_iload_n K.1 K.2.1 dM_type_86 rfl (lv_at hL 1 rfl) ?_
        refine lv_bipush (v := 8) K.1 K.2.1 dM_type_87 (by decide) ?_
        refine lv_iload K.1 K.2.1 dM_type_89 (lv_at hL 3 rfl) ?_
        refine lv_imul K.1 K.2.1 dM_type_91 ?_
        refine lv_ishr K.1 K.2.1 dM_type_92 ?_
        refine lv_sipush (v := 255) K.1 K.2.1 dM_type_93 (by decide) ?_
        refine lv_iand K.1 K.2.1 dM_type_96 ?_
        obtain ⟨g3, h⟩ := h
        refine x_iast K hP hS 1 (by decide) 0 (fun _ => rfl) rfl g3 dM_type_97 (fun H locs hP hS => ?_)
        refine lv_aload_n K.1 K.2.1 dM_type_98 rfl (lv_at hL 0 rfl) ?_
        refine lv_aload_n K.1 K.2.1 dM_type_99 rfl (lv_at hL 0 rfl) ?_
        refine x_get (v := .int ((u2 hi 1 ((hi 0 1).toNatClampNeg) ((v1 >>> (((8 : Int32) * v4) &&& 31)) &&& (255 : Int32))) 0 1)) K hP hinM (ci := 7) rfl 0 (by decide) rfl 1 (by decide) flM_79 rfl rfl dM_type_100 ?_
        refine lv_iconst (v := 1) K.1 K.2.1 dM_type_103 (by decide) ?_
        refine lv_iadd K.1 K.2.1 dM_type_104 ?_
        refine x_put (v := .int (((u2 hi 1 ((hi 0 1).toNatClampNeg) ((v1 >>> (((8 : Int32) * v4) &&& 31)) &&& (255 : Int32))) 0 1) + (1 : Int32))) K hP hS hinM tyM tyM_ok nmM (ci := 7) rfl 0 (by decide) rfl 1 (by decide) flM_79 rfl rfl (((u2 hi 1 ((hi 0 1).toNatClampNeg) ((v1 >>> (((8 : Int32) * v4) &&& 31)) &&& (255 : Int32))) 0 1) + (1 : Int32)) rfl rfl rfl (Nat.le_of_ble_eq_true rfl) dM_type_105 (fun H locs hP hS => ?_)
        refine lv_iinc (k := 3) (lv' := [(4, .int (v4 + Int32.ofInt (-1))), (0, .ref (ad 0)), (1, .int v1), (3, .int v3)]) K.1 K.2.1 dM_type_108 hL rfl rfl (by decide) rfl (fun ls hL => ?_)
        refine lv_goto (tgt := 69) K.1 K.2.1 dM_type_111 rfl ?_
        exact ih h (lv_sub hL [1, 2, 3, 0] rfl) hP hS
set_option maxRecDepth 100000 in
set_option maxHeartbeats 4000000 in
theorem bM_type_64 {p : Program} {l : Launch} {e : Env} {s : State} {m : MethodId} {args : Array Value} {below : List Frame} {meth : Method} {c : Code} {D : va_G} {cI cJ cC cZ cR : ClassId} {ad : Nat → Nat} {A : Nat → Prop} {Zs : State → Prop} (K : Cx p (rmX 1 22) s m args meth c cM_type 5 "WordCheckerModel" gT D cls8 (tys5 cI cJ cC cZ cR) 21 ad A Zs) (hr : meth.sig.returnType = (some .boolean)) (hZ : ZsOK A Zs) {Φ : Int32 → HI → HL → Prop} {v1 : Int32} {v2 : Int32} {v3 : Int32} {hi : HI} {hl : HL} {H : Heap} {locs : List Loc} (h : wbM_type_64 v1 v2 v3 hi hl Φ) {ls : Array Slot} (hL : lv_has ls 5 [(0, .ref (ad 0)), (1, .int v1), (2, .int v2), (3, .int v3)]) (hP : va_P D cls8 (wl 21 ad (GM cI cZ ad) hi hl) H) (hS : va_S A s.heap H locs) : W p l e (rmX 1 22) s m args below meth c H locs 0 0 (MQ below (va_Qi (fun r (u : HI × HL) => Φ r u.1 u.2) (fun u t => va_P D cls8 (wl 21 ad (GM cI cZ ad) u.1 u.2) t.heap) A) args s 0 0 A) (F0 m 64 ls []) := by
  unfold wbM_type_64 at h
  refine lv_iload_n K.1 K.2.1 dM_type_64 rfl (lv_at hL 2 rfl) ?_
  refine lv_iconst (v := 1) K.1 K.2.1 dM_type_65 (by decide) ?_
  refine lv_isub K.1 K.2.1 dM_type_66 ?_
  refine lv_istore (lv' := [(4, .int (v2 - (1 : Int32))), (0, .ref (ad 0)), (1, .int v1), (2, .int v2), (3, .int v3)]) K.1 K.2.1 dM_type_67 hL (by decide) rfl (fun ls hL => ?_)
  obtain ⟨fu, h⟩ := h
  exact bM_type_69 K hr hZ h (lv_sub hL [1, 2, 4, 0] rfl) hP hS
set_option maxRecDepth 100000 in
set_option maxHeartbeats 4000000 in
theorem bM_type_29 {p : Program} {l : Launch} {e : Env} {s : State} {m : MethodId} {args : Array Value} {below : List Frame} {meth : Method} {c : Code} {D : va_G} {cI cJ cC cZ cR : ClassId} {ad : Nat → Nat} {A : Nat → Prop} {Zs : State → Prop} (K : Cx p (rmX 1 22) s m args meth c cM_type 5 "WordCheckerModel" gT D cls8 (tys5 cI cJ cC cZ cR) 21 ad A Zs) (hr : meth.sig.returnType = (some .boolean)) (hZ : ZsOK A Zs) {Φ : Int32 → HI → HL → Prop} {n : Nat} {v1 : Int32} {v2 : Int32} {v3 : Int32} {v4 : Int32} {hi : HI} {hl : HL} {H : Heap} {locs : List Loc} (h : wbM_type_29 n v1 v2 v3 v4 hi hl Φ) {ls : Array Slot} (hL : lv_has ls 5 [(0, .ref (ad 0)), (1, .int v1), (2, .int v2), (3, .int v3), (4, .int v4)]) (hP : va_P D cls8 (wl 21 ad (GM cI cZ ad) hi hl) H) (hS : va_S A s.heap H locs) : W p l e (rmX 1 22) s m args below meth c H locs 0 0 (MQ below (va_Qi (fun r (u : HI × HL) => Φ r u.1 u.2) (fun u t => va_P D cls8 (wl 21 ad (GM cI cZ ad) u.1 u.2) t.heap) A) args s 0 0 A) (F0 m 29 ls []) := by
  induction n generalizing v1 v2 v3 v4 hi hl ls H locs with
  | zero => exact False.elim h
  | succ n ih =>
    unfold wbM_type_29 at h
    refine lv_iload K.1 K.2.1 dM_type_29 (lv_at hL 4 rfl) ?_
    refine lv_iload_n K.1 K.2.1 dM_type_31 rfl (lv_at hL 2 rfl) ?_
    refine lv_icmp_ge (tgt := 64) K.1 K.2.1 dM_type_32 rfl (fun hc => ?_) (fun hc => ?_)
    · have h := h.1 hc
      exact bM_type_64 K hr hZ h (lv_sub hL [0, 1, 2, 3] rfl) hP hS
    · have h := h.2 hc
      refine lv_iload_n K.1 K.2.1 dM_type_35 rfl (lv_at hL 3 rfl) ?_
      refine lv_if_eq (tgt := 64) K.1 K.2.1 dM_type_36 rfl (fun hc => ?_) (fun hc => ?_)
      · have h := h.1 hc
        exact bM_type_64 K hr hZ h (lv_sub hL [0, 1, 2, 3] rfl) hP hS
      · have h := h.2 hc
        refine lv_iload_n K.1 K.2.1 dM_type_39 rfl (lv_at hL 1 rfl) ?_
        refine lv_bipush (v := 8) K.1 K.2.1 dM_type_40 (by decide) ?_
        refine lv_iload K.1 K.2.1 dM_type_42 (lv_at hL 4 rfl) ?_
        refine lv_imul K.1 K.2.1 dM_type_44 ?_
        refine lv_ishr K.1 K.2.1 dM_type_45 ?_
        refine lv_sipush (v := 255) K.1 K.2.1 dM_type_46 (by decide) ?_
        refine lv_iand K.1 K.2.1 dM_type_49 ?_
        refine lv_bipush (v := 32) K.1 K.2.1 dM_type_50 (by decide) ?_
        refine lv_bipush (v := 126) K.1 K.2.1 dM_type_52 (by decide) ?_
        refine x_cSI (As := [.int ((v1 >>> (((8 : Int32) * v4) &&& 31)) &&& (255 : Int32)), .int (32 : Int32), .int (126 : Int32)]) (rest := []) K gT_good hZ hP hS calM_in mlM_75 (mM_in hZ K.2.2.2.2.2.2.2.1 h) ⟨Nat.le_of_ble_eq_true rfl, Nat.le_of_ble_eq_true rfl⟩ rfl hL.1 rfl (Nat.le_of_ble_eq_true rfl) dM_type_54 (fun r1 hi2 hl3 H locs h hP hS => ?_)
        refine lv_istore_n (lv' := [(3, .int r1), (0, .ref (ad 0)), (1, .int v1), (2, .int v2), (4, .int v4)]) K.1 K.2.1 dM_type_57 rfl hL (by decide) rfl (fun ls hL => ?_)
        refine lv_iinc (k := 4) (lv' := [(4, .int (v4 + Int32.ofInt (1))), (3, .int r1), (0, .ref (ad 0)), (1, .int v1), (2, .int v2)]) K.1 K.2.1 dM_type_58 hL rfl rfl (by decide) rfl (fun ls hL => ?_)
        refine lv_goto (tgt := 29) K.1 K.2.1 dM_type_61 rfl ?_
        exact ih h (lv_sub hL [2, 3, 4, 1, 0] rfl) hP hS
set_option maxRecDepth 100000 in
set_option maxHeartbeats 4000000 in
theorem bM_type_25 {p : Program} {l : Launch} {e : Env} {s : State} {m : MethodId} {args : Array Value} {below : List Frame} {meth : Method} {c : Code} {D : va_G} {cI cJ cC cZ cR : ClassId} {ad : Nat → Nat} {A : Nat → Prop} {Zs : State → Prop} (K : Cx p (rmX 1 22) s m args meth c cM_type 5 "WordCheckerModel" gT D cls8 (tys5 cI cJ cC cZ cR) 21 ad A Zs) (hr : meth.sig.returnType = (some .boolean)) (hZ : ZsOK A Zs) {Φ : Int32 → HI → HL → Prop} {v1 : Int32} {v2 : Int32} {q0 : Int32} {hi : HI} {hl : HL} {H : Heap} {locs : List Loc} (h : wbM_type_25 v1 v2 q0 hi hl Φ) {ls : Array Slot} (hL : lv_has ls 5 [(0, .ref (ad 0)), (1, .int v1), (2, .int v2)]) (hP : va_P D cls8 (wl 21 ad (GM cI cZ ad) hi hl) H) (hS : va_S A s.heap H locs) : W p l e (rmX 1 22) s m args below meth c H locs 0 0 (MQ below (va_Qi (fun r (u : HI × HL) => Φ r u.1 u.2) (fun u t => va_P D cls8 (wl 21 ad (GM cI cZ ad) u.1 u.2) t.heap) A) args s 0 0 A) (F0 m 25 ls [.int q0]) := by
  unfold wbM_type_25 at h
  refine lv_istore_n (lv' := [(3, .int q0), (0, .ref (ad 0)), (1, .int v1), (2, .int v2)]) K.1 K.2.1 dM_type_25 rfl hL (by decide) rfl (fun ls hL => ?_)
  refine lv_iconst (v := 0) K.1 K.2.1 dM_type_26 (by decide) ?_
  refine lv_istore (lv' := [(4, .int (0 : Int32)), (3, .int q0), (0, .ref (ad 0)), (1, .int v1), (2, .int v2)]) K.1 K.2.1 dM_type_27 hL (by decide) rfl (fun ls hL => ?_)
  obtain ⟨fu, h⟩ := h
  exact bM_type_29 K hr hZ h (lv_sub hL [2, 3, 4, 1, 0] rfl) hP hS
set_option maxRecDepth 100000 in
set_option maxHeartbeats 4000000 in
theorem bM_type_24 {p : Program} {l : Launch} {e : Env} {s : State} {m : MethodId} {args : Array Value} {below : List Frame} {meth : Method} {c : Code} {D : va_G} {cI cJ cC cZ cR : ClassId} {ad : Nat → Nat} {A : Nat → Prop} {Zs : State → Prop} (K : Cx p (rmX 1 22) s m args meth c cM_type 5 "WordCheckerModel" gT D cls8 (tys5 cI cJ cC cZ cR) 21 ad A Zs) (hr : meth.sig.returnType = (some .boolean)) (hZ : ZsOK A Zs) {Φ : Int32 → HI → HL → Prop} {v1 : Int32} {v2 : Int32} {hi : HI} {hl : HL} {H : Heap} {locs : List Loc} (h : wbM_type_24 v1 v2 hi hl Φ) {ls : Array Slot} (hL : lv_has ls 5 [(0, .ref (ad 0)), (1, .int v1), (2, .int v2)]) (hP : va_P D cls8 (wl 21 ad (GM cI cZ ad) hi hl) H) (hS : va_S A s.heap H locs) : W p l e (rmX 1 22) s m args below meth c H locs 0 0 (MQ below (va_Qi (fun r (u : HI × HL) => Φ r u.1 u.2) (fun u t => va_P D cls8 (wl 21 ad (GM cI cZ ad) u.1 u.2) t.heap) A) args s 0 0 A) (F0 m 24 ls []) := by
  unfold wbM_type_24 at h
  refine lv_iconst (v := 0) K.1 K.2.1 dM_type_24 (by decide) ?_
  exact bM_type_25 K hr hZ h (lv_sub hL [0, 1, 2] rfl) hP hS
set_option maxRecDepth 100000 in
set_option maxHeartbeats 4000000 in
theorem bM_type_0 {p : Program} {l : Launch} {e : Env} {s : State} {m : MethodId} {args : Array Value} {below : List Frame} {meth : Method} {c : Code} {D : va_G} {cI cJ cC cZ cR : ClassId} {ad : Nat → Nat} {A : Nat → Prop} {Zs : State → Prop} (K : Cx p (rmX 1 22) s m args meth c cM_type 5 "WordCheckerModel" gT D cls8 (tys5 cI cJ cC cZ cR) 21 ad A Zs) (hr : meth.sig.returnType = (some .boolean)) (hZ : ZsOK A Zs) {Φ : Int32 → HI → HL → Prop} {v1 : Int32} {v2 : Int32} {hi : HI} {hl : HL} {H : Heap} {locs : List Loc} (h : wbM_type_0 v1 v2 hi hl Φ) {ls : Array Slot} (hL : lv_has ls 5 [(0, .ref (ad 0)), (1, .int v1), (2, .int v2)]) (hP : va_P D cls8 (wl 21 ad (GM cI cZ ad) hi hl) H) (hS : va_S A s.heap H locs) : W p l e (rmX 1 22) s m args below meth c H locs 0 0 (MQ below (va_Qi (fun r (u : HI × HL) => Φ r u.1 u.2) (fun u t => va_P D cls8 (wl 21 ad (GM cI cZ ad) u.1 u.2) t.heap) A) args s 0 0 A) (F0 m 0 ls []) := by
  unfold wbM_type_0 at h
  refine lv_iload_n K.1 K.2.1 dM_type_0 rfl (lv_at hL 2 rfl) ?_
  refine lv_iconst (v := 1) K.1 K.2.1 dM_type_1 (by decide) ?_
  refine lv_iconst (v := 4) K.1 K.2.1 dM_type_2 (by decide) ?_
  refine x_cSI (As := [.int v2, .int (1 : Int32), .int (4 : Int32)]) (rest := []) K gT_good hZ hP hS calM_in mlM_75 (mM_in hZ K.2.2.2.2.2.2.2.1 h) ⟨Nat.le_of_ble_eq_true rfl, Nat.le_of_ble_eq_true rfl⟩ rfl hL.1 rfl (Nat.le_of_ble_eq_true rfl) dM_type_3 (fun r1 hi2 hl3 H locs h hP hS => ?_)
  refine lv_if_eq (tgt := 24) K.1 K.2.1 dM_type_6 rfl (fun hc => ?_) (fun hc => ?_)
  · have h := h.1 hc
    exact bM_type_24 K hr hZ h (lv_sub hL [0, 1, 2] rfl) hP hS
  · have h := h.2 hc
    refine lv_aload_n K.1 K.2.1 dM_type_9 rfl (lv_at hL 0 rfl) ?_
    refine x_get (v := .int (hi2 0 1)) K hP hinM (ci := 7) rfl 0 (by decide) rfl 1 (by decide) flM_79 rfl rfl dM_type_10 ?_
    refine lv_iload_n K.1 K.2.1 dM_type_13 rfl (lv_at hL 2 rfl) ?_
    refine lv_iadd K.1 K.2.1 dM_type_14 ?_
    refine lv_bipush (v := 40) K.1 K.2.1 dM_type_15 (by decide) ?_
    refine lv_icmp_gt (tgt := 24) K.1 K.2.1 dM_type_17 rfl (fun hc => ?_) (fun hc => ?_)
    · have h := h.1 hc
      exact bM_type_24 K hr hZ h (lv_sub hL [0, 1, 2] rfl) hP hS
    · have h := h.2 hc
      refine lv_iconst (v := 1) K.1 K.2.1 dM_type_20 (by decide) ?_
      refine lv_goto (tgt := 25) K.1 K.2.1 dM_type_21 rfl ?_
      exact bM_type_25 K hr hZ h (lv_sub hL [0, 1, 2] rfl) hP hS
set_option maxRecDepth 100000 in
set_option maxHeartbeats 4000000 in
theorem mM_type {l : Launch} {D : va_G} {cI cJ cC cZ cR : ClassId} {ad : Nat → Nat} {A : Nat → Prop} {Zs : State → Prop} (hZ : ZsOK A Zs) (hD : wlD 21 ad A) {v1 : Int32} {v2 : Int32} {hi : HI} {hl : HL} {Φ : Int32 → HI → HL → Prop} (h : wpM_type v1 v2 hi hl Φ) : SpI l yM_type cM_type 5 (some .boolean) gT 1 22 [.ref (ad 0), .int v1, .int v2] D cls8 (tys5 cI cJ cC cZ cR) 21 ad (GM cI cZ ad) A Zs hi hl Φ := by
  refine Met.ofW (cc := cM_type) (maxL := 5) (ret := (some .boolean)) (by decide) rfl ?_
  intro p e s m args below meth c s₁ B hml hv
  obtain ⟨rfl, hP, hK, hZs⟩ := hv
  have K : Cx p (rmX 1 22) s m _ meth c cM_type 5 "WordCheckerModel" gT D cls8 (tys5 cI cJ cC cZ cR) 21 ad A Zs := ⟨B.exec, B.bytes, hml, findClass_of_methodNamed B.named, fun w hw => atoms_spec B.pre w (List.mem_cons_of_mem _ hw), B.notSynchronized, hK, hD, hZs⟩
  have hL := lv_entry ([.ref (ad 0), .int v1, .int v2]) (n := 5) (Nat.le_of_ble_eq_true rfl)
  rw [lg_entry_eq]
  generalize (lg_sl ([.ref (ad 0), .int v1, .int v2]) ++ List.replicate (5 - (lg_sl ([.ref (ad 0), .int v1, .int v2])).length) Slot.unset).toArray = ls at hL ⊢
  have hL : lv_has ls 5 [(0, .ref (ad 0)), (1, .int v1), (2, .int v2)] := hL
  unfold wpM_type at h
  exact bM_type_0 K B.returns hZ h (lv_sub hL [0, 1, 2] rfl) hP va_S.rf
set_option maxRecDepth 100000 in
set_option maxHeartbeats 4000000 in
theorem bM_split_98 {p : Program} {l : Launch} {e : Env} {s : State} {m : MethodId} {args : Array Value} {below : List Frame} {meth : Method} {c : Code} {D : va_G} {cI cJ cC cZ cR : ClassId} {ad : Nat → Nat} {A : Nat → Prop} {Zs : State → Prop} (K : Cx p (rmX 0 0) s m args meth c cM_split 3 "WordCheckerModel" gT D cls8 (tys5 cI cJ cC cZ cR) 21 ad A Zs) (hr : meth.sig.returnType = none) (hZ : ZsOK A Zs) {Φ : HI → HL → Prop} {k7 : Int32 → HI → HL → Prop} (hk7 : ∀ (v1 : Int32) (hi : HI) (hl : HL) (ls : Array Slot) (H : Heap) (locs : List Loc), k7 v1 hi hl → lv_has ls 3 [(0, .ref (ad 0)), (1, .int v1)] → va_P D cls8 (wl 21 ad (GM cI cZ ad) hi hl) H → va_S A s.heap H locs → W p l e (rmX 0 0) s m args below meth c H locs 0 0 (MQ below (va_Qv (fun (u : HI × HL) => Φ u.1 u.2) (fun u t => va_P D cls8 (wl 21 ad (GM cI cZ ad) u.1 u.2) t.heap) A) args s 0 0 A) (F0 m 7 ls [])) {v1 : Int32} {hi : HI} {hl : HL} {H : Heap} {locs : List Loc} (h : wbM_split_98 k7 v1 hi hl Φ) {ls : Array Slot} (hL : lv_has ls 3 [(0, .ref (ad 0)), (1, .int v1)]) (hP : va_P D cls8 (wl 21 ad (GM cI cZ ad) hi hl) H) (hS : va_S A s.heap H locs) : W p l e (rmX 0 0) s m args below meth c H locs 0 0 (MQ below (va_Qv (fun (u : HI × HL) => Φ u.1 u.2) (fun u t => va_P D cls8 (wl 21 ad (GM cI cZ ad) u.1 u.2) t.heap) A) args s 0 0 A) (F0 m 98 ls []) := by
  unfold wbM_split_98 at h
  refine lv_iinc (k := 1) (lv' := [(1, .int (v1 + Int32.ofInt (1))), (0, .ref (ad 0))]) K.1 K.2.1 dM_split_98 hL rfl rfl (by decide) rfl (fun ls hL => ?_)
  refine lv_goto (tgt := 7) K.1 K.2.1 dM_split_101 rfl ?_
  exact hk7 _ _ _ _ _ _ h (lv_sub hL [1, 0] rfl) hP hS
set_option maxRecDepth 100000 in
set_option maxHeartbeats 4000000 in
theorem bM_split_73 {p : Program} {l : Launch} {e : Env} {s : State} {m : MethodId} {args : Array Value} {below : List Frame} {meth : Method} {c : Code} {D : va_G} {cI cJ cC cZ cR : ClassId} {ad : Nat → Nat} {A : Nat → Prop} {Zs : State → Prop} (K : Cx p (rmX 0 0) s m args meth c cM_split 3 "WordCheckerModel" gT D cls8 (tys5 cI cJ cC cZ cR) 21 ad A Zs) (hr : meth.sig.returnType = none) (hZ : ZsOK A Zs) {Φ : HI → HL → Prop} {k7 : Int32 → HI → HL → Prop} (hk7 : ∀ (v1 : Int32) (hi : HI) (hl : HL) (ls : Array Slot) (H : Heap) (locs : List Loc), k7 v1 hi hl → lv_has ls 3 [(0, .ref (ad 0)), (1, .int v1)] → va_P D cls8 (wl 21 ad (GM cI cZ ad) hi hl) H → va_S A s.heap H locs → W p l e (rmX 0 0) s m args below meth c H locs 0 0 (MQ below (va_Qv (fun (u : HI × HL) => Φ u.1 u.2) (fun u t => va_P D cls8 (wl 21 ad (GM cI cZ ad) u.1 u.2) t.heap) A) args s 0 0 A) (F0 m 7 ls [])) {v1 : Int32} {hi : HI} {hl : HL} {H : Heap} {locs : List Loc} (h : wbM_split_73 k7 v1 hi hl Φ) {ls : Array Slot} (hL : lv_has ls 3 [(0, .ref (ad 0)), (1, .int v1)]) (hP : va_P D cls8 (wl 21 ad (GM cI cZ ad) hi hl) H) (hS : va_S A s.heap H locs) : W p l e (rmX 0 0) s m args below meth c H locs 0 0 (MQ below (va_Qv (fun (u : HI × HL) => Φ u.1 u.2) (fun u t => va_P D cls8 (wl 21 ad (GM cI cZ ad) u.1 u.2) t.heap) A) args s 0 0 A) (F0 m 73 ls []) := by
  unfold wbM_split_73 at h
  refine lv_aload_n K.1 K.2.1 dM_split_73 rfl (lv_at hL 0 rfl) ?_
  refine x_get (v := .ref (ad 1)) K hP hinM (ci := 7) rfl 0 (by decide) rfl 0 (by decide) flM_7 rfl rfl dM_split_74 ?_
  refine lv_iload_n K.1 K.2.1 dM_split_77 rfl (lv_at hL 1 rfl) ?_
  obtain ⟨g1, h⟩ := h
  refine x_iald K hP 1 (by decide) 0 rfl rfl g1 dM_split_78 ?_
  refine lv_bipush (v := 32) K.1 K.2.1 dM_split_79 (by decide) ?_
  refine lv_icmp_eq (tgt := 98) K.1 K.2.1 dM_split_81 rfl (fun hc => ?_) (fun hc => ?_)
  · have h := h.1 hc
    exact bM_split_98 K hr hZ hk7 h (lv_sub hL [0, 1] rfl) hP hS
  · have h := h.2 hc
    refine lv_aload_n K.1 K.2.1 dM_split_84 rfl (lv_at hL 0 rfl) ?_
    refine x_get (v := .ref (ad 3)) K hP hinM (ci := 7) rfl 0 (by decide) rfl 4 (by decide) flM_16 rfl rfl dM_split_85 ?_
    refine lv_aload_n K.1 K.2.1 dM_split_88 rfl (lv_at hL 0 rfl) ?_
    refine x_get (v := .int (hi 0 2)) K hP hinM (ci := 7) rfl 0 (by decide) rfl 2 (by decide) flM_82 rfl rfl dM_split_89 ?_
    refine lv_iconst (v := 1) K.1 K.2.1 dM_split_92 (by decide) ?_
    refine lv_isub K.1 K.2.1 dM_split_93 ?_
    refine lv_iload_n K.1 K.2.1 dM_split_94 rfl (lv_at hL 1 rfl) ?_
    refine lv_iconst (v := 1) K.1 K.2.1 dM_split_95 (by decide) ?_
    refine lv_iadd K.1 K.2.1 dM_split_96 ?_
    obtain ⟨g2, h⟩ := h
    refine x_iast K hP hS 3 (by decide) 0 (fun _ => rfl) rfl g2 dM_split_97 (fun H locs hP hS => ?_)
    exact bM_split_98 K hr hZ hk7 h (lv_sub hL [0, 1] rfl) hP hS
set_option maxRecDepth 100000 in
set_option maxHeartbeats 4000000 in
theorem bM_split_48 {p : Program} {l : Launch} {e : Env} {s : State} {m : MethodId} {args : Array Value} {below : List Frame} {meth : Method} {c : Code} {D : va_G} {cI cJ cC cZ cR : ClassId} {ad : Nat → Nat} {A : Nat → Prop} {Zs : State → Prop} (K : Cx p (rmX 0 0) s m args meth c cM_split 3 "WordCheckerModel" gT D cls8 (tys5 cI cJ cC cZ cR) 21 ad A Zs) (hr : meth.sig.returnType = none) (hZ : ZsOK A Zs) {Φ : HI → HL → Prop} {k7 : Int32 → HI → HL → Prop} (hk7 : ∀ (v1 : Int32) (hi : HI) (hl : HL) (ls : Array Slot) (H : Heap) (locs : List Loc), k7 v1 hi hl → lv_has ls 3 [(0, .ref (ad 0)), (1, .int v1)] → va_P D cls8 (wl 21 ad (GM cI cZ ad) hi hl) H → va_S A s.heap H locs → W p l e (rmX 0 0) s m args below meth c H locs 0 0 (MQ below (va_Qv (fun (u : HI × HL) => Φ u.1 u.2) (fun u t => va_P D cls8 (wl 21 ad (GM cI cZ ad) u.1 u.2) t.heap) A) args s 0 0 A) (F0 m 7 ls [])) {v1 : Int32} {q0 : Int32} {hi : HI} {hl : HL} {H : Heap} {locs : List Loc} (h : wbM_split_48 k7 v1 q0 hi hl Φ) {ls : Array Slot} (hL : lv_has ls 3 [(0, .ref (ad 0)), (1, .int v1)]) (hP : va_P D cls8 (wl 21 ad (GM cI cZ ad) hi hl) H) (hS : va_S A s.heap H locs) : W p l e (rmX 0 0) s m args below meth c H locs 0 0 (MQ below (va_Qv (fun (u : HI × HL) => Φ u.1 u.2) (fun u t => va_P D cls8 (wl 21 ad (GM cI cZ ad) u.1 u.2) t.heap) A) args s 0 0 A) (F0 m 48 ls [.int q0]) := by
  unfold wbM_split_48 at h
  refine lv_istore_n (lv' := [(2, .int q0), (0, .ref (ad 0)), (1, .int v1)]) K.1 K.2.1 dM_split_48 rfl hL (by decide) rfl (fun ls hL => ?_)
  refine lv_iload_n K.1 K.2.1 dM_split_49 rfl (lv_at hL 0 rfl) ?_
  refine lv_if_eq (tgt := 73) K.1 K.2.1 dM_split_50 rfl (fun hc => ?_) (fun hc => ?_)
  · have h := h.1 hc
    exact bM_split_73 K hr hZ hk7 h (lv_sub hL [1, 2] rfl) hP hS
  · have h := h.2 hc
    refine lv_aload_n K.1 K.2.1 dM_split_53 rfl (lv_at hL 1 rfl) ?_
    refine x_get (v := .ref (ad 2)) K hP hinM (ci := 7) rfl 0 (by decide) rfl 3 (by decide) flM_13 rfl rfl dM_split_54 ?_
    refine lv_aload_n K.1 K.2.1 dM_split_57 rfl (lv_at hL 1 rfl) ?_
    refine x_get (v := .int (hi 0 2)) K hP hinM (ci := 7) rfl 0 (by decide) rfl 2 (by decide) flM_82 rfl rfl dM_split_58 ?_
    refine lv_iload_n K.1 K.2.1 dM_split_61 rfl (lv_at hL 2 rfl) ?_
    obtain ⟨g1, h⟩ := h
    refine x_iast K hP hS 2 (by decide) 0 (fun _ => rfl) rfl g1 dM_split_62 (fun H locs hP hS => ?_)
    refine lv_aload_n K.1 K.2.1 dM_split_63 rfl (lv_at hL 1 rfl) ?_
    refine lv_aload_n K.1 K.2.1 dM_split_64 rfl (lv_at hL 1 rfl) ?_
    refine x_get (v := .int ((u2 hi 2 ((hi 0 2).toNatClampNeg) v1) 0 2)) K hP hinM (ci := 7) rfl 0 (by decide) rfl 2 (by decide) flM_82 rfl rfl dM_split_65 ?_
    refine lv_iconst (v := 1) K.1 K.2.1 dM_split_68 (by decide) ?_
    refine lv_iadd K.1 K.2.1 dM_split_69 ?_
    refine x_put (v := .int (((u2 hi 2 ((hi 0 2).toNatClampNeg) v1) 0 2) + (1 : Int32))) K hP hS hinM tyM tyM_ok nmM (ci := 7) rfl 0 (by decide) rfl 2 (by decide) flM_82 rfl rfl (((u2 hi 2 ((hi 0 2).toNatClampNeg) v1) 0 2) + (1 : Int32)) rfl rfl rfl (Nat.le_of_ble_eq_true rfl) dM_split_70 (fun H locs hP hS => ?_)
    exact bM_split_73 K hr hZ hk7 h (lv_sub hL [1, 2] rfl) hP hS
set_option maxRecDepth 100000 in
set_option maxHeartbeats 4000000 in
theorem bM_split_47 {p : Program} {l : Launch} {e : Env} {s : State} {m : MethodId} {args : Array Value} {below : List Frame} {meth : Method} {c : Code} {D : va_G} {cI cJ cC cZ cR : ClassId} {ad : Nat → Nat} {A : Nat → Prop} {Zs : State → Prop} (K : Cx p (rmX 0 0) s m args meth c cM_split 3 "WordCheckerModel" gT D cls8 (tys5 cI cJ cC cZ cR) 21 ad A Zs) (hr : meth.sig.returnType = none) (hZ : ZsOK A Zs) {Φ : HI → HL → Prop} {k7 : Int32 → HI → HL → Prop} (hk7 : ∀ (v1 : Int32) (hi : HI) (hl : HL) (ls : Array Slot) (H : Heap) (locs : List Loc), k7 v1 hi hl → lv_has ls 3 [(0, .ref (ad 0)), (1, .int v1)] → va_P D cls8 (wl 21 ad (GM cI cZ ad) hi hl) H → va_S A s.heap H locs → W p l e (rmX 0 0) s m args below meth c H locs 0 0 (MQ below (va_Qv (fun (u : HI × HL) => Φ u.1 u.2) (fun u t => va_P D cls8 (wl 21 ad (GM cI cZ ad) u.1 u.2) t.heap) A) args s 0 0 A) (F0 m 7 ls [])) {v1 : Int32} {hi : HI} {hl : HL} {H : Heap} {locs : List Loc} (h : wbM_split_47 k7 v1 hi hl Φ) {ls : Array Slot} (hL : lv_has ls 3 [(0, .ref (ad 0)), (1, .int v1)]) (hP : va_P D cls8 (wl 21 ad (GM cI cZ ad) hi hl) H) (hS : va_S A s.heap H locs) : W p l e (rmX 0 0) s m args below meth c H locs 0 0 (MQ below (va_Qv (fun (u : HI × HL) => Φ u.1 u.2) (fun u t => va_P D cls8 (wl 21 ad (GM cI cZ ad) u.1 u.2) t.heap) A) args s 0 0 A) (F0 m 47 ls []) := by
  unfold wbM_split_47 at h
  refine lv_iconst (v := 0) K.1 K.2.1 dM_split_47 (by decide) ?_
  exact bM_split_48 K hr hZ hk7 h (lv_sub hL [0, 1] rfl) hP hS
set_option maxRecDepth 100000 in
set_option maxHeartbeats 4000000 in
theorem bM_split_43 {p : Program} {l : Launch} {e : Env} {s : State} {m : MethodId} {args : Array Value} {below : List Frame} {meth : Method} {c : Code} {D : va_G} {cI cJ cC cZ cR : ClassId} {ad : Nat → Nat} {A : Nat → Prop} {Zs : State → Prop} (K : Cx p (rmX 0 0) s m args meth c cM_split 3 "WordCheckerModel" gT D cls8 (tys5 cI cJ cC cZ cR) 21 ad A Zs) (hr : meth.sig.returnType = none) (hZ : ZsOK A Zs) {Φ : HI → HL → Prop} {k7 : Int32 → HI → HL → Prop} (hk7 : ∀ (v1 : Int32) (hi : HI) (hl : HL) (ls : Array Slot) (H : Heap) (locs : List Loc), k7 v1 hi hl → lv_has ls 3 [(0, .ref (ad 0)), (1, .int v1)] → va_P D cls8 (wl 21 ad (GM cI cZ ad) hi hl) H → va_S A s.heap H locs → W p l e (rmX 0 0) s m args below meth c H locs 0 0 (MQ below (va_Qv (fun (u : HI × HL) => Φ u.1 u.2) (fun u t => va_P D cls8 (wl 21 ad (GM cI cZ ad) u.1 u.2) t.heap) A) args s 0 0 A) (F0 m 7 ls [])) {v1 : Int32} {hi : HI} {hl : HL} {H : Heap} {locs : List Loc} (h : wbM_split_43 k7 v1 hi hl Φ) {ls : Array Slot} (hL : lv_has ls 3 [(0, .ref (ad 0)), (1, .int v1)]) (hP : va_P D cls8 (wl 21 ad (GM cI cZ ad) hi hl) H) (hS : va_S A s.heap H locs) : W p l e (rmX 0 0) s m args below meth c H locs 0 0 (MQ below (va_Qv (fun (u : HI × HL) => Φ u.1 u.2) (fun u t => va_P D cls8 (wl 21 ad (GM cI cZ ad) u.1 u.2) t.heap) A) args s 0 0 A) (F0 m 43 ls []) := by
  unfold wbM_split_43 at h
  refine lv_iconst (v := 1) K.1 K.2.1 dM_split_43 (by decide) ?_
  refine lv_goto (tgt := 48) K.1 K.2.1 dM_split_44 rfl ?_
  exact bM_split_48 K hr hZ hk7 h (lv_sub hL [0, 1] rfl) hP hS
set_option maxRecDepth 100000 in
set_option maxHeartbeats 4000000 in
theorem bM_split_7 {p : Program} {l : Launch} {e : Env} {s : State} {m : MethodId} {args : Array Value} {below : List Frame} {meth : Method} {c : Code} {D : va_G} {cI cJ cC cZ cR : ClassId} {ad : Nat → Nat} {A : Nat → Prop} {Zs : State → Prop} (K : Cx p (rmX 0 0) s m args meth c cM_split 3 "WordCheckerModel" gT D cls8 (tys5 cI cJ cC cZ cR) 21 ad A Zs) (hr : meth.sig.returnType = none) (hZ : ZsOK A Zs) {Φ : HI → HL → Prop} {n : Nat} {v1 : Int32} {hi : HI} {hl : HL} {H : Heap} {locs : List Loc} (h : wbM_split_7 n v1 hi hl Φ) {ls : Array Slot} (hL : lv_has ls 3 [(0, .ref (ad 0)), (1, .int v1)]) (hP : va_P D cls8 (wl 21 ad (GM cI cZ ad) hi hl) H) (hS : va_S A s.heap H locs) : W p l e (rmX 0 0) s m args below meth c H locs 0 0 (MQ below (va_Qv (fun (u : HI × HL) => Φ u.1 u.2) (fun u t => va_P D cls8 (wl 21 ad (GM cI cZ ad) u.1 u.2) t.heap) A) args s 0 0 A) (F0 m 7 ls []) := by
  induction n generalizing v1 hi hl ls H locs with
  | zero => exact False.elim h
  | succ n ih =>
    unfold wbM_split_7 at h
    refine lv_iload_n K.1 K.2.1 dM_split_7 rfl (lv_at hL 1 rfl) ?_
    refine lv_aload_n K.1 K.2.1 dM_split_8 rfl (lv_at hL 0 rfl) ?_
    refine x_get (v := .int (hi 0 1)) K hP hinM (ci := 7) rfl 0 (by decide) rfl 1 (by decide) flM_79 rfl rfl dM_split_9 ?_
    refine lv_icmp_ge (tgt := 104) K.1 K.2.1 dM_split_12 rfl (fun hc => ?_) (fun hc => ?_)
    · have h := h.1 hc
      refine lv_aload_n K.1 K.2.1 dM_split_104 rfl (lv_at hL 0 rfl) ?_
      refine lv_iconst (v := 0) K.1 K.2.1 dM_split_105 (by decide) ?_
      refine x_put (v := .int (0 : Int32)) K hP hS hinM tyM tyM_ok nmM (ci := 7) rfl 0 (by decide) rfl 1 (by decide) flM_79 rfl rfl (0 : Int32) rfl rfl rfl (Nat.le_of_ble_eq_true rfl) dM_split_106 (fun H locs hP hS => ?_)
      exact x_vret K hr hP hS h dM_split_109
    · have h := h.2 hc
      refine lv_aload_n K.1 K.2.1 dM_split_15 rfl (lv_at hL 0 rfl) ?_
      refine x_get (v := .ref (ad 1)) K hP hinM (ci := 7) rfl 0 (by decide) rfl 0 (by decide) flM_7 rfl rfl dM_split_16 ?_
      refine lv_iload_n K.1 K.2.1 dM_split_19 rfl (lv_at hL 1 rfl) ?_
      obtain ⟨g1, h⟩ := h
      refine x_iald K hP 1 (by decide) 0 rfl rfl g1 dM_split_20 ?_
      refine lv_bipush (v := 32) K.1 K.2.1 dM_split_21 (by decide) ?_
      refine lv_icmp_eq (tgt := 47) K.1 K.2.1 dM_split_23 rfl (fun hc => ?_) (fun hc => ?_)
      · have h := h.1 hc
        exact bM_split_47 K hr hZ (fun v1 hi hl ls H locs h hL hP hS => ih h hL hP hS) h (lv_sub hL [0, 1] rfl) hP hS
      · have h := h.2 hc
        refine lv_iload_n K.1 K.2.1 dM_split_26 rfl (lv_at hL 1 rfl) ?_
        refine lv_if_eq (tgt := 43) K.1 K.2.1 dM_split_27 rfl (fun hc => ?_) (fun hc => ?_)
        · have h := h.1 hc
          exact bM_split_43 K hr hZ (fun v1 hi hl ls H locs h hL hP hS => ih h hL hP hS) h (lv_sub hL [0, 1] rfl) hP hS
        · have h := h.2 hc
          refine lv_aload_n K.1 K.2.1 dM_split_30 rfl (lv_at hL 0 rfl) ?_
          refine x_get (v := .ref (ad 1)) K hP hinM (ci := 7) rfl 0 (by decide) rfl 0 (by decide) flM_7 rfl rfl dM_split_31 ?_
          refine lv_iload_n K.1 K.2.1 dM_split_34 rfl (lv_at hL 1 rfl) ?_
          refine lv_iconst (v := 1) K.1 K.2.1 dM_split_35 (by decide) ?_
          refine lv_isub K.1 K.2.1 dM_split_36 ?_
          obtain ⟨g2, h⟩ := h
          refine x_iald K hP 1 (by decide) 0 rfl rfl g2 dM_split_37 ?_
          refine lv_bipush (v := 32) K.1 K.2.1 dM_split_38 (by decide) ?_
          refine lv_icmp_ne (tgt := 47) K.1 K.2.1 dM_split_40 rfl (fun hc => ?_) (fun hc => ?_)
          · have h := h.2 hc
            exact bM_split_47 K hr hZ (fun v1 hi hl ls H locs h hL hP hS => ih h hL hP hS) h (lv_sub hL [0, 1] rfl) hP hS
          · have h := h.1 hc
            exact bM_split_43 K hr hZ (fun v1 hi hl ls H locs h hL hP hS => ih h hL hP hS) h (lv_sub hL [0, 1] rfl) hP hS
set_option maxRecDepth 100000 in
set_option maxHeartbeats 4000000 in
theorem bM_split_0 {p : Program} {l : Launch} {e : Env} {s : State} {m : MethodId} {args : Array Value} {below : List Frame} {meth : Method} {c : Code} {D : va_G} {cI cJ cC cZ cR : ClassId} {ad : Nat → Nat} {A : Nat → Prop} {Zs : State → Prop} (K : Cx p (rmX 0 0) s m args meth c cM_split 3 "WordCheckerModel" gT D cls8 (tys5 cI cJ cC cZ cR) 21 ad A Zs) (hr : meth.sig.returnType = none) (hZ : ZsOK A Zs) {Φ : HI → HL → Prop} {hi : HI} {hl : HL} {H : Heap} {locs : List Loc} (h : wbM_split_0 hi hl Φ) {ls : Array Slot} (hL : lv_has ls 3 [(0, .ref (ad 0))]) (hP : va_P D cls8 (wl 21 ad (GM cI cZ ad) hi hl) H) (hS : va_S A s.heap H locs) : W p l e (rmX 0 0) s m args below meth c H locs 0 0 (MQ below (va_Qv (fun (u : HI × HL) => Φ u.1 u.2) (fun u t => va_P D cls8 (wl 21 ad (GM cI cZ ad) u.1 u.2) t.heap) A) args s 0 0 A) (F0 m 0 ls []) := by
  unfold wbM_split_0 at h
  refine lv_aload_n K.1 K.2.1 dM_split_0 rfl (lv_at hL 0 rfl) ?_
  refine lv_iconst (v := 0) K.1 K.2.1 dM_split_1 (by decide) ?_
  refine x_put (v := .int (0 : Int32)) K hP hS hinM tyM tyM_ok nmM (ci := 7) rfl 0 (by decide) rfl 2 (by decide) flM_82 rfl rfl (0 : Int32) rfl rfl rfl (Nat.le_of_ble_eq_true rfl) dM_split_2 (fun H locs hP hS => ?_)
  refine lv_iconst (v := 0) K.1 K.2.1 dM_split_5 (by decide) ?_
  refine lv_istore_n (lv' := [(1, .int (0 : Int32)), (0, .ref (ad 0))]) K.1 K.2.1 dM_split_6 rfl hL (by decide) rfl (fun ls hL => ?_)
  obtain ⟨fu, h⟩ := h
  exact bM_split_7 K hr hZ h (lv_sub hL [1, 0] rfl) hP hS
set_option maxRecDepth 100000 in
set_option maxHeartbeats 4000000 in
theorem mM_split {l : Launch} {D : va_G} {cI cJ cC cZ cR : ClassId} {ad : Nat → Nat} {A : Nat → Prop} {Zs : State → Prop} (hZ : ZsOK A Zs) (hD : wlD 21 ad A) {hi : HI} {hl : HL} {Φ : HI → HL → Prop} (h : wpM_split hi hl Φ) : SpV l yM_split cM_split 3 none gT 0 0 [.ref (ad 0)] D cls8 (tys5 cI cJ cC cZ cR) 21 ad (GM cI cZ ad) A Zs hi hl Φ := by
  refine Met.ofW (cc := cM_split) (maxL := 3) (ret := none) (by decide) rfl ?_
  intro p e s m args below meth c s₁ B hml hv
  obtain ⟨rfl, hP, hK, hZs⟩ := hv
  have K : Cx p (rmX 0 0) s m _ meth c cM_split 3 "WordCheckerModel" gT D cls8 (tys5 cI cJ cC cZ cR) 21 ad A Zs := ⟨B.exec, B.bytes, hml, findClass_of_methodNamed B.named, fun w hw => atoms_spec B.pre w (List.mem_cons_of_mem _ hw), B.notSynchronized, hK, hD, hZs⟩
  have hL := lv_entry ([.ref (ad 0)]) (n := 3) (Nat.le_of_ble_eq_true rfl)
  rw [lg_entry_eq]
  generalize (lg_sl ([.ref (ad 0)]) ++ List.replicate (3 - (lg_sl ([.ref (ad 0)])).length) Slot.unset).toArray = ls at hL ⊢
  have hL : lv_has ls 3 [(0, .ref (ad 0))] := hL
  unfold wpM_split at h
  exact bM_split_0 K B.returns hZ h (lv_sub hL [0] rfl) hP va_S.rf
set_option maxRecDepth 100000 in
set_option maxHeartbeats 4000000 in
theorem bM_digits_90 {p : Program} {l : Launch} {e : Env} {s : State} {m : MethodId} {args : Array Value} {below : List Frame} {meth : Method} {c : Code} {D : va_G} {cI cJ cC cZ cR : ClassId} {ad : Nat → Nat} {A : Nat → Prop} {Zs : State → Prop} (K : Cx p (rmX 1 22) s m args meth c cM_digits 6 "WordCheckerModel" gT D cls8 (tys5 cI cJ cC cZ cR) 21 ad A Zs) (hr : meth.sig.returnType = (some .int)) (hZ : ZsOK A Zs) {Φ : Int32 → HI → HL → Prop} {v3 : Int32} {v4 : Int32} {hi : HI} {hl : HL} {H : Heap} {locs : List Loc} (h : wbM_digits_90 v3 v4 hi hl Φ) {ls : Array Slot} (hL : lv_has ls 6 [(3, .int v3), (4, .int v4)]) (hP : va_P D cls8 (wl 21 ad (GM cI cZ ad) hi hl) H) (hS : va_S A s.heap H locs) : W p l e (rmX 1 22) s m args below meth c H locs 0 0 (MQ below (va_Qi (fun r (u : HI × HL) => Φ r u.1 u.2) (fun u t => va_P D cls8 (wl 21 ad (GM cI cZ ad) u.1 u.2) t.heap) A) args s 0 0 A) (F0 m 90 ls []) := by
  unfold wbM_digits_90 at h
  refine lv_iload_n K.1 K.2.1 dM_digits_90 rfl (lv_at hL 0 rfl) ?_
  refine lv_if_eq (tgt := 99) K.1 K.2.1 dM_digits_91 rfl (fun hc => ?_) (fun hc => ?_)
  · have h := h.1 hc
    refine lv_iconst (v := -1) K.1 K.2.1 dM_digits_99 (by decide) ?_
    exact x_iret K hr hP hS h dM_digits_100
  · have h := h.2 hc
    refine lv_iload K.1 K.2.1 dM_digits_94 (lv_at hL 1 rfl) ?_
    refine lv_goto (tgt := 100) K.1 K.2.1 dM_digits_96 rfl ?_
    exact x_iret K hr hP hS h dM_digits_100
set_option maxRecDepth 100000 in
set_option maxHeartbeats 4000000 in
theorem bM_digits_41 {p : Program} {l : Launch} {e : Env} {s : State} {m : MethodId} {args : Array Value} {below : List Frame} {meth : Method} {c : Code} {D : va_G} {cI cJ cC cZ cR : ClassId} {ad : Nat → Nat} {A : Nat → Prop} {Zs : State → Prop} (K : Cx p (rmX 1 22) s m args meth c cM_digits 6 "WordCheckerModel" gT D cls8 (tys5 cI cJ cC cZ cR) 21 ad A Zs) (hr : meth.sig.returnType = (some .int)) (hZ : ZsOK A Zs) {Φ : Int32 → HI → HL → Prop} {n : Nat} {v2 : Int32} {v3 : Int32} {v4 : Int32} {v5 : Int32} {hi : HI} {hl : HL} {H : Heap} {locs : List Loc} (h : wbM_digits_41 n v2 v3 v4 v5 hi hl Φ) {ls : Array Slot} (hL : lv_has ls 6 [(0, .ref (ad 0)), (2, .int v2), (3, .int v3), (4, .int v4), (5, .int v5)]) (hP : va_P D cls8 (wl 21 ad (GM cI cZ ad) hi hl) H) (hS : va_S A s.heap H locs) : W p l e (rmX 1 22) s m args below meth c H locs 0 0 (MQ below (va_Qi (fun r (u : HI × HL) => Φ r u.1 u.2) (fun u t => va_P D cls8 (wl 21 ad (GM cI cZ ad) u.1 u.2) t.heap) A) args s 0 0 A) (F0 m 41 ls []) := by
  induction n generalizing v2 v3 v4 v5 hi hl ls H locs with
  | zero => exact False.elim h
  | succ n ih =>
    unfold wbM_digits_41 at h
    refine lv_iload K.1 K.2.1 dM_digits_41 (lv_at hL 4 rfl) ?_
    refine lv_iload_n K.1 K.2.1 dM_digits_43 rfl (lv_at hL 1 rfl) ?_
    refine lv_icmp_ge (tgt := 90) K.1 K.2.1 dM_digits_44 rfl (fun hc => ?_) (fun hc => ?_)
    · have h := h.1 hc
      exact bM_digits_90 K hr hZ h (lv_sub hL [2, 3] rfl) hP hS
    · have h := h.2 hc
      refine lv_iload_n K.1 K.2.1 dM_digits_47 rfl (lv_at hL 2 rfl) ?_
      refine lv_if_eq (tgt := 90) K.1 K.2.1 dM_digits_48 rfl (fun hc => ?_) (fun hc => ?_)
      · have h := h.1 hc
        exact bM_digits_90 K hr hZ h (lv_sub hL [2, 3] rfl) hP hS
      · have h := h.2 hc
        refine lv_aload_n K.1 K.2.1 dM_digits_51 rfl (lv_at hL 0 rfl) ?_
        refine x_get (v := .ref (ad 1)) K hP hinM (ci := 7) rfl 0 (by decide) rfl 0 (by decide) flM_7 rfl rfl dM_digits_52 ?_
        refine lv_iload K.1 K.2.1 dM_digits_55 (lv_at hL 4 rfl) ?_
        obtain ⟨g1, h⟩ := h
        refine x_iald K hP 1 (by decide) 0 rfl rfl g1 dM_digits_57 ?_
        refine lv_bipush (v := 48) K.1 K.2.1 dM_digits_58 (by decide) ?_
        refine lv_bipush (v := 57) K.1 K.2.1 dM_digits_60 (by decide) ?_
        refine x_cSI (As := [.int (hi 1 (v5.toNatClampNeg)), .int (48 : Int32), .int (57 : Int32)]) (rest := []) K gT_good hZ hP hS calM_in mlM_75 (mM_in hZ K.2.2.2.2.2.2.2.1 h) ⟨Nat.le_of_ble_eq_true rfl, Nat.le_of_ble_eq_true rfl⟩ rfl hL.1 rfl (Nat.le_of_ble_eq_true rfl) dM_digits_62 (fun r2 hi3 hl4 H locs h hP hS => ?_)
        refine lv_istore_n (lv' := [(3, .int r2), (0, .ref (ad 0)), (2, .int v2), (4, .int v4), (5, .int v5)]) K.1 K.2.1 dM_digits_65 rfl hL (by decide) rfl (fun ls hL => ?_)
        refine lv_bipush (v := 10) K.1 K.2.1 dM_digits_66 (by decide) ?_
        refine lv_iload K.1 K.2.1 dM_digits_68 (lv_at hL 3 rfl) ?_
        refine lv_imul K.1 K.2.1 dM_digits_70 ?_
        refine lv_aload_n K.1 K.2.1 dM_digits_71 rfl (lv_at hL 1 rfl) ?_
        refine x_get (v := .ref (ad 1)) K hP hinM (ci := 7) rfl 0 (by decide) rfl 0 (by decide) flM_7 rfl rfl dM_digits_72 ?_
        refine lv_iload K.1 K.2.1 dM_digits_75 (lv_at hL 4 rfl) ?_
        obtain ⟨g5, h⟩ := h
        refine x_iald K hP 1 (by decide) 0 rfl rfl g5 dM_digits_77 ?_
        refine lv_iadd K.1 K.2.1 dM_digits_78 ?_
        refine lv_bipush (v := 48) K.1 K.2.1 dM_digits_79 (by decide) ?_
        refine lv_isub K.1 K.2.1 dM_digits_81 ?_
        refine lv_istore (lv' := [(4, .int ((((10 : Int32) * v4) + (hi3 1 (v5.toNatClampNeg))) - (48 : Int32))), (3, .int r2), (0, .ref (ad 0)), (2, .int v2), (5, .int v5)]) K.1 K.2.1 dM_digits_82 hL (by decide) rfl (fun ls hL => ?_)
        refine lv_iinc (k := 4) (lv' := [(5, .int (v5 + Int32.ofInt (1))), (4, .int ((((10 : Int32) * v4) + (hi3 1 (v5.toNatClampNeg))) - (48 : Int32))), (3, .int r2), (0, .ref (ad 0)), (2, .int v2)]) K.1 K.2.1 dM_digits_84 hL rfl rfl (by decide) rfl (fun ls hL => ?_)
        refine lv_goto (tgt := 41) K.1 K.2.1 dM_digits_87 rfl ?_
        exact ih h (lv_sub hL [3, 4, 2, 1, 0] rfl) hP hS
set_option maxRecDepth 100000 in
set_option maxHeartbeats 4000000 in
theorem bM_digits_34 {p : Program} {l : Launch} {e : Env} {s : State} {m : MethodId} {args : Array Value} {below : List Frame} {meth : Method} {c : Code} {D : va_G} {cI cJ cC cZ cR : ClassId} {ad : Nat → Nat} {A : Nat → Prop} {Zs : State → Prop} (K : Cx p (rmX 1 22) s m args meth c cM_digits 6 "WordCheckerModel" gT D cls8 (tys5 cI cJ cC cZ cR) 21 ad A Zs) (hr : meth.sig.returnType = (some .int)) (hZ : ZsOK A Zs) {Φ : Int32 → HI → HL → Prop} {v1 : Int32} {v2 : Int32} {q0 : Int32} {hi : HI} {hl : HL} {H : Heap} {locs : List Loc} (h : wbM_digits_34 v1 v2 q0 hi hl Φ) {ls : Array Slot} (hL : lv_has ls 6 [(0, .ref (ad 0)), (1, .int v1), (2, .int v2)]) (hP : va_P D cls8 (wl 21 ad (GM cI cZ ad) hi hl) H) (hS : va_S A s.heap H locs) : W p l e (rmX 1 22) s m args below meth c H locs 0 0 (MQ below (va_Qi (fun r (u : HI × HL) => Φ r u.1 u.2) (fun u t => va_P D cls8 (wl 21 ad (GM cI cZ ad) u.1 u.2) t.heap) A) args s 0 0 A) (F0 m 34 ls [.int q0]) := by
  unfold wbM_digits_34 at h
  refine lv_istore_n (lv' := [(3, .int q0), (0, .ref (ad 0)), (1, .int v1), (2, .int v2)]) K.1 K.2.1 dM_digits_34 rfl hL (by decide) rfl (fun ls hL => ?_)
  refine lv_iconst (v := 0) K.1 K.2.1 dM_digits_35 (by decide) ?_
  refine lv_istore (lv' := [(4, .int (0 : Int32)), (3, .int q0), (0, .ref (ad 0)), (1, .int v1), (2, .int v2)]) K.1 K.2.1 dM_digits_36 hL (by decide) rfl (fun ls hL => ?_)
  refine lv_iload_n K.1 K.2.1 dM_digits_38 rfl (lv_at hL 3 rfl) ?_
  refine lv_istore (lv' := [(5, .int v1), (4, .int (0 : Int32)), (3, .int q0), (0, .ref (ad 0)), (1, .int v1), (2, .int v2)]) K.1 K.2.1 dM_digits_39 hL (by decide) rfl (fun ls hL => ?_)
  obtain ⟨fu, h⟩ := h
  exact bM_digits_41 K hr hZ h (lv_sub hL [3, 5, 2, 1, 0] rfl) hP hS
set_option maxRecDepth 100000 in
set_option maxHeartbeats 4000000 in
theorem bM_digits_33 {p : Program} {l : Launch} {e : Env} {s : State} {m : MethodId} {args : Array Value} {below : List Frame} {meth : Method} {c : Code} {D : va_G} {cI cJ cC cZ cR : ClassId} {ad : Nat → Nat} {A : Nat → Prop} {Zs : State → Prop} (K : Cx p (rmX 1 22) s m args meth c cM_digits 6 "WordCheckerModel" gT D cls8 (tys5 cI cJ cC cZ cR) 21 ad A Zs) (hr : meth.sig.returnType = (some .int)) (hZ : ZsOK A Zs) {Φ : Int32 → HI → HL → Prop} {v1 : Int32} {v2 : Int32} {hi : HI} {hl : HL} {H : Heap} {locs : List Loc} (h : wbM_digits_33 v1 v2 hi hl Φ) {ls : Array Slot} (hL : lv_has ls 6 [(0, .ref (ad 0)), (1, .int v1), (2, .int v2)]) (hP : va_P D cls8 (wl 21 ad (GM cI cZ ad) hi hl) H) (hS : va_S A s.heap H locs) : W p l e (rmX 1 22) s m args below meth c H locs 0 0 (MQ below (va_Qi (fun r (u : HI × HL) => Φ r u.1 u.2) (fun u t => va_P D cls8 (wl 21 ad (GM cI cZ ad) u.1 u.2) t.heap) A) args s 0 0 A) (F0 m 33 ls []) := by
  unfold wbM_digits_33 at h
  refine lv_iconst (v := 0) K.1 K.2.1 dM_digits_33 (by decide) ?_
  exact bM_digits_34 K hr hZ h (lv_sub hL [0, 1, 2] rfl) hP hS
set_option maxRecDepth 100000 in
set_option maxHeartbeats 4000000 in
theorem bM_digits_29 {p : Program} {l : Launch} {e : Env} {s : State} {m : MethodId} {args : Array Value} {below : List Frame} {meth : Method} {c : Code} {D : va_G} {cI cJ cC cZ cR : ClassId} {ad : Nat → Nat} {A : Nat → Prop} {Zs : State → Prop} (K : Cx p (rmX 1 22) s m args meth c cM_digits 6 "WordCheckerModel" gT D cls8 (tys5 cI cJ cC cZ cR) 21 ad A Zs) (hr : meth.sig.returnType = (some .int)) (hZ : ZsOK A Zs) {Φ : Int32 → HI → HL → Prop} {v1 : Int32} {v2 : Int32} {hi : HI} {hl : HL} {H : Heap} {locs : List Loc} (h : wbM_digits_29 v1 v2 hi hl Φ) {ls : Array Slot} (hL : lv_has ls 6 [(0, .ref (ad 0)), (1, .int v1), (2, .int v2)]) (hP : va_P D cls8 (wl 21 ad (GM cI cZ ad) hi hl) H) (hS : va_S A s.heap H locs) : W p l e (rmX 1 22) s m args below meth c H locs 0 0 (MQ below (va_Qi (fun r (u : HI × HL) => Φ r u.1 u.2) (fun u t => va_P D cls8 (wl 21 ad (GM cI cZ ad) u.1 u.2) t.heap) A) args s 0 0 A) (F0 m 29 ls []) := by
  unfold wbM_digits_29 at h
  refine lv_iconst (v := 1) K.1 K.2.1 dM_digits_29 (by decide) ?_
  refine lv_goto (tgt := 34) K.1 K.2.1 dM_digits_30 rfl ?_
  exact bM_digits_34 K hr hZ h (lv_sub hL [0, 1, 2] rfl) hP hS
set_option maxRecDepth 100000 in
set_option maxHeartbeats 4000000 in
theorem bM_digits_0 {p : Program} {l : Launch} {e : Env} {s : State} {m : MethodId} {args : Array Value} {below : List Frame} {meth : Method} {c : Code} {D : va_G} {cI cJ cC cZ cR : ClassId} {ad : Nat → Nat} {A : Nat → Prop} {Zs : State → Prop} (K : Cx p (rmX 1 22) s m args meth c cM_digits 6 "WordCheckerModel" gT D cls8 (tys5 cI cJ cC cZ cR) 21 ad A Zs) (hr : meth.sig.returnType = (some .int)) (hZ : ZsOK A Zs) {Φ : Int32 → HI → HL → Prop} {v1 : Int32} {v2 : Int32} {hi : HI} {hl : HL} {H : Heap} {locs : List Loc} (h : wbM_digits_0 v1 v2 hi hl Φ) {ls : Array Slot} (hL : lv_has ls 6 [(0, .ref (ad 0)), (1, .int v1), (2, .int v2)]) (hP : va_P D cls8 (wl 21 ad (GM cI cZ ad) hi hl) H) (hS : va_S A s.heap H locs) : W p l e (rmX 1 22) s m args below meth c H locs 0 0 (MQ below (va_Qi (fun r (u : HI × HL) => Φ r u.1 u.2) (fun u t => va_P D cls8 (wl 21 ad (GM cI cZ ad) u.1 u.2) t.heap) A) args s 0 0 A) (F0 m 0 ls []) := by
  unfold wbM_digits_0 at h
  refine lv_iload_n K.1 K.2.1 dM_digits_0 rfl (lv_at hL 2 rfl) ?_
  refine lv_iload_n K.1 K.2.1 dM_digits_1 rfl (lv_at hL 1 rfl) ?_
  refine lv_isub K.1 K.2.1 dM_digits_2 ?_
  refine lv_iconst (v := 1) K.1 K.2.1 dM_digits_3 (by decide) ?_
  refine lv_iconst (v := 2) K.1 K.2.1 dM_digits_4 (by decide) ?_
  refine x_cSI (As := [.int (v2 - v1), .int (1 : Int32), .int (2 : Int32)]) (rest := []) K gT_good hZ hP hS calM_in mlM_75 (mM_in hZ K.2.2.2.2.2.2.2.1 h) ⟨Nat.le_of_ble_eq_true rfl, Nat.le_of_ble_eq_true rfl⟩ rfl hL.1 rfl (Nat.le_of_ble_eq_true rfl) dM_digits_5 (fun r1 hi2 hl3 H locs h hP hS => ?_)
  refine lv_if_eq (tgt := 33) K.1 K.2.1 dM_digits_8 rfl (fun hc => ?_) (fun hc => ?_)
  · have h := h.1 hc
    exact bM_digits_33 K hr hZ h (lv_sub hL [0, 1, 2] rfl) hP hS
  · have h := h.2 hc
    refine lv_iload_n K.1 K.2.1 dM_digits_11 rfl (lv_at hL 2 rfl) ?_
    refine lv_iload_n K.1 K.2.1 dM_digits_12 rfl (lv_at hL 1 rfl) ?_
    refine lv_isub K.1 K.2.1 dM_digits_13 ?_
    refine lv_iconst (v := 2) K.1 K.2.1 dM_digits_14 (by decide) ?_
    refine lv_icmp_ne (tgt := 29) K.1 K.2.1 dM_digits_15 rfl (fun hc => ?_) (fun hc => ?_)
    · have h := h.2 hc
      exact bM_digits_29 K hr hZ h (lv_sub hL [0, 1, 2] rfl) hP hS
    · have h := h.1 hc
      refine lv_aload_n K.1 K.2.1 dM_digits_18 rfl (lv_at hL 0 rfl) ?_
      refine x_get (v := .ref (ad 1)) K hP hinM (ci := 7) rfl 0 (by decide) rfl 0 (by decide) flM_7 rfl rfl dM_digits_19 ?_
      refine lv_iload_n K.1 K.2.1 dM_digits_22 rfl (lv_at hL 1 rfl) ?_
      obtain ⟨g4, h⟩ := h
      refine x_iald K hP 1 (by decide) 0 rfl rfl g4 dM_digits_23 ?_
      refine lv_bipush (v := 48) K.1 K.2.1 dM_digits_24 (by decide) ?_
      refine lv_icmp_eq (tgt := 33) K.1 K.2.1 dM_digits_26 rfl (fun hc => ?_) (fun hc => ?_)
      · have h := h.1 hc
        exact bM_digits_33 K hr hZ h (lv_sub hL [0, 1, 2] rfl) hP hS
      · have h := h.2 hc
        exact bM_digits_29 K hr hZ h (lv_sub hL [0, 1, 2] rfl) hP hS
set_option maxRecDepth 100000 in
set_option maxHeartbeats 4000000 in
theorem mM_digits {l : Launch} {D : va_G} {cI cJ cC cZ cR : ClassId} {ad : Nat → Nat} {A : Nat → Prop} {Zs : State → Prop} (hZ : ZsOK A Zs) (hD : wlD 21 ad A) {v1 : Int32} {v2 : Int32} {hi : HI} {hl : HL} {Φ : Int32 → HI → HL → Prop} (h : wpM_digits v1 v2 hi hl Φ) : SpI l yM_digits cM_digits 6 (some .int) gT 1 22 [.ref (ad 0), .int v1, .int v2] D cls8 (tys5 cI cJ cC cZ cR) 21 ad (GM cI cZ ad) A Zs hi hl Φ := by
  refine Met.ofW (cc := cM_digits) (maxL := 6) (ret := (some .int)) (by decide) rfl ?_
  intro p e s m args below meth c s₁ B hml hv
  obtain ⟨rfl, hP, hK, hZs⟩ := hv
  have K : Cx p (rmX 1 22) s m _ meth c cM_digits 6 "WordCheckerModel" gT D cls8 (tys5 cI cJ cC cZ cR) 21 ad A Zs := ⟨B.exec, B.bytes, hml, findClass_of_methodNamed B.named, fun w hw => atoms_spec B.pre w (List.mem_cons_of_mem _ hw), B.notSynchronized, hK, hD, hZs⟩
  have hL := lv_entry ([.ref (ad 0), .int v1, .int v2]) (n := 6) (Nat.le_of_ble_eq_true rfl)
  rw [lg_entry_eq]
  generalize (lg_sl ([.ref (ad 0), .int v1, .int v2]) ++ List.replicate (6 - (lg_sl ([.ref (ad 0), .int v1, .int v2])).length) Slot.unset).toArray = ls at hL ⊢
  have hL : lv_has ls 6 [(0, .ref (ad 0)), (1, .int v1), (2, .int v2)] := hL
  unfold wpM_digits at h
  exact bM_digits_0 K B.returns hZ h (lv_sub hL [0, 1, 2] rfl) hP va_S.rf
set_option maxRecDepth 100000 in
set_option maxHeartbeats 4000000 in
theorem bM_number_0 {p : Program} {l : Launch} {e : Env} {s : State} {m : MethodId} {args : Array Value} {below : List Frame} {meth : Method} {c : Code} {D : va_G} {cI cJ cC cZ cR : ClassId} {ad : Nat → Nat} {A : Nat → Prop} {Zs : State → Prop} (K : Cx p (rmX 2 47) s m args meth c cM_number 2 "WordCheckerModel" gT D cls8 (tys5 cI cJ cC cZ cR) 21 ad A Zs) (hr : meth.sig.returnType = (some .int)) (hZ : ZsOK A Zs) {Φ : Int32 → HI → HL → Prop} {v1 : Int32} {hi : HI} {hl : HL} {H : Heap} {locs : List Loc} (h : wbM_number_0 v1 hi hl Φ) {ls : Array Slot} (hL : lv_has ls 2 [(0, .ref (ad 0)), (1, .int v1)]) (hP : va_P D cls8 (wl 21 ad (GM cI cZ ad) hi hl) H) (hS : va_S A s.heap H locs) : W p l e (rmX 2 47) s m args below meth c H locs 0 0 (MQ below (va_Qi (fun r (u : HI × HL) => Φ r u.1 u.2) (fun u t => va_P D cls8 (wl 21 ad (GM cI cZ ad) u.1 u.2) t.heap) A) args s 0 0 A) (F0 m 0 ls []) := by
  unfold wbM_number_0 at h
  refine lv_iload_n K.1 K.2.1 dM_number_0 rfl (lv_at hL 1 rfl) ?_
  refine lv_aload_n K.1 K.2.1 dM_number_1 rfl (lv_at hL 0 rfl) ?_
  refine x_get (v := .int (hi 0 2)) K hP hinM (ci := 7) rfl 0 (by decide) rfl 2 (by decide) flM_82 rfl rfl dM_number_2 ?_
  refine lv_icmp_ge (tgt := 27) K.1 K.2.1 dM_number_5 rfl (fun hc => ?_) (fun hc => ?_)
  · have h := h.1 hc
    refine lv_iconst (v := -1) K.1 K.2.1 dM_number_27 (by decide) ?_
    exact x_iret K hr hP hS h dM_number_28
  · have h := h.2 hc
    refine lv_aload_n K.1 K.2.1 dM_number_8 rfl (lv_at hL 0 rfl) ?_
    refine lv_aload_n K.1 K.2.1 dM_number_9 rfl (lv_at hL 0 rfl) ?_
    refine x_get (v := .ref (ad 2)) K hP hinM (ci := 7) rfl 0 (by decide) rfl 3 (by decide) flM_13 rfl rfl dM_number_10 ?_
    refine lv_iload_n K.1 K.2.1 dM_number_13 rfl (lv_at hL 1 rfl) ?_
    obtain ⟨g1, h⟩ := h
    refine x_iald K hP 2 (by decide) 0 rfl rfl g1 dM_number_14 ?_
    refine lv_aload_n K.1 K.2.1 dM_number_15 rfl (lv_at hL 0 rfl) ?_
    refine x_get (v := .ref (ad 3)) K hP hinM (ci := 7) rfl 0 (by decide) rfl 4 (by decide) flM_16 rfl rfl dM_number_16 ?_
    refine lv_iload_n K.1 K.2.1 dM_number_19 rfl (lv_at hL 1 rfl) ?_
    obtain ⟨g2, h⟩ := h
    refine x_iald K hP 3 (by decide) 0 rfl rfl g2 dM_number_20 ?_
    refine x_cVI (As := [.int (hi 2 (v1.toNatClampNeg)), .int (hi 3 (v1.toNatClampNeg))]) (rest := []) K gT_good hZ hP hS calM_digits mlM_85 0 (by decide) rfl rfl (mM_digits hZ K.2.2.2.2.2.2.2.1 h) ⟨Nat.le_of_ble_eq_true rfl, Nat.le_of_ble_eq_true rfl⟩ rfl hL.1 rfl (Nat.le_of_ble_eq_true rfl) dM_number_21 (fun r3 hi4 hl5 H locs h hP hS => ?_)
    refine lv_goto (tgt := 28) K.1 K.2.1 dM_number_24 rfl ?_
    exact x_iret K hr hP hS h dM_number_28
set_option maxRecDepth 100000 in
set_option maxHeartbeats 4000000 in
theorem mM_number {l : Launch} {D : va_G} {cI cJ cC cZ cR : ClassId} {ad : Nat → Nat} {A : Nat → Prop} {Zs : State → Prop} (hZ : ZsOK A Zs) (hD : wlD 21 ad A) {v1 : Int32} {hi : HI} {hl : HL} {Φ : Int32 → HI → HL → Prop} (h : wpM_number v1 hi hl Φ) : SpI l yM_number cM_number 2 (some .int) gT 2 47 [.ref (ad 0), .int v1] D cls8 (tys5 cI cJ cC cZ cR) 21 ad (GM cI cZ ad) A Zs hi hl Φ := by
  refine Met.ofW (cc := cM_number) (maxL := 2) (ret := (some .int)) (by decide) rfl ?_
  intro p e s m args below meth c s₁ B hml hv
  obtain ⟨rfl, hP, hK, hZs⟩ := hv
  have K : Cx p (rmX 2 47) s m _ meth c cM_number 2 "WordCheckerModel" gT D cls8 (tys5 cI cJ cC cZ cR) 21 ad A Zs := ⟨B.exec, B.bytes, hml, findClass_of_methodNamed B.named, fun w hw => atoms_spec B.pre w (List.mem_cons_of_mem _ hw), B.notSynchronized, hK, hD, hZs⟩
  have hL := lv_entry ([.ref (ad 0), .int v1]) (n := 2) (Nat.le_of_ble_eq_true rfl)
  rw [lg_entry_eq]
  generalize (lg_sl ([.ref (ad 0), .int v1]) ++ List.replicate (2 - (lg_sl ([.ref (ad 0), .int v1])).length) Slot.unset).toArray = ls at hL ⊢
  have hL : lv_has ls 2 [(0, .ref (ad 0)), (1, .int v1)] := hL
  unfold wpM_number at h
  exact bM_number_0 K B.returns hZ h (lv_sub hL [0, 1] rfl) hP va_S.rf
set_option maxRecDepth 100000 in
set_option maxHeartbeats 4000000 in
theorem bM_letters_109 {p : Program} {l : Launch} {e : Env} {s : State} {m : MethodId} {args : Array Value} {below : List Frame} {meth : Method} {c : Code} {D : va_G} {cI cJ cC cZ cR : ClassId} {ad : Nat → Nat} {A : Nat → Prop} {Zs : State → Prop} (K : Cx p (rmX 1 22) s m args meth c cM_letters 6 "WordCheckerModel" gT D cls8 (tys5 cI cJ cC cZ cR) 21 ad A Zs) (hr : meth.sig.returnType = (some .long)) (hZ : ZsOK A Zs) {Φ : Int64 → HI → HL → Prop} {v2 : Int64} {v4 : Int32} {hi : HI} {hl : HL} {H : Heap} {locs : List Loc} (h : wbM_letters_109 v2 v4 hi hl Φ) {ls : Array Slot} (hL : lv_has ls 6 [(2, .long v2), (4, .int v4)]) (hP : va_P D cls8 (wl 21 ad (GM cI cZ ad) hi hl) H) (hS : va_S A s.heap H locs) : W p l e (rmX 1 22) s m args below meth c H locs 0 0 (MQ below (va_Ql (fun r (u : HI × HL) => Φ r u.1 u.2) (fun u t => va_P D cls8 (wl 21 ad (GM cI cZ ad) u.1 u.2) t.heap) A) args s 0 0 A) (F0 m 109 ls []) := by
  unfold wbM_letters_109 at h
  refine lv_iload K.1 K.2.1 dM_letters_109 (lv_at hL 1 rfl) ?_
  refine lv_if_eq (tgt := 118) K.1 K.2.1 dM_letters_111 rfl (fun hc => ?_) (fun hc => ?_)
  · have h := h.1 hc
    refine lv_lconst (v := 0) K.1 K.2.1 dM_letters_118 (by decide) ?_
    exact x_lret K hr hP hS h dM_letters_119
  · have h := h.2 hc
    refine lv_lload_n K.1 K.2.1 dM_letters_114 rfl (lv_at hL 0 rfl) ?_
    refine lv_goto (tgt := 119) K.1 K.2.1 dM_letters_115 rfl ?_
    exact x_lret K hr hP hS h dM_letters_119
set_option maxRecDepth 100000 in
set_option maxHeartbeats 4000000 in
theorem bM_letters_52 {p : Program} {l : Launch} {e : Env} {s : State} {m : MethodId} {args : Array Value} {below : List Frame} {meth : Method} {c : Code} {D : va_G} {cI cJ cC cZ cR : ClassId} {ad : Nat → Nat} {A : Nat → Prop} {Zs : State → Prop} (K : Cx p (rmX 1 22) s m args meth c cM_letters 6 "WordCheckerModel" gT D cls8 (tys5 cI cJ cC cZ cR) 21 ad A Zs) (hr : meth.sig.returnType = (some .long)) (hZ : ZsOK A Zs) {Φ : Int64 → HI → HL → Prop} {n : Nat} {v1 : Int32} {v2 : Int64} {v4 : Int32} {v5 : Int32} {hi : HI} {hl : HL} {H : Heap} {locs : List Loc} (h : wbM_letters_52 n v1 v2 v4 v5 hi hl Φ) {ls : Array Slot} (hL : lv_has ls 6 [(0, .ref (ad 0)), (1, .int v1), (2, .long v2), (4, .int v4), (5, .int v5)]) (hP : va_P D cls8 (wl 21 ad (GM cI cZ ad) hi hl) H) (hS : va_S A s.heap H locs) : W p l e (rmX 1 22) s m args below meth c H locs 0 0 (MQ below (va_Ql (fun r (u : HI × HL) => Φ r u.1 u.2) (fun u t => va_P D cls8 (wl 21 ad (GM cI cZ ad) u.1 u.2) t.heap) A) args s 0 0 A) (F0 m 52 ls []) := by
  induction n generalizing v1 v2 v4 v5 hi hl ls H locs with
  | zero => exact False.elim h
  | succ n ih =>
    unfold wbM_letters_52 at h
    refine lv_iload K.1 K.2.1 dM_letters_52 (lv_at hL 3 rfl) ?_
    refine lv_if_eq (tgt := 109) K.1 K.2.1 dM_letters_54 rfl (fun hc => ?_) (fun hc => ?_)
    · have h := h.1 hc
      exact bM_letters_109 K hr hZ h (lv_sub hL [2, 3] rfl) hP hS
    · have h := h.2 hc
      refine lv_iload K.1 K.2.1 dM_letters_57 (lv_at hL 4 rfl) ?_
      refine lv_aload_n K.1 K.2.1 dM_letters_59 rfl (lv_at hL 0 rfl) ?_
      refine x_get (v := .ref (ad 3)) K hP hinM (ci := 7) rfl 0 (by decide) rfl 4 (by decide) flM_16 rfl rfl dM_letters_60 ?_
      refine lv_iload_n K.1 K.2.1 dM_letters_63 rfl (lv_at hL 1 rfl) ?_
      obtain ⟨g1, h⟩ := h
      refine x_iald K hP 3 (by decide) 0 rfl rfl g1 dM_letters_64 ?_
      refine lv_icmp_ge (tgt := 109) K.1 K.2.1 dM_letters_65 rfl (fun hc => ?_) (fun hc => ?_)
      · have h := h.1 hc
        exact bM_letters_109 K hr hZ h (lv_sub hL [2, 3] rfl) hP hS
      · have h := h.2 hc
        refine lv_aload_n K.1 K.2.1 dM_letters_68 rfl (lv_at hL 0 rfl) ?_
        refine x_get (v := .ref (ad 1)) K hP hinM (ci := 7) rfl 0 (by decide) rfl 0 (by decide) flM_7 rfl rfl dM_letters_69 ?_
        refine lv_iload K.1 K.2.1 dM_letters_72 (lv_at hL 4 rfl) ?_
        obtain ⟨g2, h⟩ := h
        refine x_iald K hP 1 (by decide) 0 rfl rfl g2 dM_letters_74 ?_
        refine lv_bipush (v := 97) K.1 K.2.1 dM_letters_75 (by decide) ?_
        refine lv_bipush (v := 122) K.1 K.2.1 dM_letters_77 (by decide) ?_
        refine x_cSI (As := [.int (hi 1 (v5.toNatClampNeg)), .int (97 : Int32), .int (122 : Int32)]) (rest := []) K gT_good hZ hP hS calM_in mlM_75 (mM_in hZ K.2.2.2.2.2.2.2.1 h) ⟨Nat.le_of_ble_eq_true rfl, Nat.le_of_ble_eq_true rfl⟩ rfl hL.1 rfl (Nat.le_of_ble_eq_true rfl) dM_letters_79 (fun r3 hi4 hl5 H locs h hP hS => ?_)
        refine lv_istore (lv' := [(4, .int r3), (0, .ref (ad 0)), (1, .int v1), (2, .long v2), (5, .int v5)]) K.1 K.2.1 dM_letters_82 hL (by decide) rfl (fun ls hL => ?_)
        refine lv_ldc2 (v := 32) K.1 K.2.1 K.2.2.2.1 (K.2.2.2.2.1 _ clM_89) dM_letters_84 ?_
        refine lv_lload_n K.1 K.2.1 dM_letters_87 rfl (lv_at hL 3 rfl) ?_
        refine lv_lmul K.1 K.2.1 dM_letters_88 ?_
        refine lv_aload_n K.1 K.2.1 dM_letters_89 rfl (lv_at hL 1 rfl) ?_
        refine x_get (v := .ref (ad 1)) K hP hinM (ci := 7) rfl 0 (by decide) rfl 0 (by decide) flM_7 rfl rfl dM_letters_90 ?_
        refine lv_iload K.1 K.2.1 dM_letters_93 (lv_at hL 4 rfl) ?_
        obtain ⟨g6, h⟩ := h
        refine x_iald K hP 1 (by decide) 0 rfl rfl g6 dM_letters_95 ?_
        refine lv_i2l K.1 K.2.1 dM_letters_96 rfl ?_
        refine lv_ladd K.1 K.2.1 dM_letters_97 ?_
        refine lv_ldc2 (v := 96) K.1 K.2.1 K.2.2.2.1 (K.2.2.2.2.1 _ clM_91) dM_letters_98 ?_
        refine lv_lsub K.1 K.2.1 dM_letters_101 ?_
        refine lv_lstore_n (lv' := [(2, .long ((((32 : Int64) * v2) + ((hi4 1 (v5.toNatClampNeg)).toInt64)) - (96 : Int64))), (4, .int r3), (0, .ref (ad 0)), (1, .int v1), (5, .int v5)]) K.1 K.2.1 dM_letters_102 rfl hL (by decide) rfl (fun ls hL => ?_)
        refine lv_iinc (k := 4) (lv' := [(5, .int (v5 + Int32.ofInt (1))), (2, .long ((((32 : Int64) * v2) + ((hi4 1 (v5.toNatClampNeg)).toInt64)) - (96 : Int64))), (4, .int r3), (0, .ref (ad 0)), (1, .int v1)]) K.1 K.2.1 dM_letters_103 hL rfl rfl (by decide) rfl (fun ls hL => ?_)
        refine lv_goto (tgt := 52) K.1 K.2.1 dM_letters_106 rfl ?_
        exact ih h (lv_sub hL [3, 4, 1, 2, 0] rfl) hP hS
set_option maxRecDepth 100000 in
set_option maxHeartbeats 4000000 in
theorem bM_letters_50 {p : Program} {l : Launch} {e : Env} {s : State} {m : MethodId} {args : Array Value} {below : List Frame} {meth : Method} {c : Code} {D : va_G} {cI cJ cC cZ cR : ClassId} {ad : Nat → Nat} {A : Nat → Prop} {Zs : State → Prop} (K : Cx p (rmX 1 22) s m args meth c cM_letters 6 "WordCheckerModel" gT D cls8 (tys5 cI cJ cC cZ cR) 21 ad A Zs) (hr : meth.sig.returnType = (some .long)) (hZ : ZsOK A Zs) {Φ : Int64 → HI → HL → Prop} {v1 : Int32} {v2 : Int64} {v4 : Int32} {q0 : Int32} {hi : HI} {hl : HL} {H : Heap} {locs : List Loc} (h : wbM_letters_50 v1 v2 v4 q0 hi hl Φ) {ls : Array Slot} (hL : lv_has ls 6 [(0, .ref (ad 0)), (1, .int v1), (2, .long v2), (4, .int v4)]) (hP : va_P D cls8 (wl 21 ad (GM cI cZ ad) hi hl) H) (hS : va_S A s.heap H locs) : W p l e (rmX 1 22) s m args below meth c H locs 0 0 (MQ below (va_Ql (fun r (u : HI × HL) => Φ r u.1 u.2) (fun u t => va_P D cls8 (wl 21 ad (GM cI cZ ad) u.1 u.2) t.heap) A) args s 0 0 A) (F0 m 50 ls [.int q0]) := by
  unfold wbM_letters_50 at h
  refine lv_istore (lv' := [(5, .int q0), (0, .ref (ad 0)), (1, .int v1), (2, .long v2), (4, .int v4)]) K.1 K.2.1 dM_letters_50 hL (by decide) rfl (fun ls hL => ?_)
  obtain ⟨fu, h⟩ := h
  exact bM_letters_52 K hr hZ h (lv_sub hL [1, 2, 3, 4, 0] rfl) hP hS
set_option maxRecDepth 100000 in
set_option maxHeartbeats 4000000 in
theorem bM_letters_33 {p : Program} {l : Launch} {e : Env} {s : State} {m : MethodId} {args : Array Value} {below : List Frame} {meth : Method} {c : Code} {D : va_G} {cI cJ cC cZ cR : ClassId} {ad : Nat → Nat} {A : Nat → Prop} {Zs : State → Prop} (K : Cx p (rmX 1 22) s m args meth c cM_letters 6 "WordCheckerModel" gT D cls8 (tys5 cI cJ cC cZ cR) 21 ad A Zs) (hr : meth.sig.returnType = (some .long)) (hZ : ZsOK A Zs) {Φ : Int64 → HI → HL → Prop} {v1 : Int32} {v2 : Int64} {q0 : Int32} {hi : HI} {hl : HL} {H : Heap} {locs : List Loc} (h : wbM_letters_33 v1 v2 q0 hi hl Φ) {ls : Array Slot} (hL : lv_has ls 6 [(0, .ref (ad 0)), (1, .int v1), (2, .long v2)]) (hP : va_P D cls8 (wl 21 ad (GM cI cZ ad) hi hl) H) (hS : va_S A s.heap H locs) : W p l e (rmX 1 22) s m args below meth c H locs 0 0 (MQ below (va_Ql (fun r (u : HI × HL) => Φ r u.1 u.2) (fun u t => va_P D cls8 (wl 21 ad (GM cI cZ ad) u.1 u.2) t.heap) A) args s 0 0 A) (F0 m 33 ls [.int q0]) := by
  unfold wbM_letters_33 at h
  refine lv_istore (lv' := [(4, .int q0), (0, .ref (ad 0)), (1, .int v1), (2, .long v2)]) K.1 K.2.1 dM_letters_33 hL (by decide) rfl (fun ls hL => ?_)
  refine lv_iload K.1 K.2.1 dM_letters_35 (lv_at hL 0 rfl) ?_
  refine lv_if_eq (tgt := 49) K.1 K.2.1 dM_letters_37 rfl (fun hc => ?_) (fun hc => ?_)
  · have h := h.1 hc
    refine lv_iconst (v := 0) K.1 K.2.1 dM_letters_49 (by decide) ?_
    exact bM_letters_50 K hr hZ h (lv_sub hL [1, 2, 3, 0] rfl) hP hS
  · have h := h.2 hc
    refine lv_aload_n K.1 K.2.1 dM_letters_40 rfl (lv_at hL 1 rfl) ?_
    refine x_get (v := .ref (ad 2)) K hP hinM (ci := 7) rfl 0 (by decide) rfl 3 (by decide) flM_13 rfl rfl dM_letters_41 ?_
    refine lv_iload_n K.1 K.2.1 dM_letters_44 rfl (lv_at hL 2 rfl) ?_
    obtain ⟨g1, h⟩ := h
    refine x_iald K hP 2 (by decide) 0 rfl rfl g1 dM_letters_45 ?_
    refine lv_goto (tgt := 50) K.1 K.2.1 dM_letters_46 rfl ?_
    exact bM_letters_50 K hr hZ h (lv_sub hL [1, 2, 3, 0] rfl) hP hS
set_option maxRecDepth 100000 in
set_option maxHeartbeats 4000000 in
theorem bM_letters_32 {p : Program} {l : Launch} {e : Env} {s : State} {m : MethodId} {args : Array Value} {below : List Frame} {meth : Method} {c : Code} {D : va_G} {cI cJ cC cZ cR : ClassId} {ad : Nat → Nat} {A : Nat → Prop} {Zs : State → Prop} (K : Cx p (rmX 1 22) s m args meth c cM_letters 6 "WordCheckerModel" gT D cls8 (tys5 cI cJ cC cZ cR) 21 ad A Zs) (hr : meth.sig.returnType = (some .long)) (hZ : ZsOK A Zs) {Φ : Int64 → HI → HL → Prop} {v1 : Int32} {v2 : Int64} {hi : HI} {hl : HL} {H : Heap} {locs : List Loc} (h : wbM_letters_32 v1 v2 hi hl Φ) {ls : Array Slot} (hL : lv_has ls 6 [(0, .ref (ad 0)), (1, .int v1), (2, .long v2)]) (hP : va_P D cls8 (wl 21 ad (GM cI cZ ad) hi hl) H) (hS : va_S A s.heap H locs) : W p l e (rmX 1 22) s m args below meth c H locs 0 0 (MQ below (va_Ql (fun r (u : HI × HL) => Φ r u.1 u.2) (fun u t => va_P D cls8 (wl 21 ad (GM cI cZ ad) u.1 u.2) t.heap) A) args s 0 0 A) (F0 m 32 ls []) := by
  unfold wbM_letters_32 at h
  refine lv_iconst (v := 0) K.1 K.2.1 dM_letters_32 (by decide) ?_
  exact bM_letters_33 K hr hZ h (lv_sub hL [0, 1, 2] rfl) hP hS
set_option maxRecDepth 100000 in
set_option maxHeartbeats 4000000 in
theorem bM_letters_0 {p : Program} {l : Launch} {e : Env} {s : State} {m : MethodId} {args : Array Value} {below : List Frame} {meth : Method} {c : Code} {D : va_G} {cI cJ cC cZ cR : ClassId} {ad : Nat → Nat} {A : Nat → Prop} {Zs : State → Prop} (K : Cx p (rmX 1 22) s m args meth c cM_letters 6 "WordCheckerModel" gT D cls8 (tys5 cI cJ cC cZ cR) 21 ad A Zs) (hr : meth.sig.returnType = (some .long)) (hZ : ZsOK A Zs) {Φ : Int64 → HI → HL → Prop} {v1 : Int32} {hi : HI} {hl : HL} {H : Heap} {locs : List Loc} (h : wbM_letters_0 v1 hi hl Φ) {ls : Array Slot} (hL : lv_has ls 6 [(0, .ref (ad 0)), (1, .int v1)]) (hP : va_P D cls8 (wl 21 ad (GM cI cZ ad) hi hl) H) (hS : va_S A s.heap H locs) : W p l e (rmX 1 22) s m args below meth c H locs 0 0 (MQ below (va_Ql (fun r (u : HI × HL) => Φ r u.1 u.2) (fun u t => va_P D cls8 (wl 21 ad (GM cI cZ ad) u.1 u.2) t.heap) A) args s 0 0 A) (F0 m 0 ls []) := by
  unfold wbM_letters_0 at h
  refine lv_lconst (v := 0) K.1 K.2.1 dM_letters_0 (by decide) ?_
  refine lv_lstore_n (lv' := [(2, .long (0 : Int64)), (0, .ref (ad 0)), (1, .int v1)]) K.1 K.2.1 dM_letters_1 rfl hL (by decide) rfl (fun ls hL => ?_)
  refine lv_iload_n K.1 K.2.1 dM_letters_2 rfl (lv_at hL 2 rfl) ?_
  refine lv_aload_n K.1 K.2.1 dM_letters_3 rfl (lv_at hL 1 rfl) ?_
  refine x_get (v := .int (hi 0 2)) K hP hinM (ci := 7) rfl 0 (by decide) rfl 2 (by decide) flM_82 rfl rfl dM_letters_4 ?_
  refine lv_icmp_ge (tgt := 32) K.1 K.2.1 dM_letters_7 rfl (fun hc => ?_) (fun hc => ?_)
  · have h := h.1 hc
    exact bM_letters_32 K hr hZ h (lv_sub hL [1, 2, 0] rfl) hP hS
  · have h := h.2 hc
    refine lv_aload_n K.1 K.2.1 dM_letters_10 rfl (lv_at hL 1 rfl) ?_
    refine x_get (v := .ref (ad 3)) K hP hinM (ci := 7) rfl 0 (by decide) rfl 4 (by decide) flM_16 rfl rfl dM_letters_11 ?_
    refine lv_iload_n K.1 K.2.1 dM_letters_14 rfl (lv_at hL 2 rfl) ?_
    obtain ⟨g1, h⟩ := h
    refine x_iald K hP 3 (by decide) 0 rfl rfl g1 dM_letters_15 ?_
    refine lv_aload_n K.1 K.2.1 dM_letters_16 rfl (lv_at hL 1 rfl) ?_
    refine x_get (v := .ref (ad 2)) K hP hinM (ci := 7) rfl 0 (by decide) rfl 3 (by decide) flM_13 rfl rfl dM_letters_17 ?_
    refine lv_iload_n K.1 K.2.1 dM_letters_20 rfl (lv_at hL 2 rfl) ?_
    obtain ⟨g2, h⟩ := h
    refine x_iald K hP 2 (by decide) 0 rfl rfl g2 dM_letters_21 ?_
    refine lv_isub K.1 K.2.1 dM_letters_22 ?_
    refine lv_bipush (v := 10) K.1 K.2.1 dM_letters_23 (by decide) ?_
    refine lv_icmp_gt (tgt := 32) K.1 K.2.1 dM_letters_25 rfl (fun hc => ?_) (fun hc => ?_)
    · have h := h.1 hc
      exact bM_letters_32 K hr hZ h (lv_sub hL [1, 2, 0] rfl) hP hS
    · have h := h.2 hc
      refine lv_iconst (v := 1) K.1 K.2.1 dM_letters_28 (by decide) ?_
      refine lv_goto (tgt := 33) K.1 K.2.1 dM_letters_29 rfl ?_
      exact bM_letters_33 K hr hZ h (lv_sub hL [1, 2, 0] rfl) hP hS
set_option maxRecDepth 100000 in
set_option maxHeartbeats 4000000 in
theorem mM_letters {l : Launch} {D : va_G} {cI cJ cC cZ cR : ClassId} {ad : Nat → Nat} {A : Nat → Prop} {Zs : State → Prop} (hZ : ZsOK A Zs) (hD : wlD 21 ad A) {v1 : Int32} {hi : HI} {hl : HL} {Φ : Int64 → HI → HL → Prop} (h : wpM_letters v1 hi hl Φ) : SpJ l yM_letters cM_letters 6 (some .long) gT 1 22 [.ref (ad 0), .int v1] D cls8 (tys5 cI cJ cC cZ cR) 21 ad (GM cI cZ ad) A Zs hi hl Φ := by
  refine Met.ofW (cc := cM_letters) (maxL := 6) (ret := (some .long)) (by decide) rfl ?_
  intro p e s m args below meth c s₁ B hml hv
  obtain ⟨rfl, hP, hK, hZs⟩ := hv
  have K : Cx p (rmX 1 22) s m _ meth c cM_letters 6 "WordCheckerModel" gT D cls8 (tys5 cI cJ cC cZ cR) 21 ad A Zs := ⟨B.exec, B.bytes, hml, findClass_of_methodNamed B.named, fun w hw => atoms_spec B.pre w (List.mem_cons_of_mem _ hw), B.notSynchronized, hK, hD, hZs⟩
  have hL := lv_entry ([.ref (ad 0), .int v1]) (n := 6) (Nat.le_of_ble_eq_true rfl)
  rw [lg_entry_eq]
  generalize (lg_sl ([.ref (ad 0), .int v1]) ++ List.replicate (6 - (lg_sl ([.ref (ad 0), .int v1])).length) Slot.unset).toArray = ls at hL ⊢
  have hL : lv_has ls 6 [(0, .ref (ad 0)), (1, .int v1)] := hL
  unfold wpM_letters at h
  exact bM_letters_0 K B.returns hZ h (lv_sub hL [0, 1] rfl) hP va_S.rf
set_option maxRecDepth 100000 in
set_option maxHeartbeats 4000000 in
theorem bM_kindOf_445 {p : Program} {l : Launch} {e : Env} {s : State} {m : MethodId} {args : Array Value} {below : List Frame} {meth : Method} {c : Code} {D : va_G} {cI cJ cC cZ cR : ClassId} {ad : Nat → Nat} {A : Nat → Prop} {Zs : State → Prop} (K : Cx p (rmX 0 0) s m args meth c cM_kindOf 3 "WordCheckerModel" gT D cls8 (tys5 cI cJ cC cZ cR) 21 ad A Zs) (hr : meth.sig.returnType = (some .int)) (hZ : ZsOK A Zs) {Φ : Int32 → HI → HL → Prop} {v0 : Int64} {q0 : Int32} {hi : HI} {hl : HL} {H : Heap} {locs : List Loc} (h : wbM_kindOf_445 v0 q0 hi hl Φ) {ls : Array Slot} (hL : lv_has ls 3 [(0, .long v0)]) (hP : va_P D cls8 (wl 21 ad (GM cI cZ ad) hi hl) H) (hS : va_S A s.heap H locs) : W p l e (rmX 0 0) s m args below meth c H locs 0 0 (MQ below (va_Qi (fun r (u : HI × HL) => Φ r u.1 u.2) (fun u t => va_P D cls8 (wl 21 ad (GM cI cZ ad) u.1 u.2) t.heap) A) args s 0 0 A) (F0 m 445 ls [.int q0]) := by
  unfold wbM_kindOf_445 at h
  refine lv_istore_n (lv' := [(2, .int q0), (0, .long v0)]) K.1 K.2.1 dM_kindOf_445 rfl hL (by decide) rfl (fun ls hL => ?_)
  refine lv_lload_n K.1 K.2.1 dM_kindOf_446 rfl (lv_at hL 1 rfl) ?_
  refine lv_ldc2 (v := 122547918120404) K.1 K.2.1 K.2.2.2.1 (K.2.2.2.2.1 _ clM_153) dM_kindOf_447 ?_
  refine W.lcmp K.1 K.2.1 dM_kindOf_450 ?_
  refine lv_if_ne (tgt := 459) K.1 K.2.1 dM_kindOf_451 rfl (fun hc => ?_) (fun hc => ?_)
  · have h := h.2 hc
    refine lv_iload_n K.1 K.2.1 dM_kindOf_459 rfl (lv_at hL 0 rfl) ?_
    refine lv_istore_n (lv' := [(2, .int q0), (0, .long v0)]) K.1 K.2.1 dM_kindOf_460 rfl hL (by decide) rfl (fun ls hL => ?_)
    refine lv_iload_n K.1 K.2.1 dM_kindOf_461 rfl (lv_at hL 0 rfl) ?_
    exact x_iret K hr hP hS h dM_kindOf_462
  · have h := h.1 hc
    refine lv_bipush (v := 30) K.1 K.2.1 dM_kindOf_454 (by decide) ?_
    refine lv_goto (tgt := 460) K.1 K.2.1 dM_kindOf_456 rfl ?_
    refine lv_istore_n (lv' := [(2, .int (30 : Int32)), (0, .long v0)]) K.1 K.2.1 dM_kindOf_460 rfl hL (by decide) rfl (fun ls hL => ?_)
    refine lv_iload_n K.1 K.2.1 dM_kindOf_461 rfl (lv_at hL 0 rfl) ?_
    exact x_iret K hr hP hS h dM_kindOf_462
set_option maxRecDepth 100000 in
set_option maxHeartbeats 4000000 in
theorem bM_kindOf_430 {p : Program} {l : Launch} {e : Env} {s : State} {m : MethodId} {args : Array Value} {below : List Frame} {meth : Method} {c : Code} {D : va_G} {cI cJ cC cZ cR : ClassId} {ad : Nat → Nat} {A : Nat → Prop} {Zs : State → Prop} (K : Cx p (rmX 0 0) s m args meth c cM_kindOf 3 "WordCheckerModel" gT D cls8 (tys5 cI cJ cC cZ cR) 21 ad A Zs) (hr : meth.sig.returnType = (some .int)) (hZ : ZsOK A Zs) {Φ : Int32 → HI → HL → Prop} {v0 : Int64} {q0 : Int32} {hi : HI} {hl : HL} {H : Heap} {locs : List Loc} (h : wbM_kindOf_430 v0 q0 hi hl Φ) {ls : Array Slot} (hL : lv_has ls 3 [(0, .long v0)]) (hP : va_P D cls8 (wl 21 ad (GM cI cZ ad) hi hl) H) (hS : va_S A s.heap H locs) : W p l e (rmX 0 0) s m args below meth c H locs 0 0 (MQ below (va_Qi (fun r (u : HI × HL) => Φ r u.1 u.2) (fun u t => va_P D cls8 (wl 21 ad (GM cI cZ ad) u.1 u.2) t.heap) A) args s 0 0 A) (F0 m 430 ls [.int q0]) := by
  unfold wbM_kindOf_430 at h
  refine lv_istore_n (lv' := [(2, .int q0), (0, .long v0)]) K.1 K.2.1 dM_kindOf_430 rfl hL (by decide) rfl (fun ls hL => ?_)
  refine lv_lload_n K.1 K.2.1 dM_kindOf_431 rfl (lv_at hL 1 rfl) ?_
  refine lv_ldc2 (v := 2084) K.1 K.2.1 K.2.2.2.1 (K.2.2.2.2.1 _ clM_151) dM_kindOf_432 ?_
  refine W.lcmp K.1 K.2.1 dM_kindOf_435 ?_
  refine lv_if_ne (tgt := 444) K.1 K.2.1 dM_kindOf_436 rfl (fun hc => ?_) (fun hc => ?_)
  · have h := h.2 hc
    refine lv_iload_n K.1 K.2.1 dM_kindOf_444 rfl (lv_at hL 0 rfl) ?_
    exact bM_kindOf_445 K hr hZ h (lv_sub hL [1] rfl) hP hS
  · have h := h.1 hc
    refine lv_bipush (v := 29) K.1 K.2.1 dM_kindOf_439 (by decide) ?_
    refine lv_goto (tgt := 445) K.1 K.2.1 dM_kindOf_441 rfl ?_
    exact bM_kindOf_445 K hr hZ h (lv_sub hL [1] rfl) hP hS
set_option maxRecDepth 100000 in
set_option maxHeartbeats 4000000 in
theorem bM_kindOf_415 {p : Program} {l : Launch} {e : Env} {s : State} {m : MethodId} {args : Array Value} {below : List Frame} {meth : Method} {c : Code} {D : va_G} {cI cJ cC cZ cR : ClassId} {ad : Nat → Nat} {A : Nat → Prop} {Zs : State → Prop} (K : Cx p (rmX 0 0) s m args meth c cM_kindOf 3 "WordCheckerModel" gT D cls8 (tys5 cI cJ cC cZ cR) 21 ad A Zs) (hr : meth.sig.returnType = (some .int)) (hZ : ZsOK A Zs) {Φ : Int32 → HI → HL → Prop} {v0 : Int64} {q0 : Int32} {hi : HI} {hl : HL} {H : Heap} {locs : List Loc} (h : wbM_kindOf_415 v0 q0 hi hl Φ) {ls : Array Slot} (hL : lv_has ls 3 [(0, .long v0)]) (hP : va_P D cls8 (wl 21 ad (GM cI cZ ad) hi hl) H) (hS : va_S A s.heap H locs) : W p l e (rmX 0 0) s m args below meth c H locs 0 0 (MQ below (va_Qi (fun r (u : HI × HL) => Φ r u.1 u.2) (fun u t => va_P D cls8 (wl 21 ad (GM cI cZ ad) u.1 u.2) t.heap) A) args s 0 0 A) (F0 m 415 ls [.int q0]) := by
  unfold wbM_kindOf_415 at h
  refine lv_istore_n (lv' := [(2, .int q0), (0, .long v0)]) K.1 K.2.1 dM_kindOf_415 rfl hL (by decide) rfl (fun ls hL => ?_)
  refine lv_lload_n K.1 K.2.1 dM_kindOf_416 rfl (lv_at hL 1 rfl) ?_
  refine lv_ldc2 (v := 464660) K.1 K.2.1 K.2.2.2.1 (K.2.2.2.2.1 _ clM_149) dM_kindOf_417 ?_
  refine W.lcmp K.1 K.2.1 dM_kindOf_420 ?_
  refine lv_if_ne (tgt := 429) K.1 K.2.1 dM_kindOf_421 rfl (fun hc => ?_) (fun hc => ?_)
  · have h := h.2 hc
    refine lv_iload_n K.1 K.2.1 dM_kindOf_429 rfl (lv_at hL 0 rfl) ?_
    exact bM_kindOf_430 K hr hZ h (lv_sub hL [1] rfl) hP hS
  · have h := h.1 hc
    refine lv_bipush (v := 28) K.1 K.2.1 dM_kindOf_424 (by decide) ?_
    refine lv_goto (tgt := 430) K.1 K.2.1 dM_kindOf_426 rfl ?_
    exact bM_kindOf_430 K hr hZ h (lv_sub hL [1] rfl) hP hS
set_option maxRecDepth 100000 in
set_option maxHeartbeats 4000000 in
theorem bM_kindOf_400 {p : Program} {l : Launch} {e : Env} {s : State} {m : MethodId} {args : Array Value} {below : List Frame} {meth : Method} {c : Code} {D : va_G} {cI cJ cC cZ cR : ClassId} {ad : Nat → Nat} {A : Nat → Prop} {Zs : State → Prop} (K : Cx p (rmX 0 0) s m args meth c cM_kindOf 3 "WordCheckerModel" gT D cls8 (tys5 cI cJ cC cZ cR) 21 ad A Zs) (hr : meth.sig.returnType = (some .int)) (hZ : ZsOK A Zs) {Φ : Int32 → HI → HL → Prop} {v0 : Int64} {q0 : Int32} {hi : HI} {hl : HL} {H : Heap} {locs : List Loc} (h : wbM_kindOf_400 v0 q0 hi hl Φ) {ls : Array Slot} (hL : lv_has ls 3 [(0, .long v0)]) (hP : va_P D cls8 (wl 21 ad (GM cI cZ ad) hi hl) H) (hS : va_S A s.heap H locs) : W p l e (rmX 0 0) s m args below meth c H locs 0 0 (MQ below (va_Qi (fun r (u : HI × HL) => Φ r u.1 u.2) (fun u t => va_P D cls8 (wl 21 ad (GM cI cZ ad) u.1 u.2) t.heap) A) args s 0 0 A) (F0 m 400 ls [.int q0]) := by
  unfold wbM_kindOf_400 at h
  refine lv_istore_n (lv' := [(2, .int q0), (0, .long v0)]) K.1 K.2.1 dM_kindOf_400 rfl hL (by decide) rfl (fun ls hL => ?_)
  refine lv_lload_n K.1 K.2.1 dM_kindOf_401 rfl (lv_at hL 1 rfl) ?_
  refine lv_ldc2 (v := 309556) K.1 K.2.1 K.2.2.2.1 (K.2.2.2.2.1 _ clM_147) dM_kindOf_402 ?_
  refine W.lcmp K.1 K.2.1 dM_kindOf_405 ?_
  refine lv_if_ne (tgt := 414) K.1 K.2.1 dM_kindOf_406 rfl (fun hc => ?_) (fun hc => ?_)
  · have h := h.2 hc
    refine lv_iload_n K.1 K.2.1 dM_kindOf_414 rfl (lv_at hL 0 rfl) ?_
    exact bM_kindOf_415 K hr hZ h (lv_sub hL [1] rfl) hP hS
  · have h := h.1 hc
    refine lv_bipush (v := 27) K.1 K.2.1 dM_kindOf_409 (by decide) ?_
    refine lv_goto (tgt := 415) K.1 K.2.1 dM_kindOf_411 rfl ?_
    exact bM_kindOf_415 K hr hZ h (lv_sub hL [1] rfl) hP hS
set_option maxRecDepth 100000 in
set_option maxHeartbeats 4000000 in
theorem bM_kindOf_385 {p : Program} {l : Launch} {e : Env} {s : State} {m : MethodId} {args : Array Value} {below : List Frame} {meth : Method} {c : Code} {D : va_G} {cI cJ cC cZ cR : ClassId} {ad : Nat → Nat} {A : Nat → Prop} {Zs : State → Prop} (K : Cx p (rmX 0 0) s m args meth c cM_kindOf 3 "WordCheckerModel" gT D cls8 (tys5 cI cJ cC cZ cR) 21 ad A Zs) (hr : meth.sig.returnType = (some .int)) (hZ : ZsOK A Zs) {Φ : Int32 → HI → HL → Prop} {v0 : Int64} {q0 : Int32} {hi : HI} {hl : HL} {H : Heap} {locs : List Loc} (h : wbM_kindOf_385 v0 q0 hi hl Φ) {ls : Array Slot} (hL : lv_has ls 3 [(0, .long v0)]) (hP : va_P D cls8 (wl 21 ad (GM cI cZ ad) hi hl) H) (hS : va_S A s.heap H locs) : W p l e (rmX 0 0) s m args below meth c H locs 0 0 (MQ below (va_Qi (fun r (u : HI × HL) => Φ r u.1 u.2) (fun u t => va_P D cls8 (wl 21 ad (GM cI cZ ad) u.1 u.2) t.heap) A) args s 0 0 A) (F0 m 385 ls [.int q0]) := by
  unfold wbM_kindOf_385 at h
  refine lv_istore_n (lv' := [(2, .int q0), (0, .long v0)]) K.1 K.2.1 dM_kindOf_385 rfl hL (by decide) rfl (fun ls hL => ?_)
  refine lv_lload_n K.1 K.2.1 dM_kindOf_386 rfl (lv_at hL 1 rfl) ?_
  refine lv_ldc2 (v := 24716933) K.1 K.2.1 K.2.2.2.1 (K.2.2.2.2.1 _ clM_145) dM_kindOf_387 ?_
  refine W.lcmp K.1 K.2.1 dM_kindOf_390 ?_
  refine lv_if_ne (tgt := 399) K.1 K.2.1 dM_kindOf_391 rfl (fun hc => ?_) (fun hc => ?_)
  · have h := h.2 hc
    refine lv_iload_n K.1 K.2.1 dM_kindOf_399 rfl (lv_at hL 0 rfl) ?_
    exact bM_kindOf_400 K hr hZ h (lv_sub hL [1] rfl) hP hS
  · have h := h.1 hc
    refine lv_bipush (v := 26) K.1 K.2.1 dM_kindOf_394 (by decide) ?_
    refine lv_goto (tgt := 400) K.1 K.2.1 dM_kindOf_396 rfl ?_
    exact bM_kindOf_400 K hr hZ h (lv_sub hL [1] rfl) hP hS
set_option maxRecDepth 100000 in
set_option maxHeartbeats 4000000 in
theorem bM_kindOf_370 {p : Program} {l : Launch} {e : Env} {s : State} {m : MethodId} {args : Array Value} {below : List Frame} {meth : Method} {c : Code} {D : va_G} {cI cJ cC cZ cR : ClassId} {ad : Nat → Nat} {A : Nat → Prop} {Zs : State → Prop} (K : Cx p (rmX 0 0) s m args meth c cM_kindOf 3 "WordCheckerModel" gT D cls8 (tys5 cI cJ cC cZ cR) 21 ad A Zs) (hr : meth.sig.returnType = (some .int)) (hZ : ZsOK A Zs) {Φ : Int32 → HI → HL → Prop} {v0 : Int64} {q0 : Int32} {hi : HI} {hl : HL} {H : Heap} {locs : List Loc} (h : wbM_kindOf_370 v0 q0 hi hl Φ) {ls : Array Slot} (hL : lv_has ls 3 [(0, .long v0)]) (hP : va_P D cls8 (wl 21 ad (GM cI cZ ad) hi hl) H) (hS : va_S A s.heap H locs) : W p l e (rmX 0 0) s m args below meth c H locs 0 0 (MQ below (va_Qi (fun r (u : HI × HL) => Φ r u.1 u.2) (fun u t => va_P D cls8 (wl 21 ad (GM cI cZ ad) u.1 u.2) t.heap) A) args s 0 0 A) (F0 m 370 ls [.int q0]) := by
  unfold wbM_kindOf_370 at h
  refine lv_istore_n (lv' := [(2, .int q0), (0, .long v0)]) K.1 K.2.1 dM_kindOf_370 rfl hL (by decide) rfl (fun ls hL => ?_)
  refine lv_lload_n K.1 K.2.1 dM_kindOf_371 rfl (lv_at hL 1 rfl) ?_
  refine lv_ldc2 (v := 594980) K.1 K.2.1 K.2.2.2.1 (K.2.2.2.2.1 _ clM_143) dM_kindOf_372 ?_
  refine W.lcmp K.1 K.2.1 dM_kindOf_375 ?_
  refine lv_if_ne (tgt := 384) K.1 K.2.1 dM_kindOf_376 rfl (fun hc => ?_) (fun hc => ?_)
  · have h := h.2 hc
    refine lv_iload_n K.1 K.2.1 dM_kindOf_384 rfl (lv_at hL 0 rfl) ?_
    exact bM_kindOf_385 K hr hZ h (lv_sub hL [1] rfl) hP hS
  · have h := h.1 hc
    refine lv_bipush (v := 25) K.1 K.2.1 dM_kindOf_379 (by decide) ?_
    refine lv_goto (tgt := 385) K.1 K.2.1 dM_kindOf_381 rfl ?_
    exact bM_kindOf_385 K hr hZ h (lv_sub hL [1] rfl) hP hS
set_option maxRecDepth 100000 in
set_option maxHeartbeats 4000000 in
theorem bM_kindOf_355 {p : Program} {l : Launch} {e : Env} {s : State} {m : MethodId} {args : Array Value} {below : List Frame} {meth : Method} {c : Code} {D : va_G} {cI cJ cC cZ cR : ClassId} {ad : Nat → Nat} {A : Nat → Prop} {Zs : State → Prop} (K : Cx p (rmX 0 0) s m args meth c cM_kindOf 3 "WordCheckerModel" gT D cls8 (tys5 cI cJ cC cZ cR) 21 ad A Zs) (hr : meth.sig.returnType = (some .int)) (hZ : ZsOK A Zs) {Φ : Int32 → HI → HL → Prop} {v0 : Int64} {q0 : Int32} {hi : HI} {hl : HL} {H : Heap} {locs : List Loc} (h : wbM_kindOf_355 v0 q0 hi hl Φ) {ls : Array Slot} (hL : lv_has ls 3 [(0, .long v0)]) (hP : va_P D cls8 (wl 21 ad (GM cI cZ ad) hi hl) H) (hS : va_S A s.heap H locs) : W p l e (rmX 0 0) s m args below meth c H locs 0 0 (MQ below (va_Qi (fun r (u : HI × HL) => Φ r u.1 u.2) (fun u t => va_P D cls8 (wl 21 ad (GM cI cZ ad) u.1 u.2) t.heap) A) args s 0 0 A) (F0 m 355 ls [.int q0]) := by
  unfold wbM_kindOf_355 at h
  refine lv_istore_n (lv' := [(2, .int q0), (0, .long v0)]) K.1 K.2.1 dM_kindOf_355 rfl hL (by decide) rfl (fun ls hL => ?_)
  refine lv_lload_n K.1 K.2.1 dM_kindOf_356 rfl (lv_at hL 1 rfl) ?_
  refine lv_ldc2 (v := 9861) K.1 K.2.1 K.2.2.2.1 (K.2.2.2.2.1 _ clM_141) dM_kindOf_357 ?_
  refine W.lcmp K.1 K.2.1 dM_kindOf_360 ?_
  refine lv_if_ne (tgt := 369) K.1 K.2.1 dM_kindOf_361 rfl (fun hc => ?_) (fun hc => ?_)
  · have h := h.2 hc
    refine lv_iload_n K.1 K.2.1 dM_kindOf_369 rfl (lv_at hL 0 rfl) ?_
    exact bM_kindOf_370 K hr hZ h (lv_sub hL [1] rfl) hP hS
  · have h := h.1 hc
    refine lv_bipush (v := 24) K.1 K.2.1 dM_kindOf_364 (by decide) ?_
    refine lv_goto (tgt := 370) K.1 K.2.1 dM_kindOf_366 rfl ?_
    exact bM_kindOf_370 K hr hZ h (lv_sub hL [1] rfl) hP hS
set_option maxRecDepth 100000 in
set_option maxHeartbeats 4000000 in
theorem bM_kindOf_340 {p : Program} {l : Launch} {e : Env} {s : State} {m : MethodId} {args : Array Value} {below : List Frame} {meth : Method} {c : Code} {D : va_G} {cI cJ cC cZ cR : ClassId} {ad : Nat → Nat} {A : Nat → Prop} {Zs : State → Prop} (K : Cx p (rmX 0 0) s m args meth c cM_kindOf 3 "WordCheckerModel" gT D cls8 (tys5 cI cJ cC cZ cR) 21 ad A Zs) (hr : meth.sig.returnType = (some .int)) (hZ : ZsOK A Zs) {Φ : Int32 → HI → HL → Prop} {v0 : Int64} {q0 : Int32} {hi : HI} {hl : HL} {H : Heap} {locs : List Loc} (h : wbM_kindOf_340 v0 q0 hi hl Φ) {ls : Array Slot} (hL : lv_has ls 3 [(0, .long v0)]) (hP : va_P D cls8 (wl 21 ad (GM cI cZ ad) hi hl) H) (hS : va_S A s.heap H locs) : W p l e (rmX 0 0) s m args below meth c H locs 0 0 (MQ below (va_Qi (fun r (u : HI × HL) => Φ r u.1 u.2) (fun u t => va_P D cls8 (wl 21 ad (GM cI cZ ad) u.1 u.2) t.heap) A) args s 0 0 A) (F0 m 340 ls [.int q0]) := by
  unfold wbM_kindOf_340 at h
  refine lv_istore_n (lv' := [(2, .int q0), (0, .long v0)]) K.1 K.2.1 dM_kindOf_340 rfl hL (by decide) rfl (fun ls hL => ?_)
  refine lv_lload_n K.1 K.2.1 dM_kindOf_341 rfl (lv_at hL 1 rfl) ?_
  refine lv_ldc2 (v := 628500) K.1 K.2.1 K.2.2.2.1 (K.2.2.2.2.1 _ clM_139) dM_kindOf_342 ?_
  refine W.lcmp K.1 K.2.1 dM_kindOf_345 ?_
  refine lv_if_ne (tgt := 354) K.1 K.2.1 dM_kindOf_346 rfl (fun hc => ?_) (fun hc => ?_)
  · have h := h.2 hc
    refine lv_iload_n K.1 K.2.1 dM_kindOf_354 rfl (lv_at hL 0 rfl) ?_
    exact bM_kindOf_355 K hr hZ h (lv_sub hL [1] rfl) hP hS
  · have h := h.1 hc
    refine lv_bipush (v := 23) K.1 K.2.1 dM_kindOf_349 (by decide) ?_
    refine lv_goto (tgt := 355) K.1 K.2.1 dM_kindOf_351 rfl ?_
    exact bM_kindOf_355 K hr hZ h (lv_sub hL [1] rfl) hP hS
set_option maxRecDepth 100000 in
set_option maxHeartbeats 4000000 in
theorem bM_kindOf_325 {p : Program} {l : Launch} {e : Env} {s : State} {m : MethodId} {args : Array Value} {below : List Frame} {meth : Method} {c : Code} {D : va_G} {cI cJ cC cZ cR : ClassId} {ad : Nat → Nat} {A : Nat → Prop} {Zs : State → Prop} (K : Cx p (rmX 0 0) s m args meth c cM_kindOf 3 "WordCheckerModel" gT D cls8 (tys5 cI cJ cC cZ cR) 21 ad A Zs) (hr : meth.sig.returnType = (some .int)) (hZ : ZsOK A Zs) {Φ : Int32 → HI → HL → Prop} {v0 : Int64} {q0 : Int32} {hi : HI} {hl : HL} {H : Heap} {locs : List Loc} (h : wbM_kindOf_325 v0 q0 hi hl Φ) {ls : Array Slot} (hL : lv_has ls 3 [(0, .long v0)]) (hP : va_P D cls8 (wl 21 ad (GM cI cZ ad) hi hl) H) (hS : va_S A s.heap H locs) : W p l e (rmX 0 0) s m args below meth c H locs 0 0 (MQ below (va_Qi (fun r (u : HI × HL) => Φ r u.1 u.2) (fun u t => va_P D cls8 (wl 21 ad (GM cI cZ ad) u.1 u.2) t.heap) A) args s 0 0 A) (F0 m 325 ls [.int q0]) := by
  unfold wbM_kindOf_325 at h
  refine lv_istore_n (lv' := [(2, .int q0), (0, .long v0)]) K.1 K.2.1 dM_kindOf_325 rfl hL (by decide) rfl (fun ls hL => ?_)
  refine lv_lload_n K.1 K.2.1 dM_kindOf_326 rfl (lv_at hL 1 rfl) ?_
  refine lv_ldc2 (v := 694036) K.1 K.2.1 K.2.2.2.1 (K.2.2.2.2.1 _ clM_137) dM_kindOf_327 ?_
  refine W.lcmp K.1 K.2.1 dM_kindOf_330 ?_
  refine lv_if_ne (tgt := 339) K.1 K.2.1 dM_kindOf_331 rfl (fun hc => ?_) (fun hc => ?_)
  · have h := h.2 hc
    refine lv_iload_n K.1 K.2.1 dM_kindOf_339 rfl (lv_at hL 0 rfl) ?_
    exact bM_kindOf_340 K hr hZ h (lv_sub hL [1] rfl) hP hS
  · have h := h.1 hc
    refine lv_bipush (v := 22) K.1 K.2.1 dM_kindOf_334 (by decide) ?_
    refine lv_goto (tgt := 340) K.1 K.2.1 dM_kindOf_336 rfl ?_
    exact bM_kindOf_340 K hr hZ h (lv_sub hL [1] rfl) hP hS
set_option maxRecDepth 100000 in
set_option maxHeartbeats 4000000 in
theorem bM_kindOf_310 {p : Program} {l : Launch} {e : Env} {s : State} {m : MethodId} {args : Array Value} {below : List Frame} {meth : Method} {c : Code} {D : va_G} {cI cJ cC cZ cR : ClassId} {ad : Nat → Nat} {A : Nat → Prop} {Zs : State → Prop} (K : Cx p (rmX 0 0) s m args meth c cM_kindOf 3 "WordCheckerModel" gT D cls8 (tys5 cI cJ cC cZ cR) 21 ad A Zs) (hr : meth.sig.returnType = (some .int)) (hZ : ZsOK A Zs) {Φ : Int32 → HI → HL → Prop} {v0 : Int64} {q0 : Int32} {hi : HI} {hl : HL} {H : Heap} {locs : List Loc} (h : wbM_kindOf_310 v0 q0 hi hl Φ) {ls : Array Slot} (hL : lv_has ls 3 [(0, .long v0)]) (hP : va_P D cls8 (wl 21 ad (GM cI cZ ad) hi hl) H) (hS : va_S A s.heap H locs) : W p l e (rmX 0 0) s m args below meth c H locs 0 0 (MQ below (va_Qi (fun r (u : HI × HL) => Φ r u.1 u.2) (fun u t => va_P D cls8 (wl 21 ad (GM cI cZ ad) u.1 u.2) t.heap) A) args s 0 0 A) (F0 m 310 ls [.int q0]) := by
  unfold wbM_kindOf_310 at h
  refine lv_istore_n (lv' := [(2, .int q0), (0, .long v0)]) K.1 K.2.1 dM_kindOf_310 rfl hL (by decide) rfl (fun ls hL => ?_)
  refine lv_lload_n K.1 K.2.1 dM_kindOf_311 rfl (lv_at hL 1 rfl) ?_
  refine lv_ldc2 (v := 20325477) K.1 K.2.1 K.2.2.2.1 (K.2.2.2.2.1 _ clM_135) dM_kindOf_312 ?_
  refine W.lcmp K.1 K.2.1 dM_kindOf_315 ?_
  refine lv_if_ne (tgt := 324) K.1 K.2.1 dM_kindOf_316 rfl (fun hc => ?_) (fun hc => ?_)
  · have h := h.2 hc
    refine lv_iload_n K.1 K.2.1 dM_kindOf_324 rfl (lv_at hL 0 rfl) ?_
    exact bM_kindOf_325 K hr hZ h (lv_sub hL [1] rfl) hP hS
  · have h := h.1 hc
    refine lv_bipush (v := 21) K.1 K.2.1 dM_kindOf_319 (by decide) ?_
    refine lv_goto (tgt := 325) K.1 K.2.1 dM_kindOf_321 rfl ?_
    exact bM_kindOf_325 K hr hZ h (lv_sub hL [1] rfl) hP hS
set_option maxRecDepth 100000 in
set_option maxHeartbeats 4000000 in
theorem bM_kindOf_295 {p : Program} {l : Launch} {e : Env} {s : State} {m : MethodId} {args : Array Value} {below : List Frame} {meth : Method} {c : Code} {D : va_G} {cI cJ cC cZ cR : ClassId} {ad : Nat → Nat} {A : Nat → Prop} {Zs : State → Prop} (K : Cx p (rmX 0 0) s m args meth c cM_kindOf 3 "WordCheckerModel" gT D cls8 (tys5 cI cJ cC cZ cR) 21 ad A Zs) (hr : meth.sig.returnType = (some .int)) (hZ : ZsOK A Zs) {Φ : Int32 → HI → HL → Prop} {v0 : Int64} {q0 : Int32} {hi : HI} {hl : HL} {H : Heap} {locs : List Loc} (h : wbM_kindOf_295 v0 q0 hi hl Φ) {ls : Array Slot} (hL : lv_has ls 3 [(0, .long v0)]) (hP : va_P D cls8 (wl 21 ad (GM cI cZ ad) hi hl) H) (hS : va_S A s.heap H locs) : W p l e (rmX 0 0) s m args below meth c H locs 0 0 (MQ below (va_Qi (fun r (u : HI × HL) => Φ r u.1 u.2) (fun u t => va_P D cls8 (wl 21 ad (GM cI cZ ad) u.1 u.2) t.heap) A) args s 0 0 A) (F0 m 295 ls [.int q0]) := by
  unfold wbM_kindOf_295 at h
  refine lv_istore_n (lv' := [(2, .int q0), (0, .long v0)]) K.1 K.2.1 dM_kindOf_295 rfl hL (by decide) rfl (fun ls hL => ?_)
  refine lv_lload_n K.1 K.2.1 dM_kindOf_296 rfl (lv_at hL 1 rfl) ?_
  refine lv_ldc2 (v := 116853812) K.1 K.2.1 K.2.2.2.1 (K.2.2.2.2.1 _ clM_133) dM_kindOf_297 ?_
  refine W.lcmp K.1 K.2.1 dM_kindOf_300 ?_
  refine lv_if_ne (tgt := 309) K.1 K.2.1 dM_kindOf_301 rfl (fun hc => ?_) (fun hc => ?_)
  · have h := h.2 hc
    refine lv_iload_n K.1 K.2.1 dM_kindOf_309 rfl (lv_at hL 0 rfl) ?_
    exact bM_kindOf_310 K hr hZ h (lv_sub hL [1] rfl) hP hS
  · have h := h.1 hc
    refine lv_bipush (v := 20) K.1 K.2.1 dM_kindOf_304 (by decide) ?_
    refine lv_goto (tgt := 310) K.1 K.2.1 dM_kindOf_306 rfl ?_
    exact bM_kindOf_310 K hr hZ h (lv_sub hL [1] rfl) hP hS
set_option maxRecDepth 100000 in
set_option maxHeartbeats 4000000 in
theorem bM_kindOf_280 {p : Program} {l : Launch} {e : Env} {s : State} {m : MethodId} {args : Array Value} {below : List Frame} {meth : Method} {c : Code} {D : va_G} {cI cJ cC cZ cR : ClassId} {ad : Nat → Nat} {A : Nat → Prop} {Zs : State → Prop} (K : Cx p (rmX 0 0) s m args meth c cM_kindOf 3 "WordCheckerModel" gT D cls8 (tys5 cI cJ cC cZ cR) 21 ad A Zs) (hr : meth.sig.returnType = (some .int)) (hZ : ZsOK A Zs) {Φ : Int32 → HI → HL → Prop} {v0 : Int64} {q0 : Int32} {hi : HI} {hl : HL} {H : Heap} {locs : List Loc} (h : wbM_kindOf_280 v0 q0 hi hl Φ) {ls : Array Slot} (hL : lv_has ls 3 [(0, .long v0)]) (hP : va_P D cls8 (wl 21 ad (GM cI cZ ad) hi hl) H) (hS : va_S A s.heap H locs) : W p l e (rmX 0 0) s m args below meth c H locs 0 0 (MQ below (va_Qi (fun r (u : HI × HL) => Φ r u.1 u.2) (fun u t => va_P D cls8 (wl 21 ad (GM cI cZ ad) u.1 u.2) t.heap) A) args s 0 0 A) (F0 m 280 ls [.int q0]) := by
  unfold wbM_kindOf_280 at h
  refine lv_istore_n (lv' := [(2, .int q0), (0, .long v0)]) K.1 K.2.1 dM_kindOf_280 rfl hL (by decide) rfl (fun ls hL => ?_)
  refine lv_lload_n K.1 K.2.1 dM_kindOf_281 rfl (lv_at hL 1 rfl) ?_
  refine lv_ldc2 (v := 19860) K.1 K.2.1 K.2.2.2.1 (K.2.2.2.2.1 _ clM_131) dM_kindOf_282 ?_
  refine W.lcmp K.1 K.2.1 dM_kindOf_285 ?_
  refine lv_if_ne (tgt := 294) K.1 K.2.1 dM_kindOf_286 rfl (fun hc => ?_) (fun hc => ?_)
  · have h := h.2 hc
    refine lv_iload_n K.1 K.2.1 dM_kindOf_294 rfl (lv_at hL 0 rfl) ?_
    exact bM_kindOf_295 K hr hZ h (lv_sub hL [1] rfl) hP hS
  · have h := h.1 hc
    refine lv_bipush (v := 19) K.1 K.2.1 dM_kindOf_289 (by decide) ?_
    refine lv_goto (tgt := 295) K.1 K.2.1 dM_kindOf_291 rfl ?_
    exact bM_kindOf_295 K hr hZ h (lv_sub hL [1] rfl) hP hS
set_option maxRecDepth 100000 in
set_option maxHeartbeats 4000000 in
theorem bM_kindOf_265 {p : Program} {l : Launch} {e : Env} {s : State} {m : MethodId} {args : Array Value} {below : List Frame} {meth : Method} {c : Code} {D : va_G} {cI cJ cC cZ cR : ClassId} {ad : Nat → Nat} {A : Nat → Prop} {Zs : State → Prop} (K : Cx p (rmX 0 0) s m args meth c cM_kindOf 3 "WordCheckerModel" gT D cls8 (tys5 cI cJ cC cZ cR) 21 ad A Zs) (hr : meth.sig.returnType = (some .int)) (hZ : ZsOK A Zs) {Φ : Int32 → HI → HL → Prop} {v0 : Int64} {q0 : Int32} {hi : HI} {hl : HL} {H : Heap} {locs : List Loc} (h : wbM_kindOf_265 v0 q0 hi hl Φ) {ls : Array Slot} (hL : lv_has ls 3 [(0, .long v0)]) (hP : va_P D cls8 (wl 21 ad (GM cI cZ ad) hi hl) H) (hS : va_S A s.heap H locs) : W p l e (rmX 0 0) s m args below meth c H locs 0 0 (MQ below (va_Qi (fun r (u : HI × HL) => Φ r u.1 u.2) (fun u t => va_P D cls8 (wl 21 ad (GM cI cZ ad) u.1 u.2) t.heap) A) args s 0 0 A) (F0 m 265 ls [.int q0]) := by
  unfold wbM_kindOf_265 at h
  refine lv_istore_n (lv' := [(2, .int q0), (0, .long v0)]) K.1 K.2.1 dM_kindOf_265 rfl hL (by decide) rfl (fun ls hL => ?_)
  refine lv_lload_n K.1 K.2.1 dM_kindOf_266 rfl (lv_at hL 1 rfl) ?_
  refine lv_ldc2 (v := 21908) K.1 K.2.1 K.2.2.2.1 (K.2.2.2.2.1 _ clM_129) dM_kindOf_267 ?_
  refine W.lcmp K.1 K.2.1 dM_kindOf_270 ?_
  refine lv_if_ne (tgt := 279) K.1 K.2.1 dM_kindOf_271 rfl (fun hc => ?_) (fun hc => ?_)
  · have h := h.2 hc
    refine lv_iload_n K.1 K.2.1 dM_kindOf_279 rfl (lv_at hL 0 rfl) ?_
    exact bM_kindOf_280 K hr hZ h (lv_sub hL [1] rfl) hP hS
  · have h := h.1 hc
    refine lv_bipush (v := 18) K.1 K.2.1 dM_kindOf_274 (by decide) ?_
    refine lv_goto (tgt := 280) K.1 K.2.1 dM_kindOf_276 rfl ?_
    exact bM_kindOf_280 K hr hZ h (lv_sub hL [1] rfl) hP hS
set_option maxRecDepth 100000 in
set_option maxHeartbeats 4000000 in
theorem bM_kindOf_250 {p : Program} {l : Launch} {e : Env} {s : State} {m : MethodId} {args : Array Value} {below : List Frame} {meth : Method} {c : Code} {D : va_G} {cI cJ cC cZ cR : ClassId} {ad : Nat → Nat} {A : Nat → Prop} {Zs : State → Prop} (K : Cx p (rmX 0 0) s m args meth c cM_kindOf 3 "WordCheckerModel" gT D cls8 (tys5 cI cJ cC cZ cR) 21 ad A Zs) (hr : meth.sig.returnType = (some .int)) (hZ : ZsOK A Zs) {Φ : Int32 → HI → HL → Prop} {v0 : Int64} {q0 : Int32} {hi : HI} {hl : HL} {H : Heap} {locs : List Loc} (h : wbM_kindOf_250 v0 q0 hi hl Φ) {ls : Array Slot} (hL : lv_has ls 3 [(0, .long v0)]) (hP : va_P D cls8 (wl 21 ad (GM cI cZ ad) hi hl) H) (hS : va_S A s.heap H locs) : W p l e (rmX 0 0) s m args below meth c H locs 0 0 (MQ below (va_Qi (fun r (u : HI × HL) => Φ r u.1 u.2) (fun u t => va_P D cls8 (wl 21 ad (GM cI cZ ad) u.1 u.2) t.heap) A) args s 0 0 A) (F0 m 250 ls [.int q0]) := by
  unfold wbM_kindOf_250 at h
  refine lv_istore_n (lv' := [(2, .int q0), (0, .long v0)]) K.1 K.2.1 dM_kindOf_250 rfl hL (by decide) rfl (fun ls hL => ?_)
  refine lv_lload_n K.1 K.2.1 dM_kindOf_251 rfl (lv_at hL 1 rfl) ?_
  refine lv_ldc2 (v := 177) K.1 K.2.1 K.2.2.2.1 (K.2.2.2.2.1 _ clM_127) dM_kindOf_252 ?_
  refine W.lcmp K.1 K.2.1 dM_kindOf_255 ?_
  refine lv_if_ne (tgt := 264) K.1 K.2.1 dM_kindOf_256 rfl (fun hc => ?_) (fun hc => ?_)
  · have h := h.2 hc
    refine lv_iload_n K.1 K.2.1 dM_kindOf_264 rfl (lv_at hL 0 rfl) ?_
    exact bM_kindOf_265 K hr hZ h (lv_sub hL [1] rfl) hP hS
  · have h := h.1 hc
    refine lv_bipush (v := 17) K.1 K.2.1 dM_kindOf_259 (by decide) ?_
    refine lv_goto (tgt := 265) K.1 K.2.1 dM_kindOf_261 rfl ?_
    exact bM_kindOf_265 K hr hZ h (lv_sub hL [1] rfl) hP hS
set_option maxRecDepth 100000 in
set_option maxHeartbeats 4000000 in
theorem bM_kindOf_235 {p : Program} {l : Launch} {e : Env} {s : State} {m : MethodId} {args : Array Value} {below : List Frame} {meth : Method} {c : Code} {D : va_G} {cI cJ cC cZ cR : ClassId} {ad : Nat → Nat} {A : Nat → Prop} {Zs : State → Prop} (K : Cx p (rmX 0 0) s m args meth c cM_kindOf 3 "WordCheckerModel" gT D cls8 (tys5 cI cJ cC cZ cR) 21 ad A Zs) (hr : meth.sig.returnType = (some .int)) (hZ : ZsOK A Zs) {Φ : Int32 → HI → HL → Prop} {v0 : Int64} {q0 : Int32} {hi : HI} {hl : HL} {H : Heap} {locs : List Loc} (h : wbM_kindOf_235 v0 q0 hi hl Φ) {ls : Array Slot} (hL : lv_has ls 3 [(0, .long v0)]) (hP : va_P D cls8 (wl 21 ad (GM cI cZ ad) hi hl) H) (hS : va_S A s.heap H locs) : W p l e (rmX 0 0) s m args below meth c H locs 0 0 (MQ below (va_Qi (fun r (u : HI × HL) => Φ r u.1 u.2) (fun u t => va_P D cls8 (wl 21 ad (GM cI cZ ad) u.1 u.2) t.heap) A) args s 0 0 A) (F0 m 235 ls [.int q0]) := by
  unfold wbM_kindOf_235 at h
  refine lv_istore_n (lv' := [(2, .int q0), (0, .long v0)]) K.1 K.2.1 dM_kindOf_235 rfl hL (by decide) rfl (fun ls hL => ?_)
  refine lv_lload_n K.1 K.2.1 dM_kindOf_236 rfl (lv_at hL 1 rfl) ?_
  refine lv_ldc2 (v := 20044) K.1 K.2.1 K.2.2.2.1 (K.2.2.2.2.1 _ clM_125) dM_kindOf_237 ?_
  refine W.lcmp K.1 K.2.1 dM_kindOf_240 ?_
  refine lv_if_ne (tgt := 249) K.1 K.2.1 dM_kindOf_241 rfl (fun hc => ?_) (fun hc => ?_)
  · have h := h.2 hc
    refine lv_iload_n K.1 K.2.1 dM_kindOf_249 rfl (lv_at hL 0 rfl) ?_
    exact bM_kindOf_250 K hr hZ h (lv_sub hL [1] rfl) hP hS
  · have h := h.1 hc
    refine lv_bipush (v := 16) K.1 K.2.1 dM_kindOf_244 (by decide) ?_
    refine lv_goto (tgt := 250) K.1 K.2.1 dM_kindOf_246 rfl ?_
    exact bM_kindOf_250 K hr hZ h (lv_sub hL [1] rfl) hP hS
set_option maxRecDepth 100000 in
set_option maxHeartbeats 4000000 in
theorem bM_kindOf_220 {p : Program} {l : Launch} {e : Env} {s : State} {m : MethodId} {args : Array Value} {below : List Frame} {meth : Method} {c : Code} {D : va_G} {cI cJ cC cZ cR : ClassId} {ad : Nat → Nat} {A : Nat → Prop} {Zs : State → Prop} (K : Cx p (rmX 0 0) s m args meth c cM_kindOf 3 "WordCheckerModel" gT D cls8 (tys5 cI cJ cC cZ cR) 21 ad A Zs) (hr : meth.sig.returnType = (some .int)) (hZ : ZsOK A Zs) {Φ : Int32 → HI → HL → Prop} {v0 : Int64} {q0 : Int32} {hi : HI} {hl : HL} {H : Heap} {locs : List Loc} (h : wbM_kindOf_220 v0 q0 hi hl Φ) {ls : Array Slot} (hL : lv_has ls 3 [(0, .long v0)]) (hP : va_P D cls8 (wl 21 ad (GM cI cZ ad) hi hl) H) (hS : va_S A s.heap H locs) : W p l e (rmX 0 0) s m args below meth c H locs 0 0 (MQ below (va_Qi (fun r (u : HI × HL) => Φ r u.1 u.2) (fun u t => va_P D cls8 (wl 21 ad (GM cI cZ ad) u.1 u.2) t.heap) A) args s 0 0 A) (F0 m 220 ls [.int q0]) := by
  unfold wbM_kindOf_220 at h
  refine lv_istore_n (lv' := [(2, .int q0), (0, .long v0)]) K.1 K.2.1 dM_kindOf_220 rfl hL (by decide) rfl (fun ls hL => ?_)
  refine lv_lload_n K.1 K.2.1 dM_kindOf_221 rfl (lv_at hL 1 rfl) ?_
  refine lv_ldc2 (v := 19852) K.1 K.2.1 K.2.2.2.1 (K.2.2.2.2.1 _ clM_123) dM_kindOf_222 ?_
  refine W.lcmp K.1 K.2.1 dM_kindOf_225 ?_
  refine lv_if_ne (tgt := 234) K.1 K.2.1 dM_kindOf_226 rfl (fun hc => ?_) (fun hc => ?_)
  · have h := h.2 hc
    refine lv_iload_n K.1 K.2.1 dM_kindOf_234 rfl (lv_at hL 0 rfl) ?_
    exact bM_kindOf_235 K hr hZ h (lv_sub hL [1] rfl) hP hS
  · have h := h.1 hc
    refine lv_bipush (v := 15) K.1 K.2.1 dM_kindOf_229 (by decide) ?_
    refine lv_goto (tgt := 235) K.1 K.2.1 dM_kindOf_231 rfl ?_
    exact bM_kindOf_235 K hr hZ h (lv_sub hL [1] rfl) hP hS
set_option maxRecDepth 100000 in
set_option maxHeartbeats 4000000 in
theorem bM_kindOf_205 {p : Program} {l : Launch} {e : Env} {s : State} {m : MethodId} {args : Array Value} {below : List Frame} {meth : Method} {c : Code} {D : va_G} {cI cJ cC cZ cR : ClassId} {ad : Nat → Nat} {A : Nat → Prop} {Zs : State → Prop} (K : Cx p (rmX 0 0) s m args meth c cM_kindOf 3 "WordCheckerModel" gT D cls8 (tys5 cI cJ cC cZ cR) 21 ad A Zs) (hr : meth.sig.returnType = (some .int)) (hZ : ZsOK A Zs) {Φ : Int32 → HI → HL → Prop} {v0 : Int64} {q0 : Int32} {hi : HI} {hl : HL} {H : Heap} {locs : List Loc} (h : wbM_kindOf_205 v0 q0 hi hl Φ) {ls : Array Slot} (hL : lv_has ls 3 [(0, .long v0)]) (hP : va_P D cls8 (wl 21 ad (GM cI cZ ad) hi hl) H) (hS : va_S A s.heap H locs) : W p l e (rmX 0 0) s m args below meth c H locs 0 0 (MQ below (va_Qi (fun r (u : HI × HL) => Φ r u.1 u.2) (fun u t => va_P D cls8 (wl 21 ad (GM cI cZ ad) u.1 u.2) t.heap) A) args s 0 0 A) (F0 m 205 ls [.int q0]) := by
  unfold wbM_kindOf_205 at h
  refine lv_istore_n (lv' := [(2, .int q0), (0, .long v0)]) K.1 K.2.1 dM_kindOf_205 rfl hL (by decide) rfl (fun ls hL => ?_)
  refine lv_lload_n K.1 K.2.1 dM_kindOf_206 rfl (lv_at hL 1 rfl) ?_
  refine lv_ldc2 (v := 706733) K.1 K.2.1 K.2.2.2.1 (K.2.2.2.2.1 _ clM_121) dM_kindOf_207 ?_
  refine W.lcmp K.1 K.2.1 dM_kindOf_210 ?_
  refine lv_if_ne (tgt := 219) K.1 K.2.1 dM_kindOf_211 rfl (fun hc => ?_) (fun hc => ?_)
  · have h := h.2 hc
    refine lv_iload_n K.1 K.2.1 dM_kindOf_219 rfl (lv_at hL 0 rfl) ?_
    exact bM_kindOf_220 K hr hZ h (lv_sub hL [1] rfl) hP hS
  · have h := h.1 hc
    refine lv_bipush (v := 14) K.1 K.2.1 dM_kindOf_214 (by decide) ?_
    refine lv_goto (tgt := 220) K.1 K.2.1 dM_kindOf_216 rfl ?_
    exact bM_kindOf_220 K hr hZ h (lv_sub hL [1] rfl) hP hS
set_option maxRecDepth 100000 in
set_option maxHeartbeats 4000000 in
theorem bM_kindOf_190 {p : Program} {l : Launch} {e : Env} {s : State} {m : MethodId} {args : Array Value} {below : List Frame} {meth : Method} {c : Code} {D : va_G} {cI cJ cC cZ cR : ClassId} {ad : Nat → Nat} {A : Nat → Prop} {Zs : State → Prop} (K : Cx p (rmX 0 0) s m args meth c cM_kindOf 3 "WordCheckerModel" gT D cls8 (tys5 cI cJ cC cZ cR) 21 ad A Zs) (hr : meth.sig.returnType = (some .int)) (hZ : ZsOK A Zs) {Φ : Int32 → HI → HL → Prop} {v0 : Int64} {q0 : Int32} {hi : HI} {hl : HL} {H : Heap} {locs : List Loc} (h : wbM_kindOf_190 v0 q0 hi hl Φ) {ls : Array Slot} (hL : lv_has ls 3 [(0, .long v0)]) (hP : va_P D cls8 (wl 21 ad (GM cI cZ ad) hi hl) H) (hS : va_S A s.heap H locs) : W p l e (rmX 0 0) s m args below meth c H locs 0 0 (MQ below (va_Qi (fun r (u : HI × HL) => Φ r u.1 u.2) (fun u t => va_P D cls8 (wl 21 ad (GM cI cZ ad) u.1 u.2) t.heap) A) args s 0 0 A) (F0 m 190 ls [.int q0]) := by
  unfold wbM_kindOf_190 at h
  refine lv_istore_n (lv' := [(2, .int q0), (0, .long v0)]) K.1 K.2.1 dM_kindOf_190 rfl hL (by decide) rfl (fun ls hL => ?_)
  refine lv_lload_n K.1 K.2.1 dM_kindOf_191 rfl (lv_at hL 1 rfl) ?_
  refine lv_ldc2 (v := 692534) K.1 K.2.1 K.2.2.2.1 (K.2.2.2.2.1 _ clM_119) dM_kindOf_192 ?_
  refine W.lcmp K.1 K.2.1 dM_kindOf_195 ?_
  refine lv_if_ne (tgt := 204) K.1 K.2.1 dM_kindOf_196 rfl (fun hc => ?_) (fun hc => ?_)
  · have h := h.2 hc
    refine lv_iload_n K.1 K.2.1 dM_kindOf_204 rfl (lv_at hL 0 rfl) ?_
    exact bM_kindOf_205 K hr hZ h (lv_sub hL [1] rfl) hP hS
  · have h := h.1 hc
    refine lv_bipush (v := 13) K.1 K.2.1 dM_kindOf_199 (by decide) ?_
    refine lv_goto (tgt := 205) K.1 K.2.1 dM_kindOf_201 rfl ?_
    exact bM_kindOf_205 K hr hZ h (lv_sub hL [1] rfl) hP hS
set_option maxRecDepth 100000 in
set_option maxHeartbeats 4000000 in
theorem bM_kindOf_175 {p : Program} {l : Launch} {e : Env} {s : State} {m : MethodId} {args : Array Value} {below : List Frame} {meth : Method} {c : Code} {D : va_G} {cI cJ cC cZ cR : ClassId} {ad : Nat → Nat} {A : Nat → Prop} {Zs : State → Prop} (K : Cx p (rmX 0 0) s m args meth c cM_kindOf 3 "WordCheckerModel" gT D cls8 (tys5 cI cJ cC cZ cR) 21 ad A Zs) (hr : meth.sig.returnType = (some .int)) (hZ : ZsOK A Zs) {Φ : Int32 → HI → HL → Prop} {v0 : Int64} {q0 : Int32} {hi : HI} {hl : HL} {H : Heap} {locs : List Loc} (h : wbM_kindOf_175 v0 q0 hi hl Φ) {ls : Array Slot} (hL : lv_has ls 3 [(0, .long v0)]) (hP : va_P D cls8 (wl 21 ad (GM cI cZ ad) hi hl) H) (hS : va_S A s.heap H locs) : W p l e (rmX 0 0) s m args below meth c H locs 0 0 (MQ below (va_Qi (fun r (u : HI × HL) => Φ r u.1 u.2) (fun u t => va_P D cls8 (wl 21 ad (GM cI cZ ad) u.1 u.2) t.heap) A) args s 0 0 A) (F0 m 175 ls [.int q0]) := by
  unfold wbM_kindOf_175 at h
  refine lv_istore_n (lv' := [(2, .int q0), (0, .long v0)]) K.1 K.2.1 dM_kindOf_175 rfl hL (by decide) rfl (fun ls hL => ?_)
  refine lv_lload_n K.1 K.2.1 dM_kindOf_176 rfl (lv_at hL 1 rfl) ?_
  refine lv_ldc2 (v := 13996) K.1 K.2.1 K.2.2.2.1 (K.2.2.2.2.1 _ clM_117) dM_kindOf_177 ?_
  refine W.lcmp K.1 K.2.1 dM_kindOf_180 ?_
  refine lv_if_ne (tgt := 189) K.1 K.2.1 dM_kindOf_181 rfl (fun hc => ?_) (fun hc => ?_)
  · have h := h.2 hc
    refine lv_iload_n K.1 K.2.1 dM_kindOf_189 rfl (lv_at hL 0 rfl) ?_
    exact bM_kindOf_190 K hr hZ h (lv_sub hL [1] rfl) hP hS
  · have h := h.1 hc
    refine lv_bipush (v := 12) K.1 K.2.1 dM_kindOf_184 (by decide) ?_
    refine lv_goto (tgt := 190) K.1 K.2.1 dM_kindOf_186 rfl ?_
    exact bM_kindOf_190 K hr hZ h (lv_sub hL [1] rfl) hP hS
set_option maxRecDepth 100000 in
set_option maxHeartbeats 4000000 in
theorem bM_kindOf_160 {p : Program} {l : Launch} {e : Env} {s : State} {m : MethodId} {args : Array Value} {below : List Frame} {meth : Method} {c : Code} {D : va_G} {cI cJ cC cZ cR : ClassId} {ad : Nat → Nat} {A : Nat → Prop} {Zs : State → Prop} (K : Cx p (rmX 0 0) s m args meth c cM_kindOf 3 "WordCheckerModel" gT D cls8 (tys5 cI cJ cC cZ cR) 21 ad A Zs) (hr : meth.sig.returnType = (some .int)) (hZ : ZsOK A Zs) {Φ : Int32 → HI → HL → Prop} {v0 : Int64} {q0 : Int32} {hi : HI} {hl : HL} {H : Heap} {locs : List Loc} (h : wbM_kindOf_160 v0 q0 hi hl Φ) {ls : Array Slot} (hL : lv_has ls 3 [(0, .long v0)]) (hP : va_P D cls8 (wl 21 ad (GM cI cZ ad) hi hl) H) (hS : va_S A s.heap H locs) : W p l e (rmX 0 0) s m args below meth c H locs 0 0 (MQ below (va_Qi (fun r (u : HI × HL) => Φ r u.1 u.2) (fun u t => va_P D cls8 (wl 21 ad (GM cI cZ ad) u.1 u.2) t.heap) A) args s 0 0 A) (F0 m 160 ls [.int q0]) := by
  unfold wbM_kindOf_160 at h
  refine lv_istore_n (lv' := [(2, .int q0), (0, .long v0)]) K.1 K.2.1 dM_kindOf_160 rfl hL (by decide) rfl (fun ls hL => ?_)
  refine lv_lload_n K.1 K.2.1 dM_kindOf_161 rfl (lv_at hL 1 rfl) ?_
  refine lv_ldc2 (v := 20130) K.1 K.2.1 K.2.2.2.1 (K.2.2.2.2.1 _ clM_115) dM_kindOf_162 ?_
  refine W.lcmp K.1 K.2.1 dM_kindOf_165 ?_
  refine lv_if_ne (tgt := 174) K.1 K.2.1 dM_kindOf_166 rfl (fun hc => ?_) (fun hc => ?_)
  · have h := h.2 hc
    refine lv_iload_n K.1 K.2.1 dM_kindOf_174 rfl (lv_at hL 0 rfl) ?_
    exact bM_kindOf_175 K hr hZ h (lv_sub hL [1] rfl) hP hS
  · have h := h.1 hc
    refine lv_bipush (v := 11) K.1 K.2.1 dM_kindOf_169 (by decide) ?_
    refine lv_goto (tgt := 175) K.1 K.2.1 dM_kindOf_171 rfl ?_
    exact bM_kindOf_175 K hr hZ h (lv_sub hL [1] rfl) hP hS
set_option maxRecDepth 100000 in
set_option maxHeartbeats 4000000 in
theorem bM_kindOf_145 {p : Program} {l : Launch} {e : Env} {s : State} {m : MethodId} {args : Array Value} {below : List Frame} {meth : Method} {c : Code} {D : va_G} {cI cJ cC cZ cR : ClassId} {ad : Nat → Nat} {A : Nat → Prop} {Zs : State → Prop} (K : Cx p (rmX 0 0) s m args meth c cM_kindOf 3 "WordCheckerModel" gT D cls8 (tys5 cI cJ cC cZ cR) 21 ad A Zs) (hr : meth.sig.returnType = (some .int)) (hZ : ZsOK A Zs) {Φ : Int32 → HI → HL → Prop} {v0 : Int64} {q0 : Int32} {hi : HI} {hl : HL} {H : Heap} {locs : List Loc} (h : wbM_kindOf_145 v0 q0 hi hl Φ) {ls : Array Slot} (hL : lv_has ls 3 [(0, .long v0)]) (hP : va_P D cls8 (wl 21 ad (GM cI cZ ad) hi hl) H) (hS : va_S A s.heap H locs) : W p l e (rmX 0 0) s m args below meth c H locs 0 0 (MQ below (va_Qi (fun r (u : HI × HL) => Φ r u.1 u.2) (fun u t => va_P D cls8 (wl 21 ad (GM cI cZ ad) u.1 u.2) t.heap) A) args s 0 0 A) (F0 m 145 ls [.int q0]) := by
  unfold wbM_kindOf_145 at h
  refine lv_istore_n (lv' := [(2, .int q0), (0, .long v0)]) K.1 K.2.1 dM_kindOf_145 rfl hL (by decide) rfl (fun ls hL => ?_)
  refine lv_lload_n K.1 K.2.1 dM_kindOf_146 rfl (lv_at hL 1 rfl) ?_
  refine lv_ldc2 (v := 1156) K.1 K.2.1 K.2.2.2.1 (K.2.2.2.2.1 _ clM_113) dM_kindOf_147 ?_
  refine W.lcmp K.1 K.2.1 dM_kindOf_150 ?_
  refine lv_if_ne (tgt := 159) K.1 K.2.1 dM_kindOf_151 rfl (fun hc => ?_) (fun hc => ?_)
  · have h := h.2 hc
    refine lv_iload_n K.1 K.2.1 dM_kindOf_159 rfl (lv_at hL 0 rfl) ?_
    exact bM_kindOf_160 K hr hZ h (lv_sub hL [1] rfl) hP hS
  · have h := h.1 hc
    refine lv_bipush (v := 10) K.1 K.2.1 dM_kindOf_154 (by decide) ?_
    refine lv_goto (tgt := 160) K.1 K.2.1 dM_kindOf_156 rfl ?_
    exact bM_kindOf_160 K hr hZ h (lv_sub hL [1] rfl) hP hS
set_option maxRecDepth 100000 in
set_option maxHeartbeats 4000000 in
theorem bM_kindOf_130 {p : Program} {l : Launch} {e : Env} {s : State} {m : MethodId} {args : Array Value} {below : List Frame} {meth : Method} {c : Code} {D : va_G} {cI cJ cC cZ cR : ClassId} {ad : Nat → Nat} {A : Nat → Prop} {Zs : State → Prop} (K : Cx p (rmX 0 0) s m args meth c cM_kindOf 3 "WordCheckerModel" gT D cls8 (tys5 cI cJ cC cZ cR) 21 ad A Zs) (hr : meth.sig.returnType = (some .int)) (hZ : ZsOK A Zs) {Φ : Int32 → HI → HL → Prop} {v0 : Int64} {q0 : Int32} {hi : HI} {hl : HL} {H : Heap} {locs : List Loc} (h : wbM_kindOf_130 v0 q0 hi hl Φ) {ls : Array Slot} (hL : lv_has ls 3 [(0, .long v0)]) (hP : va_P D cls8 (wl 21 ad (GM cI cZ ad) hi hl) H) (hS : va_S A s.heap H locs) : W p l e (rmX 0 0) s m args below meth c H locs 0 0 (MQ below (va_Qi (fun r (u : HI × HL) => Φ r u.1 u.2) (fun u t => va_P D cls8 (wl 21 ad (GM cI cZ ad) u.1 u.2) t.heap) A) args s 0 0 A) (F0 m 130 ls [.int q0]) := by
  unfold wbM_kindOf_130 at h
  refine lv_istore_n (lv' := [(2, .int q0), (0, .long v0)]) K.1 K.2.1 dM_kindOf_130 rfl hL (by decide) rfl (fun ls hL => ?_)
  refine lv_lload_n K.1 K.2.1 dM_kindOf_131 rfl (lv_at hL 1 rfl) ?_
  refine lv_ldc2 (v := 25074) K.1 K.2.1 K.2.2.2.1 (K.2.2.2.2.1 _ clM_111) dM_kindOf_132 ?_
  refine W.lcmp K.1 K.2.1 dM_kindOf_135 ?_
  refine lv_if_ne (tgt := 144) K.1 K.2.1 dM_kindOf_136 rfl (fun hc => ?_) (fun hc => ?_)
  · have h := h.2 hc
    refine lv_iload_n K.1 K.2.1 dM_kindOf_144 rfl (lv_at hL 0 rfl) ?_
    exact bM_kindOf_145 K hr hZ h (lv_sub hL [1] rfl) hP hS
  · have h := h.1 hc
    refine lv_bipush (v := 9) K.1 K.2.1 dM_kindOf_139 (by decide) ?_
    refine lv_goto (tgt := 145) K.1 K.2.1 dM_kindOf_141 rfl ?_
    exact bM_kindOf_145 K hr hZ h (lv_sub hL [1] rfl) hP hS
set_option maxRecDepth 100000 in
set_option maxHeartbeats 4000000 in
theorem bM_kindOf_115 {p : Program} {l : Launch} {e : Env} {s : State} {m : MethodId} {args : Array Value} {below : List Frame} {meth : Method} {c : Code} {D : va_G} {cI cJ cC cZ cR : ClassId} {ad : Nat → Nat} {A : Nat → Prop} {Zs : State → Prop} (K : Cx p (rmX 0 0) s m args meth c cM_kindOf 3 "WordCheckerModel" gT D cls8 (tys5 cI cJ cC cZ cR) 21 ad A Zs) (hr : meth.sig.returnType = (some .int)) (hZ : ZsOK A Zs) {Φ : Int32 → HI → HL → Prop} {v0 : Int64} {q0 : Int32} {hi : HI} {hl : HL} {H : Heap} {locs : List Loc} (h : wbM_kindOf_115 v0 q0 hi hl Φ) {ls : Array Slot} (hL : lv_has ls 3 [(0, .long v0)]) (hP : va_P D cls8 (wl 21 ad (GM cI cZ ad) hi hl) H) (hS : va_S A s.heap H locs) : W p l e (rmX 0 0) s m args below meth c H locs 0 0 (MQ below (va_Qi (fun r (u : HI × HL) => Φ r u.1 u.2) (fun u t => va_P D cls8 (wl 21 ad (GM cI cZ ad) u.1 u.2) t.heap) A) args s 0 0 A) (F0 m 115 ls [.int q0]) := by
  unfold wbM_kindOf_115 at h
  refine lv_istore_n (lv' := [(2, .int q0), (0, .long v0)]) K.1 K.2.1 dM_kindOf_115 rfl hL (by decide) rfl (fun ls hL => ?_)
  refine lv_lload_n K.1 K.2.1 dM_kindOf_116 rfl (lv_at hL 1 rfl) ?_
  refine lv_ldc2 (v := 498) K.1 K.2.1 K.2.2.2.1 (K.2.2.2.2.1 _ clM_109) dM_kindOf_117 ?_
  refine W.lcmp K.1 K.2.1 dM_kindOf_120 ?_
  refine lv_if_ne (tgt := 129) K.1 K.2.1 dM_kindOf_121 rfl (fun hc => ?_) (fun hc => ?_)
  · have h := h.2 hc
    refine lv_iload_n K.1 K.2.1 dM_kindOf_129 rfl (lv_at hL 0 rfl) ?_
    exact bM_kindOf_130 K hr hZ h (lv_sub hL [1] rfl) hP hS
  · have h := h.1 hc
    refine lv_bipush (v := 8) K.1 K.2.1 dM_kindOf_124 (by decide) ?_
    refine lv_goto (tgt := 130) K.1 K.2.1 dM_kindOf_126 rfl ?_
    exact bM_kindOf_130 K hr hZ h (lv_sub hL [1] rfl) hP hS
set_option maxRecDepth 100000 in
set_option maxHeartbeats 4000000 in
theorem bM_kindOf_100 {p : Program} {l : Launch} {e : Env} {s : State} {m : MethodId} {args : Array Value} {below : List Frame} {meth : Method} {c : Code} {D : va_G} {cI cJ cC cZ cR : ClassId} {ad : Nat → Nat} {A : Nat → Prop} {Zs : State → Prop} (K : Cx p (rmX 0 0) s m args meth c cM_kindOf 3 "WordCheckerModel" gT D cls8 (tys5 cI cJ cC cZ cR) 21 ad A Zs) (hr : meth.sig.returnType = (some .int)) (hZ : ZsOK A Zs) {Φ : Int32 → HI → HL → Prop} {v0 : Int64} {q0 : Int32} {hi : HI} {hl : HL} {H : Heap} {locs : List Loc} (h : wbM_kindOf_100 v0 q0 hi hl Φ) {ls : Array Slot} (hL : lv_has ls 3 [(0, .long v0)]) (hP : va_P D cls8 (wl 21 ad (GM cI cZ ad) hi hl) H) (hS : va_S A s.heap H locs) : W p l e (rmX 0 0) s m args below meth c H locs 0 0 (MQ below (va_Qi (fun r (u : HI × HL) => Φ r u.1 u.2) (fun u t => va_P D cls8 (wl 21 ad (GM cI cZ ad) u.1 u.2) t.heap) A) args s 0 0 A) (F0 m 100 ls [.int q0]) := by
  unfold wbM_kindOf_100 at h
  refine lv_istore_n (lv' := [(2, .int q0), (0, .long v0)]) K.1 K.2.1 dM_kindOf_100 rfl hL (by decide) rfl (fun ls hL => ?_)
  refine lv_lload_n K.1 K.2.1 dM_kindOf_101 rfl (lv_at hL 1 rfl) ?_
  refine lv_ldc2 (v := 1476) K.1 K.2.1 K.2.2.2.1 (K.2.2.2.2.1 _ clM_107) dM_kindOf_102 ?_
  refine W.lcmp K.1 K.2.1 dM_kindOf_105 ?_
  refine lv_if_ne (tgt := 114) K.1 K.2.1 dM_kindOf_106 rfl (fun hc => ?_) (fun hc => ?_)
  · have h := h.2 hc
    refine lv_iload_n K.1 K.2.1 dM_kindOf_114 rfl (lv_at hL 0 rfl) ?_
    exact bM_kindOf_115 K hr hZ h (lv_sub hL [1] rfl) hP hS
  · have h := h.1 hc
    refine lv_bipush (v := 7) K.1 K.2.1 dM_kindOf_109 (by decide) ?_
    refine lv_goto (tgt := 115) K.1 K.2.1 dM_kindOf_111 rfl ?_
    exact bM_kindOf_115 K hr hZ h (lv_sub hL [1] rfl) hP hS
set_option maxRecDepth 100000 in
set_option maxHeartbeats 4000000 in
theorem bM_kindOf_85 {p : Program} {l : Launch} {e : Env} {s : State} {m : MethodId} {args : Array Value} {below : List Frame} {meth : Method} {c : Code} {D : va_G} {cI cJ cC cZ cR : ClassId} {ad : Nat → Nat} {A : Nat → Prop} {Zs : State → Prop} (K : Cx p (rmX 0 0) s m args meth c cM_kindOf 3 "WordCheckerModel" gT D cls8 (tys5 cI cJ cC cZ cR) 21 ad A Zs) (hr : meth.sig.returnType = (some .int)) (hZ : ZsOK A Zs) {Φ : Int32 → HI → HL → Prop} {v0 : Int64} {q0 : Int32} {hi : HI} {hl : HL} {H : Heap} {locs : List Loc} (h : wbM_kindOf_85 v0 q0 hi hl Φ) {ls : Array Slot} (hL : lv_has ls 3 [(0, .long v0)]) (hP : va_P D cls8 (wl 21 ad (GM cI cZ ad) hi hl) H) (hS : va_S A s.heap H locs) : W p l e (rmX 0 0) s m args below meth c H locs 0 0 (MQ below (va_Qi (fun r (u : HI × HL) => Φ r u.1 u.2) (fun u t => va_P D cls8 (wl 21 ad (GM cI cZ ad) u.1 u.2) t.heap) A) args s 0 0 A) (F0 m 85 ls [.int q0]) := by
  unfold wbM_kindOf_85 at h
  refine lv_istore_n (lv' := [(2, .int q0), (0, .long v0)]) K.1 K.2.1 dM_kindOf_85 rfl hL (by decide) rfl (fun ls hL => ?_)
  refine lv_lload_n K.1 K.2.1 dM_kindOf_86 rfl (lv_at hL 1 rfl) ?_
  refine lv_ldc2 (v := 19042802) K.1 K.2.1 K.2.2.2.1 (K.2.2.2.2.1 _ clM_105) dM_kindOf_87 ?_
  refine W.lcmp K.1 K.2.1 dM_kindOf_90 ?_
  refine lv_if_ne (tgt := 99) K.1 K.2.1 dM_kindOf_91 rfl (fun hc => ?_) (fun hc => ?_)
  · have h := h.2 hc
    refine lv_iload_n K.1 K.2.1 dM_kindOf_99 rfl (lv_at hL 0 rfl) ?_
    exact bM_kindOf_100 K hr hZ h (lv_sub hL [1] rfl) hP hS
  · have h := h.1 hc
    refine lv_bipush (v := 6) K.1 K.2.1 dM_kindOf_94 (by decide) ?_
    refine lv_goto (tgt := 100) K.1 K.2.1 dM_kindOf_96 rfl ?_
    exact bM_kindOf_100 K hr hZ h (lv_sub hL [1] rfl) hP hS
set_option maxRecDepth 100000 in
set_option maxHeartbeats 4000000 in
theorem bM_kindOf_71 {p : Program} {l : Launch} {e : Env} {s : State} {m : MethodId} {args : Array Value} {below : List Frame} {meth : Method} {c : Code} {D : va_G} {cI cJ cC cZ cR : ClassId} {ad : Nat → Nat} {A : Nat → Prop} {Zs : State → Prop} (K : Cx p (rmX 0 0) s m args meth c cM_kindOf 3 "WordCheckerModel" gT D cls8 (tys5 cI cJ cC cZ cR) 21 ad A Zs) (hr : meth.sig.returnType = (some .int)) (hZ : ZsOK A Zs) {Φ : Int32 → HI → HL → Prop} {v0 : Int64} {q0 : Int32} {hi : HI} {hl : HL} {H : Heap} {locs : List Loc} (h : wbM_kindOf_71 v0 q0 hi hl Φ) {ls : Array Slot} (hL : lv_has ls 3 [(0, .long v0)]) (hP : va_P D cls8 (wl 21 ad (GM cI cZ ad) hi hl) H) (hS : va_S A s.heap H locs) : W p l e (rmX 0 0) s m args below meth c H locs 0 0 (MQ below (va_Qi (fun r (u : HI × HL) => Φ r u.1 u.2) (fun u t => va_P D cls8 (wl 21 ad (GM cI cZ ad) u.1 u.2) t.heap) A) args s 0 0 A) (F0 m 71 ls [.int q0]) := by
  unfold wbM_kindOf_71 at h
  refine lv_istore_n (lv' := [(2, .int q0), (0, .long v0)]) K.1 K.2.1 dM_kindOf_71 rfl hL (by decide) rfl (fun ls hL => ?_)
  refine lv_lload_n K.1 K.2.1 dM_kindOf_72 rfl (lv_at hL 1 rfl) ?_
  refine lv_ldc2 (v := 14503) K.1 K.2.1 K.2.2.2.1 (K.2.2.2.2.1 _ clM_103) dM_kindOf_73 ?_
  refine W.lcmp K.1 K.2.1 dM_kindOf_76 ?_
  refine lv_if_ne (tgt := 84) K.1 K.2.1 dM_kindOf_77 rfl (fun hc => ?_) (fun hc => ?_)
  · have h := h.2 hc
    refine lv_iload_n K.1 K.2.1 dM_kindOf_84 rfl (lv_at hL 0 rfl) ?_
    exact bM_kindOf_85 K hr hZ h (lv_sub hL [1] rfl) hP hS
  · have h := h.1 hc
    refine lv_iconst (v := 5) K.1 K.2.1 dM_kindOf_80 (by decide) ?_
    refine lv_goto (tgt := 85) K.1 K.2.1 dM_kindOf_81 rfl ?_
    exact bM_kindOf_85 K hr hZ h (lv_sub hL [1] rfl) hP hS
set_option maxRecDepth 100000 in
set_option maxHeartbeats 4000000 in
theorem bM_kindOf_57 {p : Program} {l : Launch} {e : Env} {s : State} {m : MethodId} {args : Array Value} {below : List Frame} {meth : Method} {c : Code} {D : va_G} {cI cJ cC cZ cR : ClassId} {ad : Nat → Nat} {A : Nat → Prop} {Zs : State → Prop} (K : Cx p (rmX 0 0) s m args meth c cM_kindOf 3 "WordCheckerModel" gT D cls8 (tys5 cI cJ cC cZ cR) 21 ad A Zs) (hr : meth.sig.returnType = (some .int)) (hZ : ZsOK A Zs) {Φ : Int32 → HI → HL → Prop} {v0 : Int64} {q0 : Int32} {hi : HI} {hl : HL} {H : Heap} {locs : List Loc} (h : wbM_kindOf_57 v0 q0 hi hl Φ) {ls : Array Slot} (hL : lv_has ls 3 [(0, .long v0)]) (hP : va_P D cls8 (wl 21 ad (GM cI cZ ad) hi hl) H) (hS : va_S A s.heap H locs) : W p l e (rmX 0 0) s m args below meth c H locs 0 0 (MQ below (va_Qi (fun r (u : HI × HL) => Φ r u.1 u.2) (fun u t => va_P D cls8 (wl 21 ad (GM cI cZ ad) u.1 u.2) t.heap) A) args s 0 0 A) (F0 m 57 ls [.int q0]) := by
  unfold wbM_kindOf_57 at h
  refine lv_istore_n (lv' := [(2, .int q0), (0, .long v0)]) K.1 K.2.1 dM_kindOf_57 rfl hL (by decide) rfl (fun ls hL => ?_)
  refine lv_lload_n K.1 K.2.1 dM_kindOf_58 rfl (lv_at hL 1 rfl) ?_
  refine lv_ldc2 (v := 14836) K.1 K.2.1 K.2.2.2.1 (K.2.2.2.2.1 _ clM_101) dM_kindOf_59 ?_
  refine W.lcmp K.1 K.2.1 dM_kindOf_62 ?_
  refine lv_if_ne (tgt := 70) K.1 K.2.1 dM_kindOf_63 rfl (fun hc => ?_) (fun hc => ?_)
  · have h := h.2 hc
    refine lv_iload_n K.1 K.2.1 dM_kindOf_70 rfl (lv_at hL 0 rfl) ?_
    exact bM_kindOf_71 K hr hZ h (lv_sub hL [1] rfl) hP hS
  · have h := h.1 hc
    refine lv_iconst (v := 4) K.1 K.2.1 dM_kindOf_66 (by decide) ?_
    refine lv_goto (tgt := 71) K.1 K.2.1 dM_kindOf_67 rfl ?_
    exact bM_kindOf_71 K hr hZ h (lv_sub hL [1] rfl) hP hS
set_option maxRecDepth 100000 in
set_option maxHeartbeats 4000000 in
theorem bM_kindOf_43 {p : Program} {l : Launch} {e : Env} {s : State} {m : MethodId} {args : Array Value} {below : List Frame} {meth : Method} {c : Code} {D : va_G} {cI cJ cC cZ cR : ClassId} {ad : Nat → Nat} {A : Nat → Prop} {Zs : State → Prop} (K : Cx p (rmX 0 0) s m args meth c cM_kindOf 3 "WordCheckerModel" gT D cls8 (tys5 cI cJ cC cZ cR) 21 ad A Zs) (hr : meth.sig.returnType = (some .int)) (hZ : ZsOK A Zs) {Φ : Int32 → HI → HL → Prop} {v0 : Int64} {q0 : Int32} {hi : HI} {hl : HL} {H : Heap} {locs : List Loc} (h : wbM_kindOf_43 v0 q0 hi hl Φ) {ls : Array Slot} (hL : lv_has ls 3 [(0, .long v0)]) (hP : va_P D cls8 (wl 21 ad (GM cI cZ ad) hi hl) H) (hS : va_S A s.heap H locs) : W p l e (rmX 0 0) s m args below meth c H locs 0 0 (MQ below (va_Qi (fun r (u : HI × HL) => Φ r u.1 u.2) (fun u t => va_P D cls8 (wl 21 ad (GM cI cZ ad) u.1 u.2) t.heap) A) args s 0 0 A) (F0 m 43 ls [.int q0]) := by
  unfold wbM_kindOf_43 at h
  refine lv_istore_n (lv' := [(2, .int q0), (0, .long v0)]) K.1 K.2.1 dM_kindOf_43 rfl hL (by decide) rfl (fun ls hL => ?_)
  refine lv_lload_n K.1 K.2.1 dM_kindOf_44 rfl (lv_at hL 1 rfl) ?_
  refine lv_ldc2 (v := 116870788) K.1 K.2.1 K.2.2.2.1 (K.2.2.2.2.1 _ clM_99) dM_kindOf_45 ?_
  refine W.lcmp K.1 K.2.1 dM_kindOf_48 ?_
  refine lv_if_ne (tgt := 56) K.1 K.2.1 dM_kindOf_49 rfl (fun hc => ?_) (fun hc => ?_)
  · have h := h.2 hc
    refine lv_iload_n K.1 K.2.1 dM_kindOf_56 rfl (lv_at hL 0 rfl) ?_
    exact bM_kindOf_57 K hr hZ h (lv_sub hL [1] rfl) hP hS
  · have h := h.1 hc
    refine lv_iconst (v := 3) K.1 K.2.1 dM_kindOf_52 (by decide) ?_
    refine lv_goto (tgt := 57) K.1 K.2.1 dM_kindOf_53 rfl ?_
    exact bM_kindOf_57 K hr hZ h (lv_sub hL [1] rfl) hP hS
set_option maxRecDepth 100000 in
set_option maxHeartbeats 4000000 in
theorem bM_kindOf_29 {p : Program} {l : Launch} {e : Env} {s : State} {m : MethodId} {args : Array Value} {below : List Frame} {meth : Method} {c : Code} {D : va_G} {cI cJ cC cZ cR : ClassId} {ad : Nat → Nat} {A : Nat → Prop} {Zs : State → Prop} (K : Cx p (rmX 0 0) s m args meth c cM_kindOf 3 "WordCheckerModel" gT D cls8 (tys5 cI cJ cC cZ cR) 21 ad A Zs) (hr : meth.sig.returnType = (some .int)) (hZ : ZsOK A Zs) {Φ : Int32 → HI → HL → Prop} {v0 : Int64} {q0 : Int32} {hi : HI} {hl : HL} {H : Heap} {locs : List Loc} (h : wbM_kindOf_29 v0 q0 hi hl Φ) {ls : Array Slot} (hL : lv_has ls 3 [(0, .long v0)]) (hP : va_P D cls8 (wl 21 ad (GM cI cZ ad) hi hl) H) (hS : va_S A s.heap H locs) : W p l e (rmX 0 0) s m args below meth c H locs 0 0 (MQ below (va_Qi (fun r (u : HI × HL) => Φ r u.1 u.2) (fun u t => va_P D cls8 (wl 21 ad (GM cI cZ ad) u.1 u.2) t.heap) A) args s 0 0 A) (F0 m 29 ls [.int q0]) := by
  unfold wbM_kindOf_29 at h
  refine lv_istore_n (lv' := [(2, .int q0), (0, .long v0)]) K.1 K.2.1 dM_kindOf_29 rfl hL (by decide) rfl (fun ls hL => ?_)
  refine lv_lload_n K.1 K.2.1 dM_kindOf_30 rfl (lv_at hL 1 rfl) ?_
  refine lv_ldc2 (v := 20579973) K.1 K.2.1 K.2.2.2.1 (K.2.2.2.2.1 _ clM_97) dM_kindOf_31 ?_
  refine W.lcmp K.1 K.2.1 dM_kindOf_34 ?_
  refine lv_if_ne (tgt := 42) K.1 K.2.1 dM_kindOf_35 rfl (fun hc => ?_) (fun hc => ?_)
  · have h := h.2 hc
    refine lv_iload_n K.1 K.2.1 dM_kindOf_42 rfl (lv_at hL 0 rfl) ?_
    exact bM_kindOf_43 K hr hZ h (lv_sub hL [1] rfl) hP hS
  · have h := h.1 hc
    refine lv_iconst (v := 2) K.1 K.2.1 dM_kindOf_38 (by decide) ?_
    refine lv_goto (tgt := 43) K.1 K.2.1 dM_kindOf_39 rfl ?_
    exact bM_kindOf_43 K hr hZ h (lv_sub hL [1] rfl) hP hS
set_option maxRecDepth 100000 in
set_option maxHeartbeats 4000000 in
theorem bM_kindOf_15 {p : Program} {l : Launch} {e : Env} {s : State} {m : MethodId} {args : Array Value} {below : List Frame} {meth : Method} {c : Code} {D : va_G} {cI cJ cC cZ cR : ClassId} {ad : Nat → Nat} {A : Nat → Prop} {Zs : State → Prop} (K : Cx p (rmX 0 0) s m args meth c cM_kindOf 3 "WordCheckerModel" gT D cls8 (tys5 cI cJ cC cZ cR) 21 ad A Zs) (hr : meth.sig.returnType = (some .int)) (hZ : ZsOK A Zs) {Φ : Int32 → HI → HL → Prop} {v0 : Int64} {q0 : Int32} {hi : HI} {hl : HL} {H : Heap} {locs : List Loc} (h : wbM_kindOf_15 v0 q0 hi hl Φ) {ls : Array Slot} (hL : lv_has ls 3 [(0, .long v0)]) (hP : va_P D cls8 (wl 21 ad (GM cI cZ ad) hi hl) H) (hS : va_S A s.heap H locs) : W p l e (rmX 0 0) s m args below meth c H locs 0 0 (MQ below (va_Qi (fun r (u : HI × HL) => Φ r u.1 u.2) (fun u t => va_P D cls8 (wl 21 ad (GM cI cZ ad) u.1 u.2) t.heap) A) args s 0 0 A) (F0 m 15 ls [.int q0]) := by
  unfold wbM_kindOf_15 at h
  refine lv_istore_n (lv' := [(2, .int q0), (0, .long v0)]) K.1 K.2.1 dM_kindOf_15 rfl hL (by decide) rfl (fun ls hL => ?_)
  refine lv_lload_n K.1 K.2.1 dM_kindOf_16 rfl (lv_at hL 1 rfl) ?_
  refine lv_ldc2 (v := 9913012) K.1 K.2.1 K.2.2.2.1 (K.2.2.2.2.1 _ clM_95) dM_kindOf_17 ?_
  refine W.lcmp K.1 K.2.1 dM_kindOf_20 ?_
  refine lv_if_ne (tgt := 28) K.1 K.2.1 dM_kindOf_21 rfl (fun hc => ?_) (fun hc => ?_)
  · have h := h.2 hc
    refine lv_iload_n K.1 K.2.1 dM_kindOf_28 rfl (lv_at hL 0 rfl) ?_
    exact bM_kindOf_29 K hr hZ h (lv_sub hL [1] rfl) hP hS
  · have h := h.1 hc
    refine lv_iconst (v := 1) K.1 K.2.1 dM_kindOf_24 (by decide) ?_
    refine lv_goto (tgt := 29) K.1 K.2.1 dM_kindOf_25 rfl ?_
    exact bM_kindOf_29 K hr hZ h (lv_sub hL [1] rfl) hP hS
set_option maxRecDepth 100000 in
set_option maxHeartbeats 4000000 in
theorem bM_kindOf_0 {p : Program} {l : Launch} {e : Env} {s : State} {m : MethodId} {args : Array Value} {below : List Frame} {meth : Method} {c : Code} {D : va_G} {cI cJ cC cZ cR : ClassId} {ad : Nat → Nat} {A : Nat → Prop} {Zs : State → Prop} (K : Cx p (rmX 0 0) s m args meth c cM_kindOf 3 "WordCheckerModel" gT D cls8 (tys5 cI cJ cC cZ cR) 21 ad A Zs) (hr : meth.sig.returnType = (some .int)) (hZ : ZsOK A Zs) {Φ : Int32 → HI → HL → Prop} {v0 : Int64} {hi : HI} {hl : HL} {H : Heap} {locs : List Loc} (h : wbM_kindOf_0 v0 hi hl Φ) {ls : Array Slot} (hL : lv_has ls 3 [(0, .long v0)]) (hP : va_P D cls8 (wl 21 ad (GM cI cZ ad) hi hl) H) (hS : va_S A s.heap H locs) : W p l e (rmX 0 0) s m args below meth c H locs 0 0 (MQ below (va_Qi (fun r (u : HI × HL) => Φ r u.1 u.2) (fun u t => va_P D cls8 (wl 21 ad (GM cI cZ ad) u.1 u.2) t.heap) A) args s 0 0 A) (F0 m 0 ls []) := by
  unfold wbM_kindOf_0 at h
  refine lv_iconst (v := -1) K.1 K.2.1 dM_kindOf_0 (by decide) ?_
  refine lv_istore_n (lv' := [(2, .int (-1 : Int32)), (0, .long v0)]) K.1 K.2.1 dM_kindOf_1 rfl hL (by decide) rfl (fun ls hL => ?_)
  refine lv_lload_n K.1 K.2.1 dM_kindOf_2 rfl (lv_at hL 1 rfl) ?_
  refine lv_ldc2 (v := 638548) K.1 K.2.1 K.2.2.2.1 (K.2.2.2.2.1 _ clM_93) dM_kindOf_3 ?_
  refine W.lcmp K.1 K.2.1 dM_kindOf_6 ?_
  refine lv_if_ne (tgt := 14) K.1 K.2.1 dM_kindOf_7 rfl (fun hc => ?_) (fun hc => ?_)
  · have h := h.2 hc
    refine lv_iload_n K.1 K.2.1 dM_kindOf_14 rfl (lv_at hL 0 rfl) ?_
    exact bM_kindOf_15 K hr hZ h (lv_sub hL [1] rfl) hP hS
  · have h := h.1 hc
    refine lv_iconst (v := 0) K.1 K.2.1 dM_kindOf_10 (by decide) ?_
    refine lv_goto (tgt := 15) K.1 K.2.1 dM_kindOf_11 rfl ?_
    exact bM_kindOf_15 K hr hZ h (lv_sub hL [1] rfl) hP hS
set_option maxRecDepth 100000 in
set_option maxHeartbeats 4000000 in
theorem mM_kindOf {l : Launch} {D : va_G} {cI cJ cC cZ cR : ClassId} {ad : Nat → Nat} {A : Nat → Prop} {Zs : State → Prop} (hZ : ZsOK A Zs) (hD : wlD 21 ad A) {v0 : Int64} {hi : HI} {hl : HL} {Φ : Int32 → HI → HL → Prop} (h : wpM_kindOf v0 hi hl Φ) : SpI l yM_kindOf cM_kindOf 3 (some .int) gT 0 0 [.long v0] D cls8 (tys5 cI cJ cC cZ cR) 21 ad (GM cI cZ ad) A Zs hi hl Φ := by
  refine Met.ofW (cc := cM_kindOf) (maxL := 3) (ret := (some .int)) (by decide) rfl ?_
  intro p e s m args below meth c s₁ B hml hv
  obtain ⟨rfl, hP, hK, hZs⟩ := hv
  have K : Cx p (rmX 0 0) s m _ meth c cM_kindOf 3 "WordCheckerModel" gT D cls8 (tys5 cI cJ cC cZ cR) 21 ad A Zs := ⟨B.exec, B.bytes, hml, findClass_of_methodNamed B.named, fun w hw => atoms_spec B.pre w (List.mem_cons_of_mem _ hw), B.notSynchronized, hK, hD, hZs⟩
  have hL := lv_entry ([.long v0]) (n := 3) (Nat.le_of_ble_eq_true rfl)
  rw [lg_entry_eq]
  generalize (lg_sl ([.long v0]) ++ List.replicate (3 - (lg_sl ([.long v0])).length) Slot.unset).toArray = ls at hL ⊢
  have hL : lv_has ls 3 [(0, .long v0)] := hL
  unfold wpM_kindOf at h
  exact bM_kindOf_0 K B.returns hZ h (lv_sub hL [0] rfl) hP va_S.rf
set_option maxRecDepth 100000 in
set_option maxHeartbeats 4000000 in
theorem bM_lineOf_27 {p : Program} {l : Launch} {e : Env} {s : State} {m : MethodId} {args : Array Value} {below : List Frame} {meth : Method} {c : Code} {D : va_G} {cI cJ cC cZ cR : ClassId} {ad : Nat → Nat} {A : Nat → Prop} {Zs : State → Prop} (K : Cx p (rmX 0 0) s m args meth c cM_lineOf 4 "WordCheckerModel" gT D cls8 (tys5 cI cJ cC cZ cR) 21 ad A Zs) (hr : meth.sig.returnType = (some .int)) (hZ : ZsOK A Zs) {Φ : Int32 → HI → HL → Prop} {k4 : Int32 → Int32 → Int32 → HI → HL → Prop} (hk4 : ∀ (v1 : Int32) (v2 : Int32) (v3 : Int32) (hi : HI) (hl : HL) (ls : Array Slot) (H : Heap) (locs : List Loc), k4 v1 v2 v3 hi hl → lv_has ls 4 [(0, .ref (ad 0)), (1, .int v1), (2, .int v2), (3, .int v3)] → va_P D cls8 (wl 21 ad (GM cI cZ ad) hi hl) H → va_S A s.heap H locs → W p l e (rmX 0 0) s m args below meth c H locs 0 0 (MQ below (va_Qi (fun r (u : HI × HL) => Φ r u.1 u.2) (fun u t => va_P D cls8 (wl 21 ad (GM cI cZ ad) u.1 u.2) t.heap) A) args s 0 0 A) (F0 m 4 ls [])) {v1 : Int32} {v3 : Int32} {q0 : Int32} {hi : HI} {hl : HL} {H : Heap} {locs : List Loc} (h : wbM_lineOf_27 k4 v1 v3 q0 hi hl Φ) {ls : Array Slot} (hL : lv_has ls 4 [(0, .ref (ad 0)), (1, .int v1), (3, .int v3)]) (hP : va_P D cls8 (wl 21 ad (GM cI cZ ad) hi hl) H) (hS : va_S A s.heap H locs) : W p l e (rmX 0 0) s m args below meth c H locs 0 0 (MQ below (va_Qi (fun r (u : HI × HL) => Φ r u.1 u.2) (fun u t => va_P D cls8 (wl 21 ad (GM cI cZ ad) u.1 u.2) t.heap) A) args s 0 0 A) (F0 m 27 ls [.int q0]) := by
  unfold wbM_lineOf_27 at h
  refine lv_istore_n (lv' := [(2, .int q0), (0, .ref (ad 0)), (1, .int v1), (3, .int v3)]) K.1 K.2.1 dM_lineOf_27 rfl hL (by decide) rfl (fun ls hL => ?_)
  refine lv_iinc (k := 3) (lv' := [(3, .int (v3 + Int32.ofInt (1))), (2, .int q0), (0, .ref (ad 0)), (1, .int v1)]) K.1 K.2.1 dM_lineOf_28 hL rfl rfl (by decide) rfl (fun ls hL => ?_)
  refine lv_goto (tgt := 4) K.1 K.2.1 dM_lineOf_31 rfl ?_
  exact hk4 _ _ _ _ _ _ _ _ h (lv_sub hL [2, 3, 1, 0] rfl) hP hS
set_option maxRecDepth 100000 in
set_option maxHeartbeats 4000000 in
theorem bM_lineOf_4 {p : Program} {l : Launch} {e : Env} {s : State} {m : MethodId} {args : Array Value} {below : List Frame} {meth : Method} {c : Code} {D : va_G} {cI cJ cC cZ cR : ClassId} {ad : Nat → Nat} {A : Nat → Prop} {Zs : State → Prop} (K : Cx p (rmX 0 0) s m args meth c cM_lineOf 4 "WordCheckerModel" gT D cls8 (tys5 cI cJ cC cZ cR) 21 ad A Zs) (hr : meth.sig.returnType = (some .int)) (hZ : ZsOK A Zs) {Φ : Int32 → HI → HL → Prop} {n : Nat} {v1 : Int32} {v2 : Int32} {v3 : Int32} {hi : HI} {hl : HL} {H : Heap} {locs : List Loc} (h : wbM_lineOf_4 n v1 v2 v3 hi hl Φ) {ls : Array Slot} (hL : lv_has ls 4 [(0, .ref (ad 0)), (1, .int v1), (2, .int v2), (3, .int v3)]) (hP : va_P D cls8 (wl 21 ad (GM cI cZ ad) hi hl) H) (hS : va_S A s.heap H locs) : W p l e (rmX 0 0) s m args below meth c H locs 0 0 (MQ below (va_Qi (fun r (u : HI × HL) => Φ r u.1 u.2) (fun u t => va_P D cls8 (wl 21 ad (GM cI cZ ad) u.1 u.2) t.heap) A) args s 0 0 A) (F0 m 4 ls []) := by
  induction n generalizing v1 v2 v3 hi hl ls H locs with
  | zero => exact False.elim h
  | succ n ih =>
    unfold wbM_lineOf_4 at h
    refine lv_iload_n K.1 K.2.1 dM_lineOf_4 rfl (lv_at hL 3 rfl) ?_
    refine lv_aload_n K.1 K.2.1 dM_lineOf_5 rfl (lv_at hL 0 rfl) ?_
    refine x_get (v := .int (hi 0 6)) K hP hinM (ci := 7) rfl 0 (by decide) rfl 6 (by decide) flM_155 rfl rfl dM_lineOf_6 ?_
    refine lv_icmp_ge (tgt := 34) K.1 K.2.1 dM_lineOf_9 rfl (fun hc => ?_) (fun hc => ?_)
    · have h := h.1 hc
      refine lv_iload_n K.1 K.2.1 dM_lineOf_34 rfl (lv_at hL 2 rfl) ?_
      exact x_iret K hr hP hS h dM_lineOf_35
    · have h := h.2 hc
      refine lv_aload_n K.1 K.2.1 dM_lineOf_12 rfl (lv_at hL 0 rfl) ?_
      refine x_get (v := .ref (ad 4)) K hP hinM (ci := 7) rfl 0 (by decide) rfl 7 (by decide) flM_19 rfl rfl dM_lineOf_13 ?_
      refine lv_iload_n K.1 K.2.1 dM_lineOf_16 rfl (lv_at hL 3 rfl) ?_
      obtain ⟨g1, h⟩ := h
      refine x_iald K hP 4 (by decide) 0 rfl rfl g1 dM_lineOf_17 ?_
      refine lv_iload_n K.1 K.2.1 dM_lineOf_18 rfl (lv_at hL 1 rfl) ?_
      refine lv_icmp_ne (tgt := 26) K.1 K.2.1 dM_lineOf_19 rfl (fun hc => ?_) (fun hc => ?_)
      · have h := h.2 hc
        refine lv_iload_n K.1 K.2.1 dM_lineOf_26 rfl (lv_at hL 2 rfl) ?_
        exact bM_lineOf_27 K hr hZ (fun v1 v2 v3 hi hl ls H locs h hL hP hS => ih h hL hP hS) h (lv_sub hL [0, 1, 3] rfl) hP hS
      · have h := h.1 hc
        refine lv_iload_n K.1 K.2.1 dM_lineOf_22 rfl (lv_at hL 3 rfl) ?_
        refine lv_goto (tgt := 27) K.1 K.2.1 dM_lineOf_23 rfl ?_
        exact bM_lineOf_27 K hr hZ (fun v1 v2 v3 hi hl ls H locs h hL hP hS => ih h hL hP hS) h (lv_sub hL [0, 1, 3] rfl) hP hS
set_option maxRecDepth 100000 in
set_option maxHeartbeats 4000000 in
theorem bM_lineOf_0 {p : Program} {l : Launch} {e : Env} {s : State} {m : MethodId} {args : Array Value} {below : List Frame} {meth : Method} {c : Code} {D : va_G} {cI cJ cC cZ cR : ClassId} {ad : Nat → Nat} {A : Nat → Prop} {Zs : State → Prop} (K : Cx p (rmX 0 0) s m args meth c cM_lineOf 4 "WordCheckerModel" gT D cls8 (tys5 cI cJ cC cZ cR) 21 ad A Zs) (hr : meth.sig.returnType = (some .int)) (hZ : ZsOK A Zs) {Φ : Int32 → HI → HL → Prop} {v1 : Int32} {hi : HI} {hl : HL} {H : Heap} {locs : List Loc} (h : wbM_lineOf_0 v1 hi hl Φ) {ls : Array Slot} (hL : lv_has ls 4 [(0, .ref (ad 0)), (1, .int v1)]) (hP : va_P D cls8 (wl 21 ad (GM cI cZ ad) hi hl) H) (hS : va_S A s.heap H locs) : W p l e (rmX 0 0) s m args below meth c H locs 0 0 (MQ below (va_Qi (fun r (u : HI × HL) => Φ r u.1 u.2) (fun u t => va_P D cls8 (wl 21 ad (GM cI cZ ad) u.1 u.2) t.heap) A) args s 0 0 A) (F0 m 0 ls []) := by
  unfold wbM_lineOf_0 at h
  refine lv_iconst (v := -1) K.1 K.2.1 dM_lineOf_0 (by decide) ?_
  refine lv_istore_n (lv' := [(2, .int (-1 : Int32)), (0, .ref (ad 0)), (1, .int v1)]) K.1 K.2.1 dM_lineOf_1 rfl hL (by decide) rfl (fun ls hL => ?_)
  refine lv_iconst (v := 0) K.1 K.2.1 dM_lineOf_2 (by decide) ?_
  refine lv_istore_n (lv' := [(3, .int (0 : Int32)), (2, .int (-1 : Int32)), (0, .ref (ad 0)), (1, .int v1)]) K.1 K.2.1 dM_lineOf_3 rfl hL (by decide) rfl (fun ls hL => ?_)
  obtain ⟨fu, h⟩ := h
  exact bM_lineOf_4 K hr hZ h (lv_sub hL [2, 3, 1, 0] rfl) hP hS
set_option maxRecDepth 100000 in
set_option maxHeartbeats 4000000 in
theorem mM_lineOf {l : Launch} {D : va_G} {cI cJ cC cZ cR : ClassId} {ad : Nat → Nat} {A : Nat → Prop} {Zs : State → Prop} (hZ : ZsOK A Zs) (hD : wlD 21 ad A) {v1 : Int32} {hi : HI} {hl : HL} {Φ : Int32 → HI → HL → Prop} (h : wpM_lineOf v1 hi hl Φ) : SpI l yM_lineOf cM_lineOf 4 (some .int) gT 0 0 [.ref (ad 0), .int v1] D cls8 (tys5 cI cJ cC cZ cR) 21 ad (GM cI cZ ad) A Zs hi hl Φ := by
  refine Met.ofW (cc := cM_lineOf) (maxL := 4) (ret := (some .int)) (by decide) rfl ?_
  intro p e s m args below meth c s₁ B hml hv
  obtain ⟨rfl, hP, hK, hZs⟩ := hv
  have K : Cx p (rmX 0 0) s m _ meth c cM_lineOf 4 "WordCheckerModel" gT D cls8 (tys5 cI cJ cC cZ cR) 21 ad A Zs := ⟨B.exec, B.bytes, hml, findClass_of_methodNamed B.named, fun w hw => atoms_spec B.pre w (List.mem_cons_of_mem _ hw), B.notSynchronized, hK, hD, hZs⟩
  have hL := lv_entry ([.ref (ad 0), .int v1]) (n := 4) (Nat.le_of_ble_eq_true rfl)
  rw [lg_entry_eq]
  generalize (lg_sl ([.ref (ad 0), .int v1]) ++ List.replicate (4 - (lg_sl ([.ref (ad 0), .int v1])).length) Slot.unset).toArray = ls at hL ⊢
  have hL : lv_has ls 4 [(0, .ref (ad 0)), (1, .int v1)] := hL
  unfold wpM_lineOf at h
  exact bM_lineOf_0 K B.returns hZ h (lv_sub hL [0, 1] rfl) hP va_S.rf
set_option maxRecDepth 100000 in
set_option maxHeartbeats 4000000 in
theorem bM_isNode_28 {p : Program} {l : Launch} {e : Env} {s : State} {m : MethodId} {args : Array Value} {below : List Frame} {meth : Method} {c : Code} {D : va_G} {cI cJ cC cZ cR : ClassId} {ad : Nat → Nat} {A : Nat → Prop} {Zs : State → Prop} (K : Cx p (rmX 0 0) s m args meth c cM_isNode 2 "WordCheckerModel" gT D cls8 (tys5 cI cJ cC cZ cR) 21 ad A Zs) (hr : meth.sig.returnType = (some .boolean)) (hZ : ZsOK A Zs) {Φ : Int32 → HI → HL → Prop} {hi : HI} {hl : HL} {H : Heap} {locs : List Loc} (h : wbM_isNode_28 hi hl Φ) {ls : Array Slot} (hL : lv_has ls 2 []) (hP : va_P D cls8 (wl 21 ad (GM cI cZ ad) hi hl) H) (hS : va_S A s.heap H locs) : W p l e (rmX 0 0) s m args below meth c H locs 0 0 (MQ below (va_Qi (fun r (u : HI × HL) => Φ r u.1 u.2) (fun u t => va_P D cls8 (wl 21 ad (GM cI cZ ad) u.1 u.2) t.heap) A) args s 0 0 A) (F0 m 28 ls []) := by
  unfold wbM_isNode_28 at h
  refine lv_iconst (v := 0) K.1 K.2.1 dM_isNode_28 (by decide) ?_
  obtain ⟨g1, h⟩ := h
  exact x_zret K hr hP hS g1 h dM_isNode_29
set_option maxRecDepth 100000 in
set_option maxHeartbeats 4000000 in
theorem bM_isNode_0 {p : Program} {l : Launch} {e : Env} {s : State} {m : MethodId} {args : Array Value} {below : List Frame} {meth : Method} {c : Code} {D : va_G} {cI cJ cC cZ cR : ClassId} {ad : Nat → Nat} {A : Nat → Prop} {Zs : State → Prop} (K : Cx p (rmX 0 0) s m args meth c cM_isNode 2 "WordCheckerModel" gT D cls8 (tys5 cI cJ cC cZ cR) 21 ad A Zs) (hr : meth.sig.returnType = (some .boolean)) (hZ : ZsOK A Zs) {Φ : Int32 → HI → HL → Prop} {v1 : Int32} {hi : HI} {hl : HL} {H : Heap} {locs : List Loc} (h : wbM_isNode_0 v1 hi hl Φ) {ls : Array Slot} (hL : lv_has ls 2 [(0, .ref (ad 0)), (1, .int v1)]) (hP : va_P D cls8 (wl 21 ad (GM cI cZ ad) hi hl) H) (hS : va_S A s.heap H locs) : W p l e (rmX 0 0) s m args below meth c H locs 0 0 (MQ below (va_Qi (fun r (u : HI × HL) => Φ r u.1 u.2) (fun u t => va_P D cls8 (wl 21 ad (GM cI cZ ad) u.1 u.2) t.heap) A) args s 0 0 A) (F0 m 0 ls []) := by
  unfold wbM_isNode_0 at h
  refine lv_iload_n K.1 K.2.1 dM_isNode_0 rfl (lv_at hL 1 rfl) ?_
  refine lv_if_lt (tgt := 28) K.1 K.2.1 dM_isNode_1 rfl (fun hc => ?_) (fun hc => ?_)
  · have h := h.1 hc
    exact bM_isNode_28 K hr hZ h (lv_sub hL [] rfl) hP hS
  · have h := h.2 hc
    refine lv_aload_n K.1 K.2.1 dM_isNode_4 rfl (lv_at hL 0 rfl) ?_
    refine x_get (v := .ref (ad 5)) K hP hinM (ci := 7) rfl 0 (by decide) rfl 8 (by decide) flM_22 rfl rfl dM_isNode_5 ?_
    refine lv_iload_n K.1 K.2.1 dM_isNode_8 rfl (lv_at hL 1 rfl) ?_
    obtain ⟨g1, h⟩ := h
    refine x_iald K hP 5 (by decide) 0 rfl rfl g1 dM_isNode_9 ?_
    refine lv_if_eq (tgt := 28) K.1 K.2.1 dM_isNode_10 rfl (fun hc => ?_) (fun hc => ?_)
    · have h := h.1 hc
      exact bM_isNode_28 K hr hZ h (lv_sub hL [] rfl) hP hS
    · have h := h.2 hc
      refine lv_aload_n K.1 K.2.1 dM_isNode_13 rfl (lv_at hL 0 rfl) ?_
      refine x_get (v := .ref (ad 5)) K hP hinM (ci := 7) rfl 0 (by decide) rfl 8 (by decide) flM_22 rfl rfl dM_isNode_14 ?_
      refine lv_iload_n K.1 K.2.1 dM_isNode_17 rfl (lv_at hL 1 rfl) ?_
      obtain ⟨g2, h⟩ := h
      refine x_iald K hP 5 (by decide) 0 rfl rfl g2 dM_isNode_18 ?_
      refine lv_bipush (v := 27) K.1 K.2.1 dM_isNode_19 (by decide) ?_
      refine lv_icmp_ge (tgt := 28) K.1 K.2.1 dM_isNode_21 rfl (fun hc => ?_) (fun hc => ?_)
      · have h := h.1 hc
        exact bM_isNode_28 K hr hZ h (lv_sub hL [] rfl) hP hS
      · have h := h.2 hc
        refine lv_iconst (v := 1) K.1 K.2.1 dM_isNode_24 (by decide) ?_
        refine lv_goto (tgt := 29) K.1 K.2.1 dM_isNode_25 rfl ?_
        obtain ⟨g3, h⟩ := h
        exact x_zret K hr hP hS g3 h dM_isNode_29
set_option maxRecDepth 100000 in
set_option maxHeartbeats 4000000 in
theorem mM_isNode {l : Launch} {D : va_G} {cI cJ cC cZ cR : ClassId} {ad : Nat → Nat} {A : Nat → Prop} {Zs : State → Prop} (hZ : ZsOK A Zs) (hD : wlD 21 ad A) {v1 : Int32} {hi : HI} {hl : HL} {Φ : Int32 → HI → HL → Prop} (h : wpM_isNode v1 hi hl Φ) : SpI l yM_isNode cM_isNode 2 (some .boolean) gT 0 0 [.ref (ad 0), .int v1] D cls8 (tys5 cI cJ cC cZ cR) 21 ad (GM cI cZ ad) A Zs hi hl Φ := by
  refine Met.ofW (cc := cM_isNode) (maxL := 2) (ret := (some .boolean)) (by decide) rfl ?_
  intro p e s m args below meth c s₁ B hml hv
  obtain ⟨rfl, hP, hK, hZs⟩ := hv
  have K : Cx p (rmX 0 0) s m _ meth c cM_isNode 2 "WordCheckerModel" gT D cls8 (tys5 cI cJ cC cZ cR) 21 ad A Zs := ⟨B.exec, B.bytes, hml, findClass_of_methodNamed B.named, fun w hw => atoms_spec B.pre w (List.mem_cons_of_mem _ hw), B.notSynchronized, hK, hD, hZs⟩
  have hL := lv_entry ([.ref (ad 0), .int v1]) (n := 2) (Nat.le_of_ble_eq_true rfl)
  rw [lg_entry_eq]
  generalize (lg_sl ([.ref (ad 0), .int v1]) ++ List.replicate (2 - (lg_sl ([.ref (ad 0), .int v1])).length) Slot.unset).toArray = ls at hL ⊢
  have hL : lv_has ls 2 [(0, .ref (ad 0)), (1, .int v1)] := hL
  unfold wpM_isNode at h
  exact bM_isNode_0 K B.returns hZ h (lv_sub hL [0, 1] rfl) hP va_S.rf
