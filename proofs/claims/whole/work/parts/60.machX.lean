set_option maxRecDepth 100000 in
set_option maxHeartbeats 4000000 in
theorem bT_byteOf_0 {p : Program} {l : Launch} {e : Env} {s : State} {m : MethodId} {args : Array Value} {below : List Frame} {meth : Method} {c : Code} {D : va_G} {cI cJ cC cZ cR : ClassId} {ad kd sd vd : Nat → Nat} {kA lA wA : Nat} {A : Nat → Prop} (K : Cx p (rmX 0 0) s m args meth c cT_byteOf 2 "WordChecker$Text" gT D cls8 (tys5 cI cJ cC cZ cR) 64 ad A (ZX A kd sd vd kA lA wA)) (hr : meth.sig.returnType = (some .int)) (hZ : ZsOK A (ZX A kd sd vd kA lA wA)) {Φ : Int32 → HI → HL → Prop} {v0 : Int32} {v1 : Int32} {hi : HI} {hl : HL} {H : Heap} {locs : List Loc} (h : wbT_byteOf_0 v0 v1 hi hl Φ) {ls : Array Slot} (hL : lv_has ls 2 [(0, .int v0), (1, .int v1)]) (hP : va_P D cls8 (wl 64 ad (GX cI cJ cC cZ cR ad kd) hi hl) H) (hS : va_S A s.heap H locs) : W p l e (rmX 0 0) s m args below meth c H locs 0 0 (MQ below (va_Qi (fun r (u : HI × HL) => Φ r u.1 u.2) (fun u t => va_P D cls8 (wl 64 ad (GX cI cJ cC cZ cR ad kd) u.1 u.2) t.heap) A) args s 0 0 A) (F0 m 0 ls []) := by
  unfold wbT_byteOf_0 at h
  refine lv_iload_n K.1 K.2.1 dT_byteOf_0 rfl (lv_at hL 0 rfl) ?_
  refine lv_bipush (v := 8) K.1 K.2.1 dT_byteOf_1 (by decide) ?_
  refine lv_iload_n K.1 K.2.1 dT_byteOf_3 rfl (lv_at hL 1 rfl) ?_
  refine lv_imul K.1 K.2.1 dT_byteOf_4 ?_
  refine lv_iushr K.1 K.2.1 dT_byteOf_5 rfl ?_
  refine lv_sipush (v := 255) K.1 K.2.1 dT_byteOf_6 (by decide) ?_
  refine lv_iand K.1 K.2.1 dT_byteOf_9 ?_
  exact x_iret K hr hP hS h dT_byteOf_10
set_option maxRecDepth 100000 in
set_option maxHeartbeats 4000000 in
theorem mT_byteOf {l : Launch} {D : va_G} {cI cJ cC cZ cR : ClassId} {ad kd sd vd : Nat → Nat} {kA lA wA : Nat} {A : Nat → Prop} (hZ : ZsOK A (ZX A kd sd vd kA lA wA)) (hD : wlD 64 ad A) {v0 : Int32} {v1 : Int32} {hi : HI} {hl : HL} {Φ : Int32 → HI → HL → Prop} (h : wpT_byteOf v0 v1 hi hl Φ) : SpI l yT_byteOf cT_byteOf 2 (some .int) gT 0 0 [.int v0, .int v1] D cls8 (tys5 cI cJ cC cZ cR) 64 ad (GX cI cJ cC cZ cR ad kd) A (ZX A kd sd vd kA lA wA) hi hl Φ := by
  refine Met.ofW (cc := cT_byteOf) (maxL := 2) (ret := (some .int)) (by decide) rfl ?_
  intro p e s m args below meth c s₁ B hml hv
  obtain ⟨rfl, hP, hK, hZs⟩ := hv
  have K : Cx p (rmX 0 0) s m _ meth c cT_byteOf 2 "WordChecker$Text" gT D cls8 (tys5 cI cJ cC cZ cR) 64 ad A (ZX A kd sd vd kA lA wA) := ⟨B.exec, B.bytes, hml, findClass_of_methodNamed B.named, fun w hw => atoms_spec B.pre w (List.mem_cons_of_mem _ hw), B.notSynchronized, hK, hD, hZs⟩
  have hL := lv_entry ([.int v0, .int v1]) (n := 2) (Nat.le_of_ble_eq_true rfl)
  rw [lg_entry_eq]
  generalize (lg_sl ([.int v0, .int v1]) ++ List.replicate (2 - (lg_sl ([.int v0, .int v1])).length) Slot.unset).toArray = ls at hL ⊢
  have hL : lv_has ls 2 [(0, .int v0), (1, .int v1)] := hL
  unfold wpT_byteOf at h
  exact bT_byteOf_0 K B.returns hZ h (lv_sub hL [0, 1] rfl) hP va_S.rf
set_option maxRecDepth 100000 in
set_option maxHeartbeats 4000000 in
theorem bT_append_63 {p : Program} {l : Launch} {e : Env} {s : State} {m : MethodId} {args : Array Value} {below : List Frame} {meth : Method} {c : Code} {D : va_G} {cI cJ cC cZ cR : ClassId} {ad kd sd vd : Nat → Nat} {kA lA wA : Nat} {A : Nat → Prop} (K : Cx p (rmX 1 21) s m args meth c cT_append 5 "WordChecker$Text" gT D cls8 (tys5 cI cJ cC cZ cR) 64 ad A (ZX A kd sd vd kA lA wA)) (hr : meth.sig.returnType = (some .boolean)) (hZ : ZsOK A (ZX A kd sd vd kA lA wA)) {Φ : Int32 → HI → HL → Prop} {n : Nat} {v1 : Int32} {v3 : Int32} {hi : HI} {hl : HL} {H : Heap} {locs : List Loc} (h : wbT_append_63 n v1 v3 hi hl Φ) {ls : Array Slot} (hL : lv_has ls 5 [(0, .ref (ad 1)), (1, .int v1), (3, .int v3)]) (hP : va_P D cls8 (wl 64 ad (GX cI cJ cC cZ cR ad kd) hi hl) H) (hS : va_S A s.heap H locs) : W p l e (rmX 1 21) s m args below meth c H locs 0 0 (MQ below (va_Qi (fun r (u : HI × HL) => Φ r u.1 u.2) (fun u t => va_P D cls8 (wl 64 ad (GX cI cJ cC cZ cR ad kd) u.1 u.2) t.heap) A) args s 0 0 A) (F0 m 63 ls []) := by
  induction n generalizing v1 v3 hi hl ls H locs with
  | zero => exact False.elim h
  | succ n ih =>
    unfold wbT_append_63 at h
    refine lv_iload_n K.1 K.2.1 dT_append_63 rfl (lv_at hL 2 rfl) ?_
    refine lv_if_lt (tgt := 98) K.1 K.2.1 dT_append_64 rfl (fun hc => ?_) (fun hc => ?_)
    · have h := h.1 hc
      refine lv_iconst (v := 1) K.1 K.2.1 dT_append_98 (by decide) ?_
      obtain ⟨g1, h⟩ := h
      exact x_zret K hr hP hS g1 h dT_append_99
    · have h := h.2 hc
      refine lv_aload_n K.1 K.2.1 dT_append_67 rfl (lv_at hL 0 rfl) ?_
      refine x_get (v := .ref (ad 2)) K hP hinT (ci := 1) rfl 1 (by decide) rfl 0 (by decide) flT_9 rfl rfl dT_append_68 ?_
      refine lv_aload_n K.1 K.2.1 dT_append_71 rfl (lv_at hL 0 rfl) ?_
      refine x_get (v := .int (hi 1 3)) K hP hinT (ci := 1) rfl 1 (by decide) rfl 3 (by decide) flT_22 rfl rfl dT_append_72 ?_
      refine lv_iload_n K.1 K.2.1 dT_append_75 rfl (lv_at hL 1 rfl) ?_
      refine lv_iload_n K.1 K.2.1 dT_append_76 rfl (lv_at hL 2 rfl) ?_
      refine x_cSI (As := [.int v1, .int v3]) (rest := [.int (hi 1 3), .ref (ad 2)]) K gT_good hZ hP hS calT_byteOf mlT_26 (mT_byteOf hZ K.2.2.2.2.2.2.2.1 h) ⟨Nat.le_of_ble_eq_true rfl, Nat.le_of_ble_eq_true rfl⟩ rfl hL.1 rfl (Nat.le_of_ble_eq_true rfl) dT_append_77 (fun r2 hi3 hl4 H locs h hP hS => ?_)
      refine lv_i2c K.1 K.2.1 dT_append_80 rfl ?_
      obtain ⟨g5, h⟩ := h
      refine x_cast K hP hS 2 (by decide) 2 (fun _ => rfl) rfl g5 dT_append_81 (fun H locs hP hS => ?_)
      refine lv_aload_n K.1 K.2.1 dT_append_82 rfl (lv_at hL 0 rfl) ?_
      refine lv_dup K.1 K.2.1 dT_append_83 rfl ?_
      refine x_get (v := .int ((u2 hi3 2 ((hi 1 3).toNatClampNeg) (vp_nar .char ((r2.toUInt32 % 65536).toInt32))) 1 3)) K hP hinT (ci := 1) rfl 1 (by decide) rfl 3 (by decide) flT_22 rfl rfl dT_append_84 ?_
      refine lv_iconst (v := 1) K.1 K.2.1 dT_append_87 (by decide) ?_
      refine lv_iadd K.1 K.2.1 dT_append_88 ?_
      refine x_put (v := .int (((u2 hi3 2 ((hi 1 3).toNatClampNeg) (vp_nar .char ((r2.toUInt32 % 65536).toInt32))) 1 3) + (1 : Int32))) K hP hS hinT tyT tyT_ok nmT (ci := 1) rfl 1 (by decide) rfl 3 (by decide) flT_22 rfl rfl (((u2 hi3 2 ((hi 1 3).toNatClampNeg) (vp_nar .char ((r2.toUInt32 % 65536).toInt32))) 1 3) + (1 : Int32)) rfl rfl rfl (Nat.le_of_ble_eq_true rfl) dT_append_89 (fun H locs hP hS => ?_)
      refine lv_iinc (k := 2) (lv' := [(3, .int (v3 + Int32.ofInt (-1))), (0, .ref (ad 1)), (1, .int v1)]) K.1 K.2.1 dT_append_92 hL rfl rfl (by decide) rfl (fun ls hL => ?_)
      refine lv_goto (tgt := 63) K.1 K.2.1 dT_append_95 rfl ?_
      exact ih h (lv_sub hL [1, 2, 0] rfl) hP hS
set_option maxRecDepth 100000 in
set_option maxHeartbeats 4000000 in
theorem bT_append_25 {p : Program} {l : Launch} {e : Env} {s : State} {m : MethodId} {args : Array Value} {below : List Frame} {meth : Method} {c : Code} {D : va_G} {cI cJ cC cZ cR : ClassId} {ad kd sd vd : Nat → Nat} {kA lA wA : Nat} {A : Nat → Prop} (K : Cx p (rmX 1 21) s m args meth c cT_append 5 "WordChecker$Text" gT D cls8 (tys5 cI cJ cC cZ cR) 64 ad A (ZX A kd sd vd kA lA wA)) (hr : meth.sig.returnType = (some .boolean)) (hZ : ZsOK A (ZX A kd sd vd kA lA wA)) {Φ : Int32 → HI → HL → Prop} {n : Nat} {v1 : Int32} {v2 : Int32} {v3 : Int32} {hi : HI} {hl : HL} {H : Heap} {locs : List Loc} (h : wbT_append_25 n v1 v2 v3 hi hl Φ) {ls : Array Slot} (hL : lv_has ls 5 [(0, .ref (ad 1)), (1, .int v1), (2, .int v2), (3, .int v3)]) (hP : va_P D cls8 (wl 64 ad (GX cI cJ cC cZ cR ad kd) hi hl) H) (hS : va_S A s.heap H locs) : W p l e (rmX 1 21) s m args below meth c H locs 0 0 (MQ below (va_Qi (fun r (u : HI × HL) => Φ r u.1 u.2) (fun u t => va_P D cls8 (wl 64 ad (GX cI cJ cC cZ cR ad kd) u.1 u.2) t.heap) A) args s 0 0 A) (F0 m 25 ls []) := by
  induction n generalizing v1 v2 v3 hi hl ls H locs with
  | zero => exact False.elim h
  | succ n ih =>
    unfold wbT_append_25 at h
    refine lv_iload_n K.1 K.2.1 dT_append_25 rfl (lv_at hL 3 rfl) ?_
    refine lv_iload_n K.1 K.2.1 dT_append_26 rfl (lv_at hL 2 rfl) ?_
    refine lv_icmp_ge (tgt := 59) K.1 K.2.1 dT_append_27 rfl (fun hc => ?_) (fun hc => ?_)
    · have h := h.1 hc
      refine lv_iload_n K.1 K.2.1 dT_append_59 rfl (lv_at hL 2 rfl) ?_
      refine lv_iconst (v := 1) K.1 K.2.1 dT_append_60 (by decide) ?_
      refine lv_isub K.1 K.2.1 dT_append_61 ?_
      refine lv_istore_n (lv' := [(3, .int (v2 - (1 : Int32))), (0, .ref (ad 1)), (1, .int v1), (2, .int v2)]) K.1 K.2.1 dT_append_62 rfl hL (by decide) rfl (fun ls hL => ?_)
      obtain ⟨fu, h⟩ := h
      exact bT_append_63 K hr hZ h (lv_sub hL [1, 2, 0] rfl) hP hS
    · have h := h.2 hc
      refine lv_iload_n K.1 K.2.1 dT_append_30 rfl (lv_at hL 1 rfl) ?_
      refine lv_iload_n K.1 K.2.1 dT_append_31 rfl (lv_at hL 3 rfl) ?_
      refine x_cSI (As := [.int v1, .int v3]) (rest := []) K gT_good hZ hP hS calT_byteOf mlT_26 (mT_byteOf hZ K.2.2.2.2.2.2.2.1 h) ⟨Nat.le_of_ble_eq_true rfl, Nat.le_of_ble_eq_true rfl⟩ rfl hL.1 rfl (Nat.le_of_ble_eq_true rfl) dT_append_32 (fun r1 hi2 hl3 H locs h hP hS => ?_)
      refine lv_istore (lv' := [(4, .int r1), (0, .ref (ad 1)), (1, .int v1), (2, .int v2), (3, .int v3)]) K.1 K.2.1 dT_append_35 hL (by decide) rfl (fun ls hL => ?_)
      refine lv_iload K.1 K.2.1 dT_append_37 (lv_at hL 0 rfl) ?_
      refine lv_bipush (v := 32) K.1 K.2.1 dT_append_39 (by decide) ?_
      refine lv_icmp_lt (tgt := 51) K.1 K.2.1 dT_append_41 rfl (fun hc => ?_) (fun hc => ?_)
      · have h := h.1 hc
        refine lv_iconst (v := 0) K.1 K.2.1 dT_append_51 (by decide) ?_
        obtain ⟨g4, h⟩ := h
        exact x_zret K hr hP hS g4 h dT_append_52
      · have h := h.2 hc
        refine lv_iload K.1 K.2.1 dT_append_44 (lv_at hL 0 rfl) ?_
        refine lv_bipush (v := 126) K.1 K.2.1 dT_append_46 (by decide) ?_
        refine lv_icmp_le (tgt := 53) K.1 K.2.1 dT_append_48 rfl (fun hc => ?_) (fun hc => ?_)
        · have h := h.1 hc
          refine lv_iinc (k := 4) (lv' := [(3, .int (v3 + Int32.ofInt (1))), (4, .int r1), (0, .ref (ad 1)), (1, .int v1), (2, .int v2)]) K.1 K.2.1 dT_append_53 hL rfl rfl (by decide) rfl (fun ls hL => ?_)
          refine lv_goto (tgt := 25) K.1 K.2.1 dT_append_56 rfl ?_
          exact ih h (lv_sub hL [2, 3, 4, 0] rfl) hP hS
        · have h := h.2 hc
          refine lv_iconst (v := 0) K.1 K.2.1 dT_append_51 (by decide) ?_
          obtain ⟨g5, h⟩ := h
          exact x_zret K hr hP hS g5 h dT_append_52
set_option maxRecDepth 100000 in
set_option maxHeartbeats 4000000 in
theorem bT_append_0 {p : Program} {l : Launch} {e : Env} {s : State} {m : MethodId} {args : Array Value} {below : List Frame} {meth : Method} {c : Code} {D : va_G} {cI cJ cC cZ cR : ClassId} {ad kd sd vd : Nat → Nat} {kA lA wA : Nat} {A : Nat → Prop} (K : Cx p (rmX 1 21) s m args meth c cT_append 5 "WordChecker$Text" gT D cls8 (tys5 cI cJ cC cZ cR) 64 ad A (ZX A kd sd vd kA lA wA)) (hr : meth.sig.returnType = (some .boolean)) (hZ : ZsOK A (ZX A kd sd vd kA lA wA)) {Φ : Int32 → HI → HL → Prop} {v1 : Int32} {v2 : Int32} {hi : HI} {hl : HL} {H : Heap} {locs : List Loc} (h : wbT_append_0 v1 v2 hi hl Φ) {ls : Array Slot} (hL : lv_has ls 5 [(0, .ref (ad 1)), (1, .int v1), (2, .int v2)]) (hP : va_P D cls8 (wl 64 ad (GX cI cJ cC cZ cR ad kd) hi hl) H) (hS : va_S A s.heap H locs) : W p l e (rmX 1 21) s m args below meth c H locs 0 0 (MQ below (va_Qi (fun r (u : HI × HL) => Φ r u.1 u.2) (fun u t => va_P D cls8 (wl 64 ad (GX cI cJ cC cZ cR ad kd) u.1 u.2) t.heap) A) args s 0 0 A) (F0 m 0 ls []) := by
  unfold wbT_append_0 at h
  refine lv_iload_n K.1 K.2.1 dT_append_0 rfl (lv_at hL 2 rfl) ?_
  refine lv_iconst (v := 1) K.1 K.2.1 dT_append_1 (by decide) ?_
  refine lv_icmp_lt (tgt := 21) K.1 K.2.1 dT_append_2 rfl (fun hc => ?_) (fun hc => ?_)
  · have h := h.1 hc
    refine lv_iconst (v := 0) K.1 K.2.1 dT_append_21 (by decide) ?_
    obtain ⟨g1, h⟩ := h
    exact x_zret K hr hP hS g1 h dT_append_22
  · have h := h.2 hc
    refine lv_iload_n K.1 K.2.1 dT_append_5 rfl (lv_at hL 2 rfl) ?_
    refine lv_iconst (v := 4) K.1 K.2.1 dT_append_6 (by decide) ?_
    refine lv_icmp_gt (tgt := 21) K.1 K.2.1 dT_append_7 rfl (fun hc => ?_) (fun hc => ?_)
    · have h := h.1 hc
      refine lv_iconst (v := 0) K.1 K.2.1 dT_append_21 (by decide) ?_
      obtain ⟨g2, h⟩ := h
      exact x_zret K hr hP hS g2 h dT_append_22
    · have h := h.2 hc
      refine lv_aload_n K.1 K.2.1 dT_append_10 rfl (lv_at hL 0 rfl) ?_
      refine x_get (v := .int (hi 1 3)) K hP hinT (ci := 1) rfl 1 (by decide) rfl 3 (by decide) flT_22 rfl rfl dT_append_11 ?_
      refine lv_iload_n K.1 K.2.1 dT_append_14 rfl (lv_at hL 2 rfl) ?_
      refine lv_iadd K.1 K.2.1 dT_append_15 ?_
      refine lv_bipush (v := 40) K.1 K.2.1 dT_append_16 (by decide) ?_
      refine lv_icmp_le (tgt := 23) K.1 K.2.1 dT_append_18 rfl (fun hc => ?_) (fun hc => ?_)
      · have h := h.1 hc
        refine lv_iconst (v := 0) K.1 K.2.1 dT_append_23 (by decide) ?_
        refine lv_istore_n (lv' := [(3, .int (0 : Int32)), (0, .ref (ad 1)), (1, .int v1), (2, .int v2)]) K.1 K.2.1 dT_append_24 rfl hL (by decide) rfl (fun ls hL => ?_)
        obtain ⟨fu, h⟩ := h
        exact bT_append_25 K hr hZ h (lv_sub hL [1, 2, 3, 0] rfl) hP hS
      · have h := h.2 hc
        refine lv_iconst (v := 0) K.1 K.2.1 dT_append_21 (by decide) ?_
        obtain ⟨g3, h⟩ := h
        exact x_zret K hr hP hS g3 h dT_append_22
set_option maxRecDepth 100000 in
set_option maxHeartbeats 4000000 in
theorem mT_append {l : Launch} {D : va_G} {cI cJ cC cZ cR : ClassId} {ad kd sd vd : Nat → Nat} {kA lA wA : Nat} {A : Nat → Prop} (hZ : ZsOK A (ZX A kd sd vd kA lA wA)) (hD : wlD 64 ad A) {v1 : Int32} {v2 : Int32} {hi : HI} {hl : HL} {Φ : Int32 → HI → HL → Prop} (h : wpT_append v1 v2 hi hl Φ) : SpI l yT_append cT_append 5 (some .boolean) gT 1 21 [.ref (ad 1), .int v1, .int v2] D cls8 (tys5 cI cJ cC cZ cR) 64 ad (GX cI cJ cC cZ cR ad kd) A (ZX A kd sd vd kA lA wA) hi hl Φ := by
  refine Met.ofW (cc := cT_append) (maxL := 5) (ret := (some .boolean)) (by decide) rfl ?_
  intro p e s m args below meth c s₁ B hml hv
  obtain ⟨rfl, hP, hK, hZs⟩ := hv
  have K : Cx p (rmX 1 21) s m _ meth c cT_append 5 "WordChecker$Text" gT D cls8 (tys5 cI cJ cC cZ cR) 64 ad A (ZX A kd sd vd kA lA wA) := ⟨B.exec, B.bytes, hml, findClass_of_methodNamed B.named, fun w hw => atoms_spec B.pre w (List.mem_cons_of_mem _ hw), B.notSynchronized, hK, hD, hZs⟩
  have hL := lv_entry ([.ref (ad 1), .int v1, .int v2]) (n := 5) (Nat.le_of_ble_eq_true rfl)
  rw [lg_entry_eq]
  generalize (lg_sl ([.ref (ad 1), .int v1, .int v2]) ++ List.replicate (5 - (lg_sl ([.ref (ad 1), .int v1, .int v2])).length) Slot.unset).toArray = ls at hL ⊢
  have hL : lv_has ls 5 [(0, .ref (ad 1)), (1, .int v1), (2, .int v2)] := hL
  unfold wpT_append at h
  exact bT_append_0 K B.returns hZ h (lv_sub hL [0, 1, 2] rfl) hP va_S.rf
set_option maxRecDepth 100000 in
set_option maxHeartbeats 4000000 in
theorem bC_type_0 {p : Program} {l : Launch} {e : Env} {s : State} {m : MethodId} {args : Array Value} {below : List Frame} {meth : Method} {c : Code} {D : va_G} {cI cJ cC cZ cR : ClassId} {ad kd sd vd : Nat → Nat} {kA lA wA : Nat} {A : Nat → Prop} (K : Cx p (rmX 2 45) s m args meth c cC_type 3 "WordChecker" gT D cls8 (tys5 cI cJ cC cZ cR) 64 ad A (ZX A kd sd vd kA lA wA)) (hr : meth.sig.returnType = (some .boolean)) (hZ : ZsOK A (ZX A kd sd vd kA lA wA)) {Φ : Int32 → HI → HL → Prop} {v1 : Int32} {v2 : Int32} {hi : HI} {hl : HL} {H : Heap} {locs : List Loc} (h : wbC_type_0 v1 v2 hi hl Φ) {ls : Array Slot} (hL : lv_has ls 3 [(0, .ref (ad 0)), (1, .int v1), (2, .int v2)]) (hP : va_P D cls8 (wl 64 ad (GX cI cJ cC cZ cR ad kd) hi hl) H) (hS : va_S A s.heap H locs) : W p l e (rmX 2 45) s m args below meth c H locs 0 0 (MQ below (va_Qi (fun r (u : HI × HL) => Φ r u.1 u.2) (fun u t => va_P D cls8 (wl 64 ad (GX cI cJ cC cZ cR ad kd) u.1 u.2) t.heap) A) args s 0 0 A) (F0 m 0 ls []) := by
  unfold wbC_type_0 at h
  refine lv_aload_n K.1 K.2.1 dC_type_0 rfl (lv_at hL 0 rfl) ?_
  refine x_get (v := .ref (ad 1)) K hP hinC (ci := 0) rfl 0 (by decide) rfl 0 (by decide) flC_12 rfl rfl dC_type_1 ?_
  refine lv_iload_n K.1 K.2.1 dC_type_4 rfl (lv_at hL 1 rfl) ?_
  refine lv_iload_n K.1 K.2.1 dC_type_5 rfl (lv_at hL 2 rfl) ?_
  refine x_cVI (As := [.int v1, .int v2]) (rest := []) K gT_good hZ hP hS calT_append mlC_41 1 (by decide) rfl rfl (mT_append hZ K.2.2.2.2.2.2.2.1 h) ⟨Nat.le_of_ble_eq_true rfl, Nat.le_of_ble_eq_true rfl⟩ rfl hL.1 rfl (Nat.le_of_ble_eq_true rfl) dC_type_6 (fun r1 hi2 hl3 H locs h hP hS => ?_)
  obtain ⟨g4, h⟩ := h
  exact x_zret K hr hP hS g4 h dC_type_9
set_option maxRecDepth 100000 in
set_option maxHeartbeats 4000000 in
theorem mC_type {l : Launch} {D : va_G} {cI cJ cC cZ cR : ClassId} {ad kd sd vd : Nat → Nat} {kA lA wA : Nat} {A : Nat → Prop} (hZ : ZsOK A (ZX A kd sd vd kA lA wA)) (hD : wlD 64 ad A) {v1 : Int32} {v2 : Int32} {hi : HI} {hl : HL} {Φ : Int32 → HI → HL → Prop} (h : wpC_type v1 v2 hi hl Φ) : SpI l yC_type cC_type 3 (some .boolean) gT 2 45 [.ref (ad 0), .int v1, .int v2] D cls8 (tys5 cI cJ cC cZ cR) 64 ad (GX cI cJ cC cZ cR ad kd) A (ZX A kd sd vd kA lA wA) hi hl Φ := by
  refine Met.ofW (cc := cC_type) (maxL := 3) (ret := (some .boolean)) (by decide) rfl ?_
  intro p e s m args below meth c s₁ B hml hv
  obtain ⟨rfl, hP, hK, hZs⟩ := hv
  have K : Cx p (rmX 2 45) s m _ meth c cC_type 3 "WordChecker" gT D cls8 (tys5 cI cJ cC cZ cR) 64 ad A (ZX A kd sd vd kA lA wA) := ⟨B.exec, B.bytes, hml, findClass_of_methodNamed B.named, fun w hw => atoms_spec B.pre w (List.mem_cons_of_mem _ hw), B.notSynchronized, hK, hD, hZs⟩
  have hL := lv_entry ([.ref (ad 0), .int v1, .int v2]) (n := 3) (Nat.le_of_ble_eq_true rfl)
  rw [lg_entry_eq]
  generalize (lg_sl ([.ref (ad 0), .int v1, .int v2]) ++ List.replicate (3 - (lg_sl ([.ref (ad 0), .int v1, .int v2])).length) Slot.unset).toArray = ls at hL ⊢
  have hL : lv_has ls 3 [(0, .ref (ad 0)), (1, .int v1), (2, .int v2)] := hL
  unfold wpC_type at h
  exact bC_type_0 K B.returns hZ h (lv_sub hL [0, 1, 2] rfl) hP va_S.rf
set_option maxRecDepth 100000 in
set_option maxHeartbeats 4000000 in
theorem bB_wireOf_0 {p : Program} {l : Launch} {e : Env} {s : State} {m : MethodId} {args : Array Value} {below : List Frame} {meth : Method} {c : Code} {D : va_G} {cI cJ cC cZ cR : ClassId} {ad kd sd vd : Nat → Nat} {kA lA wA : Nat} {A : Nat → Prop} (K : Cx p (rmX 0 0) s m args meth c cB_wireOf 7 "WordChecker$Book" gT D cls8 (tys5 cI cJ cC cZ cR) 64 ad A (ZX A kd sd vd kA lA wA)) (hr : meth.sig.returnType = (some .long)) (hZ : ZsOK A (ZX A kd sd vd kA lA wA)) {Φ : Int64 → HI → HL → Prop} {v2 : Int32} {v3 : Int32} {v4 : Int32} {hi : HI} {hl : HL} {H : Heap} {locs : List Loc} (h : wbB_wireOf_0 v2 v3 v4 hi hl Φ) {ls : Array Slot} (hL : lv_has ls 7 [(0, .ref (ad 5)), (1, .ref (ad 10)), (2, .int v2), (3, .int v3), (4, .int v4)]) (hP : va_P D cls8 (wl 64 ad (GX cI cJ cC cZ cR ad kd) hi hl) H) (hS : va_S A s.heap H locs) : W p l e (rmX 0 0) s m args below meth c H locs 0 0 (MQ below (va_Ql (fun r (u : HI × HL) => Φ r u.1 u.2) (fun u t => va_P D cls8 (wl 64 ad (GX cI cJ cC cZ cR ad kd) u.1 u.2) t.heap) A) args s 0 0 A) (F0 m 0 ls []) := by
  unfold wbB_wireOf_0 at h
  refine lv_aload_n K.1 K.2.1 dB_wireOf_0 rfl (lv_at hL 0 rfl) ?_
  refine x_get (v := .ref (ad 6)) K hP hinB (ci := 2) rfl 5 (by decide) rfl 0 (by decide) flB_11 rfl rfl dB_wireOf_1 ?_
  refine lv_aload_n K.1 K.2.1 dB_wireOf_4 rfl (lv_at hL 1 rfl) ?_
  refine x_getN (v := .ref (ad 11)) K hP hinD (ci := 3) rfl 10 (by decide) rfl 5 (by decide) (fnB_123 K.2.2.2.2.2.2.2.2) rfl rfl dB_wireOf_5 ?_
  refine lv_iload_n K.1 K.2.1 dB_wireOf_8 rfl (lv_at hL 2 rfl) ?_
  obtain ⟨g1, h⟩ := h
  refine x_iald K hP 11 (by decide) 0 rfl rfl g1 dB_wireOf_9 ?_
  obtain ⟨g2, h⟩ := h
  refine x_aald K hP 6 (by decide) 4 rfl rfl g2 (q := ad (24 + ((hi 11 (v2.toNatClampNeg)).toNatClampNeg))) rfl dB_wireOf_10 ?_
  refine x_getN (v := .ref (ad (44 + ((hi 11 (v2.toNatClampNeg)).toNatClampNeg)))) K hP hinL (ci := 6) rfl (24 + ((hi 11 (v2.toNatClampNeg)).toNatClampNeg)) (lt_l (in_lt g2)) (GX_line _ (in_lt g2) _ _) 7 (by decide) (fnB_135 K.2.2.2.2.2.2.2.2) rfl rfl dB_wireOf_11 ?_
  refine lv_iload_n K.1 K.2.1 dB_wireOf_14 rfl (lv_at hL 3 rfl) ?_
  refine lv_iconst (v := 4) K.1 K.2.1 dB_wireOf_15 (by decide) ?_
  refine lv_imul K.1 K.2.1 dB_wireOf_16 ?_
  refine lv_iload K.1 K.2.1 dB_wireOf_17 (lv_at hL 4 rfl) ?_
  refine lv_iadd K.1 K.2.1 dB_wireOf_19 ?_
  obtain ⟨g3, h⟩ := h
  refine x_lald K hP (44 + ((hi 11 (v2.toNatClampNeg)).toNatClampNeg)) (lt_l2 (in_lt g2)) 1 (GX_wires _ (in_lt g2) _ _) rfl g3 dB_wireOf_20 ?_
  refine lv_lstore (lv' := [(5, .long (hl (44 + ((hi 11 (v2.toNatClampNeg)).toNatClampNeg)) (((v3 * (4 : Int32)) + v4).toNatClampNeg))), (0, .ref (ad 5)), (1, .ref (ad 10)), (2, .int v2), (3, .int v3), (4, .int v4)]) K.1 K.2.1 dB_wireOf_21 hL (by decide) rfl (fun ls hL => ?_)
  refine lv_aload_n K.1 K.2.1 dB_wireOf_23 rfl (lv_at hL 2 rfl) ?_
  refine x_getN (v := .ref (ad 12)) K hP hinD (ci := 3) rfl 10 (by decide) rfl 6 (by decide) (fnB_148 K.2.2.2.2.2.2.2.2) rfl rfl dB_wireOf_24 ?_
  refine lv_iload_n K.1 K.2.1 dB_wireOf_27 rfl (lv_at hL 3 rfl) ?_
  obtain ⟨g4, h⟩ := h
  refine x_zald K hP 12 (by decide) 3 rfl rfl g4 dB_wireOf_28 ?_
  refine lv_if_eq (tgt := 41) K.1 K.2.1 dB_wireOf_29 rfl (fun hc => ?_) (fun hc => ?_)
  · have h := h.1 hc
    refine lv_lload K.1 K.2.1 dB_wireOf_41 (lv_at hL 0 rfl) ?_
    exact x_lret K hr hP hS h dB_wireOf_43
  · have h := h.2 hc
    refine lv_lload K.1 K.2.1 dB_wireOf_32 (lv_at hL 0 rfl) ?_
    refine lv_ldc2 (v := -1) K.1 K.2.1 K.2.2.2.1 (K.2.2.2.2.1 _ clB_35) dB_wireOf_34 ?_
    refine lv_lxor K.1 K.2.1 dB_wireOf_37 ?_
    refine lv_goto (tgt := 43) K.1 K.2.1 dB_wireOf_38 rfl ?_
    exact x_lret K hr hP hS h dB_wireOf_43
set_option maxRecDepth 100000 in
set_option maxHeartbeats 4000000 in
theorem mB_wireOf {l : Launch} {D : va_G} {cI cJ cC cZ cR : ClassId} {ad kd sd vd : Nat → Nat} {kA lA wA : Nat} {A : Nat → Prop} (hZ : ZsOK A (ZX A kd sd vd kA lA wA)) (hD : wlD 64 ad A) {v2 : Int32} {v3 : Int32} {v4 : Int32} {hi : HI} {hl : HL} {Φ : Int64 → HI → HL → Prop} (h : wpB_wireOf v2 v3 v4 hi hl Φ) : SpJ l yB_wireOf cB_wireOf 7 (some .long) gT 0 0 [.ref (ad 5), .ref (ad 10), .int v2, .int v3, .int v4] D cls8 (tys5 cI cJ cC cZ cR) 64 ad (GX cI cJ cC cZ cR ad kd) A (ZX A kd sd vd kA lA wA) hi hl Φ := by
  refine Met.ofW (cc := cB_wireOf) (maxL := 7) (ret := (some .long)) (by decide) rfl ?_
  intro p e s m args below meth c s₁ B hml hv
  obtain ⟨rfl, hP, hK, hZs⟩ := hv
  have K : Cx p (rmX 0 0) s m _ meth c cB_wireOf 7 "WordChecker$Book" gT D cls8 (tys5 cI cJ cC cZ cR) 64 ad A (ZX A kd sd vd kA lA wA) := ⟨B.exec, B.bytes, hml, findClass_of_methodNamed B.named, fun w hw => atoms_spec B.pre w (List.mem_cons_of_mem _ hw), B.notSynchronized, hK, hD, hZs⟩
  have hL := lv_entry ([.ref (ad 5), .ref (ad 10), .int v2, .int v3, .int v4]) (n := 7) (Nat.le_of_ble_eq_true rfl)
  rw [lg_entry_eq]
  generalize (lg_sl ([.ref (ad 5), .ref (ad 10), .int v2, .int v3, .int v4]) ++ List.replicate (7 - (lg_sl ([.ref (ad 5), .ref (ad 10), .int v2, .int v3, .int v4])).length) Slot.unset).toArray = ls at hL ⊢
  have hL : lv_has ls 7 [(0, .ref (ad 5)), (1, .ref (ad 10)), (2, .int v2), (3, .int v3), (4, .int v4)] := hL
  unfold wpB_wireOf at h
  exact bB_wireOf_0 K B.returns hZ h (lv_sub hL [0, 1, 2, 3, 4] rfl) hP va_S.rf
set_option maxRecDepth 100000 in
set_option maxHeartbeats 4000000 in
theorem bB_addBad_2 {p : Program} {l : Launch} {e : Env} {s : State} {m : MethodId} {args : Array Value} {below : List Frame} {meth : Method} {c : Code} {D : va_G} {cI cJ cC cZ cR : ClassId} {ad kd sd vd : Nat → Nat} {kA lA wA : Nat} {A : Nat → Prop} (K : Cx p (rmX 1 26) s m args meth c cB_addBad 3 "WordChecker$Book" gT D cls8 (tys5 cI cJ cC cZ cR) 64 ad A (ZX A kd sd vd kA lA wA)) (hr : meth.sig.returnType = none) (hZ : ZsOK A (ZX A kd sd vd kA lA wA)) {Φ : HI → HL → Prop} {n : Nat} {v2 : Int32} {hi : HI} {hl : HL} {H : Heap} {locs : List Loc} (h : wbB_addBad_2 n v2 hi hl Φ) {ls : Array Slot} (hL : lv_has ls 3 [(0, .ref (ad 5)), (1, .ref (ad 10)), (2, .int v2)]) (hP : va_P D cls8 (wl 64 ad (GX cI cJ cC cZ cR ad kd) hi hl) H) (hS : va_S A s.heap H locs) : W p l e (rmX 1 26) s m args below meth c H locs 0 0 (MQ below (va_Qv (fun (u : HI × HL) => Φ u.1 u.2) (fun u t => va_P D cls8 (wl 64 ad (GX cI cJ cC cZ cR ad kd) u.1 u.2) t.heap) A) args s 0 0 A) (F0 m 2 ls []) := by
  induction n generalizing v2 hi hl ls H locs with
  | zero => exact False.elim h
  | succ n ih =>
    unfold wbB_addBad_2 at h
    refine lv_iload_n K.1 K.2.1 dB_addBad_2 rfl (lv_at hL 2 rfl) ?_
    refine lv_iconst (v := 4) K.1 K.2.1 dB_addBad_3 (by decide) ?_
    refine lv_icmp_ge (tgt := 30) K.1 K.2.1 dB_addBad_4 rfl (fun hc => ?_) (fun hc => ?_)
    · have h := h.1 hc
      exact x_vret K hr hP hS h dB_addBad_30
    · have h := h.2 hc
      refine lv_aload_n K.1 K.2.1 dB_addBad_7 rfl (lv_at hL 0 rfl) ?_
      refine x_get (v := .ref (ad 8)) K hP hinB (ci := 2) rfl 5 (by decide) rfl 7 (by decide) flB_28 rfl rfl dB_addBad_8 ?_
      refine lv_iload_n K.1 K.2.1 dB_addBad_11 rfl (lv_at hL 2 rfl) ?_
      refine lv_dup2_11 K.1 K.2.1 dB_addBad_12 rfl rfl ?_
      obtain ⟨g1, h⟩ := h
      refine x_lald K hP 8 (by decide) 1 rfl rfl g1 dB_addBad_13 ?_
      refine lv_aload_n K.1 K.2.1 dB_addBad_14 rfl (lv_at hL 0 rfl) ?_
      refine lv_aload_n K.1 K.2.1 dB_addBad_15 rfl (lv_at hL 1 rfl) ?_
      refine lv_iconst (v := 0) K.1 K.2.1 dB_addBad_16 (by decide) ?_
      refine lv_iconst (v := 0) K.1 K.2.1 dB_addBad_17 (by decide) ?_
      refine lv_iload_n K.1 K.2.1 dB_addBad_18 rfl (lv_at hL 2 rfl) ?_
      refine x_cVJ (As := [.ref (ad 10), .int (0 : Int32), .int (0 : Int32), .int v2]) (rest := [.long (hl 8 (v2.toNatClampNeg)), .int v2, .ref (ad 8)]) K gT_good hZ hP hS calB_wireOf mlB_152 5 (by decide) rfl rfl (mB_wireOf hZ K.2.2.2.2.2.2.2.1 h) ⟨Nat.le_of_ble_eq_true rfl, Nat.le_of_ble_eq_true rfl⟩ rfl hL.1 rfl (Nat.le_of_ble_eq_true rfl) dB_addBad_19 (fun r2 hi3 hl4 H locs h hP hS => ?_)
      refine lv_lor K.1 K.2.1 dB_addBad_22 ?_
      obtain ⟨g5, h⟩ := h
      refine x_last K hP hS 8 (by decide) 1 (fun _ => rfl) rfl g5 dB_addBad_23 (fun H locs hP hS => ?_)
      refine lv_iinc (k := 2) (lv' := [(2, .int (v2 + Int32.ofInt (1))), (0, .ref (ad 5)), (1, .ref (ad 10))]) K.1 K.2.1 dB_addBad_24 hL rfl rfl (by decide) rfl (fun ls hL => ?_)
      refine lv_goto (tgt := 2) K.1 K.2.1 dB_addBad_27 rfl ?_
      exact ih h (lv_sub hL [1, 2, 0] rfl) hP hS
set_option maxRecDepth 100000 in
set_option maxHeartbeats 4000000 in
theorem bB_addBad_0 {p : Program} {l : Launch} {e : Env} {s : State} {m : MethodId} {args : Array Value} {below : List Frame} {meth : Method} {c : Code} {D : va_G} {cI cJ cC cZ cR : ClassId} {ad kd sd vd : Nat → Nat} {kA lA wA : Nat} {A : Nat → Prop} (K : Cx p (rmX 1 26) s m args meth c cB_addBad 3 "WordChecker$Book" gT D cls8 (tys5 cI cJ cC cZ cR) 64 ad A (ZX A kd sd vd kA lA wA)) (hr : meth.sig.returnType = none) (hZ : ZsOK A (ZX A kd sd vd kA lA wA)) {Φ : HI → HL → Prop} {hi : HI} {hl : HL} {H : Heap} {locs : List Loc} (h : wbB_addBad_0 hi hl Φ) {ls : Array Slot} (hL : lv_has ls 3 [(0, .ref (ad 5)), (1, .ref (ad 10))]) (hP : va_P D cls8 (wl 64 ad (GX cI cJ cC cZ cR ad kd) hi hl) H) (hS : va_S A s.heap H locs) : W p l e (rmX 1 26) s m args below meth c H locs 0 0 (MQ below (va_Qv (fun (u : HI × HL) => Φ u.1 u.2) (fun u t => va_P D cls8 (wl 64 ad (GX cI cJ cC cZ cR ad kd) u.1 u.2) t.heap) A) args s 0 0 A) (F0 m 0 ls []) := by
  unfold wbB_addBad_0 at h
  refine lv_iconst (v := 0) K.1 K.2.1 dB_addBad_0 (by decide) ?_
  refine lv_istore_n (lv' := [(2, .int (0 : Int32)), (0, .ref (ad 5)), (1, .ref (ad 10))]) K.1 K.2.1 dB_addBad_1 rfl hL (by decide) rfl (fun ls hL => ?_)
  obtain ⟨fu, h⟩ := h
  exact bB_addBad_2 K hr hZ h (lv_sub hL [1, 2, 0] rfl) hP hS
set_option maxRecDepth 100000 in
set_option maxHeartbeats 4000000 in
theorem mB_addBad {l : Launch} {D : va_G} {cI cJ cC cZ cR : ClassId} {ad kd sd vd : Nat → Nat} {kA lA wA : Nat} {A : Nat → Prop} (hZ : ZsOK A (ZX A kd sd vd kA lA wA)) (hD : wlD 64 ad A) {hi : HI} {hl : HL} {Φ : HI → HL → Prop} (h : wpB_addBad hi hl Φ) : SpV l yB_addBad cB_addBad 3 none gT 1 26 [.ref (ad 5), .ref (ad 10)] D cls8 (tys5 cI cJ cC cZ cR) 64 ad (GX cI cJ cC cZ cR ad kd) A (ZX A kd sd vd kA lA wA) hi hl Φ := by
  refine Met.ofW (cc := cB_addBad) (maxL := 3) (ret := none) (by decide) rfl ?_
  intro p e s m args below meth c s₁ B hml hv
  obtain ⟨rfl, hP, hK, hZs⟩ := hv
  have K : Cx p (rmX 1 26) s m _ meth c cB_addBad 3 "WordChecker$Book" gT D cls8 (tys5 cI cJ cC cZ cR) 64 ad A (ZX A kd sd vd kA lA wA) := ⟨B.exec, B.bytes, hml, findClass_of_methodNamed B.named, fun w hw => atoms_spec B.pre w (List.mem_cons_of_mem _ hw), B.notSynchronized, hK, hD, hZs⟩
  have hL := lv_entry ([.ref (ad 5), .ref (ad 10)]) (n := 3) (Nat.le_of_ble_eq_true rfl)
  rw [lg_entry_eq]
  generalize (lg_sl ([.ref (ad 5), .ref (ad 10)]) ++ List.replicate (3 - (lg_sl ([.ref (ad 5), .ref (ad 10)])).length) Slot.unset).toArray = ls at hL ⊢
  have hL : lv_has ls 3 [(0, .ref (ad 5)), (1, .ref (ad 10))] := hL
  unfold wpB_addBad at h
  exact bB_addBad_0 K B.returns hZ h (lv_sub hL [0, 1] rfl) hP va_S.rf
set_option maxRecDepth 100000 in
set_option maxHeartbeats 4000000 in
theorem bB_addConstraint_2 {p : Program} {l : Launch} {e : Env} {s : State} {m : MethodId} {args : Array Value} {below : List Frame} {meth : Method} {c : Code} {D : va_G} {cI cJ cC cZ cR : ClassId} {ad kd sd vd : Nat → Nat} {kA lA wA : Nat} {A : Nat → Prop} (K : Cx p (rmX 1 26) s m args meth c cB_addConstraint 3 "WordChecker$Book" gT D cls8 (tys5 cI cJ cC cZ cR) 64 ad A (ZX A kd sd vd kA lA wA)) (hr : meth.sig.returnType = none) (hZ : ZsOK A (ZX A kd sd vd kA lA wA)) {Φ : HI → HL → Prop} {n : Nat} {v2 : Int32} {hi : HI} {hl : HL} {H : Heap} {locs : List Loc} (h : wbB_addConstraint_2 n v2 hi hl Φ) {ls : Array Slot} (hL : lv_has ls 3 [(0, .ref (ad 5)), (1, .ref (ad 10)), (2, .int v2)]) (hP : va_P D cls8 (wl 64 ad (GX cI cJ cC cZ cR ad kd) hi hl) H) (hS : va_S A s.heap H locs) : W p l e (rmX 1 26) s m args below meth c H locs 0 0 (MQ below (va_Qv (fun (u : HI × HL) => Φ u.1 u.2) (fun u t => va_P D cls8 (wl 64 ad (GX cI cJ cC cZ cR ad kd) u.1 u.2) t.heap) A) args s 0 0 A) (F0 m 2 ls []) := by
  induction n generalizing v2 hi hl ls H locs with
  | zero => exact False.elim h
  | succ n ih =>
    unfold wbB_addConstraint_2 at h
    refine lv_iload_n K.1 K.2.1 dB_addConstraint_2 rfl (lv_at hL 2 rfl) ?_
    refine lv_iconst (v := 4) K.1 K.2.1 dB_addConstraint_3 (by decide) ?_
    refine lv_icmp_ge (tgt := 30) K.1 K.2.1 dB_addConstraint_4 rfl (fun hc => ?_) (fun hc => ?_)
    · have h := h.1 hc
      exact x_vret K hr hP hS h dB_addConstraint_30
    · have h := h.2 hc
      refine lv_aload_n K.1 K.2.1 dB_addConstraint_7 rfl (lv_at hL 0 rfl) ?_
      refine x_get (v := .ref (ad 9)) K hP hinB (ci := 2) rfl 5 (by decide) rfl 8 (by decide) flB_31 rfl rfl dB_addConstraint_8 ?_
      refine lv_iload_n K.1 K.2.1 dB_addConstraint_11 rfl (lv_at hL 2 rfl) ?_
      refine lv_dup2_11 K.1 K.2.1 dB_addConstraint_12 rfl rfl ?_
      obtain ⟨g1, h⟩ := h
      refine x_lald K hP 9 (by decide) 1 rfl rfl g1 dB_addConstraint_13 ?_
      refine lv_aload_n K.1 K.2.1 dB_addConstraint_14 rfl (lv_at hL 0 rfl) ?_
      refine lv_aload_n K.1 K.2.1 dB_addConstraint_15 rfl (lv_at hL 1 rfl) ?_
      refine lv_iconst (v := 0) K.1 K.2.1 dB_addConstraint_16 (by decide) ?_
      refine lv_iconst (v := 0) K.1 K.2.1 dB_addConstraint_17 (by decide) ?_
      refine lv_iload_n K.1 K.2.1 dB_addConstraint_18 rfl (lv_at hL 2 rfl) ?_
      refine x_cVJ (As := [.ref (ad 10), .int (0 : Int32), .int (0 : Int32), .int v2]) (rest := [.long (hl 9 (v2.toNatClampNeg)), .int v2, .ref (ad 9)]) K gT_good hZ hP hS calB_wireOf mlB_152 5 (by decide) rfl rfl (mB_wireOf hZ K.2.2.2.2.2.2.2.1 h) ⟨Nat.le_of_ble_eq_true rfl, Nat.le_of_ble_eq_true rfl⟩ rfl hL.1 rfl (Nat.le_of_ble_eq_true rfl) dB_addConstraint_19 (fun r2 hi3 hl4 H locs h hP hS => ?_)
      refine lv_land K.1 K.2.1 dB_addConstraint_22 ?_
      obtain ⟨g5, h⟩ := h
      refine x_last K hP hS 9 (by decide) 1 (fun _ => rfl) rfl g5 dB_addConstraint_23 (fun H locs hP hS => ?_)
      refine lv_iinc (k := 2) (lv' := [(2, .int (v2 + Int32.ofInt (1))), (0, .ref (ad 5)), (1, .ref (ad 10))]) K.1 K.2.1 dB_addConstraint_24 hL rfl rfl (by decide) rfl (fun ls hL => ?_)
      refine lv_goto (tgt := 2) K.1 K.2.1 dB_addConstraint_27 rfl ?_
      exact ih h (lv_sub hL [1, 2, 0] rfl) hP hS
set_option maxRecDepth 100000 in
set_option maxHeartbeats 4000000 in
theorem bB_addConstraint_0 {p : Program} {l : Launch} {e : Env} {s : State} {m : MethodId} {args : Array Value} {below : List Frame} {meth : Method} {c : Code} {D : va_G} {cI cJ cC cZ cR : ClassId} {ad kd sd vd : Nat → Nat} {kA lA wA : Nat} {A : Nat → Prop} (K : Cx p (rmX 1 26) s m args meth c cB_addConstraint 3 "WordChecker$Book" gT D cls8 (tys5 cI cJ cC cZ cR) 64 ad A (ZX A kd sd vd kA lA wA)) (hr : meth.sig.returnType = none) (hZ : ZsOK A (ZX A kd sd vd kA lA wA)) {Φ : HI → HL → Prop} {hi : HI} {hl : HL} {H : Heap} {locs : List Loc} (h : wbB_addConstraint_0 hi hl Φ) {ls : Array Slot} (hL : lv_has ls 3 [(0, .ref (ad 5)), (1, .ref (ad 10))]) (hP : va_P D cls8 (wl 64 ad (GX cI cJ cC cZ cR ad kd) hi hl) H) (hS : va_S A s.heap H locs) : W p l e (rmX 1 26) s m args below meth c H locs 0 0 (MQ below (va_Qv (fun (u : HI × HL) => Φ u.1 u.2) (fun u t => va_P D cls8 (wl 64 ad (GX cI cJ cC cZ cR ad kd) u.1 u.2) t.heap) A) args s 0 0 A) (F0 m 0 ls []) := by
  unfold wbB_addConstraint_0 at h
  refine lv_iconst (v := 0) K.1 K.2.1 dB_addConstraint_0 (by decide) ?_
  refine lv_istore_n (lv' := [(2, .int (0 : Int32)), (0, .ref (ad 5)), (1, .ref (ad 10))]) K.1 K.2.1 dB_addConstraint_1 rfl hL (by decide) rfl (fun ls hL => ?_)
  obtain ⟨fu, h⟩ := h
  exact bB_addConstraint_2 K hr hZ h (lv_sub hL [1, 2, 0] rfl) hP hS
set_option maxRecDepth 100000 in
set_option maxHeartbeats 4000000 in
theorem mB_addConstraint {l : Launch} {D : va_G} {cI cJ cC cZ cR : ClassId} {ad kd sd vd : Nat → Nat} {kA lA wA : Nat} {A : Nat → Prop} (hZ : ZsOK A (ZX A kd sd vd kA lA wA)) (hD : wlD 64 ad A) {hi : HI} {hl : HL} {Φ : HI → HL → Prop} (h : wpB_addConstraint hi hl Φ) : SpV l yB_addConstraint cB_addConstraint 3 none gT 1 26 [.ref (ad 5), .ref (ad 10)] D cls8 (tys5 cI cJ cC cZ cR) 64 ad (GX cI cJ cC cZ cR ad kd) A (ZX A kd sd vd kA lA wA) hi hl Φ := by
  refine Met.ofW (cc := cB_addConstraint) (maxL := 3) (ret := none) (by decide) rfl ?_
  intro p e s m args below meth c s₁ B hml hv
  obtain ⟨rfl, hP, hK, hZs⟩ := hv
  have K : Cx p (rmX 1 26) s m _ meth c cB_addConstraint 3 "WordChecker$Book" gT D cls8 (tys5 cI cJ cC cZ cR) 64 ad A (ZX A kd sd vd kA lA wA) := ⟨B.exec, B.bytes, hml, findClass_of_methodNamed B.named, fun w hw => atoms_spec B.pre w (List.mem_cons_of_mem _ hw), B.notSynchronized, hK, hD, hZs⟩
  have hL := lv_entry ([.ref (ad 5), .ref (ad 10)]) (n := 3) (Nat.le_of_ble_eq_true rfl)
  rw [lg_entry_eq]
  generalize (lg_sl ([.ref (ad 5), .ref (ad 10)]) ++ List.replicate (3 - (lg_sl ([.ref (ad 5), .ref (ad 10)])).length) Slot.unset).toArray = ls at hL ⊢
  have hL : lv_has ls 3 [(0, .ref (ad 5)), (1, .ref (ad 10))] := hL
  unfold wpB_addConstraint at h
  exact bB_addConstraint_0 K B.returns hZ h (lv_sub hL [0, 1] rfl) hP va_S.rf
set_option maxRecDepth 100000 in
set_option maxHeartbeats 4000000 in
theorem bC_isArray_0 {p : Program} {l : Launch} {e : Env} {s : State} {m : MethodId} {args : Array Value} {below : List Frame} {meth : Method} {c : Code} {D : va_G} {cI cJ cC cZ cR : ClassId} {ad kd sd vd : Nat → Nat} {kA lA wA : Nat} {A : Nat → Prop} (K : Cx p (rmX 0 0) s m args meth c cC_isArray 1 "WordChecker" gT D cls8 (tys5 cI cJ cC cZ cR) 64 ad A (ZX A kd sd vd kA lA wA)) (hr : meth.sig.returnType = (some .boolean)) (hZ : ZsOK A (ZX A kd sd vd kA lA wA)) {Φ : Int32 → HI → HL → Prop} {v0 : Int32} {hi : HI} {hl : HL} {H : Heap} {locs : List Loc} (h : wbC_isArray_0 v0 hi hl Φ) {ls : Array Slot} (hL : lv_has ls 1 [(0, .int v0)]) (hP : va_P D cls8 (wl 64 ad (GX cI cJ cC cZ cR ad kd) hi hl) H) (hS : va_S A s.heap H locs) : W p l e (rmX 0 0) s m args below meth c H locs 0 0 (MQ below (va_Qi (fun r (u : HI × HL) => Φ r u.1 u.2) (fun u t => va_P D cls8 (wl 64 ad (GX cI cJ cC cZ cR ad kd) u.1 u.2) t.heap) A) args s 0 0 A) (F0 m 0 ls []) := by
  unfold wbC_isArray_0 at h
  refine lv_iload_n K.1 K.2.1 dC_isArray_0 rfl (lv_at hL 0 rfl) ?_
  refine lv_iconst (v := 4) K.1 K.2.1 dC_isArray_1 (by decide) ?_
  refine lv_icmp_le (tgt := 9) K.1 K.2.1 dC_isArray_2 rfl (fun hc => ?_) (fun hc => ?_)
  · have h := h.1 hc
    refine lv_iconst (v := 0) K.1 K.2.1 dC_isArray_9 (by decide) ?_
    obtain ⟨g1, h⟩ := h
    exact x_zret K hr hP hS g1 h dC_isArray_10
  · have h := h.2 hc
    refine lv_iconst (v := 1) K.1 K.2.1 dC_isArray_5 (by decide) ?_
    refine lv_goto (tgt := 10) K.1 K.2.1 dC_isArray_6 rfl ?_
    obtain ⟨g2, h⟩ := h
    exact x_zret K hr hP hS g2 h dC_isArray_10
set_option maxRecDepth 100000 in
set_option maxHeartbeats 4000000 in
theorem mC_isArray {l : Launch} {D : va_G} {cI cJ cC cZ cR : ClassId} {ad kd sd vd : Nat → Nat} {kA lA wA : Nat} {A : Nat → Prop} (hZ : ZsOK A (ZX A kd sd vd kA lA wA)) (hD : wlD 64 ad A) {v0 : Int32} {hi : HI} {hl : HL} {Φ : Int32 → HI → HL → Prop} (h : wpC_isArray v0 hi hl Φ) : SpI l yC_isArray cC_isArray 1 (some .boolean) gT 0 0 [.int v0] D cls8 (tys5 cI cJ cC cZ cR) 64 ad (GX cI cJ cC cZ cR ad kd) A (ZX A kd sd vd kA lA wA) hi hl Φ := by
  refine Met.ofW (cc := cC_isArray) (maxL := 1) (ret := (some .boolean)) (by decide) rfl ?_
  intro p e s m args below meth c s₁ B hml hv
  obtain ⟨rfl, hP, hK, hZs⟩ := hv
  have K : Cx p (rmX 0 0) s m _ meth c cC_isArray 1 "WordChecker" gT D cls8 (tys5 cI cJ cC cZ cR) 64 ad A (ZX A kd sd vd kA lA wA) := ⟨B.exec, B.bytes, hml, findClass_of_methodNamed B.named, fun w hw => atoms_spec B.pre w (List.mem_cons_of_mem _ hw), B.notSynchronized, hK, hD, hZs⟩
  have hL := lv_entry ([.int v0]) (n := 1) (Nat.le_of_ble_eq_true rfl)
  rw [lg_entry_eq]
  generalize (lg_sl ([.int v0]) ++ List.replicate (1 - (lg_sl ([.int v0])).length) Slot.unset).toArray = ls at hL ⊢
  have hL : lv_has ls 1 [(0, .int v0)] := hL
  unfold wpC_isArray at h
  exact bC_isArray_0 K B.returns hZ h (lv_sub hL [0] rfl) hP va_S.rf
set_option maxRecDepth 100000 in
set_option maxHeartbeats 4000000 in
theorem bC_bitsOf_0 {p : Program} {l : Launch} {e : Env} {s : State} {m : MethodId} {args : Array Value} {below : List Frame} {meth : Method} {c : Code} {D : va_G} {cI cJ cC cZ cR : ClassId} {ad kd sd vd : Nat → Nat} {kA lA wA : Nat} {A : Nat → Prop} (K : Cx p (rmX 1 20) s m args meth c cC_bitsOf 1 "WordChecker" gT D cls8 (tys5 cI cJ cC cZ cR) 64 ad A (ZX A kd sd vd kA lA wA)) (hr : meth.sig.returnType = (some .int)) (hZ : ZsOK A (ZX A kd sd vd kA lA wA)) {Φ : Int32 → HI → HL → Prop} {v0 : Int32} {hi : HI} {hl : HL} {H : Heap} {locs : List Loc} (h : wbC_bitsOf_0 v0 hi hl Φ) {ls : Array Slot} (hL : lv_has ls 1 [(0, .int v0)]) (hP : va_P D cls8 (wl 64 ad (GX cI cJ cC cZ cR ad kd) hi hl) H) (hS : va_S A s.heap H locs) : W p l e (rmX 1 20) s m args below meth c H locs 0 0 (MQ below (va_Qi (fun r (u : HI × HL) => Φ r u.1 u.2) (fun u t => va_P D cls8 (wl 64 ad (GX cI cJ cC cZ cR ad kd) u.1 u.2) t.heap) A) args s 0 0 A) (F0 m 0 ls []) := by
  unfold wbC_bitsOf_0 at h
  refine lv_iload_n K.1 K.2.1 dC_bitsOf_0 rfl (lv_at hL 0 rfl) ?_
  refine x_cSI (As := [.int v0]) (rest := []) K gT_good hZ hP hS calC_isArray mlC_111 (mC_isArray hZ K.2.2.2.2.2.2.2.1 h) ⟨Nat.le_of_ble_eq_true rfl, Nat.le_of_ble_eq_true rfl⟩ rfl hL.1 rfl (Nat.le_of_ble_eq_true rfl) dC_bitsOf_1 (fun r1 hi2 hl3 H locs h hP hS => ?_)
  refine lv_if_eq (tgt := 15) K.1 K.2.1 dC_bitsOf_4 rfl (fun hc => ?_) (fun hc => ?_)
  · have h := h.1 hc
    refine lv_iload_n K.1 K.2.1 dC_bitsOf_15 rfl (lv_at hL 0 rfl) ?_
    exact x_iret K hr hP hS h dC_bitsOf_16
  · have h := h.2 hc
    refine lv_iconst (v := 2) K.1 K.2.1 dC_bitsOf_7 (by decide) ?_
    refine lv_iload_n K.1 K.2.1 dC_bitsOf_8 rfl (lv_at hL 0 rfl) ?_
    refine lv_iconst (v := 4) K.1 K.2.1 dC_bitsOf_9 (by decide) ?_
    refine lv_isub K.1 K.2.1 dC_bitsOf_10 ?_
    refine lv_imul K.1 K.2.1 dC_bitsOf_11 ?_
    refine lv_goto (tgt := 16) K.1 K.2.1 dC_bitsOf_12 rfl ?_
    exact x_iret K hr hP hS h dC_bitsOf_16
set_option maxRecDepth 100000 in
set_option maxHeartbeats 4000000 in
theorem mC_bitsOf {l : Launch} {D : va_G} {cI cJ cC cZ cR : ClassId} {ad kd sd vd : Nat → Nat} {kA lA wA : Nat} {A : Nat → Prop} (hZ : ZsOK A (ZX A kd sd vd kA lA wA)) (hD : wlD 64 ad A) {v0 : Int32} {hi : HI} {hl : HL} {Φ : Int32 → HI → HL → Prop} (h : wpC_bitsOf v0 hi hl Φ) : SpI l yC_bitsOf cC_bitsOf 1 (some .int) gT 1 20 [.int v0] D cls8 (tys5 cI cJ cC cZ cR) 64 ad (GX cI cJ cC cZ cR ad kd) A (ZX A kd sd vd kA lA wA) hi hl Φ := by
  refine Met.ofW (cc := cC_bitsOf) (maxL := 1) (ret := (some .int)) (by decide) rfl ?_
  intro p e s m args below meth c s₁ B hml hv
  obtain ⟨rfl, hP, hK, hZs⟩ := hv
  have K : Cx p (rmX 1 20) s m _ meth c cC_bitsOf 1 "WordChecker" gT D cls8 (tys5 cI cJ cC cZ cR) 64 ad A (ZX A kd sd vd kA lA wA) := ⟨B.exec, B.bytes, hml, findClass_of_methodNamed B.named, fun w hw => atoms_spec B.pre w (List.mem_cons_of_mem _ hw), B.notSynchronized, hK, hD, hZs⟩
  have hL := lv_entry ([.int v0]) (n := 1) (Nat.le_of_ble_eq_true rfl)
  rw [lg_entry_eq]
  generalize (lg_sl ([.int v0]) ++ List.replicate (1 - (lg_sl ([.int v0])).length) Slot.unset).toArray = ls at hL ⊢
  have hL : lv_has ls 1 [(0, .int v0)] := hL
  unfold wpC_bitsOf at h
  exact bC_bitsOf_0 K B.returns hZ h (lv_sub hL [0] rfl) hP va_S.rf
set_option maxRecDepth 100000 in
set_option maxHeartbeats 4000000 in
theorem bC_has_0 {p : Program} {l : Launch} {e : Env} {s : State} {m : MethodId} {args : Array Value} {below : List Frame} {meth : Method} {c : Code} {D : va_G} {cI cJ cC cZ cR : ClassId} {ad kd sd vd : Nat → Nat} {kA lA wA : Nat} {A : Nat → Prop} (K : Cx p (rmX 0 0) s m args meth c cC_has 3 "WordChecker" gT D cls8 (tys5 cI cJ cC cZ cR) 64 ad A (ZX A kd sd vd kA lA wA)) (hr : meth.sig.returnType = (some .boolean)) (hZ : ZsOK A (ZX A kd sd vd kA lA wA)) {Φ : Int32 → HI → HL → Prop} {v0 : Int64} {v2 : Int32} {hi : HI} {hl : HL} {H : Heap} {locs : List Loc} (h : wbC_has_0 v0 v2 hi hl Φ) {ls : Array Slot} (hL : lv_has ls 3 [(0, .long v0), (2, .int v2)]) (hP : va_P D cls8 (wl 64 ad (GX cI cJ cC cZ cR ad kd) hi hl) H) (hS : va_S A s.heap H locs) : W p l e (rmX 0 0) s m args below meth c H locs 0 0 (MQ below (va_Qi (fun r (u : HI × HL) => Φ r u.1 u.2) (fun u t => va_P D cls8 (wl 64 ad (GX cI cJ cC cZ cR ad kd) u.1 u.2) t.heap) A) args s 0 0 A) (F0 m 0 ls []) := by
  unfold wbC_has_0 at h
  refine lv_lload_n K.1 K.2.1 dC_has_0 rfl (lv_at hL 0 rfl) ?_
  refine lv_iload_n K.1 K.2.1 dC_has_1 rfl (lv_at hL 1 rfl) ?_
  refine lv_lushr K.1 K.2.1 dC_has_2 rfl ?_
  refine lv_lconst (v := 1) K.1 K.2.1 dC_has_3 (by decide) ?_
  refine lv_land K.1 K.2.1 dC_has_4 ?_
  refine lv_lconst (v := 0) K.1 K.2.1 dC_has_5 (by decide) ?_
  refine W.lcmp K.1 K.2.1 dC_has_6 ?_
  refine lv_if_eq (tgt := 14) K.1 K.2.1 dC_has_7 rfl (fun hc => ?_) (fun hc => ?_)
  · have h := h.1 hc
    refine lv_iconst (v := 0) K.1 K.2.1 dC_has_14 (by decide) ?_
    obtain ⟨g1, h⟩ := h
    exact x_zret K hr hP hS g1 h dC_has_15
  · have h := h.2 hc
    refine lv_iconst (v := 1) K.1 K.2.1 dC_has_10 (by decide) ?_
    refine lv_goto (tgt := 15) K.1 K.2.1 dC_has_11 rfl ?_
    obtain ⟨g2, h⟩ := h
    exact x_zret K hr hP hS g2 h dC_has_15
set_option maxRecDepth 100000 in
set_option maxHeartbeats 4000000 in
theorem mC_has {l : Launch} {D : va_G} {cI cJ cC cZ cR : ClassId} {ad kd sd vd : Nat → Nat} {kA lA wA : Nat} {A : Nat → Prop} (hZ : ZsOK A (ZX A kd sd vd kA lA wA)) (hD : wlD 64 ad A) {v0 : Int64} {v2 : Int32} {hi : HI} {hl : HL} {Φ : Int32 → HI → HL → Prop} (h : wpC_has v0 v2 hi hl Φ) : SpI l yC_has cC_has 3 (some .boolean) gT 0 0 [.long v0, .int v2] D cls8 (tys5 cI cJ cC cZ cR) 64 ad (GX cI cJ cC cZ cR ad kd) A (ZX A kd sd vd kA lA wA) hi hl Φ := by
  refine Met.ofW (cc := cC_has) (maxL := 3) (ret := (some .boolean)) (by decide) rfl ?_
  intro p e s m args below meth c s₁ B hml hv
  obtain ⟨rfl, hP, hK, hZs⟩ := hv
  have K : Cx p (rmX 0 0) s m _ meth c cC_has 3 "WordChecker" gT D cls8 (tys5 cI cJ cC cZ cR) 64 ad A (ZX A kd sd vd kA lA wA) := ⟨B.exec, B.bytes, hml, findClass_of_methodNamed B.named, fun w hw => atoms_spec B.pre w (List.mem_cons_of_mem _ hw), B.notSynchronized, hK, hD, hZs⟩
  have hL := lv_entry ([.long v0, .int v2]) (n := 3) (Nat.le_of_ble_eq_true rfl)
  rw [lg_entry_eq]
  generalize (lg_sl ([.long v0, .int v2]) ++ List.replicate (3 - (lg_sl ([.long v0, .int v2])).length) Slot.unset).toArray = ls at hL ⊢
  have hL : lv_has ls 3 [(0, .long v0), (2, .int v2)] := hL
  unfold wpC_has at h
  exact bC_has_0 K B.returns hZ h (lv_sub hL [0, 1] rfl) hP va_S.rf
set_option maxRecDepth 100000 in
set_option maxHeartbeats 4000000 in
theorem bB_addInput_74 {p : Program} {l : Launch} {e : Env} {s : State} {m : MethodId} {args : Array Value} {below : List Frame} {meth : Method} {c : Code} {D : va_G} {cI cJ cC cZ cR : ClassId} {ad kd sd vd : Nat → Nat} {kA lA wA : Nat} {A : Nat → Prop} (K : Cx p (rmX 2 40) s m args meth c cB_addInput 4 "WordChecker$Book" gT D cls8 (tys5 cI cJ cC cZ cR) 64 ad A (ZX A kd sd vd kA lA wA)) (hr : meth.sig.returnType = none) (hZ : ZsOK A (ZX A kd sd vd kA lA wA)) {Φ : HI → HL → Prop} {k26 : Nat → Int32 → HI → HL → Prop} (hk26 : ∀ (v1 : Nat) (v2 : Int32) (hi : HI) (hl : HL) (ls : Array Slot) (H : Heap) (locs : List Loc), k26 v1 v2 hi hl → v1 < 20 → lv_has ls 4 [(1, .ref (ad (24 + v1))), (2, .int v2)] → va_P D cls8 (wl 64 ad (GX cI cJ cC cZ cR ad kd) hi hl) H → va_S A s.heap H locs → W p l e (rmX 2 40) s m args below meth c H locs 0 0 (MQ below (va_Qv (fun (u : HI × HL) => Φ u.1 u.2) (fun u t => va_P D cls8 (wl 64 ad (GX cI cJ cC cZ cR ad kd) u.1 u.2) t.heap) A) args s 0 0 A) (F0 m 26 ls [])) {k39 : Nat → Int32 → Int32 → HI → HL → Prop} (hk39 : ∀ (v1 : Nat) (v2 : Int32) (v3 : Int32) (hi : HI) (hl : HL) (ls : Array Slot) (H : Heap) (locs : List Loc), k39 v1 v2 v3 hi hl → v1 < 20 → lv_has ls 4 [(1, .ref (ad (24 + v1))), (2, .int v2), (3, .int v3)] → va_P D cls8 (wl 64 ad (GX cI cJ cC cZ cR ad kd) hi hl) H → va_S A s.heap H locs → W p l e (rmX 2 40) s m args below meth c H locs 0 0 (MQ below (va_Qv (fun (u : HI × HL) => Φ u.1 u.2) (fun u t => va_P D cls8 (wl 64 ad (GX cI cJ cC cZ cR ad kd) u.1 u.2) t.heap) A) args s 0 0 A) (F0 m 39 ls [])) {v1 : Nat} {v2 : Int32} {v3 : Int32} {q0 : Nat} {q1 : Int32} {q2 : Int64} {hi : HI} {hl : HL} {H : Heap} {locs : List Loc} (h : wbB_addInput_74 k26 k39 v1 v2 v3 q0 q1 q2 hi hl Φ) (hv1 : v1 < 20) (hq0 : q0 < 20) {ls : Array Slot} (hL : lv_has ls 4 [(1, .ref (ad (24 + v1))), (2, .int v2), (3, .int v3)]) (hP : va_P D cls8 (wl 64 ad (GX cI cJ cC cZ cR ad kd) hi hl) H) (hS : va_S A s.heap H locs) : W p l e (rmX 2 40) s m args below meth c H locs 0 0 (MQ below (va_Qv (fun (u : HI × HL) => Φ u.1 u.2) (fun u t => va_P D cls8 (wl 64 ad (GX cI cJ cC cZ cR ad kd) u.1 u.2) t.heap) A) args s 0 0 A) (F0 m 74 ls [.long q2, .int q1, .ref (ad (44 + q0))]) := by
  unfold wbB_addInput_74 at h
  obtain ⟨g1, h⟩ := h
  refine x_last K hP hS (44 + q0) (lt_l2 hq0) 1 (fun _ => (GX_wires _ hq0 _ _)) rfl g1 dB_addInput_74 (fun H locs hP hS => ?_)
  refine lv_iinc (k := 2) (lv' := [(3, .int (v3 + Int32.ofInt (1))), (1, .ref (ad (24 + v1))), (2, .int v2)]) K.1 K.2.1 dB_addInput_75 hL rfl rfl (by decide) rfl (fun ls hL => ?_)
  refine lv_goto (tgt := 39) K.1 K.2.1 dB_addInput_78 rfl ?_
  exact hk39 _ _ _ _ _ _ _ _ h hv1 (lv_sub hL [1, 2, 0] rfl) hP hS
set_option maxRecDepth 100000 in
set_option maxHeartbeats 4000000 in
theorem bB_addInput_39 {p : Program} {l : Launch} {e : Env} {s : State} {m : MethodId} {args : Array Value} {below : List Frame} {meth : Method} {c : Code} {D : va_G} {cI cJ cC cZ cR : ClassId} {ad kd sd vd : Nat → Nat} {kA lA wA : Nat} {A : Nat → Prop} (K : Cx p (rmX 2 40) s m args meth c cB_addInput 4 "WordChecker$Book" gT D cls8 (tys5 cI cJ cC cZ cR) 64 ad A (ZX A kd sd vd kA lA wA)) (hr : meth.sig.returnType = none) (hZ : ZsOK A (ZX A kd sd vd kA lA wA)) {Φ : HI → HL → Prop} {k26 : Nat → Int32 → HI → HL → Prop} (hk26 : ∀ (v1 : Nat) (v2 : Int32) (hi : HI) (hl : HL) (ls : Array Slot) (H : Heap) (locs : List Loc), k26 v1 v2 hi hl → v1 < 20 → lv_has ls 4 [(1, .ref (ad (24 + v1))), (2, .int v2)] → va_P D cls8 (wl 64 ad (GX cI cJ cC cZ cR ad kd) hi hl) H → va_S A s.heap H locs → W p l e (rmX 2 40) s m args below meth c H locs 0 0 (MQ below (va_Qv (fun (u : HI × HL) => Φ u.1 u.2) (fun u t => va_P D cls8 (wl 64 ad (GX cI cJ cC cZ cR ad kd) u.1 u.2) t.heap) A) args s 0 0 A) (F0 m 26 ls [])) {n : Nat} {v1 : Nat} {v2 : Int32} {v3 : Int32} {hi : HI} {hl : HL} {H : Heap} {locs : List Loc} (h : wbB_addInput_39 k26 n v1 v2 v3 hi hl Φ) (hv1 : v1 < 20) {ls : Array Slot} (hL : lv_has ls 4 [(1, .ref (ad (24 + v1))), (2, .int v2), (3, .int v3)]) (hP : va_P D cls8 (wl 64 ad (GX cI cJ cC cZ cR ad kd) hi hl) H) (hS : va_S A s.heap H locs) : W p l e (rmX 2 40) s m args below meth c H locs 0 0 (MQ below (va_Qv (fun (u : HI × HL) => Φ u.1 u.2) (fun u t => va_P D cls8 (wl 64 ad (GX cI cJ cC cZ cR ad kd) u.1 u.2) t.heap) A) args s 0 0 A) (F0 m 39 ls []) := by
  induction n generalizing v1 v2 v3 hi hl ls H locs with
  | zero => exact False.elim h
  | succ n ih =>
    unfold wbB_addInput_39 at h
    refine lv_iload_n K.1 K.2.1 dB_addInput_39 rfl (lv_at hL 2 rfl) ?_
    refine lv_iconst (v := 4) K.1 K.2.1 dB_addInput_40 (by decide) ?_
    refine lv_icmp_ge (tgt := 81) K.1 K.2.1 dB_addInput_41 rfl (fun hc => ?_) (fun hc => ?_)
    · have h := h.1 hc
      refine lv_iinc (k := 1) (lv' := [(2, .int (v2 + Int32.ofInt (1))), (1, .ref (ad (24 + v1))), (3, .int v3)]) K.1 K.2.1 dB_addInput_81 hL rfl rfl (by decide) rfl (fun ls hL => ?_)
      refine lv_goto (tgt := 26) K.1 K.2.1 dB_addInput_84 rfl ?_
      exact hk26 _ _ _ _ _ _ _ h hv1 (lv_sub hL [1, 0] rfl) hP hS
    · have h := h.2 hc
      refine lv_aload_n K.1 K.2.1 dB_addInput_44 rfl (lv_at hL 0 rfl) ?_
      refine x_getN (v := .ref (ad (44 + v1))) K hP hinL (ci := 6) rfl (24 + v1) (lt_l hv1) (GX_line _ hv1 _ _) 7 (by decide) (fnB_135 K.2.2.2.2.2.2.2.2) rfl rfl dB_addInput_45 ?_
      refine lv_iload_n K.1 K.2.1 dB_addInput_48 rfl (lv_at hL 1 rfl) ?_
      refine lv_iconst (v := 4) K.1 K.2.1 dB_addInput_49 (by decide) ?_
      refine lv_imul K.1 K.2.1 dB_addInput_50 ?_
      refine lv_iload_n K.1 K.2.1 dB_addInput_51 rfl (lv_at hL 2 rfl) ?_
      refine lv_iadd K.1 K.2.1 dB_addInput_52 ?_
      refine lv_iload_n K.1 K.2.1 dB_addInput_53 rfl (lv_at hL 2 rfl) ?_
      refine lv_i2l K.1 K.2.1 dB_addInput_54 rfl ?_
      refine lv_aload_n K.1 K.2.1 dB_addInput_55 rfl (lv_at hL 0 rfl) ?_
      refine x_getN (v := .int (hi (24 + v1) 4)) K hP hinL (ci := 6) rfl (24 + v1) (lt_l hv1) (GX_line _ hv1 _ _) 4 (by decide) (fnB_129 K.2.2.2.2.2.2.2.2) rfl rfl dB_addInput_56 ?_
      refine lv_iload_n K.1 K.2.1 dB_addInput_59 rfl (lv_at hL 1 rfl) ?_
      refine lv_iadd K.1 K.2.1 dB_addInput_60 ?_
      refine x_cSNI (As := [.long v3.toInt64, .int ((hi (24 + v1) 4) + v2)]) (rest := [.int ((v2 * (4 : Int32)) + v3), .ref (ad (44 + v1))]) K gT_good hZ hP hS calC_has (mnB_138 K.2.2.2.2.2.2.2.2) (mC_has hZ K.2.2.2.2.2.2.2.1 h) ⟨Nat.le_of_ble_eq_true rfl, Nat.le_of_ble_eq_true rfl⟩ rfl hL.1 rfl (Nat.le_of_ble_eq_true rfl) dB_addInput_61 (fun r1 hi2 hl3 H locs h hP hS => ?_)
      refine lv_if_eq (tgt := 73) K.1 K.2.1 dB_addInput_64 rfl (fun hc => ?_) (fun hc => ?_)
      · have h := h.1 hc
        refine lv_lconst (v := 0) K.1 K.2.1 dB_addInput_73 (by decide) ?_
        exact bB_addInput_74 K hr hZ hk26 (fun v1 v2 v3 hi hl ls H locs h f0 hL hP hS => ih h f0 hL hP hS) h hv1 hv1 (lv_sub hL [0, 1, 2] rfl) hP hS
      · have h := h.2 hc
        refine lv_ldc2 (v := -1) K.1 K.2.1 K.2.2.2.1 (K.2.2.2.2.1 _ clB_35) dB_addInput_67 ?_
        refine lv_goto (tgt := 74) K.1 K.2.1 dB_addInput_70 rfl ?_
        exact bB_addInput_74 K hr hZ hk26 (fun v1 v2 v3 hi hl ls H locs h f0 hL hP hS => ih h f0 hL hP hS) h hv1 hv1 (lv_sub hL [0, 1, 2] rfl) hP hS
set_option maxRecDepth 100000 in
set_option maxHeartbeats 4000000 in
theorem bB_addInput_26 {p : Program} {l : Launch} {e : Env} {s : State} {m : MethodId} {args : Array Value} {below : List Frame} {meth : Method} {c : Code} {D : va_G} {cI cJ cC cZ cR : ClassId} {ad kd sd vd : Nat → Nat} {kA lA wA : Nat} {A : Nat → Prop} (K : Cx p (rmX 2 40) s m args meth c cB_addInput 4 "WordChecker$Book" gT D cls8 (tys5 cI cJ cC cZ cR) 64 ad A (ZX A kd sd vd kA lA wA)) (hr : meth.sig.returnType = none) (hZ : ZsOK A (ZX A kd sd vd kA lA wA)) {Φ : HI → HL → Prop} {n : Nat} {v1 : Nat} {v2 : Int32} {hi : HI} {hl : HL} {H : Heap} {locs : List Loc} (h : wbB_addInput_26 n v1 v2 hi hl Φ) (hv1 : v1 < 20) {ls : Array Slot} (hL : lv_has ls 4 [(1, .ref (ad (24 + v1))), (2, .int v2)]) (hP : va_P D cls8 (wl 64 ad (GX cI cJ cC cZ cR ad kd) hi hl) H) (hS : va_S A s.heap H locs) : W p l e (rmX 2 40) s m args below meth c H locs 0 0 (MQ below (va_Qv (fun (u : HI × HL) => Φ u.1 u.2) (fun u t => va_P D cls8 (wl 64 ad (GX cI cJ cC cZ cR ad kd) u.1 u.2) t.heap) A) args s 0 0 A) (F0 m 26 ls []) := by
  induction n generalizing v1 v2 hi hl ls H locs with
  | zero => exact False.elim h
  | succ n ih =>
    unfold wbB_addInput_26 at h
    refine lv_iload_n K.1 K.2.1 dB_addInput_26 rfl (lv_at hL 1 rfl) ?_
    refine lv_aload_n K.1 K.2.1 dB_addInput_27 rfl (lv_at hL 0 rfl) ?_
    refine x_getN (v := .int (hi (24 + v1) 2)) K hP hinL (ci := 6) rfl (24 + v1) (lt_l hv1) (GX_line _ hv1 _ _) 2 (by decide) (fnB_61 K.2.2.2.2.2.2.2.2) rfl rfl dB_addInput_28 ?_
    refine x_cSNI (As := [.int (hi (24 + v1) 2)]) (rest := [.int v2]) K gT_good hZ hP hS calC_bitsOf (mnB_132 K.2.2.2.2.2.2.2.2) (mC_bitsOf hZ K.2.2.2.2.2.2.2.1 h) ⟨Nat.le_of_ble_eq_true rfl, Nat.le_of_ble_eq_true rfl⟩ rfl hL.1 rfl (Nat.le_of_ble_eq_true rfl) dB_addInput_31 (fun r1 hi2 hl3 H locs h hP hS => ?_)
    refine lv_icmp_ge (tgt := 87) K.1 K.2.1 dB_addInput_34 rfl (fun hc => ?_) (fun hc => ?_)
    · have h := h.1 hc
      exact x_vret K hr hP hS h dB_addInput_87
    · have h := h.2 hc
      refine lv_iconst (v := 0) K.1 K.2.1 dB_addInput_37 (by decide) ?_
      refine lv_istore_n (lv' := [(3, .int (0 : Int32)), (1, .ref (ad (24 + v1))), (2, .int v2)]) K.1 K.2.1 dB_addInput_38 rfl hL (by decide) rfl (fun ls hL => ?_)
      obtain ⟨fu, h⟩ := h
      exact bB_addInput_39 K hr hZ (fun v1 v2 hi hl ls H locs h f0 hL hP hS => ih h f0 hL hP hS) h hv1 (lv_sub hL [1, 2, 0] rfl) hP hS
set_option maxRecDepth 100000 in
set_option maxHeartbeats 4000000 in
theorem bB_addInput_0 {p : Program} {l : Launch} {e : Env} {s : State} {m : MethodId} {args : Array Value} {below : List Frame} {meth : Method} {c : Code} {D : va_G} {cI cJ cC cZ cR : ClassId} {ad kd sd vd : Nat → Nat} {kA lA wA : Nat} {A : Nat → Prop} (K : Cx p (rmX 2 40) s m args meth c cB_addInput 4 "WordChecker$Book" gT D cls8 (tys5 cI cJ cC cZ cR) 64 ad A (ZX A kd sd vd kA lA wA)) (hr : meth.sig.returnType = none) (hZ : ZsOK A (ZX A kd sd vd kA lA wA)) {Φ : HI → HL → Prop} {v1 : Nat} {hi : HI} {hl : HL} {H : Heap} {locs : List Loc} (h : wbB_addInput_0 v1 hi hl Φ) (hv1 : v1 < 20) {ls : Array Slot} (hL : lv_has ls 4 [(0, .ref (ad 5)), (1, .ref (ad (24 + v1)))]) (hP : va_P D cls8 (wl 64 ad (GX cI cJ cC cZ cR ad kd) hi hl) H) (hS : va_S A s.heap H locs) : W p l e (rmX 2 40) s m args below meth c H locs 0 0 (MQ below (va_Qv (fun (u : HI × HL) => Φ u.1 u.2) (fun u t => va_P D cls8 (wl 64 ad (GX cI cJ cC cZ cR ad kd) u.1 u.2) t.heap) A) args s 0 0 A) (F0 m 0 ls []) := by
  unfold wbB_addInput_0 at h
  refine lv_aload_n K.1 K.2.1 dB_addInput_0 rfl (lv_at hL 1 rfl) ?_
  refine lv_aload_n K.1 K.2.1 dB_addInput_1 rfl (lv_at hL 0 rfl) ?_
  refine x_get (v := .int (hi 5 3)) K hP hinB (ci := 2) rfl 5 (by decide) rfl 3 (by decide) flB_126 rfl rfl dB_addInput_2 ?_
  refine x_putN (v := .int (hi 5 3)) K hP hS hinL tyL tyL_ok nmL (ci := 6) rfl (24 + v1) (lt_l hv1) (GX_line _ hv1 _ _) 4 (by decide) (fnB_129 K.2.2.2.2.2.2.2.2) rfl rfl (hi 5 3) ((GX_line _ hv1 _ _).trans rfl) rfl rfl (Nat.le_of_ble_eq_true rfl) dB_addInput_5 (fun H locs hP hS => ?_)
  refine lv_aload_n K.1 K.2.1 dB_addInput_8 rfl (lv_at hL 0 rfl) ?_
  refine lv_dup K.1 K.2.1 dB_addInput_9 rfl ?_
  refine x_get (v := .int ((u2 hi (24 + v1) 4 (hi 5 3)) 5 3)) K hP hinB (ci := 2) rfl 5 (by decide) rfl 3 (by decide) flB_126 rfl rfl dB_addInput_10 ?_
  refine lv_aload_n K.1 K.2.1 dB_addInput_13 rfl (lv_at hL 1 rfl) ?_
  refine x_getN (v := .int ((u2 hi (24 + v1) 4 (hi 5 3)) (24 + v1) 2)) K hP hinL (ci := 6) rfl (24 + v1) (lt_l hv1) (GX_line _ hv1 _ _) 2 (by decide) (fnB_61 K.2.2.2.2.2.2.2.2) rfl rfl dB_addInput_14 ?_
  refine x_cSNI (As := [.int ((u2 hi (24 + v1) 4 (hi 5 3)) (24 + v1) 2)]) (rest := [.int ((u2 hi (24 + v1) 4 (hi 5 3)) 5 3), .ref (ad 5)]) K gT_good hZ hP hS calC_bitsOf (mnB_132 K.2.2.2.2.2.2.2.2) (mC_bitsOf hZ K.2.2.2.2.2.2.2.1 h) ⟨Nat.le_of_ble_eq_true rfl, Nat.le_of_ble_eq_true rfl⟩ rfl hL.1 rfl (Nat.le_of_ble_eq_true rfl) dB_addInput_17 (fun r1 hi2 hl3 H locs h hP hS => ?_)
  refine lv_iadd K.1 K.2.1 dB_addInput_20 ?_
  refine x_put (v := .int (((u2 hi (24 + v1) 4 (hi 5 3)) 5 3) + r1)) K hP hS hinB tyB tyB_ok nmB (ci := 2) rfl 5 (by decide) rfl 3 (by decide) flB_126 rfl rfl (((u2 hi (24 + v1) 4 (hi 5 3)) 5 3) + r1) rfl rfl rfl (Nat.le_of_ble_eq_true rfl) dB_addInput_21 (fun H locs hP hS => ?_)
  refine lv_iconst (v := 0) K.1 K.2.1 dB_addInput_24 (by decide) ?_
  refine lv_istore_n (lv' := [(2, .int (0 : Int32)), (0, .ref (ad 5)), (1, .ref (ad (24 + v1)))]) K.1 K.2.1 dB_addInput_25 rfl hL (by decide) rfl (fun ls hL => ?_)
  obtain ⟨fu, h⟩ := h
  exact bB_addInput_26 K hr hZ h hv1 (lv_sub hL [2, 0] rfl) hP hS
set_option maxRecDepth 100000 in
set_option maxHeartbeats 4000000 in
theorem mB_addInput {l : Launch} {D : va_G} {cI cJ cC cZ cR : ClassId} {ad kd sd vd : Nat → Nat} {kA lA wA : Nat} {A : Nat → Prop} (hZ : ZsOK A (ZX A kd sd vd kA lA wA)) (hD : wlD 64 ad A) {v1 : Nat} (hv1 : v1 < 20) {hi : HI} {hl : HL} {Φ : HI → HL → Prop} (h : wpB_addInput v1 hi hl Φ) : SpV l yB_addInput cB_addInput 4 none gT 2 40 [.ref (ad 5), .ref (ad (24 + v1))] D cls8 (tys5 cI cJ cC cZ cR) 64 ad (GX cI cJ cC cZ cR ad kd) A (ZX A kd sd vd kA lA wA) hi hl Φ := by
  refine Met.ofW (cc := cB_addInput) (maxL := 4) (ret := none) (by decide) rfl ?_
  intro p e s m args below meth c s₁ B hml hv
  obtain ⟨rfl, hP, hK, hZs⟩ := hv
  have K : Cx p (rmX 2 40) s m _ meth c cB_addInput 4 "WordChecker$Book" gT D cls8 (tys5 cI cJ cC cZ cR) 64 ad A (ZX A kd sd vd kA lA wA) := ⟨B.exec, B.bytes, hml, findClass_of_methodNamed B.named, fun w hw => atoms_spec B.pre w (List.mem_cons_of_mem _ hw), B.notSynchronized, hK, hD, hZs⟩
  have hL := lv_entry ([.ref (ad 5), .ref (ad (24 + v1))]) (n := 4) (Nat.le_of_ble_eq_true rfl)
  rw [lg_entry_eq]
  generalize (lg_sl ([.ref (ad 5), .ref (ad (24 + v1))]) ++ List.replicate (4 - (lg_sl ([.ref (ad 5), .ref (ad (24 + v1))])).length) Slot.unset).toArray = ls at hL ⊢
  have hL : lv_has ls 4 [(0, .ref (ad 5)), (1, .ref (ad (24 + v1)))] := hL
  unfold wpB_addInput at h
  exact bB_addInput_0 K B.returns hZ h hv1 (lv_sub hL [0, 1] rfl) hP va_S.rf
set_option maxRecDepth 100000 in
set_option maxHeartbeats 4000000 in
theorem bB_addState_39 {p : Program} {l : Launch} {e : Env} {s : State} {m : MethodId} {args : Array Value} {below : List Frame} {meth : Method} {c : Code} {D : va_G} {cI cJ cC cZ cR : ClassId} {ad kd sd vd : Nat → Nat} {kA lA wA : Nat} {A : Nat → Prop} (K : Cx p (rmX 2 40) s m args meth c cB_addState 4 "WordChecker$Book" gT D cls8 (tys5 cI cJ cC cZ cR) 64 ad A (ZX A kd sd vd kA lA wA)) (hr : meth.sig.returnType = none) (hZ : ZsOK A (ZX A kd sd vd kA lA wA)) {Φ : HI → HL → Prop} {k26 : Nat → Int32 → HI → HL → Prop} (hk26 : ∀ (v1 : Nat) (v2 : Int32) (hi : HI) (hl : HL) (ls : Array Slot) (H : Heap) (locs : List Loc), k26 v1 v2 hi hl → v1 < 20 → lv_has ls 4 [(0, .ref (ad 5)), (1, .ref (ad (24 + v1))), (2, .int v2)] → va_P D cls8 (wl 64 ad (GX cI cJ cC cZ cR ad kd) hi hl) H → va_S A s.heap H locs → W p l e (rmX 2 40) s m args below meth c H locs 0 0 (MQ below (va_Qv (fun (u : HI × HL) => Φ u.1 u.2) (fun u t => va_P D cls8 (wl 64 ad (GX cI cJ cC cZ cR ad kd) u.1 u.2) t.heap) A) args s 0 0 A) (F0 m 26 ls [])) {n : Nat} {v1 : Nat} {v2 : Int32} {v3 : Int32} {hi : HI} {hl : HL} {H : Heap} {locs : List Loc} (h : wbB_addState_39 k26 n v1 v2 v3 hi hl Φ) (hv1 : v1 < 20) {ls : Array Slot} (hL : lv_has ls 4 [(0, .ref (ad 5)), (1, .ref (ad (24 + v1))), (2, .int v2), (3, .int v3)]) (hP : va_P D cls8 (wl 64 ad (GX cI cJ cC cZ cR ad kd) hi hl) H) (hS : va_S A s.heap H locs) : W p l e (rmX 2 40) s m args below meth c H locs 0 0 (MQ below (va_Qv (fun (u : HI × HL) => Φ u.1 u.2) (fun u t => va_P D cls8 (wl 64 ad (GX cI cJ cC cZ cR ad kd) u.1 u.2) t.heap) A) args s 0 0 A) (F0 m 39 ls []) := by
  induction n generalizing v1 v2 v3 hi hl ls H locs with
  | zero => exact False.elim h
  | succ n ih =>
    unfold wbB_addState_39 at h
    refine lv_iload_n K.1 K.2.1 dB_addState_39 rfl (lv_at hL 3 rfl) ?_
    refine lv_iconst (v := 4) K.1 K.2.1 dB_addState_40 (by decide) ?_
    refine lv_icmp_ge (tgt := 95) K.1 K.2.1 dB_addState_41 rfl (fun hc => ?_) (fun hc => ?_)
    · have h := h.1 hc
      refine lv_iinc (k := 2) (lv' := [(2, .int (v2 + Int32.ofInt (1))), (0, .ref (ad 5)), (1, .ref (ad (24 + v1))), (3, .int v3)]) K.1 K.2.1 dB_addState_95 hL rfl rfl (by decide) rfl (fun ls hL => ?_)
      refine lv_goto (tgt := 26) K.1 K.2.1 dB_addState_98 rfl ?_
      exact hk26 _ _ _ _ _ _ _ h hv1 (lv_sub hL [1, 2, 0] rfl) hP hS
    · have h := h.2 hc
      refine lv_aload_n K.1 K.2.1 dB_addState_44 rfl (lv_at hL 1 rfl) ?_
      refine x_getN (v := .ref (ad (44 + v1))) K hP hinL (ci := 6) rfl (24 + v1) (lt_l hv1) (GX_line _ hv1 _ _) 7 (by decide) (fnB_135 K.2.2.2.2.2.2.2.2) rfl rfl dB_addState_45 ?_
      refine lv_iload_n K.1 K.2.1 dB_addState_48 rfl (lv_at hL 2 rfl) ?_
      refine lv_iconst (v := 4) K.1 K.2.1 dB_addState_49 (by decide) ?_
      refine lv_imul K.1 K.2.1 dB_addState_50 ?_
      refine lv_iload_n K.1 K.2.1 dB_addState_51 rfl (lv_at hL 3 rfl) ?_
      refine lv_iadd K.1 K.2.1 dB_addState_52 ?_
      refine x_getsN (v := .ref lA) K hS K.2.2.2.2.2.2.2.2.2.1.2.2.1 (fnB_145 K.2.2.2.2.2.2.2.2) dB_addState_53 ?_
      refine lv_aload_n K.1 K.2.1 dB_addState_56 rfl (lv_at hL 1 rfl) ?_
      refine x_getN (v := .int (hi (24 + v1) 4)) K hP hinL (ci := 6) rfl (24 + v1) (lt_l hv1) (GX_line _ hv1 _ _) 4 (by decide) (fnB_129 K.2.2.2.2.2.2.2.2) rfl rfl dB_addState_57 ?_
      refine lv_iload_n K.1 K.2.1 dB_addState_60 rfl (lv_at hL 2 rfl) ?_
      refine lv_iadd K.1 K.2.1 dB_addState_61 ?_
      obtain ⟨g1, h⟩ := h
      refine va_tl (v := .long (lanesC (((hi (24 + v1) 4) + v2).toNatClampNeg))) K.1 K.2.1 K.2.2.2.2.2.2.2.2.2.1.2.2.2.1 hS g1 rfl dB_addState_62 ?_
      obtain ⟨g2, h⟩ := h
      refine x_last K hP hS (44 + v1) (lt_l2 hv1) 1 (fun _ => (GX_wires _ hv1 _ _)) rfl g2 dB_addState_63 (fun H locs hP hS => ?_)
      refine lv_aload_n K.1 K.2.1 dB_addState_64 rfl (lv_at hL 0 rfl) ?_
      refine x_get (v := .ref (ad 7)) K hP hinB (ci := 2) rfl 5 (by decide) rfl 6 (by decide) flB_24 rfl rfl dB_addState_65 ?_
      refine lv_aload_n K.1 K.2.1 dB_addState_68 rfl (lv_at hL 1 rfl) ?_
      refine x_getN (v := .int (hi (24 + v1) 4)) K hP hinL (ci := 6) rfl (24 + v1) (lt_l hv1) (GX_line _ hv1 _ _) 4 (by decide) (fnB_129 K.2.2.2.2.2.2.2.2) rfl rfl dB_addState_69 ?_
      refine lv_iload_n K.1 K.2.1 dB_addState_72 rfl (lv_at hL 2 rfl) ?_
      refine lv_iadd K.1 K.2.1 dB_addState_73 ?_
      refine lv_iconst (v := 4) K.1 K.2.1 dB_addState_74 (by decide) ?_
      refine lv_imul K.1 K.2.1 dB_addState_75 ?_
      refine lv_iload_n K.1 K.2.1 dB_addState_76 rfl (lv_at hL 3 rfl) ?_
      refine lv_iadd K.1 K.2.1 dB_addState_77 ?_
      refine x_getsN (v := .ref lA) K hS K.2.2.2.2.2.2.2.2.2.1.2.2.1 (fnB_145 K.2.2.2.2.2.2.2.2) dB_addState_78 ?_
      refine lv_aload_n K.1 K.2.1 dB_addState_81 rfl (lv_at hL 1 rfl) ?_
      refine x_getN (v := .int (hi (24 + v1) 4)) K hP hinL (ci := 6) rfl (24 + v1) (lt_l hv1) (GX_line _ hv1 _ _) 4 (by decide) (fnB_129 K.2.2.2.2.2.2.2.2) rfl rfl dB_addState_82 ?_
      refine lv_iload_n K.1 K.2.1 dB_addState_85 rfl (lv_at hL 2 rfl) ?_
      refine lv_iadd K.1 K.2.1 dB_addState_86 ?_
      obtain ⟨g3, h⟩ := h
      refine va_tl (v := .long (lanesC (((hi (24 + v1) 4) + v2).toNatClampNeg))) K.1 K.2.1 K.2.2.2.2.2.2.2.2.2.1.2.2.2.1 hS g3 rfl dB_addState_87 ?_
      obtain ⟨g4, h⟩ := h
      refine x_last K hP hS 7 (by decide) 1 (fun _ => rfl) rfl g4 dB_addState_88 (fun H locs hP hS => ?_)
      refine lv_iinc (k := 3) (lv' := [(3, .int (v3 + Int32.ofInt (1))), (0, .ref (ad 5)), (1, .ref (ad (24 + v1))), (2, .int v2)]) K.1 K.2.1 dB_addState_89 hL rfl rfl (by decide) rfl (fun ls hL => ?_)
      refine lv_goto (tgt := 39) K.1 K.2.1 dB_addState_92 rfl ?_
      exact ih h hv1 (lv_sub hL [1, 2, 3, 0] rfl) hP hS
set_option maxRecDepth 100000 in
set_option maxHeartbeats 4000000 in
theorem bB_addState_26 {p : Program} {l : Launch} {e : Env} {s : State} {m : MethodId} {args : Array Value} {below : List Frame} {meth : Method} {c : Code} {D : va_G} {cI cJ cC cZ cR : ClassId} {ad kd sd vd : Nat → Nat} {kA lA wA : Nat} {A : Nat → Prop} (K : Cx p (rmX 2 40) s m args meth c cB_addState 4 "WordChecker$Book" gT D cls8 (tys5 cI cJ cC cZ cR) 64 ad A (ZX A kd sd vd kA lA wA)) (hr : meth.sig.returnType = none) (hZ : ZsOK A (ZX A kd sd vd kA lA wA)) {Φ : HI → HL → Prop} {n : Nat} {v1 : Nat} {v2 : Int32} {hi : HI} {hl : HL} {H : Heap} {locs : List Loc} (h : wbB_addState_26 n v1 v2 hi hl Φ) (hv1 : v1 < 20) {ls : Array Slot} (hL : lv_has ls 4 [(0, .ref (ad 5)), (1, .ref (ad (24 + v1))), (2, .int v2)]) (hP : va_P D cls8 (wl 64 ad (GX cI cJ cC cZ cR ad kd) hi hl) H) (hS : va_S A s.heap H locs) : W p l e (rmX 2 40) s m args below meth c H locs 0 0 (MQ below (va_Qv (fun (u : HI × HL) => Φ u.1 u.2) (fun u t => va_P D cls8 (wl 64 ad (GX cI cJ cC cZ cR ad kd) u.1 u.2) t.heap) A) args s 0 0 A) (F0 m 26 ls []) := by
  induction n generalizing v1 v2 hi hl ls H locs with
  | zero => exact False.elim h
  | succ n ih =>
    unfold wbB_addState_26 at h
    refine lv_iload_n K.1 K.2.1 dB_addState_26 rfl (lv_at hL 2 rfl) ?_
    refine lv_aload_n K.1 K.2.1 dB_addState_27 rfl (lv_at hL 1 rfl) ?_
    refine x_getN (v := .int (hi (24 + v1) 2)) K hP hinL (ci := 6) rfl (24 + v1) (lt_l hv1) (GX_line _ hv1 _ _) 2 (by decide) (fnB_61 K.2.2.2.2.2.2.2.2) rfl rfl dB_addState_28 ?_
    refine x_cSNI (As := [.int (hi (24 + v1) 2)]) (rest := [.int v2]) K gT_good hZ hP hS calC_bitsOf (mnB_132 K.2.2.2.2.2.2.2.2) (mC_bitsOf hZ K.2.2.2.2.2.2.2.1 h) ⟨Nat.le_of_ble_eq_true rfl, Nat.le_of_ble_eq_true rfl⟩ rfl hL.1 rfl (Nat.le_of_ble_eq_true rfl) dB_addState_31 (fun r1 hi2 hl3 H locs h hP hS => ?_)
    refine lv_icmp_ge (tgt := 101) K.1 K.2.1 dB_addState_34 rfl (fun hc => ?_) (fun hc => ?_)
    · have h := h.1 hc
      exact x_vret K hr hP hS h dB_addState_101
    · have h := h.2 hc
      refine lv_iconst (v := 0) K.1 K.2.1 dB_addState_37 (by decide) ?_
      refine lv_istore_n (lv' := [(3, .int (0 : Int32)), (0, .ref (ad 5)), (1, .ref (ad (24 + v1))), (2, .int v2)]) K.1 K.2.1 dB_addState_38 rfl hL (by decide) rfl (fun ls hL => ?_)
      obtain ⟨fu, h⟩ := h
      exact bB_addState_39 K hr hZ (fun v1 v2 hi hl ls H locs h f0 hL hP hS => ih h f0 hL hP hS) h hv1 (lv_sub hL [1, 2, 3, 0] rfl) hP hS
set_option maxRecDepth 100000 in
set_option maxHeartbeats 4000000 in
theorem bB_addState_0 {p : Program} {l : Launch} {e : Env} {s : State} {m : MethodId} {args : Array Value} {below : List Frame} {meth : Method} {c : Code} {D : va_G} {cI cJ cC cZ cR : ClassId} {ad kd sd vd : Nat → Nat} {kA lA wA : Nat} {A : Nat → Prop} (K : Cx p (rmX 2 40) s m args meth c cB_addState 4 "WordChecker$Book" gT D cls8 (tys5 cI cJ cC cZ cR) 64 ad A (ZX A kd sd vd kA lA wA)) (hr : meth.sig.returnType = none) (hZ : ZsOK A (ZX A kd sd vd kA lA wA)) {Φ : HI → HL → Prop} {v1 : Nat} {hi : HI} {hl : HL} {H : Heap} {locs : List Loc} (h : wbB_addState_0 v1 hi hl Φ) (hv1 : v1 < 20) {ls : Array Slot} (hL : lv_has ls 4 [(0, .ref (ad 5)), (1, .ref (ad (24 + v1)))]) (hP : va_P D cls8 (wl 64 ad (GX cI cJ cC cZ cR ad kd) hi hl) H) (hS : va_S A s.heap H locs) : W p l e (rmX 2 40) s m args below meth c H locs 0 0 (MQ below (va_Qv (fun (u : HI × HL) => Φ u.1 u.2) (fun u t => va_P D cls8 (wl 64 ad (GX cI cJ cC cZ cR ad kd) u.1 u.2) t.heap) A) args s 0 0 A) (F0 m 0 ls []) := by
  unfold wbB_addState_0 at h
  refine lv_aload_n K.1 K.2.1 dB_addState_0 rfl (lv_at hL 1 rfl) ?_
  refine lv_aload_n K.1 K.2.1 dB_addState_1 rfl (lv_at hL 0 rfl) ?_
  refine x_get (v := .int (hi 5 4)) K hP hinB (ci := 2) rfl 5 (by decide) rfl 4 (by decide) flB_142 rfl rfl dB_addState_2 ?_
  refine x_putN (v := .int (hi 5 4)) K hP hS hinL tyL tyL_ok nmL (ci := 6) rfl (24 + v1) (lt_l hv1) (GX_line _ hv1 _ _) 4 (by decide) (fnB_129 K.2.2.2.2.2.2.2.2) rfl rfl (hi 5 4) ((GX_line _ hv1 _ _).trans rfl) rfl rfl (Nat.le_of_ble_eq_true rfl) dB_addState_5 (fun H locs hP hS => ?_)
  refine lv_aload_n K.1 K.2.1 dB_addState_8 rfl (lv_at hL 0 rfl) ?_
  refine lv_dup K.1 K.2.1 dB_addState_9 rfl ?_
  refine x_get (v := .int ((u2 hi (24 + v1) 4 (hi 5 4)) 5 4)) K hP hinB (ci := 2) rfl 5 (by decide) rfl 4 (by decide) flB_142 rfl rfl dB_addState_10 ?_
  refine lv_aload_n K.1 K.2.1 dB_addState_13 rfl (lv_at hL 1 rfl) ?_
  refine x_getN (v := .int ((u2 hi (24 + v1) 4 (hi 5 4)) (24 + v1) 2)) K hP hinL (ci := 6) rfl (24 + v1) (lt_l hv1) (GX_line _ hv1 _ _) 2 (by decide) (fnB_61 K.2.2.2.2.2.2.2.2) rfl rfl dB_addState_14 ?_
  refine x_cSNI (As := [.int ((u2 hi (24 + v1) 4 (hi 5 4)) (24 + v1) 2)]) (rest := [.int ((u2 hi (24 + v1) 4 (hi 5 4)) 5 4), .ref (ad 5)]) K gT_good hZ hP hS calC_bitsOf (mnB_132 K.2.2.2.2.2.2.2.2) (mC_bitsOf hZ K.2.2.2.2.2.2.2.1 h) ⟨Nat.le_of_ble_eq_true rfl, Nat.le_of_ble_eq_true rfl⟩ rfl hL.1 rfl (Nat.le_of_ble_eq_true rfl) dB_addState_17 (fun r1 hi2 hl3 H locs h hP hS => ?_)
  refine lv_iadd K.1 K.2.1 dB_addState_20 ?_
  refine x_put (v := .int (((u2 hi (24 + v1) 4 (hi 5 4)) 5 4) + r1)) K hP hS hinB tyB tyB_ok nmB (ci := 2) rfl 5 (by decide) rfl 4 (by decide) flB_142 rfl rfl (((u2 hi (24 + v1) 4 (hi 5 4)) 5 4) + r1) rfl rfl rfl (Nat.le_of_ble_eq_true rfl) dB_addState_21 (fun H locs hP hS => ?_)
  refine lv_iconst (v := 0) K.1 K.2.1 dB_addState_24 (by decide) ?_
  refine lv_istore_n (lv' := [(2, .int (0 : Int32)), (0, .ref (ad 5)), (1, .ref (ad (24 + v1)))]) K.1 K.2.1 dB_addState_25 rfl hL (by decide) rfl (fun ls hL => ?_)
  obtain ⟨fu, h⟩ := h
  exact bB_addState_26 K hr hZ h hv1 (lv_sub hL [1, 2, 0] rfl) hP hS
set_option maxRecDepth 100000 in
set_option maxHeartbeats 4000000 in
theorem mB_addState {l : Launch} {D : va_G} {cI cJ cC cZ cR : ClassId} {ad kd sd vd : Nat → Nat} {kA lA wA : Nat} {A : Nat → Prop} (hZ : ZsOK A (ZX A kd sd vd kA lA wA)) (hD : wlD 64 ad A) {v1 : Nat} (hv1 : v1 < 20) {hi : HI} {hl : HL} {Φ : HI → HL → Prop} (h : wpB_addState v1 hi hl Φ) : SpV l yB_addState cB_addState 4 none gT 2 40 [.ref (ad 5), .ref (ad (24 + v1))] D cls8 (tys5 cI cJ cC cZ cR) 64 ad (GX cI cJ cC cZ cR ad kd) A (ZX A kd sd vd kA lA wA) hi hl Φ := by
  refine Met.ofW (cc := cB_addState) (maxL := 4) (ret := none) (by decide) rfl ?_
  intro p e s m args below meth c s₁ B hml hv
  obtain ⟨rfl, hP, hK, hZs⟩ := hv
  have K : Cx p (rmX 2 40) s m _ meth c cB_addState 4 "WordChecker$Book" gT D cls8 (tys5 cI cJ cC cZ cR) 64 ad A (ZX A kd sd vd kA lA wA) := ⟨B.exec, B.bytes, hml, findClass_of_methodNamed B.named, fun w hw => atoms_spec B.pre w (List.mem_cons_of_mem _ hw), B.notSynchronized, hK, hD, hZs⟩
  have hL := lv_entry ([.ref (ad 5), .ref (ad (24 + v1))]) (n := 4) (Nat.le_of_ble_eq_true rfl)
  rw [lg_entry_eq]
  generalize (lg_sl ([.ref (ad 5), .ref (ad (24 + v1))]) ++ List.replicate (4 - (lg_sl ([.ref (ad 5), .ref (ad (24 + v1))])).length) Slot.unset).toArray = ls at hL ⊢
  have hL : lv_has ls 4 [(0, .ref (ad 5)), (1, .ref (ad (24 + v1)))] := hL
  unfold wpB_addState at h
  exact bB_addState_0 K B.returns hZ h hv1 (lv_sub hL [0, 1] rfl) hP va_S.rf
set_option maxRecDepth 100000 in
set_option maxHeartbeats 4000000 in
theorem bB_allFixed_2 {p : Program} {l : Launch} {e : Env} {s : State} {m : MethodId} {args : Array Value} {below : List Frame} {meth : Method} {c : Code} {D : va_G} {cI cJ cC cZ cR : ClassId} {ad kd sd vd : Nat → Nat} {kA lA wA : Nat} {A : Nat → Prop} (K : Cx p (rmX 0 0) s m args meth c cB_allFixed 3 "WordChecker$Book" gT D cls8 (tys5 cI cJ cC cZ cR) 64 ad A (ZX A kd sd vd kA lA wA)) (hr : meth.sig.returnType = (some .boolean)) (hZ : ZsOK A (ZX A kd sd vd kA lA wA)) {Φ : Int32 → HI → HL → Prop} {n : Nat} {v2 : Int32} {hi : HI} {hl : HL} {H : Heap} {locs : List Loc} (h : wbB_allFixed_2 n v2 hi hl Φ) {ls : Array Slot} (hL : lv_has ls 3 [(0, .ref (ad 5)), (1, .ref (ad 10)), (2, .int v2)]) (hP : va_P D cls8 (wl 64 ad (GX cI cJ cC cZ cR ad kd) hi hl) H) (hS : va_S A s.heap H locs) : W p l e (rmX 0 0) s m args below meth c H locs 0 0 (MQ below (va_Qi (fun r (u : HI × HL) => Φ r u.1 u.2) (fun u t => va_P D cls8 (wl 64 ad (GX cI cJ cC cZ cR ad kd) u.1 u.2) t.heap) A) args s 0 0 A) (F0 m 2 ls []) := by
  induction n generalizing v2 hi hl ls H locs with
  | zero => exact False.elim h
  | succ n ih =>
    unfold wbB_allFixed_2 at h
    refine lv_iload_n K.1 K.2.1 dB_allFixed_2 rfl (lv_at hL 2 rfl) ?_
    refine lv_aload_n K.1 K.2.1 dB_allFixed_3 rfl (lv_at hL 1 rfl) ?_
    refine x_getN (v := .int (hi 10 7)) K hP hinD (ci := 3) rfl 10 (by decide) rfl 7 (by decide) (fnB_120 K.2.2.2.2.2.2.2.2) rfl rfl dB_allFixed_4 ?_
    refine lv_icmp_ge (tgt := 35) K.1 K.2.1 dB_allFixed_7 rfl (fun hc => ?_) (fun hc => ?_)
    · have h := h.1 hc
      refine lv_iconst (v := 1) K.1 K.2.1 dB_allFixed_35 (by decide) ?_
      obtain ⟨g1, h⟩ := h
      exact x_zret K hr hP hS g1 h dB_allFixed_36
    · have h := h.2 hc
      refine lv_aload_n K.1 K.2.1 dB_allFixed_10 rfl (lv_at hL 0 rfl) ?_
      refine x_get (v := .ref (ad 6)) K hP hinB (ci := 2) rfl 5 (by decide) rfl 0 (by decide) flB_11 rfl rfl dB_allFixed_11 ?_
      refine lv_aload_n K.1 K.2.1 dB_allFixed_14 rfl (lv_at hL 1 rfl) ?_
      refine x_getN (v := .ref (ad 11)) K hP hinD (ci := 3) rfl 10 (by decide) rfl 5 (by decide) (fnB_123 K.2.2.2.2.2.2.2.2) rfl rfl dB_allFixed_15 ?_
      refine lv_iload_n K.1 K.2.1 dB_allFixed_18 rfl (lv_at hL 2 rfl) ?_
      obtain ⟨g2, h⟩ := h
      refine x_iald K hP 11 (by decide) 0 rfl rfl g2 dB_allFixed_19 ?_
      obtain ⟨g3, h⟩ := h
      refine x_aald K hP 6 (by decide) 4 rfl rfl g3 (q := ad (24 + ((hi 11 (v2.toNatClampNeg)).toNatClampNeg))) rfl dB_allFixed_20 ?_
      refine x_getN (v := .int (hi (24 + ((hi 11 (v2.toNatClampNeg)).toNatClampNeg)) 3)) K hP hinL (ci := 6) rfl (24 + ((hi 11 (v2.toNatClampNeg)).toNatClampNeg)) (lt_l (in_lt g3)) (GX_line _ (in_lt g3) _ _) 3 (by decide) (fnB_76 K.2.2.2.2.2.2.2.2) rfl rfl dB_allFixed_21 ?_
      refine lv_if_ne (tgt := 29) K.1 K.2.1 dB_allFixed_24 rfl (fun hc => ?_) (fun hc => ?_)
      · have h := h.2 hc
        refine lv_iinc (k := 2) (lv' := [(2, .int (v2 + Int32.ofInt (1))), (0, .ref (ad 5)), (1, .ref (ad 10))]) K.1 K.2.1 dB_allFixed_29 hL rfl rfl (by decide) rfl (fun ls hL => ?_)
        refine lv_goto (tgt := 2) K.1 K.2.1 dB_allFixed_32 rfl ?_
        exact ih h (lv_sub hL [1, 2, 0] rfl) hP hS
      · have h := h.1 hc
        refine lv_iconst (v := 0) K.1 K.2.1 dB_allFixed_27 (by decide) ?_
        obtain ⟨g4, h⟩ := h
        exact x_zret K hr hP hS g4 h dB_allFixed_28
set_option maxRecDepth 100000 in
set_option maxHeartbeats 4000000 in
theorem bB_allFixed_0 {p : Program} {l : Launch} {e : Env} {s : State} {m : MethodId} {args : Array Value} {below : List Frame} {meth : Method} {c : Code} {D : va_G} {cI cJ cC cZ cR : ClassId} {ad kd sd vd : Nat → Nat} {kA lA wA : Nat} {A : Nat → Prop} (K : Cx p (rmX 0 0) s m args meth c cB_allFixed 3 "WordChecker$Book" gT D cls8 (tys5 cI cJ cC cZ cR) 64 ad A (ZX A kd sd vd kA lA wA)) (hr : meth.sig.returnType = (some .boolean)) (hZ : ZsOK A (ZX A kd sd vd kA lA wA)) {Φ : Int32 → HI → HL → Prop} {hi : HI} {hl : HL} {H : Heap} {locs : List Loc} (h : wbB_allFixed_0 hi hl Φ) {ls : Array Slot} (hL : lv_has ls 3 [(0, .ref (ad 5)), (1, .ref (ad 10))]) (hP : va_P D cls8 (wl 64 ad (GX cI cJ cC cZ cR ad kd) hi hl) H) (hS : va_S A s.heap H locs) : W p l e (rmX 0 0) s m args below meth c H locs 0 0 (MQ below (va_Qi (fun r (u : HI × HL) => Φ r u.1 u.2) (fun u t => va_P D cls8 (wl 64 ad (GX cI cJ cC cZ cR ad kd) u.1 u.2) t.heap) A) args s 0 0 A) (F0 m 0 ls []) := by
  unfold wbB_allFixed_0 at h
  refine lv_iconst (v := 0) K.1 K.2.1 dB_allFixed_0 (by decide) ?_
  refine lv_istore_n (lv' := [(2, .int (0 : Int32)), (0, .ref (ad 5)), (1, .ref (ad 10))]) K.1 K.2.1 dB_allFixed_1 rfl hL (by decide) rfl (fun ls hL => ?_)
  obtain ⟨fu, h⟩ := h
  exact bB_allFixed_2 K hr hZ h (lv_sub hL [1, 2, 0] rfl) hP hS
set_option maxRecDepth 100000 in
set_option maxHeartbeats 4000000 in
theorem mB_allFixed {l : Launch} {D : va_G} {cI cJ cC cZ cR : ClassId} {ad kd sd vd : Nat → Nat} {kA lA wA : Nat} {A : Nat → Prop} (hZ : ZsOK A (ZX A kd sd vd kA lA wA)) (hD : wlD 64 ad A) {hi : HI} {hl : HL} {Φ : Int32 → HI → HL → Prop} (h : wpB_allFixed hi hl Φ) : SpI l yB_allFixed cB_allFixed 3 (some .boolean) gT 0 0 [.ref (ad 5), .ref (ad 10)] D cls8 (tys5 cI cJ cC cZ cR) 64 ad (GX cI cJ cC cZ cR ad kd) A (ZX A kd sd vd kA lA wA) hi hl Φ := by
  refine Met.ofW (cc := cB_allFixed) (maxL := 3) (ret := (some .boolean)) (by decide) rfl ?_
  intro p e s m args below meth c s₁ B hml hv
  obtain ⟨rfl, hP, hK, hZs⟩ := hv
  have K : Cx p (rmX 0 0) s m _ meth c cB_allFixed 3 "WordChecker$Book" gT D cls8 (tys5 cI cJ cC cZ cR) 64 ad A (ZX A kd sd vd kA lA wA) := ⟨B.exec, B.bytes, hml, findClass_of_methodNamed B.named, fun w hw => atoms_spec B.pre w (List.mem_cons_of_mem _ hw), B.notSynchronized, hK, hD, hZs⟩
  have hL := lv_entry ([.ref (ad 5), .ref (ad 10)]) (n := 3) (Nat.le_of_ble_eq_true rfl)
  rw [lg_entry_eq]
  generalize (lg_sl ([.ref (ad 5), .ref (ad 10)]) ++ List.replicate (3 - (lg_sl ([.ref (ad 5), .ref (ad 10)])).length) Slot.unset).toArray = ls at hL ⊢
  have hL : lv_has ls 3 [(0, .ref (ad 5)), (1, .ref (ad 10))] := hL
  unfold wpB_allFixed at h
  exact bB_allFixed_0 K B.returns hZ h (lv_sub hL [0, 1] rfl) hP va_S.rf
set_option maxRecDepth 100000 in
set_option maxHeartbeats 4000000 in
theorem bB_setInit_38 {p : Program} {l : Launch} {e : Env} {s : State} {m : MethodId} {args : Array Value} {below : List Frame} {meth : Method} {c : Code} {D : va_G} {cI cJ cC cZ cR : ClassId} {ad kd sd vd : Nat → Nat} {kA lA wA : Nat} {A : Nat → Prop} (K : Cx p (rmX 2 40) s m args meth c cB_setInit 4 "WordChecker$Book" gT D cls8 (tys5 cI cJ cC cZ cR) 64 ad A (ZX A kd sd vd kA lA wA)) (hr : meth.sig.returnType = none) (hZ : ZsOK A (ZX A kd sd vd kA lA wA)) {Φ : HI → HL → Prop} {k4 : Int32 → Int32 → HI → HL → Prop} (hk4 : ∀ (v2 : Int32) (v3 : Int32) (hi : HI) (hl : HL) (ls : Array Slot) (H : Heap) (locs : List Loc), k4 v2 v3 hi hl → lv_has ls 4 [(0, .ref (ad 5)), (1, .ref (ad 10)), (2, .int v2), (3, .int v3)] → va_P D cls8 (wl 64 ad (GX cI cJ cC cZ cR ad kd) hi hl) H → va_S A s.heap H locs → W p l e (rmX 2 40) s m args below meth c H locs 0 0 (MQ below (va_Qv (fun (u : HI × HL) => Φ u.1 u.2) (fun u t => va_P D cls8 (wl 64 ad (GX cI cJ cC cZ cR ad kd) u.1 u.2) t.heap) A) args s 0 0 A) (F0 m 4 ls [])) {v3 : Int32} {q0 : Int32} {q1 : Int32} {hi : HI} {hl : HL} {H : Heap} {locs : List Loc} (h : wbB_setInit_38 k4 v3 q0 q1 hi hl Φ) {ls : Array Slot} (hL : lv_has ls 4 [(0, .ref (ad 5)), (1, .ref (ad 10)), (3, .int v3)]) (hP : va_P D cls8 (wl 64 ad (GX cI cJ cC cZ cR ad kd) hi hl) H) (hS : va_S A s.heap H locs) : W p l e (rmX 2 40) s m args below meth c H locs 0 0 (MQ below (va_Qv (fun (u : HI × HL) => Φ u.1 u.2) (fun u t => va_P D cls8 (wl 64 ad (GX cI cJ cC cZ cR ad kd) u.1 u.2) t.heap) A) args s 0 0 A) (F0 m 38 ls [.int q1, .int q0]) := by
  unfold wbB_setInit_38 at h
  refine lv_ior K.1 K.2.1 dB_setInit_38 ?_
  refine lv_istore_n (lv' := [(2, .int (q0 ||| q1)), (0, .ref (ad 5)), (1, .ref (ad 10)), (3, .int v3)]) K.1 K.2.1 dB_setInit_39 rfl hL (by decide) rfl (fun ls hL => ?_)
  refine lv_iinc (k := 3) (lv' := [(3, .int (v3 + Int32.ofInt (1))), (2, .int (q0 ||| q1)), (0, .ref (ad 5)), (1, .ref (ad 10))]) K.1 K.2.1 dB_setInit_40 hL rfl rfl (by decide) rfl (fun ls hL => ?_)
  refine lv_goto (tgt := 4) K.1 K.2.1 dB_setInit_43 rfl ?_
  exact hk4 _ _ _ _ _ _ _ h (lv_sub hL [2, 3, 1, 0] rfl) hP hS
set_option maxRecDepth 100000 in
set_option maxHeartbeats 4000000 in
theorem bB_setInit_4 {p : Program} {l : Launch} {e : Env} {s : State} {m : MethodId} {args : Array Value} {below : List Frame} {meth : Method} {c : Code} {D : va_G} {cI cJ cC cZ cR : ClassId} {ad kd sd vd : Nat → Nat} {kA lA wA : Nat} {A : Nat → Prop} (K : Cx p (rmX 2 40) s m args meth c cB_setInit 4 "WordChecker$Book" gT D cls8 (tys5 cI cJ cC cZ cR) 64 ad A (ZX A kd sd vd kA lA wA)) (hr : meth.sig.returnType = none) (hZ : ZsOK A (ZX A kd sd vd kA lA wA)) {Φ : HI → HL → Prop} {n : Nat} {v2 : Int32} {v3 : Int32} {hi : HI} {hl : HL} {H : Heap} {locs : List Loc} (h : wbB_setInit_4 n v2 v3 hi hl Φ) {ls : Array Slot} (hL : lv_has ls 4 [(0, .ref (ad 5)), (1, .ref (ad 10)), (2, .int v2), (3, .int v3)]) (hP : va_P D cls8 (wl 64 ad (GX cI cJ cC cZ cR ad kd) hi hl) H) (hS : va_S A s.heap H locs) : W p l e (rmX 2 40) s m args below meth c H locs 0 0 (MQ below (va_Qv (fun (u : HI × HL) => Φ u.1 u.2) (fun u t => va_P D cls8 (wl 64 ad (GX cI cJ cC cZ cR ad kd) u.1 u.2) t.heap) A) args s 0 0 A) (F0 m 4 ls []) := by
  induction n generalizing v2 v3 hi hl ls H locs with
  | zero => exact False.elim h
  | succ n ih =>
    unfold wbB_setInit_4 at h
    refine lv_iload_n K.1 K.2.1 dB_setInit_4 rfl (lv_at hL 3 rfl) ?_
    refine lv_aload_n K.1 K.2.1 dB_setInit_5 rfl (lv_at hL 1 rfl) ?_
    refine x_getN (v := .int (hi 10 4)) K hP hinD (ci := 3) rfl 10 (by decide) rfl 4 (by decide) (fnB_68 K.2.2.2.2.2.2.2.2) rfl rfl dB_setInit_6 ?_
    refine x_cSNI (As := [.int (hi 10 4)]) (rest := [.int v3]) K gT_good hZ hP hS calC_bitsOf (mnB_132 K.2.2.2.2.2.2.2.2) (mC_bitsOf hZ K.2.2.2.2.2.2.2.1 h) ⟨Nat.le_of_ble_eq_true rfl, Nat.le_of_ble_eq_true rfl⟩ rfl hL.1 rfl (Nat.le_of_ble_eq_true rfl) dB_setInit_9 (fun r1 hi2 hl3 H locs h hP hS => ?_)
    refine lv_icmp_ge (tgt := 46) K.1 K.2.1 dB_setInit_12 rfl (fun hc => ?_) (fun hc => ?_)
    · have h := h.1 hc
      refine lv_aload_n K.1 K.2.1 dB_setInit_46 rfl (lv_at hL 0 rfl) ?_
      refine x_get (v := .ref (ad 6)) K hP hinB (ci := 2) rfl 5 (by decide) rfl 0 (by decide) flB_11 rfl rfl dB_setInit_47 ?_
      refine lv_aload_n K.1 K.2.1 dB_setInit_50 rfl (lv_at hL 1 rfl) ?_
      refine x_getN (v := .ref (ad 11)) K hP hinD (ci := 3) rfl 10 (by decide) rfl 5 (by decide) (fnB_123 K.2.2.2.2.2.2.2.2) rfl rfl dB_setInit_51 ?_
      refine lv_iconst (v := 0) K.1 K.2.1 dB_setInit_54 (by decide) ?_
      obtain ⟨g4, h⟩ := h
      refine x_iald K hP 11 (by decide) 0 rfl rfl g4 dB_setInit_55 ?_
      obtain ⟨g5, h⟩ := h
      refine x_aald K hP 6 (by decide) 4 rfl rfl g5 (q := ad (24 + ((hi2 11 ((0 : Int32).toNatClampNeg)).toNatClampNeg))) rfl dB_setInit_56 ?_
      refine lv_iload_n K.1 K.2.1 dB_setInit_57 rfl (lv_at hL 2 rfl) ?_
      refine x_putN (v := .int v2) K hP hS hinL tyL tyL_ok nmL (ci := 6) rfl (24 + ((hi2 11 ((0 : Int32).toNatClampNeg)).toNatClampNeg)) (lt_l (in_lt g5)) (GX_line _ (in_lt g5) _ _) 5 (by decide) (fnB_156 K.2.2.2.2.2.2.2.2) rfl rfl v2 ((GX_line _ (in_lt g5) _ _).trans rfl) rfl rfl (Nat.le_of_ble_eq_true rfl) dB_setInit_58 (fun H locs hP hS => ?_)
      exact x_vret K hr hP hS h dB_setInit_61
    · have h := h.2 hc
      refine lv_iload_n K.1 K.2.1 dB_setInit_15 rfl (lv_at hL 2 rfl) ?_
      refine lv_aload_n K.1 K.2.1 dB_setInit_16 rfl (lv_at hL 0 rfl) ?_
      refine lv_aload_n K.1 K.2.1 dB_setInit_17 rfl (lv_at hL 1 rfl) ?_
      refine lv_iconst (v := 1) K.1 K.2.1 dB_setInit_18 (by decide) ?_
      refine lv_iload_n K.1 K.2.1 dB_setInit_19 rfl (lv_at hL 3 rfl) ?_
      refine lv_iconst (v := 0) K.1 K.2.1 dB_setInit_20 (by decide) ?_
      refine x_cVJ (As := [.ref (ad 10), .int (1 : Int32), .int v3, .int (0 : Int32)]) (rest := [.int v2]) K gT_good hZ hP hS calB_wireOf mlB_152 5 (by decide) rfl rfl (mB_wireOf hZ K.2.2.2.2.2.2.2.1 h) ⟨Nat.le_of_ble_eq_true rfl, Nat.le_of_ble_eq_true rfl⟩ rfl hL.1 rfl (Nat.le_of_ble_eq_true rfl) dB_setInit_21 (fun r6 hi7 hl8 H locs h hP hS => ?_)
      refine lv_iconst (v := 0) K.1 K.2.1 dB_setInit_24 (by decide) ?_
      refine x_cSNI (As := [.long r6, .int (0 : Int32)]) (rest := [.int v2]) K gT_good hZ hP hS calC_has (mnB_138 K.2.2.2.2.2.2.2.2) (mC_has hZ K.2.2.2.2.2.2.2.1 h) ⟨Nat.le_of_ble_eq_true rfl, Nat.le_of_ble_eq_true rfl⟩ rfl hL.1 rfl (Nat.le_of_ble_eq_true rfl) dB_setInit_25 (fun r9 hi10 hl11 H locs h hP hS => ?_)
      refine lv_if_eq (tgt := 37) K.1 K.2.1 dB_setInit_28 rfl (fun hc => ?_) (fun hc => ?_)
      · have h := h.1 hc
        refine lv_iconst (v := 0) K.1 K.2.1 dB_setInit_37 (by decide) ?_
        exact bB_setInit_38 K hr hZ (fun v2 v3 hi hl ls H locs h hL hP hS => ih h hL hP hS) h (lv_sub hL [0, 1, 3] rfl) hP hS
      · have h := h.2 hc
        refine lv_iconst (v := 1) K.1 K.2.1 dB_setInit_31 (by decide) ?_
        refine lv_iload_n K.1 K.2.1 dB_setInit_32 rfl (lv_at hL 3 rfl) ?_
        refine lv_ishl K.1 K.2.1 dB_setInit_33 ?_
        refine lv_goto (tgt := 38) K.1 K.2.1 dB_setInit_34 rfl ?_
        exact bB_setInit_38 K hr hZ (fun v2 v3 hi hl ls H locs h hL hP hS => ih h hL hP hS) h (lv_sub hL [0, 1, 3] rfl) hP hS
set_option maxRecDepth 100000 in
set_option maxHeartbeats 4000000 in
theorem bB_setInit_0 {p : Program} {l : Launch} {e : Env} {s : State} {m : MethodId} {args : Array Value} {below : List Frame} {meth : Method} {c : Code} {D : va_G} {cI cJ cC cZ cR : ClassId} {ad kd sd vd : Nat → Nat} {kA lA wA : Nat} {A : Nat → Prop} (K : Cx p (rmX 2 40) s m args meth c cB_setInit 4 "WordChecker$Book" gT D cls8 (tys5 cI cJ cC cZ cR) 64 ad A (ZX A kd sd vd kA lA wA)) (hr : meth.sig.returnType = none) (hZ : ZsOK A (ZX A kd sd vd kA lA wA)) {Φ : HI → HL → Prop} {hi : HI} {hl : HL} {H : Heap} {locs : List Loc} (h : wbB_setInit_0 hi hl Φ) {ls : Array Slot} (hL : lv_has ls 4 [(0, .ref (ad 5)), (1, .ref (ad 10))]) (hP : va_P D cls8 (wl 64 ad (GX cI cJ cC cZ cR ad kd) hi hl) H) (hS : va_S A s.heap H locs) : W p l e (rmX 2 40) s m args below meth c H locs 0 0 (MQ below (va_Qv (fun (u : HI × HL) => Φ u.1 u.2) (fun u t => va_P D cls8 (wl 64 ad (GX cI cJ cC cZ cR ad kd) u.1 u.2) t.heap) A) args s 0 0 A) (F0 m 0 ls []) := by
  unfold wbB_setInit_0 at h
  refine lv_iconst (v := 0) K.1 K.2.1 dB_setInit_0 (by decide) ?_
  refine lv_istore_n (lv' := [(2, .int (0 : Int32)), (0, .ref (ad 5)), (1, .ref (ad 10))]) K.1 K.2.1 dB_setInit_1 rfl hL (by decide) rfl (fun ls hL => ?_)
  refine lv_iconst (v := 0) K.1 K.2.1 dB_setInit_2 (by decide) ?_
  refine lv_istore_n (lv' := [(3, .int (0 : Int32)), (2, .int (0 : Int32)), (0, .ref (ad 5)), (1, .ref (ad 10))]) K.1 K.2.1 dB_setInit_3 rfl hL (by decide) rfl (fun ls hL => ?_)
  obtain ⟨fu, h⟩ := h
  exact bB_setInit_4 K hr hZ h (lv_sub hL [2, 3, 1, 0] rfl) hP hS
set_option maxRecDepth 100000 in
set_option maxHeartbeats 4000000 in
theorem mB_setInit {l : Launch} {D : va_G} {cI cJ cC cZ cR : ClassId} {ad kd sd vd : Nat → Nat} {kA lA wA : Nat} {A : Nat → Prop} (hZ : ZsOK A (ZX A kd sd vd kA lA wA)) (hD : wlD 64 ad A) {hi : HI} {hl : HL} {Φ : HI → HL → Prop} (h : wpB_setInit hi hl Φ) : SpV l yB_setInit cB_setInit 4 none gT 2 40 [.ref (ad 5), .ref (ad 10)] D cls8 (tys5 cI cJ cC cZ cR) 64 ad (GX cI cJ cC cZ cR ad kd) A (ZX A kd sd vd kA lA wA) hi hl Φ := by
  refine Met.ofW (cc := cB_setInit) (maxL := 4) (ret := none) (by decide) rfl ?_
  intro p e s m args below meth c s₁ B hml hv
  obtain ⟨rfl, hP, hK, hZs⟩ := hv
  have K : Cx p (rmX 2 40) s m _ meth c cB_setInit 4 "WordChecker$Book" gT D cls8 (tys5 cI cJ cC cZ cR) 64 ad A (ZX A kd sd vd kA lA wA) := ⟨B.exec, B.bytes, hml, findClass_of_methodNamed B.named, fun w hw => atoms_spec B.pre w (List.mem_cons_of_mem _ hw), B.notSynchronized, hK, hD, hZs⟩
  have hL := lv_entry ([.ref (ad 5), .ref (ad 10)]) (n := 4) (Nat.le_of_ble_eq_true rfl)
  rw [lg_entry_eq]
  generalize (lg_sl ([.ref (ad 5), .ref (ad 10)]) ++ List.replicate (4 - (lg_sl ([.ref (ad 5), .ref (ad 10)])).length) Slot.unset).toArray = ls at hL ⊢
  have hL : lv_has ls 4 [(0, .ref (ad 5)), (1, .ref (ad 10))] := hL
  unfold wpB_setInit at h
  exact bB_setInit_0 K B.returns hZ h (lv_sub hL [0, 1] rfl) hP va_S.rf
set_option maxRecDepth 100000 in
set_option maxHeartbeats 4000000 in
theorem bB_setNext_33 {p : Program} {l : Launch} {e : Env} {s : State} {m : MethodId} {args : Array Value} {below : List Frame} {meth : Method} {c : Code} {D : va_G} {cI cJ cC cZ cR : ClassId} {ad kd sd vd : Nat → Nat} {kA lA wA : Nat} {A : Nat → Prop} (K : Cx p (rmX 2 40) s m args meth c cB_setNext 5 "WordChecker$Book" gT D cls8 (tys5 cI cJ cC cZ cR) 64 ad A (ZX A kd sd vd kA lA wA)) (hr : meth.sig.returnType = none) (hZ : ZsOK A (ZX A kd sd vd kA lA wA)) {Φ : HI → HL → Prop} {k19 : Nat → Int32 → HI → HL → Prop} (hk19 : ∀ (v2 : Nat) (v3 : Int32) (hi : HI) (hl : HL) (ls : Array Slot) (H : Heap) (locs : List Loc), k19 v2 v3 hi hl → v2 < 20 → lv_has ls 5 [(0, .ref (ad 5)), (1, .ref (ad 10)), (2, .ref (ad (24 + v2))), (3, .int v3)] → va_P D cls8 (wl 64 ad (GX cI cJ cC cZ cR ad kd) hi hl) H → va_S A s.heap H locs → W p l e (rmX 2 40) s m args below meth c H locs 0 0 (MQ below (va_Qv (fun (u : HI × HL) => Φ u.1 u.2) (fun u t => va_P D cls8 (wl 64 ad (GX cI cJ cC cZ cR ad kd) u.1 u.2) t.heap) A) args s 0 0 A) (F0 m 19 ls [])) {n : Nat} {v2 : Nat} {v3 : Int32} {v4 : Int32} {hi : HI} {hl : HL} {H : Heap} {locs : List Loc} (h : wbB_setNext_33 k19 n v2 v3 v4 hi hl Φ) (hv2 : v2 < 20) {ls : Array Slot} (hL : lv_has ls 5 [(0, .ref (ad 5)), (1, .ref (ad 10)), (2, .ref (ad (24 + v2))), (3, .int v3), (4, .int v4)]) (hP : va_P D cls8 (wl 64 ad (GX cI cJ cC cZ cR ad kd) hi hl) H) (hS : va_S A s.heap H locs) : W p l e (rmX 2 40) s m args below meth c H locs 0 0 (MQ below (va_Qv (fun (u : HI × HL) => Φ u.1 u.2) (fun u t => va_P D cls8 (wl 64 ad (GX cI cJ cC cZ cR ad kd) u.1 u.2) t.heap) A) args s 0 0 A) (F0 m 33 ls []) := by
  induction n generalizing v2 v3 v4 hi hl ls H locs with
  | zero => exact False.elim h
  | succ n ih =>
    unfold wbB_setNext_33 at h
    refine lv_iload K.1 K.2.1 dB_setNext_33 (lv_at hL 4 rfl) ?_
    refine lv_iconst (v := 4) K.1 K.2.1 dB_setNext_35 (by decide) ?_
    refine lv_icmp_ge (tgt := 70) K.1 K.2.1 dB_setNext_36 rfl (fun hc => ?_) (fun hc => ?_)
    · have h := h.1 hc
      refine lv_iinc (k := 3) (lv' := [(3, .int (v3 + Int32.ofInt (1))), (0, .ref (ad 5)), (1, .ref (ad 10)), (2, .ref (ad (24 + v2))), (4, .int v4)]) K.1 K.2.1 dB_setNext_70 hL rfl rfl (by decide) rfl (fun ls hL => ?_)
      refine lv_goto (tgt := 19) K.1 K.2.1 dB_setNext_73 rfl ?_
      exact hk19 _ _ _ _ _ _ _ h hv2 (lv_sub hL [1, 2, 3, 0] rfl) hP hS
    · have h := h.2 hc
      refine lv_aload_n K.1 K.2.1 dB_setNext_39 rfl (lv_at hL 0 rfl) ?_
      refine x_get (v := .ref (ad 7)) K hP hinB (ci := 2) rfl 5 (by decide) rfl 6 (by decide) flB_24 rfl rfl dB_setNext_40 ?_
      refine lv_aload_n K.1 K.2.1 dB_setNext_43 rfl (lv_at hL 2 rfl) ?_
      refine x_getN (v := .int (hi (24 + v2) 4)) K hP hinL (ci := 6) rfl (24 + v2) (lt_l hv2) (GX_line _ hv2 _ _) 4 (by decide) (fnB_129 K.2.2.2.2.2.2.2.2) rfl rfl dB_setNext_44 ?_
      refine lv_iload_n K.1 K.2.1 dB_setNext_47 rfl (lv_at hL 3 rfl) ?_
      refine lv_iadd K.1 K.2.1 dB_setNext_48 ?_
      refine lv_iconst (v := 4) K.1 K.2.1 dB_setNext_49 (by decide) ?_
      refine lv_imul K.1 K.2.1 dB_setNext_50 ?_
      refine lv_iload K.1 K.2.1 dB_setNext_51 (lv_at hL 4 rfl) ?_
      refine lv_iadd K.1 K.2.1 dB_setNext_53 ?_
      refine lv_aload_n K.1 K.2.1 dB_setNext_54 rfl (lv_at hL 0 rfl) ?_
      refine lv_aload_n K.1 K.2.1 dB_setNext_55 rfl (lv_at hL 1 rfl) ?_
      refine lv_iconst (v := 1) K.1 K.2.1 dB_setNext_56 (by decide) ?_
      refine lv_iload_n K.1 K.2.1 dB_setNext_57 rfl (lv_at hL 3 rfl) ?_
      refine lv_iload K.1 K.2.1 dB_setNext_58 (lv_at hL 4 rfl) ?_
      refine x_cVJ (As := [.ref (ad 10), .int (1 : Int32), .int v3, .int v4]) (rest := [.int ((((hi (24 + v2) 4) + v3) * (4 : Int32)) + v4), .ref (ad 7)]) K gT_good hZ hP hS calB_wireOf mlB_152 5 (by decide) rfl rfl (mB_wireOf hZ K.2.2.2.2.2.2.2.1 h) ⟨Nat.le_of_ble_eq_true rfl, Nat.le_of_ble_eq_true rfl⟩ rfl hL.1 rfl (Nat.le_of_ble_eq_true rfl) dB_setNext_60 (fun r1 hi2 hl3 H locs h hP hS => ?_)
      obtain ⟨g4, h⟩ := h
      refine x_last K hP hS 7 (by decide) 1 (fun _ => rfl) rfl g4 dB_setNext_63 (fun H locs hP hS => ?_)
      refine lv_iinc (k := 4) (lv' := [(4, .int (v4 + Int32.ofInt (1))), (0, .ref (ad 5)), (1, .ref (ad 10)), (2, .ref (ad (24 + v2))), (3, .int v3)]) K.1 K.2.1 dB_setNext_64 hL rfl rfl (by decide) rfl (fun ls hL => ?_)
      refine lv_goto (tgt := 33) K.1 K.2.1 dB_setNext_67 rfl ?_
      exact ih h hv2 (lv_sub hL [1, 2, 3, 4, 0] rfl) hP hS
set_option maxRecDepth 100000 in
set_option maxHeartbeats 4000000 in
theorem bB_setNext_19 {p : Program} {l : Launch} {e : Env} {s : State} {m : MethodId} {args : Array Value} {below : List Frame} {meth : Method} {c : Code} {D : va_G} {cI cJ cC cZ cR : ClassId} {ad kd sd vd : Nat → Nat} {kA lA wA : Nat} {A : Nat → Prop} (K : Cx p (rmX 2 40) s m args meth c cB_setNext 5 "WordChecker$Book" gT D cls8 (tys5 cI cJ cC cZ cR) 64 ad A (ZX A kd sd vd kA lA wA)) (hr : meth.sig.returnType = none) (hZ : ZsOK A (ZX A kd sd vd kA lA wA)) {Φ : HI → HL → Prop} {n : Nat} {v2 : Nat} {v3 : Int32} {hi : HI} {hl : HL} {H : Heap} {locs : List Loc} (h : wbB_setNext_19 n v2 v3 hi hl Φ) (hv2 : v2 < 20) {ls : Array Slot} (hL : lv_has ls 5 [(0, .ref (ad 5)), (1, .ref (ad 10)), (2, .ref (ad (24 + v2))), (3, .int v3)]) (hP : va_P D cls8 (wl 64 ad (GX cI cJ cC cZ cR ad kd) hi hl) H) (hS : va_S A s.heap H locs) : W p l e (rmX 2 40) s m args below meth c H locs 0 0 (MQ below (va_Qv (fun (u : HI × HL) => Φ u.1 u.2) (fun u t => va_P D cls8 (wl 64 ad (GX cI cJ cC cZ cR ad kd) u.1 u.2) t.heap) A) args s 0 0 A) (F0 m 19 ls []) := by
  induction n generalizing v2 v3 hi hl ls H locs with
  | zero => exact False.elim h
  | succ n ih =>
    unfold wbB_setNext_19 at h
    refine lv_iload_n K.1 K.2.1 dB_setNext_19 rfl (lv_at hL 3 rfl) ?_
    refine lv_aload_n K.1 K.2.1 dB_setNext_20 rfl (lv_at hL 1 rfl) ?_
    refine x_getN (v := .int (hi 10 4)) K hP hinD (ci := 3) rfl 10 (by decide) rfl 4 (by decide) (fnB_68 K.2.2.2.2.2.2.2.2) rfl rfl dB_setNext_21 ?_
    refine x_cSNI (As := [.int (hi 10 4)]) (rest := [.int v3]) K gT_good hZ hP hS calC_bitsOf (mnB_132 K.2.2.2.2.2.2.2.2) (mC_bitsOf hZ K.2.2.2.2.2.2.2.1 h) ⟨Nat.le_of_ble_eq_true rfl, Nat.le_of_ble_eq_true rfl⟩ rfl hL.1 rfl (Nat.le_of_ble_eq_true rfl) dB_setNext_24 (fun r1 hi2 hl3 H locs h hP hS => ?_)
    refine lv_icmp_ge (tgt := 76) K.1 K.2.1 dB_setNext_27 rfl (fun hc => ?_) (fun hc => ?_)
    · have h := h.1 hc
      exact x_vret K hr hP hS h dB_setNext_76
    · have h := h.2 hc
      refine lv_iconst (v := 0) K.1 K.2.1 dB_setNext_30 (by decide) ?_
      refine lv_istore (lv' := [(4, .int (0 : Int32)), (0, .ref (ad 5)), (1, .ref (ad 10)), (2, .ref (ad (24 + v2))), (3, .int v3)]) K.1 K.2.1 dB_setNext_31 hL (by decide) rfl (fun ls hL => ?_)
      obtain ⟨fu, h⟩ := h
      exact bB_setNext_33 K hr hZ (fun v2 v3 hi hl ls H locs h f0 hL hP hS => ih h f0 hL hP hS) h hv2 (lv_sub hL [1, 2, 3, 4, 0] rfl) hP hS
set_option maxRecDepth 100000 in
set_option maxHeartbeats 4000000 in
theorem bB_setNext_0 {p : Program} {l : Launch} {e : Env} {s : State} {m : MethodId} {args : Array Value} {below : List Frame} {meth : Method} {c : Code} {D : va_G} {cI cJ cC cZ cR : ClassId} {ad kd sd vd : Nat → Nat} {kA lA wA : Nat} {A : Nat → Prop} (K : Cx p (rmX 2 40) s m args meth c cB_setNext 5 "WordChecker$Book" gT D cls8 (tys5 cI cJ cC cZ cR) 64 ad A (ZX A kd sd vd kA lA wA)) (hr : meth.sig.returnType = none) (hZ : ZsOK A (ZX A kd sd vd kA lA wA)) {Φ : HI → HL → Prop} {hi : HI} {hl : HL} {H : Heap} {locs : List Loc} (h : wbB_setNext_0 hi hl Φ) {ls : Array Slot} (hL : lv_has ls 5 [(0, .ref (ad 5)), (1, .ref (ad 10))]) (hP : va_P D cls8 (wl 64 ad (GX cI cJ cC cZ cR ad kd) hi hl) H) (hS : va_S A s.heap H locs) : W p l e (rmX 2 40) s m args below meth c H locs 0 0 (MQ below (va_Qv (fun (u : HI × HL) => Φ u.1 u.2) (fun u t => va_P D cls8 (wl 64 ad (GX cI cJ cC cZ cR ad kd) u.1 u.2) t.heap) A) args s 0 0 A) (F0 m 0 ls []) := by
  unfold wbB_setNext_0 at h
  refine lv_aload_n K.1 K.2.1 dB_setNext_0 rfl (lv_at hL 0 rfl) ?_
  refine x_get (v := .ref (ad 6)) K hP hinB (ci := 2) rfl 5 (by decide) rfl 0 (by decide) flB_11 rfl rfl dB_setNext_1 ?_
  refine lv_aload_n K.1 K.2.1 dB_setNext_4 rfl (lv_at hL 1 rfl) ?_
  refine x_getN (v := .ref (ad 11)) K hP hinD (ci := 3) rfl 10 (by decide) rfl 5 (by decide) (fnB_123 K.2.2.2.2.2.2.2.2) rfl rfl dB_setNext_5 ?_
  refine lv_iconst (v := 0) K.1 K.2.1 dB_setNext_8 (by decide) ?_
  obtain ⟨g1, h⟩ := h
  refine x_iald K hP 11 (by decide) 0 rfl rfl g1 dB_setNext_9 ?_
  obtain ⟨g2, h⟩ := h
  refine x_aald K hP 6 (by decide) 4 rfl rfl g2 (q := ad (24 + ((hi 11 ((0 : Int32).toNatClampNeg)).toNatClampNeg))) rfl dB_setNext_10 ?_
  refine lv_astore_n (lv' := [(2, .ref (ad (24 + ((hi 11 ((0 : Int32).toNatClampNeg)).toNatClampNeg)))), (0, .ref (ad 5)), (1, .ref (ad 10))]) K.1 K.2.1 dB_setNext_11 rfl hL (by decide) rfl (fun ls hL => ?_)
  refine lv_aload_n K.1 K.2.1 dB_setNext_12 rfl (lv_at hL 0 rfl) ?_
  refine lv_iconst (v := 1) K.1 K.2.1 dB_setNext_13 (by decide) ?_
  obtain ⟨g3, h⟩ := h
  refine x_putN (v := .int (1 : Int32)) K hP hS hinL tyL tyL_ok nmL (ci := 6) rfl (24 + ((hi 11 ((0 : Int32).toNatClampNeg)).toNatClampNeg)) (lt_l (in_lt g2)) (GX_line _ (in_lt g2) _ _) 6 (by decide) (fnB_159 K.2.2.2.2.2.2.2.2) rfl rfl (1 : Int32) ((GX_line _ (in_lt g2) _ _).trans rfl) g3.nar g3.fit (Nat.le_of_ble_eq_true rfl) dB_setNext_14 (fun H locs hP hS => ?_)
  refine lv_iconst (v := 0) K.1 K.2.1 dB_setNext_17 (by decide) ?_
  refine lv_istore_n (lv' := [(3, .int (0 : Int32)), (2, .ref (ad (24 + ((hi 11 ((0 : Int32).toNatClampNeg)).toNatClampNeg)))), (0, .ref (ad 5)), (1, .ref (ad 10))]) K.1 K.2.1 dB_setNext_18 rfl hL (by decide) rfl (fun ls hL => ?_)
  obtain ⟨fu, h⟩ := h
  exact bB_setNext_19 K hr hZ h (in_lt g2) (lv_sub hL [2, 3, 1, 0] rfl) hP hS
set_option maxRecDepth 100000 in
set_option maxHeartbeats 4000000 in
theorem mB_setNext {l : Launch} {D : va_G} {cI cJ cC cZ cR : ClassId} {ad kd sd vd : Nat → Nat} {kA lA wA : Nat} {A : Nat → Prop} (hZ : ZsOK A (ZX A kd sd vd kA lA wA)) (hD : wlD 64 ad A) {hi : HI} {hl : HL} {Φ : HI → HL → Prop} (h : wpB_setNext hi hl Φ) : SpV l yB_setNext cB_setNext 5 none gT 2 40 [.ref (ad 5), .ref (ad 10)] D cls8 (tys5 cI cJ cC cZ cR) 64 ad (GX cI cJ cC cZ cR ad kd) A (ZX A kd sd vd kA lA wA) hi hl Φ := by
  refine Met.ofW (cc := cB_setNext) (maxL := 5) (ret := none) (by decide) rfl ?_
  intro p e s m args below meth c s₁ B hml hv
  obtain ⟨rfl, hP, hK, hZs⟩ := hv
  have K : Cx p (rmX 2 40) s m _ meth c cB_setNext 5 "WordChecker$Book" gT D cls8 (tys5 cI cJ cC cZ cR) 64 ad A (ZX A kd sd vd kA lA wA) := ⟨B.exec, B.bytes, hml, findClass_of_methodNamed B.named, fun w hw => atoms_spec B.pre w (List.mem_cons_of_mem _ hw), B.notSynchronized, hK, hD, hZs⟩
  have hL := lv_entry ([.ref (ad 5), .ref (ad 10)]) (n := 5) (Nat.le_of_ble_eq_true rfl)
  rw [lg_entry_eq]
  generalize (lg_sl ([.ref (ad 5), .ref (ad 10)]) ++ List.replicate (5 - (lg_sl ([.ref (ad 5), .ref (ad 10)])).length) Slot.unset).toArray = ls at hL ⊢
  have hL : lv_has ls 5 [(0, .ref (ad 5)), (1, .ref (ad 10))] := hL
  unfold wpB_setNext at h
  exact bB_setNext_0 K B.returns hZ h (lv_sub hL [0, 1] rfl) hP va_S.rf
set_option maxRecDepth 100000 in
set_option maxHeartbeats 4000000 in
theorem bG_clear_2 {p : Program} {l : Launch} {e : Env} {s : State} {m : MethodId} {args : Array Value} {below : List Frame} {meth : Method} {c : Code} {D : va_G} {cI cJ cC cZ cR : ClassId} {ad kd sd vd : Nat → Nat} {kA lA wA : Nat} {A : Nat → Prop} (K : Cx p (rmX 0 0) s m args meth c cG_clear 2 "WordChecker$Gates" gT D cls8 (tys5 cI cJ cC cZ cR) 64 ad A (ZX A kd sd vd kA lA wA)) (hr : meth.sig.returnType = none) (hZ : ZsOK A (ZX A kd sd vd kA lA wA)) {Φ : HI → HL → Prop} {n : Nat} {v0 : Nat} {v1 : Int32} {hi : HI} {hl : HL} {H : Heap} {locs : List Loc} (h : wbG_clear_2 n v0 v1 hi hl Φ) (hv0 : v0 < 6) {ls : Array Slot} (hL : lv_has ls 2 [(0, .ref (ad (14 + v0))), (1, .int v1)]) (hP : va_P D cls8 (wl 64 ad (GX cI cJ cC cZ cR ad kd) hi hl) H) (hS : va_S A s.heap H locs) : W p l e (rmX 0 0) s m args below meth c H locs 0 0 (MQ below (va_Qv (fun (u : HI × HL) => Φ u.1 u.2) (fun u t => va_P D cls8 (wl 64 ad (GX cI cJ cC cZ cR ad kd) u.1 u.2) t.heap) A) args s 0 0 A) (F0 m 2 ls []) := by
  induction n generalizing v0 v1 hi hl ls H locs with
  | zero => exact False.elim h
  | succ n ih =>
    unfold wbG_clear_2 at h
    refine lv_iload_n K.1 K.2.1 dG_clear_2 rfl (lv_at hL 1 rfl) ?_
    refine lv_aload_n K.1 K.2.1 dG_clear_3 rfl (lv_at hL 0 rfl) ?_
    refine x_alen (v := 6) K hP (14 + v0) (lt_g hv0) 1 (GX_garr _ hv0 _ _) rfl rfl dG_clear_4 ?_
    refine lv_icmp_ge (tgt := 18) K.1 K.2.1 dG_clear_5 rfl (fun hc => ?_) (fun hc => ?_)
    · have h := h.1 hc
      exact x_vret K hr hP hS h dG_clear_18
    · have h := h.2 hc
      refine lv_aload_n K.1 K.2.1 dG_clear_8 rfl (lv_at hL 0 rfl) ?_
      refine lv_iload_n K.1 K.2.1 dG_clear_9 rfl (lv_at hL 1 rfl) ?_
      refine lv_lconst (v := 0) K.1 K.2.1 dG_clear_10 (by decide) ?_
      obtain ⟨g1, h⟩ := h
      refine x_last K hP hS (14 + v0) (lt_g hv0) 1 (fun _ => (GX_garr _ hv0 _ _)) rfl g1 dG_clear_11 (fun H locs hP hS => ?_)
      refine lv_iinc (k := 1) (lv' := [(1, .int (v1 + Int32.ofInt (1))), (0, .ref (ad (14 + v0)))]) K.1 K.2.1 dG_clear_12 hL rfl rfl (by decide) rfl (fun ls hL => ?_)
      refine lv_goto (tgt := 2) K.1 K.2.1 dG_clear_15 rfl ?_
      exact ih h hv0 (lv_sub hL [1, 0] rfl) hP hS
set_option maxRecDepth 100000 in
set_option maxHeartbeats 4000000 in
theorem bG_clear_0 {p : Program} {l : Launch} {e : Env} {s : State} {m : MethodId} {args : Array Value} {below : List Frame} {meth : Method} {c : Code} {D : va_G} {cI cJ cC cZ cR : ClassId} {ad kd sd vd : Nat → Nat} {kA lA wA : Nat} {A : Nat → Prop} (K : Cx p (rmX 0 0) s m args meth c cG_clear 2 "WordChecker$Gates" gT D cls8 (tys5 cI cJ cC cZ cR) 64 ad A (ZX A kd sd vd kA lA wA)) (hr : meth.sig.returnType = none) (hZ : ZsOK A (ZX A kd sd vd kA lA wA)) {Φ : HI → HL → Prop} {v0 : Nat} {hi : HI} {hl : HL} {H : Heap} {locs : List Loc} (h : wbG_clear_0 v0 hi hl Φ) (hv0 : v0 < 6) {ls : Array Slot} (hL : lv_has ls 2 [(0, .ref (ad (14 + v0)))]) (hP : va_P D cls8 (wl 64 ad (GX cI cJ cC cZ cR ad kd) hi hl) H) (hS : va_S A s.heap H locs) : W p l e (rmX 0 0) s m args below meth c H locs 0 0 (MQ below (va_Qv (fun (u : HI × HL) => Φ u.1 u.2) (fun u t => va_P D cls8 (wl 64 ad (GX cI cJ cC cZ cR ad kd) u.1 u.2) t.heap) A) args s 0 0 A) (F0 m 0 ls []) := by
  unfold wbG_clear_0 at h
  refine lv_iconst (v := 0) K.1 K.2.1 dG_clear_0 (by decide) ?_
  refine lv_istore_n (lv' := [(1, .int (0 : Int32)), (0, .ref (ad (14 + v0)))]) K.1 K.2.1 dG_clear_1 rfl hL (by decide) rfl (fun ls hL => ?_)
  obtain ⟨fu, h⟩ := h
  exact bG_clear_2 K hr hZ h hv0 (lv_sub hL [1, 0] rfl) hP hS
set_option maxRecDepth 100000 in
set_option maxHeartbeats 4000000 in
theorem mG_clear {l : Launch} {D : va_G} {cI cJ cC cZ cR : ClassId} {ad kd sd vd : Nat → Nat} {kA lA wA : Nat} {A : Nat → Prop} (hZ : ZsOK A (ZX A kd sd vd kA lA wA)) (hD : wlD 64 ad A) {v0 : Nat} (hv0 : v0 < 6) {hi : HI} {hl : HL} {Φ : HI → HL → Prop} (h : wpG_clear v0 hi hl Φ) : SpV l yG_clear cG_clear 2 none gT 0 0 [.ref (ad (14 + v0))] D cls8 (tys5 cI cJ cC cZ cR) 64 ad (GX cI cJ cC cZ cR ad kd) A (ZX A kd sd vd kA lA wA) hi hl Φ := by
  refine Met.ofW (cc := cG_clear) (maxL := 2) (ret := none) (by decide) rfl ?_
  intro p e s m args below meth c s₁ B hml hv
  obtain ⟨rfl, hP, hK, hZs⟩ := hv
  have K : Cx p (rmX 0 0) s m _ meth c cG_clear 2 "WordChecker$Gates" gT D cls8 (tys5 cI cJ cC cZ cR) 64 ad A (ZX A kd sd vd kA lA wA) := ⟨B.exec, B.bytes, hml, findClass_of_methodNamed B.named, fun w hw => atoms_spec B.pre w (List.mem_cons_of_mem _ hw), B.notSynchronized, hK, hD, hZs⟩
  have hL := lv_entry ([.ref (ad (14 + v0))]) (n := 2) (Nat.le_of_ble_eq_true rfl)
  rw [lg_entry_eq]
  generalize (lg_sl ([.ref (ad (14 + v0))]) ++ List.replicate (2 - (lg_sl ([.ref (ad (14 + v0))])).length) Slot.unset).toArray = ls at hL ⊢
  have hL : lv_has ls 2 [(0, .ref (ad (14 + v0)))] := hL
  unfold wpG_clear at h
  exact bG_clear_0 K B.returns hZ h hv0 (lv_sub hL [0] rfl) hP va_S.rf
set_option maxRecDepth 100000 in
set_option maxHeartbeats 4000000 in
theorem bG_choose_0 {p : Program} {l : Launch} {e : Env} {s : State} {m : MethodId} {args : Array Value} {below : List Frame} {meth : Method} {c : Code} {D : va_G} {cI cJ cC cZ cR : ClassId} {ad kd sd vd : Nat → Nat} {kA lA wA : Nat} {A : Nat → Prop} (K : Cx p (rmX 0 0) s m args meth c cG_choose 6 "WordChecker$Gates" gT D cls8 (tys5 cI cJ cC cZ cR) 64 ad A (ZX A kd sd vd kA lA wA)) (hr : meth.sig.returnType = (some .long)) (hZ : ZsOK A (ZX A kd sd vd kA lA wA)) {Φ : Int64 → HI → HL → Prop} {v0 : Int64} {v2 : Int64} {v4 : Int64} {hi : HI} {hl : HL} {H : Heap} {locs : List Loc} (h : wbG_choose_0 v0 v2 v4 hi hl Φ) {ls : Array Slot} (hL : lv_has ls 6 [(0, .long v0), (2, .long v2), (4, .long v4)]) (hP : va_P D cls8 (wl 64 ad (GX cI cJ cC cZ cR ad kd) hi hl) H) (hS : va_S A s.heap H locs) : W p l e (rmX 0 0) s m args below meth c H locs 0 0 (MQ below (va_Ql (fun r (u : HI × HL) => Φ r u.1 u.2) (fun u t => va_P D cls8 (wl 64 ad (GX cI cJ cC cZ cR ad kd) u.1 u.2) t.heap) A) args s 0 0 A) (F0 m 0 ls []) := by
  unfold wbG_choose_0 at h
  refine lv_lload_n K.1 K.2.1 dG_choose_0 rfl (lv_at hL 0 rfl) ?_
  refine lv_lload_n K.1 K.2.1 dG_choose_1 rfl (lv_at hL 1 rfl) ?_
  refine lv_land K.1 K.2.1 dG_choose_2 ?_
  refine lv_lload_n K.1 K.2.1 dG_choose_3 rfl (lv_at hL 0 rfl) ?_
  refine lv_ldc2 (v := -1) K.1 K.2.1 K.2.2.2.1 (K.2.2.2.2.1 _ clG_81) dG_choose_4 ?_
  refine lv_lxor K.1 K.2.1 dG_choose_7 ?_
  refine lv_lload K.1 K.2.1 dG_choose_8 (lv_at hL 2 rfl) ?_
  refine lv_land K.1 K.2.1 dG_choose_10 ?_
  refine lv_lor K.1 K.2.1 dG_choose_11 ?_
  exact x_lret K hr hP hS h dG_choose_12
set_option maxRecDepth 100000 in
set_option maxHeartbeats 4000000 in
theorem mG_choose {l : Launch} {D : va_G} {cI cJ cC cZ cR : ClassId} {ad kd sd vd : Nat → Nat} {kA lA wA : Nat} {A : Nat → Prop} (hZ : ZsOK A (ZX A kd sd vd kA lA wA)) (hD : wlD 64 ad A) {v0 : Int64} {v2 : Int64} {v4 : Int64} {hi : HI} {hl : HL} {Φ : Int64 → HI → HL → Prop} (h : wpG_choose v0 v2 v4 hi hl Φ) : SpJ l yG_choose cG_choose 6 (some .long) gT 0 0 [.long v0, .long v2, .long v4] D cls8 (tys5 cI cJ cC cZ cR) 64 ad (GX cI cJ cC cZ cR ad kd) A (ZX A kd sd vd kA lA wA) hi hl Φ := by
  refine Met.ofW (cc := cG_choose) (maxL := 6) (ret := (some .long)) (by decide) rfl ?_
  intro p e s m args below meth c s₁ B hml hv
  obtain ⟨rfl, hP, hK, hZs⟩ := hv
  have K : Cx p (rmX 0 0) s m _ meth c cG_choose 6 "WordChecker$Gates" gT D cls8 (tys5 cI cJ cC cZ cR) 64 ad A (ZX A kd sd vd kA lA wA) := ⟨B.exec, B.bytes, hml, findClass_of_methodNamed B.named, fun w hw => atoms_spec B.pre w (List.mem_cons_of_mem _ hw), B.notSynchronized, hK, hD, hZs⟩
  have hL := lv_entry ([.long v0, .long v2, .long v4]) (n := 6) (Nat.le_of_ble_eq_true rfl)
  rw [lg_entry_eq]
  generalize (lg_sl ([.long v0, .long v2, .long v4]) ++ List.replicate (6 - (lg_sl ([.long v0, .long v2, .long v4])).length) Slot.unset).toArray = ls at hL ⊢
  have hL : lv_has ls 6 [(0, .long v0), (2, .long v2), (4, .long v4)] := hL
  unfold wpG_choose at h
  exact bG_choose_0 K B.returns hZ h (lv_sub hL [0, 1, 2] rfl) hP va_S.rf
set_option maxRecDepth 100000 in
set_option maxHeartbeats 4000000 in
theorem bG_arrange_250 {p : Program} {l : Launch} {e : Env} {s : State} {m : MethodId} {args : Array Value} {below : List Frame} {meth : Method} {c : Code} {D : va_G} {cI cJ cC cZ cR : ClassId} {ad kd sd vd : Nat → Nat} {kA lA wA : Nat} {A : Nat → Prop} (K : Cx p (rmX 1 25) s m args meth c cG_arrange 4 "WordChecker$Gates" gT D cls8 (tys5 cI cJ cC cZ cR) 64 ad A (ZX A kd sd vd kA lA wA)) (hr : meth.sig.returnType = none) (hZ : ZsOK A (ZX A kd sd vd kA lA wA)) {Φ : HI → HL → Prop} {k9 : Int32 → Int32 → Int32 → HI → HL → Prop} (hk9 : ∀ (v1 : Int32) (v2 : Int32) (v3 : Int32) (hi : HI) (hl : HL) (ls : Array Slot) (H : Heap) (locs : List Loc), k9 v1 v2 v3 hi hl → lv_has ls 4 [(0, .ref (ad 13)), (1, .ref (kd (v1.toNatClampNeg))), (2, .int v2), (3, .int v3)] → va_P D cls8 (wl 64 ad (GX cI cJ cC cZ cR ad kd) hi hl) H → va_S A s.heap H locs → W p l e (rmX 1 25) s m args below meth c H locs 0 0 (MQ below (va_Qv (fun (u : HI × HL) => Φ u.1 u.2) (fun u t => va_P D cls8 (wl 64 ad (GX cI cJ cC cZ cR ad kd) u.1 u.2) t.heap) A) args s 0 0 A) (F0 m 9 ls [])) {v1 : Int32} {v2 : Int32} {v3 : Int32} {hi : HI} {hl : HL} {H : Heap} {locs : List Loc} (h : wbG_arrange_250 k9 v1 v2 v3 hi hl Φ) {ls : Array Slot} (hL : lv_has ls 4 [(0, .ref (ad 13)), (1, .ref (kd (v1.toNatClampNeg))), (2, .int v2), (3, .int v3)]) (hP : va_P D cls8 (wl 64 ad (GX cI cJ cC cZ cR ad kd) hi hl) H) (hS : va_S A s.heap H locs) : W p l e (rmX 1 25) s m args below meth c H locs 0 0 (MQ below (va_Qv (fun (u : HI × HL) => Φ u.1 u.2) (fun u t => va_P D cls8 (wl 64 ad (GX cI cJ cC cZ cR ad kd) u.1 u.2) t.heap) A) args s 0 0 A) (F0 m 250 ls []) := by
  unfold wbG_arrange_250 at h
  refine lv_iinc (k := 3) (lv' := [(3, .int (v3 + Int32.ofInt (1))), (0, .ref (ad 13)), (1, .ref (kd (v1.toNatClampNeg))), (2, .int v2)]) K.1 K.2.1 dG_arrange_250 hL rfl rfl (by decide) rfl (fun ls hL => ?_)
  refine lv_goto (tgt := 9) K.1 K.2.1 dG_arrange_253 rfl ?_
  exact hk9 _ _ _ _ _ _ _ _ h (lv_sub hL [1, 2, 3, 0] rfl) hP hS
set_option maxRecDepth 100000 in
set_option maxHeartbeats 4000000 in
theorem bG_arrange_93 {p : Program} {l : Launch} {e : Env} {s : State} {m : MethodId} {args : Array Value} {below : List Frame} {meth : Method} {c : Code} {D : va_G} {cI cJ cC cZ cR : ClassId} {ad kd sd vd : Nat → Nat} {kA lA wA : Nat} {A : Nat → Prop} (K : Cx p (rmX 1 25) s m args meth c cG_arrange 4 "WordChecker$Gates" gT D cls8 (tys5 cI cJ cC cZ cR) 64 ad A (ZX A kd sd vd kA lA wA)) (hr : meth.sig.returnType = none) (hZ : ZsOK A (ZX A kd sd vd kA lA wA)) {Φ : HI → HL → Prop} {k9 : Int32 → Int32 → Int32 → HI → HL → Prop} (hk9 : ∀ (v1 : Int32) (v2 : Int32) (v3 : Int32) (hi : HI) (hl : HL) (ls : Array Slot) (H : Heap) (locs : List Loc), k9 v1 v2 v3 hi hl → lv_has ls 4 [(0, .ref (ad 13)), (1, .ref (kd (v1.toNatClampNeg))), (2, .int v2), (3, .int v3)] → va_P D cls8 (wl 64 ad (GX cI cJ cC cZ cR ad kd) hi hl) H → va_S A s.heap H locs → W p l e (rmX 1 25) s m args below meth c H locs 0 0 (MQ below (va_Qv (fun (u : HI × HL) => Φ u.1 u.2) (fun u t => va_P D cls8 (wl 64 ad (GX cI cJ cC cZ cR ad kd) u.1 u.2) t.heap) A) args s 0 0 A) (F0 m 9 ls [])) {v1 : Int32} {v2 : Int32} {v3 : Int32} {q0 : Nat} {q1 : Int32} {q2 : Int64} {hi : HI} {hl : HL} {H : Heap} {locs : List Loc} (h : wbG_arrange_93 k9 v1 v2 v3 q0 q1 q2 hi hl Φ) (hq0 : q0 < 6) {ls : Array Slot} (hL : lv_has ls 4 [(0, .ref (ad 13)), (1, .ref (kd (v1.toNatClampNeg))), (2, .int v2), (3, .int v3)]) (hP : va_P D cls8 (wl 64 ad (GX cI cJ cC cZ cR ad kd) hi hl) H) (hS : va_S A s.heap H locs) : W p l e (rmX 1 25) s m args below meth c H locs 0 0 (MQ below (va_Qv (fun (u : HI × HL) => Φ u.1 u.2) (fun u t => va_P D cls8 (wl 64 ad (GX cI cJ cC cZ cR ad kd) u.1 u.2) t.heap) A) args s 0 0 A) (F0 m 93 ls [.long q2, .int q1, .ref (ad (14 + q0))]) := by
  unfold wbG_arrange_93 at h
  obtain ⟨g1, h⟩ := h
  refine x_last K hP hS (14 + q0) (lt_g hq0) 1 (fun _ => (GX_garr _ hq0 _ _)) rfl g1 dG_arrange_93 (fun H locs hP hS => ?_)
  refine lv_goto (tgt := 250) K.1 K.2.1 dG_arrange_94 rfl ?_
  exact bG_arrange_250 K hr hZ hk9 h (lv_sub hL [0, 1, 2, 3] rfl) hP hS
set_option maxRecDepth 100000 in
set_option maxHeartbeats 4000000 in
theorem bG_arrange_138 {p : Program} {l : Launch} {e : Env} {s : State} {m : MethodId} {args : Array Value} {below : List Frame} {meth : Method} {c : Code} {D : va_G} {cI cJ cC cZ cR : ClassId} {ad kd sd vd : Nat → Nat} {kA lA wA : Nat} {A : Nat → Prop} (K : Cx p (rmX 1 25) s m args meth c cG_arrange 4 "WordChecker$Gates" gT D cls8 (tys5 cI cJ cC cZ cR) 64 ad A (ZX A kd sd vd kA lA wA)) (hr : meth.sig.returnType = none) (hZ : ZsOK A (ZX A kd sd vd kA lA wA)) {Φ : HI → HL → Prop} {k9 : Int32 → Int32 → Int32 → HI → HL → Prop} (hk9 : ∀ (v1 : Int32) (v2 : Int32) (v3 : Int32) (hi : HI) (hl : HL) (ls : Array Slot) (H : Heap) (locs : List Loc), k9 v1 v2 v3 hi hl → lv_has ls 4 [(0, .ref (ad 13)), (1, .ref (kd (v1.toNatClampNeg))), (2, .int v2), (3, .int v3)] → va_P D cls8 (wl 64 ad (GX cI cJ cC cZ cR ad kd) hi hl) H → va_S A s.heap H locs → W p l e (rmX 1 25) s m args below meth c H locs 0 0 (MQ below (va_Qv (fun (u : HI × HL) => Φ u.1 u.2) (fun u t => va_P D cls8 (wl 64 ad (GX cI cJ cC cZ cR ad kd) u.1 u.2) t.heap) A) args s 0 0 A) (F0 m 9 ls [])) {v1 : Int32} {v2 : Int32} {v3 : Int32} {q0 : Nat} {q1 : Int32} {q2 : Int64} {hi : HI} {hl : HL} {H : Heap} {locs : List Loc} (h : wbG_arrange_138 k9 v1 v2 v3 q0 q1 q2 hi hl Φ) (hq0 : q0 < 6) {ls : Array Slot} (hL : lv_has ls 4 [(0, .ref (ad 13)), (1, .ref (kd (v1.toNatClampNeg))), (2, .int v2), (3, .int v3)]) (hP : va_P D cls8 (wl 64 ad (GX cI cJ cC cZ cR ad kd) hi hl) H) (hS : va_S A s.heap H locs) : W p l e (rmX 1 25) s m args below meth c H locs 0 0 (MQ below (va_Qv (fun (u : HI × HL) => Φ u.1 u.2) (fun u t => va_P D cls8 (wl 64 ad (GX cI cJ cC cZ cR ad kd) u.1 u.2) t.heap) A) args s 0 0 A) (F0 m 138 ls [.long q2, .int q1, .ref (ad (14 + q0))]) := by
  unfold wbG_arrange_138 at h
  obtain ⟨g1, h⟩ := h
  refine x_last K hP hS (14 + q0) (lt_g hq0) 1 (fun _ => (GX_garr _ hq0 _ _)) rfl g1 dG_arrange_138 (fun H locs hP hS => ?_)
  refine lv_goto (tgt := 250) K.1 K.2.1 dG_arrange_139 rfl ?_
  exact bG_arrange_250 K hr hZ hk9 h (lv_sub hL [0, 1, 2, 3] rfl) hP hS
set_option maxRecDepth 100000 in
set_option maxHeartbeats 4000000 in
theorem bG_arrange_118 {p : Program} {l : Launch} {e : Env} {s : State} {m : MethodId} {args : Array Value} {below : List Frame} {meth : Method} {c : Code} {D : va_G} {cI cJ cC cZ cR : ClassId} {ad kd sd vd : Nat → Nat} {kA lA wA : Nat} {A : Nat → Prop} (K : Cx p (rmX 1 25) s m args meth c cG_arrange 4 "WordChecker$Gates" gT D cls8 (tys5 cI cJ cC cZ cR) 64 ad A (ZX A kd sd vd kA lA wA)) (hr : meth.sig.returnType = none) (hZ : ZsOK A (ZX A kd sd vd kA lA wA)) {Φ : HI → HL → Prop} {k9 : Int32 → Int32 → Int32 → HI → HL → Prop} (hk9 : ∀ (v1 : Int32) (v2 : Int32) (v3 : Int32) (hi : HI) (hl : HL) (ls : Array Slot) (H : Heap) (locs : List Loc), k9 v1 v2 v3 hi hl → lv_has ls 4 [(0, .ref (ad 13)), (1, .ref (kd (v1.toNatClampNeg))), (2, .int v2), (3, .int v3)] → va_P D cls8 (wl 64 ad (GX cI cJ cC cZ cR ad kd) hi hl) H → va_S A s.heap H locs → W p l e (rmX 1 25) s m args below meth c H locs 0 0 (MQ below (va_Qv (fun (u : HI × HL) => Φ u.1 u.2) (fun u t => va_P D cls8 (wl 64 ad (GX cI cJ cC cZ cR ad kd) u.1 u.2) t.heap) A) args s 0 0 A) (F0 m 9 ls [])) {v1 : Int32} {v2 : Int32} {v3 : Int32} {q0 : Nat} {q1 : Int32} {hi : HI} {hl : HL} {H : Heap} {locs : List Loc} (h : wbG_arrange_118 k9 v1 v2 v3 q0 q1 hi hl Φ) (hq0 : q0 < 6) {ls : Array Slot} (hL : lv_has ls 4 [(0, .ref (ad 13)), (1, .ref (kd (v1.toNatClampNeg))), (2, .int v2), (3, .int v3)]) (hP : va_P D cls8 (wl 64 ad (GX cI cJ cC cZ cR ad kd) hi hl) H) (hS : va_S A s.heap H locs) : W p l e (rmX 1 25) s m args below meth c H locs 0 0 (MQ below (va_Qv (fun (u : HI × HL) => Φ u.1 u.2) (fun u t => va_P D cls8 (wl 64 ad (GX cI cJ cC cZ cR ad kd) u.1 u.2) t.heap) A) args s 0 0 A) (F0 m 118 ls [.int q1, .ref (ad (14 + q0))]) := by
  unfold wbG_arrange_118 at h
  refine lv_aload_n K.1 K.2.1 dG_arrange_118 rfl (lv_at hL 0 rfl) ?_
  refine x_get (v := .ref (ad 14)) K hP hinG (ci := 4) rfl 13 (by decide) rfl 0 (by decide) flG_9 rfl rfl dG_arrange_119 ?_
  refine lv_iload_n K.1 K.2.1 dG_arrange_122 rfl (lv_at hL 3 rfl) ?_
  obtain ⟨g1, h⟩ := h
  refine x_lald K hP 14 (by decide) 1 rfl rfl g1 dG_arrange_123 ?_
  refine lv_goto (tgt := 138) K.1 K.2.1 dG_arrange_124 rfl ?_
  exact bG_arrange_138 K hr hZ hk9 h hq0 (lv_sub hL [0, 1, 2, 3] rfl) hP hS
set_option maxRecDepth 100000 in
set_option maxHeartbeats 4000000 in
theorem bG_arrange_234 {p : Program} {l : Launch} {e : Env} {s : State} {m : MethodId} {args : Array Value} {below : List Frame} {meth : Method} {c : Code} {D : va_G} {cI cJ cC cZ cR : ClassId} {ad kd sd vd : Nat → Nat} {kA lA wA : Nat} {A : Nat → Prop} (K : Cx p (rmX 1 25) s m args meth c cG_arrange 4 "WordChecker$Gates" gT D cls8 (tys5 cI cJ cC cZ cR) 64 ad A (ZX A kd sd vd kA lA wA)) (hr : meth.sig.returnType = none) (hZ : ZsOK A (ZX A kd sd vd kA lA wA)) {Φ : HI → HL → Prop} {k9 : Int32 → Int32 → Int32 → HI → HL → Prop} (hk9 : ∀ (v1 : Int32) (v2 : Int32) (v3 : Int32) (hi : HI) (hl : HL) (ls : Array Slot) (H : Heap) (locs : List Loc), k9 v1 v2 v3 hi hl → lv_has ls 4 [(0, .ref (ad 13)), (1, .ref (kd (v1.toNatClampNeg))), (2, .int v2), (3, .int v3)] → va_P D cls8 (wl 64 ad (GX cI cJ cC cZ cR ad kd) hi hl) H → va_S A s.heap H locs → W p l e (rmX 1 25) s m args below meth c H locs 0 0 (MQ below (va_Qv (fun (u : HI × HL) => Φ u.1 u.2) (fun u t => va_P D cls8 (wl 64 ad (GX cI cJ cC cZ cR ad kd) u.1 u.2) t.heap) A) args s 0 0 A) (F0 m 9 ls [])) {v1 : Int32} {v2 : Int32} {v3 : Int32} {q0 : Nat} {q1 : Int32} {q2 : Int64} {hi : HI} {hl : HL} {H : Heap} {locs : List Loc} (h : wbG_arrange_234 k9 v1 v2 v3 q0 q1 q2 hi hl Φ) (hq0 : q0 < 6) {ls : Array Slot} (hL : lv_has ls 4 [(0, .ref (ad 13)), (1, .ref (kd (v1.toNatClampNeg))), (2, .int v2), (3, .int v3)]) (hP : va_P D cls8 (wl 64 ad (GX cI cJ cC cZ cR ad kd) hi hl) H) (hS : va_S A s.heap H locs) : W p l e (rmX 1 25) s m args below meth c H locs 0 0 (MQ below (va_Qv (fun (u : HI × HL) => Φ u.1 u.2) (fun u t => va_P D cls8 (wl 64 ad (GX cI cJ cC cZ cR ad kd) u.1 u.2) t.heap) A) args s 0 0 A) (F0 m 234 ls [.long q2, .int q1, .ref (ad (14 + q0))]) := by
  unfold wbG_arrange_234 at h
  obtain ⟨g1, h⟩ := h
  refine x_last K hP hS (14 + q0) (lt_g hq0) 1 (fun _ => (GX_garr _ hq0 _ _)) rfl g1 dG_arrange_234 (fun H locs hP hS => ?_)
  refine lv_goto (tgt := 250) K.1 K.2.1 dG_arrange_235 rfl ?_
  exact bG_arrange_250 K hr hZ hk9 h (lv_sub hL [0, 1, 2, 3] rfl) hP hS
set_option maxRecDepth 100000 in
set_option maxHeartbeats 4000000 in
theorem bG_arrange_9 {p : Program} {l : Launch} {e : Env} {s : State} {m : MethodId} {args : Array Value} {below : List Frame} {meth : Method} {c : Code} {D : va_G} {cI cJ cC cZ cR : ClassId} {ad kd sd vd : Nat → Nat} {kA lA wA : Nat} {A : Nat → Prop} (K : Cx p (rmX 1 25) s m args meth c cG_arrange 4 "WordChecker$Gates" gT D cls8 (tys5 cI cJ cC cZ cR) 64 ad A (ZX A kd sd vd kA lA wA)) (hr : meth.sig.returnType = none) (hZ : ZsOK A (ZX A kd sd vd kA lA wA)) {Φ : HI → HL → Prop} {n : Nat} {v1 : Int32} {v2 : Int32} {v3 : Int32} {hi : HI} {hl : HL} {H : Heap} {locs : List Loc} (h : wbG_arrange_9 n v1 v2 v3 hi hl Φ) {ls : Array Slot} (hL : lv_has ls 4 [(0, .ref (ad 13)), (1, .ref (kd (v1.toNatClampNeg))), (2, .int v2), (3, .int v3)]) (hP : va_P D cls8 (wl 64 ad (GX cI cJ cC cZ cR ad kd) hi hl) H) (hS : va_S A s.heap H locs) : W p l e (rmX 1 25) s m args below meth c H locs 0 0 (MQ below (va_Qv (fun (u : HI × HL) => Φ u.1 u.2) (fun u t => va_P D cls8 (wl 64 ad (GX cI cJ cC cZ cR ad kd) u.1 u.2) t.heap) A) args s 0 0 A) (F0 m 9 ls []) := by
  induction n generalizing v1 v2 v3 hi hl ls H locs with
  | zero => exact False.elim h
  | succ n ih =>
    unfold wbG_arrange_9 at h
    refine lv_iload_n K.1 K.2.1 dG_arrange_9 rfl (lv_at hL 3 rfl) ?_
    refine lv_aload_n K.1 K.2.1 dG_arrange_10 rfl (lv_at hL 0 rfl) ?_
    refine x_get (v := .int (hi 13 6)) K hP hinG (ci := 4) rfl 13 (by decide) rfl 6 (by decide) flG_40 rfl rfl dG_arrange_11 ?_
    refine lv_icmp_ge (tgt := 256) K.1 K.2.1 dG_arrange_14 rfl (fun hc => ?_) (fun hc => ?_)
    · have h := h.1 hc
      exact x_vret K hr hP hS h dG_arrange_256
    · have h := h.2 hc
      refine x_gets (v := .ref wA) K hS K.2.2.2.2.2.2.2.2.2.1.2.2.2.2.1 flG_83 dG_arrange_17 ?_
      refine lv_aload_n K.1 K.2.1 dG_arrange_20 rfl (lv_at hL 1 rfl) ?_
      obtain ⟨g1, h⟩ := h
      refine x_ord (x := v1) (rest := [.ref wA]) K hP hS g1 mlG_92 ⟨Nat.le_of_ble_eq_true rfl, Nat.le_of_ble_eq_true rfl⟩ hL.1 (Nat.le_of_ble_eq_true rfl) dG_arrange_21 (fun H locs hP hS => ?_)
      obtain ⟨g2, h⟩ := h
      refine va_ti (v := .int (swC (v1.toNatClampNeg))) K.1 K.2.1 K.2.2.2.2.2.2.2.2.2.1.2.2.2.2.2.1 hS g2 rfl dG_arrange_24 ?_
      by_cases hc0 : (swC (v1.toNatClampNeg)) = 19
      · have h := h.1 hc0
        refine lv_tableIn (off := 35) (tgt := 60) K.1 K.2.1 dG_arrange_25 (by rw [hc0]; decide) (by rw [hc0]; decide) (by rw [hc0]; rfl) rfl ?_
        refine lv_aload_n K.1 K.2.1 dG_arrange_60 rfl (lv_at hL 0 rfl) ?_
        refine x_get (v := .ref (ad 17)) K hP hinG (ci := 4) rfl 13 (by decide) rfl 3 (by decide) flG_21 rfl rfl dG_arrange_61 ?_
        refine lv_iload_n K.1 K.2.1 dG_arrange_64 rfl (lv_at hL 3 rfl) ?_
        refine lv_iload_n K.1 K.2.1 dG_arrange_65 rfl (lv_at hL 3 rfl) ?_
        refine lv_aload_n K.1 K.2.1 dG_arrange_66 rfl (lv_at hL 0 rfl) ?_
        refine x_get (v := .int (hi 13 8)) K hP hinG (ci := 4) rfl 13 (by decide) rfl 8 (by decide) flG_50 rfl rfl dG_arrange_67 ?_
        refine lv_icmp_ge (tgt := 82) K.1 K.2.1 dG_arrange_70 rfl (fun hc => ?_) (fun hc => ?_)
        · have h := h.1 hc
          refine lv_aload_n K.1 K.2.1 dG_arrange_82 rfl (lv_at hL 0 rfl) ?_
          refine x_get (v := .ref (ad 14)) K hP hinG (ci := 4) rfl 13 (by decide) rfl 0 (by decide) flG_9 rfl rfl dG_arrange_83 ?_
          refine lv_iload_n K.1 K.2.1 dG_arrange_86 rfl (lv_at hL 3 rfl) ?_
          refine lv_aload_n K.1 K.2.1 dG_arrange_87 rfl (lv_at hL 0 rfl) ?_
          refine x_get (v := .int (hi 13 8)) K hP hinG (ci := 4) rfl 13 (by decide) rfl 8 (by decide) flG_50 rfl rfl dG_arrange_88 ?_
          refine lv_isub K.1 K.2.1 dG_arrange_91 ?_
          obtain ⟨g3, h⟩ := h
          refine x_lald K hP 14 (by decide) 1 rfl rfl g3 dG_arrange_92 ?_
          exact bG_arrange_93 K hr hZ (fun v1 v2 v3 hi hl ls H locs h hL hP hS => ih h hL hP hS) h (by decide) (lv_sub hL [0, 1, 2, 3] rfl) hP hS
        · have h := h.2 hc
          refine lv_aload_n K.1 K.2.1 dG_arrange_73 rfl (lv_at hL 0 rfl) ?_
          refine x_get (v := .ref (ad 15)) K hP hinG (ci := 4) rfl 13 (by decide) rfl 1 (by decide) flG_15 rfl rfl dG_arrange_74 ?_
          refine lv_iload_n K.1 K.2.1 dG_arrange_77 rfl (lv_at hL 3 rfl) ?_
          obtain ⟨g4, h⟩ := h
          refine x_lald K hP 15 (by decide) 1 rfl rfl g4 dG_arrange_78 ?_
          refine lv_goto (tgt := 93) K.1 K.2.1 dG_arrange_79 rfl ?_
          exact bG_arrange_93 K hr hZ (fun v1 v2 v3 hi hl ls H locs h hL hP hS => ih h hL hP hS) h (by decide) (lv_sub hL [0, 1, 2, 3] rfl) hP hS
      by_cases hc1 : (swC (v1.toNatClampNeg)) = 20
      · have h := h.2.1 hc1
        refine lv_tableIn (off := 213) (tgt := 238) K.1 K.2.1 dG_arrange_25 (by rw [hc1]; decide) (by rw [hc1]; decide) (by rw [hc1]; rfl) rfl ?_
        refine lv_aload_n K.1 K.2.1 dG_arrange_238 rfl (lv_at hL 0 rfl) ?_
        refine x_get (v := .ref (ad 17)) K hP hinG (ci := 4) rfl 13 (by decide) rfl 3 (by decide) flG_21 rfl rfl dG_arrange_239 ?_
        refine lv_iload_n K.1 K.2.1 dG_arrange_242 rfl (lv_at hL 3 rfl) ?_
        refine lv_aload_n K.1 K.2.1 dG_arrange_243 rfl (lv_at hL 0 rfl) ?_
        refine x_get (v := .ref (ad 14)) K hP hinG (ci := 4) rfl 13 (by decide) rfl 0 (by decide) flG_9 rfl rfl dG_arrange_244 ?_
        refine lv_iload_n K.1 K.2.1 dG_arrange_247 rfl (lv_at hL 3 rfl) ?_
        obtain ⟨g5, h⟩ := h
        refine x_lald K hP 14 (by decide) 1 rfl rfl g5 dG_arrange_248 ?_
        obtain ⟨g6, h⟩ := h
        refine x_last K hP hS 17 (by decide) 1 (fun _ => rfl) rfl g6 dG_arrange_249 (fun H locs hP hS => ?_)
        exact bG_arrange_250 K hr hZ (fun v1 v2 v3 hi hl ls H locs h hL hP hS => ih h hL hP hS) h (lv_sub hL [0, 1, 2, 3] rfl) hP hS
      by_cases hc2 : (swC (v1.toNatClampNeg)) = 21
      · have h := h.2.2.1 hc2
        refine lv_tableIn (off := 72) (tgt := 97) K.1 K.2.1 dG_arrange_25 (by rw [hc2]; decide) (by rw [hc2]; decide) (by rw [hc2]; rfl) rfl ?_
        refine lv_aload_n K.1 K.2.1 dG_arrange_97 rfl (lv_at hL 0 rfl) ?_
        refine x_get (v := .ref (ad 17)) K hP hinG (ci := 4) rfl 13 (by decide) rfl 3 (by decide) flG_21 rfl rfl dG_arrange_98 ?_
        refine lv_iload_n K.1 K.2.1 dG_arrange_101 rfl (lv_at hL 3 rfl) ?_
        refine lv_iload_n K.1 K.2.1 dG_arrange_102 rfl (lv_at hL 3 rfl) ?_
        refine lv_aload_n K.1 K.2.1 dG_arrange_103 rfl (lv_at hL 0 rfl) ?_
        refine x_get (v := .int (hi 13 7)) K hP hinG (ci := 4) rfl 13 (by decide) rfl 7 (by decide) flG_47 rfl rfl dG_arrange_104 ?_
        refine lv_icmp_lt (tgt := 118) K.1 K.2.1 dG_arrange_107 rfl (fun hc => ?_) (fun hc => ?_)
        · have h := h.1 hc
          exact bG_arrange_118 K hr hZ (fun v1 v2 v3 hi hl ls H locs h hL hP hS => ih h hL hP hS) h (by decide) (lv_sub hL [0, 1, 2, 3] rfl) hP hS
        · have h := h.2 hc
          refine lv_aload_n K.1 K.2.1 dG_arrange_110 rfl (lv_at hL 0 rfl) ?_
          refine x_get (v := .int (hi 13 7)) K hP hinG (ci := 4) rfl 13 (by decide) rfl 7 (by decide) flG_47 rfl rfl dG_arrange_111 ?_
          refine lv_iconst (v := 1) K.1 K.2.1 dG_arrange_114 (by decide) ?_
          refine lv_icmp_ge (tgt := 127) K.1 K.2.1 dG_arrange_115 rfl (fun hc => ?_) (fun hc => ?_)
          · have h := h.1 hc
            refine lv_aload_n K.1 K.2.1 dG_arrange_127 rfl (lv_at hL 0 rfl) ?_
            refine x_get (v := .ref (ad 14)) K hP hinG (ci := 4) rfl 13 (by decide) rfl 0 (by decide) flG_9 rfl rfl dG_arrange_128 ?_
            refine lv_aload_n K.1 K.2.1 dG_arrange_131 rfl (lv_at hL 0 rfl) ?_
            refine x_get (v := .int (hi 13 7)) K hP hinG (ci := 4) rfl 13 (by decide) rfl 7 (by decide) flG_47 rfl rfl dG_arrange_132 ?_
            refine lv_iconst (v := 1) K.1 K.2.1 dG_arrange_135 (by decide) ?_
            refine lv_isub K.1 K.2.1 dG_arrange_136 ?_
            obtain ⟨g7, h⟩ := h
            refine x_lald K hP 14 (by decide) 1 rfl rfl g7 dG_arrange_137 ?_
            exact bG_arrange_138 K hr hZ (fun v1 v2 v3 hi hl ls H locs h hL hP hS => ih h hL hP hS) h (by decide) (lv_sub hL [0, 1, 2, 3] rfl) hP hS
          · have h := h.2 hc
            exact bG_arrange_118 K hr hZ (fun v1 v2 v3 hi hl ls H locs h hL hP hS => ih h hL hP hS) h (by decide) (lv_sub hL [0, 1, 2, 3] rfl) hP hS
      by_cases hc3 : (swC (v1.toNatClampNeg)) = 22
      · have h := h.2.2.2.1 hc3
        refine lv_tableIn (off := 117) (tgt := 142) K.1 K.2.1 dG_arrange_25 (by rw [hc3]; decide) (by rw [hc3]; decide) (by rw [hc3]; rfl) rfl ?_
        refine lv_aload_n K.1 K.2.1 dG_arrange_142 rfl (lv_at hL 0 rfl) ?_
        refine x_get (v := .ref (ad 17)) K hP hinG (ci := 4) rfl 13 (by decide) rfl 3 (by decide) flG_21 rfl rfl dG_arrange_143 ?_
        refine lv_iload_n K.1 K.2.1 dG_arrange_146 rfl (lv_at hL 3 rfl) ?_
        refine lv_aload_n K.1 K.2.1 dG_arrange_147 rfl (lv_at hL 0 rfl) ?_
        refine x_get (v := .ref (ad 15)) K hP hinG (ci := 4) rfl 13 (by decide) rfl 1 (by decide) flG_15 rfl rfl dG_arrange_148 ?_
        refine lv_iconst (v := 0) K.1 K.2.1 dG_arrange_151 (by decide) ?_
        obtain ⟨g8, h⟩ := h
        refine x_lald K hP 15 (by decide) 1 rfl rfl g8 dG_arrange_152 ?_
        refine lv_aload_n K.1 K.2.1 dG_arrange_153 rfl (lv_at hL 0 rfl) ?_
        refine x_get (v := .ref (ad 14)) K hP hinG (ci := 4) rfl 13 (by decide) rfl 0 (by decide) flG_9 rfl rfl dG_arrange_154 ?_
        refine lv_aload_n K.1 K.2.1 dG_arrange_157 rfl (lv_at hL 0 rfl) ?_
        refine x_get (v := .int (hi 13 6)) K hP hinG (ci := 4) rfl 13 (by decide) rfl 6 (by decide) flG_40 rfl rfl dG_arrange_158 ?_
        refine lv_iload_n K.1 K.2.1 dG_arrange_161 rfl (lv_at hL 3 rfl) ?_
        refine lv_iadd K.1 K.2.1 dG_arrange_162 ?_
        obtain ⟨g9, h⟩ := h
        refine x_lald K hP 14 (by decide) 1 rfl rfl g9 dG_arrange_163 ?_
        refine lv_aload_n K.1 K.2.1 dG_arrange_164 rfl (lv_at hL 0 rfl) ?_
        refine x_get (v := .ref (ad 14)) K hP hinG (ci := 4) rfl 13 (by decide) rfl 0 (by decide) flG_9 rfl rfl dG_arrange_165 ?_
        refine lv_iload_n K.1 K.2.1 dG_arrange_168 rfl (lv_at hL 3 rfl) ?_
        obtain ⟨g10, h⟩ := h
        refine x_lald K hP 14 (by decide) 1 rfl rfl g10 dG_arrange_169 ?_
        refine x_cSJ (As := [.long (hl 15 ((0 : Int32).toNatClampNeg)), .long (hl 14 (((hi 13 6) + v3).toNatClampNeg)), .long (hl 14 (v3.toNatClampNeg))]) (rest := [.int v3, .ref (ad 17)]) K gT_good hZ hP hS calG_choose mlG_130 (mG_choose hZ K.2.2.2.2.2.2.2.1 h) ⟨Nat.le_of_ble_eq_true rfl, Nat.le_of_ble_eq_true rfl⟩ rfl hL.1 rfl (Nat.le_of_ble_eq_true rfl) dG_arrange_170 (fun r11 hi12 hl13 H locs h hP hS => ?_)
        obtain ⟨g14, h⟩ := h
        refine x_last K hP hS 17 (by decide) 1 (fun _ => rfl) rfl g14 dG_arrange_173 (fun H locs hP hS => ?_)
        refine lv_goto (tgt := 250) K.1 K.2.1 dG_arrange_174 rfl ?_
        exact bG_arrange_250 K hr hZ (fun v1 v2 v3 hi hl ls H locs h hL hP hS => ih h hL hP hS) h (lv_sub hL [0, 1, 2, 3] rfl) hP hS
      by_cases hc4 : (swC (v1.toNatClampNeg)) = 23
      · have h := h.2.2.2.2.1 hc4
        refine lv_tableIn (off := 152) (tgt := 177) K.1 K.2.1 dG_arrange_25 (by rw [hc4]; decide) (by rw [hc4]; decide) (by rw [hc4]; rfl) rfl ?_
        refine lv_aload_n K.1 K.2.1 dG_arrange_177 rfl (lv_at hL 0 rfl) ?_
        refine x_get (v := .ref (ad 17)) K hP hinG (ci := 4) rfl 13 (by decide) rfl 3 (by decide) flG_21 rfl rfl dG_arrange_178 ?_
        refine lv_iload_n K.1 K.2.1 dG_arrange_181 rfl (lv_at hL 3 rfl) ?_
        refine lv_iload_n K.1 K.2.1 dG_arrange_182 rfl (lv_at hL 3 rfl) ?_
        refine lv_iload_n K.1 K.2.1 dG_arrange_183 rfl (lv_at hL 2 rfl) ?_
        refine lv_icmp_ge (tgt := 211) K.1 K.2.1 dG_arrange_184 rfl (fun hc => ?_) (fun hc => ?_)
        · have h := h.1 hc
          refine lv_aload_n K.1 K.2.1 dG_arrange_211 rfl (lv_at hL 0 rfl) ?_
          refine x_get (v := .ref (ad 15)) K hP hinG (ci := 4) rfl 13 (by decide) rfl 1 (by decide) flG_15 rfl rfl dG_arrange_212 ?_
          refine lv_iconst (v := 0) K.1 K.2.1 dG_arrange_215 (by decide) ?_
          obtain ⟨g15, h⟩ := h
          refine x_lald K hP 15 (by decide) 1 rfl rfl g15 dG_arrange_216 ?_
          refine lv_aload_n K.1 K.2.1 dG_arrange_217 rfl (lv_at hL 0 rfl) ?_
          refine x_get (v := .ref (ad 16)) K hP hinG (ci := 4) rfl 13 (by decide) rfl 2 (by decide) flG_18 rfl rfl dG_arrange_218 ?_
          refine lv_iload_n K.1 K.2.1 dG_arrange_221 rfl (lv_at hL 3 rfl) ?_
          refine lv_iload_n K.1 K.2.1 dG_arrange_222 rfl (lv_at hL 2 rfl) ?_
          refine lv_isub K.1 K.2.1 dG_arrange_223 ?_
          obtain ⟨g16, h⟩ := h
          refine x_lald K hP 16 (by decide) 1 rfl rfl g16 dG_arrange_224 ?_
          refine lv_aload_n K.1 K.2.1 dG_arrange_225 rfl (lv_at hL 0 rfl) ?_
          refine x_get (v := .ref (ad 14)) K hP hinG (ci := 4) rfl 13 (by decide) rfl 0 (by decide) flG_9 rfl rfl dG_arrange_226 ?_
          refine lv_iload_n K.1 K.2.1 dG_arrange_229 rfl (lv_at hL 3 rfl) ?_
          obtain ⟨g17, h⟩ := h
          refine x_lald K hP 14 (by decide) 1 rfl rfl g17 dG_arrange_230 ?_
          refine x_cSJ (As := [.long (hl 15 ((0 : Int32).toNatClampNeg)), .long (hl 16 ((v3 - v2).toNatClampNeg)), .long (hl 14 (v3.toNatClampNeg))]) (rest := [.int v3, .ref (ad 17)]) K gT_good hZ hP hS calG_choose mlG_130 (mG_choose hZ K.2.2.2.2.2.2.2.1 h) ⟨Nat.le_of_ble_eq_true rfl, Nat.le_of_ble_eq_true rfl⟩ rfl hL.1 rfl (Nat.le_of_ble_eq_true rfl) dG_arrange_231 (fun r18 hi19 hl20 H locs h hP hS => ?_)
          exact bG_arrange_234 K hr hZ (fun v1 v2 v3 hi hl ls H locs h hL hP hS => ih h hL hP hS) h (by decide) (lv_sub hL [0, 1, 2, 3] rfl) hP hS
        · have h := h.2 hc
          refine lv_aload_n K.1 K.2.1 dG_arrange_187 rfl (lv_at hL 0 rfl) ?_
          refine x_get (v := .ref (ad 15)) K hP hinG (ci := 4) rfl 13 (by decide) rfl 1 (by decide) flG_15 rfl rfl dG_arrange_188 ?_
          refine lv_iconst (v := 0) K.1 K.2.1 dG_arrange_191 (by decide) ?_
          obtain ⟨g21, h⟩ := h
          refine x_lald K hP 15 (by decide) 1 rfl rfl g21 dG_arrange_192 ?_
          refine lv_aload_n K.1 K.2.1 dG_arrange_193 rfl (lv_at hL 0 rfl) ?_
          refine x_get (v := .ref (ad 14)) K hP hinG (ci := 4) rfl 13 (by decide) rfl 0 (by decide) flG_9 rfl rfl dG_arrange_194 ?_
          refine lv_iload_n K.1 K.2.1 dG_arrange_197 rfl (lv_at hL 3 rfl) ?_
          obtain ⟨g22, h⟩ := h
          refine x_lald K hP 14 (by decide) 1 rfl rfl g22 dG_arrange_198 ?_
          refine lv_aload_n K.1 K.2.1 dG_arrange_199 rfl (lv_at hL 0 rfl) ?_
          refine x_get (v := .ref (ad 16)) K hP hinG (ci := 4) rfl 13 (by decide) rfl 2 (by decide) flG_18 rfl rfl dG_arrange_200 ?_
          refine lv_iload_n K.1 K.2.1 dG_arrange_203 rfl (lv_at hL 3 rfl) ?_
          obtain ⟨g23, h⟩ := h
          refine x_lald K hP 16 (by decide) 1 rfl rfl g23 dG_arrange_204 ?_
          refine x_cSJ (As := [.long (hl 15 ((0 : Int32).toNatClampNeg)), .long (hl 14 (v3.toNatClampNeg)), .long (hl 16 (v3.toNatClampNeg))]) (rest := [.int v3, .ref (ad 17)]) K gT_good hZ hP hS calG_choose mlG_130 (mG_choose hZ K.2.2.2.2.2.2.2.1 h) ⟨Nat.le_of_ble_eq_true rfl, Nat.le_of_ble_eq_true rfl⟩ rfl hL.1 rfl (Nat.le_of_ble_eq_true rfl) dG_arrange_205 (fun r24 hi25 hl26 H locs h hP hS => ?_)
          refine lv_goto (tgt := 234) K.1 K.2.1 dG_arrange_208 rfl ?_
          exact bG_arrange_234 K hr hZ (fun v1 v2 v3 hi hl ls H locs h hL hP hS => ih h hL hP hS) h (by decide) (lv_sub hL [0, 1, 2, 3] rfl) hP hS
      have h := h.2.2.2.2.2 hc0 hc1 hc2 hc3 hc4
      refine lv_tableOut (tgt := 238) K.1 K.2.1 dG_arrange_25 (by have e0 := i_ne hc0 (n := 19) (by decide); have e1 := i_ne hc1 (n := 20) (by decide); have e2 := i_ne hc2 (n := 21) (by decide); have e3 := i_ne hc3 (n := 22) (by decide); have e4 := i_ne hc4 (n := 23) (by decide); omega) rfl ?_
      refine lv_aload_n K.1 K.2.1 dG_arrange_238 rfl (lv_at hL 0 rfl) ?_
      refine x_get (v := .ref (ad 17)) K hP hinG (ci := 4) rfl 13 (by decide) rfl 3 (by decide) flG_21 rfl rfl dG_arrange_239 ?_
      refine lv_iload_n K.1 K.2.1 dG_arrange_242 rfl (lv_at hL 3 rfl) ?_
      refine lv_aload_n K.1 K.2.1 dG_arrange_243 rfl (lv_at hL 0 rfl) ?_
      refine x_get (v := .ref (ad 14)) K hP hinG (ci := 4) rfl 13 (by decide) rfl 0 (by decide) flG_9 rfl rfl dG_arrange_244 ?_
      refine lv_iload_n K.1 K.2.1 dG_arrange_247 rfl (lv_at hL 3 rfl) ?_
      obtain ⟨g27, h⟩ := h
      refine x_lald K hP 14 (by decide) 1 rfl rfl g27 dG_arrange_248 ?_
      obtain ⟨g28, h⟩ := h
      refine x_last K hP hS 17 (by decide) 1 (fun _ => rfl) rfl g28 dG_arrange_249 (fun H locs hP hS => ?_)
      exact bG_arrange_250 K hr hZ (fun v1 v2 v3 hi hl ls H locs h hL hP hS => ih h hL hP hS) h (lv_sub hL [0, 1, 2, 3] rfl) hP hS
set_option maxRecDepth 100000 in
set_option maxHeartbeats 4000000 in
theorem bG_arrange_0 {p : Program} {l : Launch} {e : Env} {s : State} {m : MethodId} {args : Array Value} {below : List Frame} {meth : Method} {c : Code} {D : va_G} {cI cJ cC cZ cR : ClassId} {ad kd sd vd : Nat → Nat} {kA lA wA : Nat} {A : Nat → Prop} (K : Cx p (rmX 1 25) s m args meth c cG_arrange 4 "WordChecker$Gates" gT D cls8 (tys5 cI cJ cC cZ cR) 64 ad A (ZX A kd sd vd kA lA wA)) (hr : meth.sig.returnType = none) (hZ : ZsOK A (ZX A kd sd vd kA lA wA)) {Φ : HI → HL → Prop} {v1 : Int32} {hi : HI} {hl : HL} {H : Heap} {locs : List Loc} (h : wbG_arrange_0 v1 hi hl Φ) {ls : Array Slot} (hL : lv_has ls 4 [(0, .ref (ad 13)), (1, .ref (kd (v1.toNatClampNeg)))]) (hP : va_P D cls8 (wl 64 ad (GX cI cJ cC cZ cR ad kd) hi hl) H) (hS : va_S A s.heap H locs) : W p l e (rmX 1 25) s m args below meth c H locs 0 0 (MQ below (va_Qv (fun (u : HI × HL) => Φ u.1 u.2) (fun u t => va_P D cls8 (wl 64 ad (GX cI cJ cC cZ cR ad kd) u.1 u.2) t.heap) A) args s 0 0 A) (F0 m 0 ls []) := by
  unfold wbG_arrange_0 at h
  refine lv_aload_n K.1 K.2.1 dG_arrange_0 rfl (lv_at hL 0 rfl) ?_
  refine x_get (v := .int (hi 13 6)) K hP hinG (ci := 4) rfl 13 (by decide) rfl 6 (by decide) flG_40 rfl rfl dG_arrange_1 ?_
  refine lv_iconst (v := 2) K.1 K.2.1 dG_arrange_4 (by decide) ?_
  obtain ⟨g1, h⟩ := h
  refine lv_idiv K.1 K.2.1 dG_arrange_5 g1 ?_
  refine lv_istore_n (lv' := [(2, .int ((hi 13 6) / (2 : Int32))), (0, .ref (ad 13)), (1, .ref (kd (v1.toNatClampNeg)))]) K.1 K.2.1 dG_arrange_6 rfl hL (by decide) rfl (fun ls hL => ?_)
  refine lv_iconst (v := 0) K.1 K.2.1 dG_arrange_7 (by decide) ?_
  refine lv_istore_n (lv' := [(3, .int (0 : Int32)), (2, .int ((hi 13 6) / (2 : Int32))), (0, .ref (ad 13)), (1, .ref (kd (v1.toNatClampNeg)))]) K.1 K.2.1 dG_arrange_8 rfl hL (by decide) rfl (fun ls hL => ?_)
  obtain ⟨fu, h⟩ := h
  exact bG_arrange_9 K hr hZ h (lv_sub hL [2, 3, 1, 0] rfl) hP hS
set_option maxRecDepth 100000 in
set_option maxHeartbeats 4000000 in
theorem mG_arrange {l : Launch} {D : va_G} {cI cJ cC cZ cR : ClassId} {ad kd sd vd : Nat → Nat} {kA lA wA : Nat} {A : Nat → Prop} (hZ : ZsOK A (ZX A kd sd vd kA lA wA)) (hD : wlD 64 ad A) {v1 : Int32} {hi : HI} {hl : HL} {Φ : HI → HL → Prop} (h : wpG_arrange v1 hi hl Φ) : SpV l yG_arrange cG_arrange 4 none gT 1 25 [.ref (ad 13), .ref (kd (v1.toNatClampNeg))] D cls8 (tys5 cI cJ cC cZ cR) 64 ad (GX cI cJ cC cZ cR ad kd) A (ZX A kd sd vd kA lA wA) hi hl Φ := by
  refine Met.ofW (cc := cG_arrange) (maxL := 4) (ret := none) (by decide) rfl ?_
  intro p e s m args below meth c s₁ B hml hv
  obtain ⟨rfl, hP, hK, hZs⟩ := hv
  have K : Cx p (rmX 1 25) s m _ meth c cG_arrange 4 "WordChecker$Gates" gT D cls8 (tys5 cI cJ cC cZ cR) 64 ad A (ZX A kd sd vd kA lA wA) := ⟨B.exec, B.bytes, hml, findClass_of_methodNamed B.named, fun w hw => atoms_spec B.pre w (List.mem_cons_of_mem _ hw), B.notSynchronized, hK, hD, hZs⟩
  have hL := lv_entry ([.ref (ad 13), .ref (kd (v1.toNatClampNeg))]) (n := 4) (Nat.le_of_ble_eq_true rfl)
  rw [lg_entry_eq]
  generalize (lg_sl ([.ref (ad 13), .ref (kd (v1.toNatClampNeg))]) ++ List.replicate (4 - (lg_sl ([.ref (ad 13), .ref (kd (v1.toNatClampNeg))])).length) Slot.unset).toArray = ls at hL ⊢
  have hL : lv_has ls 4 [(0, .ref (ad 13)), (1, .ref (kd (v1.toNatClampNeg)))] := hL
  unfold wpG_arrange at h
  exact bG_arrange_0 K B.returns hZ h (lv_sub hL [0, 1] rfl) hP va_S.rf
set_option maxRecDepth 100000 in
set_option maxHeartbeats 4000000 in
theorem bG_below_4 {p : Program} {l : Launch} {e : Env} {s : State} {m : MethodId} {args : Array Value} {below : List Frame} {meth : Method} {c : Code} {D : va_G} {cI cJ cC cZ cR : ClassId} {ad kd sd vd : Nat → Nat} {kA lA wA : Nat} {A : Nat → Prop} (K : Cx p (rmX 1 25) s m args meth c cG_below 4 "WordChecker$Gates" gT D cls8 (tys5 cI cJ cC cZ cR) 64 ad A (ZX A kd sd vd kA lA wA)) (hr : meth.sig.returnType = (some .long)) (hZ : ZsOK A (ZX A kd sd vd kA lA wA)) {Φ : Int64 → HI → HL → Prop} {n : Nat} {v1 : Int64} {v3 : Int32} {hi : HI} {hl : HL} {H : Heap} {locs : List Loc} (h : wbG_below_4 n v1 v3 hi hl Φ) {ls : Array Slot} (hL : lv_has ls 4 [(0, .ref (ad 13)), (1, .long v1), (3, .int v3)]) (hP : va_P D cls8 (wl 64 ad (GX cI cJ cC cZ cR ad kd) hi hl) H) (hS : va_S A s.heap H locs) : W p l e (rmX 1 25) s m args below meth c H locs 0 0 (MQ below (va_Ql (fun r (u : HI × HL) => Φ r u.1 u.2) (fun u t => va_P D cls8 (wl 64 ad (GX cI cJ cC cZ cR ad kd) u.1 u.2) t.heap) A) args s 0 0 A) (F0 m 4 ls []) := by
  induction n generalizing v1 v3 hi hl ls H locs with
  | zero => exact False.elim h
  | succ n ih =>
    unfold wbG_below_4 at h
    refine lv_iload_n K.1 K.2.1 dG_below_4 rfl (lv_at hL 2 rfl) ?_
    refine lv_aload_n K.1 K.2.1 dG_below_5 rfl (lv_at hL 0 rfl) ?_
    refine x_get (v := .int (hi 13 7)) K hP hinG (ci := 4) rfl 13 (by decide) rfl 7 (by decide) flG_47 rfl rfl dG_below_6 ?_
    refine lv_icmp_ge (tgt := 42) K.1 K.2.1 dG_below_9 rfl (fun hc => ?_) (fun hc => ?_)
    · have h := h.1 hc
      refine lv_lload_n K.1 K.2.1 dG_below_42 rfl (lv_at hL 1 rfl) ?_
      exact x_lret K hr hP hS h dG_below_43
    · have h := h.2 hc
      refine lv_aload_n K.1 K.2.1 dG_below_12 rfl (lv_at hL 0 rfl) ?_
      refine x_get (v := .ref (ad 14)) K hP hinG (ci := 4) rfl 13 (by decide) rfl 0 (by decide) flG_9 rfl rfl dG_below_13 ?_
      refine lv_iload_n K.1 K.2.1 dG_below_16 rfl (lv_at hL 2 rfl) ?_
      obtain ⟨g1, h⟩ := h
      refine x_lald K hP 14 (by decide) 1 rfl rfl g1 dG_below_17 ?_
      refine lv_aload_n K.1 K.2.1 dG_below_18 rfl (lv_at hL 0 rfl) ?_
      refine x_get (v := .ref (ad 15)) K hP hinG (ci := 4) rfl 13 (by decide) rfl 1 (by decide) flG_15 rfl rfl dG_below_19 ?_
      refine lv_iload_n K.1 K.2.1 dG_below_22 rfl (lv_at hL 2 rfl) ?_
      obtain ⟨g2, h⟩ := h
      refine x_lald K hP 15 (by decide) 1 rfl rfl g2 dG_below_23 ?_
      refine lv_lxor K.1 K.2.1 dG_below_24 ?_
      refine lv_aload_n K.1 K.2.1 dG_below_25 rfl (lv_at hL 0 rfl) ?_
      refine x_get (v := .ref (ad 15)) K hP hinG (ci := 4) rfl 13 (by decide) rfl 1 (by decide) flG_15 rfl rfl dG_below_26 ?_
      refine lv_iload_n K.1 K.2.1 dG_below_29 rfl (lv_at hL 2 rfl) ?_
      obtain ⟨g3, h⟩ := h
      refine x_lald K hP 15 (by decide) 1 rfl rfl g3 dG_below_30 ?_
      refine lv_lload_n K.1 K.2.1 dG_below_31 rfl (lv_at hL 1 rfl) ?_
      refine x_cSJ (As := [.long ((hl 14 (v3.toNatClampNeg)) ^^^ (hl 15 (v3.toNatClampNeg))), .long (hl 15 (v3.toNatClampNeg)), .long v1]) (rest := []) K gT_good hZ hP hS calG_choose mlG_130 (mG_choose hZ K.2.2.2.2.2.2.2.1 h) ⟨Nat.le_of_ble_eq_true rfl, Nat.le_of_ble_eq_true rfl⟩ rfl hL.1 rfl (Nat.le_of_ble_eq_true rfl) dG_below_32 (fun r4 hi5 hl6 H locs h hP hS => ?_)
      refine lv_lstore_n (lv' := [(1, .long r4), (0, .ref (ad 13)), (3, .int v3)]) K.1 K.2.1 dG_below_35 rfl hL (by decide) rfl (fun ls hL => ?_)
      refine lv_iinc (k := 2) (lv' := [(3, .int (v3 + Int32.ofInt (1))), (1, .long r4), (0, .ref (ad 13))]) K.1 K.2.1 dG_below_36 hL rfl rfl (by decide) rfl (fun ls hL => ?_)
      refine lv_goto (tgt := 4) K.1 K.2.1 dG_below_39 rfl ?_
      exact ih h (lv_sub hL [2, 1, 0] rfl) hP hS
set_option maxRecDepth 100000 in
set_option maxHeartbeats 4000000 in
theorem bG_below_0 {p : Program} {l : Launch} {e : Env} {s : State} {m : MethodId} {args : Array Value} {below : List Frame} {meth : Method} {c : Code} {D : va_G} {cI cJ cC cZ cR : ClassId} {ad kd sd vd : Nat → Nat} {kA lA wA : Nat} {A : Nat → Prop} (K : Cx p (rmX 1 25) s m args meth c cG_below 4 "WordChecker$Gates" gT D cls8 (tys5 cI cJ cC cZ cR) 64 ad A (ZX A kd sd vd kA lA wA)) (hr : meth.sig.returnType = (some .long)) (hZ : ZsOK A (ZX A kd sd vd kA lA wA)) {Φ : Int64 → HI → HL → Prop} {hi : HI} {hl : HL} {H : Heap} {locs : List Loc} (h : wbG_below_0 hi hl Φ) {ls : Array Slot} (hL : lv_has ls 4 [(0, .ref (ad 13))]) (hP : va_P D cls8 (wl 64 ad (GX cI cJ cC cZ cR ad kd) hi hl) H) (hS : va_S A s.heap H locs) : W p l e (rmX 1 25) s m args below meth c H locs 0 0 (MQ below (va_Ql (fun r (u : HI × HL) => Φ r u.1 u.2) (fun u t => va_P D cls8 (wl 64 ad (GX cI cJ cC cZ cR ad kd) u.1 u.2) t.heap) A) args s 0 0 A) (F0 m 0 ls []) := by
  unfold wbG_below_0 at h
  refine lv_lconst (v := 0) K.1 K.2.1 dG_below_0 (by decide) ?_
  refine lv_lstore_n (lv' := [(1, .long (0 : Int64)), (0, .ref (ad 13))]) K.1 K.2.1 dG_below_1 rfl hL (by decide) rfl (fun ls hL => ?_)
  refine lv_iconst (v := 0) K.1 K.2.1 dG_below_2 (by decide) ?_
  refine lv_istore_n (lv' := [(3, .int (0 : Int32)), (1, .long (0 : Int64)), (0, .ref (ad 13))]) K.1 K.2.1 dG_below_3 rfl hL (by decide) rfl (fun ls hL => ?_)
  obtain ⟨fu, h⟩ := h
  exact bG_below_4 K hr hZ h (lv_sub hL [2, 1, 0] rfl) hP hS
set_option maxRecDepth 100000 in
set_option maxHeartbeats 4000000 in
theorem mG_below {l : Launch} {D : va_G} {cI cJ cC cZ cR : ClassId} {ad kd sd vd : Nat → Nat} {kA lA wA : Nat} {A : Nat → Prop} (hZ : ZsOK A (ZX A kd sd vd kA lA wA)) (hD : wlD 64 ad A) {hi : HI} {hl : HL} {Φ : Int64 → HI → HL → Prop} (h : wpG_below hi hl Φ) : SpJ l yG_below cG_below 4 (some .long) gT 1 25 [.ref (ad 13)] D cls8 (tys5 cI cJ cC cZ cR) 64 ad (GX cI cJ cC cZ cR ad kd) A (ZX A kd sd vd kA lA wA) hi hl Φ := by
  refine Met.ofW (cc := cG_below) (maxL := 4) (ret := (some .long)) (by decide) rfl ?_
  intro p e s m args below meth c s₁ B hml hv
  obtain ⟨rfl, hP, hK, hZs⟩ := hv
  have K : Cx p (rmX 1 25) s m _ meth c cG_below 4 "WordChecker$Gates" gT D cls8 (tys5 cI cJ cC cZ cR) 64 ad A (ZX A kd sd vd kA lA wA) := ⟨B.exec, B.bytes, hml, findClass_of_methodNamed B.named, fun w hw => atoms_spec B.pre w (List.mem_cons_of_mem _ hw), B.notSynchronized, hK, hD, hZs⟩
  have hL := lv_entry ([.ref (ad 13)]) (n := 4) (Nat.le_of_ble_eq_true rfl)
  rw [lg_entry_eq]
  generalize (lg_sl ([.ref (ad 13)]) ++ List.replicate (4 - (lg_sl ([.ref (ad 13)])).length) Slot.unset).toArray = ls at hL ⊢
  have hL : lv_has ls 4 [(0, .ref (ad 13))] := hL
  unfold wpG_below at h
  exact bG_below_0 K B.returns hZ h (lv_sub hL [0] rfl) hP va_S.rf
