set_option maxRecDepth 100000 in
set_option maxHeartbeats 4000000 in
theorem bC_line_0 {p : Program} {l : Launch} {e : Env} {s : State} {m : MethodId} {args : Array Value} {below : List Frame} {meth : Method} {c : Code} {D : va_G} {cI cJ cC cZ cR : ClassId} {ad kd sd vd : Nat → Nat} {kA lA wA : Nat} {A : Nat → Prop} (K : Cx p (rmX 7 172) s m args meth c cC_line 2 "WordChecker" gT D cls8 (tys5 cI cJ cC cZ cR) 64 ad A (ZX A kd sd vd kA lA wA)) (hr : meth.sig.returnType = (some .int)) (hZ : ZsOK A (ZX A kd sd vd kA lA wA)) {Φ : Int32 → HI → HL → Prop} {hi : HI} {hl : HL} {H : Heap} {locs : List Loc} (h : wbC_line_0 hi hl Φ) {ls : Array Slot} (hL : lv_has ls 2 [(0, .ref (ad 0))]) (hP : va_P D cls8 (wl 64 ad (GX cI cJ cC cZ cR ad kd) hi hl) H) (hS : va_S A s.heap H locs) : W p l e (rmX 7 172) s m args below meth c H locs 0 0 (MQ below (va_Qi (fun r (u : HI × HL) => Φ r u.1 u.2) (fun u t => va_P D cls8 (wl 64 ad (GX cI cJ cC cZ cR ad kd) u.1 u.2) t.heap) A) args s 0 0 A) (F0 m 0 ls []) := by
  unfold wbC_line_0 at h
  refine lv_aload_n K.1 K.2.1 dC_line_0 rfl (lv_at hL 0 rfl) ?_
  refine x_get (v := .ref (ad 1)) K hP hinC (ci := 0) rfl 0 (by decide) rfl 0 (by decide) flC_12 rfl rfl dC_line_1 ?_
  refine x_cVV (As := []) (rest := []) K gT_good hZ hP hS calT_split mlC_45 1 (by decide) rfl rfl (mT_split hZ K.2.2.2.2.2.2.2.1 h) ⟨Nat.le_of_ble_eq_true rfl, Nat.le_of_ble_eq_true rfl⟩ rfl hL.1 rfl (Nat.le_of_ble_eq_true rfl) dC_line_4 (fun hi2 hl3 H locs h hP hS => ?_)
  refine lv_aload_n K.1 K.2.1 dC_line_7 rfl (lv_at hL 0 rfl) ?_
  refine x_get (v := .ref (ad 10)) K hP hinC (ci := 0) rfl 0 (by decide) rfl 2 (by decide) flC_28 rfl rfl dC_line_8 ?_
  refine x_cVI (As := []) (rest := []) K gT_good hZ hP hS calD_firstFault mlC_48 10 (by decide) rfl rfl (mD_firstFault hZ K.2.2.2.2.2.2.2.1 h) ⟨Nat.le_of_ble_eq_true rfl, Nat.le_of_ble_eq_true rfl⟩ rfl hL.1 rfl (Nat.le_of_ble_eq_true rfl) dC_line_11 (fun r4 hi5 hl6 H locs h hP hS => ?_)
  refine lv_istore_n (lv' := [(1, .int r4), (0, .ref (ad 0))]) K.1 K.2.1 dC_line_14 rfl hL (by decide) rfl (fun ls hL => ?_)
  refine lv_aload_n K.1 K.2.1 dC_line_15 rfl (lv_at hL 1 rfl) ?_
  refine x_get (v := .ref (ad 1)) K hP hinC (ci := 0) rfl 0 (by decide) rfl 0 (by decide) flC_12 rfl rfl dC_line_16 ?_
  refine x_cVV (As := []) (rest := []) K gT_good hZ hP hS calT_clear mlC_52 1 (by decide) rfl rfl (mT_clear hZ K.2.2.2.2.2.2.2.1 h) ⟨Nat.le_of_ble_eq_true rfl, Nat.le_of_ble_eq_true rfl⟩ rfl hL.1 rfl (Nat.le_of_ble_eq_true rfl) dC_line_19 (fun hi8 hl9 H locs h hP hS => ?_)
  refine lv_iload_n K.1 K.2.1 dC_line_22 rfl (lv_at hL 0 rfl) ?_
  refine lv_if_lt (tgt := 30) K.1 K.2.1 dC_line_23 rfl (fun hc => ?_) (fun hc => ?_)
  · have h := h.1 hc
    refine lv_aload_n K.1 K.2.1 dC_line_30 rfl (lv_at hL 1 rfl) ?_
    refine x_get (v := .ref (ad 5)) K hP hinC (ci := 0) rfl 0 (by decide) rfl 1 (by decide) flC_19 rfl rfl dC_line_31 ?_
    refine x_getN (v := .int (hi8 5 2)) K hP hinB (ci := 2) rfl 5 (by decide) rfl 2 (by decide) (fnC_55 K.2.2.2.2.2.2.2.2) rfl rfl dC_line_34 ?_
    refine lv_bipush (v := 20) K.1 K.2.1 dC_line_37 (by decide) ?_
    refine lv_icmp_lt (tgt := 45) K.1 K.2.1 dC_line_39 rfl (fun hc => ?_) (fun hc => ?_)
    · have h := h.1 hc
      refine lv_aload_n K.1 K.2.1 dC_line_45 rfl (lv_at hL 1 rfl) ?_
      refine x_get (v := .ref (ad 5)) K hP hinC (ci := 0) rfl 0 (by decide) rfl 1 (by decide) flC_19 rfl rfl dC_line_46 ?_
      refine lv_aload_n K.1 K.2.1 dC_line_49 rfl (lv_at hL 1 rfl) ?_
      refine x_get (v := .ref (ad 10)) K hP hinC (ci := 0) rfl 0 (by decide) rfl 2 (by decide) flC_28 rfl rfl dC_line_50 ?_
      refine x_cVV (As := [.ref (ad 10)]) (rest := []) K gT_good hZ hP hS calB_take mlC_59 5 (by decide) rfl rfl (mB_take hZ K.2.2.2.2.2.2.2.1 h) ⟨Nat.le_of_ble_eq_true rfl, Nat.le_of_ble_eq_true rfl⟩ rfl hL.1 rfl (Nat.le_of_ble_eq_true rfl) dC_line_53 (fun hi11 hl12 H locs h hP hS => ?_)
      refine lv_aload_n K.1 K.2.1 dC_line_56 rfl (lv_at hL 1 rfl) ?_
      refine lv_iconst (v := 0) K.1 K.2.1 dC_line_57 (by decide) ?_
      obtain ⟨g13, h⟩ := h
      refine x_put (v := .int (0 : Int32)) K hP hS hinC tyC tyC_ok nmC (ci := 0) rfl 0 (by decide) rfl 4 (by decide) flC_63 rfl rfl (0 : Int32) rfl g13.nar g13.fit (Nat.le_of_ble_eq_true rfl) dC_line_58 (fun H locs hP hS => ?_)
      refine lv_aload_n K.1 K.2.1 dC_line_61 rfl (lv_at hL 1 rfl) ?_
      refine x_get (v := .ref (ad 20)) K hP hinC (ci := 0) rfl 0 (by decide) rfl 3 (by decide) flC_37 rfl rfl dC_line_62 ?_
      refine x_cVV (As := []) (rest := []) K gT_good hZ hP hS calS_drop mlC_67 20 (by decide) rfl rfl (mS_drop hZ K.2.2.2.2.2.2.2.1 h) ⟨Nat.le_of_ble_eq_true rfl, Nat.le_of_ble_eq_true rfl⟩ rfl hL.1 rfl (Nat.le_of_ble_eq_true rfl) dC_line_65 (fun hi15 hl16 H locs h hP hS => ?_)
      refine lv_aload_n K.1 K.2.1 dC_line_68 rfl (lv_at hL 1 rfl) ?_
      refine x_get (v := .ref (ad 10)) K hP hinC (ci := 0) rfl 0 (by decide) rfl 2 (by decide) flC_28 rfl rfl dC_line_69 ?_
      refine x_getN (v := .int (hi15 10 2)) K hP hinD (ci := 3) rfl 10 (by decide) rfl 2 (by decide) (fnC_70 K.2.2.2.2.2.2.2.2) rfl rfl dC_line_72 ?_
      exact x_iret K hr hP hS h dC_line_75
    · have h := h.2 hc
      refine lv_bipush (v := -100) K.1 K.2.1 dC_line_42 (by decide) ?_
      exact x_iret K hr hP hS h dC_line_44
  · have h := h.2 hc
    refine lv_iconst (v := -1) K.1 K.2.1 dC_line_26 (by decide) ?_
    refine lv_iload_n K.1 K.2.1 dC_line_27 rfl (lv_at hL 0 rfl) ?_
    refine lv_isub K.1 K.2.1 dC_line_28 ?_
    exact x_iret K hr hP hS h dC_line_29
set_option maxRecDepth 100000 in
set_option maxHeartbeats 4000000 in
theorem mC_line {l : Launch} {D : va_G} {cI cJ cC cZ cR : ClassId} {ad kd sd vd : Nat → Nat} {kA lA wA : Nat} {A : Nat → Prop} (hZ : ZsOK A (ZX A kd sd vd kA lA wA)) (hD : wlD 64 ad A) {hi : HI} {hl : HL} {Φ : Int32 → HI → HL → Prop} (h : wpC_line hi hl Φ) : SpI l yC_line cC_line 2 (some .int) gT 7 172 [.ref (ad 0)] D cls8 (tys5 cI cJ cC cZ cR) 64 ad (GX cI cJ cC cZ cR ad kd) A (ZX A kd sd vd kA lA wA) hi hl Φ := by
  refine Met.ofW (cc := cC_line) (maxL := 2) (ret := (some .int)) (by decide) rfl ?_
  intro p e s m args below meth c s₁ B hml hv
  obtain ⟨rfl, hP, hK, hZs⟩ := hv
  have K : Cx p (rmX 7 172) s m _ meth c cC_line 2 "WordChecker" gT D cls8 (tys5 cI cJ cC cZ cR) 64 ad A (ZX A kd sd vd kA lA wA) := ⟨B.exec, B.bytes, hml, findClass_of_methodNamed B.named, fun w hw => atoms_spec B.pre w (List.mem_cons_of_mem _ hw), B.notSynchronized, hK, hD, hZs⟩
  have hL := lv_entry ([.ref (ad 0)]) (n := 2) (Nat.le_of_ble_eq_true rfl)
  rw [lg_entry_eq]
  generalize (lg_sl ([.ref (ad 0)]) ++ List.replicate (2 - (lg_sl ([.ref (ad 0)])).length) Slot.unset).toArray = ls at hL ⊢
  have hL : lv_has ls 2 [(0, .ref (ad 0))] := hL
  unfold wpC_line at h
  exact bC_line_0 K B.returns hZ h (lv_sub hL [0] rfl) hP va_S.rf
set_option maxRecDepth 100000 in
set_option maxHeartbeats 4000000 in
theorem bC_lines_0 {p : Program} {l : Launch} {e : Env} {s : State} {m : MethodId} {args : Array Value} {below : List Frame} {meth : Method} {c : Code} {D : va_G} {cI cJ cC cZ cR : ClassId} {ad kd sd vd : Nat → Nat} {kA lA wA : Nat} {A : Nat → Prop} (K : Cx p (rmX 0 0) s m args meth c cC_lines 1 "WordChecker" gT D cls8 (tys5 cI cJ cC cZ cR) 64 ad A (ZX A kd sd vd kA lA wA)) (hr : meth.sig.returnType = (some .int)) (hZ : ZsOK A (ZX A kd sd vd kA lA wA)) {Φ : Int32 → HI → HL → Prop} {hi : HI} {hl : HL} {H : Heap} {locs : List Loc} (h : wbC_lines_0 hi hl Φ) {ls : Array Slot} (hL : lv_has ls 1 [(0, .ref (ad 0))]) (hP : va_P D cls8 (wl 64 ad (GX cI cJ cC cZ cR ad kd) hi hl) H) (hS : va_S A s.heap H locs) : W p l e (rmX 0 0) s m args below meth c H locs 0 0 (MQ below (va_Qi (fun r (u : HI × HL) => Φ r u.1 u.2) (fun u t => va_P D cls8 (wl 64 ad (GX cI cJ cC cZ cR ad kd) u.1 u.2) t.heap) A) args s 0 0 A) (F0 m 0 ls []) := by
  unfold wbC_lines_0 at h
  refine lv_aload_n K.1 K.2.1 dC_lines_0 rfl (lv_at hL 0 rfl) ?_
  refine x_get (v := .ref (ad 5)) K hP hinC (ci := 0) rfl 0 (by decide) rfl 1 (by decide) flC_19 rfl rfl dC_lines_1 ?_
  refine x_getN (v := .int (hi 5 2)) K hP hinB (ci := 2) rfl 5 (by decide) rfl 2 (by decide) (fnC_55 K.2.2.2.2.2.2.2.2) rfl rfl dC_lines_4 ?_
  exact x_iret K hr hP hS h dC_lines_7
set_option maxRecDepth 100000 in
set_option maxHeartbeats 4000000 in
theorem mC_lines {l : Launch} {D : va_G} {cI cJ cC cZ cR : ClassId} {ad kd sd vd : Nat → Nat} {kA lA wA : Nat} {A : Nat → Prop} (hZ : ZsOK A (ZX A kd sd vd kA lA wA)) (hD : wlD 64 ad A) {hi : HI} {hl : HL} {Φ : Int32 → HI → HL → Prop} (h : wpC_lines hi hl Φ) : SpI l yC_lines cC_lines 1 (some .int) gT 0 0 [.ref (ad 0)] D cls8 (tys5 cI cJ cC cZ cR) 64 ad (GX cI cJ cC cZ cR ad kd) A (ZX A kd sd vd kA lA wA) hi hl Φ := by
  refine Met.ofW (cc := cC_lines) (maxL := 1) (ret := (some .int)) (by decide) rfl ?_
  intro p e s m args below meth c s₁ B hml hv
  obtain ⟨rfl, hP, hK, hZs⟩ := hv
  have K : Cx p (rmX 0 0) s m _ meth c cC_lines 1 "WordChecker" gT D cls8 (tys5 cI cJ cC cZ cR) 64 ad A (ZX A kd sd vd kA lA wA) := ⟨B.exec, B.bytes, hml, findClass_of_methodNamed B.named, fun w hw => atoms_spec B.pre w (List.mem_cons_of_mem _ hw), B.notSynchronized, hK, hD, hZs⟩
  have hL := lv_entry ([.ref (ad 0)]) (n := 1) (Nat.le_of_ble_eq_true rfl)
  rw [lg_entry_eq]
  generalize (lg_sl ([.ref (ad 0)]) ++ List.replicate (1 - (lg_sl ([.ref (ad 0)])).length) Slot.unset).toArray = ls at hL ⊢
  have hL : lv_has ls 1 [(0, .ref (ad 0))] := hL
  unfold wpC_lines at h
  exact bC_lines_0 K B.returns hZ h (lv_sub hL [0] rfl) hP va_S.rf
set_option maxRecDepth 100000 in
set_option maxHeartbeats 4000000 in
theorem bB_startWith_105 {p : Program} {l : Launch} {e : Env} {s : State} {m : MethodId} {args : Array Value} {below : List Frame} {meth : Method} {c : Code} {D : va_G} {cI cJ cC cZ cR : ClassId} {ad kd sd vd : Nat → Nat} {kA lA wA : Nat} {A : Nat → Prop} (K : Cx p (rmX 2 40) s m args meth c cB_startWith 7 "WordChecker$Book" gT D cls8 (tys5 cI cJ cC cZ cR) 64 ad A (ZX A kd sd vd kA lA wA)) (hr : meth.sig.returnType = (some .int)) (hZ : ZsOK A (ZX A kd sd vd kA lA wA)) {Φ : Int32 → HI → HL → Prop} {k7 : Int32 → Int32 → Int32 → HI → HL → Prop} (hk7 : ∀ (v2 : Int32) (v3 : Int32) (v4 : Int32) (hi : HI) (hl : HL) (ls : Array Slot) (H : Heap) (locs : List Loc), k7 v2 v3 v4 hi hl → lv_has ls 7 [(0, .ref (ad 5)), (2, .int v2), (3, .int v3), (4, .int v4)] → va_P D cls8 (wl 64 ad (GX cI cJ cC cZ cR ad kd) hi hl) H → va_S A s.heap H locs → W p l e (rmX 2 40) s m args below meth c H locs 0 0 (MQ below (va_Qi (fun r (u : HI × HL) => Φ r u.1 u.2) (fun u t => va_P D cls8 (wl 64 ad (GX cI cJ cC cZ cR ad kd) u.1 u.2) t.heap) A) args s 0 0 A) (F0 m 7 ls [])) {v2 : Int32} {v3 : Int32} {v4 : Int32} {hi : HI} {hl : HL} {H : Heap} {locs : List Loc} (h : wbB_startWith_105 k7 v2 v3 v4 hi hl Φ) {ls : Array Slot} (hL : lv_has ls 7 [(0, .ref (ad 5)), (2, .int v2), (3, .int v3), (4, .int v4)]) (hP : va_P D cls8 (wl 64 ad (GX cI cJ cC cZ cR ad kd) hi hl) H) (hS : va_S A s.heap H locs) : W p l e (rmX 2 40) s m args below meth c H locs 0 0 (MQ below (va_Qi (fun r (u : HI × HL) => Φ r u.1 u.2) (fun u t => va_P D cls8 (wl 64 ad (GX cI cJ cC cZ cR ad kd) u.1 u.2) t.heap) A) args s 0 0 A) (F0 m 105 ls []) := by
  unfold wbB_startWith_105 at h
  refine lv_iinc (k := 3) (lv' := [(4, .int (v4 + Int32.ofInt (1))), (0, .ref (ad 5)), (2, .int v2), (3, .int v3)]) K.1 K.2.1 dB_startWith_105 hL rfl rfl (by decide) rfl (fun ls hL => ?_)
  refine lv_goto (tgt := 7) K.1 K.2.1 dB_startWith_108 rfl ?_
  exact hk7 _ _ _ _ _ _ _ _ h (lv_sub hL [1, 2, 3, 0] rfl) hP hS
set_option maxRecDepth 100000 in
set_option maxHeartbeats 4000000 in
theorem bB_startWith_62 {p : Program} {l : Launch} {e : Env} {s : State} {m : MethodId} {args : Array Value} {below : List Frame} {meth : Method} {c : Code} {D : va_G} {cI cJ cC cZ cR : ClassId} {ad kd sd vd : Nat → Nat} {kA lA wA : Nat} {A : Nat → Prop} (K : Cx p (rmX 2 40) s m args meth c cB_startWith 7 "WordChecker$Book" gT D cls8 (tys5 cI cJ cC cZ cR) 64 ad A (ZX A kd sd vd kA lA wA)) (hr : meth.sig.returnType = (some .int)) (hZ : ZsOK A (ZX A kd sd vd kA lA wA)) {Φ : Int32 → HI → HL → Prop} {k7 : Int32 → Int32 → Int32 → HI → HL → Prop} (hk7 : ∀ (v2 : Int32) (v3 : Int32) (v4 : Int32) (hi : HI) (hl : HL) (ls : Array Slot) (H : Heap) (locs : List Loc), k7 v2 v3 v4 hi hl → lv_has ls 7 [(0, .ref (ad 5)), (2, .int v2), (3, .int v3), (4, .int v4)] → va_P D cls8 (wl 64 ad (GX cI cJ cC cZ cR ad kd) hi hl) H → va_S A s.heap H locs → W p l e (rmX 2 40) s m args below meth c H locs 0 0 (MQ below (va_Qi (fun r (u : HI × HL) => Φ r u.1 u.2) (fun u t => va_P D cls8 (wl 64 ad (GX cI cJ cC cZ cR ad kd) u.1 u.2) t.heap) A) args s 0 0 A) (F0 m 7 ls [])) {v2 : Int32} {v3 : Int32} {v4 : Int32} {v5 : Nat} {hi : HI} {hl : HL} {H : Heap} {locs : List Loc} (h : wbB_startWith_62 k7 v2 v3 v4 v5 hi hl Φ) (hv5 : v5 < 20) {ls : Array Slot} (hL : lv_has ls 7 [(0, .ref (ad 5)), (2, .int v2), (3, .int v3), (4, .int v4), (5, .ref (ad (24 + v5)))]) (hP : va_P D cls8 (wl 64 ad (GX cI cJ cC cZ cR ad kd) hi hl) H) (hS : va_S A s.heap H locs) : W p l e (rmX 2 40) s m args below meth c H locs 0 0 (MQ below (va_Qi (fun r (u : HI × HL) => Φ r u.1 u.2) (fun u t => va_P D cls8 (wl 64 ad (GX cI cJ cC cZ cR ad kd) u.1 u.2) t.heap) A) args s 0 0 A) (F0 m 62 ls []) := by
  unfold wbB_startWith_62 at h
  refine lv_aload K.1 K.2.1 dB_startWith_62 (lv_at hL 4 rfl) ?_
  refine x_getN (v := va_rf (kOf kd (hi (24 + v5) 1))) K hP hinL (ci := 6) rfl (24 + v5) (lt_l hv5) (GX_line _ hv5 _ _) 1 (by decide) (fnB_48 K.2.2.2.2.2.2.2.2) rfl rfl dB_startWith_64 ?_
  refine x_gets (v := .ref (kd ((2 : Int32).toNatClampNeg))) K hS (K.2.2.2.2.2.2.2.2.2.2.1 2 (by decide)).1 flB_162 dB_startWith_67 ?_
  obtain ⟨g1, h⟩ := h
  obtain ⟨g2, h⟩ := h
  rw [kOf_in g1]
  refine x_acne (x := (hi (24 + v5) 1)) (y := (2 : Int32)) (tgt := 105) K g1 g2 dB_startWith_70 rfl (fun hc => ?_) (fun hc => ?_)
  · have h := h.2 hc
    exact bB_startWith_105 K hr hZ hk7 h (lv_sub hL [0, 1, 2, 3] rfl) hP hS
  · have h := h.1 hc
    refine lv_aload K.1 K.2.1 dB_startWith_73 (lv_at hL 4 rfl) ?_
    refine x_getN (v := .int (hi (24 + v5) 2)) K hP hinL (ci := 6) rfl (24 + v5) (lt_l hv5) (GX_line _ hv5 _ _) 2 (by decide) (fnB_61 K.2.2.2.2.2.2.2.2) rfl rfl dB_startWith_75 ?_
    refine x_cSNI (As := [.int (hi (24 + v5) 2)]) (rest := []) K gT_good hZ hP hS calC_bitsOf (mnB_132 K.2.2.2.2.2.2.2.2) (mC_bitsOf hZ K.2.2.2.2.2.2.2.1 h) ⟨Nat.le_of_ble_eq_true rfl, Nat.le_of_ble_eq_true rfl⟩ rfl hL.1 rfl (Nat.le_of_ble_eq_true rfl) dB_startWith_78 (fun r3 hi4 hl5 H locs h hP hS => ?_)
    refine lv_istore (lv' := [(6, .int r3), (0, .ref (ad 5)), (2, .int v2), (3, .int v3), (4, .int v4), (5, .ref (ad (24 + v5)))]) K.1 K.2.1 dB_startWith_81 hL (by decide) rfl (fun ls hL => ?_)
    refine lv_iload_n K.1 K.2.1 dB_startWith_83 rfl (lv_at hL 2 rfl) ?_
    refine lv_iload_n K.1 K.2.1 dB_startWith_84 rfl (lv_at hL 3 rfl) ?_
    refine lv_iconst (v := 1) K.1 K.2.1 dB_startWith_85 (by decide) ?_
    refine lv_iload K.1 K.2.1 dB_startWith_86 (lv_at hL 0 rfl) ?_
    refine lv_ishl K.1 K.2.1 dB_startWith_88 ?_
    refine lv_iconst (v := 1) K.1 K.2.1 dB_startWith_89 (by decide) ?_
    refine lv_isub K.1 K.2.1 dB_startWith_90 ?_
    refine lv_iand K.1 K.2.1 dB_startWith_91 ?_
    refine lv_aload K.1 K.2.1 dB_startWith_92 (lv_at hL 5 rfl) ?_
    refine x_getN (v := .int (hi4 (24 + v5) 4)) K hP hinL (ci := 6) rfl (24 + v5) (lt_l hv5) (GX_line _ hv5 _ _) 4 (by decide) (fnB_129 K.2.2.2.2.2.2.2.2) rfl rfl dB_startWith_94 ?_
    refine lv_ishl K.1 K.2.1 dB_startWith_97 ?_
    refine lv_ior K.1 K.2.1 dB_startWith_98 ?_
    refine lv_istore_n (lv' := [(2, .int (v2 ||| ((v3 &&& (((1 : Int32) <<< (r3 &&& 31)) - (1 : Int32))) <<< ((hi4 (24 + v5) 4) &&& 31)))), (6, .int r3), (0, .ref (ad 5)), (3, .int v3), (4, .int v4), (5, .ref (ad (24 + v5)))]) K.1 K.2.1 dB_startWith_99 rfl hL (by decide) rfl (fun ls hL => ?_)
    refine lv_iload_n K.1 K.2.1 dB_startWith_100 rfl (lv_at hL 3 rfl) ?_
    refine lv_iload K.1 K.2.1 dB_startWith_101 (lv_at hL 1 rfl) ?_
    refine lv_iushr K.1 K.2.1 dB_startWith_103 rfl ?_
    refine lv_istore_n (lv' := [(3, .int ((v3.toUInt32 >>> (r3.toUInt32 &&& Int32.toUInt32 31)).toInt32)), (2, .int (v2 ||| ((v3 &&& (((1 : Int32) <<< (r3 &&& 31)) - (1 : Int32))) <<< ((hi4 (24 + v5) 4) &&& 31)))), (6, .int r3), (0, .ref (ad 5)), (4, .int v4), (5, .ref (ad (24 + v5)))]) K.1 K.2.1 dB_startWith_104 rfl hL (by decide) rfl (fun ls hL => ?_)
    exact bB_startWith_105 K hr hZ hk7 h (lv_sub hL [3, 1, 0, 4] rfl) hP hS
set_option maxRecDepth 100000 in
set_option maxHeartbeats 4000000 in
theorem bB_startWith_7 {p : Program} {l : Launch} {e : Env} {s : State} {m : MethodId} {args : Array Value} {below : List Frame} {meth : Method} {c : Code} {D : va_G} {cI cJ cC cZ cR : ClassId} {ad kd sd vd : Nat → Nat} {kA lA wA : Nat} {A : Nat → Prop} (K : Cx p (rmX 2 40) s m args meth c cB_startWith 7 "WordChecker$Book" gT D cls8 (tys5 cI cJ cC cZ cR) 64 ad A (ZX A kd sd vd kA lA wA)) (hr : meth.sig.returnType = (some .int)) (hZ : ZsOK A (ZX A kd sd vd kA lA wA)) {Φ : Int32 → HI → HL → Prop} {n : Nat} {v2 : Int32} {v3 : Int32} {v4 : Int32} {hi : HI} {hl : HL} {H : Heap} {locs : List Loc} (h : wbB_startWith_7 n v2 v3 v4 hi hl Φ) {ls : Array Slot} (hL : lv_has ls 7 [(0, .ref (ad 5)), (2, .int v2), (3, .int v3), (4, .int v4)]) (hP : va_P D cls8 (wl 64 ad (GX cI cJ cC cZ cR ad kd) hi hl) H) (hS : va_S A s.heap H locs) : W p l e (rmX 2 40) s m args below meth c H locs 0 0 (MQ below (va_Qi (fun r (u : HI × HL) => Φ r u.1 u.2) (fun u t => va_P D cls8 (wl 64 ad (GX cI cJ cC cZ cR ad kd) u.1 u.2) t.heap) A) args s 0 0 A) (F0 m 7 ls []) := by
  induction n generalizing v2 v3 v4 hi hl ls H locs with
  | zero => exact False.elim h
  | succ n ih =>
    unfold wbB_startWith_7 at h
    refine lv_iload K.1 K.2.1 dB_startWith_7 (lv_at hL 3 rfl) ?_
    refine lv_aload_n K.1 K.2.1 dB_startWith_9 rfl (lv_at hL 0 rfl) ?_
    refine x_get (v := .int (hi 5 2)) K hP hinB (ci := 2) rfl 5 (by decide) rfl 2 (by decide) flB_37 rfl rfl dB_startWith_10 ?_
    refine lv_icmp_ge (tgt := 111) K.1 K.2.1 dB_startWith_13 rfl (fun hc => ?_) (fun hc => ?_)
    · have h := h.1 hc
      refine lv_iload_n K.1 K.2.1 dB_startWith_111 rfl (lv_at hL 1 rfl) ?_
      exact x_iret K hr hP hS h dB_startWith_112
    · have h := h.2 hc
      refine lv_aload_n K.1 K.2.1 dB_startWith_16 rfl (lv_at hL 0 rfl) ?_
      refine x_get (v := .ref (ad 6)) K hP hinB (ci := 2) rfl 5 (by decide) rfl 0 (by decide) flB_11 rfl rfl dB_startWith_17 ?_
      refine lv_iload K.1 K.2.1 dB_startWith_20 (lv_at hL 3 rfl) ?_
      obtain ⟨g1, h⟩ := h
      refine x_aald K hP 6 (by decide) 4 rfl rfl g1 (q := ad (24 + (v4.toNatClampNeg))) rfl dB_startWith_22 ?_
      refine lv_astore (lv' := [(5, .ref (ad (24 + (v4.toNatClampNeg)))), (0, .ref (ad 5)), (2, .int v2), (3, .int v3), (4, .int v4)]) K.1 K.2.1 dB_startWith_23 hL (by decide) rfl (fun ls hL => ?_)
      refine lv_aload K.1 K.2.1 dB_startWith_25 (lv_at hL 0 rfl) ?_
      refine x_getN (v := va_rf (kOf kd (hi (24 + (v4.toNatClampNeg)) 1))) K hP hinL (ci := 6) rfl (24 + (v4.toNatClampNeg)) (lt_l (in_lt g1)) (GX_line _ (in_lt g1) _ _) 1 (by decide) (fnB_48 K.2.2.2.2.2.2.2.2) rfl rfl dB_startWith_27 ?_
      refine x_gets (v := .ref (kd ((2 : Int32).toNatClampNeg))) K hS (K.2.2.2.2.2.2.2.2.2.2.1 2 (by decide)).1 flB_162 dB_startWith_30 ?_
      obtain ⟨g2, h⟩ := h
      obtain ⟨g3, h⟩ := h
      rw [kOf_in g2]
      refine x_acne (x := (hi (24 + (v4.toNatClampNeg)) 1)) (y := (2 : Int32)) (tgt := 62) K g2 g3 dB_startWith_33 rfl (fun hc => ?_) (fun hc => ?_)
      · have h := h.2 hc
        exact bB_startWith_62 K hr hZ (fun v2 v3 v4 hi hl ls H locs h hL hP hS => ih h hL hP hS) h (in_lt g1) (lv_sub hL [1, 2, 3, 4, 0] rfl) hP hS
      · have h := h.1 hc
        refine lv_aload K.1 K.2.1 dB_startWith_36 (lv_at hL 0 rfl) ?_
        refine x_getN (v := .int (hi (24 + (v4.toNatClampNeg)) 5)) K hP hinL (ci := 6) rfl (24 + (v4.toNatClampNeg)) (lt_l (in_lt g1)) (GX_line _ (in_lt g1) _ _) 5 (by decide) (fnB_156 K.2.2.2.2.2.2.2.2) rfl rfl dB_startWith_38 ?_
        refine lv_iconst (v := -1) K.1 K.2.1 dB_startWith_41 (by decide) ?_
        refine lv_icmp_eq (tgt := 62) K.1 K.2.1 dB_startWith_42 rfl (fun hc => ?_) (fun hc => ?_)
        · have h := h.1 hc
          exact bB_startWith_62 K hr hZ (fun v2 v3 v4 hi hl ls H locs h hL hP hS => ih h hL hP hS) h (in_lt g1) (lv_sub hL [1, 2, 3, 4, 0] rfl) hP hS
        · have h := h.2 hc
          refine lv_iload_n K.1 K.2.1 dB_startWith_45 rfl (lv_at hL 2 rfl) ?_
          refine lv_aload K.1 K.2.1 dB_startWith_46 (lv_at hL 0 rfl) ?_
          refine x_getN (v := .int (hi (24 + (v4.toNatClampNeg)) 5)) K hP hinL (ci := 6) rfl (24 + (v4.toNatClampNeg)) (lt_l (in_lt g1)) (GX_line _ (in_lt g1) _ _) 5 (by decide) (fnB_156 K.2.2.2.2.2.2.2.2) rfl rfl dB_startWith_48 ?_
          refine lv_aload K.1 K.2.1 dB_startWith_51 (lv_at hL 0 rfl) ?_
          refine x_getN (v := .int (hi (24 + (v4.toNatClampNeg)) 4)) K hP hinL (ci := 6) rfl (24 + (v4.toNatClampNeg)) (lt_l (in_lt g1)) (GX_line _ (in_lt g1) _ _) 4 (by decide) (fnB_129 K.2.2.2.2.2.2.2.2) rfl rfl dB_startWith_53 ?_
          refine lv_ishl K.1 K.2.1 dB_startWith_56 ?_
          refine lv_ior K.1 K.2.1 dB_startWith_57 ?_
          refine lv_istore_n (lv' := [(2, .int (v2 ||| ((hi (24 + (v4.toNatClampNeg)) 5) <<< ((hi (24 + (v4.toNatClampNeg)) 4) &&& 31)))), (5, .ref (ad (24 + (v4.toNatClampNeg)))), (0, .ref (ad 5)), (3, .int v3), (4, .int v4)]) K.1 K.2.1 dB_startWith_58 rfl hL (by decide) rfl (fun ls hL => ?_)
          refine lv_goto (tgt := 105) K.1 K.2.1 dB_startWith_59 rfl ?_
          exact bB_startWith_105 K hr hZ (fun v2 v3 v4 hi hl ls H locs h hL hP hS => ih h hL hP hS) h (lv_sub hL [2, 0, 3, 4] rfl) hP hS
set_option maxRecDepth 100000 in
set_option maxHeartbeats 4000000 in
theorem bB_startWith_0 {p : Program} {l : Launch} {e : Env} {s : State} {m : MethodId} {args : Array Value} {below : List Frame} {meth : Method} {c : Code} {D : va_G} {cI cJ cC cZ cR : ClassId} {ad kd sd vd : Nat → Nat} {kA lA wA : Nat} {A : Nat → Prop} (K : Cx p (rmX 2 40) s m args meth c cB_startWith 7 "WordChecker$Book" gT D cls8 (tys5 cI cJ cC cZ cR) 64 ad A (ZX A kd sd vd kA lA wA)) (hr : meth.sig.returnType = (some .int)) (hZ : ZsOK A (ZX A kd sd vd kA lA wA)) {Φ : Int32 → HI → HL → Prop} {v1 : Int32} {hi : HI} {hl : HL} {H : Heap} {locs : List Loc} (h : wbB_startWith_0 v1 hi hl Φ) {ls : Array Slot} (hL : lv_has ls 7 [(0, .ref (ad 5)), (1, .int v1)]) (hP : va_P D cls8 (wl 64 ad (GX cI cJ cC cZ cR ad kd) hi hl) H) (hS : va_S A s.heap H locs) : W p l e (rmX 2 40) s m args below meth c H locs 0 0 (MQ below (va_Qi (fun r (u : HI × HL) => Φ r u.1 u.2) (fun u t => va_P D cls8 (wl 64 ad (GX cI cJ cC cZ cR ad kd) u.1 u.2) t.heap) A) args s 0 0 A) (F0 m 0 ls []) := by
  unfold wbB_startWith_0 at h
  refine lv_iconst (v := 0) K.1 K.2.1 dB_startWith_0 (by decide) ?_
  refine lv_istore_n (lv' := [(2, .int (0 : Int32)), (0, .ref (ad 5)), (1, .int v1)]) K.1 K.2.1 dB_startWith_1 rfl hL (by decide) rfl (fun ls hL => ?_)
  refine lv_iload_n K.1 K.2.1 dB_startWith_2 rfl (lv_at hL 2 rfl) ?_
  refine lv_istore_n (lv' := [(3, .int v1), (2, .int (0 : Int32)), (0, .ref (ad 5)), (1, .int v1)]) K.1 K.2.1 dB_startWith_3 rfl hL (by decide) rfl (fun ls hL => ?_)
  refine lv_iconst (v := 0) K.1 K.2.1 dB_startWith_4 (by decide) ?_
  refine lv_istore (lv' := [(4, .int (0 : Int32)), (3, .int v1), (2, .int (0 : Int32)), (0, .ref (ad 5)), (1, .int v1)]) K.1 K.2.1 dB_startWith_5 hL (by decide) rfl (fun ls hL => ?_)
  obtain ⟨fu, h⟩ := h
  exact bB_startWith_7 K hr hZ h (lv_sub hL [3, 2, 1, 0] rfl) hP hS
set_option maxRecDepth 100000 in
set_option maxHeartbeats 4000000 in
theorem mB_startWith {l : Launch} {D : va_G} {cI cJ cC cZ cR : ClassId} {ad kd sd vd : Nat → Nat} {kA lA wA : Nat} {A : Nat → Prop} (hZ : ZsOK A (ZX A kd sd vd kA lA wA)) (hD : wlD 64 ad A) {v1 : Int32} {hi : HI} {hl : HL} {Φ : Int32 → HI → HL → Prop} (h : wpB_startWith v1 hi hl Φ) : SpI l yB_startWith cB_startWith 7 (some .int) gT 2 40 [.ref (ad 5), .int v1] D cls8 (tys5 cI cJ cC cZ cR) 64 ad (GX cI cJ cC cZ cR ad kd) A (ZX A kd sd vd kA lA wA) hi hl Φ := by
  refine Met.ofW (cc := cB_startWith) (maxL := 7) (ret := (some .int)) (by decide) rfl ?_
  intro p e s m args below meth c s₁ B hml hv
  obtain ⟨rfl, hP, hK, hZs⟩ := hv
  have K : Cx p (rmX 2 40) s m _ meth c cB_startWith 7 "WordChecker$Book" gT D cls8 (tys5 cI cJ cC cZ cR) 64 ad A (ZX A kd sd vd kA lA wA) := ⟨B.exec, B.bytes, hml, findClass_of_methodNamed B.named, fun w hw => atoms_spec B.pre w (List.mem_cons_of_mem _ hw), B.notSynchronized, hK, hD, hZs⟩
  have hL := lv_entry ([.ref (ad 5), .int v1]) (n := 7) (Nat.le_of_ble_eq_true rfl)
  rw [lg_entry_eq]
  generalize (lg_sl ([.ref (ad 5), .int v1]) ++ List.replicate (7 - (lg_sl ([.ref (ad 5), .int v1])).length) Slot.unset).toArray = ls at hL ⊢
  have hL : lv_has ls 7 [(0, .ref (ad 5)), (1, .int v1)] := hL
  unfold wpB_startWith at h
  exact bB_startWith_0 K B.returns hZ h (lv_sub hL [0, 1] rfl) hP va_S.rf
set_option maxRecDepth 100000 in
set_option maxHeartbeats 4000000 in
theorem bC_begin_0 {p : Program} {l : Launch} {e : Env} {s : State} {m : MethodId} {args : Array Value} {below : List Frame} {meth : Method} {c : Code} {D : va_G} {cI cJ cC cZ cR : ClassId} {ad kd sd vd : Nat → Nat} {kA lA wA : Nat} {A : Nat → Prop} (K : Cx p (rmX 3 66) s m args meth c cC_begin 2 "WordChecker" gT D cls8 (tys5 cI cJ cC cZ cR) 64 ad A (ZX A kd sd vd kA lA wA)) (hr : meth.sig.returnType = none) (hZ : ZsOK A (ZX A kd sd vd kA lA wA)) {Φ : HI → HL → Prop} {v1 : Int32} {hi : HI} {hl : HL} {H : Heap} {locs : List Loc} (h : wbC_begin_0 v1 hi hl Φ) {ls : Array Slot} (hL : lv_has ls 2 [(0, .ref (ad 0)), (1, .int v1)]) (hP : va_P D cls8 (wl 64 ad (GX cI cJ cC cZ cR ad kd) hi hl) H) (hS : va_S A s.heap H locs) : W p l e (rmX 3 66) s m args below meth c H locs 0 0 (MQ below (va_Qv (fun (u : HI × HL) => Φ u.1 u.2) (fun u t => va_P D cls8 (wl 64 ad (GX cI cJ cC cZ cR ad kd) u.1 u.2) t.heap) A) args s 0 0 A) (F0 m 0 ls []) := by
  unfold wbC_begin_0 at h
  refine lv_aload_n K.1 K.2.1 dC_begin_0 rfl (lv_at hL 0 rfl) ?_
  refine lv_iconst (v := 1) K.1 K.2.1 dC_begin_1 (by decide) ?_
  obtain ⟨g1, h⟩ := h
  refine x_put (v := .int (1 : Int32)) K hP hS hinC tyC tyC_ok nmC (ci := 0) rfl 0 (by decide) rfl 4 (by decide) flC_63 rfl rfl (1 : Int32) rfl g1.nar g1.fit (Nat.le_of_ble_eq_true rfl) dC_begin_2 (fun H locs hP hS => ?_)
  refine lv_aload_n K.1 K.2.1 dC_begin_5 rfl (lv_at hL 0 rfl) ?_
  refine lv_aload_n K.1 K.2.1 dC_begin_6 rfl (lv_at hL 0 rfl) ?_
  refine x_get (v := .ref (ad 5)) K hP hinC (ci := 0) rfl 0 (by decide) rfl 1 (by decide) flC_19 rfl rfl dC_begin_7 ?_
  refine lv_iload_n K.1 K.2.1 dC_begin_10 rfl (lv_at hL 1 rfl) ?_
  refine x_cVI (As := [.int v1]) (rest := [.ref (ad 0)]) K gT_good hZ hP hS calB_startWith mlC_73 5 (by decide) rfl rfl (mB_startWith hZ K.2.2.2.2.2.2.2.1 h) ⟨Nat.le_of_ble_eq_true rfl, Nat.le_of_ble_eq_true rfl⟩ rfl hL.1 rfl (Nat.le_of_ble_eq_true rfl) dC_begin_11 (fun r2 hi3 hl4 H locs h hP hS => ?_)
  refine x_put (v := .int r2) K hP hS hinC tyC tyC_ok nmC (ci := 0) rfl 0 (by decide) rfl 5 (by decide) flC_77 rfl rfl r2 rfl rfl rfl (Nat.le_of_ble_eq_true rfl) dC_begin_14 (fun H locs hP hS => ?_)
  refine lv_aload_n K.1 K.2.1 dC_begin_17 rfl (lv_at hL 0 rfl) ?_
  refine lv_iconst (v := 0) K.1 K.2.1 dC_begin_18 (by decide) ?_
  refine x_put (v := .int (0 : Int32)) K hP hS hinC tyC tyC_ok nmC (ci := 0) rfl 0 (by decide) rfl 6 (by decide) flC_80 rfl rfl (0 : Int32) rfl rfl rfl (Nat.le_of_ble_eq_true rfl) dC_begin_19 (fun H locs hP hS => ?_)
  exact x_vret K hr hP hS h dC_begin_22
set_option maxRecDepth 100000 in
set_option maxHeartbeats 4000000 in
theorem mC_begin {l : Launch} {D : va_G} {cI cJ cC cZ cR : ClassId} {ad kd sd vd : Nat → Nat} {kA lA wA : Nat} {A : Nat → Prop} (hZ : ZsOK A (ZX A kd sd vd kA lA wA)) (hD : wlD 64 ad A) {v1 : Int32} {hi : HI} {hl : HL} {Φ : HI → HL → Prop} (h : wpC_begin v1 hi hl Φ) : SpV l yC_begin cC_begin 2 none gT 3 66 [.ref (ad 0), .int v1] D cls8 (tys5 cI cJ cC cZ cR) 64 ad (GX cI cJ cC cZ cR ad kd) A (ZX A kd sd vd kA lA wA) hi hl Φ := by
  refine Met.ofW (cc := cC_begin) (maxL := 2) (ret := none) (by decide) rfl ?_
  intro p e s m args below meth c s₁ B hml hv
  obtain ⟨rfl, hP, hK, hZs⟩ := hv
  have K : Cx p (rmX 3 66) s m _ meth c cC_begin 2 "WordChecker" gT D cls8 (tys5 cI cJ cC cZ cR) 64 ad A (ZX A kd sd vd kA lA wA) := ⟨B.exec, B.bytes, hml, findClass_of_methodNamed B.named, fun w hw => atoms_spec B.pre w (List.mem_cons_of_mem _ hw), B.notSynchronized, hK, hD, hZs⟩
  have hL := lv_entry ([.ref (ad 0), .int v1]) (n := 2) (Nat.le_of_ble_eq_true rfl)
  rw [lg_entry_eq]
  generalize (lg_sl ([.ref (ad 0), .int v1]) ++ List.replicate (2 - (lg_sl ([.ref (ad 0), .int v1])).length) Slot.unset).toArray = ls at hL ⊢
  have hL : lv_has ls 2 [(0, .ref (ad 0)), (1, .int v1)] := hL
  unfold wpC_begin at h
  exact bC_begin_0 K B.returns hZ h (lv_sub hL [0, 1] rfl) hP va_S.rf
set_option maxRecDepth 100000 in
set_option maxHeartbeats 4000000 in
theorem bC_feed_0 {p : Program} {l : Launch} {e : Env} {s : State} {m : MethodId} {args : Array Value} {below : List Frame} {meth : Method} {c : Code} {D : va_G} {cI cJ cC cZ cR : ClassId} {ad kd sd vd : Nat → Nat} {kA lA wA : Nat} {A : Nat → Prop} (K : Cx p (rmX 0 0) s m args meth c cC_feed 2 "WordChecker" gT D cls8 (tys5 cI cJ cC cZ cR) 64 ad A (ZX A kd sd vd kA lA wA)) (hr : meth.sig.returnType = (some .boolean)) (hZ : ZsOK A (ZX A kd sd vd kA lA wA)) {Φ : Int32 → HI → HL → Prop} {v1 : Int32} {hi : HI} {hl : HL} {H : Heap} {locs : List Loc} (h : wbC_feed_0 v1 hi hl Φ) {ls : Array Slot} (hL : lv_has ls 2 [(0, .ref (ad 0)), (1, .int v1)]) (hP : va_P D cls8 (wl 64 ad (GX cI cJ cC cZ cR ad kd) hi hl) H) (hS : va_S A s.heap H locs) : W p l e (rmX 0 0) s m args below meth c H locs 0 0 (MQ below (va_Qi (fun r (u : HI × HL) => Φ r u.1 u.2) (fun u t => va_P D cls8 (wl 64 ad (GX cI cJ cC cZ cR ad kd) u.1 u.2) t.heap) A) args s 0 0 A) (F0 m 0 ls []) := by
  unfold wbC_feed_0 at h
  refine lv_aload_n K.1 K.2.1 dC_feed_0 rfl (lv_at hL 0 rfl) ?_
  refine x_get (v := .int (hi 0 4)) K hP hinC (ci := 0) rfl 0 (by decide) rfl 4 (by decide) flC_63 rfl rfl dC_feed_1 ?_
  refine lv_if_ne (tgt := 9) K.1 K.2.1 dC_feed_4 rfl (fun hc => ?_) (fun hc => ?_)
  · have h := h.2 hc
    refine lv_aload_n K.1 K.2.1 dC_feed_9 rfl (lv_at hL 0 rfl) ?_
    refine lv_iload_n K.1 K.2.1 dC_feed_10 rfl (lv_at hL 1 rfl) ?_
    refine lv_iconst (v := 1) K.1 K.2.1 dC_feed_11 (by decide) ?_
    refine lv_aload_n K.1 K.2.1 dC_feed_12 rfl (lv_at hL 0 rfl) ?_
    refine x_get (v := .ref (ad 5)) K hP hinC (ci := 0) rfl 0 (by decide) rfl 1 (by decide) flC_19 rfl rfl dC_feed_13 ?_
    refine x_getN (v := .int (hi 5 3)) K hP hinB (ci := 2) rfl 5 (by decide) rfl 3 (by decide) (fnC_83 K.2.2.2.2.2.2.2.2) rfl rfl dC_feed_16 ?_
    refine lv_ishl K.1 K.2.1 dC_feed_19 ?_
    refine lv_iconst (v := 1) K.1 K.2.1 dC_feed_20 (by decide) ?_
    refine lv_isub K.1 K.2.1 dC_feed_21 ?_
    refine lv_iand K.1 K.2.1 dC_feed_22 ?_
    refine x_put (v := .int (v1 &&& (((1 : Int32) <<< ((hi 5 3) &&& 31)) - (1 : Int32)))) K hP hS hinC tyC tyC_ok nmC (ci := 0) rfl 0 (by decide) rfl 6 (by decide) flC_80 rfl rfl (v1 &&& (((1 : Int32) <<< ((hi 5 3) &&& 31)) - (1 : Int32))) rfl rfl rfl (Nat.le_of_ble_eq_true rfl) dC_feed_23 (fun H locs hP hS => ?_)
    refine lv_iconst (v := 1) K.1 K.2.1 dC_feed_26 (by decide) ?_
    obtain ⟨g1, h⟩ := h
    exact x_zret K hr hP hS g1 h dC_feed_27
  · have h := h.1 hc
    refine lv_iconst (v := 0) K.1 K.2.1 dC_feed_7 (by decide) ?_
    obtain ⟨g2, h⟩ := h
    exact x_zret K hr hP hS g2 h dC_feed_8
set_option maxRecDepth 100000 in
set_option maxHeartbeats 4000000 in
theorem mC_feed {l : Launch} {D : va_G} {cI cJ cC cZ cR : ClassId} {ad kd sd vd : Nat → Nat} {kA lA wA : Nat} {A : Nat → Prop} (hZ : ZsOK A (ZX A kd sd vd kA lA wA)) (hD : wlD 64 ad A) {v1 : Int32} {hi : HI} {hl : HL} {Φ : Int32 → HI → HL → Prop} (h : wpC_feed v1 hi hl Φ) : SpI l yC_feed cC_feed 2 (some .boolean) gT 0 0 [.ref (ad 0), .int v1] D cls8 (tys5 cI cJ cC cZ cR) 64 ad (GX cI cJ cC cZ cR ad kd) A (ZX A kd sd vd kA lA wA) hi hl Φ := by
  refine Met.ofW (cc := cC_feed) (maxL := 2) (ret := (some .boolean)) (by decide) rfl ?_
  intro p e s m args below meth c s₁ B hml hv
  obtain ⟨rfl, hP, hK, hZs⟩ := hv
  have K : Cx p (rmX 0 0) s m _ meth c cC_feed 2 "WordChecker" gT D cls8 (tys5 cI cJ cC cZ cR) 64 ad A (ZX A kd sd vd kA lA wA) := ⟨B.exec, B.bytes, hml, findClass_of_methodNamed B.named, fun w hw => atoms_spec B.pre w (List.mem_cons_of_mem _ hw), B.notSynchronized, hK, hD, hZs⟩
  have hL := lv_entry ([.ref (ad 0), .int v1]) (n := 2) (Nat.le_of_ble_eq_true rfl)
  rw [lg_entry_eq]
  generalize (lg_sl ([.ref (ad 0), .int v1]) ++ List.replicate (2 - (lg_sl ([.ref (ad 0), .int v1])).length) Slot.unset).toArray = ls at hL ⊢
  have hL : lv_has ls 2 [(0, .ref (ad 0)), (1, .int v1)] := hL
  unfold wpC_feed at h
  exact bC_feed_0 K B.returns hZ h (lv_sub hL [0, 1] rfl) hP va_S.rf
set_option maxRecDepth 100000 in
set_option maxHeartbeats 4000000 in
theorem bB_after_39 {p : Program} {l : Launch} {e : Env} {s : State} {m : MethodId} {args : Array Value} {below : List Frame} {meth : Method} {c : Code} {D : va_G} {cI cJ cC cZ cR : ClassId} {ad kd sd vd : Nat → Nat} {kA lA wA : Nat} {A : Nat → Prop} (K : Cx p (rmX 1 22) s m args meth c cB_after 5 "WordChecker$Book" gT D cls8 (tys5 cI cJ cC cZ cR) 64 ad A (ZX A kd sd vd kA lA wA)) (hr : meth.sig.returnType = (some .int)) (hZ : ZsOK A (ZX A kd sd vd kA lA wA)) {Φ : Int32 → HI → HL → Prop} {k5 : Int32 → Int32 → Int32 → Int32 → HI → HL → Prop} (hk5 : ∀ (v1 : Int32) (v2 : Int32) (v3 : Int32) (v4 : Int32) (hi : HI) (hl : HL) (ls : Array Slot) (H : Heap) (locs : List Loc), k5 v1 v2 v3 v4 hi hl → lv_has ls 5 [(0, .ref (ad 5)), (1, .int v1), (2, .int v2), (3, .int v3), (4, .int v4)] → va_P D cls8 (wl 64 ad (GX cI cJ cC cZ cR ad kd) hi hl) H → va_S A s.heap H locs → W p l e (rmX 1 22) s m args below meth c H locs 0 0 (MQ below (va_Qi (fun r (u : HI × HL) => Φ r u.1 u.2) (fun u t => va_P D cls8 (wl 64 ad (GX cI cJ cC cZ cR ad kd) u.1 u.2) t.heap) A) args s 0 0 A) (F0 m 5 ls [])) {v1 : Int32} {v2 : Int32} {v3 : Int32} {v4 : Int32} {hi : HI} {hl : HL} {H : Heap} {locs : List Loc} (h : wbB_after_39 k5 v1 v2 v3 v4 hi hl Φ) {ls : Array Slot} (hL : lv_has ls 5 [(0, .ref (ad 5)), (1, .int v1), (2, .int v2), (3, .int v3), (4, .int v4)]) (hP : va_P D cls8 (wl 64 ad (GX cI cJ cC cZ cR ad kd) hi hl) H) (hS : va_S A s.heap H locs) : W p l e (rmX 1 22) s m args below meth c H locs 0 0 (MQ below (va_Qi (fun r (u : HI × HL) => Φ r u.1 u.2) (fun u t => va_P D cls8 (wl 64 ad (GX cI cJ cC cZ cR ad kd) u.1 u.2) t.heap) A) args s 0 0 A) (F0 m 39 ls []) := by
  unfold wbB_after_39 at h
  refine lv_iinc (k := 4) (lv' := [(4, .int (v4 + Int32.ofInt (1))), (0, .ref (ad 5)), (1, .int v1), (2, .int v2), (3, .int v3)]) K.1 K.2.1 dB_after_39 hL rfl rfl (by decide) rfl (fun ls hL => ?_)
  refine lv_goto (tgt := 5) K.1 K.2.1 dB_after_42 rfl ?_
  exact hk5 _ _ _ _ _ _ _ _ _ h (lv_sub hL [1, 2, 3, 4, 0] rfl) hP hS
set_option maxRecDepth 100000 in
set_option maxHeartbeats 4000000 in
theorem bB_after_5 {p : Program} {l : Launch} {e : Env} {s : State} {m : MethodId} {args : Array Value} {below : List Frame} {meth : Method} {c : Code} {D : va_G} {cI cJ cC cZ cR : ClassId} {ad kd sd vd : Nat → Nat} {kA lA wA : Nat} {A : Nat → Prop} (K : Cx p (rmX 1 22) s m args meth c cB_after 5 "WordChecker$Book" gT D cls8 (tys5 cI cJ cC cZ cR) 64 ad A (ZX A kd sd vd kA lA wA)) (hr : meth.sig.returnType = (some .int)) (hZ : ZsOK A (ZX A kd sd vd kA lA wA)) {Φ : Int32 → HI → HL → Prop} {n : Nat} {v1 : Int32} {v2 : Int32} {v3 : Int32} {v4 : Int32} {hi : HI} {hl : HL} {H : Heap} {locs : List Loc} (h : wbB_after_5 n v1 v2 v3 v4 hi hl Φ) {ls : Array Slot} (hL : lv_has ls 5 [(0, .ref (ad 5)), (1, .int v1), (2, .int v2), (3, .int v3), (4, .int v4)]) (hP : va_P D cls8 (wl 64 ad (GX cI cJ cC cZ cR ad kd) hi hl) H) (hS : va_S A s.heap H locs) : W p l e (rmX 1 22) s m args below meth c H locs 0 0 (MQ below (va_Qi (fun r (u : HI × HL) => Φ r u.1 u.2) (fun u t => va_P D cls8 (wl 64 ad (GX cI cJ cC cZ cR ad kd) u.1 u.2) t.heap) A) args s 0 0 A) (F0 m 5 ls []) := by
  induction n generalizing v1 v2 v3 v4 hi hl ls H locs with
  | zero => exact False.elim h
  | succ n ih =>
    unfold wbB_after_5 at h
    refine lv_iload K.1 K.2.1 dB_after_5 (lv_at hL 4 rfl) ?_
    refine lv_aload_n K.1 K.2.1 dB_after_7 rfl (lv_at hL 0 rfl) ?_
    refine x_get (v := .int (hi 5 4)) K hP hinB (ci := 2) rfl 5 (by decide) rfl 4 (by decide) flB_142 rfl rfl dB_after_8 ?_
    refine lv_icmp_ge (tgt := 45) K.1 K.2.1 dB_after_11 rfl (fun hc => ?_) (fun hc => ?_)
    · have h := h.1 hc
      refine lv_iload_n K.1 K.2.1 dB_after_45 rfl (lv_at hL 3 rfl) ?_
      exact x_iret K hr hP hS h dB_after_46
    · have h := h.2 hc
      refine lv_aload_n K.1 K.2.1 dB_after_14 rfl (lv_at hL 0 rfl) ?_
      refine x_get (v := .ref (ad 7)) K hP hinB (ci := 2) rfl 5 (by decide) rfl 6 (by decide) flB_24 rfl rfl dB_after_15 ?_
      refine lv_iload K.1 K.2.1 dB_after_18 (lv_at hL 4 rfl) ?_
      refine lv_iconst (v := 4) K.1 K.2.1 dB_after_20 (by decide) ?_
      refine lv_imul K.1 K.2.1 dB_after_21 ?_
      refine lv_iload_n K.1 K.2.1 dB_after_22 rfl (lv_at hL 2 rfl) ?_
      refine lv_iadd K.1 K.2.1 dB_after_23 ?_
      obtain ⟨g1, h⟩ := h
      refine x_lald K hP 7 (by decide) 1 rfl rfl g1 dB_after_24 ?_
      refine lv_iload_n K.1 K.2.1 dB_after_25 rfl (lv_at hL 1 rfl) ?_
      refine x_cSNI (As := [.long (hl 7 (((v4 * (4 : Int32)) + v2).toNatClampNeg)), .int v1]) (rest := []) K gT_good hZ hP hS calC_has (mnB_138 K.2.2.2.2.2.2.2.2) (mC_has hZ K.2.2.2.2.2.2.2.1 h) ⟨Nat.le_of_ble_eq_true rfl, Nat.le_of_ble_eq_true rfl⟩ rfl hL.1 rfl (Nat.le_of_ble_eq_true rfl) dB_after_26 (fun r2 hi3 hl4 H locs h hP hS => ?_)
      refine lv_if_eq (tgt := 39) K.1 K.2.1 dB_after_29 rfl (fun hc => ?_) (fun hc => ?_)
      · have h := h.1 hc
        exact bB_after_39 K hr hZ (fun v1 v2 v3 v4 hi hl ls H locs h hL hP hS => ih h hL hP hS) h (lv_sub hL [0, 1, 2, 3, 4] rfl) hP hS
      · have h := h.2 hc
        refine lv_iload_n K.1 K.2.1 dB_after_32 rfl (lv_at hL 3 rfl) ?_
        refine lv_iconst (v := 1) K.1 K.2.1 dB_after_33 (by decide) ?_
        refine lv_iload K.1 K.2.1 dB_after_34 (lv_at hL 4 rfl) ?_
        refine lv_ishl K.1 K.2.1 dB_after_36 ?_
        refine lv_ior K.1 K.2.1 dB_after_37 ?_
        refine lv_istore_n (lv' := [(3, .int (v3 ||| ((1 : Int32) <<< (v4 &&& 31)))), (0, .ref (ad 5)), (1, .int v1), (2, .int v2), (4, .int v4)]) K.1 K.2.1 dB_after_38 rfl hL (by decide) rfl (fun ls hL => ?_)
        exact bB_after_39 K hr hZ (fun v1 v2 v3 v4 hi hl ls H locs h hL hP hS => ih h hL hP hS) h (lv_sub hL [1, 2, 3, 0, 4] rfl) hP hS
set_option maxRecDepth 100000 in
set_option maxHeartbeats 4000000 in
theorem bB_after_0 {p : Program} {l : Launch} {e : Env} {s : State} {m : MethodId} {args : Array Value} {below : List Frame} {meth : Method} {c : Code} {D : va_G} {cI cJ cC cZ cR : ClassId} {ad kd sd vd : Nat → Nat} {kA lA wA : Nat} {A : Nat → Prop} (K : Cx p (rmX 1 22) s m args meth c cB_after 5 "WordChecker$Book" gT D cls8 (tys5 cI cJ cC cZ cR) 64 ad A (ZX A kd sd vd kA lA wA)) (hr : meth.sig.returnType = (some .int)) (hZ : ZsOK A (ZX A kd sd vd kA lA wA)) {Φ : Int32 → HI → HL → Prop} {v1 : Int32} {v2 : Int32} {hi : HI} {hl : HL} {H : Heap} {locs : List Loc} (h : wbB_after_0 v1 v2 hi hl Φ) {ls : Array Slot} (hL : lv_has ls 5 [(0, .ref (ad 5)), (1, .int v1), (2, .int v2)]) (hP : va_P D cls8 (wl 64 ad (GX cI cJ cC cZ cR ad kd) hi hl) H) (hS : va_S A s.heap H locs) : W p l e (rmX 1 22) s m args below meth c H locs 0 0 (MQ below (va_Qi (fun r (u : HI × HL) => Φ r u.1 u.2) (fun u t => va_P D cls8 (wl 64 ad (GX cI cJ cC cZ cR ad kd) u.1 u.2) t.heap) A) args s 0 0 A) (F0 m 0 ls []) := by
  unfold wbB_after_0 at h
  refine lv_iconst (v := 0) K.1 K.2.1 dB_after_0 (by decide) ?_
  refine lv_istore_n (lv' := [(3, .int (0 : Int32)), (0, .ref (ad 5)), (1, .int v1), (2, .int v2)]) K.1 K.2.1 dB_after_1 rfl hL (by decide) rfl (fun ls hL => ?_)
  refine lv_iconst (v := 0) K.1 K.2.1 dB_after_2 (by decide) ?_
  refine lv_istore (lv' := [(4, .int (0 : Int32)), (3, .int (0 : Int32)), (0, .ref (ad 5)), (1, .int v1), (2, .int v2)]) K.1 K.2.1 dB_after_3 hL (by decide) rfl (fun ls hL => ?_)
  obtain ⟨fu, h⟩ := h
  exact bB_after_5 K hr hZ h (lv_sub hL [2, 3, 4, 1, 0] rfl) hP hS
set_option maxRecDepth 100000 in
set_option maxHeartbeats 4000000 in
theorem mB_after {l : Launch} {D : va_G} {cI cJ cC cZ cR : ClassId} {ad kd sd vd : Nat → Nat} {kA lA wA : Nat} {A : Nat → Prop} (hZ : ZsOK A (ZX A kd sd vd kA lA wA)) (hD : wlD 64 ad A) {v1 : Int32} {v2 : Int32} {hi : HI} {hl : HL} {Φ : Int32 → HI → HL → Prop} (h : wpB_after v1 v2 hi hl Φ) : SpI l yB_after cB_after 5 (some .int) gT 1 22 [.ref (ad 5), .int v1, .int v2] D cls8 (tys5 cI cJ cC cZ cR) 64 ad (GX cI cJ cC cZ cR ad kd) A (ZX A kd sd vd kA lA wA) hi hl Φ := by
  refine Met.ofW (cc := cB_after) (maxL := 5) (ret := (some .int)) (by decide) rfl ?_
  intro p e s m args below meth c s₁ B hml hv
  obtain ⟨rfl, hP, hK, hZs⟩ := hv
  have K : Cx p (rmX 1 22) s m _ meth c cB_after 5 "WordChecker$Book" gT D cls8 (tys5 cI cJ cC cZ cR) 64 ad A (ZX A kd sd vd kA lA wA) := ⟨B.exec, B.bytes, hml, findClass_of_methodNamed B.named, fun w hw => atoms_spec B.pre w (List.mem_cons_of_mem _ hw), B.notSynchronized, hK, hD, hZs⟩
  have hL := lv_entry ([.ref (ad 5), .int v1, .int v2]) (n := 5) (Nat.le_of_ble_eq_true rfl)
  rw [lg_entry_eq]
  generalize (lg_sl ([.ref (ad 5), .int v1, .int v2]) ++ List.replicate (5 - (lg_sl ([.ref (ad 5), .int v1, .int v2])).length) Slot.unset).toArray = ls at hL ⊢
  have hL : lv_has ls 5 [(0, .ref (ad 5)), (1, .int v1), (2, .int v2)] := hL
  unfold wpB_after at h
  exact bB_after_0 K B.returns hZ h (lv_sub hL [0, 1, 2] rfl) hP va_S.rf
set_option maxRecDepth 100000 in
set_option maxHeartbeats 4000000 in
theorem bC_step_0 {p : Program} {l : Launch} {e : Env} {s : State} {m : MethodId} {args : Array Value} {below : List Frame} {meth : Method} {c : Code} {D : va_G} {cI cJ cC cZ cR : ClassId} {ad kd sd vd : Nat → Nat} {kA lA wA : Nat} {A : Nat → Prop} (K : Cx p (rmX 2 46) s m args meth c cC_step 1 "WordChecker" gT D cls8 (tys5 cI cJ cC cZ cR) 64 ad A (ZX A kd sd vd kA lA wA)) (hr : meth.sig.returnType = (some .boolean)) (hZ : ZsOK A (ZX A kd sd vd kA lA wA)) {Φ : Int32 → HI → HL → Prop} {hi : HI} {hl : HL} {H : Heap} {locs : List Loc} (h : wbC_step_0 hi hl Φ) {ls : Array Slot} (hL : lv_has ls 1 [(0, .ref (ad 0))]) (hP : va_P D cls8 (wl 64 ad (GX cI cJ cC cZ cR ad kd) hi hl) H) (hS : va_S A s.heap H locs) : W p l e (rmX 2 46) s m args below meth c H locs 0 0 (MQ below (va_Qi (fun r (u : HI × HL) => Φ r u.1 u.2) (fun u t => va_P D cls8 (wl 64 ad (GX cI cJ cC cZ cR ad kd) u.1 u.2) t.heap) A) args s 0 0 A) (F0 m 0 ls []) := by
  unfold wbC_step_0 at h
  refine lv_aload_n K.1 K.2.1 dC_step_0 rfl (lv_at hL 0 rfl) ?_
  refine x_get (v := .int (hi 0 4)) K hP hinC (ci := 0) rfl 0 (by decide) rfl 4 (by decide) flC_63 rfl rfl dC_step_1 ?_
  refine lv_if_ne (tgt := 9) K.1 K.2.1 dC_step_4 rfl (fun hc => ?_) (fun hc => ?_)
  · have h := h.2 hc
    refine lv_aload_n K.1 K.2.1 dC_step_9 rfl (lv_at hL 0 rfl) ?_
    refine lv_aload_n K.1 K.2.1 dC_step_10 rfl (lv_at hL 0 rfl) ?_
    refine x_get (v := .ref (ad 5)) K hP hinC (ci := 0) rfl 0 (by decide) rfl 1 (by decide) flC_19 rfl rfl dC_step_11 ?_
    refine lv_aload_n K.1 K.2.1 dC_step_14 rfl (lv_at hL 0 rfl) ?_
    refine x_get (v := .int (hi 0 5)) K hP hinC (ci := 0) rfl 0 (by decide) rfl 5 (by decide) flC_77 rfl rfl dC_step_15 ?_
    refine lv_aload_n K.1 K.2.1 dC_step_18 rfl (lv_at hL 0 rfl) ?_
    refine x_get (v := .int (hi 0 6)) K hP hinC (ci := 0) rfl 0 (by decide) rfl 6 (by decide) flC_80 rfl rfl dC_step_19 ?_
    refine x_cVI (As := [.int (hi 0 5), .int (hi 0 6)]) (rest := [.ref (ad 0)]) K gT_good hZ hP hS calB_after mlC_86 5 (by decide) rfl rfl (mB_after hZ K.2.2.2.2.2.2.2.1 h) ⟨Nat.le_of_ble_eq_true rfl, Nat.le_of_ble_eq_true rfl⟩ rfl hL.1 rfl (Nat.le_of_ble_eq_true rfl) dC_step_22 (fun r1 hi2 hl3 H locs h hP hS => ?_)
    refine x_put (v := .int r1) K hP hS hinC tyC tyC_ok nmC (ci := 0) rfl 0 (by decide) rfl 5 (by decide) flC_77 rfl rfl r1 rfl rfl rfl (Nat.le_of_ble_eq_true rfl) dC_step_25 (fun H locs hP hS => ?_)
    refine lv_aload_n K.1 K.2.1 dC_step_28 rfl (lv_at hL 0 rfl) ?_
    refine lv_iconst (v := 0) K.1 K.2.1 dC_step_29 (by decide) ?_
    refine x_put (v := .int (0 : Int32)) K hP hS hinC tyC tyC_ok nmC (ci := 0) rfl 0 (by decide) rfl 6 (by decide) flC_80 rfl rfl (0 : Int32) rfl rfl rfl (Nat.le_of_ble_eq_true rfl) dC_step_30 (fun H locs hP hS => ?_)
    refine lv_iconst (v := 1) K.1 K.2.1 dC_step_33 (by decide) ?_
    obtain ⟨g4, h⟩ := h
    exact x_zret K hr hP hS g4 h dC_step_34
  · have h := h.1 hc
    refine lv_iconst (v := 0) K.1 K.2.1 dC_step_7 (by decide) ?_
    obtain ⟨g5, h⟩ := h
    exact x_zret K hr hP hS g5 h dC_step_8
set_option maxRecDepth 100000 in
set_option maxHeartbeats 4000000 in
theorem mC_step {l : Launch} {D : va_G} {cI cJ cC cZ cR : ClassId} {ad kd sd vd : Nat → Nat} {kA lA wA : Nat} {A : Nat → Prop} (hZ : ZsOK A (ZX A kd sd vd kA lA wA)) (hD : wlD 64 ad A) {hi : HI} {hl : HL} {Φ : Int32 → HI → HL → Prop} (h : wpC_step hi hl Φ) : SpI l yC_step cC_step 1 (some .boolean) gT 2 46 [.ref (ad 0)] D cls8 (tys5 cI cJ cC cZ cR) 64 ad (GX cI cJ cC cZ cR ad kd) A (ZX A kd sd vd kA lA wA) hi hl Φ := by
  refine Met.ofW (cc := cC_step) (maxL := 1) (ret := (some .boolean)) (by decide) rfl ?_
  intro p e s m args below meth c s₁ B hml hv
  obtain ⟨rfl, hP, hK, hZs⟩ := hv
  have K : Cx p (rmX 2 46) s m _ meth c cC_step 1 "WordChecker" gT D cls8 (tys5 cI cJ cC cZ cR) 64 ad A (ZX A kd sd vd kA lA wA) := ⟨B.exec, B.bytes, hml, findClass_of_methodNamed B.named, fun w hw => atoms_spec B.pre w (List.mem_cons_of_mem _ hw), B.notSynchronized, hK, hD, hZs⟩
  have hL := lv_entry ([.ref (ad 0)]) (n := 1) (Nat.le_of_ble_eq_true rfl)
  rw [lg_entry_eq]
  generalize (lg_sl ([.ref (ad 0)]) ++ List.replicate (1 - (lg_sl ([.ref (ad 0)])).length) Slot.unset).toArray = ls at hL ⊢
  have hL : lv_has ls 1 [(0, .ref (ad 0))] := hL
  unfold wpC_step at h
  exact bC_step_0 K B.returns hZ h (lv_sub hL [0] rfl) hP va_S.rf
set_option maxRecDepth 100000 in
set_option maxHeartbeats 4000000 in
theorem bL_valueAt_42 {p : Program} {l : Launch} {e : Env} {s : State} {m : MethodId} {args : Array Value} {below : List Frame} {meth : Method} {c : Code} {D : va_G} {cI cJ cC cZ cR : ClassId} {ad kd sd vd : Nat → Nat} {kA lA wA : Nat} {A : Nat → Prop} (K : Cx p (rmX 2 40) s m args meth c cL_valueAt 5 "WordChecker$Line" gT D cls8 (tys5 cI cJ cC cZ cR) 64 ad A (ZX A kd sd vd kA lA wA)) (hr : meth.sig.returnType = (some .int)) (hZ : ZsOK A (ZX A kd sd vd kA lA wA)) {Φ : Int32 → HI → HL → Prop} {k5 : Nat → Int32 → Int32 → Int32 → Int32 → HI → HL → Prop} (hk5 : ∀ (v0 : Nat) (v1 : Int32) (v2 : Int32) (v3 : Int32) (v4 : Int32) (hi : HI) (hl : HL) (ls : Array Slot) (H : Heap) (locs : List Loc), k5 v0 v1 v2 v3 v4 hi hl → v0 < 20 → lv_has ls 5 [(0, .ref (ad (24 + v0))), (1, .int v1), (2, .int v2), (3, .int v3), (4, .int v4)] → va_P D cls8 (wl 64 ad (GX cI cJ cC cZ cR ad kd) hi hl) H → va_S A s.heap H locs → W p l e (rmX 2 40) s m args below meth c H locs 0 0 (MQ below (va_Qi (fun r (u : HI × HL) => Φ r u.1 u.2) (fun u t => va_P D cls8 (wl 64 ad (GX cI cJ cC cZ cR ad kd) u.1 u.2) t.heap) A) args s 0 0 A) (F0 m 5 ls [])) {v0 : Nat} {v1 : Int32} {v2 : Int32} {v3 : Int32} {v4 : Int32} {hi : HI} {hl : HL} {H : Heap} {locs : List Loc} (h : wbL_valueAt_42 k5 v0 v1 v2 v3 v4 hi hl Φ) (hv0 : v0 < 20) {ls : Array Slot} (hL : lv_has ls 5 [(0, .ref (ad (24 + v0))), (1, .int v1), (2, .int v2), (3, .int v3), (4, .int v4)]) (hP : va_P D cls8 (wl 64 ad (GX cI cJ cC cZ cR ad kd) hi hl) H) (hS : va_S A s.heap H locs) : W p l e (rmX 2 40) s m args below meth c H locs 0 0 (MQ below (va_Qi (fun r (u : HI × HL) => Φ r u.1 u.2) (fun u t => va_P D cls8 (wl 64 ad (GX cI cJ cC cZ cR ad kd) u.1 u.2) t.heap) A) args s 0 0 A) (F0 m 42 ls []) := by
  unfold wbL_valueAt_42 at h
  refine lv_iinc (k := 4) (lv' := [(4, .int (v4 + Int32.ofInt (1))), (0, .ref (ad (24 + v0))), (1, .int v1), (2, .int v2), (3, .int v3)]) K.1 K.2.1 dL_valueAt_42 hL rfl rfl (by decide) rfl (fun ls hL => ?_)
  refine lv_goto (tgt := 5) K.1 K.2.1 dL_valueAt_45 rfl ?_
  exact hk5 _ _ _ _ _ _ _ _ _ _ h hv0 (lv_sub hL [1, 2, 3, 4, 0] rfl) hP hS
set_option maxRecDepth 100000 in
set_option maxHeartbeats 4000000 in
theorem bL_valueAt_5 {p : Program} {l : Launch} {e : Env} {s : State} {m : MethodId} {args : Array Value} {below : List Frame} {meth : Method} {c : Code} {D : va_G} {cI cJ cC cZ cR : ClassId} {ad kd sd vd : Nat → Nat} {kA lA wA : Nat} {A : Nat → Prop} (K : Cx p (rmX 2 40) s m args meth c cL_valueAt 5 "WordChecker$Line" gT D cls8 (tys5 cI cJ cC cZ cR) 64 ad A (ZX A kd sd vd kA lA wA)) (hr : meth.sig.returnType = (some .int)) (hZ : ZsOK A (ZX A kd sd vd kA lA wA)) {Φ : Int32 → HI → HL → Prop} {n : Nat} {v0 : Nat} {v1 : Int32} {v2 : Int32} {v3 : Int32} {v4 : Int32} {hi : HI} {hl : HL} {H : Heap} {locs : List Loc} (h : wbL_valueAt_5 n v0 v1 v2 v3 v4 hi hl Φ) (hv0 : v0 < 20) {ls : Array Slot} (hL : lv_has ls 5 [(0, .ref (ad (24 + v0))), (1, .int v1), (2, .int v2), (3, .int v3), (4, .int v4)]) (hP : va_P D cls8 (wl 64 ad (GX cI cJ cC cZ cR ad kd) hi hl) H) (hS : va_S A s.heap H locs) : W p l e (rmX 2 40) s m args below meth c H locs 0 0 (MQ below (va_Qi (fun r (u : HI × HL) => Φ r u.1 u.2) (fun u t => va_P D cls8 (wl 64 ad (GX cI cJ cC cZ cR ad kd) u.1 u.2) t.heap) A) args s 0 0 A) (F0 m 5 ls []) := by
  induction n generalizing v0 v1 v2 v3 v4 hi hl ls H locs with
  | zero => exact False.elim h
  | succ n ih =>
    unfold wbL_valueAt_5 at h
    refine lv_iload K.1 K.2.1 dL_valueAt_5 (lv_at hL 4 rfl) ?_
    refine lv_aload_n K.1 K.2.1 dL_valueAt_7 rfl (lv_at hL 0 rfl) ?_
    refine x_get (v := .int (hi (24 + v0) 2)) K hP hinL (ci := 6) rfl (24 + v0) (lt_l hv0) (GX_line _ hv0 _ _) 2 (by decide) flL_19 rfl rfl dL_valueAt_8 ?_
    refine x_cSNI (As := [.int (hi (24 + v0) 2)]) (rest := [.int v4]) K gT_good hZ hP hS calC_bitsOf (mnL_22 K.2.2.2.2.2.2.2.2) (mC_bitsOf hZ K.2.2.2.2.2.2.2.1 h) ⟨Nat.le_of_ble_eq_true rfl, Nat.le_of_ble_eq_true rfl⟩ rfl hL.1 rfl (Nat.le_of_ble_eq_true rfl) dL_valueAt_11 (fun r1 hi2 hl3 H locs h hP hS => ?_)
    refine lv_icmp_ge (tgt := 48) K.1 K.2.1 dL_valueAt_14 rfl (fun hc => ?_) (fun hc => ?_)
    · have h := h.1 hc
      refine lv_iload_n K.1 K.2.1 dL_valueAt_48 rfl (lv_at hL 3 rfl) ?_
      exact x_iret K hr hP hS h dL_valueAt_49
    · have h := h.2 hc
      refine lv_aload_n K.1 K.2.1 dL_valueAt_17 rfl (lv_at hL 0 rfl) ?_
      refine x_get (v := .ref (ad (44 + v0))) K hP hinL (ci := 6) rfl (24 + v0) (lt_l hv0) (GX_line _ hv0 _ _) 7 (by decide) flL_15 rfl rfl dL_valueAt_18 ?_
      refine lv_iload K.1 K.2.1 dL_valueAt_21 (lv_at hL 4 rfl) ?_
      refine lv_iconst (v := 4) K.1 K.2.1 dL_valueAt_23 (by decide) ?_
      refine lv_imul K.1 K.2.1 dL_valueAt_24 ?_
      refine lv_iload_n K.1 K.2.1 dL_valueAt_25 rfl (lv_at hL 2 rfl) ?_
      refine lv_iadd K.1 K.2.1 dL_valueAt_26 ?_
      obtain ⟨g4, h⟩ := h
      refine x_lald K hP (44 + v0) (lt_l2 hv0) 1 (GX_wires _ hv0 _ _) rfl g4 dL_valueAt_27 ?_
      refine lv_iload_n K.1 K.2.1 dL_valueAt_28 rfl (lv_at hL 1 rfl) ?_
      refine x_cSNI (As := [.long (hl3 (44 + v0) (((v4 * (4 : Int32)) + v2).toNatClampNeg)), .int v1]) (rest := []) K gT_good hZ hP hS calC_has (mnL_26 K.2.2.2.2.2.2.2.2) (mC_has hZ K.2.2.2.2.2.2.2.1 h) ⟨Nat.le_of_ble_eq_true rfl, Nat.le_of_ble_eq_true rfl⟩ rfl hL.1 rfl (Nat.le_of_ble_eq_true rfl) dL_valueAt_29 (fun r5 hi6 hl7 H locs h hP hS => ?_)
      refine lv_if_eq (tgt := 42) K.1 K.2.1 dL_valueAt_32 rfl (fun hc => ?_) (fun hc => ?_)
      · have h := h.1 hc
        exact bL_valueAt_42 K hr hZ (fun v0 v1 v2 v3 v4 hi hl ls H locs h f0 hL hP hS => ih h f0 hL hP hS) h hv0 (lv_sub hL [0, 1, 2, 3, 4] rfl) hP hS
      · have h := h.2 hc
        refine lv_iload_n K.1 K.2.1 dL_valueAt_35 rfl (lv_at hL 3 rfl) ?_
        refine lv_iconst (v := 1) K.1 K.2.1 dL_valueAt_36 (by decide) ?_
        refine lv_iload K.1 K.2.1 dL_valueAt_37 (lv_at hL 4 rfl) ?_
        refine lv_ishl K.1 K.2.1 dL_valueAt_39 ?_
        refine lv_ior K.1 K.2.1 dL_valueAt_40 ?_
        refine lv_istore_n (lv' := [(3, .int (v3 ||| ((1 : Int32) <<< (v4 &&& 31)))), (0, .ref (ad (24 + v0))), (1, .int v1), (2, .int v2), (4, .int v4)]) K.1 K.2.1 dL_valueAt_41 rfl hL (by decide) rfl (fun ls hL => ?_)
        exact bL_valueAt_42 K hr hZ (fun v0 v1 v2 v3 v4 hi hl ls H locs h f0 hL hP hS => ih h f0 hL hP hS) h hv0 (lv_sub hL [1, 2, 3, 0, 4] rfl) hP hS
set_option maxRecDepth 100000 in
set_option maxHeartbeats 4000000 in
theorem bL_valueAt_0 {p : Program} {l : Launch} {e : Env} {s : State} {m : MethodId} {args : Array Value} {below : List Frame} {meth : Method} {c : Code} {D : va_G} {cI cJ cC cZ cR : ClassId} {ad kd sd vd : Nat → Nat} {kA lA wA : Nat} {A : Nat → Prop} (K : Cx p (rmX 2 40) s m args meth c cL_valueAt 5 "WordChecker$Line" gT D cls8 (tys5 cI cJ cC cZ cR) 64 ad A (ZX A kd sd vd kA lA wA)) (hr : meth.sig.returnType = (some .int)) (hZ : ZsOK A (ZX A kd sd vd kA lA wA)) {Φ : Int32 → HI → HL → Prop} {v0 : Nat} {v1 : Int32} {v2 : Int32} {hi : HI} {hl : HL} {H : Heap} {locs : List Loc} (h : wbL_valueAt_0 v0 v1 v2 hi hl Φ) (hv0 : v0 < 20) {ls : Array Slot} (hL : lv_has ls 5 [(0, .ref (ad (24 + v0))), (1, .int v1), (2, .int v2)]) (hP : va_P D cls8 (wl 64 ad (GX cI cJ cC cZ cR ad kd) hi hl) H) (hS : va_S A s.heap H locs) : W p l e (rmX 2 40) s m args below meth c H locs 0 0 (MQ below (va_Qi (fun r (u : HI × HL) => Φ r u.1 u.2) (fun u t => va_P D cls8 (wl 64 ad (GX cI cJ cC cZ cR ad kd) u.1 u.2) t.heap) A) args s 0 0 A) (F0 m 0 ls []) := by
  unfold wbL_valueAt_0 at h
  refine lv_iconst (v := 0) K.1 K.2.1 dL_valueAt_0 (by decide) ?_
  refine lv_istore_n (lv' := [(3, .int (0 : Int32)), (0, .ref (ad (24 + v0))), (1, .int v1), (2, .int v2)]) K.1 K.2.1 dL_valueAt_1 rfl hL (by decide) rfl (fun ls hL => ?_)
  refine lv_iconst (v := 0) K.1 K.2.1 dL_valueAt_2 (by decide) ?_
  refine lv_istore (lv' := [(4, .int (0 : Int32)), (3, .int (0 : Int32)), (0, .ref (ad (24 + v0))), (1, .int v1), (2, .int v2)]) K.1 K.2.1 dL_valueAt_3 hL (by decide) rfl (fun ls hL => ?_)
  obtain ⟨fu, h⟩ := h
  exact bL_valueAt_5 K hr hZ h hv0 (lv_sub hL [2, 3, 4, 1, 0] rfl) hP hS
set_option maxRecDepth 100000 in
set_option maxHeartbeats 4000000 in
theorem mL_valueAt {l : Launch} {D : va_G} {cI cJ cC cZ cR : ClassId} {ad kd sd vd : Nat → Nat} {kA lA wA : Nat} {A : Nat → Prop} (hZ : ZsOK A (ZX A kd sd vd kA lA wA)) (hD : wlD 64 ad A) {v0 : Nat} {v1 : Int32} {v2 : Int32} (hv0 : v0 < 20) {hi : HI} {hl : HL} {Φ : Int32 → HI → HL → Prop} (h : wpL_valueAt v0 v1 v2 hi hl Φ) : SpI l yL_valueAt cL_valueAt 5 (some .int) gT 2 40 [.ref (ad (24 + v0)), .int v1, .int v2] D cls8 (tys5 cI cJ cC cZ cR) 64 ad (GX cI cJ cC cZ cR ad kd) A (ZX A kd sd vd kA lA wA) hi hl Φ := by
  refine Met.ofW (cc := cL_valueAt) (maxL := 5) (ret := (some .int)) (by decide) rfl ?_
  intro p e s m args below meth c s₁ B hml hv
  obtain ⟨rfl, hP, hK, hZs⟩ := hv
  have K : Cx p (rmX 2 40) s m _ meth c cL_valueAt 5 "WordChecker$Line" gT D cls8 (tys5 cI cJ cC cZ cR) 64 ad A (ZX A kd sd vd kA lA wA) := ⟨B.exec, B.bytes, hml, findClass_of_methodNamed B.named, fun w hw => atoms_spec B.pre w (List.mem_cons_of_mem _ hw), B.notSynchronized, hK, hD, hZs⟩
  have hL := lv_entry ([.ref (ad (24 + v0)), .int v1, .int v2]) (n := 5) (Nat.le_of_ble_eq_true rfl)
  rw [lg_entry_eq]
  generalize (lg_sl ([.ref (ad (24 + v0)), .int v1, .int v2]) ++ List.replicate (5 - (lg_sl ([.ref (ad (24 + v0)), .int v1, .int v2])).length) Slot.unset).toArray = ls at hL ⊢
  have hL : lv_has ls 5 [(0, .ref (ad (24 + v0))), (1, .int v1), (2, .int v2)] := hL
  unfold wpL_valueAt at h
  exact bL_valueAt_0 K B.returns hZ h hv0 (lv_sub hL [0, 1, 2] rfl) hP va_S.rf
set_option maxRecDepth 100000 in
set_option maxHeartbeats 4000000 in
theorem bB_valueOf_0 {p : Program} {l : Launch} {e : Env} {s : State} {m : MethodId} {args : Array Value} {below : List Frame} {meth : Method} {c : Code} {D : va_G} {cI cJ cC cZ cR : ClassId} {ad kd sd vd : Nat → Nat} {kA lA wA : Nat} {A : Nat → Prop} (K : Cx p (rmX 3 64) s m args meth c cB_valueOf 5 "WordChecker$Book" gT D cls8 (tys5 cI cJ cC cZ cR) 64 ad A (ZX A kd sd vd kA lA wA)) (hr : meth.sig.returnType = (some .int)) (hZ : ZsOK A (ZX A kd sd vd kA lA wA)) {Φ : Int32 → HI → HL → Prop} {v1 : Int32} {v2 : Int32} {v3 : Int32} {hi : HI} {hl : HL} {H : Heap} {locs : List Loc} (h : wbB_valueOf_0 v1 v2 v3 hi hl Φ) {ls : Array Slot} (hL : lv_has ls 5 [(0, .ref (ad 5)), (1, .int v1), (2, .int v2), (3, .int v3)]) (hP : va_P D cls8 (wl 64 ad (GX cI cJ cC cZ cR ad kd) hi hl) H) (hS : va_S A s.heap H locs) : W p l e (rmX 3 64) s m args below meth c H locs 0 0 (MQ below (va_Qi (fun r (u : HI × HL) => Φ r u.1 u.2) (fun u t => va_P D cls8 (wl 64 ad (GX cI cJ cC cZ cR ad kd) u.1 u.2) t.heap) A) args s 0 0 A) (F0 m 0 ls []) := by
  unfold wbB_valueOf_0 at h
  refine lv_aload_n K.1 K.2.1 dB_valueOf_0 rfl (lv_at hL 0 rfl) ?_
  refine lv_iload_n K.1 K.2.1 dB_valueOf_1 rfl (lv_at hL 1 rfl) ?_
  refine x_cVI (As := [.int v1]) (rest := []) K gT_good hZ hP hS calB_nodeWith mlB_165 5 (by decide) rfl rfl (mB_nodeWith hZ K.2.2.2.2.2.2.2.1 h) ⟨Nat.le_of_ble_eq_true rfl, Nat.le_of_ble_eq_true rfl⟩ rfl hL.1 rfl (Nat.le_of_ble_eq_true rfl) dB_valueOf_2 (fun r1 hi2 hl3 H locs h hP hS => ?_)
  refine lv_istore (lv' := [(4, .int r1), (0, .ref (ad 5)), (1, .int v1), (2, .int v2), (3, .int v3)]) K.1 K.2.1 dB_valueOf_5 hL (by decide) rfl (fun ls hL => ?_)
  refine lv_iload K.1 K.2.1 dB_valueOf_7 (lv_at hL 0 rfl) ?_
  refine lv_iconst (v := -1) K.1 K.2.1 dB_valueOf_9 (by decide) ?_
  refine lv_icmp_ne (tgt := 17) K.1 K.2.1 dB_valueOf_10 rfl (fun hc => ?_) (fun hc => ?_)
  · have h := h.2 hc
    refine lv_aload_n K.1 K.2.1 dB_valueOf_17 rfl (lv_at hL 1 rfl) ?_
    refine x_get (v := .ref (ad 6)) K hP hinB (ci := 2) rfl 5 (by decide) rfl 0 (by decide) flB_11 rfl rfl dB_valueOf_18 ?_
    refine lv_iload K.1 K.2.1 dB_valueOf_21 (lv_at hL 0 rfl) ?_
    obtain ⟨g4, h⟩ := h
    refine x_aald K hP 6 (by decide) 4 rfl rfl g4 (q := ad (24 + (r1.toNatClampNeg))) rfl dB_valueOf_23 ?_
    refine lv_iload_n K.1 K.2.1 dB_valueOf_24 rfl (lv_at hL 3 rfl) ?_
    refine lv_iload_n K.1 K.2.1 dB_valueOf_25 rfl (lv_at hL 4 rfl) ?_
    refine x_cVI (As := [.int v2, .int v3]) (rest := []) K gT_good hZ hP hS calL_valueAt mlB_168 (24 + (r1.toNatClampNeg)) (lt_l (in_lt g4)) (GX_line _ (in_lt g4) _ _) rfl (mL_valueAt hZ K.2.2.2.2.2.2.2.1 (in_lt g4) h) ⟨Nat.le_of_ble_eq_true rfl, Nat.le_of_ble_eq_true rfl⟩ rfl hL.1 rfl (Nat.le_of_ble_eq_true rfl) dB_valueOf_26 (fun r5 hi6 hl7 H locs h hP hS => ?_)
    exact x_iret K hr hP hS h dB_valueOf_29
  · have h := h.1 hc
    refine lv_iconst (v := -1) K.1 K.2.1 dB_valueOf_13 (by decide) ?_
    refine lv_goto (tgt := 29) K.1 K.2.1 dB_valueOf_14 rfl ?_
    exact x_iret K hr hP hS h dB_valueOf_29
set_option maxRecDepth 100000 in
set_option maxHeartbeats 4000000 in
theorem mB_valueOf {l : Launch} {D : va_G} {cI cJ cC cZ cR : ClassId} {ad kd sd vd : Nat → Nat} {kA lA wA : Nat} {A : Nat → Prop} (hZ : ZsOK A (ZX A kd sd vd kA lA wA)) (hD : wlD 64 ad A) {v1 : Int32} {v2 : Int32} {v3 : Int32} {hi : HI} {hl : HL} {Φ : Int32 → HI → HL → Prop} (h : wpB_valueOf v1 v2 v3 hi hl Φ) : SpI l yB_valueOf cB_valueOf 5 (some .int) gT 3 64 [.ref (ad 5), .int v1, .int v2, .int v3] D cls8 (tys5 cI cJ cC cZ cR) 64 ad (GX cI cJ cC cZ cR ad kd) A (ZX A kd sd vd kA lA wA) hi hl Φ := by
  refine Met.ofW (cc := cB_valueOf) (maxL := 5) (ret := (some .int)) (by decide) rfl ?_
  intro p e s m args below meth c s₁ B hml hv
  obtain ⟨rfl, hP, hK, hZs⟩ := hv
  have K : Cx p (rmX 3 64) s m _ meth c cB_valueOf 5 "WordChecker$Book" gT D cls8 (tys5 cI cJ cC cZ cR) 64 ad A (ZX A kd sd vd kA lA wA) := ⟨B.exec, B.bytes, hml, findClass_of_methodNamed B.named, fun w hw => atoms_spec B.pre w (List.mem_cons_of_mem _ hw), B.notSynchronized, hK, hD, hZs⟩
  have hL := lv_entry ([.ref (ad 5), .int v1, .int v2, .int v3]) (n := 5) (Nat.le_of_ble_eq_true rfl)
  rw [lg_entry_eq]
  generalize (lg_sl ([.ref (ad 5), .int v1, .int v2, .int v3]) ++ List.replicate (5 - (lg_sl ([.ref (ad 5), .int v1, .int v2, .int v3])).length) Slot.unset).toArray = ls at hL ⊢
  have hL : lv_has ls 5 [(0, .ref (ad 5)), (1, .int v1), (2, .int v2), (3, .int v3)] := hL
  unfold wpB_valueOf at h
  exact bB_valueOf_0 K B.returns hZ h (lv_sub hL [0, 1, 2, 3] rfl) hP va_S.rf
set_option maxRecDepth 100000 in
set_option maxHeartbeats 4000000 in
theorem bC_value_0 {p : Program} {l : Launch} {e : Env} {s : State} {m : MethodId} {args : Array Value} {below : List Frame} {meth : Method} {c : Code} {D : va_G} {cI cJ cC cZ cR : ClassId} {ad kd sd vd : Nat → Nat} {kA lA wA : Nat} {A : Nat → Prop} (K : Cx p (rmX 4 88) s m args meth c cC_value 2 "WordChecker" gT D cls8 (tys5 cI cJ cC cZ cR) 64 ad A (ZX A kd sd vd kA lA wA)) (hr : meth.sig.returnType = (some .int)) (hZ : ZsOK A (ZX A kd sd vd kA lA wA)) {Φ : Int32 → HI → HL → Prop} {v1 : Int32} {hi : HI} {hl : HL} {H : Heap} {locs : List Loc} (h : wbC_value_0 v1 hi hl Φ) {ls : Array Slot} (hL : lv_has ls 2 [(0, .ref (ad 0)), (1, .int v1)]) (hP : va_P D cls8 (wl 64 ad (GX cI cJ cC cZ cR ad kd) hi hl) H) (hS : va_S A s.heap H locs) : W p l e (rmX 4 88) s m args below meth c H locs 0 0 (MQ below (va_Qi (fun r (u : HI × HL) => Φ r u.1 u.2) (fun u t => va_P D cls8 (wl 64 ad (GX cI cJ cC cZ cR ad kd) u.1 u.2) t.heap) A) args s 0 0 A) (F0 m 0 ls []) := by
  unfold wbC_value_0 at h
  refine lv_aload_n K.1 K.2.1 dC_value_0 rfl (lv_at hL 0 rfl) ?_
  refine x_get (v := .int (hi 0 4)) K hP hinC (ci := 0) rfl 0 (by decide) rfl 4 (by decide) flC_63 rfl rfl dC_value_1 ?_
  refine lv_if_eq (tgt := 26) K.1 K.2.1 dC_value_4 rfl (fun hc => ?_) (fun hc => ?_)
  · have h := h.1 hc
    refine lv_iconst (v := -1) K.1 K.2.1 dC_value_26 (by decide) ?_
    exact x_iret K hr hP hS h dC_value_27
  · have h := h.2 hc
    refine lv_aload_n K.1 K.2.1 dC_value_7 rfl (lv_at hL 0 rfl) ?_
    refine x_get (v := .ref (ad 5)) K hP hinC (ci := 0) rfl 0 (by decide) rfl 1 (by decide) flC_19 rfl rfl dC_value_8 ?_
    refine lv_iload_n K.1 K.2.1 dC_value_11 rfl (lv_at hL 1 rfl) ?_
    refine lv_aload_n K.1 K.2.1 dC_value_12 rfl (lv_at hL 0 rfl) ?_
    refine x_get (v := .int (hi 0 5)) K hP hinC (ci := 0) rfl 0 (by decide) rfl 5 (by decide) flC_77 rfl rfl dC_value_13 ?_
    refine lv_aload_n K.1 K.2.1 dC_value_16 rfl (lv_at hL 0 rfl) ?_
    refine x_get (v := .int (hi 0 6)) K hP hinC (ci := 0) rfl 0 (by decide) rfl 6 (by decide) flC_80 rfl rfl dC_value_17 ?_
    refine x_cVI (As := [.int v1, .int (hi 0 5), .int (hi 0 6)]) (rest := []) K gT_good hZ hP hS calB_valueOf mlC_90 5 (by decide) rfl rfl (mB_valueOf hZ K.2.2.2.2.2.2.2.1 h) ⟨Nat.le_of_ble_eq_true rfl, Nat.le_of_ble_eq_true rfl⟩ rfl hL.1 rfl (Nat.le_of_ble_eq_true rfl) dC_value_20 (fun r1 hi2 hl3 H locs h hP hS => ?_)
    refine lv_goto (tgt := 27) K.1 K.2.1 dC_value_23 rfl ?_
    exact x_iret K hr hP hS h dC_value_27
set_option maxRecDepth 100000 in
set_option maxHeartbeats 4000000 in
theorem mC_value {l : Launch} {D : va_G} {cI cJ cC cZ cR : ClassId} {ad kd sd vd : Nat → Nat} {kA lA wA : Nat} {A : Nat → Prop} (hZ : ZsOK A (ZX A kd sd vd kA lA wA)) (hD : wlD 64 ad A) {v1 : Int32} {hi : HI} {hl : HL} {Φ : Int32 → HI → HL → Prop} (h : wpC_value v1 hi hl Φ) : SpI l yC_value cC_value 2 (some .int) gT 4 88 [.ref (ad 0), .int v1] D cls8 (tys5 cI cJ cC cZ cR) 64 ad (GX cI cJ cC cZ cR ad kd) A (ZX A kd sd vd kA lA wA) hi hl Φ := by
  refine Met.ofW (cc := cC_value) (maxL := 2) (ret := (some .int)) (by decide) rfl ?_
  intro p e s m args below meth c s₁ B hml hv
  obtain ⟨rfl, hP, hK, hZs⟩ := hv
  have K : Cx p (rmX 4 88) s m _ meth c cC_value 2 "WordChecker" gT D cls8 (tys5 cI cJ cC cZ cR) 64 ad A (ZX A kd sd vd kA lA wA) := ⟨B.exec, B.bytes, hml, findClass_of_methodNamed B.named, fun w hw => atoms_spec B.pre w (List.mem_cons_of_mem _ hw), B.notSynchronized, hK, hD, hZs⟩
  have hL := lv_entry ([.ref (ad 0), .int v1]) (n := 2) (Nat.le_of_ble_eq_true rfl)
  rw [lg_entry_eq]
  generalize (lg_sl ([.ref (ad 0), .int v1]) ++ List.replicate (2 - (lg_sl ([.ref (ad 0), .int v1])).length) Slot.unset).toArray = ls at hL ⊢
  have hL : lv_has ls 2 [(0, .ref (ad 0)), (1, .int v1)] := hL
  unfold wpC_value at h
  exact bC_value_0 K B.returns hZ h (lv_sub hL [0, 1] rfl) hP va_S.rf
set_option maxRecDepth 100000 in
set_option maxHeartbeats 4000000 in
theorem bB_leastOf_148 {p : Program} {l : Launch} {e : Env} {s : State} {m : MethodId} {args : Array Value} {below : List Frame} {meth : Method} {c : Code} {D : va_G} {cI cJ cC cZ cR : ClassId} {ad kd sd vd : Nat → Nat} {kA lA wA : Nat} {A : Nat → Prop} (K : Cx p (rmX 2 40) s m args meth c cB_leastOf 11 "WordChecker$Book" gT D cls8 (tys5 cI cJ cC cZ cR) 64 ad A (ZX A kd sd vd kA lA wA)) (hr : meth.sig.returnType = (some .int)) (hZ : ZsOK A (ZX A kd sd vd kA lA wA)) {Φ : Int32 → HI → HL → Prop} {k8 : Int64 → Int32 → Int32 → HI → HL → Prop} (hk8 : ∀ (v3 : Int64) (v5 : Int32) (v6 : Int32) (hi : HI) (hl : HL) (ls : Array Slot) (H : Heap) (locs : List Loc), k8 v3 v5 v6 hi hl → lv_has ls 11 [(0, .ref (ad 5)), (3, .long v3), (5, .int v5), (6, .int v6)] → va_P D cls8 (wl 64 ad (GX cI cJ cC cZ cR ad kd) hi hl) H → va_S A s.heap H locs → W p l e (rmX 2 40) s m args below meth c H locs 0 0 (MQ below (va_Qi (fun r (u : HI × HL) => Φ r u.1 u.2) (fun u t => va_P D cls8 (wl 64 ad (GX cI cJ cC cZ cR ad kd) u.1 u.2) t.heap) A) args s 0 0 A) (F0 m 8 ls [])) {v3 : Int64} {v5 : Int32} {v6 : Int32} {hi : HI} {hl : HL} {H : Heap} {locs : List Loc} (h : wbB_leastOf_148 k8 v3 v5 v6 hi hl Φ) {ls : Array Slot} (hL : lv_has ls 11 [(0, .ref (ad 5)), (3, .long v3), (5, .int v5), (6, .int v6)]) (hP : va_P D cls8 (wl 64 ad (GX cI cJ cC cZ cR ad kd) hi hl) H) (hS : va_S A s.heap H locs) : W p l e (rmX 2 40) s m args below meth c H locs 0 0 (MQ below (va_Qi (fun r (u : HI × HL) => Φ r u.1 u.2) (fun u t => va_P D cls8 (wl 64 ad (GX cI cJ cC cZ cR ad kd) u.1 u.2) t.heap) A) args s 0 0 A) (F0 m 148 ls []) := by
  unfold wbB_leastOf_148 at h
  refine lv_iinc (k := 3) (lv' := [(6, .int (v6 + Int32.ofInt (1))), (0, .ref (ad 5)), (3, .long v3), (5, .int v5)]) K.1 K.2.1 dB_leastOf_148 hL rfl rfl (by decide) rfl (fun ls hL => ?_)
  refine lv_goto (tgt := 8) K.1 K.2.1 dB_leastOf_151 rfl ?_
  exact hk8 _ _ _ _ _ _ _ _ h (lv_sub hL [1, 2, 3, 0] rfl) hP hS
set_option maxRecDepth 100000 in
set_option maxHeartbeats 4000000 in
theorem bB_leastOf_139 {p : Program} {l : Launch} {e : Env} {s : State} {m : MethodId} {args : Array Value} {below : List Frame} {meth : Method} {c : Code} {D : va_G} {cI cJ cC cZ cR : ClassId} {ad kd sd vd : Nat → Nat} {kA lA wA : Nat} {A : Nat → Prop} (K : Cx p (rmX 2 40) s m args meth c cB_leastOf 11 "WordChecker$Book" gT D cls8 (tys5 cI cJ cC cZ cR) 64 ad A (ZX A kd sd vd kA lA wA)) (hr : meth.sig.returnType = (some .int)) (hZ : ZsOK A (ZX A kd sd vd kA lA wA)) {Φ : Int32 → HI → HL → Prop} {k8 : Int64 → Int32 → Int32 → HI → HL → Prop} (hk8 : ∀ (v3 : Int64) (v5 : Int32) (v6 : Int32) (hi : HI) (hl : HL) (ls : Array Slot) (H : Heap) (locs : List Loc), k8 v3 v5 v6 hi hl → lv_has ls 11 [(0, .ref (ad 5)), (3, .long v3), (5, .int v5), (6, .int v6)] → va_P D cls8 (wl 64 ad (GX cI cJ cC cZ cR ad kd) hi hl) H → va_S A s.heap H locs → W p l e (rmX 2 40) s m args below meth c H locs 0 0 (MQ below (va_Qi (fun r (u : HI × HL) => Φ r u.1 u.2) (fun u t => va_P D cls8 (wl 64 ad (GX cI cJ cC cZ cR ad kd) u.1 u.2) t.heap) A) args s 0 0 A) (F0 m 8 ls [])) {k50 : Int64 → Int32 → Int32 → Int32 → HI → HL → Prop} (hk50 : ∀ (v3 : Int64) (v5 : Int32) (v6 : Int32) (v7 : Int32) (hi : HI) (hl : HL) (ls : Array Slot) (H : Heap) (locs : List Loc), k50 v3 v5 v6 v7 hi hl → lv_has ls 11 [(0, .ref (ad 5)), (3, .long v3), (5, .int v5), (6, .int v6), (7, .int v7)] → va_P D cls8 (wl 64 ad (GX cI cJ cC cZ cR ad kd) hi hl) H → va_S A s.heap H locs → W p l e (rmX 2 40) s m args below meth c H locs 0 0 (MQ below (va_Qi (fun r (u : HI × HL) => Φ r u.1 u.2) (fun u t => va_P D cls8 (wl 64 ad (GX cI cJ cC cZ cR ad kd) u.1 u.2) t.heap) A) args s 0 0 A) (F0 m 50 ls [])) {v3 : Int64} {v6 : Int32} {v7 : Int32} {q0 : Int32} {q1 : Int32} {hi : HI} {hl : HL} {H : Heap} {locs : List Loc} (h : wbB_leastOf_139 k8 k50 v3 v6 v7 q0 q1 hi hl Φ) {ls : Array Slot} (hL : lv_has ls 11 [(0, .ref (ad 5)), (3, .long v3), (6, .int v6), (7, .int v7)]) (hP : va_P D cls8 (wl 64 ad (GX cI cJ cC cZ cR ad kd) hi hl) H) (hS : va_S A s.heap H locs) : W p l e (rmX 2 40) s m args below meth c H locs 0 0 (MQ below (va_Qi (fun r (u : HI × HL) => Φ r u.1 u.2) (fun u t => va_P D cls8 (wl 64 ad (GX cI cJ cC cZ cR ad kd) u.1 u.2) t.heap) A) args s 0 0 A) (F0 m 139 ls [.int q1, .int q0]) := by
  unfold wbB_leastOf_139 at h
  refine lv_ior K.1 K.2.1 dB_leastOf_139 ?_
  refine lv_istore (lv' := [(5, .int (q0 ||| q1)), (0, .ref (ad 5)), (3, .long v3), (6, .int v6), (7, .int v7)]) K.1 K.2.1 dB_leastOf_140 hL (by decide) rfl (fun ls hL => ?_)
  refine lv_iinc (k := 4) (lv' := [(7, .int (v7 + Int32.ofInt (-1))), (5, .int (q0 ||| q1)), (0, .ref (ad 5)), (3, .long v3), (6, .int v6)]) K.1 K.2.1 dB_leastOf_142 hL rfl rfl (by decide) rfl (fun ls hL => ?_)
  refine lv_goto (tgt := 50) K.1 K.2.1 dB_leastOf_145 rfl ?_
  exact hk50 _ _ _ _ _ _ _ _ _ h (lv_sub hL [2, 3, 1, 4, 0] rfl) hP hS
set_option maxRecDepth 100000 in
set_option maxHeartbeats 4000000 in
theorem bB_leastOf_111 {p : Program} {l : Launch} {e : Env} {s : State} {m : MethodId} {args : Array Value} {below : List Frame} {meth : Method} {c : Code} {D : va_G} {cI cJ cC cZ cR : ClassId} {ad kd sd vd : Nat → Nat} {kA lA wA : Nat} {A : Nat → Prop} (K : Cx p (rmX 2 40) s m args meth c cB_leastOf 11 "WordChecker$Book" gT D cls8 (tys5 cI cJ cC cZ cR) 64 ad A (ZX A kd sd vd kA lA wA)) (hr : meth.sig.returnType = (some .int)) (hZ : ZsOK A (ZX A kd sd vd kA lA wA)) {Φ : Int32 → HI → HL → Prop} {k8 : Int64 → Int32 → Int32 → HI → HL → Prop} (hk8 : ∀ (v3 : Int64) (v5 : Int32) (v6 : Int32) (hi : HI) (hl : HL) (ls : Array Slot) (H : Heap) (locs : List Loc), k8 v3 v5 v6 hi hl → lv_has ls 11 [(0, .ref (ad 5)), (3, .long v3), (5, .int v5), (6, .int v6)] → va_P D cls8 (wl 64 ad (GX cI cJ cC cZ cR ad kd) hi hl) H → va_S A s.heap H locs → W p l e (rmX 2 40) s m args below meth c H locs 0 0 (MQ below (va_Qi (fun r (u : HI × HL) => Φ r u.1 u.2) (fun u t => va_P D cls8 (wl 64 ad (GX cI cJ cC cZ cR ad kd) u.1 u.2) t.heap) A) args s 0 0 A) (F0 m 8 ls [])) {k50 : Int64 → Int32 → Int32 → Int32 → HI → HL → Prop} (hk50 : ∀ (v3 : Int64) (v5 : Int32) (v6 : Int32) (v7 : Int32) (hi : HI) (hl : HL) (ls : Array Slot) (H : Heap) (locs : List Loc), k50 v3 v5 v6 v7 hi hl → lv_has ls 11 [(0, .ref (ad 5)), (3, .long v3), (5, .int v5), (6, .int v6), (7, .int v7)] → va_P D cls8 (wl 64 ad (GX cI cJ cC cZ cR ad kd) hi hl) H → va_S A s.heap H locs → W p l e (rmX 2 40) s m args below meth c H locs 0 0 (MQ below (va_Qi (fun r (u : HI × HL) => Φ r u.1 u.2) (fun u t => va_P D cls8 (wl 64 ad (GX cI cJ cC cZ cR ad kd) u.1 u.2) t.heap) A) args s 0 0 A) (F0 m 50 ls [])) {v5 : Int32} {v6 : Int32} {v7 : Int32} {v10 : Int32} {q0 : Int64} {q1 : Int64} {hi : HI} {hl : HL} {H : Heap} {locs : List Loc} (h : wbB_leastOf_111 k8 k50 v5 v6 v7 v10 q0 q1 hi hl Φ) {ls : Array Slot} (hL : lv_has ls 11 [(0, .ref (ad 5)), (5, .int v5), (6, .int v6), (7, .int v7), (10, .int v10)]) (hP : va_P D cls8 (wl 64 ad (GX cI cJ cC cZ cR ad kd) hi hl) H) (hS : va_S A s.heap H locs) : W p l e (rmX 2 40) s m args below meth c H locs 0 0 (MQ below (va_Qi (fun r (u : HI × HL) => Φ r u.1 u.2) (fun u t => va_P D cls8 (wl 64 ad (GX cI cJ cC cZ cR ad kd) u.1 u.2) t.heap) A) args s 0 0 A) (F0 m 111 ls [.long q1, .long q0]) := by
  unfold wbB_leastOf_111 at h
  refine lv_land K.1 K.2.1 dB_leastOf_111 ?_
  refine lv_lstore_n (lv' := [(3, .long (q0 &&& q1)), (0, .ref (ad 5)), (5, .int v5), (6, .int v6), (7, .int v7), (10, .int v10)]) K.1 K.2.1 dB_leastOf_112 rfl hL (by decide) rfl (fun ls hL => ?_)
  refine lv_iload K.1 K.2.1 dB_leastOf_113 (lv_at hL 2 rfl) ?_
  refine lv_iload K.1 K.2.1 dB_leastOf_115 (lv_at hL 5 rfl) ?_
  refine lv_if_eq (tgt := 124) K.1 K.2.1 dB_leastOf_117 rfl (fun hc => ?_) (fun hc => ?_)
  · have h := h.1 hc
    refine lv_iconst (v := 1) K.1 K.2.1 dB_leastOf_124 (by decide) ?_
    refine lv_aload_n K.1 K.2.1 dB_leastOf_125 rfl (lv_at hL 1 rfl) ?_
    refine x_get (v := .ref (ad 6)) K hP hinB (ci := 2) rfl 5 (by decide) rfl 0 (by decide) flB_11 rfl rfl dB_leastOf_126 ?_
    refine lv_iload K.1 K.2.1 dB_leastOf_129 (lv_at hL 3 rfl) ?_
    obtain ⟨g1, h⟩ := h
    refine x_aald K hP 6 (by decide) 4 rfl rfl g1 (q := ad (24 + (v6.toNatClampNeg))) rfl dB_leastOf_131 ?_
    refine x_getN (v := .int (hi (24 + (v6.toNatClampNeg)) 4)) K hP hinL (ci := 6) rfl (24 + (v6.toNatClampNeg)) (lt_l (in_lt g1)) (GX_line _ (in_lt g1) _ _) 4 (by decide) (fnB_129 K.2.2.2.2.2.2.2.2) rfl rfl dB_leastOf_132 ?_
    refine lv_iload K.1 K.2.1 dB_leastOf_135 (lv_at hL 4 rfl) ?_
    refine lv_iadd K.1 K.2.1 dB_leastOf_137 ?_
    refine lv_ishl K.1 K.2.1 dB_leastOf_138 ?_
    exact bB_leastOf_139 K hr hZ hk8 hk50 h (lv_sub hL [1, 0, 3, 4] rfl) hP hS
  · have h := h.2 hc
    refine lv_iconst (v := 0) K.1 K.2.1 dB_leastOf_120 (by decide) ?_
    refine lv_goto (tgt := 139) K.1 K.2.1 dB_leastOf_121 rfl ?_
    exact bB_leastOf_139 K hr hZ hk8 hk50 h (lv_sub hL [1, 0, 3, 4] rfl) hP hS
set_option maxRecDepth 100000 in
set_option maxHeartbeats 4000000 in
theorem bB_leastOf_92 {p : Program} {l : Launch} {e : Env} {s : State} {m : MethodId} {args : Array Value} {below : List Frame} {meth : Method} {c : Code} {D : va_G} {cI cJ cC cZ cR : ClassId} {ad kd sd vd : Nat → Nat} {kA lA wA : Nat} {A : Nat → Prop} (K : Cx p (rmX 2 40) s m args meth c cB_leastOf 11 "WordChecker$Book" gT D cls8 (tys5 cI cJ cC cZ cR) 64 ad A (ZX A kd sd vd kA lA wA)) (hr : meth.sig.returnType = (some .int)) (hZ : ZsOK A (ZX A kd sd vd kA lA wA)) {Φ : Int32 → HI → HL → Prop} {k8 : Int64 → Int32 → Int32 → HI → HL → Prop} (hk8 : ∀ (v3 : Int64) (v5 : Int32) (v6 : Int32) (hi : HI) (hl : HL) (ls : Array Slot) (H : Heap) (locs : List Loc), k8 v3 v5 v6 hi hl → lv_has ls 11 [(0, .ref (ad 5)), (3, .long v3), (5, .int v5), (6, .int v6)] → va_P D cls8 (wl 64 ad (GX cI cJ cC cZ cR ad kd) hi hl) H → va_S A s.heap H locs → W p l e (rmX 2 40) s m args below meth c H locs 0 0 (MQ below (va_Qi (fun r (u : HI × HL) => Φ r u.1 u.2) (fun u t => va_P D cls8 (wl 64 ad (GX cI cJ cC cZ cR ad kd) u.1 u.2) t.heap) A) args s 0 0 A) (F0 m 8 ls [])) {k50 : Int64 → Int32 → Int32 → Int32 → HI → HL → Prop} (hk50 : ∀ (v3 : Int64) (v5 : Int32) (v6 : Int32) (v7 : Int32) (hi : HI) (hl : HL) (ls : Array Slot) (H : Heap) (locs : List Loc), k50 v3 v5 v6 v7 hi hl → lv_has ls 11 [(0, .ref (ad 5)), (3, .long v3), (5, .int v5), (6, .int v6), (7, .int v7)] → va_P D cls8 (wl 64 ad (GX cI cJ cC cZ cR ad kd) hi hl) H → va_S A s.heap H locs → W p l e (rmX 2 40) s m args below meth c H locs 0 0 (MQ below (va_Qi (fun r (u : HI × HL) => Φ r u.1 u.2) (fun u t => va_P D cls8 (wl 64 ad (GX cI cJ cC cZ cR ad kd) u.1 u.2) t.heap) A) args s 0 0 A) (F0 m 50 ls [])) {v3 : Int64} {v5 : Int32} {v6 : Int32} {v7 : Int32} {v8 : Int64} {q0 : Int32} {hi : HI} {hl : HL} {H : Heap} {locs : List Loc} (h : wbB_leastOf_92 k8 k50 v3 v5 v6 v7 v8 q0 hi hl Φ) {ls : Array Slot} (hL : lv_has ls 11 [(0, .ref (ad 5)), (3, .long v3), (5, .int v5), (6, .int v6), (7, .int v7), (8, .long v8)]) (hP : va_P D cls8 (wl 64 ad (GX cI cJ cC cZ cR ad kd) hi hl) H) (hS : va_S A s.heap H locs) : W p l e (rmX 2 40) s m args below meth c H locs 0 0 (MQ below (va_Qi (fun r (u : HI × HL) => Φ r u.1 u.2) (fun u t => va_P D cls8 (wl 64 ad (GX cI cJ cC cZ cR ad kd) u.1 u.2) t.heap) A) args s 0 0 A) (F0 m 92 ls [.int q0]) := by
  unfold wbB_leastOf_92 at h
  refine lv_istore (lv' := [(10, .int q0), (0, .ref (ad 5)), (3, .long v3), (5, .int v5), (6, .int v6), (7, .int v7), (8, .long v8)]) K.1 K.2.1 dB_leastOf_92 hL (by decide) rfl (fun ls hL => ?_)
  refine lv_lload_n K.1 K.2.1 dB_leastOf_94 rfl (lv_at hL 2 rfl) ?_
  refine lv_iload K.1 K.2.1 dB_leastOf_95 (lv_at hL 0 rfl) ?_
  refine lv_if_eq (tgt := 109) K.1 K.2.1 dB_leastOf_97 rfl (fun hc => ?_) (fun hc => ?_)
  · have h := h.1 hc
    refine lv_lload K.1 K.2.1 dB_leastOf_109 (lv_at hL 6 rfl) ?_
    exact bB_leastOf_111 K hr hZ hk8 hk50 h (lv_sub hL [1, 3, 4, 5, 0] rfl) hP hS
  · have h := h.2 hc
    refine lv_lload K.1 K.2.1 dB_leastOf_100 (lv_at hL 6 rfl) ?_
    refine lv_ldc2 (v := -1) K.1 K.2.1 K.2.2.2.1 (K.2.2.2.2.1 _ clB_35) dB_leastOf_102 ?_
    refine lv_lxor K.1 K.2.1 dB_leastOf_105 ?_
    refine lv_goto (tgt := 111) K.1 K.2.1 dB_leastOf_106 rfl ?_
    exact bB_leastOf_111 K hr hZ hk8 hk50 h (lv_sub hL [1, 3, 4, 5, 0] rfl) hP hS
set_option maxRecDepth 100000 in
set_option maxHeartbeats 4000000 in
theorem bB_leastOf_50 {p : Program} {l : Launch} {e : Env} {s : State} {m : MethodId} {args : Array Value} {below : List Frame} {meth : Method} {c : Code} {D : va_G} {cI cJ cC cZ cR : ClassId} {ad kd sd vd : Nat → Nat} {kA lA wA : Nat} {A : Nat → Prop} (K : Cx p (rmX 2 40) s m args meth c cB_leastOf 11 "WordChecker$Book" gT D cls8 (tys5 cI cJ cC cZ cR) 64 ad A (ZX A kd sd vd kA lA wA)) (hr : meth.sig.returnType = (some .int)) (hZ : ZsOK A (ZX A kd sd vd kA lA wA)) {Φ : Int32 → HI → HL → Prop} {k8 : Int64 → Int32 → Int32 → HI → HL → Prop} (hk8 : ∀ (v3 : Int64) (v5 : Int32) (v6 : Int32) (hi : HI) (hl : HL) (ls : Array Slot) (H : Heap) (locs : List Loc), k8 v3 v5 v6 hi hl → lv_has ls 11 [(0, .ref (ad 5)), (3, .long v3), (5, .int v5), (6, .int v6)] → va_P D cls8 (wl 64 ad (GX cI cJ cC cZ cR ad kd) hi hl) H → va_S A s.heap H locs → W p l e (rmX 2 40) s m args below meth c H locs 0 0 (MQ below (va_Qi (fun r (u : HI × HL) => Φ r u.1 u.2) (fun u t => va_P D cls8 (wl 64 ad (GX cI cJ cC cZ cR ad kd) u.1 u.2) t.heap) A) args s 0 0 A) (F0 m 8 ls [])) {n : Nat} {v3 : Int64} {v5 : Int32} {v6 : Int32} {v7 : Int32} {hi : HI} {hl : HL} {H : Heap} {locs : List Loc} (h : wbB_leastOf_50 k8 n v3 v5 v6 v7 hi hl Φ) {ls : Array Slot} (hL : lv_has ls 11 [(0, .ref (ad 5)), (3, .long v3), (5, .int v5), (6, .int v6), (7, .int v7)]) (hP : va_P D cls8 (wl 64 ad (GX cI cJ cC cZ cR ad kd) hi hl) H) (hS : va_S A s.heap H locs) : W p l e (rmX 2 40) s m args below meth c H locs 0 0 (MQ below (va_Qi (fun r (u : HI × HL) => Φ r u.1 u.2) (fun u t => va_P D cls8 (wl 64 ad (GX cI cJ cC cZ cR ad kd) u.1 u.2) t.heap) A) args s 0 0 A) (F0 m 50 ls []) := by
  induction n generalizing v3 v5 v6 v7 hi hl ls H locs with
  | zero => exact False.elim h
  | succ n ih =>
    unfold wbB_leastOf_50 at h
    refine lv_iload K.1 K.2.1 dB_leastOf_50 (lv_at hL 4 rfl) ?_
    refine lv_if_lt (tgt := 148) K.1 K.2.1 dB_leastOf_52 rfl (fun hc => ?_) (fun hc => ?_)
    · have h := h.1 hc
      exact bB_leastOf_148 K hr hZ hk8 h (lv_sub hL [0, 1, 2, 3] rfl) hP hS
    · have h := h.2 hc
      refine x_getsN (v := .ref lA) K hS K.2.2.2.2.2.2.2.2.2.1.2.2.1 (fnB_145 K.2.2.2.2.2.2.2.2) dB_leastOf_55 ?_
      refine lv_aload_n K.1 K.2.1 dB_leastOf_58 rfl (lv_at hL 0 rfl) ?_
      refine x_get (v := .ref (ad 6)) K hP hinB (ci := 2) rfl 5 (by decide) rfl 0 (by decide) flB_11 rfl rfl dB_leastOf_59 ?_
      refine lv_iload K.1 K.2.1 dB_leastOf_62 (lv_at hL 3 rfl) ?_
      obtain ⟨g1, h⟩ := h
      refine x_aald K hP 6 (by decide) 4 rfl rfl g1 (q := ad (24 + (v6.toNatClampNeg))) rfl dB_leastOf_64 ?_
      refine x_getN (v := .int (hi (24 + (v6.toNatClampNeg)) 4)) K hP hinL (ci := 6) rfl (24 + (v6.toNatClampNeg)) (lt_l (in_lt g1)) (GX_line _ (in_lt g1) _ _) 4 (by decide) (fnB_129 K.2.2.2.2.2.2.2.2) rfl rfl dB_leastOf_65 ?_
      refine lv_iload K.1 K.2.1 dB_leastOf_68 (lv_at hL 4 rfl) ?_
      refine lv_iadd K.1 K.2.1 dB_leastOf_70 ?_
      obtain ⟨g2, h⟩ := h
      refine va_tl (v := .long (lanesC (((hi (24 + (v6.toNatClampNeg)) 4) + v7).toNatClampNeg))) K.1 K.2.1 K.2.2.2.2.2.2.2.2.2.1.2.2.2.1 hS g2 rfl dB_leastOf_71 ?_
      refine lv_lstore (lv' := [(8, .long (lanesC (((hi (24 + (v6.toNatClampNeg)) 4) + v7).toNatClampNeg))), (0, .ref (ad 5)), (3, .long v3), (5, .int v5), (6, .int v6), (7, .int v7)]) K.1 K.2.1 dB_leastOf_72 hL (by decide) rfl (fun ls hL => ?_)
      refine lv_lload_n K.1 K.2.1 dB_leastOf_74 rfl (lv_at hL 2 rfl) ?_
      refine lv_lload K.1 K.2.1 dB_leastOf_75 (lv_at hL 0 rfl) ?_
      refine lv_ldc2 (v := -1) K.1 K.2.1 K.2.2.2.1 (K.2.2.2.2.1 _ clB_35) dB_leastOf_77 ?_
      refine lv_lxor K.1 K.2.1 dB_leastOf_80 ?_
      refine lv_land K.1 K.2.1 dB_leastOf_81 ?_
      refine lv_lconst (v := 0) K.1 K.2.1 dB_leastOf_82 (by decide) ?_
      refine W.lcmp K.1 K.2.1 dB_leastOf_83 ?_
      refine lv_if_eq (tgt := 91) K.1 K.2.1 dB_leastOf_84 rfl (fun hc => ?_) (fun hc => ?_)
      · have h := h.1 hc
        refine lv_iconst (v := 0) K.1 K.2.1 dB_leastOf_91 (by decide) ?_
        exact bB_leastOf_92 K hr hZ hk8 (fun v3 v5 v6 v7 hi hl ls H locs h hL hP hS => ih h hL hP hS) h (lv_sub hL [1, 2, 3, 4, 5, 0] rfl) hP hS
      · have h := h.2 hc
        refine lv_iconst (v := 1) K.1 K.2.1 dB_leastOf_87 (by decide) ?_
        refine lv_goto (tgt := 92) K.1 K.2.1 dB_leastOf_88 rfl ?_
        exact bB_leastOf_92 K hr hZ hk8 (fun v3 v5 v6 v7 hi hl ls H locs h hL hP hS => ih h hL hP hS) h (lv_sub hL [1, 2, 3, 4, 5, 0] rfl) hP hS
set_option maxRecDepth 100000 in
set_option maxHeartbeats 4000000 in
theorem bB_leastOf_8 {p : Program} {l : Launch} {e : Env} {s : State} {m : MethodId} {args : Array Value} {below : List Frame} {meth : Method} {c : Code} {D : va_G} {cI cJ cC cZ cR : ClassId} {ad kd sd vd : Nat → Nat} {kA lA wA : Nat} {A : Nat → Prop} (K : Cx p (rmX 2 40) s m args meth c cB_leastOf 11 "WordChecker$Book" gT D cls8 (tys5 cI cJ cC cZ cR) 64 ad A (ZX A kd sd vd kA lA wA)) (hr : meth.sig.returnType = (some .int)) (hZ : ZsOK A (ZX A kd sd vd kA lA wA)) {Φ : Int32 → HI → HL → Prop} {n : Nat} {v3 : Int64} {v5 : Int32} {v6 : Int32} {hi : HI} {hl : HL} {H : Heap} {locs : List Loc} (h : wbB_leastOf_8 n v3 v5 v6 hi hl Φ) {ls : Array Slot} (hL : lv_has ls 11 [(0, .ref (ad 5)), (3, .long v3), (5, .int v5), (6, .int v6)]) (hP : va_P D cls8 (wl 64 ad (GX cI cJ cC cZ cR ad kd) hi hl) H) (hS : va_S A s.heap H locs) : W p l e (rmX 2 40) s m args below meth c H locs 0 0 (MQ below (va_Qi (fun r (u : HI × HL) => Φ r u.1 u.2) (fun u t => va_P D cls8 (wl 64 ad (GX cI cJ cC cZ cR ad kd) u.1 u.2) t.heap) A) args s 0 0 A) (F0 m 8 ls []) := by
  induction n generalizing v3 v5 v6 hi hl ls H locs with
  | zero => exact False.elim h
  | succ n ih =>
    unfold wbB_leastOf_8 at h
    refine lv_iload K.1 K.2.1 dB_leastOf_8 (lv_at hL 3 rfl) ?_
    refine lv_aload_n K.1 K.2.1 dB_leastOf_10 rfl (lv_at hL 0 rfl) ?_
    refine x_get (v := .int (hi 5 2)) K hP hinB (ci := 2) rfl 5 (by decide) rfl 2 (by decide) flB_37 rfl rfl dB_leastOf_11 ?_
    refine lv_icmp_ge (tgt := 154) K.1 K.2.1 dB_leastOf_14 rfl (fun hc => ?_) (fun hc => ?_)
    · have h := h.1 hc
      refine lv_iload K.1 K.2.1 dB_leastOf_154 (lv_at hL 2 rfl) ?_
      exact x_iret K hr hP hS h dB_leastOf_156
    · have h := h.2 hc
      refine lv_aload_n K.1 K.2.1 dB_leastOf_17 rfl (lv_at hL 0 rfl) ?_
      refine x_get (v := .ref (ad 6)) K hP hinB (ci := 2) rfl 5 (by decide) rfl 0 (by decide) flB_11 rfl rfl dB_leastOf_18 ?_
      refine lv_iload K.1 K.2.1 dB_leastOf_21 (lv_at hL 3 rfl) ?_
      obtain ⟨g1, h⟩ := h
      refine x_aald K hP 6 (by decide) 4 rfl rfl g1 (q := ad (24 + (v6.toNatClampNeg))) rfl dB_leastOf_23 ?_
      refine x_getN (v := va_rf (kOf kd (hi (24 + (v6.toNatClampNeg)) 1))) K hP hinL (ci := 6) rfl (24 + (v6.toNatClampNeg)) (lt_l (in_lt g1)) (GX_line _ (in_lt g1) _ _) 1 (by decide) (fnB_48 K.2.2.2.2.2.2.2.2) rfl rfl dB_leastOf_24 ?_
      refine x_gets (v := .ref (kd ((2 : Int32).toNatClampNeg))) K hS (K.2.2.2.2.2.2.2.2.2.2.1 2 (by decide)).1 flB_162 dB_leastOf_27 ?_
      obtain ⟨g2, h⟩ := h
      obtain ⟨g3, h⟩ := h
      rw [kOf_in g2]
      refine x_acne (x := (hi (24 + (v6.toNatClampNeg)) 1)) (y := (2 : Int32)) (tgt := 148) K g2 g3 dB_leastOf_30 rfl (fun hc => ?_) (fun hc => ?_)
      · have h := h.2 hc
        exact bB_leastOf_148 K hr hZ (fun v3 v5 v6 hi hl ls H locs h hL hP hS => ih h hL hP hS) h (lv_sub hL [0, 1, 2, 3] rfl) hP hS
      · have h := h.1 hc
        refine lv_aload_n K.1 K.2.1 dB_leastOf_33 rfl (lv_at hL 0 rfl) ?_
        refine x_get (v := .ref (ad 6)) K hP hinB (ci := 2) rfl 5 (by decide) rfl 0 (by decide) flB_11 rfl rfl dB_leastOf_34 ?_
        refine lv_iload K.1 K.2.1 dB_leastOf_37 (lv_at hL 3 rfl) ?_
        obtain ⟨g4, h⟩ := h
        refine x_aald K hP 6 (by decide) 4 rfl rfl g4 (q := ad (24 + (v6.toNatClampNeg))) rfl dB_leastOf_39 ?_
        refine x_getN (v := .int (hi (24 + (v6.toNatClampNeg)) 2)) K hP hinL (ci := 6) rfl (24 + (v6.toNatClampNeg)) (lt_l (in_lt g4)) (GX_line _ (in_lt g4) _ _) 2 (by decide) (fnB_61 K.2.2.2.2.2.2.2.2) rfl rfl dB_leastOf_40 ?_
        refine x_cSNI (As := [.int (hi (24 + (v6.toNatClampNeg)) 2)]) (rest := []) K gT_good hZ hP hS calC_bitsOf (mnB_132 K.2.2.2.2.2.2.2.2) (mC_bitsOf hZ K.2.2.2.2.2.2.2.1 h) ⟨Nat.le_of_ble_eq_true rfl, Nat.le_of_ble_eq_true rfl⟩ rfl hL.1 rfl (Nat.le_of_ble_eq_true rfl) dB_leastOf_43 (fun r5 hi6 hl7 H locs h hP hS => ?_)
        refine lv_iconst (v := 1) K.1 K.2.1 dB_leastOf_46 (by decide) ?_
        refine lv_isub K.1 K.2.1 dB_leastOf_47 ?_
        refine lv_istore (lv' := [(7, .int (r5 - (1 : Int32))), (0, .ref (ad 5)), (3, .long v3), (5, .int v5), (6, .int v6)]) K.1 K.2.1 dB_leastOf_48 hL (by decide) rfl (fun ls hL => ?_)
        obtain ⟨fu, h⟩ := h
        exact bB_leastOf_50 K hr hZ (fun v3 v5 v6 hi hl ls H locs h hL hP hS => ih h hL hP hS) h (lv_sub hL [1, 2, 3, 4, 0] rfl) hP hS
set_option maxRecDepth 100000 in
set_option maxHeartbeats 4000000 in
theorem bB_leastOf_0 {p : Program} {l : Launch} {e : Env} {s : State} {m : MethodId} {args : Array Value} {below : List Frame} {meth : Method} {c : Code} {D : va_G} {cI cJ cC cZ cR : ClassId} {ad kd sd vd : Nat → Nat} {kA lA wA : Nat} {A : Nat → Prop} (K : Cx p (rmX 2 40) s m args meth c cB_leastOf 11 "WordChecker$Book" gT D cls8 (tys5 cI cJ cC cZ cR) 64 ad A (ZX A kd sd vd kA lA wA)) (hr : meth.sig.returnType = (some .int)) (hZ : ZsOK A (ZX A kd sd vd kA lA wA)) {Φ : Int32 → HI → HL → Prop} {v1 : Int64} {hi : HI} {hl : HL} {H : Heap} {locs : List Loc} (h : wbB_leastOf_0 v1 hi hl Φ) {ls : Array Slot} (hL : lv_has ls 11 [(0, .ref (ad 5)), (1, .long v1)]) (hP : va_P D cls8 (wl 64 ad (GX cI cJ cC cZ cR ad kd) hi hl) H) (hS : va_S A s.heap H locs) : W p l e (rmX 2 40) s m args below meth c H locs 0 0 (MQ below (va_Qi (fun r (u : HI × HL) => Φ r u.1 u.2) (fun u t => va_P D cls8 (wl 64 ad (GX cI cJ cC cZ cR ad kd) u.1 u.2) t.heap) A) args s 0 0 A) (F0 m 0 ls []) := by
  unfold wbB_leastOf_0 at h
  refine lv_lload_n K.1 K.2.1 dB_leastOf_0 rfl (lv_at hL 1 rfl) ?_
  refine lv_lstore_n (lv' := [(3, .long v1), (0, .ref (ad 5)), (1, .long v1)]) K.1 K.2.1 dB_leastOf_1 rfl hL (by decide) rfl (fun ls hL => ?_)
  refine lv_iconst (v := 0) K.1 K.2.1 dB_leastOf_2 (by decide) ?_
  refine lv_istore (lv' := [(5, .int (0 : Int32)), (3, .long v1), (0, .ref (ad 5)), (1, .long v1)]) K.1 K.2.1 dB_leastOf_3 hL (by decide) rfl (fun ls hL => ?_)
  refine lv_iconst (v := 0) K.1 K.2.1 dB_leastOf_5 (by decide) ?_
  refine lv_istore (lv' := [(6, .int (0 : Int32)), (5, .int (0 : Int32)), (3, .long v1), (0, .ref (ad 5)), (1, .long v1)]) K.1 K.2.1 dB_leastOf_6 hL (by decide) rfl (fun ls hL => ?_)
  obtain ⟨fu, h⟩ := h
  exact bB_leastOf_8 K hr hZ h (lv_sub hL [3, 2, 1, 0] rfl) hP hS
set_option maxRecDepth 100000 in
set_option maxHeartbeats 4000000 in
theorem mB_leastOf {l : Launch} {D : va_G} {cI cJ cC cZ cR : ClassId} {ad kd sd vd : Nat → Nat} {kA lA wA : Nat} {A : Nat → Prop} (hZ : ZsOK A (ZX A kd sd vd kA lA wA)) (hD : wlD 64 ad A) {v1 : Int64} {hi : HI} {hl : HL} {Φ : Int32 → HI → HL → Prop} (h : wpB_leastOf v1 hi hl Φ) : SpI l yB_leastOf cB_leastOf 11 (some .int) gT 2 40 [.ref (ad 5), .long v1] D cls8 (tys5 cI cJ cC cZ cR) 64 ad (GX cI cJ cC cZ cR ad kd) A (ZX A kd sd vd kA lA wA) hi hl Φ := by
  refine Met.ofW (cc := cB_leastOf) (maxL := 11) (ret := (some .int)) (by decide) rfl ?_
  intro p e s m args below meth c s₁ B hml hv
  obtain ⟨rfl, hP, hK, hZs⟩ := hv
  have K : Cx p (rmX 2 40) s m _ meth c cB_leastOf 11 "WordChecker$Book" gT D cls8 (tys5 cI cJ cC cZ cR) 64 ad A (ZX A kd sd vd kA lA wA) := ⟨B.exec, B.bytes, hml, findClass_of_methodNamed B.named, fun w hw => atoms_spec B.pre w (List.mem_cons_of_mem _ hw), B.notSynchronized, hK, hD, hZs⟩
  have hL := lv_entry ([.ref (ad 5), .long v1]) (n := 11) (Nat.le_of_ble_eq_true rfl)
  rw [lg_entry_eq]
  generalize (lg_sl ([.ref (ad 5), .long v1]) ++ List.replicate (11 - (lg_sl ([.ref (ad 5), .long v1])).length) Slot.unset).toArray = ls at hL ⊢
  have hL : lv_has ls 11 [(0, .ref (ad 5)), (1, .long v1)] := hL
  unfold wpB_leastOf at h
  exact bB_leastOf_0 K B.returns hZ h (lv_sub hL [0, 1] rfl) hP va_S.rf
set_option maxRecDepth 100000 in
set_option maxHeartbeats 4000000 in
theorem bB_starts_106 {p : Program} {l : Launch} {e : Env} {s : State} {m : MethodId} {args : Array Value} {below : List Frame} {meth : Method} {c : Code} {D : va_G} {cI cJ cC cZ cR : ClassId} {ad kd sd vd : Nat → Nat} {kA lA wA : Nat} {A : Nat → Prop} (K : Cx p (rmX 2 40) s m args meth c cB_starts 8 "WordChecker$Book" gT D cls8 (tys5 cI cJ cC cZ cR) 64 ad A (ZX A kd sd vd kA lA wA)) (hr : meth.sig.returnType = (some .long)) (hZ : ZsOK A (ZX A kd sd vd kA lA wA)) {Φ : Int64 → HI → HL → Prop} {k6 : Int64 → Int32 → HI → HL → Prop} (hk6 : ∀ (v1 : Int64) (v3 : Int32) (hi : HI) (hl : HL) (ls : Array Slot) (H : Heap) (locs : List Loc), k6 v1 v3 hi hl → lv_has ls 8 [(0, .ref (ad 5)), (1, .long v1), (3, .int v3)] → va_P D cls8 (wl 64 ad (GX cI cJ cC cZ cR ad kd) hi hl) H → va_S A s.heap H locs → W p l e (rmX 2 40) s m args below meth c H locs 0 0 (MQ below (va_Ql (fun r (u : HI × HL) => Φ r u.1 u.2) (fun u t => va_P D cls8 (wl 64 ad (GX cI cJ cC cZ cR ad kd) u.1 u.2) t.heap) A) args s 0 0 A) (F0 m 6 ls [])) {v1 : Int64} {v3 : Int32} {hi : HI} {hl : HL} {H : Heap} {locs : List Loc} (h : wbB_starts_106 k6 v1 v3 hi hl Φ) {ls : Array Slot} (hL : lv_has ls 8 [(0, .ref (ad 5)), (1, .long v1), (3, .int v3)]) (hP : va_P D cls8 (wl 64 ad (GX cI cJ cC cZ cR ad kd) hi hl) H) (hS : va_S A s.heap H locs) : W p l e (rmX 2 40) s m args below meth c H locs 0 0 (MQ below (va_Ql (fun r (u : HI × HL) => Φ r u.1 u.2) (fun u t => va_P D cls8 (wl 64 ad (GX cI cJ cC cZ cR ad kd) u.1 u.2) t.heap) A) args s 0 0 A) (F0 m 106 ls []) := by
  unfold wbB_starts_106 at h
  refine lv_iinc (k := 2) (lv' := [(3, .int (v3 + Int32.ofInt (1))), (0, .ref (ad 5)), (1, .long v1)]) K.1 K.2.1 dB_starts_106 hL rfl rfl (by decide) rfl (fun ls hL => ?_)
  refine lv_goto (tgt := 6) K.1 K.2.1 dB_starts_109 rfl ?_
  exact hk6 _ _ _ _ _ _ _ h (lv_sub hL [1, 2, 0] rfl) hP hS
set_option maxRecDepth 100000 in
set_option maxHeartbeats 4000000 in
theorem bB_starts_98 {p : Program} {l : Launch} {e : Env} {s : State} {m : MethodId} {args : Array Value} {below : List Frame} {meth : Method} {c : Code} {D : va_G} {cI cJ cC cZ cR : ClassId} {ad kd sd vd : Nat → Nat} {kA lA wA : Nat} {A : Nat → Prop} (K : Cx p (rmX 2 40) s m args meth c cB_starts 8 "WordChecker$Book" gT D cls8 (tys5 cI cJ cC cZ cR) 64 ad A (ZX A kd sd vd kA lA wA)) (hr : meth.sig.returnType = (some .long)) (hZ : ZsOK A (ZX A kd sd vd kA lA wA)) {Φ : Int64 → HI → HL → Prop} {k6 : Int64 → Int32 → HI → HL → Prop} (hk6 : ∀ (v1 : Int64) (v3 : Int32) (hi : HI) (hl : HL) (ls : Array Slot) (H : Heap) (locs : List Loc), k6 v1 v3 hi hl → lv_has ls 8 [(0, .ref (ad 5)), (1, .long v1), (3, .int v3)] → va_P D cls8 (wl 64 ad (GX cI cJ cC cZ cR ad kd) hi hl) H → va_S A s.heap H locs → W p l e (rmX 2 40) s m args below meth c H locs 0 0 (MQ below (va_Ql (fun r (u : HI × HL) => Φ r u.1 u.2) (fun u t => va_P D cls8 (wl 64 ad (GX cI cJ cC cZ cR ad kd) u.1 u.2) t.heap) A) args s 0 0 A) (F0 m 6 ls [])) {k45 : Int64 → Int32 → Nat → Int32 → HI → HL → Prop} (hk45 : ∀ (v1 : Int64) (v3 : Int32) (v4 : Nat) (v5 : Int32) (hi : HI) (hl : HL) (ls : Array Slot) (H : Heap) (locs : List Loc), k45 v1 v3 v4 v5 hi hl → v4 < 20 → lv_has ls 8 [(0, .ref (ad 5)), (1, .long v1), (3, .int v3), (4, .ref (ad (24 + v4))), (5, .int v5)] → va_P D cls8 (wl 64 ad (GX cI cJ cC cZ cR ad kd) hi hl) H → va_S A s.heap H locs → W p l e (rmX 2 40) s m args below meth c H locs 0 0 (MQ below (va_Ql (fun r (u : HI × HL) => Φ r u.1 u.2) (fun u t => va_P D cls8 (wl 64 ad (GX cI cJ cC cZ cR ad kd) u.1 u.2) t.heap) A) args s 0 0 A) (F0 m 45 ls [])) {v3 : Int32} {v4 : Nat} {v5 : Int32} {q0 : Int64} {q1 : Int64} {hi : HI} {hl : HL} {H : Heap} {locs : List Loc} (h : wbB_starts_98 k6 k45 v3 v4 v5 q0 q1 hi hl Φ) (hv4 : v4 < 20) {ls : Array Slot} (hL : lv_has ls 8 [(0, .ref (ad 5)), (3, .int v3), (4, .ref (ad (24 + v4))), (5, .int v5)]) (hP : va_P D cls8 (wl 64 ad (GX cI cJ cC cZ cR ad kd) hi hl) H) (hS : va_S A s.heap H locs) : W p l e (rmX 2 40) s m args below meth c H locs 0 0 (MQ below (va_Ql (fun r (u : HI × HL) => Φ r u.1 u.2) (fun u t => va_P D cls8 (wl 64 ad (GX cI cJ cC cZ cR ad kd) u.1 u.2) t.heap) A) args s 0 0 A) (F0 m 98 ls [.long q1, .long q0]) := by
  unfold wbB_starts_98 at h
  refine lv_land K.1 K.2.1 dB_starts_98 ?_
  refine lv_lstore_n (lv' := [(1, .long (q0 &&& q1)), (0, .ref (ad 5)), (3, .int v3), (4, .ref (ad (24 + v4))), (5, .int v5)]) K.1 K.2.1 dB_starts_99 rfl hL (by decide) rfl (fun ls hL => ?_)
  refine lv_iinc (k := 4) (lv' := [(5, .int (v5 + Int32.ofInt (1))), (1, .long (q0 &&& q1)), (0, .ref (ad 5)), (3, .int v3), (4, .ref (ad (24 + v4)))]) K.1 K.2.1 dB_starts_100 hL rfl rfl (by decide) rfl (fun ls hL => ?_)
  refine lv_goto (tgt := 45) K.1 K.2.1 dB_starts_103 rfl ?_
  exact hk45 _ _ _ _ _ _ _ _ _ h hv4 (lv_sub hL [2, 1, 3, 4, 0] rfl) hP hS
set_option maxRecDepth 100000 in
set_option maxHeartbeats 4000000 in
theorem bB_starts_45 {p : Program} {l : Launch} {e : Env} {s : State} {m : MethodId} {args : Array Value} {below : List Frame} {meth : Method} {c : Code} {D : va_G} {cI cJ cC cZ cR : ClassId} {ad kd sd vd : Nat → Nat} {kA lA wA : Nat} {A : Nat → Prop} (K : Cx p (rmX 2 40) s m args meth c cB_starts 8 "WordChecker$Book" gT D cls8 (tys5 cI cJ cC cZ cR) 64 ad A (ZX A kd sd vd kA lA wA)) (hr : meth.sig.returnType = (some .long)) (hZ : ZsOK A (ZX A kd sd vd kA lA wA)) {Φ : Int64 → HI → HL → Prop} {k6 : Int64 → Int32 → HI → HL → Prop} (hk6 : ∀ (v1 : Int64) (v3 : Int32) (hi : HI) (hl : HL) (ls : Array Slot) (H : Heap) (locs : List Loc), k6 v1 v3 hi hl → lv_has ls 8 [(0, .ref (ad 5)), (1, .long v1), (3, .int v3)] → va_P D cls8 (wl 64 ad (GX cI cJ cC cZ cR ad kd) hi hl) H → va_S A s.heap H locs → W p l e (rmX 2 40) s m args below meth c H locs 0 0 (MQ below (va_Ql (fun r (u : HI × HL) => Φ r u.1 u.2) (fun u t => va_P D cls8 (wl 64 ad (GX cI cJ cC cZ cR ad kd) u.1 u.2) t.heap) A) args s 0 0 A) (F0 m 6 ls [])) {n : Nat} {v1 : Int64} {v3 : Int32} {v4 : Nat} {v5 : Int32} {hi : HI} {hl : HL} {H : Heap} {locs : List Loc} (h : wbB_starts_45 k6 n v1 v3 v4 v5 hi hl Φ) (hv4 : v4 < 20) {ls : Array Slot} (hL : lv_has ls 8 [(0, .ref (ad 5)), (1, .long v1), (3, .int v3), (4, .ref (ad (24 + v4))), (5, .int v5)]) (hP : va_P D cls8 (wl 64 ad (GX cI cJ cC cZ cR ad kd) hi hl) H) (hS : va_S A s.heap H locs) : W p l e (rmX 2 40) s m args below meth c H locs 0 0 (MQ below (va_Ql (fun r (u : HI × HL) => Φ r u.1 u.2) (fun u t => va_P D cls8 (wl 64 ad (GX cI cJ cC cZ cR ad kd) u.1 u.2) t.heap) A) args s 0 0 A) (F0 m 45 ls []) := by
  induction n generalizing v1 v3 v4 v5 hi hl ls H locs with
  | zero => exact False.elim h
  | succ n ih =>
    unfold wbB_starts_45 at h
    refine lv_iload K.1 K.2.1 dB_starts_45 (lv_at hL 4 rfl) ?_
    refine lv_aload K.1 K.2.1 dB_starts_47 (lv_at hL 3 rfl) ?_
    refine x_getN (v := .int (hi (24 + v4) 2)) K hP hinL (ci := 6) rfl (24 + v4) (lt_l hv4) (GX_line _ hv4 _ _) 2 (by decide) (fnB_61 K.2.2.2.2.2.2.2.2) rfl rfl dB_starts_49 ?_
    refine x_cSNI (As := [.int (hi (24 + v4) 2)]) (rest := [.int v5]) K gT_good hZ hP hS calC_bitsOf (mnB_132 K.2.2.2.2.2.2.2.2) (mC_bitsOf hZ K.2.2.2.2.2.2.2.1 h) ⟨Nat.le_of_ble_eq_true rfl, Nat.le_of_ble_eq_true rfl⟩ rfl hL.1 rfl (Nat.le_of_ble_eq_true rfl) dB_starts_52 (fun r1 hi2 hl3 H locs h hP hS => ?_)
    refine lv_icmp_ge (tgt := 106) K.1 K.2.1 dB_starts_55 rfl (fun hc => ?_) (fun hc => ?_)
    · have h := h.1 hc
      exact bB_starts_106 K hr hZ hk6 h (lv_sub hL [0, 1, 2] rfl) hP hS
    · have h := h.2 hc
      refine x_getsN (v := .ref lA) K hS K.2.2.2.2.2.2.2.2.2.1.2.2.1 (fnB_145 K.2.2.2.2.2.2.2.2) dB_starts_58 ?_
      refine lv_aload K.1 K.2.1 dB_starts_61 (lv_at hL 3 rfl) ?_
      refine x_getN (v := .int (hi2 (24 + v4) 4)) K hP hinL (ci := 6) rfl (24 + v4) (lt_l hv4) (GX_line _ hv4 _ _) 4 (by decide) (fnB_129 K.2.2.2.2.2.2.2.2) rfl rfl dB_starts_63 ?_
      refine lv_iload K.1 K.2.1 dB_starts_66 (lv_at hL 4 rfl) ?_
      refine lv_iadd K.1 K.2.1 dB_starts_68 ?_
      obtain ⟨g4, h⟩ := h
      refine va_tl (v := .long (lanesC (((hi2 (24 + v4) 4) + v5).toNatClampNeg))) K.1 K.2.1 K.2.2.2.2.2.2.2.2.2.1.2.2.2.1 hS g4 rfl dB_starts_69 ?_
      refine lv_lstore (lv' := [(6, .long (lanesC (((hi2 (24 + v4) 4) + v5).toNatClampNeg))), (0, .ref (ad 5)), (1, .long v1), (3, .int v3), (4, .ref (ad (24 + v4))), (5, .int v5)]) K.1 K.2.1 dB_starts_70 hL (by decide) rfl (fun ls hL => ?_)
      refine lv_lload_n K.1 K.2.1 dB_starts_72 rfl (lv_at hL 2 rfl) ?_
      refine lv_aload K.1 K.2.1 dB_starts_73 (lv_at hL 4 rfl) ?_
      refine x_getN (v := .int (hi2 (24 + v4) 5)) K hP hinL (ci := 6) rfl (24 + v4) (lt_l hv4) (GX_line _ hv4 _ _) 5 (by decide) (fnB_156 K.2.2.2.2.2.2.2.2) rfl rfl dB_starts_75 ?_
      refine lv_i2l K.1 K.2.1 dB_starts_78 rfl ?_
      refine lv_iload K.1 K.2.1 dB_starts_79 (lv_at hL 5 rfl) ?_
      refine x_cSNI (As := [.long ((hi2 (24 + v4) 5).toInt64), .int v5]) (rest := [.long v1]) K gT_good hZ hP hS calC_has (mnB_138 K.2.2.2.2.2.2.2.2) (mC_has hZ K.2.2.2.2.2.2.2.1 h) ⟨Nat.le_of_ble_eq_true rfl, Nat.le_of_ble_eq_true rfl⟩ rfl hL.1 rfl (Nat.le_of_ble_eq_true rfl) dB_starts_81 (fun r5 hi6 hl7 H locs h hP hS => ?_)
      refine lv_if_eq (tgt := 92) K.1 K.2.1 dB_starts_84 rfl (fun hc => ?_) (fun hc => ?_)
      · have h := h.1 hc
        refine lv_lload K.1 K.2.1 dB_starts_92 (lv_at hL 0 rfl) ?_
        refine lv_ldc2 (v := -1) K.1 K.2.1 K.2.2.2.1 (K.2.2.2.2.1 _ clB_35) dB_starts_94 ?_
        refine lv_lxor K.1 K.2.1 dB_starts_97 ?_
        exact bB_starts_98 K hr hZ hk6 (fun v1 v3 v4 v5 hi hl ls H locs h f0 hL hP hS => ih h f0 hL hP hS) h hv4 (lv_sub hL [1, 3, 4, 5] rfl) hP hS
      · have h := h.2 hc
        refine lv_lload K.1 K.2.1 dB_starts_87 (lv_at hL 0 rfl) ?_
        refine lv_goto (tgt := 98) K.1 K.2.1 dB_starts_89 rfl ?_
        exact bB_starts_98 K hr hZ hk6 (fun v1 v3 v4 v5 hi hl ls H locs h f0 hL hP hS => ih h f0 hL hP hS) h hv4 (lv_sub hL [1, 3, 4, 5] rfl) hP hS
set_option maxRecDepth 100000 in
set_option maxHeartbeats 4000000 in
theorem bB_starts_6 {p : Program} {l : Launch} {e : Env} {s : State} {m : MethodId} {args : Array Value} {below : List Frame} {meth : Method} {c : Code} {D : va_G} {cI cJ cC cZ cR : ClassId} {ad kd sd vd : Nat → Nat} {kA lA wA : Nat} {A : Nat → Prop} (K : Cx p (rmX 2 40) s m args meth c cB_starts 8 "WordChecker$Book" gT D cls8 (tys5 cI cJ cC cZ cR) 64 ad A (ZX A kd sd vd kA lA wA)) (hr : meth.sig.returnType = (some .long)) (hZ : ZsOK A (ZX A kd sd vd kA lA wA)) {Φ : Int64 → HI → HL → Prop} {n : Nat} {v1 : Int64} {v3 : Int32} {hi : HI} {hl : HL} {H : Heap} {locs : List Loc} (h : wbB_starts_6 n v1 v3 hi hl Φ) {ls : Array Slot} (hL : lv_has ls 8 [(0, .ref (ad 5)), (1, .long v1), (3, .int v3)]) (hP : va_P D cls8 (wl 64 ad (GX cI cJ cC cZ cR ad kd) hi hl) H) (hS : va_S A s.heap H locs) : W p l e (rmX 2 40) s m args below meth c H locs 0 0 (MQ below (va_Ql (fun r (u : HI × HL) => Φ r u.1 u.2) (fun u t => va_P D cls8 (wl 64 ad (GX cI cJ cC cZ cR ad kd) u.1 u.2) t.heap) A) args s 0 0 A) (F0 m 6 ls []) := by
  induction n generalizing v1 v3 hi hl ls H locs with
  | zero => exact False.elim h
  | succ n ih =>
    unfold wbB_starts_6 at h
    refine lv_iload_n K.1 K.2.1 dB_starts_6 rfl (lv_at hL 2 rfl) ?_
    refine lv_aload_n K.1 K.2.1 dB_starts_7 rfl (lv_at hL 0 rfl) ?_
    refine x_get (v := .int (hi 5 2)) K hP hinB (ci := 2) rfl 5 (by decide) rfl 2 (by decide) flB_37 rfl rfl dB_starts_8 ?_
    refine lv_icmp_ge (tgt := 112) K.1 K.2.1 dB_starts_11 rfl (fun hc => ?_) (fun hc => ?_)
    · have h := h.1 hc
      refine lv_lload_n K.1 K.2.1 dB_starts_112 rfl (lv_at hL 1 rfl) ?_
      exact x_lret K hr hP hS h dB_starts_113
    · have h := h.2 hc
      refine lv_aload_n K.1 K.2.1 dB_starts_14 rfl (lv_at hL 0 rfl) ?_
      refine x_get (v := .ref (ad 6)) K hP hinB (ci := 2) rfl 5 (by decide) rfl 0 (by decide) flB_11 rfl rfl dB_starts_15 ?_
      refine lv_iload_n K.1 K.2.1 dB_starts_18 rfl (lv_at hL 2 rfl) ?_
      obtain ⟨g1, h⟩ := h
      refine x_aald K hP 6 (by decide) 4 rfl rfl g1 (q := ad (24 + (v3.toNatClampNeg))) rfl dB_starts_19 ?_
      refine lv_astore (lv' := [(4, .ref (ad (24 + (v3.toNatClampNeg)))), (0, .ref (ad 5)), (1, .long v1), (3, .int v3)]) K.1 K.2.1 dB_starts_20 hL (by decide) rfl (fun ls hL => ?_)
      refine lv_aload K.1 K.2.1 dB_starts_22 (lv_at hL 0 rfl) ?_
      refine x_getN (v := va_rf (kOf kd (hi (24 + (v3.toNatClampNeg)) 1))) K hP hinL (ci := 6) rfl (24 + (v3.toNatClampNeg)) (lt_l (in_lt g1)) (GX_line _ (in_lt g1) _ _) 1 (by decide) (fnB_48 K.2.2.2.2.2.2.2.2) rfl rfl dB_starts_24 ?_
      refine x_gets (v := .ref (kd ((2 : Int32).toNatClampNeg))) K hS (K.2.2.2.2.2.2.2.2.2.2.1 2 (by decide)).1 flB_162 dB_starts_27 ?_
      obtain ⟨g2, h⟩ := h
      obtain ⟨g3, h⟩ := h
      rw [kOf_in g2]
      refine x_acne (x := (hi (24 + (v3.toNatClampNeg)) 1)) (y := (2 : Int32)) (tgt := 106) K g2 g3 dB_starts_30 rfl (fun hc => ?_) (fun hc => ?_)
      · have h := h.2 hc
        exact bB_starts_106 K hr hZ (fun v1 v3 hi hl ls H locs h hL hP hS => ih h hL hP hS) h (lv_sub hL [1, 2, 3] rfl) hP hS
      · have h := h.1 hc
        refine lv_aload K.1 K.2.1 dB_starts_33 (lv_at hL 0 rfl) ?_
        refine x_getN (v := .int (hi (24 + (v3.toNatClampNeg)) 5)) K hP hinL (ci := 6) rfl (24 + (v3.toNatClampNeg)) (lt_l (in_lt g1)) (GX_line _ (in_lt g1) _ _) 5 (by decide) (fnB_156 K.2.2.2.2.2.2.2.2) rfl rfl dB_starts_35 ?_
        refine lv_iconst (v := -1) K.1 K.2.1 dB_starts_38 (by decide) ?_
        refine lv_icmp_eq (tgt := 106) K.1 K.2.1 dB_starts_39 rfl (fun hc => ?_) (fun hc => ?_)
        · have h := h.1 hc
          exact bB_starts_106 K hr hZ (fun v1 v3 hi hl ls H locs h hL hP hS => ih h hL hP hS) h (lv_sub hL [1, 2, 3] rfl) hP hS
        · have h := h.2 hc
          refine lv_iconst (v := 0) K.1 K.2.1 dB_starts_42 (by decide) ?_
          refine lv_istore (lv' := [(5, .int (0 : Int32)), (4, .ref (ad (24 + (v3.toNatClampNeg)))), (0, .ref (ad 5)), (1, .long v1), (3, .int v3)]) K.1 K.2.1 dB_starts_43 hL (by decide) rfl (fun ls hL => ?_)
          obtain ⟨fu, h⟩ := h
          exact bB_starts_45 K hr hZ (fun v1 v3 hi hl ls H locs h hL hP hS => ih h hL hP hS) h (in_lt g1) (lv_sub hL [2, 3, 4, 1, 0] rfl) hP hS
set_option maxRecDepth 100000 in
set_option maxHeartbeats 4000000 in
theorem bB_starts_0 {p : Program} {l : Launch} {e : Env} {s : State} {m : MethodId} {args : Array Value} {below : List Frame} {meth : Method} {c : Code} {D : va_G} {cI cJ cC cZ cR : ClassId} {ad kd sd vd : Nat → Nat} {kA lA wA : Nat} {A : Nat → Prop} (K : Cx p (rmX 2 40) s m args meth c cB_starts 8 "WordChecker$Book" gT D cls8 (tys5 cI cJ cC cZ cR) 64 ad A (ZX A kd sd vd kA lA wA)) (hr : meth.sig.returnType = (some .long)) (hZ : ZsOK A (ZX A kd sd vd kA lA wA)) {Φ : Int64 → HI → HL → Prop} {hi : HI} {hl : HL} {H : Heap} {locs : List Loc} (h : wbB_starts_0 hi hl Φ) {ls : Array Slot} (hL : lv_has ls 8 [(0, .ref (ad 5))]) (hP : va_P D cls8 (wl 64 ad (GX cI cJ cC cZ cR ad kd) hi hl) H) (hS : va_S A s.heap H locs) : W p l e (rmX 2 40) s m args below meth c H locs 0 0 (MQ below (va_Ql (fun r (u : HI × HL) => Φ r u.1 u.2) (fun u t => va_P D cls8 (wl 64 ad (GX cI cJ cC cZ cR ad kd) u.1 u.2) t.heap) A) args s 0 0 A) (F0 m 0 ls []) := by
  unfold wbB_starts_0 at h
  refine lv_ldc2 (v := -1) K.1 K.2.1 K.2.2.2.1 (K.2.2.2.2.1 _ clB_35) dB_starts_0 ?_
  refine lv_lstore_n (lv' := [(1, .long (-1 : Int64)), (0, .ref (ad 5))]) K.1 K.2.1 dB_starts_3 rfl hL (by decide) rfl (fun ls hL => ?_)
  refine lv_iconst (v := 0) K.1 K.2.1 dB_starts_4 (by decide) ?_
  refine lv_istore_n (lv' := [(3, .int (0 : Int32)), (1, .long (-1 : Int64)), (0, .ref (ad 5))]) K.1 K.2.1 dB_starts_5 rfl hL (by decide) rfl (fun ls hL => ?_)
  obtain ⟨fu, h⟩ := h
  exact bB_starts_6 K hr hZ h (lv_sub hL [2, 1, 0] rfl) hP hS
set_option maxRecDepth 100000 in
set_option maxHeartbeats 4000000 in
theorem mB_starts {l : Launch} {D : va_G} {cI cJ cC cZ cR : ClassId} {ad kd sd vd : Nat → Nat} {kA lA wA : Nat} {A : Nat → Prop} (hZ : ZsOK A (ZX A kd sd vd kA lA wA)) (hD : wlD 64 ad A) {hi : HI} {hl : HL} {Φ : Int64 → HI → HL → Prop} (h : wpB_starts hi hl Φ) : SpJ l yB_starts cB_starts 8 (some .long) gT 2 40 [.ref (ad 5)] D cls8 (tys5 cI cJ cC cZ cR) 64 ad (GX cI cJ cC cZ cR ad kd) A (ZX A kd sd vd kA lA wA) hi hl Φ := by
  refine Met.ofW (cc := cB_starts) (maxL := 8) (ret := (some .long)) (by decide) rfl ?_
  intro p e s m args below meth c s₁ B hml hv
  obtain ⟨rfl, hP, hK, hZs⟩ := hv
  have K : Cx p (rmX 2 40) s m _ meth c cB_starts 8 "WordChecker$Book" gT D cls8 (tys5 cI cJ cC cZ cR) 64 ad A (ZX A kd sd vd kA lA wA) := ⟨B.exec, B.bytes, hml, findClass_of_methodNamed B.named, fun w hw => atoms_spec B.pre w (List.mem_cons_of_mem _ hw), B.notSynchronized, hK, hD, hZs⟩
  have hL := lv_entry ([.ref (ad 5)]) (n := 8) (Nat.le_of_ble_eq_true rfl)
  rw [lg_entry_eq]
  generalize (lg_sl ([.ref (ad 5)]) ++ List.replicate (8 - (lg_sl ([.ref (ad 5)])).length) Slot.unset).toArray = ls at hL ⊢
  have hL : lv_has ls 8 [(0, .ref (ad 5))] := hL
  unfold wpB_starts at h
  exact bB_starts_0 K B.returns hZ h (lv_sub hL [0] rfl) hP va_S.rf
set_option maxRecDepth 100000 in
set_option maxHeartbeats 4000000 in
theorem bS_leads_70 {p : Program} {l : Launch} {e : Env} {s : State} {m : MethodId} {args : Array Value} {below : List Frame} {meth : Method} {c : Code} {D : va_G} {cI cJ cC cZ cR : ClassId} {ad kd sd vd : Nat → Nat} {kA lA wA : Nat} {A : Nat → Prop} (K : Cx p (rmX 2 46) s m args meth c cS_leads 4 "WordChecker$Search" gT D cls8 (tys5 cI cJ cC cZ cR) 64 ad A (ZX A kd sd vd kA lA wA)) (hr : meth.sig.returnType = (some .boolean)) (hZ : ZsOK A (ZX A kd sd vd kA lA wA)) {Φ : Int32 → HI → HL → Prop} {hi : HI} {hl : HL} {H : Heap} {locs : List Loc} (h : wbS_leads_70 hi hl Φ) {ls : Array Slot} (hL : lv_has ls 4 []) (hP : va_P D cls8 (wl 64 ad (GX cI cJ cC cZ cR ad kd) hi hl) H) (hS : va_S A s.heap H locs) : W p l e (rmX 2 46) s m args below meth c H locs 0 0 (MQ below (va_Qi (fun r (u : HI × HL) => Φ r u.1 u.2) (fun u t => va_P D cls8 (wl 64 ad (GX cI cJ cC cZ cR ad kd) u.1 u.2) t.heap) A) args s 0 0 A) (F0 m 70 ls []) := by
  unfold wbS_leads_70 at h
  refine lv_iconst (v := 1) K.1 K.2.1 dS_leads_70 (by decide) ?_
  refine lv_goto (tgt := 75) K.1 K.2.1 dS_leads_71 rfl ?_
  obtain ⟨g1, h⟩ := h
  exact x_zret K hr hP hS g1 h dS_leads_75
set_option maxRecDepth 100000 in
set_option maxHeartbeats 4000000 in
theorem bS_leads_38 {p : Program} {l : Launch} {e : Env} {s : State} {m : MethodId} {args : Array Value} {below : List Frame} {meth : Method} {c : Code} {D : va_G} {cI cJ cC cZ cR : ClassId} {ad kd sd vd : Nat → Nat} {kA lA wA : Nat} {A : Nat → Prop} (K : Cx p (rmX 2 46) s m args meth c cS_leads 4 "WordChecker$Search" gT D cls8 (tys5 cI cJ cC cZ cR) 64 ad A (ZX A kd sd vd kA lA wA)) (hr : meth.sig.returnType = (some .boolean)) (hZ : ZsOK A (ZX A kd sd vd kA lA wA)) {Φ : Int32 → HI → HL → Prop} {v1 : Int32} {v2 : Int32} {v3 : Int32} {q0 : Int32} {q1 : Int32} {hi : HI} {hl : HL} {H : Heap} {locs : List Loc} (h : wbS_leads_38 v1 v2 v3 q0 q1 hi hl Φ) {ls : Array Slot} (hL : lv_has ls 4 [(0, .ref (ad 20)), (1, .int v1), (2, .int v2), (3, .int v3)]) (hP : va_P D cls8 (wl 64 ad (GX cI cJ cC cZ cR ad kd) hi hl) H) (hS : va_S A s.heap H locs) : W p l e (rmX 2 46) s m args below meth c H locs 0 0 (MQ below (va_Qi (fun r (u : HI × HL) => Φ r u.1 u.2) (fun u t => va_P D cls8 (wl 64 ad (GX cI cJ cC cZ cR ad kd) u.1 u.2) t.heap) A) args s 0 0 A) (F0 m 38 ls [.int q1, .int q0]) := by
  unfold wbS_leads_38 at h
  refine lv_icmp_eq (tgt := 43) K.1 K.2.1 dS_leads_38 rfl (fun hc => ?_) (fun hc => ?_)
  · have h := h.1 hc
    refine lv_iload_n K.1 K.2.1 dS_leads_43 rfl (lv_at hL 3 rfl) ?_
    refine lv_if_eq (tgt := 70) K.1 K.2.1 dS_leads_44 rfl (fun hc => ?_) (fun hc => ?_)
    · have h := h.1 hc
      exact bS_leads_70 K hr hZ h (lv_sub hL [] rfl) hP hS
    · have h := h.2 hc
      refine lv_aload_n K.1 K.2.1 dS_leads_47 rfl (lv_at hL 0 rfl) ?_
      refine x_get (v := .ref (ad 21)) K hP hinS (ci := 5) rfl 20 (by decide) rfl 1 (by decide) flS_9 rfl rfl dS_leads_48 ?_
      refine lv_iload_n K.1 K.2.1 dS_leads_51 rfl (lv_at hL 3 rfl) ?_
      refine lv_iconst (v := 1) K.1 K.2.1 dS_leads_52 (by decide) ?_
      refine lv_isub K.1 K.2.1 dS_leads_53 ?_
      obtain ⟨g1, h⟩ := h
      refine x_lald K hP 21 (by decide) 1 rfl rfl g1 dS_leads_54 ?_
      refine lv_aload_n K.1 K.2.1 dS_leads_55 rfl (lv_at hL 0 rfl) ?_
      refine x_get (v := .ref (ad 5)) K hP hinS (ci := 5) rfl 20 (by decide) rfl 0 (by decide) flS_22 rfl rfl dS_leads_56 ?_
      refine lv_iload_n K.1 K.2.1 dS_leads_59 rfl (lv_at hL 1 rfl) ?_
      refine lv_iload_n K.1 K.2.1 dS_leads_60 rfl (lv_at hL 2 rfl) ?_
      refine x_cVI (As := [.int v1, .int v2]) (rest := [.long (hl 21 ((v3 - (1 : Int32)).toNatClampNeg))]) K gT_good hZ hP hS calB_after mlS_71 5 (by decide) rfl rfl (mB_after hZ K.2.2.2.2.2.2.2.1 h) ⟨Nat.le_of_ble_eq_true rfl, Nat.le_of_ble_eq_true rfl⟩ rfl hL.1 rfl (Nat.le_of_ble_eq_true rfl) dS_leads_61 (fun r2 hi3 hl4 H locs h hP hS => ?_)
      refine x_cSNI (As := [.long (hl 21 ((v3 - (1 : Int32)).toNatClampNeg)), .int r2]) (rest := []) K gT_good hZ hP hS calC_has (mnS_64 K.2.2.2.2.2.2.2.2) (mC_has hZ K.2.2.2.2.2.2.2.1 h) ⟨Nat.le_of_ble_eq_true rfl, Nat.le_of_ble_eq_true rfl⟩ rfl hL.1 rfl (Nat.le_of_ble_eq_true rfl) dS_leads_64 (fun r5 hi6 hl7 H locs h hP hS => ?_)
      refine lv_if_eq (tgt := 74) K.1 K.2.1 dS_leads_67 rfl (fun hc => ?_) (fun hc => ?_)
      · have h := h.1 hc
        refine lv_iconst (v := 0) K.1 K.2.1 dS_leads_74 (by decide) ?_
        obtain ⟨g8, h⟩ := h
        exact x_zret K hr hP hS g8 h dS_leads_75
      · have h := h.2 hc
        exact bS_leads_70 K hr hZ h (lv_sub hL [] rfl) hP hS
  · have h := h.2 hc
    refine lv_iconst (v := 0) K.1 K.2.1 dS_leads_41 (by decide) ?_
    obtain ⟨g9, h⟩ := h
    exact x_zret K hr hP hS g9 h dS_leads_42
set_option maxRecDepth 100000 in
set_option maxHeartbeats 4000000 in
theorem bS_leads_0 {p : Program} {l : Launch} {e : Env} {s : State} {m : MethodId} {args : Array Value} {below : List Frame} {meth : Method} {c : Code} {D : va_G} {cI cJ cC cZ cR : ClassId} {ad kd sd vd : Nat → Nat} {kA lA wA : Nat} {A : Nat → Prop} (K : Cx p (rmX 2 46) s m args meth c cS_leads 4 "WordChecker$Search" gT D cls8 (tys5 cI cJ cC cZ cR) 64 ad A (ZX A kd sd vd kA lA wA)) (hr : meth.sig.returnType = (some .boolean)) (hZ : ZsOK A (ZX A kd sd vd kA lA wA)) {Φ : Int32 → HI → HL → Prop} {v1 : Int32} {v2 : Int32} {v3 : Int32} {hi : HI} {hl : HL} {H : Heap} {locs : List Loc} (h : wbS_leads_0 v1 v2 v3 hi hl Φ) {ls : Array Slot} (hL : lv_has ls 4 [(0, .ref (ad 20)), (1, .int v1), (2, .int v2), (3, .int v3)]) (hP : va_P D cls8 (wl 64 ad (GX cI cJ cC cZ cR ad kd) hi hl) H) (hS : va_S A s.heap H locs) : W p l e (rmX 2 46) s m args below meth c H locs 0 0 (MQ below (va_Qi (fun r (u : HI × HL) => Φ r u.1 u.2) (fun u t => va_P D cls8 (wl 64 ad (GX cI cJ cC cZ cR ad kd) u.1 u.2) t.heap) A) args s 0 0 A) (F0 m 0 ls []) := by
  unfold wbS_leads_0 at h
  refine lv_aload_n K.1 K.2.1 dS_leads_0 rfl (lv_at hL 0 rfl) ?_
  refine x_get (v := .ref (ad 5)) K hP hinS (ci := 5) rfl 20 (by decide) rfl 0 (by decide) flS_22 rfl rfl dS_leads_1 ?_
  refine x_getN (v := .ref (ad 9)) K hP hinB (ci := 2) rfl 5 (by decide) rfl 8 (by decide) (fnS_61 K.2.2.2.2.2.2.2.2) rfl rfl dS_leads_4 ?_
  refine lv_iload_n K.1 K.2.1 dS_leads_7 rfl (lv_at hL 2 rfl) ?_
  obtain ⟨g1, h⟩ := h
  refine x_lald K hP 9 (by decide) 1 rfl rfl g1 dS_leads_8 ?_
  refine lv_iload_n K.1 K.2.1 dS_leads_9 rfl (lv_at hL 1 rfl) ?_
  refine x_cSNI (As := [.long (hl 9 (v2.toNatClampNeg)), .int v1]) (rest := []) K gT_good hZ hP hS calC_has (mnS_64 K.2.2.2.2.2.2.2.2) (mC_has hZ K.2.2.2.2.2.2.2.1 h) ⟨Nat.le_of_ble_eq_true rfl, Nat.le_of_ble_eq_true rfl⟩ rfl hL.1 rfl (Nat.le_of_ble_eq_true rfl) dS_leads_10 (fun r2 hi3 hl4 H locs h hP hS => ?_)
  refine lv_if_eq (tgt := 41) K.1 K.2.1 dS_leads_13 rfl (fun hc => ?_) (fun hc => ?_)
  · have h := h.1 hc
    refine lv_iconst (v := 0) K.1 K.2.1 dS_leads_41 (by decide) ?_
    obtain ⟨g5, h⟩ := h
    exact x_zret K hr hP hS g5 h dS_leads_42
  · have h := h.2 hc
    refine lv_aload_n K.1 K.2.1 dS_leads_16 rfl (lv_at hL 0 rfl) ?_
    refine x_get (v := .ref (ad 5)) K hP hinS (ci := 5) rfl 20 (by decide) rfl 0 (by decide) flS_22 rfl rfl dS_leads_17 ?_
    refine x_getN (v := .ref (ad 8)) K hP hinB (ci := 2) rfl 5 (by decide) rfl 7 (by decide) (fnS_68 K.2.2.2.2.2.2.2.2) rfl rfl dS_leads_20 ?_
    refine lv_iload_n K.1 K.2.1 dS_leads_23 rfl (lv_at hL 2 rfl) ?_
    obtain ⟨g6, h⟩ := h
    refine x_lald K hP 8 (by decide) 1 rfl rfl g6 dS_leads_24 ?_
    refine lv_iload_n K.1 K.2.1 dS_leads_25 rfl (lv_at hL 1 rfl) ?_
    refine x_cSNI (As := [.long (hl4 8 (v2.toNatClampNeg)), .int v1]) (rest := []) K gT_good hZ hP hS calC_has (mnS_64 K.2.2.2.2.2.2.2.2) (mC_has hZ K.2.2.2.2.2.2.2.1 h) ⟨Nat.le_of_ble_eq_true rfl, Nat.le_of_ble_eq_true rfl⟩ rfl hL.1 rfl (Nat.le_of_ble_eq_true rfl) dS_leads_26 (fun r7 hi8 hl9 H locs h hP hS => ?_)
    refine lv_iload_n K.1 K.2.1 dS_leads_29 rfl (lv_at hL 3 rfl) ?_
    refine lv_if_ne (tgt := 37) K.1 K.2.1 dS_leads_30 rfl (fun hc => ?_) (fun hc => ?_)
    · have h := h.2 hc
      refine lv_iconst (v := 0) K.1 K.2.1 dS_leads_37 (by decide) ?_
      exact bS_leads_38 K hr hZ h (lv_sub hL [0, 1, 2, 3] rfl) hP hS
    · have h := h.1 hc
      refine lv_iconst (v := 1) K.1 K.2.1 dS_leads_33 (by decide) ?_
      refine lv_goto (tgt := 38) K.1 K.2.1 dS_leads_34 rfl ?_
      exact bS_leads_38 K hr hZ h (lv_sub hL [0, 1, 2, 3] rfl) hP hS
set_option maxRecDepth 100000 in
set_option maxHeartbeats 4000000 in
theorem mS_leads {l : Launch} {D : va_G} {cI cJ cC cZ cR : ClassId} {ad kd sd vd : Nat → Nat} {kA lA wA : Nat} {A : Nat → Prop} (hZ : ZsOK A (ZX A kd sd vd kA lA wA)) (hD : wlD 64 ad A) {v1 : Int32} {v2 : Int32} {v3 : Int32} {hi : HI} {hl : HL} {Φ : Int32 → HI → HL → Prop} (h : wpS_leads v1 v2 v3 hi hl Φ) : SpI l yS_leads cS_leads 4 (some .boolean) gT 2 46 [.ref (ad 20), .int v1, .int v2, .int v3] D cls8 (tys5 cI cJ cC cZ cR) 64 ad (GX cI cJ cC cZ cR ad kd) A (ZX A kd sd vd kA lA wA) hi hl Φ := by
  refine Met.ofW (cc := cS_leads) (maxL := 4) (ret := (some .boolean)) (by decide) rfl ?_
  intro p e s m args below meth c s₁ B hml hv
  obtain ⟨rfl, hP, hK, hZs⟩ := hv
  have K : Cx p (rmX 2 46) s m _ meth c cS_leads 4 "WordChecker$Search" gT D cls8 (tys5 cI cJ cC cZ cR) 64 ad A (ZX A kd sd vd kA lA wA) := ⟨B.exec, B.bytes, hml, findClass_of_methodNamed B.named, fun w hw => atoms_spec B.pre w (List.mem_cons_of_mem _ hw), B.notSynchronized, hK, hD, hZs⟩
  have hL := lv_entry ([.ref (ad 20), .int v1, .int v2, .int v3]) (n := 4) (Nat.le_of_ble_eq_true rfl)
  rw [lg_entry_eq]
  generalize (lg_sl ([.ref (ad 20), .int v1, .int v2, .int v3]) ++ List.replicate (4 - (lg_sl ([.ref (ad 20), .int v1, .int v2, .int v3])).length) Slot.unset).toArray = ls at hL ⊢
  have hL : lv_has ls 4 [(0, .ref (ad 20)), (1, .int v1), (2, .int v2), (3, .int v3)] := hL
  unfold wpS_leads at h
  exact bS_leads_0 K B.returns hZ h (lv_sub hL [0, 1, 2, 3] rfl) hP va_S.rf
set_option maxRecDepth 100000 in
set_option maxHeartbeats 4000000 in
theorem bS_gather_59 {p : Program} {l : Launch} {e : Env} {s : State} {m : MethodId} {args : Array Value} {below : List Frame} {meth : Method} {c : Code} {D : va_G} {cI cJ cC cZ cR : ClassId} {ad kd sd vd : Nat → Nat} {kA lA wA : Nat} {A : Nat → Prop} (K : Cx p (rmX 3 69) s m args meth c cS_gather 4 "WordChecker$Search" gT D cls8 (tys5 cI cJ cC cZ cR) 64 ad A (ZX A kd sd vd kA lA wA)) (hr : meth.sig.returnType = none) (hZ : ZsOK A (ZX A kd sd vd kA lA wA)) {Φ : HI → HL → Prop} {k9 : Int32 → Int32 → HI → HL → Prop} (hk9 : ∀ (v1 : Int32) (v2 : Int32) (hi : HI) (hl : HL) (ls : Array Slot) (H : Heap) (locs : List Loc), k9 v1 v2 hi hl → lv_has ls 4 [(0, .ref (ad 20)), (1, .int v1), (2, .int v2)] → va_P D cls8 (wl 64 ad (GX cI cJ cC cZ cR ad kd) hi hl) H → va_S A s.heap H locs → W p l e (rmX 3 69) s m args below meth c H locs 0 0 (MQ below (va_Qv (fun (u : HI × HL) => Φ u.1 u.2) (fun u t => va_P D cls8 (wl 64 ad (GX cI cJ cC cZ cR ad kd) u.1 u.2) t.heap) A) args s 0 0 A) (F0 m 9 ls [])) {k24 : Int32 → Int32 → Int32 → HI → HL → Prop} (hk24 : ∀ (v1 : Int32) (v2 : Int32) (v3 : Int32) (hi : HI) (hl : HL) (ls : Array Slot) (H : Heap) (locs : List Loc), k24 v1 v2 v3 hi hl → lv_has ls 4 [(0, .ref (ad 20)), (1, .int v1), (2, .int v2), (3, .int v3)] → va_P D cls8 (wl 64 ad (GX cI cJ cC cZ cR ad kd) hi hl) H → va_S A s.heap H locs → W p l e (rmX 3 69) s m args below meth c H locs 0 0 (MQ below (va_Qv (fun (u : HI × HL) => Φ u.1 u.2) (fun u t => va_P D cls8 (wl 64 ad (GX cI cJ cC cZ cR ad kd) u.1 u.2) t.heap) A) args s 0 0 A) (F0 m 24 ls [])) {v1 : Int32} {v2 : Int32} {v3 : Int32} {hi : HI} {hl : HL} {H : Heap} {locs : List Loc} (h : wbS_gather_59 k9 k24 v1 v2 v3 hi hl Φ) {ls : Array Slot} (hL : lv_has ls 4 [(0, .ref (ad 20)), (1, .int v1), (2, .int v2), (3, .int v3)]) (hP : va_P D cls8 (wl 64 ad (GX cI cJ cC cZ cR ad kd) hi hl) H) (hS : va_S A s.heap H locs) : W p l e (rmX 3 69) s m args below meth c H locs 0 0 (MQ below (va_Qv (fun (u : HI × HL) => Φ u.1 u.2) (fun u t => va_P D cls8 (wl 64 ad (GX cI cJ cC cZ cR ad kd) u.1 u.2) t.heap) A) args s 0 0 A) (F0 m 59 ls []) := by
  unfold wbS_gather_59 at h
  refine lv_iinc (k := 3) (lv' := [(3, .int (v3 + Int32.ofInt (1))), (0, .ref (ad 20)), (1, .int v1), (2, .int v2)]) K.1 K.2.1 dS_gather_59 hL rfl rfl (by decide) rfl (fun ls hL => ?_)
  refine lv_goto (tgt := 24) K.1 K.2.1 dS_gather_62 rfl ?_
  exact hk24 _ _ _ _ _ _ _ _ h (lv_sub hL [1, 2, 3, 0] rfl) hP hS
set_option maxRecDepth 100000 in
set_option maxHeartbeats 4000000 in
theorem bS_gather_24 {p : Program} {l : Launch} {e : Env} {s : State} {m : MethodId} {args : Array Value} {below : List Frame} {meth : Method} {c : Code} {D : va_G} {cI cJ cC cZ cR : ClassId} {ad kd sd vd : Nat → Nat} {kA lA wA : Nat} {A : Nat → Prop} (K : Cx p (rmX 3 69) s m args meth c cS_gather 4 "WordChecker$Search" gT D cls8 (tys5 cI cJ cC cZ cR) 64 ad A (ZX A kd sd vd kA lA wA)) (hr : meth.sig.returnType = none) (hZ : ZsOK A (ZX A kd sd vd kA lA wA)) {Φ : HI → HL → Prop} {k9 : Int32 → Int32 → HI → HL → Prop} (hk9 : ∀ (v1 : Int32) (v2 : Int32) (hi : HI) (hl : HL) (ls : Array Slot) (H : Heap) (locs : List Loc), k9 v1 v2 hi hl → lv_has ls 4 [(0, .ref (ad 20)), (1, .int v1), (2, .int v2)] → va_P D cls8 (wl 64 ad (GX cI cJ cC cZ cR ad kd) hi hl) H → va_S A s.heap H locs → W p l e (rmX 3 69) s m args below meth c H locs 0 0 (MQ below (va_Qv (fun (u : HI × HL) => Φ u.1 u.2) (fun u t => va_P D cls8 (wl 64 ad (GX cI cJ cC cZ cR ad kd) u.1 u.2) t.heap) A) args s 0 0 A) (F0 m 9 ls [])) {n : Nat} {v1 : Int32} {v2 : Int32} {v3 : Int32} {hi : HI} {hl : HL} {H : Heap} {locs : List Loc} (h : wbS_gather_24 k9 n v1 v2 v3 hi hl Φ) {ls : Array Slot} (hL : lv_has ls 4 [(0, .ref (ad 20)), (1, .int v1), (2, .int v2), (3, .int v3)]) (hP : va_P D cls8 (wl 64 ad (GX cI cJ cC cZ cR ad kd) hi hl) H) (hS : va_S A s.heap H locs) : W p l e (rmX 3 69) s m args below meth c H locs 0 0 (MQ below (va_Qv (fun (u : HI × HL) => Φ u.1 u.2) (fun u t => va_P D cls8 (wl 64 ad (GX cI cJ cC cZ cR ad kd) u.1 u.2) t.heap) A) args s 0 0 A) (F0 m 24 ls []) := by
  induction n generalizing v1 v2 v3 hi hl ls H locs with
  | zero => exact False.elim h
  | succ n ih =>
    unfold wbS_gather_24 at h
    refine lv_iload_n K.1 K.2.1 dS_gather_24 rfl (lv_at hL 3 rfl) ?_
    refine lv_iconst (v := 1) K.1 K.2.1 dS_gather_25 (by decide) ?_
    refine lv_aload_n K.1 K.2.1 dS_gather_26 rfl (lv_at hL 0 rfl) ?_
    refine x_get (v := .ref (ad 5)) K hP hinS (ci := 5) rfl 20 (by decide) rfl 0 (by decide) flS_22 rfl rfl dS_gather_27 ?_
    refine x_getN (v := .int (hi 5 3)) K hP hinB (ci := 2) rfl 5 (by decide) rfl 3 (by decide) (fnS_54 K.2.2.2.2.2.2.2.2) rfl rfl dS_gather_30 ?_
    refine lv_ishl K.1 K.2.1 dS_gather_33 ?_
    refine lv_icmp_ge (tgt := 65) K.1 K.2.1 dS_gather_34 rfl (fun hc => ?_) (fun hc => ?_)
    · have h := h.1 hc
      refine lv_iinc (k := 2) (lv' := [(2, .int (v2 + Int32.ofInt (1))), (0, .ref (ad 20)), (1, .int v1), (3, .int v3)]) K.1 K.2.1 dS_gather_65 hL rfl rfl (by decide) rfl (fun ls hL => ?_)
      refine lv_goto (tgt := 9) K.1 K.2.1 dS_gather_68 rfl ?_
      exact hk9 _ _ _ _ _ _ _ h (lv_sub hL [1, 2, 0] rfl) hP hS
    · have h := h.2 hc
      refine lv_aload_n K.1 K.2.1 dS_gather_37 rfl (lv_at hL 0 rfl) ?_
      refine lv_iload_n K.1 K.2.1 dS_gather_38 rfl (lv_at hL 2 rfl) ?_
      refine lv_iload_n K.1 K.2.1 dS_gather_39 rfl (lv_at hL 3 rfl) ?_
      refine lv_iload_n K.1 K.2.1 dS_gather_40 rfl (lv_at hL 1 rfl) ?_
      refine x_cVI (As := [.int v2, .int v3, .int v1]) (rest := []) K gT_good hZ hP hS calS_leads mlS_57 20 (by decide) rfl rfl (mS_leads hZ K.2.2.2.2.2.2.2.1 h) ⟨Nat.le_of_ble_eq_true rfl, Nat.le_of_ble_eq_true rfl⟩ rfl hL.1 rfl (Nat.le_of_ble_eq_true rfl) dS_gather_41 (fun r1 hi2 hl3 H locs h hP hS => ?_)
      refine lv_if_eq (tgt := 59) K.1 K.2.1 dS_gather_44 rfl (fun hc => ?_) (fun hc => ?_)
      · have h := h.1 hc
        exact bS_gather_59 K hr hZ hk9 (fun v1 v2 v3 hi hl ls H locs h hL hP hS => ih h hL hP hS) h (lv_sub hL [0, 1, 2, 3] rfl) hP hS
      · have h := h.2 hc
        refine lv_aload_n K.1 K.2.1 dS_gather_47 rfl (lv_at hL 0 rfl) ?_
        refine x_get (v := .ref (ad 21)) K hP hinS (ci := 5) rfl 20 (by decide) rfl 1 (by decide) flS_9 rfl rfl dS_gather_48 ?_
        refine lv_iload_n K.1 K.2.1 dS_gather_51 rfl (lv_at hL 1 rfl) ?_
        refine lv_dup2_11 K.1 K.2.1 dS_gather_52 rfl rfl ?_
        obtain ⟨g4, h⟩ := h
        refine x_lald K hP 21 (by decide) 1 rfl rfl g4 dS_gather_53 ?_
        refine lv_lconst (v := 1) K.1 K.2.1 dS_gather_54 (by decide) ?_
        refine lv_iload_n K.1 K.2.1 dS_gather_55 rfl (lv_at hL 2 rfl) ?_
        refine lv_lshl K.1 K.2.1 dS_gather_56 rfl ?_
        refine lv_lor K.1 K.2.1 dS_gather_57 ?_
        obtain ⟨g5, h⟩ := h
        refine x_last K hP hS 21 (by decide) 1 (fun _ => rfl) rfl g5 dS_gather_58 (fun H locs hP hS => ?_)
        exact bS_gather_59 K hr hZ hk9 (fun v1 v2 v3 hi hl ls H locs h hL hP hS => ih h hL hP hS) h (lv_sub hL [0, 1, 2, 3] rfl) hP hS
set_option maxRecDepth 100000 in
set_option maxHeartbeats 4000000 in
theorem bS_gather_9 {p : Program} {l : Launch} {e : Env} {s : State} {m : MethodId} {args : Array Value} {below : List Frame} {meth : Method} {c : Code} {D : va_G} {cI cJ cC cZ cR : ClassId} {ad kd sd vd : Nat → Nat} {kA lA wA : Nat} {A : Nat → Prop} (K : Cx p (rmX 3 69) s m args meth c cS_gather 4 "WordChecker$Search" gT D cls8 (tys5 cI cJ cC cZ cR) 64 ad A (ZX A kd sd vd kA lA wA)) (hr : meth.sig.returnType = none) (hZ : ZsOK A (ZX A kd sd vd kA lA wA)) {Φ : HI → HL → Prop} {n : Nat} {v1 : Int32} {v2 : Int32} {hi : HI} {hl : HL} {H : Heap} {locs : List Loc} (h : wbS_gather_9 n v1 v2 hi hl Φ) {ls : Array Slot} (hL : lv_has ls 4 [(0, .ref (ad 20)), (1, .int v1), (2, .int v2)]) (hP : va_P D cls8 (wl 64 ad (GX cI cJ cC cZ cR ad kd) hi hl) H) (hS : va_S A s.heap H locs) : W p l e (rmX 3 69) s m args below meth c H locs 0 0 (MQ below (va_Qv (fun (u : HI × HL) => Φ u.1 u.2) (fun u t => va_P D cls8 (wl 64 ad (GX cI cJ cC cZ cR ad kd) u.1 u.2) t.heap) A) args s 0 0 A) (F0 m 9 ls []) := by
  induction n generalizing v1 v2 hi hl ls H locs with
  | zero => exact False.elim h
  | succ n ih =>
    unfold wbS_gather_9 at h
    refine lv_iload_n K.1 K.2.1 dS_gather_9 rfl (lv_at hL 2 rfl) ?_
    refine lv_iconst (v := 1) K.1 K.2.1 dS_gather_10 (by decide) ?_
    refine lv_aload_n K.1 K.2.1 dS_gather_11 rfl (lv_at hL 0 rfl) ?_
    refine x_get (v := .ref (ad 5)) K hP hinS (ci := 5) rfl 20 (by decide) rfl 0 (by decide) flS_22 rfl rfl dS_gather_12 ?_
    refine x_getN (v := .int (hi 5 4)) K hP hinB (ci := 2) rfl 5 (by decide) rfl 4 (by decide) (fnS_51 K.2.2.2.2.2.2.2.2) rfl rfl dS_gather_15 ?_
    refine lv_ishl K.1 K.2.1 dS_gather_18 ?_
    refine lv_icmp_ge (tgt := 71) K.1 K.2.1 dS_gather_19 rfl (fun hc => ?_) (fun hc => ?_)
    · have h := h.1 hc
      exact x_vret K hr hP hS h dS_gather_71
    · have h := h.2 hc
      refine lv_iconst (v := 0) K.1 K.2.1 dS_gather_22 (by decide) ?_
      refine lv_istore_n (lv' := [(3, .int (0 : Int32)), (0, .ref (ad 20)), (1, .int v1), (2, .int v2)]) K.1 K.2.1 dS_gather_23 rfl hL (by decide) rfl (fun ls hL => ?_)
      obtain ⟨fu, h⟩ := h
      exact bS_gather_24 K hr hZ (fun v1 v2 hi hl ls H locs h hL hP hS => ih h hL hP hS) h (lv_sub hL [1, 2, 3, 0] rfl) hP hS
set_option maxRecDepth 100000 in
set_option maxHeartbeats 4000000 in
theorem bS_gather_0 {p : Program} {l : Launch} {e : Env} {s : State} {m : MethodId} {args : Array Value} {below : List Frame} {meth : Method} {c : Code} {D : va_G} {cI cJ cC cZ cR : ClassId} {ad kd sd vd : Nat → Nat} {kA lA wA : Nat} {A : Nat → Prop} (K : Cx p (rmX 3 69) s m args meth c cS_gather 4 "WordChecker$Search" gT D cls8 (tys5 cI cJ cC cZ cR) 64 ad A (ZX A kd sd vd kA lA wA)) (hr : meth.sig.returnType = none) (hZ : ZsOK A (ZX A kd sd vd kA lA wA)) {Φ : HI → HL → Prop} {v1 : Int32} {hi : HI} {hl : HL} {H : Heap} {locs : List Loc} (h : wbS_gather_0 v1 hi hl Φ) {ls : Array Slot} (hL : lv_has ls 4 [(0, .ref (ad 20)), (1, .int v1)]) (hP : va_P D cls8 (wl 64 ad (GX cI cJ cC cZ cR ad kd) hi hl) H) (hS : va_S A s.heap H locs) : W p l e (rmX 3 69) s m args below meth c H locs 0 0 (MQ below (va_Qv (fun (u : HI × HL) => Φ u.1 u.2) (fun u t => va_P D cls8 (wl 64 ad (GX cI cJ cC cZ cR ad kd) u.1 u.2) t.heap) A) args s 0 0 A) (F0 m 0 ls []) := by
  unfold wbS_gather_0 at h
  refine lv_aload_n K.1 K.2.1 dS_gather_0 rfl (lv_at hL 0 rfl) ?_
  refine x_get (v := .ref (ad 21)) K hP hinS (ci := 5) rfl 20 (by decide) rfl 1 (by decide) flS_9 rfl rfl dS_gather_1 ?_
  refine lv_iload_n K.1 K.2.1 dS_gather_4 rfl (lv_at hL 1 rfl) ?_
  refine lv_lconst (v := 0) K.1 K.2.1 dS_gather_5 (by decide) ?_
  obtain ⟨g1, h⟩ := h
  refine x_last K hP hS 21 (by decide) 1 (fun _ => rfl) rfl g1 dS_gather_6 (fun H locs hP hS => ?_)
  refine lv_iconst (v := 0) K.1 K.2.1 dS_gather_7 (by decide) ?_
  refine lv_istore_n (lv' := [(2, .int (0 : Int32)), (0, .ref (ad 20)), (1, .int v1)]) K.1 K.2.1 dS_gather_8 rfl hL (by decide) rfl (fun ls hL => ?_)
  obtain ⟨fu, h⟩ := h
  exact bS_gather_9 K hr hZ h (lv_sub hL [1, 2, 0] rfl) hP hS
set_option maxRecDepth 100000 in
set_option maxHeartbeats 4000000 in
theorem mS_gather {l : Launch} {D : va_G} {cI cJ cC cZ cR : ClassId} {ad kd sd vd : Nat → Nat} {kA lA wA : Nat} {A : Nat → Prop} (hZ : ZsOK A (ZX A kd sd vd kA lA wA)) (hD : wlD 64 ad A) {v1 : Int32} {hi : HI} {hl : HL} {Φ : HI → HL → Prop} (h : wpS_gather v1 hi hl Φ) : SpV l yS_gather cS_gather 4 none gT 3 69 [.ref (ad 20), .int v1] D cls8 (tys5 cI cJ cC cZ cR) 64 ad (GX cI cJ cC cZ cR ad kd) A (ZX A kd sd vd kA lA wA) hi hl Φ := by
  refine Met.ofW (cc := cS_gather) (maxL := 4) (ret := none) (by decide) rfl ?_
  intro p e s m args below meth c s₁ B hml hv
  obtain ⟨rfl, hP, hK, hZs⟩ := hv
  have K : Cx p (rmX 3 69) s m _ meth c cS_gather 4 "WordChecker$Search" gT D cls8 (tys5 cI cJ cC cZ cR) 64 ad A (ZX A kd sd vd kA lA wA) := ⟨B.exec, B.bytes, hml, findClass_of_methodNamed B.named, fun w hw => atoms_spec B.pre w (List.mem_cons_of_mem _ hw), B.notSynchronized, hK, hD, hZs⟩
  have hL := lv_entry ([.ref (ad 20), .int v1]) (n := 4) (Nat.le_of_ble_eq_true rfl)
  rw [lg_entry_eq]
  generalize (lg_sl ([.ref (ad 20), .int v1]) ++ List.replicate (4 - (lg_sl ([.ref (ad 20), .int v1])).length) Slot.unset).toArray = ls at hL ⊢
  have hL : lv_has ls 4 [(0, .ref (ad 20)), (1, .int v1)] := hL
  unfold wpS_gather at h
  exact bS_gather_0 K B.returns hZ h (lv_sub hL [0, 1] rfl) hP va_S.rf
set_option maxRecDepth 100000 in
set_option maxHeartbeats 4000000 in
theorem bB_inputAt_79 {p : Program} {l : Launch} {e : Env} {s : State} {m : MethodId} {args : Array Value} {below : List Frame} {meth : Method} {c : Code} {D : va_G} {cI cJ cC cZ cR : ClassId} {ad kd sd vd : Nat → Nat} {kA lA wA : Nat} {A : Nat → Prop} (K : Cx p (rmX 2 40) s m args meth c cB_inputAt 6 "WordChecker$Book" gT D cls8 (tys5 cI cJ cC cZ cR) 64 ad A (ZX A kd sd vd kA lA wA)) (hr : meth.sig.returnType = (some .int)) (hZ : ZsOK A (ZX A kd sd vd kA lA wA)) {Φ : Int32 → HI → HL → Prop} {k10 : Int32 → Int32 → Int32 → Int32 → HI → HL → Prop} (hk10 : ∀ (v1 : Int32) (v2 : Int32) (v3 : Int32) (v4 : Int32) (hi : HI) (hl : HL) (ls : Array Slot) (H : Heap) (locs : List Loc), k10 v1 v2 v3 v4 hi hl → lv_has ls 6 [(0, .ref (ad 5)), (1, .int v1), (2, .int v2), (3, .int v3), (4, .int v4)] → va_P D cls8 (wl 64 ad (GX cI cJ cC cZ cR ad kd) hi hl) H → va_S A s.heap H locs → W p l e (rmX 2 40) s m args below meth c H locs 0 0 (MQ below (va_Qi (fun r (u : HI × HL) => Φ r u.1 u.2) (fun u t => va_P D cls8 (wl 64 ad (GX cI cJ cC cZ cR ad kd) u.1 u.2) t.heap) A) args s 0 0 A) (F0 m 10 ls [])) {v1 : Int32} {v2 : Int32} {v3 : Int32} {v4 : Int32} {hi : HI} {hl : HL} {H : Heap} {locs : List Loc} (h : wbB_inputAt_79 k10 v1 v2 v3 v4 hi hl Φ) {ls : Array Slot} (hL : lv_has ls 6 [(0, .ref (ad 5)), (1, .int v1), (2, .int v2), (3, .int v3), (4, .int v4)]) (hP : va_P D cls8 (wl 64 ad (GX cI cJ cC cZ cR ad kd) hi hl) H) (hS : va_S A s.heap H locs) : W p l e (rmX 2 40) s m args below meth c H locs 0 0 (MQ below (va_Qi (fun r (u : HI × HL) => Φ r u.1 u.2) (fun u t => va_P D cls8 (wl 64 ad (GX cI cJ cC cZ cR ad kd) u.1 u.2) t.heap) A) args s 0 0 A) (F0 m 79 ls []) := by
  unfold wbB_inputAt_79 at h
  refine lv_iinc (k := 4) (lv' := [(4, .int (v4 + Int32.ofInt (1))), (0, .ref (ad 5)), (1, .int v1), (2, .int v2), (3, .int v3)]) K.1 K.2.1 dB_inputAt_79 hL rfl rfl (by decide) rfl (fun ls hL => ?_)
  refine lv_goto (tgt := 10) K.1 K.2.1 dB_inputAt_82 rfl ?_
  exact hk10 _ _ _ _ _ _ _ _ _ h (lv_sub hL [1, 2, 3, 4, 0] rfl) hP hS
set_option maxRecDepth 100000 in
set_option maxHeartbeats 4000000 in
theorem bB_inputAt_10 {p : Program} {l : Launch} {e : Env} {s : State} {m : MethodId} {args : Array Value} {below : List Frame} {meth : Method} {c : Code} {D : va_G} {cI cJ cC cZ cR : ClassId} {ad kd sd vd : Nat → Nat} {kA lA wA : Nat} {A : Nat → Prop} (K : Cx p (rmX 2 40) s m args meth c cB_inputAt 6 "WordChecker$Book" gT D cls8 (tys5 cI cJ cC cZ cR) 64 ad A (ZX A kd sd vd kA lA wA)) (hr : meth.sig.returnType = (some .int)) (hZ : ZsOK A (ZX A kd sd vd kA lA wA)) {Φ : Int32 → HI → HL → Prop} {n : Nat} {v1 : Int32} {v2 : Int32} {v3 : Int32} {v4 : Int32} {hi : HI} {hl : HL} {H : Heap} {locs : List Loc} (h : wbB_inputAt_10 n v1 v2 v3 v4 hi hl Φ) {ls : Array Slot} (hL : lv_has ls 6 [(0, .ref (ad 5)), (1, .int v1), (2, .int v2), (3, .int v3), (4, .int v4)]) (hP : va_P D cls8 (wl 64 ad (GX cI cJ cC cZ cR ad kd) hi hl) H) (hS : va_S A s.heap H locs) : W p l e (rmX 2 40) s m args below meth c H locs 0 0 (MQ below (va_Qi (fun r (u : HI × HL) => Φ r u.1 u.2) (fun u t => va_P D cls8 (wl 64 ad (GX cI cJ cC cZ cR ad kd) u.1 u.2) t.heap) A) args s 0 0 A) (F0 m 10 ls []) := by
  induction n generalizing v1 v2 v3 v4 hi hl ls H locs with
  | zero => exact False.elim h
  | succ n ih =>
    unfold wbB_inputAt_10 at h
    refine lv_iload K.1 K.2.1 dB_inputAt_10 (lv_at hL 4 rfl) ?_
    refine lv_aload_n K.1 K.2.1 dB_inputAt_12 rfl (lv_at hL 0 rfl) ?_
    refine x_get (v := .int (hi 5 2)) K hP hinB (ci := 2) rfl 5 (by decide) rfl 2 (by decide) flB_37 rfl rfl dB_inputAt_13 ?_
    refine lv_icmp_ge (tgt := 85) K.1 K.2.1 dB_inputAt_16 rfl (fun hc => ?_) (fun hc => ?_)
    · have h := h.1 hc
      refine lv_iload_n K.1 K.2.1 dB_inputAt_85 rfl (lv_at hL 2 rfl) ?_
      exact x_iret K hr hP hS h dB_inputAt_86
    · have h := h.2 hc
      refine lv_aload_n K.1 K.2.1 dB_inputAt_19 rfl (lv_at hL 0 rfl) ?_
      refine x_get (v := .ref (ad 6)) K hP hinB (ci := 2) rfl 5 (by decide) rfl 0 (by decide) flB_11 rfl rfl dB_inputAt_20 ?_
      refine lv_iload K.1 K.2.1 dB_inputAt_23 (lv_at hL 4 rfl) ?_
      obtain ⟨g1, h⟩ := h
      refine x_aald K hP 6 (by decide) 4 rfl rfl g1 (q := ad (24 + (v4.toNatClampNeg))) rfl dB_inputAt_25 ?_
      refine x_getN (v := va_rf (kOf kd (hi (24 + (v4.toNatClampNeg)) 1))) K hP hinL (ci := 6) rfl (24 + (v4.toNatClampNeg)) (lt_l (in_lt g1)) (GX_line _ (in_lt g1) _ _) 1 (by decide) (fnB_48 K.2.2.2.2.2.2.2.2) rfl rfl dB_inputAt_26 ?_
      refine x_gets (v := .ref (kd ((1 : Int32).toNatClampNeg))) K hS (K.2.2.2.2.2.2.2.2.2.2.1 1 (by decide)).1 flB_172 dB_inputAt_29 ?_
      obtain ⟨g2, h⟩ := h
      obtain ⟨g3, h⟩ := h
      rw [kOf_in g2]
      refine x_acne (x := (hi (24 + (v4.toNatClampNeg)) 1)) (y := (1 : Int32)) (tgt := 79) K g2 g3 dB_inputAt_32 rfl (fun hc => ?_) (fun hc => ?_)
      · have h := h.2 hc
        exact bB_inputAt_79 K hr hZ (fun v1 v2 v3 v4 hi hl ls H locs h hL hP hS => ih h hL hP hS) h (lv_sub hL [0, 1, 2, 3, 4] rfl) hP hS
      · have h := h.1 hc
        refine lv_aload_n K.1 K.2.1 dB_inputAt_35 rfl (lv_at hL 0 rfl) ?_
        refine x_get (v := .ref (ad 6)) K hP hinB (ci := 2) rfl 5 (by decide) rfl 0 (by decide) flB_11 rfl rfl dB_inputAt_36 ?_
        refine lv_iload K.1 K.2.1 dB_inputAt_39 (lv_at hL 4 rfl) ?_
        obtain ⟨g4, h⟩ := h
        refine x_aald K hP 6 (by decide) 4 rfl rfl g4 (q := ad (24 + (v4.toNatClampNeg))) rfl dB_inputAt_41 ?_
        refine x_getN (v := .int (hi (24 + (v4.toNatClampNeg)) 2)) K hP hinL (ci := 6) rfl (24 + (v4.toNatClampNeg)) (lt_l (in_lt g4)) (GX_line _ (in_lt g4) _ _) 2 (by decide) (fnB_61 K.2.2.2.2.2.2.2.2) rfl rfl dB_inputAt_42 ?_
        refine x_cSNI (As := [.int (hi (24 + (v4.toNatClampNeg)) 2)]) (rest := []) K gT_good hZ hP hS calC_bitsOf (mnB_132 K.2.2.2.2.2.2.2.2) (mC_bitsOf hZ K.2.2.2.2.2.2.2.1 h) ⟨Nat.le_of_ble_eq_true rfl, Nat.le_of_ble_eq_true rfl⟩ rfl hL.1 rfl (Nat.le_of_ble_eq_true rfl) dB_inputAt_45 (fun r5 hi6 hl7 H locs h hP hS => ?_)
        refine lv_istore (lv' := [(5, .int r5), (0, .ref (ad 5)), (1, .int v1), (2, .int v2), (3, .int v3), (4, .int v4)]) K.1 K.2.1 dB_inputAt_48 hL (by decide) rfl (fun ls hL => ?_)
        refine lv_iload_n K.1 K.2.1 dB_inputAt_50 rfl (lv_at hL 4 rfl) ?_
        refine lv_iload K.1 K.2.1 dB_inputAt_51 (lv_at hL 0 rfl) ?_
        refine lv_isub K.1 K.2.1 dB_inputAt_53 ?_
        refine lv_istore_n (lv' := [(3, .int (v3 - r5)), (5, .int r5), (0, .ref (ad 5)), (1, .int v1), (2, .int v2), (4, .int v4)]) K.1 K.2.1 dB_inputAt_54 rfl hL (by decide) rfl (fun ls hL => ?_)
        refine lv_iload_n K.1 K.2.1 dB_inputAt_55 rfl (lv_at hL 4 rfl) ?_
        refine lv_iload_n K.1 K.2.1 dB_inputAt_56 rfl (lv_at hL 3 rfl) ?_
        refine lv_iload_n K.1 K.2.1 dB_inputAt_57 rfl (lv_at hL 0 rfl) ?_
        refine lv_iushr K.1 K.2.1 dB_inputAt_58 rfl ?_
        refine lv_iconst (v := 1) K.1 K.2.1 dB_inputAt_59 (by decide) ?_
        refine lv_iload K.1 K.2.1 dB_inputAt_60 (lv_at hL 1 rfl) ?_
        refine lv_ishl K.1 K.2.1 dB_inputAt_62 ?_
        refine lv_iconst (v := 1) K.1 K.2.1 dB_inputAt_63 (by decide) ?_
        refine lv_isub K.1 K.2.1 dB_inputAt_64 ?_
        refine lv_iand K.1 K.2.1 dB_inputAt_65 ?_
        refine lv_aload_n K.1 K.2.1 dB_inputAt_66 rfl (lv_at hL 2 rfl) ?_
        refine x_get (v := .ref (ad 6)) K hP hinB (ci := 2) rfl 5 (by decide) rfl 0 (by decide) flB_11 rfl rfl dB_inputAt_67 ?_
        refine lv_iload K.1 K.2.1 dB_inputAt_70 (lv_at hL 5 rfl) ?_
        obtain ⟨g8, h⟩ := h
        refine x_aald K hP 6 (by decide) 4 rfl rfl g8 (q := ad (24 + (v4.toNatClampNeg))) rfl dB_inputAt_72 ?_
        refine x_getN (v := .int (hi6 (24 + (v4.toNatClampNeg)) 4)) K hP hinL (ci := 6) rfl (24 + (v4.toNatClampNeg)) (lt_l (in_lt g8)) (GX_line _ (in_lt g8) _ _) 4 (by decide) (fnB_129 K.2.2.2.2.2.2.2.2) rfl rfl dB_inputAt_73 ?_
        refine lv_ishl K.1 K.2.1 dB_inputAt_76 ?_
        refine lv_ior K.1 K.2.1 dB_inputAt_77 ?_
        refine lv_istore_n (lv' := [(2, .int (v2 ||| ((((v1.toUInt32 >>> ((v3 - r5).toUInt32 &&& Int32.toUInt32 31)).toInt32) &&& (((1 : Int32) <<< (r5 &&& 31)) - (1 : Int32))) <<< ((hi6 (24 + (v4.toNatClampNeg)) 4) &&& 31)))), (3, .int (v3 - r5)), (5, .int r5), (0, .ref (ad 5)), (1, .int v1), (4, .int v4)]) K.1 K.2.1 dB_inputAt_78 rfl hL (by decide) rfl (fun ls hL => ?_)
        exact bB_inputAt_79 K hr hZ (fun v1 v2 v3 v4 hi hl ls H locs h hL hP hS => ih h hL hP hS) h (lv_sub hL [3, 4, 0, 1, 5] rfl) hP hS
set_option maxRecDepth 100000 in
set_option maxHeartbeats 4000000 in
theorem bB_inputAt_0 {p : Program} {l : Launch} {e : Env} {s : State} {m : MethodId} {args : Array Value} {below : List Frame} {meth : Method} {c : Code} {D : va_G} {cI cJ cC cZ cR : ClassId} {ad kd sd vd : Nat → Nat} {kA lA wA : Nat} {A : Nat → Prop} (K : Cx p (rmX 2 40) s m args meth c cB_inputAt 6 "WordChecker$Book" gT D cls8 (tys5 cI cJ cC cZ cR) 64 ad A (ZX A kd sd vd kA lA wA)) (hr : meth.sig.returnType = (some .int)) (hZ : ZsOK A (ZX A kd sd vd kA lA wA)) {Φ : Int32 → HI → HL → Prop} {v1 : Int32} {hi : HI} {hl : HL} {H : Heap} {locs : List Loc} (h : wbB_inputAt_0 v1 hi hl Φ) {ls : Array Slot} (hL : lv_has ls 6 [(0, .ref (ad 5)), (1, .int v1)]) (hP : va_P D cls8 (wl 64 ad (GX cI cJ cC cZ cR ad kd) hi hl) H) (hS : va_S A s.heap H locs) : W p l e (rmX 2 40) s m args below meth c H locs 0 0 (MQ below (va_Qi (fun r (u : HI × HL) => Φ r u.1 u.2) (fun u t => va_P D cls8 (wl 64 ad (GX cI cJ cC cZ cR ad kd) u.1 u.2) t.heap) A) args s 0 0 A) (F0 m 0 ls []) := by
  unfold wbB_inputAt_0 at h
  refine lv_iconst (v := 0) K.1 K.2.1 dB_inputAt_0 (by decide) ?_
  refine lv_istore_n (lv' := [(2, .int (0 : Int32)), (0, .ref (ad 5)), (1, .int v1)]) K.1 K.2.1 dB_inputAt_1 rfl hL (by decide) rfl (fun ls hL => ?_)
  refine lv_aload_n K.1 K.2.1 dB_inputAt_2 rfl (lv_at hL 1 rfl) ?_
  refine x_get (v := .int (hi 5 3)) K hP hinB (ci := 2) rfl 5 (by decide) rfl 3 (by decide) flB_126 rfl rfl dB_inputAt_3 ?_
  refine lv_istore_n (lv' := [(3, .int (hi 5 3)), (2, .int (0 : Int32)), (0, .ref (ad 5)), (1, .int v1)]) K.1 K.2.1 dB_inputAt_6 rfl hL (by decide) rfl (fun ls hL => ?_)
  refine lv_iconst (v := 0) K.1 K.2.1 dB_inputAt_7 (by decide) ?_
  refine lv_istore (lv' := [(4, .int (0 : Int32)), (3, .int (hi 5 3)), (2, .int (0 : Int32)), (0, .ref (ad 5)), (1, .int v1)]) K.1 K.2.1 dB_inputAt_8 hL (by decide) rfl (fun ls hL => ?_)
  obtain ⟨fu, h⟩ := h
  exact bB_inputAt_10 K hr hZ h (lv_sub hL [3, 4, 2, 1, 0] rfl) hP hS
set_option maxRecDepth 100000 in
set_option maxHeartbeats 4000000 in
theorem mB_inputAt {l : Launch} {D : va_G} {cI cJ cC cZ cR : ClassId} {ad kd sd vd : Nat → Nat} {kA lA wA : Nat} {A : Nat → Prop} (hZ : ZsOK A (ZX A kd sd vd kA lA wA)) (hD : wlD 64 ad A) {v1 : Int32} {hi : HI} {hl : HL} {Φ : Int32 → HI → HL → Prop} (h : wpB_inputAt v1 hi hl Φ) : SpI l yB_inputAt cB_inputAt 6 (some .int) gT 2 40 [.ref (ad 5), .int v1] D cls8 (tys5 cI cJ cC cZ cR) 64 ad (GX cI cJ cC cZ cR ad kd) A (ZX A kd sd vd kA lA wA) hi hl Φ := by
  refine Met.ofW (cc := cB_inputAt) (maxL := 6) (ret := (some .int)) (by decide) rfl ?_
  intro p e s m args below meth c s₁ B hml hv
  obtain ⟨rfl, hP, hK, hZs⟩ := hv
  have K : Cx p (rmX 2 40) s m _ meth c cB_inputAt 6 "WordChecker$Book" gT D cls8 (tys5 cI cJ cC cZ cR) 64 ad A (ZX A kd sd vd kA lA wA) := ⟨B.exec, B.bytes, hml, findClass_of_methodNamed B.named, fun w hw => atoms_spec B.pre w (List.mem_cons_of_mem _ hw), B.notSynchronized, hK, hD, hZs⟩
  have hL := lv_entry ([.ref (ad 5), .int v1]) (n := 6) (Nat.le_of_ble_eq_true rfl)
  rw [lg_entry_eq]
  generalize (lg_sl ([.ref (ad 5), .int v1]) ++ List.replicate (6 - (lg_sl ([.ref (ad 5), .int v1])).length) Slot.unset).toArray = ls at hL ⊢
  have hL : lv_has ls 6 [(0, .ref (ad 5)), (1, .int v1)] := hL
  unfold wpB_inputAt at h
  exact bB_inputAt_0 K B.returns hZ h (lv_sub hL [0, 1] rfl) hP va_S.rf
set_option maxRecDepth 100000 in
set_option maxHeartbeats 4000000 in
theorem bS_leastInput_2 {p : Program} {l : Launch} {e : Env} {s : State} {m : MethodId} {args : Array Value} {below : List Frame} {meth : Method} {c : Code} {D : va_G} {cI cJ cC cZ cR : ClassId} {ad kd sd vd : Nat → Nat} {kA lA wA : Nat} {A : Nat → Prop} (K : Cx p (rmX 3 69) s m args meth c cS_leastInput 5 "WordChecker$Search" gT D cls8 (tys5 cI cJ cC cZ cR) 64 ad A (ZX A kd sd vd kA lA wA)) (hr : meth.sig.returnType = (some .int)) (hZ : ZsOK A (ZX A kd sd vd kA lA wA)) {Φ : Int32 → HI → HL → Prop} {n : Nat} {v1 : Int32} {v2 : Int32} {v3 : Int32} {hi : HI} {hl : HL} {H : Heap} {locs : List Loc} (h : wbS_leastInput_2 n v1 v2 v3 hi hl Φ) {ls : Array Slot} (hL : lv_has ls 5 [(0, .ref (ad 20)), (1, .int v1), (2, .int v2), (3, .int v3)]) (hP : va_P D cls8 (wl 64 ad (GX cI cJ cC cZ cR ad kd) hi hl) H) (hS : va_S A s.heap H locs) : W p l e (rmX 3 69) s m args below meth c H locs 0 0 (MQ below (va_Qi (fun r (u : HI × HL) => Φ r u.1 u.2) (fun u t => va_P D cls8 (wl 64 ad (GX cI cJ cC cZ cR ad kd) u.1 u.2) t.heap) A) args s 0 0 A) (F0 m 2 ls []) := by
  induction n generalizing v1 v2 v3 hi hl ls H locs with
  | zero => exact False.elim h
  | succ n ih =>
    unfold wbS_leastInput_2 at h
    refine lv_iload_n K.1 K.2.1 dS_leastInput_2 rfl (lv_at hL 3 rfl) ?_
    refine lv_iconst (v := 1) K.1 K.2.1 dS_leastInput_3 (by decide) ?_
    refine lv_aload_n K.1 K.2.1 dS_leastInput_4 rfl (lv_at hL 0 rfl) ?_
    refine x_get (v := .ref (ad 5)) K hP hinS (ci := 5) rfl 20 (by decide) rfl 0 (by decide) flS_22 rfl rfl dS_leastInput_5 ?_
    refine x_getN (v := .int (hi 5 3)) K hP hinB (ci := 2) rfl 5 (by decide) rfl 3 (by decide) (fnS_54 K.2.2.2.2.2.2.2.2) rfl rfl dS_leastInput_8 ?_
    refine lv_ishl K.1 K.2.1 dS_leastInput_11 ?_
    refine lv_icmp_ge (tgt := 45) K.1 K.2.1 dS_leastInput_12 rfl (fun hc => ?_) (fun hc => ?_)
    · have h := h.1 hc
      refine lv_iconst (v := 0) K.1 K.2.1 dS_leastInput_45 (by decide) ?_
      exact x_iret K hr hP hS h dS_leastInput_46
    · have h := h.2 hc
      refine lv_aload_n K.1 K.2.1 dS_leastInput_15 rfl (lv_at hL 0 rfl) ?_
      refine x_get (v := .ref (ad 5)) K hP hinS (ci := 5) rfl 20 (by decide) rfl 0 (by decide) flS_22 rfl rfl dS_leastInput_16 ?_
      refine lv_iload_n K.1 K.2.1 dS_leastInput_19 rfl (lv_at hL 3 rfl) ?_
      refine x_cVI (As := [.int v3]) (rest := []) K gT_good hZ hP hS calB_inputAt mlS_78 5 (by decide) rfl rfl (mB_inputAt hZ K.2.2.2.2.2.2.2.1 h) ⟨Nat.le_of_ble_eq_true rfl, Nat.le_of_ble_eq_true rfl⟩ rfl hL.1 rfl (Nat.le_of_ble_eq_true rfl) dS_leastInput_20 (fun r1 hi2 hl3 H locs h hP hS => ?_)
      refine lv_istore (lv' := [(4, .int r1), (0, .ref (ad 20)), (1, .int v1), (2, .int v2), (3, .int v3)]) K.1 K.2.1 dS_leastInput_23 hL (by decide) rfl (fun ls hL => ?_)
      refine lv_aload_n K.1 K.2.1 dS_leastInput_25 rfl (lv_at hL 1 rfl) ?_
      refine lv_iload_n K.1 K.2.1 dS_leastInput_26 rfl (lv_at hL 2 rfl) ?_
      refine lv_iload K.1 K.2.1 dS_leastInput_27 (lv_at hL 0 rfl) ?_
      refine lv_iload_n K.1 K.2.1 dS_leastInput_29 rfl (lv_at hL 3 rfl) ?_
      refine x_cVI (As := [.int v1, .int r1, .int v2]) (rest := []) K gT_good hZ hP hS calS_leads mlS_57 20 (by decide) rfl rfl (mS_leads hZ K.2.2.2.2.2.2.2.1 h) ⟨Nat.le_of_ble_eq_true rfl, Nat.le_of_ble_eq_true rfl⟩ rfl hL.1 rfl (Nat.le_of_ble_eq_true rfl) dS_leastInput_30 (fun r4 hi5 hl6 H locs h hP hS => ?_)
      refine lv_if_eq (tgt := 39) K.1 K.2.1 dS_leastInput_33 rfl (fun hc => ?_) (fun hc => ?_)
      · have h := h.1 hc
        refine lv_iinc (k := 4) (lv' := [(3, .int (v3 + Int32.ofInt (1))), (4, .int r1), (0, .ref (ad 20)), (1, .int v1), (2, .int v2)]) K.1 K.2.1 dS_leastInput_39 hL rfl rfl (by decide) rfl (fun ls hL => ?_)
        refine lv_goto (tgt := 2) K.1 K.2.1 dS_leastInput_42 rfl ?_
        exact ih h (lv_sub hL [2, 3, 4, 0] rfl) hP hS
      · have h := h.2 hc
        refine lv_iload K.1 K.2.1 dS_leastInput_36 (lv_at hL 0 rfl) ?_
        exact x_iret K hr hP hS h dS_leastInput_38
set_option maxRecDepth 100000 in
set_option maxHeartbeats 4000000 in
theorem bS_leastInput_0 {p : Program} {l : Launch} {e : Env} {s : State} {m : MethodId} {args : Array Value} {below : List Frame} {meth : Method} {c : Code} {D : va_G} {cI cJ cC cZ cR : ClassId} {ad kd sd vd : Nat → Nat} {kA lA wA : Nat} {A : Nat → Prop} (K : Cx p (rmX 3 69) s m args meth c cS_leastInput 5 "WordChecker$Search" gT D cls8 (tys5 cI cJ cC cZ cR) 64 ad A (ZX A kd sd vd kA lA wA)) (hr : meth.sig.returnType = (some .int)) (hZ : ZsOK A (ZX A kd sd vd kA lA wA)) {Φ : Int32 → HI → HL → Prop} {v1 : Int32} {v2 : Int32} {hi : HI} {hl : HL} {H : Heap} {locs : List Loc} (h : wbS_leastInput_0 v1 v2 hi hl Φ) {ls : Array Slot} (hL : lv_has ls 5 [(0, .ref (ad 20)), (1, .int v1), (2, .int v2)]) (hP : va_P D cls8 (wl 64 ad (GX cI cJ cC cZ cR ad kd) hi hl) H) (hS : va_S A s.heap H locs) : W p l e (rmX 3 69) s m args below meth c H locs 0 0 (MQ below (va_Qi (fun r (u : HI × HL) => Φ r u.1 u.2) (fun u t => va_P D cls8 (wl 64 ad (GX cI cJ cC cZ cR ad kd) u.1 u.2) t.heap) A) args s 0 0 A) (F0 m 0 ls []) := by
  unfold wbS_leastInput_0 at h
  refine lv_iconst (v := 0) K.1 K.2.1 dS_leastInput_0 (by decide) ?_
  refine lv_istore_n (lv' := [(3, .int (0 : Int32)), (0, .ref (ad 20)), (1, .int v1), (2, .int v2)]) K.1 K.2.1 dS_leastInput_1 rfl hL (by decide) rfl (fun ls hL => ?_)
  obtain ⟨fu, h⟩ := h
  exact bS_leastInput_2 K hr hZ h (lv_sub hL [1, 2, 3, 0] rfl) hP hS
set_option maxRecDepth 100000 in
set_option maxHeartbeats 4000000 in
theorem mS_leastInput {l : Launch} {D : va_G} {cI cJ cC cZ cR : ClassId} {ad kd sd vd : Nat → Nat} {kA lA wA : Nat} {A : Nat → Prop} (hZ : ZsOK A (ZX A kd sd vd kA lA wA)) (hD : wlD 64 ad A) {v1 : Int32} {v2 : Int32} {hi : HI} {hl : HL} {Φ : Int32 → HI → HL → Prop} (h : wpS_leastInput v1 v2 hi hl Φ) : SpI l yS_leastInput cS_leastInput 5 (some .int) gT 3 69 [.ref (ad 20), .int v1, .int v2] D cls8 (tys5 cI cJ cC cZ cR) 64 ad (GX cI cJ cC cZ cR ad kd) A (ZX A kd sd vd kA lA wA) hi hl Φ := by
  refine Met.ofW (cc := cS_leastInput) (maxL := 5) (ret := (some .int)) (by decide) rfl ?_
  intro p e s m args below meth c s₁ B hml hv
  obtain ⟨rfl, hP, hK, hZs⟩ := hv
  have K : Cx p (rmX 3 69) s m _ meth c cS_leastInput 5 "WordChecker$Search" gT D cls8 (tys5 cI cJ cC cZ cR) 64 ad A (ZX A kd sd vd kA lA wA) := ⟨B.exec, B.bytes, hml, findClass_of_methodNamed B.named, fun w hw => atoms_spec B.pre w (List.mem_cons_of_mem _ hw), B.notSynchronized, hK, hD, hZs⟩
  have hL := lv_entry ([.ref (ad 20), .int v1, .int v2]) (n := 5) (Nat.le_of_ble_eq_true rfl)
  rw [lg_entry_eq]
  generalize (lg_sl ([.ref (ad 20), .int v1, .int v2]) ++ List.replicate (5 - (lg_sl ([.ref (ad 20), .int v1, .int v2])).length) Slot.unset).toArray = ls at hL ⊢
  have hL : lv_has ls 5 [(0, .ref (ad 20)), (1, .int v1), (2, .int v2)] := hL
  unfold wpS_leastInput at h
  exact bS_leastInput_0 K B.returns hZ h (lv_sub hL [0, 1, 2] rfl) hP va_S.rf
set_option maxRecDepth 100000 in
set_option maxHeartbeats 4000000 in
theorem bS_keep_5 {p : Program} {l : Launch} {e : Env} {s : State} {m : MethodId} {args : Array Value} {below : List Frame} {meth : Method} {c : Code} {D : va_G} {cI cJ cC cZ cR : ClassId} {ad kd sd vd : Nat → Nat} {kA lA wA : Nat} {A : Nat → Prop} (K : Cx p (rmX 4 93) s m args meth c cS_keep 5 "WordChecker$Search" gT D cls8 (tys5 cI cJ cC cZ cR) 64 ad A (ZX A kd sd vd kA lA wA)) (hr : meth.sig.returnType = none) (hZ : ZsOK A (ZX A kd sd vd kA lA wA)) {Φ : HI → HL → Prop} {n : Nat} {v2 : Int32} {v3 : Int32} {v4 : Int32} {hi : HI} {hl : HL} {H : Heap} {locs : List Loc} (h : wbS_keep_5 n v2 v3 v4 hi hl Φ) {ls : Array Slot} (hL : lv_has ls 5 [(0, .ref (ad 20)), (2, .int v2), (3, .int v3), (4, .int v4)]) (hP : va_P D cls8 (wl 64 ad (GX cI cJ cC cZ cR ad kd) hi hl) H) (hS : va_S A s.heap H locs) : W p l e (rmX 4 93) s m args below meth c H locs 0 0 (MQ below (va_Qv (fun (u : HI × HL) => Φ u.1 u.2) (fun u t => va_P D cls8 (wl 64 ad (GX cI cJ cC cZ cR ad kd) u.1 u.2) t.heap) A) args s 0 0 A) (F0 m 5 ls []) := by
  induction n generalizing v2 v3 v4 hi hl ls H locs with
  | zero => exact False.elim h
  | succ n ih =>
    unfold wbS_keep_5 at h
    refine lv_iload K.1 K.2.1 dS_keep_5 (lv_at hL 3 rfl) ?_
    refine lv_iload_n K.1 K.2.1 dS_keep_7 rfl (lv_at hL 1 rfl) ?_
    refine lv_icmp_gt (tgt := 57) K.1 K.2.1 dS_keep_8 rfl (fun hc => ?_) (fun hc => ?_)
    · have h := h.1 hc
      refine lv_aload_n K.1 K.2.1 dS_keep_57 rfl (lv_at hL 0 rfl) ?_
      refine lv_iload_n K.1 K.2.1 dS_keep_58 rfl (lv_at hL 1 rfl) ?_
      refine lv_iconst (v := 1) K.1 K.2.1 dS_keep_59 (by decide) ?_
      refine lv_iadd K.1 K.2.1 dS_keep_60 ?_
      refine x_put (v := .int (v2 + (1 : Int32))) K hP hS hinS tyS tyS_ok nmS (ci := 5) rfl 20 (by decide) rfl 4 (by decide) flS_26 rfl rfl (v2 + (1 : Int32)) rfl rfl rfl (Nat.le_of_ble_eq_true rfl) dS_keep_61 (fun H locs hP hS => ?_)
      exact x_vret K hr hP hS h dS_keep_64
    · have h := h.2 hc
      refine lv_aload_n K.1 K.2.1 dS_keep_11 rfl (lv_at hL 0 rfl) ?_
      refine x_get (v := .ref (ad 22)) K hP hinS (ci := 5) rfl 20 (by decide) rfl 2 (by decide) flS_15 rfl rfl dS_keep_12 ?_
      refine lv_iload K.1 K.2.1 dS_keep_15 (lv_at hL 3 rfl) ?_
      refine lv_iload_n K.1 K.2.1 dS_keep_17 rfl (lv_at hL 2 rfl) ?_
      obtain ⟨g1, h⟩ := h
      refine x_iast K hP hS 22 (by decide) 0 (fun _ => rfl) rfl g1 dS_keep_18 (fun H locs hP hS => ?_)
      refine lv_aload_n K.1 K.2.1 dS_keep_19 rfl (lv_at hL 0 rfl) ?_
      refine x_get (v := .ref (ad 23)) K hP hinS (ci := 5) rfl 20 (by decide) rfl 3 (by decide) flS_19 rfl rfl dS_keep_20 ?_
      refine lv_iload K.1 K.2.1 dS_keep_23 (lv_at hL 3 rfl) ?_
      refine lv_aload_n K.1 K.2.1 dS_keep_25 rfl (lv_at hL 0 rfl) ?_
      refine lv_iload_n K.1 K.2.1 dS_keep_26 rfl (lv_at hL 2 rfl) ?_
      refine lv_iload_n K.1 K.2.1 dS_keep_27 rfl (lv_at hL 1 rfl) ?_
      refine lv_iload K.1 K.2.1 dS_keep_28 (lv_at hL 3 rfl) ?_
      refine lv_isub K.1 K.2.1 dS_keep_30 ?_
      refine x_cVI (As := [.int v3, .int (v2 - v4)]) (rest := [.int v4, .ref (ad 23)]) K gT_good hZ hP hS calS_leastInput mlS_75 20 (by decide) rfl rfl (mS_leastInput hZ K.2.2.2.2.2.2.2.1 h) ⟨Nat.le_of_ble_eq_true rfl, Nat.le_of_ble_eq_true rfl⟩ rfl hL.1 rfl (Nat.le_of_ble_eq_true rfl) dS_keep_31 (fun r2 hi3 hl4 H locs h hP hS => ?_)
      obtain ⟨g5, h⟩ := h
      refine x_iast K hP hS 23 (by decide) 0 (fun _ => rfl) rfl g5 dS_keep_34 (fun H locs hP hS => ?_)
      refine lv_aload_n K.1 K.2.1 dS_keep_35 rfl (lv_at hL 0 rfl) ?_
      refine x_get (v := .ref (ad 5)) K hP hinS (ci := 5) rfl 20 (by decide) rfl 0 (by decide) flS_22 rfl rfl dS_keep_36 ?_
      refine lv_iload_n K.1 K.2.1 dS_keep_39 rfl (lv_at hL 2 rfl) ?_
      refine lv_aload_n K.1 K.2.1 dS_keep_40 rfl (lv_at hL 0 rfl) ?_
      refine x_get (v := .ref (ad 23)) K hP hinS (ci := 5) rfl 20 (by decide) rfl 3 (by decide) flS_19 rfl rfl dS_keep_41 ?_
      refine lv_iload K.1 K.2.1 dS_keep_44 (lv_at hL 3 rfl) ?_
      obtain ⟨g6, h⟩ := h
      refine x_iald K hP 23 (by decide) 0 rfl rfl g6 dS_keep_46 ?_
      refine x_cVI (As := [.int v3, .int ((u2 hi3 23 (v4.toNatClampNeg) r2) 23 (v4.toNatClampNeg))]) (rest := []) K gT_good hZ hP hS calB_after mlS_71 5 (by decide) rfl rfl (mB_after hZ K.2.2.2.2.2.2.2.1 h) ⟨Nat.le_of_ble_eq_true rfl, Nat.le_of_ble_eq_true rfl⟩ rfl hL.1 rfl (Nat.le_of_ble_eq_true rfl) dS_keep_47 (fun r7 hi8 hl9 H locs h hP hS => ?_)
      refine lv_istore_n (lv' := [(3, .int r7), (0, .ref (ad 20)), (2, .int v2), (4, .int v4)]) K.1 K.2.1 dS_keep_50 rfl hL (by decide) rfl (fun ls hL => ?_)
      refine lv_iinc (k := 3) (lv' := [(4, .int (v4 + Int32.ofInt (1))), (3, .int r7), (0, .ref (ad 20)), (2, .int v2)]) K.1 K.2.1 dS_keep_51 hL rfl rfl (by decide) rfl (fun ls hL => ?_)
      refine lv_goto (tgt := 5) K.1 K.2.1 dS_keep_54 rfl ?_
      exact ih h (lv_sub hL [2, 3, 1, 0] rfl) hP hS
set_option maxRecDepth 100000 in
set_option maxHeartbeats 4000000 in
theorem bS_keep_0 {p : Program} {l : Launch} {e : Env} {s : State} {m : MethodId} {args : Array Value} {below : List Frame} {meth : Method} {c : Code} {D : va_G} {cI cJ cC cZ cR : ClassId} {ad kd sd vd : Nat → Nat} {kA lA wA : Nat} {A : Nat → Prop} (K : Cx p (rmX 4 93) s m args meth c cS_keep 5 "WordChecker$Search" gT D cls8 (tys5 cI cJ cC cZ cR) 64 ad A (ZX A kd sd vd kA lA wA)) (hr : meth.sig.returnType = none) (hZ : ZsOK A (ZX A kd sd vd kA lA wA)) {Φ : HI → HL → Prop} {v1 : Int32} {v2 : Int32} {hi : HI} {hl : HL} {H : Heap} {locs : List Loc} (h : wbS_keep_0 v1 v2 hi hl Φ) {ls : Array Slot} (hL : lv_has ls 5 [(0, .ref (ad 20)), (1, .int v1), (2, .int v2)]) (hP : va_P D cls8 (wl 64 ad (GX cI cJ cC cZ cR ad kd) hi hl) H) (hS : va_S A s.heap H locs) : W p l e (rmX 4 93) s m args below meth c H locs 0 0 (MQ below (va_Qv (fun (u : HI × HL) => Φ u.1 u.2) (fun u t => va_P D cls8 (wl 64 ad (GX cI cJ cC cZ cR ad kd) u.1 u.2) t.heap) A) args s 0 0 A) (F0 m 0 ls []) := by
  unfold wbS_keep_0 at h
  refine lv_iload_n K.1 K.2.1 dS_keep_0 rfl (lv_at hL 1 rfl) ?_
  refine lv_istore_n (lv' := [(3, .int v1), (0, .ref (ad 20)), (1, .int v1), (2, .int v2)]) K.1 K.2.1 dS_keep_1 rfl hL (by decide) rfl (fun ls hL => ?_)
  refine lv_iconst (v := 0) K.1 K.2.1 dS_keep_2 (by decide) ?_
  refine lv_istore (lv' := [(4, .int (0 : Int32)), (3, .int v1), (0, .ref (ad 20)), (1, .int v1), (2, .int v2)]) K.1 K.2.1 dS_keep_3 hL (by decide) rfl (fun ls hL => ?_)
  obtain ⟨fu, h⟩ := h
  exact bS_keep_5 K hr hZ h (lv_sub hL [2, 4, 1, 0] rfl) hP hS
set_option maxRecDepth 100000 in
set_option maxHeartbeats 4000000 in
theorem mS_keep {l : Launch} {D : va_G} {cI cJ cC cZ cR : ClassId} {ad kd sd vd : Nat → Nat} {kA lA wA : Nat} {A : Nat → Prop} (hZ : ZsOK A (ZX A kd sd vd kA lA wA)) (hD : wlD 64 ad A) {v1 : Int32} {v2 : Int32} {hi : HI} {hl : HL} {Φ : HI → HL → Prop} (h : wpS_keep v1 v2 hi hl Φ) : SpV l yS_keep cS_keep 5 none gT 4 93 [.ref (ad 20), .int v1, .int v2] D cls8 (tys5 cI cJ cC cZ cR) 64 ad (GX cI cJ cC cZ cR ad kd) A (ZX A kd sd vd kA lA wA) hi hl Φ := by
  refine Met.ofW (cc := cS_keep) (maxL := 5) (ret := none) (by decide) rfl ?_
  intro p e s m args below meth c s₁ B hml hv
  obtain ⟨rfl, hP, hK, hZs⟩ := hv
  have K : Cx p (rmX 4 93) s m _ meth c cS_keep 5 "WordChecker$Search" gT D cls8 (tys5 cI cJ cC cZ cR) 64 ad A (ZX A kd sd vd kA lA wA) := ⟨B.exec, B.bytes, hml, findClass_of_methodNamed B.named, fun w hw => atoms_spec B.pre w (List.mem_cons_of_mem _ hw), B.notSynchronized, hK, hD, hZs⟩
  have hL := lv_entry ([.ref (ad 20), .int v1, .int v2]) (n := 5) (Nat.le_of_ble_eq_true rfl)
  rw [lg_entry_eq]
  generalize (lg_sl ([.ref (ad 20), .int v1, .int v2]) ++ List.replicate (5 - (lg_sl ([.ref (ad 20), .int v1, .int v2])).length) Slot.unset).toArray = ls at hL ⊢
  have hL : lv_has ls 5 [(0, .ref (ad 20)), (1, .int v1), (2, .int v2)] := hL
  unfold wpS_keep at h
  exact bS_keep_0 K B.returns hZ h (lv_sub hL [0, 1, 2] rfl) hP va_S.rf
set_option maxRecDepth 100000 in
set_option maxHeartbeats 4000000 in
theorem bS_leastBad_15 {p : Program} {l : Launch} {e : Env} {s : State} {m : MethodId} {args : Array Value} {below : List Frame} {meth : Method} {c : Code} {D : va_G} {cI cJ cC cZ cR : ClassId} {ad kd sd vd : Nat → Nat} {kA lA wA : Nat} {A : Nat → Prop} (K : Cx p (rmX 5 117) s m args meth c cS_leastBad 5 "WordChecker$Search" gT D cls8 (tys5 cI cJ cC cZ cR) 64 ad A (ZX A kd sd vd kA lA wA)) (hr : meth.sig.returnType = (some .int)) (hZ : ZsOK A (ZX A kd sd vd kA lA wA)) {Φ : Int32 → HI → HL → Prop} {n : Nat} {v1 : Int32} {v2 : Int64} {v4 : Int32} {hi : HI} {hl : HL} {H : Heap} {locs : List Loc} (h : wbS_leastBad_15 n v1 v2 v4 hi hl Φ) {ls : Array Slot} (hL : lv_has ls 5 [(0, .ref (ad 20)), (1, .int v1), (2, .long v2), (4, .int v4)]) (hP : va_P D cls8 (wl 64 ad (GX cI cJ cC cZ cR ad kd) hi hl) H) (hS : va_S A s.heap H locs) : W p l e (rmX 5 117) s m args below meth c H locs 0 0 (MQ below (va_Qi (fun r (u : HI × HL) => Φ r u.1 u.2) (fun u t => va_P D cls8 (wl 64 ad (GX cI cJ cC cZ cR ad kd) u.1 u.2) t.heap) A) args s 0 0 A) (F0 m 15 ls []) := by
  induction n generalizing v1 v2 v4 hi hl ls H locs with
  | zero => exact False.elim h
  | succ n ih =>
    unfold wbS_leastBad_15 at h
    refine lv_iload K.1 K.2.1 dS_leastBad_15 (lv_at hL 3 rfl) ?_
    refine lv_iload_n K.1 K.2.1 dS_leastBad_17 rfl (lv_at hL 1 rfl) ?_
    refine lv_icmp_gt (tgt := 72) K.1 K.2.1 dS_leastBad_18 rfl (fun hc => ?_) (fun hc => ?_)
    · have h := h.1 hc
      refine lv_iconst (v := -1) K.1 K.2.1 dS_leastBad_72 (by decide) ?_
      exact x_iret K hr hP hS h dS_leastBad_73
    · have h := h.2 hc
      refine lv_aload_n K.1 K.2.1 dS_leastBad_21 rfl (lv_at hL 0 rfl) ?_
      refine lv_iload K.1 K.2.1 dS_leastBad_22 (lv_at hL 3 rfl) ?_
      refine x_cVV (As := [.int v4]) (rest := []) K gT_good hZ hP hS calS_gather mlS_39 20 (by decide) rfl rfl (mS_gather hZ K.2.2.2.2.2.2.2.1 h) ⟨Nat.le_of_ble_eq_true rfl, Nat.le_of_ble_eq_true rfl⟩ rfl hL.1 rfl (Nat.le_of_ble_eq_true rfl) dS_leastBad_24 (fun hi2 hl3 H locs h hP hS => ?_)
      refine lv_lload_n K.1 K.2.1 dS_leastBad_27 rfl (lv_at hL 2 rfl) ?_
      refine lv_aload_n K.1 K.2.1 dS_leastBad_28 rfl (lv_at hL 0 rfl) ?_
      refine x_get (v := .ref (ad 21)) K hP hinS (ci := 5) rfl 20 (by decide) rfl 1 (by decide) flS_9 rfl rfl dS_leastBad_29 ?_
      refine lv_iload K.1 K.2.1 dS_leastBad_32 (lv_at hL 3 rfl) ?_
      obtain ⟨g4, h⟩ := h
      refine x_lald K hP 21 (by decide) 1 rfl rfl g4 dS_leastBad_34 ?_
      refine lv_land K.1 K.2.1 dS_leastBad_35 ?_
      refine lv_lconst (v := 0) K.1 K.2.1 dS_leastBad_36 (by decide) ?_
      refine W.lcmp K.1 K.2.1 dS_leastBad_37 ?_
      refine lv_if_eq (tgt := 66) K.1 K.2.1 dS_leastBad_38 rfl (fun hc => ?_) (fun hc => ?_)
      · have h := h.1 hc
        refine lv_iinc (k := 3) (lv' := [(4, .int (v4 + Int32.ofInt (1))), (0, .ref (ad 20)), (1, .int v1), (2, .long v2)]) K.1 K.2.1 dS_leastBad_66 hL rfl rfl (by decide) rfl (fun ls hL => ?_)
        refine lv_goto (tgt := 15) K.1 K.2.1 dS_leastBad_69 rfl ?_
        exact ih h (lv_sub hL [1, 2, 3, 0] rfl) hP hS
      · have h := h.2 hc
        refine lv_aload_n K.1 K.2.1 dS_leastBad_41 rfl (lv_at hL 0 rfl) ?_
        refine lv_aload_n K.1 K.2.1 dS_leastBad_42 rfl (lv_at hL 0 rfl) ?_
        refine x_get (v := .ref (ad 5)) K hP hinS (ci := 5) rfl 20 (by decide) rfl 0 (by decide) flS_22 rfl rfl dS_leastBad_43 ?_
        refine lv_lload_n K.1 K.2.1 dS_leastBad_46 rfl (lv_at hL 2 rfl) ?_
        refine lv_aload_n K.1 K.2.1 dS_leastBad_47 rfl (lv_at hL 0 rfl) ?_
        refine x_get (v := .ref (ad 21)) K hP hinS (ci := 5) rfl 20 (by decide) rfl 1 (by decide) flS_9 rfl rfl dS_leastBad_48 ?_
        refine lv_iload K.1 K.2.1 dS_leastBad_51 (lv_at hL 3 rfl) ?_
        obtain ⟨g5, h⟩ := h
        refine x_lald K hP 21 (by decide) 1 rfl rfl g5 dS_leastBad_53 ?_
        refine lv_land K.1 K.2.1 dS_leastBad_54 ?_
        refine x_cVI (As := [.long (v2 &&& (hl3 21 (v4.toNatClampNeg)))]) (rest := [.ref (ad 20)]) K gT_good hZ hP hS calB_leastOf mlS_43 5 (by decide) rfl rfl (mB_leastOf hZ K.2.2.2.2.2.2.2.1 h) ⟨Nat.le_of_ble_eq_true rfl, Nat.le_of_ble_eq_true rfl⟩ rfl hL.1 rfl (Nat.le_of_ble_eq_true rfl) dS_leastBad_55 (fun r6 hi7 hl8 H locs h hP hS => ?_)
        refine lv_iload K.1 K.2.1 dS_leastBad_58 (lv_at hL 3 rfl) ?_
        refine x_cVV (As := [.int r6, .int v4]) (rest := []) K gT_good hZ hP hS calS_keep mlS_47 20 (by decide) rfl rfl (mS_keep hZ K.2.2.2.2.2.2.2.1 h) ⟨Nat.le_of_ble_eq_true rfl, Nat.le_of_ble_eq_true rfl⟩ rfl hL.1 rfl (Nat.le_of_ble_eq_true rfl) dS_leastBad_60 (fun hi10 hl11 H locs h hP hS => ?_)
        refine lv_iload K.1 K.2.1 dS_leastBad_63 (lv_at hL 3 rfl) ?_
        exact x_iret K hr hP hS h dS_leastBad_65
set_option maxRecDepth 100000 in
set_option maxHeartbeats 4000000 in
theorem bS_leastBad_0 {p : Program} {l : Launch} {e : Env} {s : State} {m : MethodId} {args : Array Value} {below : List Frame} {meth : Method} {c : Code} {D : va_G} {cI cJ cC cZ cR : ClassId} {ad kd sd vd : Nat → Nat} {kA lA wA : Nat} {A : Nat → Prop} (K : Cx p (rmX 5 117) s m args meth c cS_leastBad 5 "WordChecker$Search" gT D cls8 (tys5 cI cJ cC cZ cR) 64 ad A (ZX A kd sd vd kA lA wA)) (hr : meth.sig.returnType = (some .int)) (hZ : ZsOK A (ZX A kd sd vd kA lA wA)) {Φ : Int32 → HI → HL → Prop} {v1 : Int32} {hi : HI} {hl : HL} {H : Heap} {locs : List Loc} (h : wbS_leastBad_0 v1 hi hl Φ) {ls : Array Slot} (hL : lv_has ls 5 [(0, .ref (ad 20)), (1, .int v1)]) (hP : va_P D cls8 (wl 64 ad (GX cI cJ cC cZ cR ad kd) hi hl) H) (hS : va_S A s.heap H locs) : W p l e (rmX 5 117) s m args below meth c H locs 0 0 (MQ below (va_Qi (fun r (u : HI × HL) => Φ r u.1 u.2) (fun u t => va_P D cls8 (wl 64 ad (GX cI cJ cC cZ cR ad kd) u.1 u.2) t.heap) A) args s 0 0 A) (F0 m 0 ls []) := by
  unfold wbS_leastBad_0 at h
  refine lv_aload_n K.1 K.2.1 dS_leastBad_0 rfl (lv_at hL 0 rfl) ?_
  refine x_cVV (As := []) (rest := []) K gT_good hZ hP hS calS_drop mlS_30 20 (by decide) rfl rfl (mS_drop hZ K.2.2.2.2.2.2.2.1 h) ⟨Nat.le_of_ble_eq_true rfl, Nat.le_of_ble_eq_true rfl⟩ rfl hL.1 rfl (Nat.le_of_ble_eq_true rfl) dS_leastBad_1 (fun hi2 hl3 H locs h hP hS => ?_)
  refine lv_aload_n K.1 K.2.1 dS_leastBad_4 rfl (lv_at hL 0 rfl) ?_
  refine x_get (v := .ref (ad 5)) K hP hinS (ci := 5) rfl 20 (by decide) rfl 0 (by decide) flS_22 rfl rfl dS_leastBad_5 ?_
  refine x_cVJ (As := []) (rest := []) K gT_good hZ hP hS calB_starts mlS_33 5 (by decide) rfl rfl (mB_starts hZ K.2.2.2.2.2.2.2.1 h) ⟨Nat.le_of_ble_eq_true rfl, Nat.le_of_ble_eq_true rfl⟩ rfl hL.1 rfl (Nat.le_of_ble_eq_true rfl) dS_leastBad_8 (fun r4 hi5 hl6 H locs h hP hS => ?_)
  refine lv_lstore_n (lv' := [(2, .long r4), (0, .ref (ad 20)), (1, .int v1)]) K.1 K.2.1 dS_leastBad_11 rfl hL (by decide) rfl (fun ls hL => ?_)
  refine lv_iconst (v := 0) K.1 K.2.1 dS_leastBad_12 (by decide) ?_
  refine lv_istore (lv' := [(4, .int (0 : Int32)), (2, .long r4), (0, .ref (ad 20)), (1, .int v1)]) K.1 K.2.1 dS_leastBad_13 hL (by decide) rfl (fun ls hL => ?_)
  obtain ⟨fu, h⟩ := h
  exact bS_leastBad_15 K hr hZ h (lv_sub hL [2, 3, 1, 0] rfl) hP hS
set_option maxRecDepth 100000 in
set_option maxHeartbeats 4000000 in
theorem mS_leastBad {l : Launch} {D : va_G} {cI cJ cC cZ cR : ClassId} {ad kd sd vd : Nat → Nat} {kA lA wA : Nat} {A : Nat → Prop} (hZ : ZsOK A (ZX A kd sd vd kA lA wA)) (hD : wlD 64 ad A) {v1 : Int32} {hi : HI} {hl : HL} {Φ : Int32 → HI → HL → Prop} (h : wpS_leastBad v1 hi hl Φ) : SpI l yS_leastBad cS_leastBad 5 (some .int) gT 5 117 [.ref (ad 20), .int v1] D cls8 (tys5 cI cJ cC cZ cR) 64 ad (GX cI cJ cC cZ cR ad kd) A (ZX A kd sd vd kA lA wA) hi hl Φ := by
  refine Met.ofW (cc := cS_leastBad) (maxL := 5) (ret := (some .int)) (by decide) rfl ?_
  intro p e s m args below meth c s₁ B hml hv
  obtain ⟨rfl, hP, hK, hZs⟩ := hv
  have K : Cx p (rmX 5 117) s m _ meth c cS_leastBad 5 "WordChecker$Search" gT D cls8 (tys5 cI cJ cC cZ cR) 64 ad A (ZX A kd sd vd kA lA wA) := ⟨B.exec, B.bytes, hml, findClass_of_methodNamed B.named, fun w hw => atoms_spec B.pre w (List.mem_cons_of_mem _ hw), B.notSynchronized, hK, hD, hZs⟩
  have hL := lv_entry ([.ref (ad 20), .int v1]) (n := 5) (Nat.le_of_ble_eq_true rfl)
  rw [lg_entry_eq]
  generalize (lg_sl ([.ref (ad 20), .int v1]) ++ List.replicate (5 - (lg_sl ([.ref (ad 20), .int v1])).length) Slot.unset).toArray = ls at hL ⊢
  have hL : lv_has ls 5 [(0, .ref (ad 20)), (1, .int v1)] := hL
  unfold wpS_leastBad at h
  exact bS_leastBad_0 K B.returns hZ h (lv_sub hL [0, 1] rfl) hP va_S.rf
