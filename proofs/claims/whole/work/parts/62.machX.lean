set_option maxRecDepth 100000 in
set_option maxHeartbeats 4000000 in
theorem bG_widthOf_0 {p : Program} {l : Launch} {e : Env} {s : State} {m : MethodId} {args : Array Value} {below : List Frame} {meth : Method} {c : Code} {D : va_G} {cI cJ cC cZ cR : ClassId} {ad kd sd vd : Nat → Nat} {kA lA wA : Nat} {A : Nat → Prop} (K : Cx p (rmX 2 40) s m args meth c cG_widthOf 3 "WordChecker$Gates" gT D cls8 (tys5 cI cJ cC cZ cR) 64 ad A (ZX A kd sd vd kA lA wA)) (hr : meth.sig.returnType = (some .int)) (hZ : ZsOK A (ZX A kd sd vd kA lA wA)) {Φ : Int32 → HI → HL → Prop} {v1 : Int32} {hi : HI} {hl : HL} {H : Heap} {locs : List Loc} (h : wbG_widthOf_0 v1 hi hl Φ) {ls : Array Slot} (hL : lv_has ls 3 [(0, .ref (ad 10)), (1, .int v1), (2, .ref (ad 6))]) (hP : va_P D cls8 (wl 64 ad (GX cI cJ cC cZ cR ad kd) hi hl) H) (hS : va_S A s.heap H locs) : W p l e (rmX 2 40) s m args below meth c H locs 0 0 (MQ below (va_Qi (fun r (u : HI × HL) => Φ r u.1 u.2) (fun u t => va_P D cls8 (wl 64 ad (GX cI cJ cC cZ cR ad kd) u.1 u.2) t.heap) A) args s 0 0 A) (F0 m 0 ls []) := by
  unfold wbG_widthOf_0 at h
  refine lv_iload_n K.1 K.2.1 dG_widthOf_0 rfl (lv_at hL 1 rfl) ?_
  refine lv_aload_n K.1 K.2.1 dG_widthOf_1 rfl (lv_at hL 0 rfl) ?_
  refine x_getN (v := .int (hi 10 7)) K hP hinD (ci := 3) rfl 10 (by decide) rfl 7 (by decide) (fnG_68 K.2.2.2.2.2.2.2.2) rfl rfl dG_widthOf_2 ?_
  refine lv_icmp_ge (tgt := 25) K.1 K.2.1 dG_widthOf_5 rfl (fun hc => ?_) (fun hc => ?_)
  · have h := h.1 hc
    refine lv_iconst (v := 0) K.1 K.2.1 dG_widthOf_25 (by decide) ?_
    exact x_iret K hr hP hS h dG_widthOf_26
  · have h := h.2 hc
    refine lv_aload_n K.1 K.2.1 dG_widthOf_8 rfl (lv_at hL 2 rfl) ?_
    refine lv_aload_n K.1 K.2.1 dG_widthOf_9 rfl (lv_at hL 0 rfl) ?_
    refine x_getN (v := .ref (ad 11)) K hP hinD (ci := 3) rfl 10 (by decide) rfl 5 (by decide) (fnG_73 K.2.2.2.2.2.2.2.2) rfl rfl dG_widthOf_10 ?_
    refine lv_iload_n K.1 K.2.1 dG_widthOf_13 rfl (lv_at hL 1 rfl) ?_
    obtain ⟨g1, h⟩ := h
    refine x_iald K hP 11 (by decide) 0 rfl rfl g1 dG_widthOf_14 ?_
    obtain ⟨g2, h⟩ := h
    refine x_aald K hP 6 (by decide) 4 rfl rfl g2 (q := ad (24 + ((hi 11 (v1.toNatClampNeg)).toNatClampNeg))) rfl dG_widthOf_15 ?_
    refine x_getN (v := .int (hi (24 + ((hi 11 (v1.toNatClampNeg)).toNatClampNeg)) 2)) K hP hinL (ci := 6) rfl (24 + ((hi 11 (v1.toNatClampNeg)).toNatClampNeg)) (lt_l (in_lt g2)) (GX_line _ (in_lt g2) _ _) 2 (by decide) (fnG_30 K.2.2.2.2.2.2.2.2) rfl rfl dG_widthOf_16 ?_
    refine x_cSNI (As := [.int (hi (24 + ((hi 11 (v1.toNatClampNeg)).toNatClampNeg)) 2)]) (rest := []) K gT_good hZ hP hS calC_bitsOf (mnG_36 K.2.2.2.2.2.2.2.2) (mC_bitsOf hZ K.2.2.2.2.2.2.2.1 h) ⟨Nat.le_of_ble_eq_true rfl, Nat.le_of_ble_eq_true rfl⟩ rfl hL.1 rfl (Nat.le_of_ble_eq_true rfl) dG_widthOf_19 (fun r3 hi4 hl5 H locs h hP hS => ?_)
    refine lv_goto (tgt := 26) K.1 K.2.1 dG_widthOf_22 rfl ?_
    exact x_iret K hr hP hS h dG_widthOf_26
set_option maxRecDepth 100000 in
set_option maxHeartbeats 4000000 in
theorem mG_widthOf {l : Launch} {D : va_G} {cI cJ cC cZ cR : ClassId} {ad kd sd vd : Nat → Nat} {kA lA wA : Nat} {A : Nat → Prop} (hZ : ZsOK A (ZX A kd sd vd kA lA wA)) (hD : wlD 64 ad A) {v1 : Int32} {hi : HI} {hl : HL} {Φ : Int32 → HI → HL → Prop} (h : wpG_widthOf v1 hi hl Φ) : SpI l yG_widthOf cG_widthOf 3 (some .int) gT 2 40 [.ref (ad 10), .int v1, .ref (ad 6)] D cls8 (tys5 cI cJ cC cZ cR) 64 ad (GX cI cJ cC cZ cR ad kd) A (ZX A kd sd vd kA lA wA) hi hl Φ := by
  refine Met.ofW (cc := cG_widthOf) (maxL := 3) (ret := (some .int)) (by decide) rfl ?_
  intro p e s m args below meth c s₁ B hml hv
  obtain ⟨rfl, hP, hK, hZs⟩ := hv
  have K : Cx p (rmX 2 40) s m _ meth c cG_widthOf 3 "WordChecker$Gates" gT D cls8 (tys5 cI cJ cC cZ cR) 64 ad A (ZX A kd sd vd kA lA wA) := ⟨B.exec, B.bytes, hml, findClass_of_methodNamed B.named, fun w hw => atoms_spec B.pre w (List.mem_cons_of_mem _ hw), B.notSynchronized, hK, hD, hZs⟩
  have hL := lv_entry ([.ref (ad 10), .int v1, .ref (ad 6)]) (n := 3) (Nat.le_of_ble_eq_true rfl)
  rw [lg_entry_eq]
  generalize (lg_sl ([.ref (ad 10), .int v1, .ref (ad 6)]) ++ List.replicate (3 - (lg_sl ([.ref (ad 10), .int v1, .ref (ad 6)])).length) Slot.unset).toArray = ls at hL ⊢
  have hL : lv_has ls 3 [(0, .ref (ad 10)), (1, .int v1), (2, .ref (ad 6))] := hL
  unfold wpG_widthOf at h
  exact bG_widthOf_0 K B.returns hZ h (lv_sub hL [0, 1, 2] rfl) hP va_S.rf
set_option maxRecDepth 100000 in
set_option maxHeartbeats 4000000 in
theorem bG_load_66 {p : Program} {l : Launch} {e : Env} {s : State} {m : MethodId} {args : Array Value} {below : List Frame} {meth : Method} {c : Code} {D : va_G} {cI cJ cC cZ cR : ClassId} {ad kd sd vd : Nat → Nat} {kA lA wA : Nat} {A : Nat → Prop} (K : Cx p (rmX 3 62) s m args meth c cG_load 9 "WordChecker$Gates" gT D cls8 (tys5 cI cJ cC cZ cR) 64 ad A (ZX A kd sd vd kA lA wA)) (hr : meth.sig.returnType = none) (hZ : ZsOK A (ZX A kd sd vd kA lA wA)) {Φ : HI → HL → Prop} {k15 : Nat → Int32 → Int32 → Int32 → Int32 → HI → HL → Prop} (hk15 : ∀ (v0 : Nat) (v2 : Int32) (v4 : Int32) (v5 : Int32) (v6 : Int32) (hi : HI) (hl : HL) (ls : Array Slot) (H : Heap) (locs : List Loc), k15 v0 v2 v4 v5 v6 hi hl → v0 < 6 → lv_has ls 9 [(0, .ref (ad (14 + v0))), (1, .ref (ad 10)), (2, .int v2), (3, .ref (ad 6)), (4, .int v4), (5, .int v5), (6, .int v6)] → va_P D cls8 (wl 64 ad (GX cI cJ cC cZ cR ad kd) hi hl) H → va_S A s.heap H locs → W p l e (rmX 3 62) s m args below meth c H locs 0 0 (MQ below (va_Qv (fun (u : HI × HL) => Φ u.1 u.2) (fun u t => va_P D cls8 (wl 64 ad (GX cI cJ cC cZ cR ad kd) u.1 u.2) t.heap) A) args s 0 0 A) (F0 m 15 ls [])) {v0 : Nat} {v2 : Int32} {v4 : Int32} {v5 : Int32} {v6 : Int32} {q0 : Nat} {q1 : Int32} {q2 : Int64} {hi : HI} {hl : HL} {H : Heap} {locs : List Loc} (h : wbG_load_66 k15 v0 v2 v4 v5 v6 q0 q1 q2 hi hl Φ) (hv0 : v0 < 6) (hq0 : q0 < 6) {ls : Array Slot} (hL : lv_has ls 9 [(0, .ref (ad (14 + v0))), (1, .ref (ad 10)), (2, .int v2), (3, .ref (ad 6)), (4, .int v4), (5, .int v5), (6, .int v6)]) (hP : va_P D cls8 (wl 64 ad (GX cI cJ cC cZ cR ad kd) hi hl) H) (hS : va_S A s.heap H locs) : W p l e (rmX 3 62) s m args below meth c H locs 0 0 (MQ below (va_Qv (fun (u : HI × HL) => Φ u.1 u.2) (fun u t => va_P D cls8 (wl 64 ad (GX cI cJ cC cZ cR ad kd) u.1 u.2) t.heap) A) args s 0 0 A) (F0 m 66 ls [.long q2, .int q1, .ref (ad (14 + q0))]) := by
  unfold wbG_load_66 at h
  obtain ⟨g1, h⟩ := h
  refine x_last K hP hS (14 + q0) (lt_g hq0) 1 (fun _ => (GX_garr _ hq0 _ _)) rfl g1 dG_load_66 (fun H locs hP hS => ?_)
  refine lv_iinc (k := 6) (lv' := [(6, .int (v6 + Int32.ofInt (1))), (0, .ref (ad (14 + v0))), (1, .ref (ad 10)), (2, .int v2), (3, .ref (ad 6)), (4, .int v4), (5, .int v5)]) K.1 K.2.1 dG_load_67 hL rfl rfl (by decide) rfl (fun ls hL => ?_)
  refine lv_goto (tgt := 15) K.1 K.2.1 dG_load_70 rfl ?_
  exact hk15 _ _ _ _ _ _ _ _ _ _ h hv0 (lv_sub hL [1, 2, 3, 4, 5, 6, 0] rfl) hP hS
set_option maxRecDepth 100000 in
set_option maxHeartbeats 4000000 in
theorem bG_load_15 {p : Program} {l : Launch} {e : Env} {s : State} {m : MethodId} {args : Array Value} {below : List Frame} {meth : Method} {c : Code} {D : va_G} {cI cJ cC cZ cR : ClassId} {ad kd sd vd : Nat → Nat} {kA lA wA : Nat} {A : Nat → Prop} (K : Cx p (rmX 3 62) s m args meth c cG_load 9 "WordChecker$Gates" gT D cls8 (tys5 cI cJ cC cZ cR) 64 ad A (ZX A kd sd vd kA lA wA)) (hr : meth.sig.returnType = none) (hZ : ZsOK A (ZX A kd sd vd kA lA wA)) {Φ : HI → HL → Prop} {n : Nat} {v0 : Nat} {v2 : Int32} {v4 : Int32} {v5 : Int32} {v6 : Int32} {hi : HI} {hl : HL} {H : Heap} {locs : List Loc} (h : wbG_load_15 n v0 v2 v4 v5 v6 hi hl Φ) (hv0 : v0 < 6) {ls : Array Slot} (hL : lv_has ls 9 [(0, .ref (ad (14 + v0))), (1, .ref (ad 10)), (2, .int v2), (3, .ref (ad 6)), (4, .int v4), (5, .int v5), (6, .int v6)]) (hP : va_P D cls8 (wl 64 ad (GX cI cJ cC cZ cR ad kd) hi hl) H) (hS : va_S A s.heap H locs) : W p l e (rmX 3 62) s m args below meth c H locs 0 0 (MQ below (va_Qv (fun (u : HI × HL) => Φ u.1 u.2) (fun u t => va_P D cls8 (wl 64 ad (GX cI cJ cC cZ cR ad kd) u.1 u.2) t.heap) A) args s 0 0 A) (F0 m 15 ls []) := by
  induction n generalizing v0 v2 v4 v5 v6 hi hl ls H locs with
  | zero => exact False.elim h
  | succ n ih =>
    unfold wbG_load_15 at h
    refine lv_iload K.1 K.2.1 dG_load_15 (lv_at hL 6 rfl) ?_
    refine lv_iload K.1 K.2.1 dG_load_17 (lv_at hL 5 rfl) ?_
    refine lv_icmp_ge (tgt := 73) K.1 K.2.1 dG_load_19 rfl (fun hc => ?_) (fun hc => ?_)
    · have h := h.1 hc
      exact x_vret K hr hP hS h dG_load_73
    · have h := h.2 hc
      refine lv_aload_n K.1 K.2.1 dG_load_22 rfl (lv_at hL 3 rfl) ?_
      refine lv_aload_n K.1 K.2.1 dG_load_23 rfl (lv_at hL 1 rfl) ?_
      refine x_getN (v := .ref (ad 11)) K hP hinD (ci := 3) rfl 10 (by decide) rfl 5 (by decide) (fnG_73 K.2.2.2.2.2.2.2.2) rfl rfl dG_load_24 ?_
      refine lv_iload_n K.1 K.2.1 dG_load_27 rfl (lv_at hL 2 rfl) ?_
      obtain ⟨g1, h⟩ := h
      refine x_iald K hP 11 (by decide) 0 rfl rfl g1 dG_load_28 ?_
      obtain ⟨g2, h⟩ := h
      refine x_aald K hP 6 (by decide) 4 rfl rfl g2 (q := ad (24 + ((hi 11 (v2.toNatClampNeg)).toNatClampNeg))) rfl dG_load_29 ?_
      refine x_getN (v := .ref (ad (44 + ((hi 11 (v2.toNatClampNeg)).toNatClampNeg)))) K hP hinL (ci := 6) rfl (24 + ((hi 11 (v2.toNatClampNeg)).toNatClampNeg)) (lt_l (in_lt g2)) (GX_line _ (in_lt g2) _ _) 7 (by decide) (fnG_65 K.2.2.2.2.2.2.2.2) rfl rfl dG_load_30 ?_
      refine lv_iload K.1 K.2.1 dG_load_33 (lv_at hL 6 rfl) ?_
      refine lv_iconst (v := 4) K.1 K.2.1 dG_load_35 (by decide) ?_
      refine lv_imul K.1 K.2.1 dG_load_36 ?_
      refine lv_iload K.1 K.2.1 dG_load_37 (lv_at hL 4 rfl) ?_
      refine lv_iadd K.1 K.2.1 dG_load_39 ?_
      obtain ⟨g3, h⟩ := h
      refine x_lald K hP (44 + ((hi 11 (v2.toNatClampNeg)).toNatClampNeg)) (lt_l2 (in_lt g2)) 1 (GX_wires _ (in_lt g2) _ _) rfl g3 dG_load_40 ?_
      refine lv_lstore (lv' := [(7, .long (hl (44 + ((hi 11 (v2.toNatClampNeg)).toNatClampNeg)) (((v6 * (4 : Int32)) + v4).toNatClampNeg))), (0, .ref (ad (14 + v0))), (1, .ref (ad 10)), (2, .int v2), (3, .ref (ad 6)), (4, .int v4), (5, .int v5), (6, .int v6)]) K.1 K.2.1 dG_load_41 hL (by decide) rfl (fun ls hL => ?_)
      refine lv_aload_n K.1 K.2.1 dG_load_43 rfl (lv_at hL 1 rfl) ?_
      refine lv_iload K.1 K.2.1 dG_load_44 (lv_at hL 7 rfl) ?_
      refine lv_aload_n K.1 K.2.1 dG_load_46 rfl (lv_at hL 2 rfl) ?_
      refine x_getN (v := .ref (ad 12)) K hP hinD (ci := 3) rfl 10 (by decide) rfl 6 (by decide) (fnG_77 K.2.2.2.2.2.2.2.2) rfl rfl dG_load_47 ?_
      refine lv_iload_n K.1 K.2.1 dG_load_50 rfl (lv_at hL 3 rfl) ?_
      obtain ⟨g4, h⟩ := h
      refine x_zald K hP 12 (by decide) 3 rfl rfl g4 dG_load_51 ?_
      refine lv_if_eq (tgt := 64) K.1 K.2.1 dG_load_52 rfl (fun hc => ?_) (fun hc => ?_)
      · have h := h.1 hc
        refine lv_lload K.1 K.2.1 dG_load_64 (lv_at hL 0 rfl) ?_
        exact bG_load_66 K hr hZ (fun v0 v2 v4 v5 v6 hi hl ls H locs h f0 hL hP hS => ih h f0 hL hP hS) h hv0 hv0 (lv_sub hL [1, 2, 3, 4, 5, 6, 7] rfl) hP hS
      · have h := h.2 hc
        refine lv_lload K.1 K.2.1 dG_load_55 (lv_at hL 0 rfl) ?_
        refine lv_ldc2 (v := -1) K.1 K.2.1 K.2.2.2.1 (K.2.2.2.2.1 _ clG_81) dG_load_57 ?_
        refine lv_lxor K.1 K.2.1 dG_load_60 ?_
        refine lv_goto (tgt := 66) K.1 K.2.1 dG_load_61 rfl ?_
        exact bG_load_66 K hr hZ (fun v0 v2 v4 v5 v6 hi hl ls H locs h f0 hL hP hS => ih h f0 hL hP hS) h hv0 hv0 (lv_sub hL [1, 2, 3, 4, 5, 6, 7] rfl) hP hS
set_option maxRecDepth 100000 in
set_option maxHeartbeats 4000000 in
theorem bG_load_0 {p : Program} {l : Launch} {e : Env} {s : State} {m : MethodId} {args : Array Value} {below : List Frame} {meth : Method} {c : Code} {D : va_G} {cI cJ cC cZ cR : ClassId} {ad kd sd vd : Nat → Nat} {kA lA wA : Nat} {A : Nat → Prop} (K : Cx p (rmX 3 62) s m args meth c cG_load 9 "WordChecker$Gates" gT D cls8 (tys5 cI cJ cC cZ cR) 64 ad A (ZX A kd sd vd kA lA wA)) (hr : meth.sig.returnType = none) (hZ : ZsOK A (ZX A kd sd vd kA lA wA)) {Φ : HI → HL → Prop} {v0 : Nat} {v2 : Int32} {v4 : Int32} {hi : HI} {hl : HL} {H : Heap} {locs : List Loc} (h : wbG_load_0 v0 v2 v4 hi hl Φ) (hv0 : v0 < 6) {ls : Array Slot} (hL : lv_has ls 9 [(0, .ref (ad (14 + v0))), (1, .ref (ad 10)), (2, .int v2), (3, .ref (ad 6)), (4, .int v4)]) (hP : va_P D cls8 (wl 64 ad (GX cI cJ cC cZ cR ad kd) hi hl) H) (hS : va_S A s.heap H locs) : W p l e (rmX 3 62) s m args below meth c H locs 0 0 (MQ below (va_Qv (fun (u : HI × HL) => Φ u.1 u.2) (fun u t => va_P D cls8 (wl 64 ad (GX cI cJ cC cZ cR ad kd) u.1 u.2) t.heap) A) args s 0 0 A) (F0 m 0 ls []) := by
  unfold wbG_load_0 at h
  refine lv_aload_n K.1 K.2.1 dG_load_0 rfl (lv_at hL 0 rfl) ?_
  refine x_cSV (As := [.ref (ad (14 + v0))]) (rest := []) K gT_good hZ hP hS calG_clear mlG_57 (mG_clear hZ K.2.2.2.2.2.2.2.1 hv0 h) ⟨Nat.le_of_ble_eq_true rfl, Nat.le_of_ble_eq_true rfl⟩ rfl hL.1 rfl (Nat.le_of_ble_eq_true rfl) dG_load_1 (fun hi2 hl3 H locs h hP hS => ?_)
  refine lv_aload_n K.1 K.2.1 dG_load_4 rfl (lv_at hL 1 rfl) ?_
  refine lv_iload_n K.1 K.2.1 dG_load_5 rfl (lv_at hL 2 rfl) ?_
  refine lv_aload_n K.1 K.2.1 dG_load_6 rfl (lv_at hL 3 rfl) ?_
  refine x_cSI (As := [.ref (ad 10), .int v2, .ref (ad 6)]) (rest := []) K gT_good hZ hP hS calG_widthOf mlG_43 (mG_widthOf hZ K.2.2.2.2.2.2.2.1 h) ⟨Nat.le_of_ble_eq_true rfl, Nat.le_of_ble_eq_true rfl⟩ rfl hL.1 rfl (Nat.le_of_ble_eq_true rfl) dG_load_7 (fun r4 hi5 hl6 H locs h hP hS => ?_)
  refine lv_istore (lv' := [(5, .int r4), (0, .ref (ad (14 + v0))), (1, .ref (ad 10)), (2, .int v2), (3, .ref (ad 6)), (4, .int v4)]) K.1 K.2.1 dG_load_10 hL (by decide) rfl (fun ls hL => ?_)
  refine lv_iconst (v := 0) K.1 K.2.1 dG_load_12 (by decide) ?_
  refine lv_istore (lv' := [(6, .int (0 : Int32)), (5, .int r4), (0, .ref (ad (14 + v0))), (1, .ref (ad 10)), (2, .int v2), (3, .ref (ad 6)), (4, .int v4)]) K.1 K.2.1 dG_load_13 hL (by decide) rfl (fun ls hL => ?_)
  obtain ⟨fu, h⟩ := h
  exact bG_load_15 K hr hZ h hv0 (lv_sub hL [2, 3, 4, 5, 6, 1, 0] rfl) hP hS
set_option maxRecDepth 100000 in
set_option maxHeartbeats 4000000 in
theorem mG_load {l : Launch} {D : va_G} {cI cJ cC cZ cR : ClassId} {ad kd sd vd : Nat → Nat} {kA lA wA : Nat} {A : Nat → Prop} (hZ : ZsOK A (ZX A kd sd vd kA lA wA)) (hD : wlD 64 ad A) {v0 : Nat} {v2 : Int32} {v4 : Int32} (hv0 : v0 < 6) {hi : HI} {hl : HL} {Φ : HI → HL → Prop} (h : wpG_load v0 v2 v4 hi hl Φ) : SpV l yG_load cG_load 9 none gT 3 62 [.ref (ad (14 + v0)), .ref (ad 10), .int v2, .ref (ad 6), .int v4] D cls8 (tys5 cI cJ cC cZ cR) 64 ad (GX cI cJ cC cZ cR ad kd) A (ZX A kd sd vd kA lA wA) hi hl Φ := by
  refine Met.ofW (cc := cG_load) (maxL := 9) (ret := none) (by decide) rfl ?_
  intro p e s m args below meth c s₁ B hml hv
  obtain ⟨rfl, hP, hK, hZs⟩ := hv
  have K : Cx p (rmX 3 62) s m _ meth c cG_load 9 "WordChecker$Gates" gT D cls8 (tys5 cI cJ cC cZ cR) 64 ad A (ZX A kd sd vd kA lA wA) := ⟨B.exec, B.bytes, hml, findClass_of_methodNamed B.named, fun w hw => atoms_spec B.pre w (List.mem_cons_of_mem _ hw), B.notSynchronized, hK, hD, hZs⟩
  have hL := lv_entry ([.ref (ad (14 + v0)), .ref (ad 10), .int v2, .ref (ad 6), .int v4]) (n := 9) (Nat.le_of_ble_eq_true rfl)
  rw [lg_entry_eq]
  generalize (lg_sl ([.ref (ad (14 + v0)), .ref (ad 10), .int v2, .ref (ad 6), .int v4]) ++ List.replicate (9 - (lg_sl ([.ref (ad (14 + v0)), .ref (ad 10), .int v2, .ref (ad 6), .int v4])).length) Slot.unset).toArray = ls at hL ⊢
  have hL : lv_has ls 9 [(0, .ref (ad (14 + v0))), (1, .ref (ad 10)), (2, .int v2), (3, .ref (ad 6)), (4, .int v4)] := hL
  unfold wpG_load at h
  exact bG_load_0 K B.returns hZ h hv0 (lv_sub hL [0, 1, 2, 3, 4] rfl) hP va_S.rf
set_option maxRecDepth 100000 in
set_option maxHeartbeats 4000000 in
theorem bG_build_91 {p : Program} {l : Launch} {e : Env} {s : State} {m : MethodId} {args : Array Value} {below : List Frame} {meth : Method} {c : Code} {D : va_G} {cI cJ cC cZ cR : ClassId} {ad kd sd vd : Nat → Nat} {kA lA wA : Nat} {A : Nat → Prop} (K : Cx p (rmX 4 125) s m args meth c cG_build 6 "WordChecker$Gates" gT D cls8 (tys5 cI cJ cC cZ cR) 64 ad A (ZX A kd sd vd kA lA wA)) (hr : meth.sig.returnType = none) (hZ : ZsOK A (ZX A kd sd vd kA lA wA)) {Φ : HI → HL → Prop} {k34 : Nat → Int32 → HI → HL → Prop} (hk34 : ∀ (v2 : Nat) (v4 : Int32) (hi : HI) (hl : HL) (ls : Array Slot) (H : Heap) (locs : List Loc), k34 v2 v4 hi hl → v2 < 20 → lv_has ls 6 [(0, .ref (ad 13)), (1, .ref (ad 10)), (2, .ref (ad (24 + v2))), (3, .ref (ad 6)), (4, .int v4)] → va_P D cls8 (wl 64 ad (GX cI cJ cC cZ cR ad kd) hi hl) H → va_S A s.heap H locs → W p l e (rmX 4 125) s m args below meth c H locs 0 0 (MQ below (va_Qv (fun (u : HI × HL) => Φ u.1 u.2) (fun u t => va_P D cls8 (wl 64 ad (GX cI cJ cC cZ cR ad kd) u.1 u.2) t.heap) A) args s 0 0 A) (F0 m 34 ls [])) {n : Nat} {v2 : Nat} {v4 : Int32} {v5 : Int32} {hi : HI} {hl : HL} {H : Heap} {locs : List Loc} (h : wbG_build_91 k34 n v2 v4 v5 hi hl Φ) (hv2 : v2 < 20) {ls : Array Slot} (hL : lv_has ls 6 [(0, .ref (ad 13)), (1, .ref (ad 10)), (2, .ref (ad (24 + v2))), (3, .ref (ad 6)), (4, .int v4), (5, .int v5)]) (hP : va_P D cls8 (wl 64 ad (GX cI cJ cC cZ cR ad kd) hi hl) H) (hS : va_S A s.heap H locs) : W p l e (rmX 4 125) s m args below meth c H locs 0 0 (MQ below (va_Qv (fun (u : HI × HL) => Φ u.1 u.2) (fun u t => va_P D cls8 (wl 64 ad (GX cI cJ cC cZ cR ad kd) u.1 u.2) t.heap) A) args s 0 0 A) (F0 m 91 ls []) := by
  induction n generalizing v2 v4 v5 hi hl ls H locs with
  | zero => exact False.elim h
  | succ n ih =>
    unfold wbG_build_91 at h
    refine lv_iload K.1 K.2.1 dG_build_91 (lv_at hL 5 rfl) ?_
    refine lv_aload_n K.1 K.2.1 dG_build_93 rfl (lv_at hL 0 rfl) ?_
    refine x_get (v := .int (hi 13 6)) K hP hinG (ci := 4) rfl 13 (by decide) rfl 6 (by decide) flG_40 rfl rfl dG_build_94 ?_
    refine lv_icmp_ge (tgt := 125) K.1 K.2.1 dG_build_97 rfl (fun hc => ?_) (fun hc => ?_)
    · have h := h.1 hc
      refine lv_iinc (k := 4) (lv' := [(4, .int (v4 + Int32.ofInt (1))), (0, .ref (ad 13)), (1, .ref (ad 10)), (2, .ref (ad (24 + v2))), (3, .ref (ad 6)), (5, .int v5)]) K.1 K.2.1 dG_build_125 hL rfl rfl (by decide) rfl (fun ls hL => ?_)
      refine lv_goto (tgt := 34) K.1 K.2.1 dG_build_128 rfl ?_
      exact hk34 _ _ _ _ _ _ _ h hv2 (lv_sub hL [1, 2, 3, 4, 0] rfl) hP hS
    · have h := h.2 hc
      refine lv_aload_n K.1 K.2.1 dG_build_100 rfl (lv_at hL 2 rfl) ?_
      refine x_getN (v := .ref (ad (44 + v2))) K hP hinL (ci := 6) rfl (24 + v2) (lt_l hv2) (GX_line _ hv2 _ _) 7 (by decide) (fnG_65 K.2.2.2.2.2.2.2.2) rfl rfl dG_build_101 ?_
      refine lv_iload K.1 K.2.1 dG_build_104 (lv_at hL 5 rfl) ?_
      refine lv_iconst (v := 4) K.1 K.2.1 dG_build_106 (by decide) ?_
      refine lv_imul K.1 K.2.1 dG_build_107 ?_
      refine lv_iload K.1 K.2.1 dG_build_108 (lv_at hL 4 rfl) ?_
      refine lv_iadd K.1 K.2.1 dG_build_110 ?_
      refine lv_aload_n K.1 K.2.1 dG_build_111 rfl (lv_at hL 0 rfl) ?_
      refine x_get (v := .ref (ad 17)) K hP hinG (ci := 4) rfl 13 (by decide) rfl 3 (by decide) flG_21 rfl rfl dG_build_112 ?_
      refine lv_iload K.1 K.2.1 dG_build_115 (lv_at hL 5 rfl) ?_
      obtain ⟨g1, h⟩ := h
      refine x_lald K hP 17 (by decide) 1 rfl rfl g1 dG_build_117 ?_
      obtain ⟨g2, h⟩ := h
      refine x_last K hP hS (44 + v2) (lt_l2 hv2) 1 (fun _ => (GX_wires _ hv2 _ _)) rfl g2 dG_build_118 (fun H locs hP hS => ?_)
      refine lv_iinc (k := 5) (lv' := [(5, .int (v5 + Int32.ofInt (1))), (0, .ref (ad 13)), (1, .ref (ad 10)), (2, .ref (ad (24 + v2))), (3, .ref (ad 6)), (4, .int v4)]) K.1 K.2.1 dG_build_119 hL rfl rfl (by decide) rfl (fun ls hL => ?_)
      refine lv_goto (tgt := 91) K.1 K.2.1 dG_build_122 rfl ?_
      exact ih h hv2 (lv_sub hL [1, 2, 3, 4, 5, 0] rfl) hP hS
set_option maxRecDepth 100000 in
set_option maxHeartbeats 4000000 in
theorem bG_build_34 {p : Program} {l : Launch} {e : Env} {s : State} {m : MethodId} {args : Array Value} {below : List Frame} {meth : Method} {c : Code} {D : va_G} {cI cJ cC cZ cR : ClassId} {ad kd sd vd : Nat → Nat} {kA lA wA : Nat} {A : Nat → Prop} (K : Cx p (rmX 4 125) s m args meth c cG_build 6 "WordChecker$Gates" gT D cls8 (tys5 cI cJ cC cZ cR) 64 ad A (ZX A kd sd vd kA lA wA)) (hr : meth.sig.returnType = none) (hZ : ZsOK A (ZX A kd sd vd kA lA wA)) {Φ : HI → HL → Prop} {n : Nat} {v2 : Nat} {v4 : Int32} {hi : HI} {hl : HL} {H : Heap} {locs : List Loc} (h : wbG_build_34 n v2 v4 hi hl Φ) (hv2 : v2 < 20) {ls : Array Slot} (hL : lv_has ls 6 [(0, .ref (ad 13)), (1, .ref (ad 10)), (2, .ref (ad (24 + v2))), (3, .ref (ad 6)), (4, .int v4)]) (hP : va_P D cls8 (wl 64 ad (GX cI cJ cC cZ cR ad kd) hi hl) H) (hS : va_S A s.heap H locs) : W p l e (rmX 4 125) s m args below meth c H locs 0 0 (MQ below (va_Qv (fun (u : HI × HL) => Φ u.1 u.2) (fun u t => va_P D cls8 (wl 64 ad (GX cI cJ cC cZ cR ad kd) u.1 u.2) t.heap) A) args s 0 0 A) (F0 m 34 ls []) := by
  induction n generalizing v2 v4 hi hl ls H locs with
  | zero => exact False.elim h
  | succ n ih =>
    unfold wbG_build_34 at h
    refine lv_iload K.1 K.2.1 dG_build_34 (lv_at hL 4 rfl) ?_
    refine lv_iconst (v := 4) K.1 K.2.1 dG_build_36 (by decide) ?_
    refine lv_icmp_ge (tgt := 131) K.1 K.2.1 dG_build_37 rfl (fun hc => ?_) (fun hc => ?_)
    · have h := h.1 hc
      exact x_vret K hr hP hS h dG_build_131
    · have h := h.2 hc
      refine lv_aload_n K.1 K.2.1 dG_build_40 rfl (lv_at hL 0 rfl) ?_
      refine x_get (v := .ref (ad 14)) K hP hinG (ci := 4) rfl 13 (by decide) rfl 0 (by decide) flG_9 rfl rfl dG_build_41 ?_
      refine lv_aload_n K.1 K.2.1 dG_build_44 rfl (lv_at hL 1 rfl) ?_
      refine lv_iconst (v := 0) K.1 K.2.1 dG_build_45 (by decide) ?_
      refine lv_aload_n K.1 K.2.1 dG_build_46 rfl (lv_at hL 3 rfl) ?_
      refine lv_iload K.1 K.2.1 dG_build_47 (lv_at hL 4 rfl) ?_
      refine x_cSV (As := [.ref (ad 14), .ref (ad 10), .int (0 : Int32), .ref (ad 6), .int v4]) (rest := []) K gT_good hZ hP hS calG_load mlG_53 (mG_load hZ K.2.2.2.2.2.2.2.1 (by decide) h) ⟨Nat.le_of_ble_eq_true rfl, Nat.le_of_ble_eq_true rfl⟩ rfl hL.1 rfl (Nat.le_of_ble_eq_true rfl) dG_build_49 (fun hi2 hl3 H locs h hP hS => ?_)
      refine lv_aload_n K.1 K.2.1 dG_build_52 rfl (lv_at hL 0 rfl) ?_
      refine x_get (v := .ref (ad 15)) K hP hinG (ci := 4) rfl 13 (by decide) rfl 1 (by decide) flG_15 rfl rfl dG_build_53 ?_
      refine lv_aload_n K.1 K.2.1 dG_build_56 rfl (lv_at hL 1 rfl) ?_
      refine lv_iconst (v := 1) K.1 K.2.1 dG_build_57 (by decide) ?_
      refine lv_aload_n K.1 K.2.1 dG_build_58 rfl (lv_at hL 3 rfl) ?_
      refine lv_iload K.1 K.2.1 dG_build_59 (lv_at hL 4 rfl) ?_
      refine x_cSV (As := [.ref (ad 15), .ref (ad 10), .int (1 : Int32), .ref (ad 6), .int v4]) (rest := []) K gT_good hZ hP hS calG_load mlG_53 (mG_load hZ K.2.2.2.2.2.2.2.1 (by decide) h) ⟨Nat.le_of_ble_eq_true rfl, Nat.le_of_ble_eq_true rfl⟩ rfl hL.1 rfl (Nat.le_of_ble_eq_true rfl) dG_build_61 (fun hi5 hl6 H locs h hP hS => ?_)
      refine lv_aload_n K.1 K.2.1 dG_build_64 rfl (lv_at hL 0 rfl) ?_
      refine x_get (v := .ref (ad 16)) K hP hinG (ci := 4) rfl 13 (by decide) rfl 2 (by decide) flG_18 rfl rfl dG_build_65 ?_
      refine lv_aload_n K.1 K.2.1 dG_build_68 rfl (lv_at hL 1 rfl) ?_
      refine lv_iconst (v := 2) K.1 K.2.1 dG_build_69 (by decide) ?_
      refine lv_aload_n K.1 K.2.1 dG_build_70 rfl (lv_at hL 3 rfl) ?_
      refine lv_iload K.1 K.2.1 dG_build_71 (lv_at hL 4 rfl) ?_
      refine x_cSV (As := [.ref (ad 16), .ref (ad 10), .int (2 : Int32), .ref (ad 6), .int v4]) (rest := []) K gT_good hZ hP hS calG_load mlG_53 (mG_load hZ K.2.2.2.2.2.2.2.1 (by decide) h) ⟨Nat.le_of_ble_eq_true rfl, Nat.le_of_ble_eq_true rfl⟩ rfl hL.1 rfl (Nat.le_of_ble_eq_true rfl) dG_build_73 (fun hi8 hl9 H locs h hP hS => ?_)
      refine lv_aload_n K.1 K.2.1 dG_build_76 rfl (lv_at hL 0 rfl) ?_
      refine x_get (v := .ref (ad 17)) K hP hinG (ci := 4) rfl 13 (by decide) rfl 3 (by decide) flG_21 rfl rfl dG_build_77 ?_
      refine x_cSV (As := [.ref (ad 17)]) (rest := []) K gT_good hZ hP hS calG_clear mlG_57 (mG_clear hZ K.2.2.2.2.2.2.2.1 (by decide) h) ⟨Nat.le_of_ble_eq_true rfl, Nat.le_of_ble_eq_true rfl⟩ rfl hL.1 rfl (Nat.le_of_ble_eq_true rfl) dG_build_80 (fun hi11 hl12 H locs h hP hS => ?_)
      refine lv_aload_n K.1 K.2.1 dG_build_83 rfl (lv_at hL 0 rfl) ?_
      refine lv_aload_n K.1 K.2.1 dG_build_84 rfl (lv_at hL 1 rfl) ?_
      refine x_cVV (As := [.ref (ad 10)]) (rest := []) K gT_good hZ hP hS calG_join mlG_61 13 (by decide) rfl rfl (mG_join hZ K.2.2.2.2.2.2.2.1 h) ⟨Nat.le_of_ble_eq_true rfl, Nat.le_of_ble_eq_true rfl⟩ rfl hL.1 rfl (Nat.le_of_ble_eq_true rfl) dG_build_85 (fun hi14 hl15 H locs h hP hS => ?_)
      refine lv_iconst (v := 0) K.1 K.2.1 dG_build_88 (by decide) ?_
      refine lv_istore (lv' := [(5, .int (0 : Int32)), (0, .ref (ad 13)), (1, .ref (ad 10)), (2, .ref (ad (24 + v2))), (3, .ref (ad 6)), (4, .int v4)]) K.1 K.2.1 dG_build_89 hL (by decide) rfl (fun ls hL => ?_)
      obtain ⟨fu, h⟩ := h
      exact bG_build_91 K hr hZ (fun v2 v4 hi hl ls H locs h f0 hL hP hS => ih h f0 hL hP hS) h hv2 (lv_sub hL [1, 2, 3, 4, 5, 0] rfl) hP hS
set_option maxRecDepth 100000 in
set_option maxHeartbeats 4000000 in
theorem bG_build_0 {p : Program} {l : Launch} {e : Env} {s : State} {m : MethodId} {args : Array Value} {below : List Frame} {meth : Method} {c : Code} {D : va_G} {cI cJ cC cZ cR : ClassId} {ad kd sd vd : Nat → Nat} {kA lA wA : Nat} {A : Nat → Prop} (K : Cx p (rmX 4 125) s m args meth c cG_build 6 "WordChecker$Gates" gT D cls8 (tys5 cI cJ cC cZ cR) 64 ad A (ZX A kd sd vd kA lA wA)) (hr : meth.sig.returnType = none) (hZ : ZsOK A (ZX A kd sd vd kA lA wA)) {Φ : HI → HL → Prop} {v2 : Nat} {hi : HI} {hl : HL} {H : Heap} {locs : List Loc} (h : wbG_build_0 v2 hi hl Φ) (hv2 : v2 < 20) {ls : Array Slot} (hL : lv_has ls 6 [(0, .ref (ad 13)), (1, .ref (ad 10)), (2, .ref (ad (24 + v2))), (3, .ref (ad 6))]) (hP : va_P D cls8 (wl 64 ad (GX cI cJ cC cZ cR ad kd) hi hl) H) (hS : va_S A s.heap H locs) : W p l e (rmX 4 125) s m args below meth c H locs 0 0 (MQ below (va_Qv (fun (u : HI × HL) => Φ u.1 u.2) (fun u t => va_P D cls8 (wl 64 ad (GX cI cJ cC cZ cR ad kd) u.1 u.2) t.heap) A) args s 0 0 A) (F0 m 0 ls []) := by
  unfold wbG_build_0 at h
  refine lv_aload_n K.1 K.2.1 dG_build_0 rfl (lv_at hL 0 rfl) ?_
  refine lv_aload_n K.1 K.2.1 dG_build_1 rfl (lv_at hL 2 rfl) ?_
  refine x_getN (v := .int (hi (24 + v2) 2)) K hP hinL (ci := 6) rfl (24 + v2) (lt_l hv2) (GX_line _ hv2 _ _) 2 (by decide) (fnG_30 K.2.2.2.2.2.2.2.2) rfl rfl dG_build_2 ?_
  refine x_cSNI (As := [.int (hi (24 + v2) 2)]) (rest := [.ref (ad 13)]) K gT_good hZ hP hS calC_bitsOf (mnG_36 K.2.2.2.2.2.2.2.2) (mC_bitsOf hZ K.2.2.2.2.2.2.2.1 h) ⟨Nat.le_of_ble_eq_true rfl, Nat.le_of_ble_eq_true rfl⟩ rfl hL.1 rfl (Nat.le_of_ble_eq_true rfl) dG_build_5 (fun r1 hi2 hl3 H locs h hP hS => ?_)
  refine x_put (v := .int r1) K hP hS hinG tyG tyG_ok nmG (ci := 4) rfl 13 (by decide) rfl 6 (by decide) flG_40 rfl rfl r1 rfl rfl rfl (Nat.le_of_ble_eq_true rfl) dG_build_8 (fun H locs hP hS => ?_)
  refine lv_aload_n K.1 K.2.1 dG_build_11 rfl (lv_at hL 0 rfl) ?_
  refine lv_aload_n K.1 K.2.1 dG_build_12 rfl (lv_at hL 1 rfl) ?_
  refine lv_iconst (v := 0) K.1 K.2.1 dG_build_13 (by decide) ?_
  refine lv_aload_n K.1 K.2.1 dG_build_14 rfl (lv_at hL 3 rfl) ?_
  refine x_cSI (As := [.ref (ad 10), .int (0 : Int32), .ref (ad 6)]) (rest := [.ref (ad 13)]) K gT_good hZ hP hS calG_widthOf mlG_43 (mG_widthOf hZ K.2.2.2.2.2.2.2.1 h) ⟨Nat.le_of_ble_eq_true rfl, Nat.le_of_ble_eq_true rfl⟩ rfl hL.1 rfl (Nat.le_of_ble_eq_true rfl) dG_build_15 (fun r4 hi5 hl6 H locs h hP hS => ?_)
  refine x_put (v := .int r4) K hP hS hinG tyG tyG_ok nmG (ci := 4) rfl 13 (by decide) rfl 7 (by decide) flG_47 rfl rfl r4 rfl rfl rfl (Nat.le_of_ble_eq_true rfl) dG_build_18 (fun H locs hP hS => ?_)
  refine lv_aload_n K.1 K.2.1 dG_build_21 rfl (lv_at hL 0 rfl) ?_
  refine lv_aload_n K.1 K.2.1 dG_build_22 rfl (lv_at hL 1 rfl) ?_
  refine lv_iconst (v := 1) K.1 K.2.1 dG_build_23 (by decide) ?_
  refine lv_aload_n K.1 K.2.1 dG_build_24 rfl (lv_at hL 3 rfl) ?_
  refine x_cSI (As := [.ref (ad 10), .int (1 : Int32), .ref (ad 6)]) (rest := [.ref (ad 13)]) K gT_good hZ hP hS calG_widthOf mlG_43 (mG_widthOf hZ K.2.2.2.2.2.2.2.1 h) ⟨Nat.le_of_ble_eq_true rfl, Nat.le_of_ble_eq_true rfl⟩ rfl hL.1 rfl (Nat.le_of_ble_eq_true rfl) dG_build_25 (fun r7 hi8 hl9 H locs h hP hS => ?_)
  refine x_put (v := .int r7) K hP hS hinG tyG tyG_ok nmG (ci := 4) rfl 13 (by decide) rfl 8 (by decide) flG_50 rfl rfl r7 rfl rfl rfl (Nat.le_of_ble_eq_true rfl) dG_build_28 (fun H locs hP hS => ?_)
  refine lv_iconst (v := 0) K.1 K.2.1 dG_build_31 (by decide) ?_
  refine lv_istore (lv' := [(4, .int (0 : Int32)), (0, .ref (ad 13)), (1, .ref (ad 10)), (2, .ref (ad (24 + v2))), (3, .ref (ad 6))]) K.1 K.2.1 dG_build_32 hL (by decide) rfl (fun ls hL => ?_)
  obtain ⟨fu, h⟩ := h
  exact bG_build_34 K hr hZ h hv2 (lv_sub hL [1, 2, 3, 4, 0] rfl) hP hS
set_option maxRecDepth 100000 in
set_option maxHeartbeats 4000000 in
theorem mG_build {l : Launch} {D : va_G} {cI cJ cC cZ cR : ClassId} {ad kd sd vd : Nat → Nat} {kA lA wA : Nat} {A : Nat → Prop} (hZ : ZsOK A (ZX A kd sd vd kA lA wA)) (hD : wlD 64 ad A) {v2 : Nat} (hv2 : v2 < 20) {hi : HI} {hl : HL} {Φ : HI → HL → Prop} (h : wpG_build v2 hi hl Φ) : SpV l yG_build cG_build 6 none gT 4 125 [.ref (ad 13), .ref (ad 10), .ref (ad (24 + v2)), .ref (ad 6)] D cls8 (tys5 cI cJ cC cZ cR) 64 ad (GX cI cJ cC cZ cR ad kd) A (ZX A kd sd vd kA lA wA) hi hl Φ := by
  refine Met.ofW (cc := cG_build) (maxL := 6) (ret := none) (by decide) rfl ?_
  intro p e s m args below meth c s₁ B hml hv
  obtain ⟨rfl, hP, hK, hZs⟩ := hv
  have K : Cx p (rmX 4 125) s m _ meth c cG_build 6 "WordChecker$Gates" gT D cls8 (tys5 cI cJ cC cZ cR) 64 ad A (ZX A kd sd vd kA lA wA) := ⟨B.exec, B.bytes, hml, findClass_of_methodNamed B.named, fun w hw => atoms_spec B.pre w (List.mem_cons_of_mem _ hw), B.notSynchronized, hK, hD, hZs⟩
  have hL := lv_entry ([.ref (ad 13), .ref (ad 10), .ref (ad (24 + v2)), .ref (ad 6)]) (n := 6) (Nat.le_of_ble_eq_true rfl)
  rw [lg_entry_eq]
  generalize (lg_sl ([.ref (ad 13), .ref (ad 10), .ref (ad (24 + v2)), .ref (ad 6)]) ++ List.replicate (6 - (lg_sl ([.ref (ad 13), .ref (ad 10), .ref (ad (24 + v2)), .ref (ad 6)])).length) Slot.unset).toArray = ls at hL ⊢
  have hL : lv_has ls 6 [(0, .ref (ad 13)), (1, .ref (ad 10)), (2, .ref (ad (24 + v2))), (3, .ref (ad 6))] := hL
  unfold wpG_build at h
  exact bG_build_0 K B.returns hZ h hv2 (lv_sub hL [0, 1, 2, 3] rfl) hP va_S.rf
set_option maxRecDepth 100000 in
set_option maxHeartbeats 4000000 in
theorem bK_isFree_14 {p : Program} {l : Launch} {e : Env} {s : State} {m : MethodId} {args : Array Value} {below : List Frame} {meth : Method} {c : Code} {D : va_G} {cI cJ cC cZ cR : ClassId} {ad kd sd vd : Nat → Nat} {kA lA wA : Nat} {A : Nat → Prop} (K : Cx p (rmX 0 0) s m args meth c cK_isFree 1 "WordChecker$Kind" gT D cls8 (tys5 cI cJ cC cZ cR) 64 ad A (ZX A kd sd vd kA lA wA)) (hr : meth.sig.returnType = (some .boolean)) (hZ : ZsOK A (ZX A kd sd vd kA lA wA)) {Φ : Int32 → HI → HL → Prop} {hi : HI} {hl : HL} {H : Heap} {locs : List Loc} (h : wbK_isFree_14 hi hl Φ) {ls : Array Slot} (hL : lv_has ls 1 []) (hP : va_P D cls8 (wl 64 ad (GX cI cJ cC cZ cR ad kd) hi hl) H) (hS : va_S A s.heap H locs) : W p l e (rmX 0 0) s m args below meth c H locs 0 0 (MQ below (va_Qi (fun r (u : HI × HL) => Φ r u.1 u.2) (fun u t => va_P D cls8 (wl 64 ad (GX cI cJ cC cZ cR ad kd) u.1 u.2) t.heap) A) args s 0 0 A) (F0 m 14 ls []) := by
  unfold wbK_isFree_14 at h
  refine lv_iconst (v := 1) K.1 K.2.1 dK_isFree_14 (by decide) ?_
  refine lv_goto (tgt := 19) K.1 K.2.1 dK_isFree_15 rfl ?_
  obtain ⟨g1, h⟩ := h
  exact x_zret K hr hP hS g1 h dK_isFree_19
set_option maxRecDepth 100000 in
set_option maxHeartbeats 4000000 in
theorem bK_isFree_0 {p : Program} {l : Launch} {e : Env} {s : State} {m : MethodId} {args : Array Value} {below : List Frame} {meth : Method} {c : Code} {D : va_G} {cI cJ cC cZ cR : ClassId} {ad kd sd vd : Nat → Nat} {kA lA wA : Nat} {A : Nat → Prop} (K : Cx p (rmX 0 0) s m args meth c cK_isFree 1 "WordChecker$Kind" gT D cls8 (tys5 cI cJ cC cZ cR) 64 ad A (ZX A kd sd vd kA lA wA)) (hr : meth.sig.returnType = (some .boolean)) (hZ : ZsOK A (ZX A kd sd vd kA lA wA)) {Φ : Int32 → HI → HL → Prop} {v0 : Int32} {hi : HI} {hl : HL} {H : Heap} {locs : List Loc} (h : wbK_isFree_0 v0 hi hl Φ) {ls : Array Slot} (hL : lv_has ls 1 [(0, .ref (kd (v0.toNatClampNeg)))]) (hP : va_P D cls8 (wl 64 ad (GX cI cJ cC cZ cR ad kd) hi hl) H) (hS : va_S A s.heap H locs) : W p l e (rmX 0 0) s m args below meth c H locs 0 0 (MQ below (va_Qi (fun r (u : HI × HL) => Φ r u.1 u.2) (fun u t => va_P D cls8 (wl 64 ad (GX cI cJ cC cZ cR ad kd) u.1 u.2) t.heap) A) args s 0 0 A) (F0 m 0 ls []) := by
  unfold wbK_isFree_0 at h
  refine lv_aload_n K.1 K.2.1 dK_isFree_0 rfl (lv_at hL 0 rfl) ?_
  refine x_gets (v := .ref (kd ((1 : Int32).toNatClampNeg))) K hS (K.2.2.2.2.2.2.2.2.2.2.1 1 (by decide)).1 flK_7 dK_isFree_1 ?_
  obtain ⟨g1, h⟩ := h
  obtain ⟨g2, h⟩ := h
  refine x_aceq (x := v0) (y := (1 : Int32)) (tgt := 14) K g1 g2 dK_isFree_4 rfl (fun hc => ?_) (fun hc => ?_)
  · have h := h.1 hc
    exact bK_isFree_14 K hr hZ h (lv_sub hL [] rfl) hP hS
  · have h := h.2 hc
    refine lv_aload_n K.1 K.2.1 dK_isFree_7 rfl (lv_at hL 0 rfl) ?_
    refine x_gets (v := .ref (kd ((2 : Int32).toNatClampNeg))) K hS (K.2.2.2.2.2.2.2.2.2.2.1 2 (by decide)).1 flK_10 dK_isFree_8 ?_
    obtain ⟨g3, h⟩ := h
    obtain ⟨g4, h⟩ := h
    refine x_acne (x := v0) (y := (2 : Int32)) (tgt := 18) K g3 g4 dK_isFree_11 rfl (fun hc => ?_) (fun hc => ?_)
    · have h := h.2 hc
      refine lv_iconst (v := 0) K.1 K.2.1 dK_isFree_18 (by decide) ?_
      obtain ⟨g5, h⟩ := h
      exact x_zret K hr hP hS g5 h dK_isFree_19
    · have h := h.1 hc
      exact bK_isFree_14 K hr hZ h (lv_sub hL [] rfl) hP hS
set_option maxRecDepth 100000 in
set_option maxHeartbeats 4000000 in
theorem mK_isFree {l : Launch} {D : va_G} {cI cJ cC cZ cR : ClassId} {ad kd sd vd : Nat → Nat} {kA lA wA : Nat} {A : Nat → Prop} (hZ : ZsOK A (ZX A kd sd vd kA lA wA)) (hD : wlD 64 ad A) {v0 : Int32} {hi : HI} {hl : HL} {Φ : Int32 → HI → HL → Prop} (h : wpK_isFree v0 hi hl Φ) : SpI l yK_isFree cK_isFree 1 (some .boolean) gT 0 0 [.ref (kd (v0.toNatClampNeg))] D cls8 (tys5 cI cJ cC cZ cR) 64 ad (GX cI cJ cC cZ cR ad kd) A (ZX A kd sd vd kA lA wA) hi hl Φ := by
  refine Met.ofW (cc := cK_isFree) (maxL := 1) (ret := (some .boolean)) (by decide) rfl ?_
  intro p e s m args below meth c s₁ B hml hv
  obtain ⟨rfl, hP, hK, hZs⟩ := hv
  have K : Cx p (rmX 0 0) s m _ meth c cK_isFree 1 "WordChecker$Kind" gT D cls8 (tys5 cI cJ cC cZ cR) 64 ad A (ZX A kd sd vd kA lA wA) := ⟨B.exec, B.bytes, hml, findClass_of_methodNamed B.named, fun w hw => atoms_spec B.pre w (List.mem_cons_of_mem _ hw), B.notSynchronized, hK, hD, hZs⟩
  have hL := lv_entry ([.ref (kd (v0.toNatClampNeg))]) (n := 1) (Nat.le_of_ble_eq_true rfl)
  rw [lg_entry_eq]
  generalize (lg_sl ([.ref (kd (v0.toNatClampNeg))]) ++ List.replicate (1 - (lg_sl ([.ref (kd (v0.toNatClampNeg))])).length) Slot.unset).toArray = ls at hL ⊢
  have hL : lv_has ls 1 [(0, .ref (kd (v0.toNatClampNeg)))] := hL
  unfold wpK_isFree at h
  exact bK_isFree_0 K B.returns hZ h (lv_sub hL [0] rfl) hP va_S.rf
set_option maxRecDepth 100000 in
set_option maxHeartbeats 4000000 in
theorem bK_isHard_21 {p : Program} {l : Launch} {e : Env} {s : State} {m : MethodId} {args : Array Value} {below : List Frame} {meth : Method} {c : Code} {D : va_G} {cI cJ cC cZ cR : ClassId} {ad kd sd vd : Nat → Nat} {kA lA wA : Nat} {A : Nat → Prop} (K : Cx p (rmX 0 0) s m args meth c cK_isHard 1 "WordChecker$Kind" gT D cls8 (tys5 cI cJ cC cZ cR) 64 ad A (ZX A kd sd vd kA lA wA)) (hr : meth.sig.returnType = (some .boolean)) (hZ : ZsOK A (ZX A kd sd vd kA lA wA)) {Φ : Int32 → HI → HL → Prop} {hi : HI} {hl : HL} {H : Heap} {locs : List Loc} (h : wbK_isHard_21 hi hl Φ) {ls : Array Slot} (hL : lv_has ls 1 []) (hP : va_P D cls8 (wl 64 ad (GX cI cJ cC cZ cR ad kd) hi hl) H) (hS : va_S A s.heap H locs) : W p l e (rmX 0 0) s m args below meth c H locs 0 0 (MQ below (va_Qi (fun r (u : HI × HL) => Φ r u.1 u.2) (fun u t => va_P D cls8 (wl 64 ad (GX cI cJ cC cZ cR ad kd) u.1 u.2) t.heap) A) args s 0 0 A) (F0 m 21 ls []) := by
  unfold wbK_isHard_21 at h
  refine lv_iconst (v := 1) K.1 K.2.1 dK_isHard_21 (by decide) ?_
  refine lv_goto (tgt := 26) K.1 K.2.1 dK_isHard_22 rfl ?_
  obtain ⟨g1, h⟩ := h
  exact x_zret K hr hP hS g1 h dK_isHard_26
set_option maxRecDepth 100000 in
set_option maxHeartbeats 4000000 in
theorem bK_isHard_0 {p : Program} {l : Launch} {e : Env} {s : State} {m : MethodId} {args : Array Value} {below : List Frame} {meth : Method} {c : Code} {D : va_G} {cI cJ cC cZ cR : ClassId} {ad kd sd vd : Nat → Nat} {kA lA wA : Nat} {A : Nat → Prop} (K : Cx p (rmX 0 0) s m args meth c cK_isHard 1 "WordChecker$Kind" gT D cls8 (tys5 cI cJ cC cZ cR) 64 ad A (ZX A kd sd vd kA lA wA)) (hr : meth.sig.returnType = (some .boolean)) (hZ : ZsOK A (ZX A kd sd vd kA lA wA)) {Φ : Int32 → HI → HL → Prop} {v0 : Int32} {hi : HI} {hl : HL} {H : Heap} {locs : List Loc} (h : wbK_isHard_0 v0 hi hl Φ) {ls : Array Slot} (hL : lv_has ls 1 [(0, .ref (kd (v0.toNatClampNeg)))]) (hP : va_P D cls8 (wl 64 ad (GX cI cJ cC cZ cR ad kd) hi hl) H) (hS : va_S A s.heap H locs) : W p l e (rmX 0 0) s m args below meth c H locs 0 0 (MQ below (va_Qi (fun r (u : HI × HL) => Φ r u.1 u.2) (fun u t => va_P D cls8 (wl 64 ad (GX cI cJ cC cZ cR ad kd) u.1 u.2) t.heap) A) args s 0 0 A) (F0 m 0 ls []) := by
  unfold wbK_isHard_0 at h
  refine lv_aload_n K.1 K.2.1 dK_isHard_0 rfl (lv_at hL 0 rfl) ?_
  refine x_gets (v := .ref (kd ((12 : Int32).toNatClampNeg))) K hS (K.2.2.2.2.2.2.2.2.2.2.1 12 (by decide)).1 flK_40 dK_isHard_1 ?_
  obtain ⟨g1, h⟩ := h
  obtain ⟨g2, h⟩ := h
  refine x_aceq (x := v0) (y := (12 : Int32)) (tgt := 21) K g1 g2 dK_isHard_4 rfl (fun hc => ?_) (fun hc => ?_)
  · have h := h.1 hc
    exact bK_isHard_21 K hr hZ h (lv_sub hL [] rfl) hP hS
  · have h := h.2 hc
    refine lv_aload_n K.1 K.2.1 dK_isHard_7 rfl (lv_at hL 0 rfl) ?_
    refine x_gets (v := .ref (kd ((13 : Int32).toNatClampNeg))) K hS (K.2.2.2.2.2.2.2.2.2.2.1 13 (by decide)).1 flK_43 dK_isHard_8 ?_
    obtain ⟨g3, h⟩ := h
    obtain ⟨g4, h⟩ := h
    refine x_aceq (x := v0) (y := (13 : Int32)) (tgt := 21) K g3 g4 dK_isHard_11 rfl (fun hc => ?_) (fun hc => ?_)
    · have h := h.1 hc
      exact bK_isHard_21 K hr hZ h (lv_sub hL [] rfl) hP hS
    · have h := h.2 hc
      refine lv_aload_n K.1 K.2.1 dK_isHard_14 rfl (lv_at hL 0 rfl) ?_
      refine x_gets (v := .ref (kd ((14 : Int32).toNatClampNeg))) K hS (K.2.2.2.2.2.2.2.2.2.2.1 14 (by decide)).1 flK_46 dK_isHard_15 ?_
      obtain ⟨g5, h⟩ := h
      obtain ⟨g6, h⟩ := h
      refine x_acne (x := v0) (y := (14 : Int32)) (tgt := 25) K g5 g6 dK_isHard_18 rfl (fun hc => ?_) (fun hc => ?_)
      · have h := h.2 hc
        refine lv_iconst (v := 0) K.1 K.2.1 dK_isHard_25 (by decide) ?_
        obtain ⟨g7, h⟩ := h
        exact x_zret K hr hP hS g7 h dK_isHard_26
      · have h := h.1 hc
        exact bK_isHard_21 K hr hZ h (lv_sub hL [] rfl) hP hS
set_option maxRecDepth 100000 in
set_option maxHeartbeats 4000000 in
theorem mK_isHard {l : Launch} {D : va_G} {cI cJ cC cZ cR : ClassId} {ad kd sd vd : Nat → Nat} {kA lA wA : Nat} {A : Nat → Prop} (hZ : ZsOK A (ZX A kd sd vd kA lA wA)) (hD : wlD 64 ad A) {v0 : Int32} {hi : HI} {hl : HL} {Φ : Int32 → HI → HL → Prop} (h : wpK_isHard v0 hi hl Φ) : SpI l yK_isHard cK_isHard 1 (some .boolean) gT 0 0 [.ref (kd (v0.toNatClampNeg))] D cls8 (tys5 cI cJ cC cZ cR) 64 ad (GX cI cJ cC cZ cR ad kd) A (ZX A kd sd vd kA lA wA) hi hl Φ := by
  refine Met.ofW (cc := cK_isHard) (maxL := 1) (ret := (some .boolean)) (by decide) rfl ?_
  intro p e s m args below meth c s₁ B hml hv
  obtain ⟨rfl, hP, hK, hZs⟩ := hv
  have K : Cx p (rmX 0 0) s m _ meth c cK_isHard 1 "WordChecker$Kind" gT D cls8 (tys5 cI cJ cC cZ cR) 64 ad A (ZX A kd sd vd kA lA wA) := ⟨B.exec, B.bytes, hml, findClass_of_methodNamed B.named, fun w hw => atoms_spec B.pre w (List.mem_cons_of_mem _ hw), B.notSynchronized, hK, hD, hZs⟩
  have hL := lv_entry ([.ref (kd (v0.toNatClampNeg))]) (n := 1) (Nat.le_of_ble_eq_true rfl)
  rw [lg_entry_eq]
  generalize (lg_sl ([.ref (kd (v0.toNatClampNeg))]) ++ List.replicate (1 - (lg_sl ([.ref (kd (v0.toNatClampNeg))])).length) Slot.unset).toArray = ls at hL ⊢
  have hL : lv_has ls 1 [(0, .ref (kd (v0.toNatClampNeg)))] := hL
  unfold wpK_isHard at h
  exact bK_isHard_0 K B.returns hZ h (lv_sub hL [0] rfl) hP va_S.rf
set_option maxRecDepth 100000 in
set_option maxHeartbeats 4000000 in
theorem bB_take_207 {p : Program} {l : Launch} {e : Env} {s : State} {m : MethodId} {args : Array Value} {below : List Frame} {meth : Method} {c : Code} {D : va_G} {cI cJ cC cZ cR : ClassId} {ad kd sd vd : Nat → Nat} {kA lA wA : Nat} {A : Nat → Prop} (K : Cx p (rmX 5 150) s m args meth c cB_take 3 "WordChecker$Book" gT D cls8 (tys5 cI cJ cC cZ cR) 64 ad A (ZX A kd sd vd kA lA wA)) (hr : meth.sig.returnType = none) (hZ : ZsOK A (ZX A kd sd vd kA lA wA)) {Φ : HI → HL → Prop} {v2 : Nat} {q1 : Int32} {q2 : Int32} {hi : HI} {hl : HL} {H : Heap} {locs : List Loc} (h : wbB_take_207 v2 q1 q2 hi hl Φ) (hv2 : v2 < 20) {ls : Array Slot} (hL : lv_has ls 3 [(0, .ref (ad 5)), (1, .ref (ad 10)), (2, .ref (ad (24 + v2)))]) (hP : va_P D cls8 (wl 64 ad (GX cI cJ cC cZ cR ad kd) hi hl) H) (hS : va_S A s.heap H locs) : W p l e (rmX 5 150) s m args below meth c H locs 0 0 (MQ below (va_Qv (fun (u : HI × HL) => Φ u.1 u.2) (fun u t => va_P D cls8 (wl 64 ad (GX cI cJ cC cZ cR ad kd) u.1 u.2) t.heap) A) args s 0 0 A) (F0 m 207 ls [.int q2, .int q1, .ref (ad 5)]) := by
  unfold wbB_take_207 at h
  refine lv_iadd K.1 K.2.1 dB_take_207 ?_
  refine x_put (v := .int (q1 + q2)) K hP hS hinB tyB tyB_ok nmB (ci := 2) rfl 5 (by decide) rfl 5 (by decide) flB_110 rfl rfl (q1 + q2) rfl rfl rfl (Nat.le_of_ble_eq_true rfl) dB_take_208 (fun H locs hP hS => ?_)
  refine lv_aload_n K.1 K.2.1 dB_take_211 rfl (lv_at hL 0 rfl) ?_
  refine x_get (v := .ref (ad 13)) K hP hinB (ci := 2) rfl 5 (by decide) rfl 1 (by decide) flB_20 rfl rfl dB_take_212 ?_
  refine lv_aload_n K.1 K.2.1 dB_take_215 rfl (lv_at hL 1 rfl) ?_
  refine lv_aload_n K.1 K.2.1 dB_take_216 rfl (lv_at hL 2 rfl) ?_
  refine lv_aload_n K.1 K.2.1 dB_take_217 rfl (lv_at hL 0 rfl) ?_
  refine x_get (v := .ref (ad 6)) K hP hinB (ci := 2) rfl 5 (by decide) rfl 0 (by decide) flB_11 rfl rfl dB_take_218 ?_
  refine x_cVV (As := [.ref (ad 10), .ref (ad (24 + v2)), .ref (ad 6)]) (rest := []) K gT_good hZ hP hS calG_build mlB_116 13 (by decide) rfl rfl (mG_build hZ K.2.2.2.2.2.2.2.1 hv2 h) ⟨Nat.le_of_ble_eq_true rfl, Nat.le_of_ble_eq_true rfl⟩ rfl hL.1 rfl (Nat.le_of_ble_eq_true rfl) dB_take_221 (fun hi2 hl3 H locs h hP hS => ?_)
  exact x_vret K hr hP hS h dB_take_224
set_option maxRecDepth 100000 in
set_option maxHeartbeats 4000000 in
theorem bB_take_68 {p : Program} {l : Launch} {e : Env} {s : State} {m : MethodId} {args : Array Value} {below : List Frame} {meth : Method} {c : Code} {D : va_G} {cI cJ cC cZ cR : ClassId} {ad kd sd vd : Nat → Nat} {kA lA wA : Nat} {A : Nat → Prop} (K : Cx p (rmX 5 150) s m args meth c cB_take 3 "WordChecker$Book" gT D cls8 (tys5 cI cJ cC cZ cR) 64 ad A (ZX A kd sd vd kA lA wA)) (hr : meth.sig.returnType = none) (hZ : ZsOK A (ZX A kd sd vd kA lA wA)) {Φ : HI → HL → Prop} {v2 : Nat} {q0 : Nat} {q1 : Int32} {hi : HI} {hl : HL} {H : Heap} {locs : List Loc} (h : wbB_take_68 v2 q0 q1 hi hl Φ) (hv2 : v2 < 20) (hq0 : q0 < 20) {ls : Array Slot} (hL : lv_has ls 3 [(0, .ref (ad 5)), (1, .ref (ad 10)), (2, .ref (ad (24 + v2)))]) (hP : va_P D cls8 (wl 64 ad (GX cI cJ cC cZ cR ad kd) hi hl) H) (hS : va_S A s.heap H locs) : W p l e (rmX 5 150) s m args below meth c H locs 0 0 (MQ below (va_Qv (fun (u : HI × HL) => Φ u.1 u.2) (fun u t => va_P D cls8 (wl 64 ad (GX cI cJ cC cZ cR ad kd) u.1 u.2) t.heap) A) args s 0 0 A) (F0 m 68 ls [.int q1, .ref (ad (24 + q0))]) := by
  unfold wbB_take_68 at h
  obtain ⟨g1, h⟩ := h
  refine x_putN (v := .int q1) K hP hS hinL tyL tyL_ok nmL (ci := 6) rfl (24 + q0) (lt_l hq0) (GX_line _ hq0 _ _) 3 (by decide) (fnB_76 K.2.2.2.2.2.2.2.2) rfl rfl q1 ((GX_line _ hq0 _ _).trans rfl) g1.nar g1.fit (Nat.le_of_ble_eq_true rfl) dB_take_68 (fun H locs hP hS => ?_)
  refine lv_aload_n K.1 K.2.1 dB_take_71 rfl (lv_at hL 0 rfl) ?_
  refine lv_dup K.1 K.2.1 dB_take_72 rfl ?_
  refine x_get (v := .int ((u2 hi (24 + q0) 3 q1) 5 2)) K hP hinB (ci := 2) rfl 5 (by decide) rfl 2 (by decide) flB_37 rfl rfl dB_take_73 ?_
  refine lv_iconst (v := 1) K.1 K.2.1 dB_take_76 (by decide) ?_
  refine lv_iadd K.1 K.2.1 dB_take_77 ?_
  refine x_put (v := .int (((u2 hi (24 + q0) 3 q1) 5 2) + (1 : Int32))) K hP hS hinB tyB tyB_ok nmB (ci := 2) rfl 5 (by decide) rfl 2 (by decide) flB_37 rfl rfl (((u2 hi (24 + q0) 3 q1) 5 2) + (1 : Int32)) rfl rfl rfl (Nat.le_of_ble_eq_true rfl) dB_take_78 (fun H locs hP hS => ?_)
  refine x_gets (v := .ref wA) K hS K.2.2.2.2.2.2.2.2.2.1.2.2.2.2.1 flB_80 dB_take_81 ?_
  refine lv_aload_n K.1 K.2.1 dB_take_84 rfl (lv_at hL 1 rfl) ?_
  refine x_getN (v := va_rf (kOf kd ((u2 (u2 hi (24 + q0) 3 q1) 5 2 (((u2 hi (24 + q0) 3 q1) 5 2) + (1 : Int32))) 10 3))) K hP hinD (ci := 3) rfl 10 (by decide) rfl 3 (by decide) (fnB_67 K.2.2.2.2.2.2.2.2) rfl rfl dB_take_85 ?_
  obtain ⟨g2, h⟩ := h
  rw [kOf_in g2]
  refine x_ord (x := ((u2 (u2 hi (24 + q0) 3 q1) 5 2 (((u2 hi (24 + q0) 3 q1) 5 2) + (1 : Int32))) 10 3)) (rest := [.ref wA]) K hP hS g2 mlB_86 ⟨Nat.le_of_ble_eq_true rfl, Nat.le_of_ble_eq_true rfl⟩ hL.1 (Nat.le_of_ble_eq_true rfl) dB_take_88 (fun H locs hP hS => ?_)
  obtain ⟨g3, h⟩ := h
  refine va_ti (v := .int (swC (((u2 (u2 hi (24 + q0) 3 q1) 5 2 (((u2 hi (24 + q0) 3 q1) 5 2) + (1 : Int32))) 10 3).toNatClampNeg))) K.1 K.2.1 K.2.2.2.2.2.2.2.2.2.1.2.2.2.2.2.1 hS g3 rfl dB_take_91 ?_
  by_cases hc0 : (swC (((u2 (u2 hi (24 + q0) 3 q1) 5 2 (((u2 hi (24 + q0) 3 q1) 5 2) + (1 : Int32))) 10 3).toNatClampNeg)) = 1
  · have h := h.1 hc0
    refine lv_tableIn (off := 44) (tgt := 136) K.1 K.2.1 dB_take_92 (by rw [hc0]; decide) (by rw [hc0]; decide) (by rw [hc0]; rfl) rfl ?_
    refine lv_goto (tgt := 224) K.1 K.2.1 dB_take_136 rfl ?_
    exact x_vret K hr hP hS h dB_take_224
  by_cases hc1 : (swC (((u2 (u2 hi (24 + q0) 3 q1) 5 2 (((u2 hi (24 + q0) 3 q1) 5 2) + (1 : Int32))) 10 3).toNatClampNeg)) = 2
  · have h := h.2.1 hc1
    refine lv_tableIn (off := 47) (tgt := 139) K.1 K.2.1 dB_take_92 (by rw [hc1]; decide) (by rw [hc1]; decide) (by rw [hc1]; rfl) rfl ?_
    refine lv_aload_n K.1 K.2.1 dB_take_139 rfl (lv_at hL 0 rfl) ?_
    refine lv_aload_n K.1 K.2.1 dB_take_140 rfl (lv_at hL 2 rfl) ?_
    refine x_cVV (As := [.ref (ad (24 + v2))]) (rest := []) K gT_good hZ hP hS calB_addInput mlB_90 5 (by decide) rfl rfl (mB_addInput hZ K.2.2.2.2.2.2.2.1 hv2 h) ⟨Nat.le_of_ble_eq_true rfl, Nat.le_of_ble_eq_true rfl⟩ rfl hL.1 rfl (Nat.le_of_ble_eq_true rfl) dB_take_141 (fun hi5 hl6 H locs h hP hS => ?_)
    refine lv_goto (tgt := 224) K.1 K.2.1 dB_take_144 rfl ?_
    exact x_vret K hr hP hS h dB_take_224
  by_cases hc2 : (swC (((u2 (u2 hi (24 + q0) 3 q1) 5 2 (((u2 hi (24 + q0) 3 q1) 5 2) + (1 : Int32))) 10 3).toNatClampNeg)) = 3
  · have h := h.2.2.1 hc2
    refine lv_tableIn (off := 55) (tgt := 147) K.1 K.2.1 dB_take_92 (by rw [hc2]; decide) (by rw [hc2]; decide) (by rw [hc2]; rfl) rfl ?_
    refine lv_aload_n K.1 K.2.1 dB_take_147 rfl (lv_at hL 0 rfl) ?_
    refine lv_aload_n K.1 K.2.1 dB_take_148 rfl (lv_at hL 2 rfl) ?_
    refine x_cVV (As := [.ref (ad (24 + v2))]) (rest := []) K gT_good hZ hP hS calB_addState mlB_94 5 (by decide) rfl rfl (mB_addState hZ K.2.2.2.2.2.2.2.1 hv2 h) ⟨Nat.le_of_ble_eq_true rfl, Nat.le_of_ble_eq_true rfl⟩ rfl hL.1 rfl (Nat.le_of_ble_eq_true rfl) dB_take_149 (fun hi8 hl9 H locs h hP hS => ?_)
    refine lv_goto (tgt := 224) K.1 K.2.1 dB_take_152 rfl ?_
    exact x_vret K hr hP hS h dB_take_224
  by_cases hc3 : (swC (((u2 (u2 hi (24 + q0) 3 q1) 5 2 (((u2 hi (24 + q0) 3 q1) 5 2) + (1 : Int32))) 10 3).toNatClampNeg)) = 4
  · have h := h.2.2.2.1 hc3
    refine lv_tableIn (off := 63) (tgt := 155) K.1 K.2.1 dB_take_92 (by rw [hc3]; decide) (by rw [hc3]; decide) (by rw [hc3]; rfl) rfl ?_
    refine lv_aload_n K.1 K.2.1 dB_take_155 rfl (lv_at hL 0 rfl) ?_
    refine lv_aload_n K.1 K.2.1 dB_take_156 rfl (lv_at hL 1 rfl) ?_
    refine x_cVV (As := [.ref (ad 10)]) (rest := []) K gT_good hZ hP hS calB_setInit mlB_97 5 (by decide) rfl rfl (mB_setInit hZ K.2.2.2.2.2.2.2.1 h) ⟨Nat.le_of_ble_eq_true rfl, Nat.le_of_ble_eq_true rfl⟩ rfl hL.1 rfl (Nat.le_of_ble_eq_true rfl) dB_take_157 (fun hi11 hl12 H locs h hP hS => ?_)
    refine lv_goto (tgt := 224) K.1 K.2.1 dB_take_160 rfl ?_
    exact x_vret K hr hP hS h dB_take_224
  by_cases hc4 : (swC (((u2 (u2 hi (24 + q0) 3 q1) 5 2 (((u2 hi (24 + q0) 3 q1) 5 2) + (1 : Int32))) 10 3).toNatClampNeg)) = 5
  · have h := h.2.2.2.2.1 hc4
    refine lv_tableIn (off := 71) (tgt := 163) K.1 K.2.1 dB_take_92 (by rw [hc4]; decide) (by rw [hc4]; decide) (by rw [hc4]; rfl) rfl ?_
    refine lv_aload_n K.1 K.2.1 dB_take_163 rfl (lv_at hL 0 rfl) ?_
    refine lv_aload_n K.1 K.2.1 dB_take_164 rfl (lv_at hL 1 rfl) ?_
    refine x_cVV (As := [.ref (ad 10)]) (rest := []) K gT_good hZ hP hS calB_setNext mlB_101 5 (by decide) rfl rfl (mB_setNext hZ K.2.2.2.2.2.2.2.1 h) ⟨Nat.le_of_ble_eq_true rfl, Nat.le_of_ble_eq_true rfl⟩ rfl hL.1 rfl (Nat.le_of_ble_eq_true rfl) dB_take_165 (fun hi14 hl15 H locs h hP hS => ?_)
    refine lv_goto (tgt := 224) K.1 K.2.1 dB_take_168 rfl ?_
    exact x_vret K hr hP hS h dB_take_224
  by_cases hc5 : (swC (((u2 (u2 hi (24 + q0) 3 q1) 5 2 (((u2 hi (24 + q0) 3 q1) 5 2) + (1 : Int32))) 10 3).toNatClampNeg)) = 6
  · have h := h.2.2.2.2.2.1 hc5
    refine lv_tableIn (off := 79) (tgt := 171) K.1 K.2.1 dB_take_92 (by rw [hc5]; decide) (by rw [hc5]; decide) (by rw [hc5]; rfl) rfl ?_
    refine lv_aload_n K.1 K.2.1 dB_take_171 rfl (lv_at hL 0 rfl) ?_
    refine lv_aload_n K.1 K.2.1 dB_take_172 rfl (lv_at hL 1 rfl) ?_
    refine x_cVV (As := [.ref (ad 10)]) (rest := []) K gT_good hZ hP hS calB_addBad mlB_104 5 (by decide) rfl rfl (mB_addBad hZ K.2.2.2.2.2.2.2.1 h) ⟨Nat.le_of_ble_eq_true rfl, Nat.le_of_ble_eq_true rfl⟩ rfl hL.1 rfl (Nat.le_of_ble_eq_true rfl) dB_take_173 (fun hi17 hl18 H locs h hP hS => ?_)
    refine lv_goto (tgt := 224) K.1 K.2.1 dB_take_176 rfl ?_
    exact x_vret K hr hP hS h dB_take_224
  by_cases hc6 : (swC (((u2 (u2 hi (24 + q0) 3 q1) 5 2 (((u2 hi (24 + q0) 3 q1) 5 2) + (1 : Int32))) 10 3).toNatClampNeg)) = 7
  · have h := h.2.2.2.2.2.2.1 hc6
    refine lv_tableIn (off := 87) (tgt := 179) K.1 K.2.1 dB_take_92 (by rw [hc6]; decide) (by rw [hc6]; decide) (by rw [hc6]; rfl) rfl ?_
    refine lv_aload_n K.1 K.2.1 dB_take_179 rfl (lv_at hL 0 rfl) ?_
    refine lv_aload_n K.1 K.2.1 dB_take_180 rfl (lv_at hL 1 rfl) ?_
    refine x_cVV (As := [.ref (ad 10)]) (rest := []) K gT_good hZ hP hS calB_addConstraint mlB_107 5 (by decide) rfl rfl (mB_addConstraint hZ K.2.2.2.2.2.2.2.1 h) ⟨Nat.le_of_ble_eq_true rfl, Nat.le_of_ble_eq_true rfl⟩ rfl hL.1 rfl (Nat.le_of_ble_eq_true rfl) dB_take_181 (fun hi20 hl21 H locs h hP hS => ?_)
    refine lv_goto (tgt := 224) K.1 K.2.1 dB_take_184 rfl ?_
    exact x_vret K hr hP hS h dB_take_224
  have h := h.2.2.2.2.2.2.2 hc0 hc1 hc2 hc3 hc4 hc5 hc6
  refine lv_tableOut (tgt := 187) K.1 K.2.1 dB_take_92 (by have e0 := i_ne hc0 (n := 1) (by decide); have e1 := i_ne hc1 (n := 2) (by decide); have e2 := i_ne hc2 (n := 3) (by decide); have e3 := i_ne hc3 (n := 4) (by decide); have e4 := i_ne hc4 (n := 5) (by decide); have e5 := i_ne hc5 (n := 6) (by decide); have e6 := i_ne hc6 (n := 7) (by decide); omega) rfl ?_
  refine lv_aload_n K.1 K.2.1 dB_take_187 rfl (lv_at hL 0 rfl) ?_
  refine lv_dup K.1 K.2.1 dB_take_188 rfl ?_
  refine x_get (v := .int ((u2 (u2 hi (24 + q0) 3 q1) 5 2 (((u2 hi (24 + q0) 3 q1) 5 2) + (1 : Int32))) 5 5)) K hP hinB (ci := 2) rfl 5 (by decide) rfl 5 (by decide) flB_110 rfl rfl dB_take_189 ?_
  refine lv_aload_n K.1 K.2.1 dB_take_192 rfl (lv_at hL 1 rfl) ?_
  refine x_getN (v := va_rf (kOf kd ((u2 (u2 hi (24 + q0) 3 q1) 5 2 (((u2 hi (24 + q0) 3 q1) 5 2) + (1 : Int32))) 10 3))) K hP hinD (ci := 3) rfl 10 (by decide) rfl 3 (by decide) (fnB_67 K.2.2.2.2.2.2.2.2) rfl rfl dB_take_193 ?_
  obtain ⟨g22, h⟩ := h
  rw [kOf_in g22]
  refine x_cRI (As := []) (rest := [.int ((u2 (u2 hi (24 + q0) 3 q1) 5 2 (((u2 hi (24 + q0) 3 q1) 5 2) + (1 : Int32))) 5 5), .ref (ad 5)]) K gT_good hZ hP hS calK_isHard mlB_113 (K.2.2.2.2.2.2.2.2.2.2.1 _ (in_lt g22)).2.1 (mK_isHard hZ K.2.2.2.2.2.2.2.1 h) ⟨Nat.le_of_ble_eq_true rfl, Nat.le_of_ble_eq_true rfl⟩ rfl hL.1 rfl (Nat.le_of_ble_eq_true rfl) dB_take_196 (fun r23 hi24 hl25 H locs h hP hS => ?_)
  refine lv_if_eq (tgt := 206) K.1 K.2.1 dB_take_199 rfl (fun hc => ?_) (fun hc => ?_)
  · have h := h.1 hc
    refine lv_iconst (v := 0) K.1 K.2.1 dB_take_206 (by decide) ?_
    exact bB_take_207 K hr hZ h hv2 (lv_sub hL [0, 1, 2] rfl) hP hS
  · have h := h.2 hc
    refine lv_iconst (v := 1) K.1 K.2.1 dB_take_202 (by decide) ?_
    refine lv_goto (tgt := 207) K.1 K.2.1 dB_take_203 rfl ?_
    exact bB_take_207 K hr hZ h hv2 (lv_sub hL [0, 1, 2] rfl) hP hS
set_option maxRecDepth 100000 in
set_option maxHeartbeats 4000000 in
theorem bB_take_67 {p : Program} {l : Launch} {e : Env} {s : State} {m : MethodId} {args : Array Value} {below : List Frame} {meth : Method} {c : Code} {D : va_G} {cI cJ cC cZ cR : ClassId} {ad kd sd vd : Nat → Nat} {kA lA wA : Nat} {A : Nat → Prop} (K : Cx p (rmX 5 150) s m args meth c cB_take 3 "WordChecker$Book" gT D cls8 (tys5 cI cJ cC cZ cR) 64 ad A (ZX A kd sd vd kA lA wA)) (hr : meth.sig.returnType = none) (hZ : ZsOK A (ZX A kd sd vd kA lA wA)) {Φ : HI → HL → Prop} {v2 : Nat} {q0 : Nat} {hi : HI} {hl : HL} {H : Heap} {locs : List Loc} (h : wbB_take_67 v2 q0 hi hl Φ) (hv2 : v2 < 20) (hq0 : q0 < 20) {ls : Array Slot} (hL : lv_has ls 3 [(0, .ref (ad 5)), (1, .ref (ad 10)), (2, .ref (ad (24 + v2)))]) (hP : va_P D cls8 (wl 64 ad (GX cI cJ cC cZ cR ad kd) hi hl) H) (hS : va_S A s.heap H locs) : W p l e (rmX 5 150) s m args below meth c H locs 0 0 (MQ below (va_Qv (fun (u : HI × HL) => Φ u.1 u.2) (fun u t => va_P D cls8 (wl 64 ad (GX cI cJ cC cZ cR ad kd) u.1 u.2) t.heap) A) args s 0 0 A) (F0 m 67 ls [.ref (ad (24 + q0))]) := by
  unfold wbB_take_67 at h
  refine lv_iconst (v := 0) K.1 K.2.1 dB_take_67 (by decide) ?_
  exact bB_take_68 K hr hZ h hv2 hq0 (lv_sub hL [0, 1, 2] rfl) hP hS
set_option maxRecDepth 100000 in
set_option maxHeartbeats 4000000 in
theorem bB_take_0 {p : Program} {l : Launch} {e : Env} {s : State} {m : MethodId} {args : Array Value} {below : List Frame} {meth : Method} {c : Code} {D : va_G} {cI cJ cC cZ cR : ClassId} {ad kd sd vd : Nat → Nat} {kA lA wA : Nat} {A : Nat → Prop} (K : Cx p (rmX 5 150) s m args meth c cB_take 3 "WordChecker$Book" gT D cls8 (tys5 cI cJ cC cZ cR) 64 ad A (ZX A kd sd vd kA lA wA)) (hr : meth.sig.returnType = none) (hZ : ZsOK A (ZX A kd sd vd kA lA wA)) {Φ : HI → HL → Prop} {hi : HI} {hl : HL} {H : Heap} {locs : List Loc} (h : wbB_take_0 hi hl Φ) {ls : Array Slot} (hL : lv_has ls 3 [(0, .ref (ad 5)), (1, .ref (ad 10))]) (hP : va_P D cls8 (wl 64 ad (GX cI cJ cC cZ cR ad kd) hi hl) H) (hS : va_S A s.heap H locs) : W p l e (rmX 5 150) s m args below meth c H locs 0 0 (MQ below (va_Qv (fun (u : HI × HL) => Φ u.1 u.2) (fun u t => va_P D cls8 (wl 64 ad (GX cI cJ cC cZ cR ad kd) u.1 u.2) t.heap) A) args s 0 0 A) (F0 m 0 ls []) := by
  unfold wbB_take_0 at h
  refine lv_aload_n K.1 K.2.1 dB_take_0 rfl (lv_at hL 0 rfl) ?_
  refine x_get (v := .int (hi 5 2)) K hP hinB (ci := 2) rfl 5 (by decide) rfl 2 (by decide) flB_37 rfl rfl dB_take_1 ?_
  refine lv_bipush (v := 20) K.1 K.2.1 dB_take_4 (by decide) ?_
  refine lv_icmp_lt (tgt := 10) K.1 K.2.1 dB_take_6 rfl (fun hc => ?_) (fun hc => ?_)
  · have h := h.1 hc
    refine lv_aload_n K.1 K.2.1 dB_take_10 rfl (lv_at hL 0 rfl) ?_
    refine x_get (v := .ref (ad 6)) K hP hinB (ci := 2) rfl 5 (by decide) rfl 0 (by decide) flB_11 rfl rfl dB_take_11 ?_
    refine lv_aload_n K.1 K.2.1 dB_take_14 rfl (lv_at hL 0 rfl) ?_
    refine x_get (v := .int (hi 5 2)) K hP hinB (ci := 2) rfl 5 (by decide) rfl 2 (by decide) flB_37 rfl rfl dB_take_15 ?_
    obtain ⟨g1, h⟩ := h
    refine x_aald K hP 6 (by decide) 4 rfl rfl g1 (q := ad (24 + ((hi 5 2).toNatClampNeg))) rfl dB_take_18 ?_
    refine lv_astore_n (lv' := [(2, .ref (ad (24 + ((hi 5 2).toNatClampNeg)))), (0, .ref (ad 5)), (1, .ref (ad 10))]) K.1 K.2.1 dB_take_19 rfl hL (by decide) rfl (fun ls hL => ?_)
    refine lv_aload_n K.1 K.2.1 dB_take_20 rfl (lv_at hL 0 rfl) ?_
    refine lv_aload_n K.1 K.2.1 dB_take_21 rfl (lv_at hL 2 rfl) ?_
    refine x_getN (v := .int (hi 10 2)) K hP hinD (ci := 3) rfl 10 (by decide) rfl 2 (by decide) (fnB_64 K.2.2.2.2.2.2.2.2) rfl rfl dB_take_22 ?_
    refine x_putN (v := .int (hi 10 2)) K hP hS hinL tyL tyL_ok nmL (ci := 6) rfl (24 + ((hi 5 2).toNatClampNeg)) (lt_l (in_lt g1)) (GX_line _ (in_lt g1) _ _) 0 (by decide) (fnB_41 K.2.2.2.2.2.2.2.2) rfl rfl (hi 10 2) ((GX_line _ (in_lt g1) _ _).trans rfl) rfl rfl (Nat.le_of_ble_eq_true rfl) dB_take_25 (fun H locs hP hS => ?_)
    refine lv_aload_n K.1 K.2.1 dB_take_28 rfl (lv_at hL 0 rfl) ?_
    refine lv_aload_n K.1 K.2.1 dB_take_29 rfl (lv_at hL 2 rfl) ?_
    refine x_getN (v := va_rf (kOf kd ((u2 hi (24 + ((hi 5 2).toNatClampNeg)) 0 (hi 10 2)) 10 3))) K hP hinD (ci := 3) rfl 10 (by decide) rfl 3 (by decide) (fnB_67 K.2.2.2.2.2.2.2.2) rfl rfl dB_take_30 ?_
    refine x_putN (v := va_rf (kOf kd ((u2 hi (24 + ((hi 5 2).toNatClampNeg)) 0 (hi 10 2)) 10 3))) K hP hS hinL tyL tyL_ok nmL (ci := 6) rfl (24 + ((hi 5 2).toNatClampNeg)) (lt_l (in_lt g1)) (GX_line _ (in_lt g1) _ _) 1 (by decide) (fnB_48 K.2.2.2.2.2.2.2.2) rfl rfl ((u2 hi (24 + ((hi 5 2).toNatClampNeg)) 0 (hi 10 2)) 10 3) ((GX_line _ (in_lt g1) _ _).trans rfl) (kOf_nar _ _) (kOf_fit _ _) (Nat.le_of_ble_eq_true rfl) dB_take_33 (fun H locs hP hS => ?_)
    refine lv_aload_n K.1 K.2.1 dB_take_36 rfl (lv_at hL 0 rfl) ?_
    refine lv_aload_n K.1 K.2.1 dB_take_37 rfl (lv_at hL 2 rfl) ?_
    refine x_getN (v := .int ((u2 (u2 hi (24 + ((hi 5 2).toNatClampNeg)) 0 (hi 10 2)) (24 + ((hi 5 2).toNatClampNeg)) 1 ((u2 hi (24 + ((hi 5 2).toNatClampNeg)) 0 (hi 10 2)) 10 3)) 10 4)) K hP hinD (ci := 3) rfl 10 (by decide) rfl 4 (by decide) (fnB_68 K.2.2.2.2.2.2.2.2) rfl rfl dB_take_38 ?_
    refine x_putN (v := .int ((u2 (u2 hi (24 + ((hi 5 2).toNatClampNeg)) 0 (hi 10 2)) (24 + ((hi 5 2).toNatClampNeg)) 1 ((u2 hi (24 + ((hi 5 2).toNatClampNeg)) 0 (hi 10 2)) 10 3)) 10 4)) K hP hS hinL tyL tyL_ok nmL (ci := 6) rfl (24 + ((hi 5 2).toNatClampNeg)) (lt_l (in_lt g1)) (GX_line _ (in_lt g1) _ _) 2 (by decide) (fnB_61 K.2.2.2.2.2.2.2.2) rfl rfl ((u2 (u2 hi (24 + ((hi 5 2).toNatClampNeg)) 0 (hi 10 2)) (24 + ((hi 5 2).toNatClampNeg)) 1 ((u2 hi (24 + ((hi 5 2).toNatClampNeg)) 0 (hi 10 2)) 10 3)) 10 4) ((GX_line _ (in_lt g1) _ _).trans rfl) rfl rfl (Nat.le_of_ble_eq_true rfl) dB_take_41 (fun H locs hP hS => ?_)
    refine lv_aload_n K.1 K.2.1 dB_take_44 rfl (lv_at hL 0 rfl) ?_
    refine lv_aload_n K.1 K.2.1 dB_take_45 rfl (lv_at hL 2 rfl) ?_
    refine x_getN (v := va_rf (kOf kd ((u2 (u2 (u2 hi (24 + ((hi 5 2).toNatClampNeg)) 0 (hi 10 2)) (24 + ((hi 5 2).toNatClampNeg)) 1 ((u2 hi (24 + ((hi 5 2).toNatClampNeg)) 0 (hi 10 2)) 10 3)) (24 + ((hi 5 2).toNatClampNeg)) 2 ((u2 (u2 hi (24 + ((hi 5 2).toNatClampNeg)) 0 (hi 10 2)) (24 + ((hi 5 2).toNatClampNeg)) 1 ((u2 hi (24 + ((hi 5 2).toNatClampNeg)) 0 (hi 10 2)) 10 3)) 10 4)) 10 3))) K hP hinD (ci := 3) rfl 10 (by decide) rfl 3 (by decide) (fnB_67 K.2.2.2.2.2.2.2.2) rfl rfl dB_take_46 ?_
    obtain ⟨g2, h⟩ := h
    rw [kOf_in g2]
    refine x_cRI (As := []) (rest := [.ref (ad (24 + ((hi 5 2).toNatClampNeg)))]) K gT_good hZ hP hS calK_isFree mlB_69 (K.2.2.2.2.2.2.2.2.2.2.1 _ (in_lt g2)).2.1 (mK_isFree hZ K.2.2.2.2.2.2.2.1 h) ⟨Nat.le_of_ble_eq_true rfl, Nat.le_of_ble_eq_true rfl⟩ rfl hL.1 rfl (Nat.le_of_ble_eq_true rfl) dB_take_49 (fun r3 hi4 hl5 H locs h hP hS => ?_)
    refine lv_if_ne (tgt := 67) K.1 K.2.1 dB_take_52 rfl (fun hc => ?_) (fun hc => ?_)
    · have h := h.2 hc
      exact bB_take_67 K hr hZ h (in_lt g1) (in_lt g1) (lv_sub hL [1, 2, 0] rfl) hP hS
    · have h := h.1 hc
      refine lv_aload_n K.1 K.2.1 dB_take_55 rfl (lv_at hL 1 rfl) ?_
      refine lv_aload_n K.1 K.2.1 dB_take_56 rfl (lv_at hL 2 rfl) ?_
      refine x_cVI (As := [.ref (ad 10)]) (rest := [.ref (ad (24 + ((hi 5 2).toNatClampNeg)))]) K gT_good hZ hP hS calB_allFixed mlB_72 5 (by decide) rfl rfl (mB_allFixed hZ K.2.2.2.2.2.2.2.1 h) ⟨Nat.le_of_ble_eq_true rfl, Nat.le_of_ble_eq_true rfl⟩ rfl hL.1 rfl (Nat.le_of_ble_eq_true rfl) dB_take_57 (fun r6 hi7 hl8 H locs h hP hS => ?_)
      refine lv_if_eq (tgt := 67) K.1 K.2.1 dB_take_60 rfl (fun hc => ?_) (fun hc => ?_)
      · have h := h.1 hc
        exact bB_take_67 K hr hZ h (in_lt g1) (in_lt g1) (lv_sub hL [1, 2, 0] rfl) hP hS
      · have h := h.2 hc
        refine lv_iconst (v := 1) K.1 K.2.1 dB_take_63 (by decide) ?_
        refine lv_goto (tgt := 68) K.1 K.2.1 dB_take_64 rfl ?_
        exact bB_take_68 K hr hZ h (in_lt g1) (in_lt g1) (lv_sub hL [1, 2, 0] rfl) hP hS
  · have h := h.2 hc
    exact x_vret K hr hP hS h dB_take_9
set_option maxRecDepth 100000 in
set_option maxHeartbeats 4000000 in
theorem mB_take {l : Launch} {D : va_G} {cI cJ cC cZ cR : ClassId} {ad kd sd vd : Nat → Nat} {kA lA wA : Nat} {A : Nat → Prop} (hZ : ZsOK A (ZX A kd sd vd kA lA wA)) (hD : wlD 64 ad A) {hi : HI} {hl : HL} {Φ : HI → HL → Prop} (h : wpB_take hi hl Φ) : SpV l yB_take cB_take 3 none gT 5 150 [.ref (ad 5), .ref (ad 10)] D cls8 (tys5 cI cJ cC cZ cR) 64 ad (GX cI cJ cC cZ cR ad kd) A (ZX A kd sd vd kA lA wA) hi hl Φ := by
  refine Met.ofW (cc := cB_take) (maxL := 3) (ret := none) (by decide) rfl ?_
  intro p e s m args below meth c s₁ B hml hv
  obtain ⟨rfl, hP, hK, hZs⟩ := hv
  have K : Cx p (rmX 5 150) s m _ meth c cB_take 3 "WordChecker$Book" gT D cls8 (tys5 cI cJ cC cZ cR) 64 ad A (ZX A kd sd vd kA lA wA) := ⟨B.exec, B.bytes, hml, findClass_of_methodNamed B.named, fun w hw => atoms_spec B.pre w (List.mem_cons_of_mem _ hw), B.notSynchronized, hK, hD, hZs⟩
  have hL := lv_entry ([.ref (ad 5), .ref (ad 10)]) (n := 3) (Nat.le_of_ble_eq_true rfl)
  rw [lg_entry_eq]
  generalize (lg_sl ([.ref (ad 5), .ref (ad 10)]) ++ List.replicate (3 - (lg_sl ([.ref (ad 5), .ref (ad 10)])).length) Slot.unset).toArray = ls at hL ⊢
  have hL : lv_has ls 3 [(0, .ref (ad 5)), (1, .ref (ad 10))] := hL
  unfold wpB_take at h
  exact bB_take_0 K B.returns hZ h (lv_sub hL [0, 1] rfl) hP va_S.rf
set_option maxRecDepth 100000 in
set_option maxHeartbeats 4000000 in
theorem bB_lastId_0 {p : Program} {l : Launch} {e : Env} {s : State} {m : MethodId} {args : Array Value} {below : List Frame} {meth : Method} {c : Code} {D : va_G} {cI cJ cC cZ cR : ClassId} {ad kd sd vd : Nat → Nat} {kA lA wA : Nat} {A : Nat → Prop} (K : Cx p (rmX 0 0) s m args meth c cB_lastId 1 "WordChecker$Book" gT D cls8 (tys5 cI cJ cC cZ cR) 64 ad A (ZX A kd sd vd kA lA wA)) (hr : meth.sig.returnType = (some .int)) (hZ : ZsOK A (ZX A kd sd vd kA lA wA)) {Φ : Int32 → HI → HL → Prop} {hi : HI} {hl : HL} {H : Heap} {locs : List Loc} (h : wbB_lastId_0 hi hl Φ) {ls : Array Slot} (hL : lv_has ls 1 [(0, .ref (ad 5))]) (hP : va_P D cls8 (wl 64 ad (GX cI cJ cC cZ cR ad kd) hi hl) H) (hS : va_S A s.heap H locs) : W p l e (rmX 0 0) s m args below meth c H locs 0 0 (MQ below (va_Qi (fun r (u : HI × HL) => Φ r u.1 u.2) (fun u t => va_P D cls8 (wl 64 ad (GX cI cJ cC cZ cR ad kd) u.1 u.2) t.heap) A) args s 0 0 A) (F0 m 0 ls []) := by
  unfold wbB_lastId_0 at h
  refine lv_aload_n K.1 K.2.1 dB_lastId_0 rfl (lv_at hL 0 rfl) ?_
  refine x_get (v := .int (hi 5 2)) K hP hinB (ci := 2) rfl 5 (by decide) rfl 2 (by decide) flB_37 rfl rfl dB_lastId_1 ?_
  refine lv_if_le (tgt := 24) K.1 K.2.1 dB_lastId_4 rfl (fun hc => ?_) (fun hc => ?_)
  · have h := h.1 hc
    refine lv_iconst (v := 0) K.1 K.2.1 dB_lastId_24 (by decide) ?_
    exact x_iret K hr hP hS h dB_lastId_25
  · have h := h.2 hc
    refine lv_aload_n K.1 K.2.1 dB_lastId_7 rfl (lv_at hL 0 rfl) ?_
    refine x_get (v := .ref (ad 6)) K hP hinB (ci := 2) rfl 5 (by decide) rfl 0 (by decide) flB_11 rfl rfl dB_lastId_8 ?_
    refine lv_aload_n K.1 K.2.1 dB_lastId_11 rfl (lv_at hL 0 rfl) ?_
    refine x_get (v := .int (hi 5 2)) K hP hinB (ci := 2) rfl 5 (by decide) rfl 2 (by decide) flB_37 rfl rfl dB_lastId_12 ?_
    refine lv_iconst (v := 1) K.1 K.2.1 dB_lastId_15 (by decide) ?_
    refine lv_isub K.1 K.2.1 dB_lastId_16 ?_
    obtain ⟨g1, h⟩ := h
    refine x_aald K hP 6 (by decide) 4 rfl rfl g1 (q := ad (24 + (((hi 5 2) - (1 : Int32)).toNatClampNeg))) rfl dB_lastId_17 ?_
    refine x_getN (v := .int (hi (24 + (((hi 5 2) - (1 : Int32)).toNatClampNeg)) 0)) K hP hinL (ci := 6) rfl (24 + (((hi 5 2) - (1 : Int32)).toNatClampNeg)) (lt_l (in_lt g1)) (GX_line _ (in_lt g1) _ _) 0 (by decide) (fnB_41 K.2.2.2.2.2.2.2.2) rfl rfl dB_lastId_18 ?_
    refine lv_goto (tgt := 25) K.1 K.2.1 dB_lastId_21 rfl ?_
    exact x_iret K hr hP hS h dB_lastId_25
set_option maxRecDepth 100000 in
set_option maxHeartbeats 4000000 in
theorem mB_lastId {l : Launch} {D : va_G} {cI cJ cC cZ cR : ClassId} {ad kd sd vd : Nat → Nat} {kA lA wA : Nat} {A : Nat → Prop} (hZ : ZsOK A (ZX A kd sd vd kA lA wA)) (hD : wlD 64 ad A) {hi : HI} {hl : HL} {Φ : Int32 → HI → HL → Prop} (h : wpB_lastId hi hl Φ) : SpI l yB_lastId cB_lastId 1 (some .int) gT 0 0 [.ref (ad 5)] D cls8 (tys5 cI cJ cC cZ cR) 64 ad (GX cI cJ cC cZ cR ad kd) A (ZX A kd sd vd kA lA wA) hi hl Φ := by
  refine Met.ofW (cc := cB_lastId) (maxL := 1) (ret := (some .int)) (by decide) rfl ?_
  intro p e s m args below meth c s₁ B hml hv
  obtain ⟨rfl, hP, hK, hZs⟩ := hv
  have K : Cx p (rmX 0 0) s m _ meth c cB_lastId 1 "WordChecker$Book" gT D cls8 (tys5 cI cJ cC cZ cR) 64 ad A (ZX A kd sd vd kA lA wA) := ⟨B.exec, B.bytes, hml, findClass_of_methodNamed B.named, fun w hw => atoms_spec B.pre w (List.mem_cons_of_mem _ hw), B.notSynchronized, hK, hD, hZs⟩
  have hL := lv_entry ([.ref (ad 5)]) (n := 1) (Nat.le_of_ble_eq_true rfl)
  rw [lg_entry_eq]
  generalize (lg_sl ([.ref (ad 5)]) ++ List.replicate (1 - (lg_sl ([.ref (ad 5)])).length) Slot.unset).toArray = ls at hL ⊢
  have hL : lv_has ls 1 [(0, .ref (ad 5))] := hL
  unfold wpB_lastId at h
  exact bB_lastId_0 K B.returns hZ h (lv_sub hL [0] rfl) hP va_S.rf
set_option maxRecDepth 100000 in
set_option maxHeartbeats 4000000 in
theorem bD_faultOfLength_0 {p : Program} {l : Launch} {e : Env} {s : State} {m : MethodId} {args : Array Value} {below : List Frame} {meth : Method} {c : Code} {D : va_G} {cI cJ cC cZ cR : ClassId} {ad kd sd vd : Nat → Nat} {kA lA wA : Nat} {A : Nat → Prop} (K : Cx p (rmX 0 0) s m args meth c cD_faultOfLength 2 "WordChecker$Draft" gT D cls8 (tys5 cI cJ cC cZ cR) 64 ad A (ZX A kd sd vd kA lA wA)) (hr : meth.sig.returnType = (some .int)) (hZ : ZsOK A (ZX A kd sd vd kA lA wA)) {Φ : Int32 → HI → HL → Prop} {v1 : Int32} {hi : HI} {hl : HL} {H : Heap} {locs : List Loc} (h : wbD_faultOfLength_0 v1 hi hl Φ) {ls : Array Slot} (hL : lv_has ls 2 [(0, .ref (ad 10)), (1, .int v1)]) (hP : va_P D cls8 (wl 64 ad (GX cI cJ cC cZ cR ad kd) hi hl) H) (hS : va_S A s.heap H locs) : W p l e (rmX 0 0) s m args below meth c H locs 0 0 (MQ below (va_Qi (fun r (u : HI × HL) => Φ r u.1 u.2) (fun u t => va_P D cls8 (wl 64 ad (GX cI cJ cC cZ cR ad kd) u.1 u.2) t.heap) A) args s 0 0 A) (F0 m 0 ls []) := by
  unfold wbD_faultOfLength_0 at h
  refine lv_aload_n K.1 K.2.1 dD_faultOfLength_0 rfl (lv_at hL 0 rfl) ?_
  refine x_get (v := .ref (ad 1)) K hP hinD (ci := 3) rfl 10 (by decide) rfl 0 (by decide) flD_19 rfl rfl dD_faultOfLength_1 ?_
  refine x_getN (v := .int (hi 1 4)) K hP hinT (ci := 1) rfl 1 (by decide) rfl 4 (by decide) (fnD_101 K.2.2.2.2.2.2.2.2) rfl rfl dD_faultOfLength_4 ?_
  refine lv_iload_n K.1 K.2.1 dD_faultOfLength_7 rfl (lv_at hL 1 rfl) ?_
  refine lv_icmp_le (tgt := 15) K.1 K.2.1 dD_faultOfLength_8 rfl (fun hc => ?_) (fun hc => ?_)
  · have h := h.1 hc
    refine lv_iconst (v := -1) K.1 K.2.1 dD_faultOfLength_15 (by decide) ?_
    exact x_iret K hr hP hS h dD_faultOfLength_16
  · have h := h.2 hc
    refine lv_iload_n K.1 K.2.1 dD_faultOfLength_11 rfl (lv_at hL 1 rfl) ?_
    refine lv_goto (tgt := 16) K.1 K.2.1 dD_faultOfLength_12 rfl ?_
    exact x_iret K hr hP hS h dD_faultOfLength_16
set_option maxRecDepth 100000 in
set_option maxHeartbeats 4000000 in
theorem mD_faultOfLength {l : Launch} {D : va_G} {cI cJ cC cZ cR : ClassId} {ad kd sd vd : Nat → Nat} {kA lA wA : Nat} {A : Nat → Prop} (hZ : ZsOK A (ZX A kd sd vd kA lA wA)) (hD : wlD 64 ad A) {v1 : Int32} {hi : HI} {hl : HL} {Φ : Int32 → HI → HL → Prop} (h : wpD_faultOfLength v1 hi hl Φ) : SpI l yD_faultOfLength cD_faultOfLength 2 (some .int) gT 0 0 [.ref (ad 10), .int v1] D cls8 (tys5 cI cJ cC cZ cR) 64 ad (GX cI cJ cC cZ cR ad kd) A (ZX A kd sd vd kA lA wA) hi hl Φ := by
  refine Met.ofW (cc := cD_faultOfLength) (maxL := 2) (ret := (some .int)) (by decide) rfl ?_
  intro p e s m args below meth c s₁ B hml hv
  obtain ⟨rfl, hP, hK, hZs⟩ := hv
  have K : Cx p (rmX 0 0) s m _ meth c cD_faultOfLength 2 "WordChecker$Draft" gT D cls8 (tys5 cI cJ cC cZ cR) 64 ad A (ZX A kd sd vd kA lA wA) := ⟨B.exec, B.bytes, hml, findClass_of_methodNamed B.named, fun w hw => atoms_spec B.pre w (List.mem_cons_of_mem _ hw), B.notSynchronized, hK, hD, hZs⟩
  have hL := lv_entry ([.ref (ad 10), .int v1]) (n := 2) (Nat.le_of_ble_eq_true rfl)
  rw [lg_entry_eq]
  generalize (lg_sl ([.ref (ad 10), .int v1]) ++ List.replicate (2 - (lg_sl ([.ref (ad 10), .int v1])).length) Slot.unset).toArray = ls at hL ⊢
  have hL : lv_has ls 2 [(0, .ref (ad 10)), (1, .int v1)] := hL
  unfold wpD_faultOfLength at h
  exact bD_faultOfLength_0 K B.returns hZ h (lv_sub hL [0, 1] rfl) hP va_S.rf
set_option maxRecDepth 100000 in
set_option maxHeartbeats 4000000 in
theorem bB_rowWith_2 {p : Program} {l : Launch} {e : Env} {s : State} {m : MethodId} {args : Array Value} {below : List Frame} {meth : Method} {c : Code} {D : va_G} {cI cJ cC cZ cR : ClassId} {ad kd sd vd : Nat → Nat} {kA lA wA : Nat} {A : Nat → Prop} (K : Cx p (rmX 0 0) s m args meth c cB_rowWith 3 "WordChecker$Book" gT D cls8 (tys5 cI cJ cC cZ cR) 64 ad A (ZX A kd sd vd kA lA wA)) (hr : meth.sig.returnType = (some .int)) (hZ : ZsOK A (ZX A kd sd vd kA lA wA)) {Φ : Int32 → HI → HL → Prop} {n : Nat} {v1 : Int32} {v2 : Int32} {hi : HI} {hl : HL} {H : Heap} {locs : List Loc} (h : wbB_rowWith_2 n v1 v2 hi hl Φ) {ls : Array Slot} (hL : lv_has ls 3 [(0, .ref (ad 5)), (1, .int v1), (2, .int v2)]) (hP : va_P D cls8 (wl 64 ad (GX cI cJ cC cZ cR ad kd) hi hl) H) (hS : va_S A s.heap H locs) : W p l e (rmX 0 0) s m args below meth c H locs 0 0 (MQ below (va_Qi (fun r (u : HI × HL) => Φ r u.1 u.2) (fun u t => va_P D cls8 (wl 64 ad (GX cI cJ cC cZ cR ad kd) u.1 u.2) t.heap) A) args s 0 0 A) (F0 m 2 ls []) := by
  induction n generalizing v1 v2 hi hl ls H locs with
  | zero => exact False.elim h
  | succ n ih =>
    unfold wbB_rowWith_2 at h
    refine lv_iload_n K.1 K.2.1 dB_rowWith_2 rfl (lv_at hL 2 rfl) ?_
    refine lv_aload_n K.1 K.2.1 dB_rowWith_3 rfl (lv_at hL 0 rfl) ?_
    refine x_get (v := .int (hi 5 2)) K hP hinB (ci := 2) rfl 5 (by decide) rfl 2 (by decide) flB_37 rfl rfl dB_rowWith_4 ?_
    refine lv_icmp_ge (tgt := 31) K.1 K.2.1 dB_rowWith_7 rfl (fun hc => ?_) (fun hc => ?_)
    · have h := h.1 hc
      refine lv_iconst (v := -1) K.1 K.2.1 dB_rowWith_31 (by decide) ?_
      exact x_iret K hr hP hS h dB_rowWith_32
    · have h := h.2 hc
      refine lv_aload_n K.1 K.2.1 dB_rowWith_10 rfl (lv_at hL 0 rfl) ?_
      refine x_get (v := .ref (ad 6)) K hP hinB (ci := 2) rfl 5 (by decide) rfl 0 (by decide) flB_11 rfl rfl dB_rowWith_11 ?_
      refine lv_iload_n K.1 K.2.1 dB_rowWith_14 rfl (lv_at hL 2 rfl) ?_
      obtain ⟨g1, h⟩ := h
      refine x_aald K hP 6 (by decide) 4 rfl rfl g1 (q := ad (24 + (v2.toNatClampNeg))) rfl dB_rowWith_15 ?_
      refine x_getN (v := .int (hi (24 + (v2.toNatClampNeg)) 0)) K hP hinL (ci := 6) rfl (24 + (v2.toNatClampNeg)) (lt_l (in_lt g1)) (GX_line _ (in_lt g1) _ _) 0 (by decide) (fnB_41 K.2.2.2.2.2.2.2.2) rfl rfl dB_rowWith_16 ?_
      refine lv_iload_n K.1 K.2.1 dB_rowWith_19 rfl (lv_at hL 1 rfl) ?_
      refine lv_icmp_ne (tgt := 25) K.1 K.2.1 dB_rowWith_20 rfl (fun hc => ?_) (fun hc => ?_)
      · have h := h.2 hc
        refine lv_iinc (k := 2) (lv' := [(2, .int (v2 + Int32.ofInt (1))), (0, .ref (ad 5)), (1, .int v1)]) K.1 K.2.1 dB_rowWith_25 hL rfl rfl (by decide) rfl (fun ls hL => ?_)
        refine lv_goto (tgt := 2) K.1 K.2.1 dB_rowWith_28 rfl ?_
        exact ih h (lv_sub hL [1, 2, 0] rfl) hP hS
      · have h := h.1 hc
        refine lv_iload_n K.1 K.2.1 dB_rowWith_23 rfl (lv_at hL 2 rfl) ?_
        exact x_iret K hr hP hS h dB_rowWith_24
set_option maxRecDepth 100000 in
set_option maxHeartbeats 4000000 in
theorem bB_rowWith_0 {p : Program} {l : Launch} {e : Env} {s : State} {m : MethodId} {args : Array Value} {below : List Frame} {meth : Method} {c : Code} {D : va_G} {cI cJ cC cZ cR : ClassId} {ad kd sd vd : Nat → Nat} {kA lA wA : Nat} {A : Nat → Prop} (K : Cx p (rmX 0 0) s m args meth c cB_rowWith 3 "WordChecker$Book" gT D cls8 (tys5 cI cJ cC cZ cR) 64 ad A (ZX A kd sd vd kA lA wA)) (hr : meth.sig.returnType = (some .int)) (hZ : ZsOK A (ZX A kd sd vd kA lA wA)) {Φ : Int32 → HI → HL → Prop} {v1 : Int32} {hi : HI} {hl : HL} {H : Heap} {locs : List Loc} (h : wbB_rowWith_0 v1 hi hl Φ) {ls : Array Slot} (hL : lv_has ls 3 [(0, .ref (ad 5)), (1, .int v1)]) (hP : va_P D cls8 (wl 64 ad (GX cI cJ cC cZ cR ad kd) hi hl) H) (hS : va_S A s.heap H locs) : W p l e (rmX 0 0) s m args below meth c H locs 0 0 (MQ below (va_Qi (fun r (u : HI × HL) => Φ r u.1 u.2) (fun u t => va_P D cls8 (wl 64 ad (GX cI cJ cC cZ cR ad kd) u.1 u.2) t.heap) A) args s 0 0 A) (F0 m 0 ls []) := by
  unfold wbB_rowWith_0 at h
  refine lv_iconst (v := 0) K.1 K.2.1 dB_rowWith_0 (by decide) ?_
  refine lv_istore_n (lv' := [(2, .int (0 : Int32)), (0, .ref (ad 5)), (1, .int v1)]) K.1 K.2.1 dB_rowWith_1 rfl hL (by decide) rfl (fun ls hL => ?_)
  obtain ⟨fu, h⟩ := h
  exact bB_rowWith_2 K hr hZ h (lv_sub hL [1, 2, 0] rfl) hP hS
set_option maxRecDepth 100000 in
set_option maxHeartbeats 4000000 in
theorem mB_rowWith {l : Launch} {D : va_G} {cI cJ cC cZ cR : ClassId} {ad kd sd vd : Nat → Nat} {kA lA wA : Nat} {A : Nat → Prop} (hZ : ZsOK A (ZX A kd sd vd kA lA wA)) (hD : wlD 64 ad A) {v1 : Int32} {hi : HI} {hl : HL} {Φ : Int32 → HI → HL → Prop} (h : wpB_rowWith v1 hi hl Φ) : SpI l yB_rowWith cB_rowWith 3 (some .int) gT 0 0 [.ref (ad 5), .int v1] D cls8 (tys5 cI cJ cC cZ cR) 64 ad (GX cI cJ cC cZ cR ad kd) A (ZX A kd sd vd kA lA wA) hi hl Φ := by
  refine Met.ofW (cc := cB_rowWith) (maxL := 3) (ret := (some .int)) (by decide) rfl ?_
  intro p e s m args below meth c s₁ B hml hv
  obtain ⟨rfl, hP, hK, hZs⟩ := hv
  have K : Cx p (rmX 0 0) s m _ meth c cB_rowWith 3 "WordChecker$Book" gT D cls8 (tys5 cI cJ cC cZ cR) 64 ad A (ZX A kd sd vd kA lA wA) := ⟨B.exec, B.bytes, hml, findClass_of_methodNamed B.named, fun w hw => atoms_spec B.pre w (List.mem_cons_of_mem _ hw), B.notSynchronized, hK, hD, hZs⟩
  have hL := lv_entry ([.ref (ad 5), .int v1]) (n := 3) (Nat.le_of_ble_eq_true rfl)
  rw [lg_entry_eq]
  generalize (lg_sl ([.ref (ad 5), .int v1]) ++ List.replicate (3 - (lg_sl ([.ref (ad 5), .int v1])).length) Slot.unset).toArray = ls at hL ⊢
  have hL : lv_has ls 3 [(0, .ref (ad 5)), (1, .int v1)] := hL
  unfold wpB_rowWith at h
  exact bB_rowWith_0 K B.returns hZ h (lv_sub hL [0, 1] rfl) hP va_S.rf
set_option maxRecDepth 100000 in
set_option maxHeartbeats 4000000 in
theorem bK_isNode_39 {p : Program} {l : Launch} {e : Env} {s : State} {m : MethodId} {args : Array Value} {below : List Frame} {meth : Method} {c : Code} {D : va_G} {cI cJ cC cZ cR : ClassId} {ad kd sd vd : Nat → Nat} {kA lA wA : Nat} {A : Nat → Prop} (K : Cx p (rmX 0 0) s m args meth c cK_isNode 1 "WordChecker$Kind" gT D cls8 (tys5 cI cJ cC cZ cR) 64 ad A (ZX A kd sd vd kA lA wA)) (hr : meth.sig.returnType = (some .boolean)) (hZ : ZsOK A (ZX A kd sd vd kA lA wA)) {Φ : Int32 → HI → HL → Prop} {hi : HI} {hl : HL} {H : Heap} {locs : List Loc} (h : wbK_isNode_39 hi hl Φ) {ls : Array Slot} (hL : lv_has ls 1 []) (hP : va_P D cls8 (wl 64 ad (GX cI cJ cC cZ cR ad kd) hi hl) H) (hS : va_S A s.heap H locs) : W p l e (rmX 0 0) s m args below meth c H locs 0 0 (MQ below (va_Qi (fun r (u : HI × HL) => Φ r u.1 u.2) (fun u t => va_P D cls8 (wl 64 ad (GX cI cJ cC cZ cR ad kd) u.1 u.2) t.heap) A) args s 0 0 A) (F0 m 39 ls []) := by
  unfold wbK_isNode_39 at h
  refine lv_iconst (v := 0) K.1 K.2.1 dK_isNode_39 (by decide) ?_
  obtain ⟨g1, h⟩ := h
  exact x_zret K hr hP hS g1 h dK_isNode_40
set_option maxRecDepth 100000 in
set_option maxHeartbeats 4000000 in
theorem bK_isNode_0 {p : Program} {l : Launch} {e : Env} {s : State} {m : MethodId} {args : Array Value} {below : List Frame} {meth : Method} {c : Code} {D : va_G} {cI cJ cC cZ cR : ClassId} {ad kd sd vd : Nat → Nat} {kA lA wA : Nat} {A : Nat → Prop} (K : Cx p (rmX 0 0) s m args meth c cK_isNode 1 "WordChecker$Kind" gT D cls8 (tys5 cI cJ cC cZ cR) 64 ad A (ZX A kd sd vd kA lA wA)) (hr : meth.sig.returnType = (some .boolean)) (hZ : ZsOK A (ZX A kd sd vd kA lA wA)) {Φ : Int32 → HI → HL → Prop} {v0 : Int32} {hi : HI} {hl : HL} {H : Heap} {locs : List Loc} (h : wbK_isNode_0 v0 hi hl Φ) {ls : Array Slot} (hL : lv_has ls 1 [(0, .ref (kd (v0.toNatClampNeg)))]) (hP : va_P D cls8 (wl 64 ad (GX cI cJ cC cZ cR ad kd) hi hl) H) (hS : va_S A s.heap H locs) : W p l e (rmX 0 0) s m args below meth c H locs 0 0 (MQ below (va_Qi (fun r (u : HI × HL) => Φ r u.1 u.2) (fun u t => va_P D cls8 (wl 64 ad (GX cI cJ cC cZ cR ad kd) u.1 u.2) t.heap) A) args s 0 0 A) (F0 m 0 ls []) := by
  unfold wbK_isNode_0 at h
  refine lv_aload_n K.1 K.2.1 dK_isNode_0 rfl (lv_at hL 0 rfl) ?_
  refine x_gets (v := .ref (kd ((0 : Int32).toNatClampNeg))) K hS (K.2.2.2.2.2.2.2.2.2.2.1 0 (by decide)).1 flK_3 dK_isNode_1 ?_
  obtain ⟨g1, h⟩ := h
  obtain ⟨g2, h⟩ := h
  refine x_aceq (x := v0) (y := (0 : Int32)) (tgt := 39) K g1 g2 dK_isNode_4 rfl (fun hc => ?_) (fun hc => ?_)
  · have h := h.1 hc
    exact bK_isNode_39 K hr hZ h (lv_sub hL [] rfl) hP hS
  · have h := h.2 hc
    refine lv_aload_n K.1 K.2.1 dK_isNode_7 rfl (lv_at hL 0 rfl) ?_
    refine x_gets (v := .ref (kd ((27 : Int32).toNatClampNeg))) K hS (K.2.2.2.2.2.2.2.2.2.2.1 27 (by decide)).1 flK_85 dK_isNode_8 ?_
    obtain ⟨g3, h⟩ := h
    obtain ⟨g4, h⟩ := h
    refine x_aceq (x := v0) (y := (27 : Int32)) (tgt := 39) K g3 g4 dK_isNode_11 rfl (fun hc => ?_) (fun hc => ?_)
    · have h := h.1 hc
      exact bK_isNode_39 K hr hZ h (lv_sub hL [] rfl) hP hS
    · have h := h.2 hc
      refine lv_aload_n K.1 K.2.1 dK_isNode_14 rfl (lv_at hL 0 rfl) ?_
      refine x_gets (v := .ref (kd ((28 : Int32).toNatClampNeg))) K hS (K.2.2.2.2.2.2.2.2.2.2.1 28 (by decide)).1 flK_88 dK_isNode_15 ?_
      obtain ⟨g5, h⟩ := h
      obtain ⟨g6, h⟩ := h
      refine x_aceq (x := v0) (y := (28 : Int32)) (tgt := 39) K g5 g6 dK_isNode_18 rfl (fun hc => ?_) (fun hc => ?_)
      · have h := h.1 hc
        exact bK_isNode_39 K hr hZ h (lv_sub hL [] rfl) hP hS
      · have h := h.2 hc
        refine lv_aload_n K.1 K.2.1 dK_isNode_21 rfl (lv_at hL 0 rfl) ?_
        refine x_gets (v := .ref (kd ((29 : Int32).toNatClampNeg))) K hS (K.2.2.2.2.2.2.2.2.2.2.1 29 (by decide)).1 flK_91 dK_isNode_22 ?_
        obtain ⟨g7, h⟩ := h
        obtain ⟨g8, h⟩ := h
        refine x_aceq (x := v0) (y := (29 : Int32)) (tgt := 39) K g7 g8 dK_isNode_25 rfl (fun hc => ?_) (fun hc => ?_)
        · have h := h.1 hc
          exact bK_isNode_39 K hr hZ h (lv_sub hL [] rfl) hP hS
        · have h := h.2 hc
          refine lv_aload_n K.1 K.2.1 dK_isNode_28 rfl (lv_at hL 0 rfl) ?_
          refine x_gets (v := .ref (kd ((30 : Int32).toNatClampNeg))) K hS (K.2.2.2.2.2.2.2.2.2.2.1 30 (by decide)).1 flK_94 dK_isNode_29 ?_
          obtain ⟨g9, h⟩ := h
          obtain ⟨g10, h⟩ := h
          refine x_aceq (x := v0) (y := (30 : Int32)) (tgt := 39) K g9 g10 dK_isNode_32 rfl (fun hc => ?_) (fun hc => ?_)
          · have h := h.1 hc
            exact bK_isNode_39 K hr hZ h (lv_sub hL [] rfl) hP hS
          · have h := h.2 hc
            refine lv_iconst (v := 1) K.1 K.2.1 dK_isNode_35 (by decide) ?_
            refine lv_goto (tgt := 40) K.1 K.2.1 dK_isNode_36 rfl ?_
            obtain ⟨g11, h⟩ := h
            exact x_zret K hr hP hS g11 h dK_isNode_40
set_option maxRecDepth 100000 in
set_option maxHeartbeats 4000000 in
theorem mK_isNode {l : Launch} {D : va_G} {cI cJ cC cZ cR : ClassId} {ad kd sd vd : Nat → Nat} {kA lA wA : Nat} {A : Nat → Prop} (hZ : ZsOK A (ZX A kd sd vd kA lA wA)) (hD : wlD 64 ad A) {v0 : Int32} {hi : HI} {hl : HL} {Φ : Int32 → HI → HL → Prop} (h : wpK_isNode v0 hi hl Φ) : SpI l yK_isNode cK_isNode 1 (some .boolean) gT 0 0 [.ref (kd (v0.toNatClampNeg))] D cls8 (tys5 cI cJ cC cZ cR) 64 ad (GX cI cJ cC cZ cR ad kd) A (ZX A kd sd vd kA lA wA) hi hl Φ := by
  refine Met.ofW (cc := cK_isNode) (maxL := 1) (ret := (some .boolean)) (by decide) rfl ?_
  intro p e s m args below meth c s₁ B hml hv
  obtain ⟨rfl, hP, hK, hZs⟩ := hv
  have K : Cx p (rmX 0 0) s m _ meth c cK_isNode 1 "WordChecker$Kind" gT D cls8 (tys5 cI cJ cC cZ cR) 64 ad A (ZX A kd sd vd kA lA wA) := ⟨B.exec, B.bytes, hml, findClass_of_methodNamed B.named, fun w hw => atoms_spec B.pre w (List.mem_cons_of_mem _ hw), B.notSynchronized, hK, hD, hZs⟩
  have hL := lv_entry ([.ref (kd (v0.toNatClampNeg))]) (n := 1) (Nat.le_of_ble_eq_true rfl)
  rw [lg_entry_eq]
  generalize (lg_sl ([.ref (kd (v0.toNatClampNeg))]) ++ List.replicate (1 - (lg_sl ([.ref (kd (v0.toNatClampNeg))])).length) Slot.unset).toArray = ls at hL ⊢
  have hL : lv_has ls 1 [(0, .ref (kd (v0.toNatClampNeg)))] := hL
  unfold wpK_isNode at h
  exact bK_isNode_0 K B.returns hZ h (lv_sub hL [0] rfl) hP va_S.rf
set_option maxRecDepth 100000 in
set_option maxHeartbeats 4000000 in
theorem bB_nodeWith_30 {p : Program} {l : Launch} {e : Env} {s : State} {m : MethodId} {args : Array Value} {below : List Frame} {meth : Method} {c : Code} {D : va_G} {cI cJ cC cZ cR : ClassId} {ad kd sd vd : Nat → Nat} {kA lA wA : Nat} {A : Nat → Prop} (K : Cx p (rmX 1 22) s m args meth c cB_nodeWith 3 "WordChecker$Book" gT D cls8 (tys5 cI cJ cC cZ cR) 64 ad A (ZX A kd sd vd kA lA wA)) (hr : meth.sig.returnType = (some .int)) (hZ : ZsOK A (ZX A kd sd vd kA lA wA)) {Φ : Int32 → HI → HL → Prop} {hi : HI} {hl : HL} {H : Heap} {locs : List Loc} (h : wbB_nodeWith_30 hi hl Φ) {ls : Array Slot} (hL : lv_has ls 3 []) (hP : va_P D cls8 (wl 64 ad (GX cI cJ cC cZ cR ad kd) hi hl) H) (hS : va_S A s.heap H locs) : W p l e (rmX 1 22) s m args below meth c H locs 0 0 (MQ below (va_Qi (fun r (u : HI × HL) => Φ r u.1 u.2) (fun u t => va_P D cls8 (wl 64 ad (GX cI cJ cC cZ cR ad kd) u.1 u.2) t.heap) A) args s 0 0 A) (F0 m 30 ls []) := by
  unfold wbB_nodeWith_30 at h
  refine lv_iconst (v := -1) K.1 K.2.1 dB_nodeWith_30 (by decide) ?_
  exact x_iret K hr hP hS h dB_nodeWith_31
set_option maxRecDepth 100000 in
set_option maxHeartbeats 4000000 in
theorem bB_nodeWith_0 {p : Program} {l : Launch} {e : Env} {s : State} {m : MethodId} {args : Array Value} {below : List Frame} {meth : Method} {c : Code} {D : va_G} {cI cJ cC cZ cR : ClassId} {ad kd sd vd : Nat → Nat} {kA lA wA : Nat} {A : Nat → Prop} (K : Cx p (rmX 1 22) s m args meth c cB_nodeWith 3 "WordChecker$Book" gT D cls8 (tys5 cI cJ cC cZ cR) 64 ad A (ZX A kd sd vd kA lA wA)) (hr : meth.sig.returnType = (some .int)) (hZ : ZsOK A (ZX A kd sd vd kA lA wA)) {Φ : Int32 → HI → HL → Prop} {v1 : Int32} {hi : HI} {hl : HL} {H : Heap} {locs : List Loc} (h : wbB_nodeWith_0 v1 hi hl Φ) {ls : Array Slot} (hL : lv_has ls 3 [(0, .ref (ad 5)), (1, .int v1)]) (hP : va_P D cls8 (wl 64 ad (GX cI cJ cC cZ cR ad kd) hi hl) H) (hS : va_S A s.heap H locs) : W p l e (rmX 1 22) s m args below meth c H locs 0 0 (MQ below (va_Qi (fun r (u : HI × HL) => Φ r u.1 u.2) (fun u t => va_P D cls8 (wl 64 ad (GX cI cJ cC cZ cR ad kd) u.1 u.2) t.heap) A) args s 0 0 A) (F0 m 0 ls []) := by
  unfold wbB_nodeWith_0 at h
  refine lv_aload_n K.1 K.2.1 dB_nodeWith_0 rfl (lv_at hL 0 rfl) ?_
  refine lv_iload_n K.1 K.2.1 dB_nodeWith_1 rfl (lv_at hL 1 rfl) ?_
  refine x_cVI (As := [.int v1]) (rest := []) K gT_good hZ hP hS calB_rowWith mlB_44 5 (by decide) rfl rfl (mB_rowWith hZ K.2.2.2.2.2.2.2.1 h) ⟨Nat.le_of_ble_eq_true rfl, Nat.le_of_ble_eq_true rfl⟩ rfl hL.1 rfl (Nat.le_of_ble_eq_true rfl) dB_nodeWith_2 (fun r1 hi2 hl3 H locs h hP hS => ?_)
  refine lv_istore_n (lv' := [(2, .int r1), (0, .ref (ad 5)), (1, .int v1)]) K.1 K.2.1 dB_nodeWith_5 rfl hL (by decide) rfl (fun ls hL => ?_)
  refine lv_iload_n K.1 K.2.1 dB_nodeWith_6 rfl (lv_at hL 0 rfl) ?_
  refine lv_iconst (v := -1) K.1 K.2.1 dB_nodeWith_7 (by decide) ?_
  refine lv_icmp_eq (tgt := 30) K.1 K.2.1 dB_nodeWith_8 rfl (fun hc => ?_) (fun hc => ?_)
  · have h := h.1 hc
    exact bB_nodeWith_30 K hr hZ h (lv_sub hL [] rfl) hP hS
  · have h := h.2 hc
    refine lv_aload_n K.1 K.2.1 dB_nodeWith_11 rfl (lv_at hL 1 rfl) ?_
    refine x_get (v := .ref (ad 6)) K hP hinB (ci := 2) rfl 5 (by decide) rfl 0 (by decide) flB_11 rfl rfl dB_nodeWith_12 ?_
    refine lv_iload_n K.1 K.2.1 dB_nodeWith_15 rfl (lv_at hL 0 rfl) ?_
    obtain ⟨g4, h⟩ := h
    refine x_aald K hP 6 (by decide) 4 rfl rfl g4 (q := ad (24 + (r1.toNatClampNeg))) rfl dB_nodeWith_16 ?_
    refine x_getN (v := va_rf (kOf kd (hi2 (24 + (r1.toNatClampNeg)) 1))) K hP hinL (ci := 6) rfl (24 + (r1.toNatClampNeg)) (lt_l (in_lt g4)) (GX_line _ (in_lt g4) _ _) 1 (by decide) (fnB_48 K.2.2.2.2.2.2.2.2) rfl rfl dB_nodeWith_17 ?_
    obtain ⟨g5, h⟩ := h
    rw [kOf_in g5]
    refine x_cRI (As := []) (rest := []) K gT_good hZ hP hS calK_isNode mlB_52 (K.2.2.2.2.2.2.2.2.2.2.1 _ (in_lt g5)).2.1 (mK_isNode hZ K.2.2.2.2.2.2.2.1 h) ⟨Nat.le_of_ble_eq_true rfl, Nat.le_of_ble_eq_true rfl⟩ rfl hL.1 rfl (Nat.le_of_ble_eq_true rfl) dB_nodeWith_20 (fun r6 hi7 hl8 H locs h hP hS => ?_)
    refine lv_if_eq (tgt := 30) K.1 K.2.1 dB_nodeWith_23 rfl (fun hc => ?_) (fun hc => ?_)
    · have h := h.1 hc
      exact bB_nodeWith_30 K hr hZ h (lv_sub hL [] rfl) hP hS
    · have h := h.2 hc
      refine lv_iload_n K.1 K.2.1 dB_nodeWith_26 rfl (lv_at hL 0 rfl) ?_
      refine lv_goto (tgt := 31) K.1 K.2.1 dB_nodeWith_27 rfl ?_
      exact x_iret K hr hP hS h dB_nodeWith_31
set_option maxRecDepth 100000 in
set_option maxHeartbeats 4000000 in
theorem mB_nodeWith {l : Launch} {D : va_G} {cI cJ cC cZ cR : ClassId} {ad kd sd vd : Nat → Nat} {kA lA wA : Nat} {A : Nat → Prop} (hZ : ZsOK A (ZX A kd sd vd kA lA wA)) (hD : wlD 64 ad A) {v1 : Int32} {hi : HI} {hl : HL} {Φ : Int32 → HI → HL → Prop} (h : wpB_nodeWith v1 hi hl Φ) : SpI l yB_nodeWith cB_nodeWith 3 (some .int) gT 1 22 [.ref (ad 5), .int v1] D cls8 (tys5 cI cJ cC cZ cR) 64 ad (GX cI cJ cC cZ cR ad kd) A (ZX A kd sd vd kA lA wA) hi hl Φ := by
  refine Met.ofW (cc := cB_nodeWith) (maxL := 3) (ret := (some .int)) (by decide) rfl ?_
  intro p e s m args below meth c s₁ B hml hv
  obtain ⟨rfl, hP, hK, hZs⟩ := hv
  have K : Cx p (rmX 1 22) s m _ meth c cB_nodeWith 3 "WordChecker$Book" gT D cls8 (tys5 cI cJ cC cZ cR) 64 ad A (ZX A kd sd vd kA lA wA) := ⟨B.exec, B.bytes, hml, findClass_of_methodNamed B.named, fun w hw => atoms_spec B.pre w (List.mem_cons_of_mem _ hw), B.notSynchronized, hK, hD, hZs⟩
  have hL := lv_entry ([.ref (ad 5), .int v1]) (n := 3) (Nat.le_of_ble_eq_true rfl)
  rw [lg_entry_eq]
  generalize (lg_sl ([.ref (ad 5), .int v1]) ++ List.replicate (3 - (lg_sl ([.ref (ad 5), .int v1])).length) Slot.unset).toArray = ls at hL ⊢
  have hL : lv_has ls 3 [(0, .ref (ad 5)), (1, .int v1)] := hL
  unfold wpB_nodeWith at h
  exact bB_nodeWith_0 K B.returns hZ h (lv_sub hL [0, 1] rfl) hP va_S.rf
set_option maxRecDepth 100000 in
set_option maxHeartbeats 4000000 in
theorem bD_isStateAsS_29 {p : Program} {l : Launch} {e : Env} {s : State} {m : MethodId} {args : Array Value} {below : List Frame} {meth : Method} {c : Code} {D : va_G} {cI cJ cC cZ cR : ClassId} {ad kd sd vd : Nat → Nat} {kA lA wA : Nat} {A : Nat → Prop} (K : Cx p (rmX 0 0) s m args meth c cD_isStateAsS 3 "WordChecker$Draft" gT D cls8 (tys5 cI cJ cC cZ cR) 64 ad A (ZX A kd sd vd kA lA wA)) (hr : meth.sig.returnType = (some .boolean)) (hZ : ZsOK A (ZX A kd sd vd kA lA wA)) {Φ : Int32 → HI → HL → Prop} {hi : HI} {hl : HL} {H : Heap} {locs : List Loc} (h : wbD_isStateAsS_29 hi hl Φ) {ls : Array Slot} (hL : lv_has ls 3 []) (hP : va_P D cls8 (wl 64 ad (GX cI cJ cC cZ cR ad kd) hi hl) H) (hS : va_S A s.heap H locs) : W p l e (rmX 0 0) s m args below meth c H locs 0 0 (MQ below (va_Qi (fun r (u : HI × HL) => Φ r u.1 u.2) (fun u t => va_P D cls8 (wl 64 ad (GX cI cJ cC cZ cR ad kd) u.1 u.2) t.heap) A) args s 0 0 A) (F0 m 29 ls []) := by
  unfold wbD_isStateAsS_29 at h
  refine lv_iconst (v := 0) K.1 K.2.1 dD_isStateAsS_29 (by decide) ?_
  obtain ⟨g1, h⟩ := h
  exact x_zret K hr hP hS g1 h dD_isStateAsS_30
set_option maxRecDepth 100000 in
set_option maxHeartbeats 4000000 in
theorem bD_isStateAsS_0 {p : Program} {l : Launch} {e : Env} {s : State} {m : MethodId} {args : Array Value} {below : List Frame} {meth : Method} {c : Code} {D : va_G} {cI cJ cC cZ cR : ClassId} {ad kd sd vd : Nat → Nat} {kA lA wA : Nat} {A : Nat → Prop} (K : Cx p (rmX 0 0) s m args meth c cD_isStateAsS 3 "WordChecker$Draft" gT D cls8 (tys5 cI cJ cC cZ cR) 64 ad A (ZX A kd sd vd kA lA wA)) (hr : meth.sig.returnType = (some .boolean)) (hZ : ZsOK A (ZX A kd sd vd kA lA wA)) {Φ : Int32 → HI → HL → Prop} {v1 : Nat} {v2 : Int32} {hi : HI} {hl : HL} {H : Heap} {locs : List Loc} (h : wbD_isStateAsS_0 v1 v2 hi hl Φ) (hv1 : v1 < 20) {ls : Array Slot} (hL : lv_has ls 3 [(0, .ref (ad 10)), (1, .ref (ad (24 + v1))), (2, .int v2)]) (hP : va_P D cls8 (wl 64 ad (GX cI cJ cC cZ cR ad kd) hi hl) H) (hS : va_S A s.heap H locs) : W p l e (rmX 0 0) s m args below meth c H locs 0 0 (MQ below (va_Qi (fun r (u : HI × HL) => Φ r u.1 u.2) (fun u t => va_P D cls8 (wl 64 ad (GX cI cJ cC cZ cR ad kd) u.1 u.2) t.heap) A) args s 0 0 A) (F0 m 0 ls []) := by
  unfold wbD_isStateAsS_0 at h
  refine lv_iload_n K.1 K.2.1 dD_isStateAsS_0 rfl (lv_at hL 2 rfl) ?_
  refine lv_if_ne (tgt := 29) K.1 K.2.1 dD_isStateAsS_1 rfl (fun hc => ?_) (fun hc => ?_)
  · have h := h.2 hc
    exact bD_isStateAsS_29 K hr hZ h (lv_sub hL [] rfl) hP hS
  · have h := h.1 hc
    refine lv_aload_n K.1 K.2.1 dD_isStateAsS_4 rfl (lv_at hL 1 rfl) ?_
    refine x_getN (v := va_rf (kOf kd (hi (24 + v1) 1))) K hP hinL (ci := 6) rfl (24 + v1) (lt_l hv1) (GX_line _ hv1 _ _) 1 (by decide) (fnD_175 K.2.2.2.2.2.2.2.2) rfl rfl dD_isStateAsS_5 ?_
    refine x_gets (v := .ref (kd ((2 : Int32).toNatClampNeg))) K hS (K.2.2.2.2.2.2.2.2.2.2.1 2 (by decide)).1 flD_176 dD_isStateAsS_8 ?_
    obtain ⟨g1, h⟩ := h
    obtain ⟨g2, h⟩ := h
    rw [kOf_in g1]
    refine x_acne (x := (hi (24 + v1) 1)) (y := (2 : Int32)) (tgt := 29) K g1 g2 dD_isStateAsS_11 rfl (fun hc => ?_) (fun hc => ?_)
    · have h := h.2 hc
      exact bD_isStateAsS_29 K hr hZ h (lv_sub hL [] rfl) hP hS
    · have h := h.1 hc
      refine lv_aload_n K.1 K.2.1 dD_isStateAsS_14 rfl (lv_at hL 1 rfl) ?_
      refine x_getN (v := .int (hi (24 + v1) 2)) K hP hinL (ci := 6) rfl (24 + v1) (lt_l hv1) (GX_line _ hv1 _ _) 2 (by decide) (fnD_154 K.2.2.2.2.2.2.2.2) rfl rfl dD_isStateAsS_15 ?_
      refine lv_aload_n K.1 K.2.1 dD_isStateAsS_18 rfl (lv_at hL 0 rfl) ?_
      refine x_get (v := .int (hi 10 4)) K hP hinD (ci := 3) rfl 10 (by decide) rfl 4 (by decide) flD_106 rfl rfl dD_isStateAsS_19 ?_
      refine lv_icmp_ne (tgt := 29) K.1 K.2.1 dD_isStateAsS_22 rfl (fun hc => ?_) (fun hc => ?_)
      · have h := h.2 hc
        exact bD_isStateAsS_29 K hr hZ h (lv_sub hL [] rfl) hP hS
      · have h := h.1 hc
        refine lv_iconst (v := 1) K.1 K.2.1 dD_isStateAsS_25 (by decide) ?_
        refine lv_goto (tgt := 30) K.1 K.2.1 dD_isStateAsS_26 rfl ?_
        obtain ⟨g3, h⟩ := h
        exact x_zret K hr hP hS g3 h dD_isStateAsS_30
set_option maxRecDepth 100000 in
set_option maxHeartbeats 4000000 in
theorem mD_isStateAsS {l : Launch} {D : va_G} {cI cJ cC cZ cR : ClassId} {ad kd sd vd : Nat → Nat} {kA lA wA : Nat} {A : Nat → Prop} (hZ : ZsOK A (ZX A kd sd vd kA lA wA)) (hD : wlD 64 ad A) {v1 : Nat} {v2 : Int32} (hv1 : v1 < 20) {hi : HI} {hl : HL} {Φ : Int32 → HI → HL → Prop} (h : wpD_isStateAsS v1 v2 hi hl Φ) : SpI l yD_isStateAsS cD_isStateAsS 3 (some .boolean) gT 0 0 [.ref (ad 10), .ref (ad (24 + v1)), .int v2] D cls8 (tys5 cI cJ cC cZ cR) 64 ad (GX cI cJ cC cZ cR ad kd) A (ZX A kd sd vd kA lA wA) hi hl Φ := by
  refine Met.ofW (cc := cD_isStateAsS) (maxL := 3) (ret := (some .boolean)) (by decide) rfl ?_
  intro p e s m args below meth c s₁ B hml hv
  obtain ⟨rfl, hP, hK, hZs⟩ := hv
  have K : Cx p (rmX 0 0) s m _ meth c cD_isStateAsS 3 "WordChecker$Draft" gT D cls8 (tys5 cI cJ cC cZ cR) 64 ad A (ZX A kd sd vd kA lA wA) := ⟨B.exec, B.bytes, hml, findClass_of_methodNamed B.named, fun w hw => atoms_spec B.pre w (List.mem_cons_of_mem _ hw), B.notSynchronized, hK, hD, hZs⟩
  have hL := lv_entry ([.ref (ad 10), .ref (ad (24 + v1)), .int v2]) (n := 3) (Nat.le_of_ble_eq_true rfl)
  rw [lg_entry_eq]
  generalize (lg_sl ([.ref (ad 10), .ref (ad (24 + v1)), .int v2]) ++ List.replicate (3 - (lg_sl ([.ref (ad 10), .ref (ad (24 + v1)), .int v2])).length) Slot.unset).toArray = ls at hL ⊢
  have hL : lv_has ls 3 [(0, .ref (ad 10)), (1, .ref (ad (24 + v1))), (2, .int v2)] := hL
  unfold wpD_isStateAsS at h
  exact bD_isStateAsS_0 K B.returns hZ h hv1 (lv_sub hL [0, 1, 2] rfl) hP va_S.rf
set_option maxRecDepth 100000 in
set_option maxHeartbeats 4000000 in
theorem bD_suits_322 {p : Program} {l : Launch} {e : Env} {s : State} {m : MethodId} {args : Array Value} {below : List Frame} {meth : Method} {c : Code} {D : va_G} {cI cJ cC cZ cR : ClassId} {ad kd sd vd : Nat → Nat} {kA lA wA : Nat} {A : Nat → Prop} (K : Cx p (rmX 1 22) s m args meth c cD_suits 4 "WordChecker$Draft" gT D cls8 (tys5 cI cJ cC cZ cR) 64 ad A (ZX A kd sd vd kA lA wA)) (hr : meth.sig.returnType = (some .boolean)) (hZ : ZsOK A (ZX A kd sd vd kA lA wA)) {Φ : Int32 → HI → HL → Prop} {hi : HI} {hl : HL} {H : Heap} {locs : List Loc} (h : wbD_suits_322 hi hl Φ) {ls : Array Slot} (hL : lv_has ls 4 []) (hP : va_P D cls8 (wl 64 ad (GX cI cJ cC cZ cR ad kd) hi hl) H) (hS : va_S A s.heap H locs) : W p l e (rmX 1 22) s m args below meth c H locs 0 0 (MQ below (va_Qi (fun r (u : HI × HL) => Φ r u.1 u.2) (fun u t => va_P D cls8 (wl 64 ad (GX cI cJ cC cZ cR ad kd) u.1 u.2) t.heap) A) args s 0 0 A) (F0 m 322 ls []) := by
  unfold wbD_suits_322 at h
  refine lv_iconst (v := 0) K.1 K.2.1 dD_suits_322 (by decide) ?_
  obtain ⟨g1, h⟩ := h
  exact x_zret K hr hP hS g1 h dD_suits_323
set_option maxRecDepth 100000 in
set_option maxHeartbeats 4000000 in
theorem bD_suits_276 {p : Program} {l : Launch} {e : Env} {s : State} {m : MethodId} {args : Array Value} {below : List Frame} {meth : Method} {c : Code} {D : va_G} {cI cJ cC cZ cR : ClassId} {ad kd sd vd : Nat → Nat} {kA lA wA : Nat} {A : Nat → Prop} (K : Cx p (rmX 1 22) s m args meth c cD_suits 4 "WordChecker$Draft" gT D cls8 (tys5 cI cJ cC cZ cR) 64 ad A (ZX A kd sd vd kA lA wA)) (hr : meth.sig.returnType = (some .boolean)) (hZ : ZsOK A (ZX A kd sd vd kA lA wA)) {Φ : Int32 → HI → HL → Prop} {hi : HI} {hl : HL} {H : Heap} {locs : List Loc} (h : wbD_suits_276 hi hl Φ) {ls : Array Slot} (hL : lv_has ls 4 []) (hP : va_P D cls8 (wl 64 ad (GX cI cJ cC cZ cR ad kd) hi hl) H) (hS : va_S A s.heap H locs) : W p l e (rmX 1 22) s m args below meth c H locs 0 0 (MQ below (va_Qi (fun r (u : HI × HL) => Φ r u.1 u.2) (fun u t => va_P D cls8 (wl 64 ad (GX cI cJ cC cZ cR ad kd) u.1 u.2) t.heap) A) args s 0 0 A) (F0 m 276 ls []) := by
  unfold wbD_suits_276 at h
  refine lv_iconst (v := 0) K.1 K.2.1 dD_suits_276 (by decide) ?_
  obtain ⟨g1, h⟩ := h
  exact x_zret K hr hP hS g1 h dD_suits_277
set_option maxRecDepth 100000 in
set_option maxHeartbeats 4000000 in
theorem bD_suits_298 {p : Program} {l : Launch} {e : Env} {s : State} {m : MethodId} {args : Array Value} {below : List Frame} {meth : Method} {c : Code} {D : va_G} {cI cJ cC cZ cR : ClassId} {ad kd sd vd : Nat → Nat} {kA lA wA : Nat} {A : Nat → Prop} (K : Cx p (rmX 1 22) s m args meth c cD_suits 4 "WordChecker$Draft" gT D cls8 (tys5 cI cJ cC cZ cR) 64 ad A (ZX A kd sd vd kA lA wA)) (hr : meth.sig.returnType = (some .boolean)) (hZ : ZsOK A (ZX A kd sd vd kA lA wA)) {Φ : Int32 → HI → HL → Prop} {hi : HI} {hl : HL} {H : Heap} {locs : List Loc} (h : wbD_suits_298 hi hl Φ) {ls : Array Slot} (hL : lv_has ls 4 []) (hP : va_P D cls8 (wl 64 ad (GX cI cJ cC cZ cR ad kd) hi hl) H) (hS : va_S A s.heap H locs) : W p l e (rmX 1 22) s m args below meth c H locs 0 0 (MQ below (va_Qi (fun r (u : HI × HL) => Φ r u.1 u.2) (fun u t => va_P D cls8 (wl 64 ad (GX cI cJ cC cZ cR ad kd) u.1 u.2) t.heap) A) args s 0 0 A) (F0 m 298 ls []) := by
  unfold wbD_suits_298 at h
  refine lv_iconst (v := 0) K.1 K.2.1 dD_suits_298 (by decide) ?_
  obtain ⟨g1, h⟩ := h
  exact x_zret K hr hP hS g1 h dD_suits_299
set_option maxRecDepth 100000 in
set_option maxHeartbeats 4000000 in
theorem bD_suits_0 {p : Program} {l : Launch} {e : Env} {s : State} {m : MethodId} {args : Array Value} {below : List Frame} {meth : Method} {c : Code} {D : va_G} {cI cJ cC cZ cR : ClassId} {ad kd sd vd : Nat → Nat} {kA lA wA : Nat} {A : Nat → Prop} (K : Cx p (rmX 1 22) s m args meth c cD_suits 4 "WordChecker$Draft" gT D cls8 (tys5 cI cJ cC cZ cR) 64 ad A (ZX A kd sd vd kA lA wA)) (hr : meth.sig.returnType = (some .boolean)) (hZ : ZsOK A (ZX A kd sd vd kA lA wA)) {Φ : Int32 → HI → HL → Prop} {v1 : Int32} {v2 : Nat} {v3 : Int32} {hi : HI} {hl : HL} {H : Heap} {locs : List Loc} (h : wbD_suits_0 v1 v2 v3 hi hl Φ) (hv2 : v2 < 20) {ls : Array Slot} (hL : lv_has ls 4 [(0, .ref (ad 10)), (1, .int v1), (2, .ref (ad (24 + v2))), (3, .int v3)]) (hP : va_P D cls8 (wl 64 ad (GX cI cJ cC cZ cR ad kd) hi hl) H) (hS : va_S A s.heap H locs) : W p l e (rmX 1 22) s m args below meth c H locs 0 0 (MQ below (va_Qi (fun r (u : HI × HL) => Φ r u.1 u.2) (fun u t => va_P D cls8 (wl 64 ad (GX cI cJ cC cZ cR ad kd) u.1 u.2) t.heap) A) args s 0 0 A) (F0 m 0 ls []) := by
  unfold wbD_suits_0 at h
  refine lv_iload_n K.1 K.2.1 dD_suits_0 rfl (lv_at hL 1 rfl) ?_
  by_cases hc0 : v1 = 98
  · have h := h.1 hc0
    refine lv_tableIn (off := 113) (tgt := 114) K.1 K.2.1 dD_suits_1 (by rw [hc0]; decide) (by rw [hc0]; decide) (by rw [hc0]; rfl) rfl ?_
    refine lv_aload_n K.1 K.2.1 dD_suits_114 rfl (lv_at hL 2 rfl) ?_
    refine x_getN (v := .int (hi (24 + v2) 2)) K hP hinL (ci := 6) rfl (24 + v2) (lt_l hv2) (GX_line _ hv2 _ _) 2 (by decide) (fnD_154 K.2.2.2.2.2.2.2.2) rfl rfl dD_suits_115 ?_
    refine x_cSNI (As := [.int (hi (24 + v2) 2)]) (rest := []) K gT_good hZ hP hS calC_isArray (mnD_114 K.2.2.2.2.2.2.2.2) (mC_isArray hZ K.2.2.2.2.2.2.2.1 h) ⟨Nat.le_of_ble_eq_true rfl, Nat.le_of_ble_eq_true rfl⟩ rfl hL.1 rfl (Nat.le_of_ble_eq_true rfl) dD_suits_118 (fun r1 hi2 hl3 H locs h hP hS => ?_)
    refine lv_if_ne (tgt := 128) K.1 K.2.1 dD_suits_121 rfl (fun hc => ?_) (fun hc => ?_)
    · have h := h.2 hc
      refine lv_iconst (v := 0) K.1 K.2.1 dD_suits_128 (by decide) ?_
      obtain ⟨g4, h⟩ := h
      exact x_zret K hr hP hS g4 h dD_suits_129
    · have h := h.1 hc
      refine lv_iconst (v := 1) K.1 K.2.1 dD_suits_124 (by decide) ?_
      refine lv_goto (tgt := 129) K.1 K.2.1 dD_suits_125 rfl ?_
      obtain ⟨g5, h⟩ := h
      exact x_zret K hr hP hS g5 h dD_suits_129
  by_cases hc1 : v1 = 99
  · have h := h.2.1 hc1
    refine lv_tableIn (off := 323) (tgt := 324) K.1 K.2.1 dD_suits_1 (by rw [hc1]; decide) (by rw [hc1]; decide) (by rw [hc1]; rfl) rfl ?_
    refine lv_iconst (v := 0) K.1 K.2.1 dD_suits_324 (by decide) ?_
    obtain ⟨g6, h⟩ := h
    exact x_zret K hr hP hS g6 h dD_suits_325
  by_cases hc2 : v1 = 100
  · have h := h.2.2.1 hc2
    refine lv_tableIn (off := 323) (tgt := 324) K.1 K.2.1 dD_suits_1 (by rw [hc2]; decide) (by rw [hc2]; decide) (by rw [hc2]; rfl) rfl ?_
    refine lv_iconst (v := 0) K.1 K.2.1 dD_suits_324 (by decide) ?_
    obtain ⟨g7, h⟩ := h
    exact x_zret K hr hP hS g7 h dD_suits_325
  by_cases hc3 : v1 = 101
  · have h := h.2.2.2.1 hc3
    refine lv_tableIn (off := 235) (tgt := 236) K.1 K.2.1 dD_suits_1 (by rw [hc3]; decide) (by rw [hc3]; decide) (by rw [hc3]; rfl) rfl ?_
    refine lv_aload_n K.1 K.2.1 dD_suits_236 rfl (lv_at hL 2 rfl) ?_
    refine x_getN (v := .int (hi (24 + v2) 2)) K hP hinL (ci := 6) rfl (24 + v2) (lt_l hv2) (GX_line _ hv2 _ _) 2 (by decide) (fnD_154 K.2.2.2.2.2.2.2.2) rfl rfl dD_suits_237 ?_
    refine lv_aload_n K.1 K.2.1 dD_suits_240 rfl (lv_at hL 0 rfl) ?_
    refine x_get (v := .int (hi 10 4)) K hP hinD (ci := 3) rfl 10 (by decide) rfl 4 (by decide) flD_106 rfl rfl dD_suits_241 ?_
    refine lv_iconst (v := 4) K.1 K.2.1 dD_suits_244 (by decide) ?_
    refine lv_isub K.1 K.2.1 dD_suits_245 ?_
    refine lv_icmp_ne (tgt := 253) K.1 K.2.1 dD_suits_246 rfl (fun hc => ?_) (fun hc => ?_)
    · have h := h.2 hc
      refine lv_iconst (v := 0) K.1 K.2.1 dD_suits_253 (by decide) ?_
      obtain ⟨g8, h⟩ := h
      exact x_zret K hr hP hS g8 h dD_suits_254
    · have h := h.1 hc
      refine lv_iconst (v := 1) K.1 K.2.1 dD_suits_249 (by decide) ?_
      refine lv_goto (tgt := 254) K.1 K.2.1 dD_suits_250 rfl ?_
      obtain ⟨g9, h⟩ := h
      exact x_zret K hr hP hS g9 h dD_suits_254
  by_cases hc4 : v1 = 102
  · have h := h.2.2.2.2.1 hc4
    refine lv_tableIn (off := 299) (tgt := 300) K.1 K.2.1 dD_suits_1 (by rw [hc4]; decide) (by rw [hc4]; decide) (by rw [hc4]; rfl) rfl ?_
    refine lv_aload_n K.1 K.2.1 dD_suits_300 rfl (lv_at hL 2 rfl) ?_
    refine x_getN (v := .int (hi (24 + v2) 2)) K hP hinL (ci := 6) rfl (24 + v2) (lt_l hv2) (GX_line _ hv2 _ _) 2 (by decide) (fnD_154 K.2.2.2.2.2.2.2.2) rfl rfl dD_suits_301 ?_
    refine lv_aload_n K.1 K.2.1 dD_suits_304 rfl (lv_at hL 0 rfl) ?_
    refine x_get (v := .int (hi 10 4)) K hP hinD (ci := 3) rfl 10 (by decide) rfl 4 (by decide) flD_106 rfl rfl dD_suits_305 ?_
    refine lv_icmp_ne (tgt := 322) K.1 K.2.1 dD_suits_308 rfl (fun hc => ?_) (fun hc => ?_)
    · have h := h.2 hc
      exact bD_suits_322 K hr hZ h (lv_sub hL [] rfl) hP hS
    · have h := h.1 hc
      refine lv_aload_n K.1 K.2.1 dD_suits_311 rfl (lv_at hL 2 rfl) ?_
      refine x_getN (v := .int (hi (24 + v2) 3)) K hP hinL (ci := 6) rfl (24 + v2) (lt_l hv2) (GX_line _ hv2 _ _) 3 (by decide) (fnD_172 K.2.2.2.2.2.2.2.2) rfl rfl dD_suits_312 ?_
      refine lv_if_eq (tgt := 322) K.1 K.2.1 dD_suits_315 rfl (fun hc => ?_) (fun hc => ?_)
      · have h := h.1 hc
        exact bD_suits_322 K hr hZ h (lv_sub hL [] rfl) hP hS
      · have h := h.2 hc
        refine lv_iconst (v := 1) K.1 K.2.1 dD_suits_318 (by decide) ?_
        refine lv_goto (tgt := 323) K.1 K.2.1 dD_suits_319 rfl ?_
        obtain ⟨g10, h⟩ := h
        exact x_zret K hr hP hS g10 h dD_suits_323
  by_cases hc5 : v1 = 103
  · have h := h.2.2.2.2.2.1 hc5
    refine lv_tableIn (off := 323) (tgt := 324) K.1 K.2.1 dD_suits_1 (by rw [hc5]; decide) (by rw [hc5]; decide) (by rw [hc5]; rfl) rfl ?_
    refine lv_iconst (v := 0) K.1 K.2.1 dD_suits_324 (by decide) ?_
    obtain ⟨g11, h⟩ := h
    exact x_zret K hr hP hS g11 h dD_suits_325
  by_cases hc6 : v1 = 104
  · have h := h.2.2.2.2.2.2.1 hc6
    refine lv_tableIn (off := 323) (tgt := 324) K.1 K.2.1 dD_suits_1 (by rw [hc6]; decide) (by rw [hc6]; decide) (by rw [hc6]; rfl) rfl ?_
    refine lv_iconst (v := 0) K.1 K.2.1 dD_suits_324 (by decide) ?_
    obtain ⟨g12, h⟩ := h
    exact x_zret K hr hP hS g12 h dD_suits_325
  by_cases hc7 : v1 = 105
  · have h := h.2.2.2.2.2.2.2.1 hc7
    refine lv_tableIn (off := 254) (tgt := 255) K.1 K.2.1 dD_suits_1 (by rw [hc7]; decide) (by rw [hc7]; decide) (by rw [hc7]; rfl) rfl ?_
    refine lv_aload_n K.1 K.2.1 dD_suits_255 rfl (lv_at hL 0 rfl) ?_
    refine lv_aload_n K.1 K.2.1 dD_suits_256 rfl (lv_at hL 2 rfl) ?_
    refine lv_iload_n K.1 K.2.1 dD_suits_257 rfl (lv_at hL 3 rfl) ?_
    refine x_cVI (As := [.ref (ad (24 + v2)), .int v3]) (rest := []) K gT_good hZ hP hS calD_isStateAsS mlD_161 10 (by decide) rfl rfl (mD_isStateAsS hZ K.2.2.2.2.2.2.2.1 hv2 h) ⟨Nat.le_of_ble_eq_true rfl, Nat.le_of_ble_eq_true rfl⟩ rfl hL.1 rfl (Nat.le_of_ble_eq_true rfl) dD_suits_258 (fun r13 hi14 hl15 H locs h hP hS => ?_)
    refine lv_if_eq (tgt := 276) K.1 K.2.1 dD_suits_261 rfl (fun hc => ?_) (fun hc => ?_)
    · have h := h.1 hc
      exact bD_suits_276 K hr hZ h (lv_sub hL [] rfl) hP hS
    · have h := h.2 hc
      refine lv_aload_n K.1 K.2.1 dD_suits_264 rfl (lv_at hL 2 rfl) ?_
      refine x_getN (v := .int (hi14 (24 + v2) 5)) K hP hinL (ci := 6) rfl (24 + v2) (lt_l hv2) (GX_line _ hv2 _ _) 5 (by decide) (fnD_165 K.2.2.2.2.2.2.2.2) rfl rfl dD_suits_265 ?_
      refine lv_iconst (v := -1) K.1 K.2.1 dD_suits_268 (by decide) ?_
      refine lv_icmp_ne (tgt := 276) K.1 K.2.1 dD_suits_269 rfl (fun hc => ?_) (fun hc => ?_)
      · have h := h.2 hc
        exact bD_suits_276 K hr hZ h (lv_sub hL [] rfl) hP hS
      · have h := h.1 hc
        refine lv_iconst (v := 1) K.1 K.2.1 dD_suits_272 (by decide) ?_
        refine lv_goto (tgt := 277) K.1 K.2.1 dD_suits_273 rfl ?_
        obtain ⟨g16, h⟩ := h
        exact x_zret K hr hP hS g16 h dD_suits_277
  by_cases hc8 : v1 = 106
  · have h := h.2.2.2.2.2.2.2.2.1 hc8
    refine lv_tableIn (off := 323) (tgt := 324) K.1 K.2.1 dD_suits_1 (by rw [hc8]; decide) (by rw [hc8]; decide) (by rw [hc8]; rfl) rfl ?_
    refine lv_iconst (v := 0) K.1 K.2.1 dD_suits_324 (by decide) ?_
    obtain ⟨g17, h⟩ := h
    exact x_zret K hr hP hS g17 h dD_suits_325
  by_cases hc9 : v1 = 107
  · have h := h.2.2.2.2.2.2.2.2.2.1 hc9
    refine lv_tableIn (off := 323) (tgt := 324) K.1 K.2.1 dD_suits_1 (by rw [hc9]; decide) (by rw [hc9]; decide) (by rw [hc9]; rfl) rfl ?_
    refine lv_iconst (v := 0) K.1 K.2.1 dD_suits_324 (by decide) ?_
    obtain ⟨g18, h⟩ := h
    exact x_zret K hr hP hS g18 h dD_suits_325
  by_cases hc10 : v1 = 108
  · have h := h.2.2.2.2.2.2.2.2.2.2.1 hc10
    refine lv_tableIn (off := 160) (tgt := 161) K.1 K.2.1 dD_suits_1 (by rw [hc10]; decide) (by rw [hc10]; decide) (by rw [hc10]; rfl) rfl ?_
    refine lv_aload_n K.1 K.2.1 dD_suits_161 rfl (lv_at hL 2 rfl) ?_
    refine x_getN (v := .int (hi (24 + v2) 2)) K hP hinL (ci := 6) rfl (24 + v2) (lt_l hv2) (GX_line _ hv2 _ _) 2 (by decide) (fnD_154 K.2.2.2.2.2.2.2.2) rfl rfl dD_suits_162 ?_
    refine lv_aload_n K.1 K.2.1 dD_suits_165 rfl (lv_at hL 0 rfl) ?_
    refine x_get (v := .int (hi 10 8)) K hP hinD (ci := 3) rfl 10 (by decide) rfl 8 (by decide) flD_141 rfl rfl dD_suits_166 ?_
    refine lv_icmp_ne (tgt := 176) K.1 K.2.1 dD_suits_169 rfl (fun hc => ?_) (fun hc => ?_)
    · have h := h.2 hc
      refine lv_iconst (v := 0) K.1 K.2.1 dD_suits_176 (by decide) ?_
      obtain ⟨g19, h⟩ := h
      exact x_zret K hr hP hS g19 h dD_suits_177
    · have h := h.1 hc
      refine lv_iconst (v := 1) K.1 K.2.1 dD_suits_172 (by decide) ?_
      refine lv_goto (tgt := 177) K.1 K.2.1 dD_suits_173 rfl ?_
      obtain ⟨g20, h⟩ := h
      exact x_zret K hr hP hS g20 h dD_suits_177
  by_cases hc11 : v1 = 109
  · have h := h.2.2.2.2.2.2.2.2.2.2.2.1 hc11
    refine lv_tableIn (off := 177) (tgt := 178) K.1 K.2.1 dD_suits_1 (by rw [hc11]; decide) (by rw [hc11]; decide) (by rw [hc11]; rfl) rfl ?_
    refine lv_aload_n K.1 K.2.1 dD_suits_178 rfl (lv_at hL 2 rfl) ?_
    refine x_getN (v := .int (hi (24 + v2) 2)) K hP hinL (ci := 6) rfl (24 + v2) (lt_l hv2) (GX_line _ hv2 _ _) 2 (by decide) (fnD_154 K.2.2.2.2.2.2.2.2) rfl rfl dD_suits_179 ?_
    refine lv_aload_n K.1 K.2.1 dD_suits_182 rfl (lv_at hL 0 rfl) ?_
    refine x_get (v := .int (hi 10 4)) K hP hinD (ci := 3) rfl 10 (by decide) rfl 4 (by decide) flD_106 rfl rfl dD_suits_183 ?_
    refine lv_icmp_ge (tgt := 193) K.1 K.2.1 dD_suits_186 rfl (fun hc => ?_) (fun hc => ?_)
    · have h := h.1 hc
      refine lv_iconst (v := 0) K.1 K.2.1 dD_suits_193 (by decide) ?_
      obtain ⟨g21, h⟩ := h
      exact x_zret K hr hP hS g21 h dD_suits_194
    · have h := h.2 hc
      refine lv_iconst (v := 1) K.1 K.2.1 dD_suits_189 (by decide) ?_
      refine lv_goto (tgt := 194) K.1 K.2.1 dD_suits_190 rfl ?_
      obtain ⟨g22, h⟩ := h
      exact x_zret K hr hP hS g22 h dD_suits_194
  by_cases hc12 : v1 = 110
  · have h := h.2.2.2.2.2.2.2.2.2.2.2.2.1 hc12
    refine lv_tableIn (off := 111) (tgt := 112) K.1 K.2.1 dD_suits_1 (by rw [hc12]; decide) (by rw [hc12]; decide) (by rw [hc12]; rfl) rfl ?_
    refine lv_iconst (v := 1) K.1 K.2.1 dD_suits_112 (by decide) ?_
    obtain ⟨g23, h⟩ := h
    exact x_zret K hr hP hS g23 h dD_suits_113
  by_cases hc13 : v1 = 111
  · have h := h.2.2.2.2.2.2.2.2.2.2.2.2.2.1 hc13
    refine lv_tableIn (off := 129) (tgt := 130) K.1 K.2.1 dD_suits_1 (by rw [hc13]; decide) (by rw [hc13]; decide) (by rw [hc13]; rfl) rfl ?_
    refine lv_aload_n K.1 K.2.1 dD_suits_130 rfl (lv_at hL 2 rfl) ?_
    refine x_getN (v := .int (hi (24 + v2) 2)) K hP hinL (ci := 6) rfl (24 + v2) (lt_l hv2) (GX_line _ hv2 _ _) 2 (by decide) (fnD_154 K.2.2.2.2.2.2.2.2) rfl rfl dD_suits_131 ?_
    refine lv_iconst (v := 1) K.1 K.2.1 dD_suits_134 (by decide) ?_
    refine lv_icmp_ne (tgt := 142) K.1 K.2.1 dD_suits_135 rfl (fun hc => ?_) (fun hc => ?_)
    · have h := h.2 hc
      refine lv_iconst (v := 0) K.1 K.2.1 dD_suits_142 (by decide) ?_
      obtain ⟨g24, h⟩ := h
      exact x_zret K hr hP hS g24 h dD_suits_143
    · have h := h.1 hc
      refine lv_iconst (v := 1) K.1 K.2.1 dD_suits_138 (by decide) ?_
      refine lv_goto (tgt := 143) K.1 K.2.1 dD_suits_139 rfl ?_
      obtain ⟨g25, h⟩ := h
      exact x_zret K hr hP hS g25 h dD_suits_143
  by_cases hc14 : v1 = 112
  · have h := h.2.2.2.2.2.2.2.2.2.2.2.2.2.2.1 hc14
    refine lv_tableIn (off := 323) (tgt := 324) K.1 K.2.1 dD_suits_1 (by rw [hc14]; decide) (by rw [hc14]; decide) (by rw [hc14]; rfl) rfl ?_
    refine lv_iconst (v := 0) K.1 K.2.1 dD_suits_324 (by decide) ?_
    obtain ⟨g26, h⟩ := h
    exact x_zret K hr hP hS g26 h dD_suits_325
  by_cases hc15 : v1 = 113
  · have h := h.2.2.2.2.2.2.2.2.2.2.2.2.2.2.2.1 hc15
    refine lv_tableIn (off := 323) (tgt := 324) K.1 K.2.1 dD_suits_1 (by rw [hc15]; decide) (by rw [hc15]; decide) (by rw [hc15]; rfl) rfl ?_
    refine lv_iconst (v := 0) K.1 K.2.1 dD_suits_324 (by decide) ?_
    obtain ⟨g27, h⟩ := h
    exact x_zret K hr hP hS g27 h dD_suits_325
  by_cases hc16 : v1 = 114
  · have h := h.2.2.2.2.2.2.2.2.2.2.2.2.2.2.2.2.1 hc16
    refine lv_tableIn (off := 194) (tgt := 195) K.1 K.2.1 dD_suits_1 (by rw [hc16]; decide) (by rw [hc16]; decide) (by rw [hc16]; rfl) rfl ?_
    refine lv_aload_n K.1 K.2.1 dD_suits_195 rfl (lv_at hL 2 rfl) ?_
    refine x_getN (v := .int (hi (24 + v2) 2)) K hP hinL (ci := 6) rfl (24 + v2) (lt_l hv2) (GX_line _ hv2 _ _) 2 (by decide) (fnD_154 K.2.2.2.2.2.2.2.2) rfl rfl dD_suits_196 ?_
    refine lv_aload_n K.1 K.2.1 dD_suits_199 rfl (lv_at hL 0 rfl) ?_
    refine x_get (v := .int (hi 10 4)) K hP hinD (ci := 3) rfl 10 (by decide) rfl 4 (by decide) flD_106 rfl rfl dD_suits_200 ?_
    refine lv_aload_n K.1 K.2.1 dD_suits_203 rfl (lv_at hL 0 rfl) ?_
    refine x_get (v := .int (hi 10 8)) K hP hinD (ci := 3) rfl 10 (by decide) rfl 8 (by decide) flD_141 rfl rfl dD_suits_204 ?_
    refine lv_isub K.1 K.2.1 dD_suits_207 ?_
    refine lv_icmp_ne (tgt := 215) K.1 K.2.1 dD_suits_208 rfl (fun hc => ?_) (fun hc => ?_)
    · have h := h.2 hc
      refine lv_iconst (v := 0) K.1 K.2.1 dD_suits_215 (by decide) ?_
      obtain ⟨g28, h⟩ := h
      exact x_zret K hr hP hS g28 h dD_suits_216
    · have h := h.1 hc
      refine lv_iconst (v := 1) K.1 K.2.1 dD_suits_211 (by decide) ?_
      refine lv_goto (tgt := 216) K.1 K.2.1 dD_suits_212 rfl ?_
      obtain ⟨g29, h⟩ := h
      exact x_zret K hr hP hS g29 h dD_suits_216
  by_cases hc17 : v1 = 115
  · have h := h.2.2.2.2.2.2.2.2.2.2.2.2.2.2.2.2.2.1 hc17
    refine lv_tableIn (off := 143) (tgt := 144) K.1 K.2.1 dD_suits_1 (by rw [hc17]; decide) (by rw [hc17]; decide) (by rw [hc17]; rfl) rfl ?_
    refine lv_aload_n K.1 K.2.1 dD_suits_144 rfl (lv_at hL 2 rfl) ?_
    refine x_getN (v := .int (hi (24 + v2) 2)) K hP hinL (ci := 6) rfl (24 + v2) (lt_l hv2) (GX_line _ hv2 _ _) 2 (by decide) (fnD_154 K.2.2.2.2.2.2.2.2) rfl rfl dD_suits_145 ?_
    refine lv_aload_n K.1 K.2.1 dD_suits_148 rfl (lv_at hL 0 rfl) ?_
    refine x_get (v := .int (hi 10 4)) K hP hinD (ci := 3) rfl 10 (by decide) rfl 4 (by decide) flD_106 rfl rfl dD_suits_149 ?_
    refine lv_icmp_ne (tgt := 159) K.1 K.2.1 dD_suits_152 rfl (fun hc => ?_) (fun hc => ?_)
    · have h := h.2 hc
      refine lv_iconst (v := 0) K.1 K.2.1 dD_suits_159 (by decide) ?_
      obtain ⟨g30, h⟩ := h
      exact x_zret K hr hP hS g30 h dD_suits_160
    · have h := h.1 hc
      refine lv_iconst (v := 1) K.1 K.2.1 dD_suits_155 (by decide) ?_
      refine lv_goto (tgt := 160) K.1 K.2.1 dD_suits_156 rfl ?_
      obtain ⟨g31, h⟩ := h
      exact x_zret K hr hP hS g31 h dD_suits_160
  by_cases hc18 : v1 = 116
  · have h := h.2.2.2.2.2.2.2.2.2.2.2.2.2.2.2.2.2.2.1 hc18
    refine lv_tableIn (off := 323) (tgt := 324) K.1 K.2.1 dD_suits_1 (by rw [hc18]; decide) (by rw [hc18]; decide) (by rw [hc18]; rfl) rfl ?_
    refine lv_iconst (v := 0) K.1 K.2.1 dD_suits_324 (by decide) ?_
    obtain ⟨g32, h⟩ := h
    exact x_zret K hr hP hS g32 h dD_suits_325
  by_cases hc19 : v1 = 117
  · have h := h.2.2.2.2.2.2.2.2.2.2.2.2.2.2.2.2.2.2.2.1 hc19
    refine lv_tableIn (off := 323) (tgt := 324) K.1 K.2.1 dD_suits_1 (by rw [hc19]; decide) (by rw [hc19]; decide) (by rw [hc19]; rfl) rfl ?_
    refine lv_iconst (v := 0) K.1 K.2.1 dD_suits_324 (by decide) ?_
    obtain ⟨g33, h⟩ := h
    exact x_zret K hr hP hS g33 h dD_suits_325
  by_cases hc20 : v1 = 118
  · have h := h.2.2.2.2.2.2.2.2.2.2.2.2.2.2.2.2.2.2.2.2.1 hc20
    refine lv_tableIn (off := 323) (tgt := 324) K.1 K.2.1 dD_suits_1 (by rw [hc20]; decide) (by rw [hc20]; decide) (by rw [hc20]; rfl) rfl ?_
    refine lv_iconst (v := 0) K.1 K.2.1 dD_suits_324 (by decide) ?_
    obtain ⟨g34, h⟩ := h
    exact x_zret K hr hP hS g34 h dD_suits_325
  by_cases hc21 : v1 = 119
  · have h := h.2.2.2.2.2.2.2.2.2.2.2.2.2.2.2.2.2.2.2.2.2.1 hc21
    refine lv_tableIn (off := 323) (tgt := 324) K.1 K.2.1 dD_suits_1 (by rw [hc21]; decide) (by rw [hc21]; decide) (by rw [hc21]; rfl) rfl ?_
    refine lv_iconst (v := 0) K.1 K.2.1 dD_suits_324 (by decide) ?_
    obtain ⟨g35, h⟩ := h
    exact x_zret K hr hP hS g35 h dD_suits_325
  by_cases hc22 : v1 = 120
  · have h := h.2.2.2.2.2.2.2.2.2.2.2.2.2.2.2.2.2.2.2.2.2.2.1 hc22
    refine lv_tableIn (off := 277) (tgt := 278) K.1 K.2.1 dD_suits_1 (by rw [hc22]; decide) (by rw [hc22]; decide) (by rw [hc22]; rfl) rfl ?_
    refine lv_aload_n K.1 K.2.1 dD_suits_278 rfl (lv_at hL 0 rfl) ?_
    refine lv_aload_n K.1 K.2.1 dD_suits_279 rfl (lv_at hL 2 rfl) ?_
    refine lv_iload_n K.1 K.2.1 dD_suits_280 rfl (lv_at hL 3 rfl) ?_
    refine x_cVI (As := [.ref (ad (24 + v2)), .int v3]) (rest := []) K gT_good hZ hP hS calD_isStateAsS mlD_161 10 (by decide) rfl rfl (mD_isStateAsS hZ K.2.2.2.2.2.2.2.1 hv2 h) ⟨Nat.le_of_ble_eq_true rfl, Nat.le_of_ble_eq_true rfl⟩ rfl hL.1 rfl (Nat.le_of_ble_eq_true rfl) dD_suits_281 (fun r36 hi37 hl38 H locs h hP hS => ?_)
    refine lv_if_eq (tgt := 298) K.1 K.2.1 dD_suits_284 rfl (fun hc => ?_) (fun hc => ?_)
    · have h := h.1 hc
      exact bD_suits_298 K hr hZ h (lv_sub hL [] rfl) hP hS
    · have h := h.2 hc
      refine lv_aload_n K.1 K.2.1 dD_suits_287 rfl (lv_at hL 2 rfl) ?_
      refine x_getN (v := .int (hi37 (24 + v2) 6)) K hP hinL (ci := 6) rfl (24 + v2) (lt_l hv2) (GX_line _ hv2 _ _) 6 (by decide) (fnD_168 K.2.2.2.2.2.2.2.2) rfl rfl dD_suits_288 ?_
      refine lv_if_ne (tgt := 298) K.1 K.2.1 dD_suits_291 rfl (fun hc => ?_) (fun hc => ?_)
      · have h := h.2 hc
        exact bD_suits_298 K hr hZ h (lv_sub hL [] rfl) hP hS
      · have h := h.1 hc
        refine lv_iconst (v := 1) K.1 K.2.1 dD_suits_294 (by decide) ?_
        refine lv_goto (tgt := 299) K.1 K.2.1 dD_suits_295 rfl ?_
        obtain ⟨g39, h⟩ := h
        exact x_zret K hr hP hS g39 h dD_suits_299
  by_cases hc23 : v1 = 121
  · have h := h.2.2.2.2.2.2.2.2.2.2.2.2.2.2.2.2.2.2.2.2.2.2.2.1 hc23
    refine lv_tableIn (off := 216) (tgt := 217) K.1 K.2.1 dD_suits_1 (by rw [hc23]; decide) (by rw [hc23]; decide) (by rw [hc23]; rfl) rfl ?_
    refine lv_aload_n K.1 K.2.1 dD_suits_217 rfl (lv_at hL 2 rfl) ?_
    refine x_getN (v := .int (hi (24 + v2) 2)) K hP hinL (ci := 6) rfl (24 + v2) (lt_l hv2) (GX_line _ hv2 _ _) 2 (by decide) (fnD_154 K.2.2.2.2.2.2.2.2) rfl rfl dD_suits_218 ?_
    refine lv_iconst (v := 4) K.1 K.2.1 dD_suits_221 (by decide) ?_
    refine lv_aload_n K.1 K.2.1 dD_suits_222 rfl (lv_at hL 0 rfl) ?_
    refine x_get (v := .int (hi 10 4)) K hP hinD (ci := 3) rfl 10 (by decide) rfl 4 (by decide) flD_106 rfl rfl dD_suits_223 ?_
    refine lv_iadd K.1 K.2.1 dD_suits_226 ?_
    refine lv_icmp_ne (tgt := 234) K.1 K.2.1 dD_suits_227 rfl (fun hc => ?_) (fun hc => ?_)
    · have h := h.2 hc
      refine lv_iconst (v := 0) K.1 K.2.1 dD_suits_234 (by decide) ?_
      obtain ⟨g40, h⟩ := h
      exact x_zret K hr hP hS g40 h dD_suits_235
    · have h := h.1 hc
      refine lv_iconst (v := 1) K.1 K.2.1 dD_suits_230 (by decide) ?_
      refine lv_goto (tgt := 235) K.1 K.2.1 dD_suits_231 rfl ?_
      obtain ⟨g41, h⟩ := h
      exact x_zret K hr hP hS g41 h dD_suits_235
  have h := h.2.2.2.2.2.2.2.2.2.2.2.2.2.2.2.2.2.2.2.2.2.2.2.2 hc0 hc1 hc2 hc3 hc4 hc5 hc6 hc7 hc8 hc9 hc10 hc11 hc12 hc13 hc14 hc15 hc16 hc17 hc18 hc19 hc20 hc21 hc22 hc23
  refine lv_tableOut (tgt := 324) K.1 K.2.1 dD_suits_1 (by have e0 := i_ne hc0 (n := 98) (by decide); have e1 := i_ne hc1 (n := 99) (by decide); have e2 := i_ne hc2 (n := 100) (by decide); have e3 := i_ne hc3 (n := 101) (by decide); have e4 := i_ne hc4 (n := 102) (by decide); have e5 := i_ne hc5 (n := 103) (by decide); have e6 := i_ne hc6 (n := 104) (by decide); have e7 := i_ne hc7 (n := 105) (by decide); have e8 := i_ne hc8 (n := 106) (by decide); have e9 := i_ne hc9 (n := 107) (by decide); have e10 := i_ne hc10 (n := 108) (by decide); have e11 := i_ne hc11 (n := 109) (by decide); have e12 := i_ne hc12 (n := 110) (by decide); have e13 := i_ne hc13 (n := 111) (by decide); have e14 := i_ne hc14 (n := 112) (by decide); have e15 := i_ne hc15 (n := 113) (by decide); have e16 := i_ne hc16 (n := 114) (by decide); have e17 := i_ne hc17 (n := 115) (by decide); have e18 := i_ne hc18 (n := 116) (by decide); have e19 := i_ne hc19 (n := 117) (by decide); have e20 := i_ne hc20 (n := 118) (by decide); have e21 := i_ne hc21 (n := 119) (by decide); have e22 := i_ne hc22 (n := 120) (by decide); have e23 := i_ne hc23 (n := 121) (by decide); omega) rfl ?_
  refine lv_iconst (v := 0) K.1 K.2.1 dD_suits_324 (by decide) ?_
  obtain ⟨g42, h⟩ := h
  exact x_zret K hr hP hS g42 h dD_suits_325
set_option maxRecDepth 100000 in
set_option maxHeartbeats 4000000 in
theorem mD_suits {l : Launch} {D : va_G} {cI cJ cC cZ cR : ClassId} {ad kd sd vd : Nat → Nat} {kA lA wA : Nat} {A : Nat → Prop} (hZ : ZsOK A (ZX A kd sd vd kA lA wA)) (hD : wlD 64 ad A) {v1 : Int32} {v2 : Nat} {v3 : Int32} (hv2 : v2 < 20) {hi : HI} {hl : HL} {Φ : Int32 → HI → HL → Prop} (h : wpD_suits v1 v2 v3 hi hl Φ) : SpI l yD_suits cD_suits 4 (some .boolean) gT 1 22 [.ref (ad 10), .int v1, .ref (ad (24 + v2)), .int v3] D cls8 (tys5 cI cJ cC cZ cR) 64 ad (GX cI cJ cC cZ cR ad kd) A (ZX A kd sd vd kA lA wA) hi hl Φ := by
  refine Met.ofW (cc := cD_suits) (maxL := 4) (ret := (some .boolean)) (by decide) rfl ?_
  intro p e s m args below meth c s₁ B hml hv
  obtain ⟨rfl, hP, hK, hZs⟩ := hv
  have K : Cx p (rmX 1 22) s m _ meth c cD_suits 4 "WordChecker$Draft" gT D cls8 (tys5 cI cJ cC cZ cR) 64 ad A (ZX A kd sd vd kA lA wA) := ⟨B.exec, B.bytes, hml, findClass_of_methodNamed B.named, fun w hw => atoms_spec B.pre w (List.mem_cons_of_mem _ hw), B.notSynchronized, hK, hD, hZs⟩
  have hL := lv_entry ([.ref (ad 10), .int v1, .ref (ad (24 + v2)), .int v3]) (n := 4) (Nat.le_of_ble_eq_true rfl)
  rw [lg_entry_eq]
  generalize (lg_sl ([.ref (ad 10), .int v1, .ref (ad (24 + v2)), .int v3]) ++ List.replicate (4 - (lg_sl ([.ref (ad 10), .int v1, .ref (ad (24 + v2)), .int v3])).length) Slot.unset).toArray = ls at hL ⊢
  have hL : lv_has ls 4 [(0, .ref (ad 10)), (1, .int v1), (2, .ref (ad (24 + v2))), (3, .int v3)] := hL
  unfold wpD_suits at h
  exact bD_suits_0 K B.returns hZ h hv2 (lv_sub hL [0, 1, 2, 3] rfl) hP va_S.rf
set_option maxRecDepth 100000 in
set_option maxHeartbeats 4000000 in
theorem bT_hasMinus_28 {p : Program} {l : Launch} {e : Env} {s : State} {m : MethodId} {args : Array Value} {below : List Frame} {meth : Method} {c : Code} {D : va_G} {cI cJ cC cZ cR : ClassId} {ad kd sd vd : Nat → Nat} {kA lA wA : Nat} {A : Nat → Prop} (K : Cx p (rmX 0 0) s m args meth c cT_hasMinus 2 "WordChecker$Text" gT D cls8 (tys5 cI cJ cC cZ cR) 64 ad A (ZX A kd sd vd kA lA wA)) (hr : meth.sig.returnType = (some .boolean)) (hZ : ZsOK A (ZX A kd sd vd kA lA wA)) {Φ : Int32 → HI → HL → Prop} {hi : HI} {hl : HL} {H : Heap} {locs : List Loc} (h : wbT_hasMinus_28 hi hl Φ) {ls : Array Slot} (hL : lv_has ls 2 []) (hP : va_P D cls8 (wl 64 ad (GX cI cJ cC cZ cR ad kd) hi hl) H) (hS : va_S A s.heap H locs) : W p l e (rmX 0 0) s m args below meth c H locs 0 0 (MQ below (va_Qi (fun r (u : HI × HL) => Φ r u.1 u.2) (fun u t => va_P D cls8 (wl 64 ad (GX cI cJ cC cZ cR ad kd) u.1 u.2) t.heap) A) args s 0 0 A) (F0 m 28 ls []) := by
  unfold wbT_hasMinus_28 at h
  refine lv_iconst (v := 0) K.1 K.2.1 dT_hasMinus_28 (by decide) ?_
  obtain ⟨g1, h⟩ := h
  exact x_zret K hr hP hS g1 h dT_hasMinus_29
set_option maxRecDepth 100000 in
set_option maxHeartbeats 4000000 in
theorem bT_hasMinus_0 {p : Program} {l : Launch} {e : Env} {s : State} {m : MethodId} {args : Array Value} {below : List Frame} {meth : Method} {c : Code} {D : va_G} {cI cJ cC cZ cR : ClassId} {ad kd sd vd : Nat → Nat} {kA lA wA : Nat} {A : Nat → Prop} (K : Cx p (rmX 0 0) s m args meth c cT_hasMinus 2 "WordChecker$Text" gT D cls8 (tys5 cI cJ cC cZ cR) 64 ad A (ZX A kd sd vd kA lA wA)) (hr : meth.sig.returnType = (some .boolean)) (hZ : ZsOK A (ZX A kd sd vd kA lA wA)) {Φ : Int32 → HI → HL → Prop} {v1 : Int32} {hi : HI} {hl : HL} {H : Heap} {locs : List Loc} (h : wbT_hasMinus_0 v1 hi hl Φ) {ls : Array Slot} (hL : lv_has ls 2 [(0, .ref (ad 1)), (1, .int v1)]) (hP : va_P D cls8 (wl 64 ad (GX cI cJ cC cZ cR ad kd) hi hl) H) (hS : va_S A s.heap H locs) : W p l e (rmX 0 0) s m args below meth c H locs 0 0 (MQ below (va_Qi (fun r (u : HI × HL) => Φ r u.1 u.2) (fun u t => va_P D cls8 (wl 64 ad (GX cI cJ cC cZ cR ad kd) u.1 u.2) t.heap) A) args s 0 0 A) (F0 m 0 ls []) := by
  unfold wbT_hasMinus_0 at h
  refine lv_iload_n K.1 K.2.1 dT_hasMinus_0 rfl (lv_at hL 1 rfl) ?_
  refine lv_aload_n K.1 K.2.1 dT_hasMinus_1 rfl (lv_at hL 0 rfl) ?_
  refine x_get (v := .int (hi 1 4)) K hP hinT (ci := 1) rfl 1 (by decide) rfl 4 (by decide) flT_30 rfl rfl dT_hasMinus_2 ?_
  refine lv_icmp_ge (tgt := 28) K.1 K.2.1 dT_hasMinus_5 rfl (fun hc => ?_) (fun hc => ?_)
  · have h := h.1 hc
    exact bT_hasMinus_28 K hr hZ h (lv_sub hL [] rfl) hP hS
  · have h := h.2 hc
    refine lv_aload_n K.1 K.2.1 dT_hasMinus_8 rfl (lv_at hL 0 rfl) ?_
    refine x_get (v := .ref (ad 2)) K hP hinT (ci := 1) rfl 1 (by decide) rfl 0 (by decide) flT_9 rfl rfl dT_hasMinus_9 ?_
    refine lv_aload_n K.1 K.2.1 dT_hasMinus_12 rfl (lv_at hL 0 rfl) ?_
    refine x_get (v := .ref (ad 3)) K hP hinT (ci := 1) rfl 1 (by decide) rfl 1 (by decide) flT_15 rfl rfl dT_hasMinus_13 ?_
    refine lv_iload_n K.1 K.2.1 dT_hasMinus_16 rfl (lv_at hL 1 rfl) ?_
    obtain ⟨g1, h⟩ := h
    refine x_iald K hP 3 (by decide) 0 rfl rfl g1 dT_hasMinus_17 ?_
    obtain ⟨g2, h⟩ := h
    refine x_cald K hP 2 (by decide) 2 rfl rfl g2 dT_hasMinus_18 ?_
    refine lv_bipush (v := 45) K.1 K.2.1 dT_hasMinus_19 (by decide) ?_
    refine lv_icmp_ne (tgt := 28) K.1 K.2.1 dT_hasMinus_21 rfl (fun hc => ?_) (fun hc => ?_)
    · have h := h.2 hc
      exact bT_hasMinus_28 K hr hZ h (lv_sub hL [] rfl) hP hS
    · have h := h.1 hc
      refine lv_iconst (v := 1) K.1 K.2.1 dT_hasMinus_24 (by decide) ?_
      refine lv_goto (tgt := 29) K.1 K.2.1 dT_hasMinus_25 rfl ?_
      obtain ⟨g3, h⟩ := h
      exact x_zret K hr hP hS g3 h dT_hasMinus_29
set_option maxRecDepth 100000 in
set_option maxHeartbeats 4000000 in
theorem mT_hasMinus {l : Launch} {D : va_G} {cI cJ cC cZ cR : ClassId} {ad kd sd vd : Nat → Nat} {kA lA wA : Nat} {A : Nat → Prop} (hZ : ZsOK A (ZX A kd sd vd kA lA wA)) (hD : wlD 64 ad A) {v1 : Int32} {hi : HI} {hl : HL} {Φ : Int32 → HI → HL → Prop} (h : wpT_hasMinus v1 hi hl Φ) : SpI l yT_hasMinus cT_hasMinus 2 (some .boolean) gT 0 0 [.ref (ad 1), .int v1] D cls8 (tys5 cI cJ cC cZ cR) 64 ad (GX cI cJ cC cZ cR ad kd) A (ZX A kd sd vd kA lA wA) hi hl Φ := by
  refine Met.ofW (cc := cT_hasMinus) (maxL := 2) (ret := (some .boolean)) (by decide) rfl ?_
  intro p e s m args below meth c s₁ B hml hv
  obtain ⟨rfl, hP, hK, hZs⟩ := hv
  have K : Cx p (rmX 0 0) s m _ meth c cT_hasMinus 2 "WordChecker$Text" gT D cls8 (tys5 cI cJ cC cZ cR) 64 ad A (ZX A kd sd vd kA lA wA) := ⟨B.exec, B.bytes, hml, findClass_of_methodNamed B.named, fun w hw => atoms_spec B.pre w (List.mem_cons_of_mem _ hw), B.notSynchronized, hK, hD, hZs⟩
  have hL := lv_entry ([.ref (ad 1), .int v1]) (n := 2) (Nat.le_of_ble_eq_true rfl)
  rw [lg_entry_eq]
  generalize (lg_sl ([.ref (ad 1), .int v1]) ++ List.replicate (2 - (lg_sl ([.ref (ad 1), .int v1])).length) Slot.unset).toArray = ls at hL ⊢
  have hL : lv_has ls 2 [(0, .ref (ad 1)), (1, .int v1)] := hL
  unfold wpT_hasMinus at h
  exact bT_hasMinus_0 K B.returns hZ h (lv_sub hL [0, 1] rfl) hP va_S.rf
set_option maxRecDepth 100000 in
set_option maxHeartbeats 4000000 in
theorem bT_number_66 {p : Program} {l : Launch} {e : Env} {s : State} {m : MethodId} {args : Array Value} {below : List Frame} {meth : Method} {c : Code} {D : va_G} {cI cJ cC cZ cR : ClassId} {ad kd sd vd : Nat → Nat} {kA lA wA : Nat} {A : Nat → Prop} (K : Cx p (rmX 0 0) s m args meth c cT_number 7 "WordChecker$Text" gT D cls8 (tys5 cI cJ cC cZ cR) 64 ad A (ZX A kd sd vd kA lA wA)) (hr : meth.sig.returnType = (some .int)) (hZ : ZsOK A (ZX A kd sd vd kA lA wA)) {Φ : Int32 → HI → HL → Prop} {n : Nat} {v1 : Int32} {v5 : Int32} {v6 : Int32} {hi : HI} {hl : HL} {H : Heap} {locs : List Loc} (h : wbT_number_66 n v1 v5 v6 hi hl Φ) {ls : Array Slot} (hL : lv_has ls 7 [(0, .ref (ad 1)), (1, .int v1), (5, .int v5), (6, .int v6)]) (hP : va_P D cls8 (wl 64 ad (GX cI cJ cC cZ cR ad kd) hi hl) H) (hS : va_S A s.heap H locs) : W p l e (rmX 0 0) s m args below meth c H locs 0 0 (MQ below (va_Qi (fun r (u : HI × HL) => Φ r u.1 u.2) (fun u t => va_P D cls8 (wl 64 ad (GX cI cJ cC cZ cR ad kd) u.1 u.2) t.heap) A) args s 0 0 A) (F0 m 66 ls []) := by
  induction n generalizing v1 v5 v6 hi hl ls H locs with
  | zero => exact False.elim h
  | succ n ih =>
    unfold wbT_number_66 at h
    refine lv_iload K.1 K.2.1 dT_number_66 (lv_at hL 3 rfl) ?_
    refine lv_aload_n K.1 K.2.1 dT_number_68 rfl (lv_at hL 0 rfl) ?_
    refine x_get (v := .ref (ad 4)) K hP hinT (ci := 1) rfl 1 (by decide) rfl 2 (by decide) flT_19 rfl rfl dT_number_69 ?_
    refine lv_iload_n K.1 K.2.1 dT_number_72 rfl (lv_at hL 1 rfl) ?_
    obtain ⟨g1, h⟩ := h
    refine x_iald K hP 4 (by decide) 0 rfl rfl g1 dT_number_73 ?_
    refine lv_icmp_ge (tgt := 127) K.1 K.2.1 dT_number_74 rfl (fun hc => ?_) (fun hc => ?_)
    · have h := h.1 hc
      refine lv_iload K.1 K.2.1 dT_number_127 (lv_at hL 2 rfl) ?_
      exact x_iret K hr hP hS h dT_number_129
    · have h := h.2 hc
      refine lv_aload_n K.1 K.2.1 dT_number_77 rfl (lv_at hL 0 rfl) ?_
      refine x_get (v := .ref (ad 2)) K hP hinT (ci := 1) rfl 1 (by decide) rfl 0 (by decide) flT_9 rfl rfl dT_number_78 ?_
      refine lv_iload K.1 K.2.1 dT_number_81 (lv_at hL 3 rfl) ?_
      obtain ⟨g2, h⟩ := h
      refine x_cald K hP 2 (by decide) 2 rfl rfl g2 dT_number_83 ?_
      refine lv_bipush (v := 48) K.1 K.2.1 dT_number_84 (by decide) ?_
      refine lv_icmp_lt (tgt := 101) K.1 K.2.1 dT_number_86 rfl (fun hc => ?_) (fun hc => ?_)
      · have h := h.1 hc
        refine lv_iconst (v := -1) K.1 K.2.1 dT_number_101 (by decide) ?_
        exact x_iret K hr hP hS h dT_number_102
      · have h := h.2 hc
        refine lv_aload_n K.1 K.2.1 dT_number_89 rfl (lv_at hL 0 rfl) ?_
        refine x_get (v := .ref (ad 2)) K hP hinT (ci := 1) rfl 1 (by decide) rfl 0 (by decide) flT_9 rfl rfl dT_number_90 ?_
        refine lv_iload K.1 K.2.1 dT_number_93 (lv_at hL 3 rfl) ?_
        obtain ⟨g3, h⟩ := h
        refine x_cald K hP 2 (by decide) 2 rfl rfl g3 dT_number_95 ?_
        refine lv_bipush (v := 57) K.1 K.2.1 dT_number_96 (by decide) ?_
        refine lv_icmp_le (tgt := 103) K.1 K.2.1 dT_number_98 rfl (fun hc => ?_) (fun hc => ?_)
        · have h := h.1 hc
          refine lv_bipush (v := 10) K.1 K.2.1 dT_number_103 (by decide) ?_
          refine lv_iload K.1 K.2.1 dT_number_105 (lv_at hL 2 rfl) ?_
          refine lv_imul K.1 K.2.1 dT_number_107 ?_
          refine lv_aload_n K.1 K.2.1 dT_number_108 rfl (lv_at hL 0 rfl) ?_
          refine x_get (v := .ref (ad 2)) K hP hinT (ci := 1) rfl 1 (by decide) rfl 0 (by decide) flT_9 rfl rfl dT_number_109 ?_
          refine lv_iload K.1 K.2.1 dT_number_112 (lv_at hL 3 rfl) ?_
          obtain ⟨g4, h⟩ := h
          refine x_cald K hP 2 (by decide) 2 rfl rfl g4 dT_number_114 ?_
          refine lv_bipush (v := 48) K.1 K.2.1 dT_number_115 (by decide) ?_
          refine lv_isub K.1 K.2.1 dT_number_117 ?_
          refine lv_iadd K.1 K.2.1 dT_number_118 ?_
          refine lv_istore (lv' := [(5, .int (((10 : Int32) * v5) + ((hi 2 (v6.toNatClampNeg)) - (48 : Int32)))), (0, .ref (ad 1)), (1, .int v1), (6, .int v6)]) K.1 K.2.1 dT_number_119 hL (by decide) rfl (fun ls hL => ?_)
          refine lv_iinc (k := 3) (lv' := [(6, .int (v6 + Int32.ofInt (1))), (5, .int (((10 : Int32) * v5) + ((hi 2 (v6.toNatClampNeg)) - (48 : Int32)))), (0, .ref (ad 1)), (1, .int v1)]) K.1 K.2.1 dT_number_121 hL rfl rfl (by decide) rfl (fun ls hL => ?_)
          refine lv_goto (tgt := 66) K.1 K.2.1 dT_number_124 rfl ?_
          exact ih h (lv_sub hL [2, 3, 1, 0] rfl) hP hS
        · have h := h.2 hc
          refine lv_iconst (v := -1) K.1 K.2.1 dT_number_101 (by decide) ?_
          exact x_iret K hr hP hS h dT_number_102
set_option maxRecDepth 100000 in
set_option maxHeartbeats 4000000 in
theorem bT_number_60 {p : Program} {l : Launch} {e : Env} {s : State} {m : MethodId} {args : Array Value} {below : List Frame} {meth : Method} {c : Code} {D : va_G} {cI cJ cC cZ cR : ClassId} {ad kd sd vd : Nat → Nat} {kA lA wA : Nat} {A : Nat → Prop} (K : Cx p (rmX 0 0) s m args meth c cT_number 7 "WordChecker$Text" gT D cls8 (tys5 cI cJ cC cZ cR) 64 ad A (ZX A kd sd vd kA lA wA)) (hr : meth.sig.returnType = (some .int)) (hZ : ZsOK A (ZX A kd sd vd kA lA wA)) {Φ : Int32 → HI → HL → Prop} {v1 : Int32} {v3 : Int32} {hi : HI} {hl : HL} {H : Heap} {locs : List Loc} (h : wbT_number_60 v1 v3 hi hl Φ) {ls : Array Slot} (hL : lv_has ls 7 [(0, .ref (ad 1)), (1, .int v1), (3, .int v3)]) (hP : va_P D cls8 (wl 64 ad (GX cI cJ cC cZ cR ad kd) hi hl) H) (hS : va_S A s.heap H locs) : W p l e (rmX 0 0) s m args below meth c H locs 0 0 (MQ below (va_Qi (fun r (u : HI × HL) => Φ r u.1 u.2) (fun u t => va_P D cls8 (wl 64 ad (GX cI cJ cC cZ cR ad kd) u.1 u.2) t.heap) A) args s 0 0 A) (F0 m 60 ls []) := by
  unfold wbT_number_60 at h
  refine lv_iconst (v := 0) K.1 K.2.1 dT_number_60 (by decide) ?_
  refine lv_istore (lv' := [(5, .int (0 : Int32)), (0, .ref (ad 1)), (1, .int v1), (3, .int v3)]) K.1 K.2.1 dT_number_61 hL (by decide) rfl (fun ls hL => ?_)
  refine lv_iload_n K.1 K.2.1 dT_number_63 rfl (lv_at hL 3 rfl) ?_
  refine lv_istore (lv' := [(6, .int v3), (5, .int (0 : Int32)), (0, .ref (ad 1)), (1, .int v1), (3, .int v3)]) K.1 K.2.1 dT_number_64 hL (by decide) rfl (fun ls hL => ?_)
  obtain ⟨fu, h⟩ := h
  exact bT_number_66 K hr hZ h (lv_sub hL [2, 3, 1, 0] rfl) hP hS
set_option maxRecDepth 100000 in
set_option maxHeartbeats 4000000 in
theorem bT_number_0 {p : Program} {l : Launch} {e : Env} {s : State} {m : MethodId} {args : Array Value} {below : List Frame} {meth : Method} {c : Code} {D : va_G} {cI cJ cC cZ cR : ClassId} {ad kd sd vd : Nat → Nat} {kA lA wA : Nat} {A : Nat → Prop} (K : Cx p (rmX 0 0) s m args meth c cT_number 7 "WordChecker$Text" gT D cls8 (tys5 cI cJ cC cZ cR) 64 ad A (ZX A kd sd vd kA lA wA)) (hr : meth.sig.returnType = (some .int)) (hZ : ZsOK A (ZX A kd sd vd kA lA wA)) {Φ : Int32 → HI → HL → Prop} {v1 : Int32} {v2 : Int32} {hi : HI} {hl : HL} {H : Heap} {locs : List Loc} (h : wbT_number_0 v1 v2 hi hl Φ) {ls : Array Slot} (hL : lv_has ls 7 [(0, .ref (ad 1)), (1, .int v1), (2, .int v2)]) (hP : va_P D cls8 (wl 64 ad (GX cI cJ cC cZ cR ad kd) hi hl) H) (hS : va_S A s.heap H locs) : W p l e (rmX 0 0) s m args below meth c H locs 0 0 (MQ below (va_Qi (fun r (u : HI × HL) => Φ r u.1 u.2) (fun u t => va_P D cls8 (wl 64 ad (GX cI cJ cC cZ cR ad kd) u.1 u.2) t.heap) A) args s 0 0 A) (F0 m 0 ls []) := by
  unfold wbT_number_0 at h
  refine lv_iload_n K.1 K.2.1 dT_number_0 rfl (lv_at hL 1 rfl) ?_
  refine lv_aload_n K.1 K.2.1 dT_number_1 rfl (lv_at hL 0 rfl) ?_
  refine x_get (v := .int (hi 1 4)) K hP hinT (ci := 1) rfl 1 (by decide) rfl 4 (by decide) flT_30 rfl rfl dT_number_2 ?_
  refine lv_icmp_lt (tgt := 10) K.1 K.2.1 dT_number_5 rfl (fun hc => ?_) (fun hc => ?_)
  · have h := h.1 hc
    refine lv_aload_n K.1 K.2.1 dT_number_10 rfl (lv_at hL 0 rfl) ?_
    refine x_get (v := .ref (ad 3)) K hP hinT (ci := 1) rfl 1 (by decide) rfl 1 (by decide) flT_15 rfl rfl dT_number_11 ?_
    refine lv_iload_n K.1 K.2.1 dT_number_14 rfl (lv_at hL 1 rfl) ?_
    obtain ⟨g1, h⟩ := h
    refine x_iald K hP 3 (by decide) 0 rfl rfl g1 dT_number_15 ?_
    refine lv_iload_n K.1 K.2.1 dT_number_16 rfl (lv_at hL 2 rfl) ?_
    refine lv_iadd K.1 K.2.1 dT_number_17 ?_
    refine lv_istore_n (lv' := [(3, .int ((hi 3 (v1.toNatClampNeg)) + v2)), (0, .ref (ad 1)), (1, .int v1), (2, .int v2)]) K.1 K.2.1 dT_number_18 rfl hL (by decide) rfl (fun ls hL => ?_)
    refine lv_aload_n K.1 K.2.1 dT_number_19 rfl (lv_at hL 1 rfl) ?_
    refine x_get (v := .ref (ad 4)) K hP hinT (ci := 1) rfl 1 (by decide) rfl 2 (by decide) flT_19 rfl rfl dT_number_20 ?_
    refine lv_iload_n K.1 K.2.1 dT_number_23 rfl (lv_at hL 2 rfl) ?_
    obtain ⟨g2, h⟩ := h
    refine x_iald K hP 4 (by decide) 0 rfl rfl g2 dT_number_24 ?_
    refine lv_iload_n K.1 K.2.1 dT_number_25 rfl (lv_at hL 0 rfl) ?_
    refine lv_isub K.1 K.2.1 dT_number_26 ?_
    refine lv_istore (lv' := [(4, .int ((hi 4 (v1.toNatClampNeg)) - ((hi 3 (v1.toNatClampNeg)) + v2))), (3, .int ((hi 3 (v1.toNatClampNeg)) + v2)), (0, .ref (ad 1)), (1, .int v1), (2, .int v2)]) K.1 K.2.1 dT_number_27 hL (by decide) rfl (fun ls hL => ?_)
    refine lv_iload K.1 K.2.1 dT_number_29 (lv_at hL 0 rfl) ?_
    refine lv_iconst (v := 1) K.1 K.2.1 dT_number_31 (by decide) ?_
    refine lv_icmp_lt (tgt := 58) K.1 K.2.1 dT_number_32 rfl (fun hc => ?_) (fun hc => ?_)
    · have h := h.1 hc
      refine lv_iconst (v := -1) K.1 K.2.1 dT_number_58 (by decide) ?_
      exact x_iret K hr hP hS h dT_number_59
    · have h := h.2 hc
      refine lv_iload K.1 K.2.1 dT_number_35 (lv_at hL 0 rfl) ?_
      refine lv_iconst (v := 2) K.1 K.2.1 dT_number_37 (by decide) ?_
      refine lv_icmp_gt (tgt := 58) K.1 K.2.1 dT_number_38 rfl (fun hc => ?_) (fun hc => ?_)
      · have h := h.1 hc
        refine lv_iconst (v := -1) K.1 K.2.1 dT_number_58 (by decide) ?_
        exact x_iret K hr hP hS h dT_number_59
      · have h := h.2 hc
        refine lv_iload K.1 K.2.1 dT_number_41 (lv_at hL 0 rfl) ?_
        refine lv_iconst (v := 2) K.1 K.2.1 dT_number_43 (by decide) ?_
        refine lv_icmp_ne (tgt := 60) K.1 K.2.1 dT_number_44 rfl (fun hc => ?_) (fun hc => ?_)
        · have h := h.2 hc
          exact bT_number_60 K hr hZ h (lv_sub hL [2, 3, 1] rfl) hP hS
        · have h := h.1 hc
          refine lv_aload_n K.1 K.2.1 dT_number_47 rfl (lv_at hL 2 rfl) ?_
          refine x_get (v := .ref (ad 2)) K hP hinT (ci := 1) rfl 1 (by decide) rfl 0 (by decide) flT_9 rfl rfl dT_number_48 ?_
          refine lv_iload_n K.1 K.2.1 dT_number_51 rfl (lv_at hL 1 rfl) ?_
          obtain ⟨g3, h⟩ := h
          refine x_cald K hP 2 (by decide) 2 rfl rfl g3 dT_number_52 ?_
          refine lv_bipush (v := 48) K.1 K.2.1 dT_number_53 (by decide) ?_
          refine lv_icmp_ne (tgt := 60) K.1 K.2.1 dT_number_55 rfl (fun hc => ?_) (fun hc => ?_)
          · have h := h.2 hc
            exact bT_number_60 K hr hZ h (lv_sub hL [2, 3, 1] rfl) hP hS
          · have h := h.1 hc
            refine lv_iconst (v := -1) K.1 K.2.1 dT_number_58 (by decide) ?_
            exact x_iret K hr hP hS h dT_number_59
  · have h := h.2 hc
    refine lv_iconst (v := -1) K.1 K.2.1 dT_number_8 (by decide) ?_
    exact x_iret K hr hP hS h dT_number_9
set_option maxRecDepth 100000 in
set_option maxHeartbeats 4000000 in
theorem mT_number {l : Launch} {D : va_G} {cI cJ cC cZ cR : ClassId} {ad kd sd vd : Nat → Nat} {kA lA wA : Nat} {A : Nat → Prop} (hZ : ZsOK A (ZX A kd sd vd kA lA wA)) (hD : wlD 64 ad A) {v1 : Int32} {v2 : Int32} {hi : HI} {hl : HL} {Φ : Int32 → HI → HL → Prop} (h : wpT_number v1 v2 hi hl Φ) : SpI l yT_number cT_number 7 (some .int) gT 0 0 [.ref (ad 1), .int v1, .int v2] D cls8 (tys5 cI cJ cC cZ cR) 64 ad (GX cI cJ cC cZ cR ad kd) A (ZX A kd sd vd kA lA wA) hi hl Φ := by
  refine Met.ofW (cc := cT_number) (maxL := 7) (ret := (some .int)) (by decide) rfl ?_
  intro p e s m args below meth c s₁ B hml hv
  obtain ⟨rfl, hP, hK, hZs⟩ := hv
  have K : Cx p (rmX 0 0) s m _ meth c cT_number 7 "WordChecker$Text" gT D cls8 (tys5 cI cJ cC cZ cR) 64 ad A (ZX A kd sd vd kA lA wA) := ⟨B.exec, B.bytes, hml, findClass_of_methodNamed B.named, fun w hw => atoms_spec B.pre w (List.mem_cons_of_mem _ hw), B.notSynchronized, hK, hD, hZs⟩
  have hL := lv_entry ([.ref (ad 1), .int v1, .int v2]) (n := 7) (Nat.le_of_ble_eq_true rfl)
  rw [lg_entry_eq]
  generalize (lg_sl ([.ref (ad 1), .int v1, .int v2]) ++ List.replicate (7 - (lg_sl ([.ref (ad 1), .int v1, .int v2])).length) Slot.unset).toArray = ls at hL ⊢
  have hL : lv_has ls 7 [(0, .ref (ad 1)), (1, .int v1), (2, .int v2)] := hL
  unfold wpT_number at h
  exact bT_number_0 K B.returns hZ h (lv_sub hL [0, 1, 2] rfl) hP va_S.rf
