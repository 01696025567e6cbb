set_option maxRecDepth 100000 in
set_option maxHeartbeats 4000000 in
theorem bD_nodeFits_84 {p : Program} {l : Launch} {e : Env} {s : State} {m : MethodId} {args : Array Value} {below : List Frame} {meth : Method} {c : Code} {D : va_G} {cI cJ cC cZ cR : ClassId} {ad kd sd vd : Nat → Nat} {kA lA wA : Nat} {A : Nat → Prop} (K : Cx p (rmX 2 45) s m args meth c cD_nodeFits 6 "WordChecker$Draft" gT D cls8 (tys5 cI cJ cC cZ cR) 64 ad A (ZX A kd sd vd kA lA wA)) (hr : meth.sig.returnType = (some .boolean)) (hZ : ZsOK A (ZX A kd sd vd kA lA wA)) {Φ : Int32 → HI → HL → Prop} {v1 : Int32} {v3 : Int32} {v4 : Int32} {v5 : Nat} {hi : HI} {hl : HL} {H : Heap} {locs : List Loc} (h : wbD_nodeFits_84 v1 v3 v4 v5 hi hl Φ) (hv5 : v5 < 20) {ls : Array Slot} (hL : lv_has ls 6 [(0, .ref (ad 10)), (1, .int v1), (3, .int v3), (4, .int v4), (5, .ref (ad (24 + v5)))]) (hP : va_P D cls8 (wl 64 ad (GX cI cJ cC cZ cR ad kd) hi hl) H) (hS : va_S A s.heap H locs) : W p l e (rmX 2 45) s m args below meth c H locs 0 0 (MQ below (va_Qi (fun r (u : HI × HL) => Φ r u.1 u.2) (fun u t => va_P D cls8 (wl 64 ad (GX cI cJ cC cZ cR ad kd) u.1 u.2) t.heap) A) args s 0 0 A) (F0 m 84 ls []) := by
  unfold wbD_nodeFits_84 at h
  refine lv_aload_n K.1 K.2.1 dD_nodeFits_84 rfl (lv_at hL 0 rfl) ?_
  refine lv_iload_n K.1 K.2.1 dD_nodeFits_85 rfl (lv_at hL 1 rfl) ?_
  refine lv_aload K.1 K.2.1 dD_nodeFits_86 (lv_at hL 4 rfl) ?_
  refine lv_iload_n K.1 K.2.1 dD_nodeFits_88 rfl (lv_at hL 2 rfl) ?_
  refine x_cVI (As := [.int v1, .ref (ad (24 + v5)), .int v3]) (rest := []) K gT_good hZ hP hS calD_suits mlD_157 10 (by decide) rfl rfl (mD_suits hZ K.2.2.2.2.2.2.2.1 hv5 h) ⟨Nat.le_of_ble_eq_true rfl, Nat.le_of_ble_eq_true rfl⟩ rfl hL.1 rfl (Nat.le_of_ble_eq_true rfl) dD_nodeFits_89 (fun r1 hi2 hl3 H locs h hP hS => ?_)
  refine lv_if_ne (tgt := 97) K.1 K.2.1 dD_nodeFits_92 rfl (fun hc => ?_) (fun hc => ?_)
  · have h := h.2 hc
    refine lv_aload_n K.1 K.2.1 dD_nodeFits_97 rfl (lv_at hL 0 rfl) ?_
    refine x_get (v := .ref (ad 11)) K hP hinD (ci := 3) rfl 10 (by decide) rfl 5 (by decide) flD_9 rfl rfl dD_nodeFits_98 ?_
    refine lv_aload_n K.1 K.2.1 dD_nodeFits_101 rfl (lv_at hL 0 rfl) ?_
    refine x_get (v := .int (hi2 10 7)) K hP hinD (ci := 3) rfl 10 (by decide) rfl 7 (by decide) flD_27 rfl rfl dD_nodeFits_102 ?_
    refine lv_iload K.1 K.2.1 dD_nodeFits_105 (lv_at hL 3 rfl) ?_
    obtain ⟨g4, h⟩ := h
    refine x_iast K hP hS 11 (by decide) 0 (fun _ => rfl) rfl g4 dD_nodeFits_107 (fun H locs hP hS => ?_)
    refine lv_aload_n K.1 K.2.1 dD_nodeFits_108 rfl (lv_at hL 0 rfl) ?_
    refine x_get (v := .ref (ad 12)) K hP hinD (ci := 3) rfl 10 (by decide) rfl 6 (by decide) flD_15 rfl rfl dD_nodeFits_109 ?_
    refine lv_aload_n K.1 K.2.1 dD_nodeFits_112 rfl (lv_at hL 0 rfl) ?_
    refine x_get (v := .int ((u2 hi2 11 ((hi2 10 7).toNatClampNeg) v4) 10 7)) K hP hinD (ci := 3) rfl 10 (by decide) rfl 7 (by decide) flD_27 rfl rfl dD_nodeFits_113 ?_
    refine lv_iload_n K.1 K.2.1 dD_nodeFits_116 rfl (lv_at hL 2 rfl) ?_
    obtain ⟨g5, h⟩ := h
    refine x_zast K hP hS 12 (by decide) 3 (fun _ => rfl) rfl g5 dD_nodeFits_117 (fun H locs hP hS => ?_)
    refine lv_aload_n K.1 K.2.1 dD_nodeFits_118 rfl (lv_at hL 0 rfl) ?_
    refine lv_dup K.1 K.2.1 dD_nodeFits_119 rfl ?_
    refine x_get (v := .int ((u2 (u2 hi2 11 ((hi2 10 7).toNatClampNeg) v4) 12 (((u2 hi2 11 ((hi2 10 7).toNatClampNeg) v4) 10 7).toNatClampNeg) (vp_nar .boolean v3)) 10 7)) K hP hinD (ci := 3) rfl 10 (by decide) rfl 7 (by decide) flD_27 rfl rfl dD_nodeFits_120 ?_
    refine lv_iconst (v := 1) K.1 K.2.1 dD_nodeFits_123 (by decide) ?_
    refine lv_iadd K.1 K.2.1 dD_nodeFits_124 ?_
    refine x_put (v := .int (((u2 (u2 hi2 11 ((hi2 10 7).toNatClampNeg) v4) 12 (((u2 hi2 11 ((hi2 10 7).toNatClampNeg) v4) 10 7).toNatClampNeg) (vp_nar .boolean v3)) 10 7) + (1 : Int32))) K hP hS hinD tyD tyD_ok nmD (ci := 3) rfl 10 (by decide) rfl 7 (by decide) flD_27 rfl rfl (((u2 (u2 hi2 11 ((hi2 10 7).toNatClampNeg) v4) 12 (((u2 hi2 11 ((hi2 10 7).toNatClampNeg) v4) 10 7).toNatClampNeg) (vp_nar .boolean v3)) 10 7) + (1 : Int32)) rfl rfl rfl (Nat.le_of_ble_eq_true rfl) dD_nodeFits_125 (fun H locs hP hS => ?_)
    refine lv_aload_n K.1 K.2.1 dD_nodeFits_128 rfl (lv_at hL 0 rfl) ?_
    refine lv_aload K.1 K.2.1 dD_nodeFits_129 (lv_at hL 4 rfl) ?_
    refine x_getN (v := .int ((u2 (u2 (u2 hi2 11 ((hi2 10 7).toNatClampNeg) v4) 12 (((u2 hi2 11 ((hi2 10 7).toNatClampNeg) v4) 10 7).toNatClampNeg) (vp_nar .boolean v3)) 10 7 (((u2 (u2 hi2 11 ((hi2 10 7).toNatClampNeg) v4) 12 (((u2 hi2 11 ((hi2 10 7).toNatClampNeg) v4) 10 7).toNatClampNeg) (vp_nar .boolean v3)) 10 7) + (1 : Int32))) (24 + v5) 2)) K hP hinL (ci := 6) rfl (24 + v5) (lt_l hv5) (GX_line _ hv5 _ _) 2 (by decide) (fnD_154 K.2.2.2.2.2.2.2.2) rfl rfl dD_nodeFits_131 ?_
    refine x_put (v := .int ((u2 (u2 (u2 hi2 11 ((hi2 10 7).toNatClampNeg) v4) 12 (((u2 hi2 11 ((hi2 10 7).toNatClampNeg) v4) 10 7).toNatClampNeg) (vp_nar .boolean v3)) 10 7 (((u2 (u2 hi2 11 ((hi2 10 7).toNatClampNeg) v4) 12 (((u2 hi2 11 ((hi2 10 7).toNatClampNeg) v4) 10 7).toNatClampNeg) (vp_nar .boolean v3)) 10 7) + (1 : Int32))) (24 + v5) 2)) K hP hS hinD tyD tyD_ok nmD (ci := 3) rfl 10 (by decide) rfl 8 (by decide) flD_141 rfl rfl ((u2 (u2 (u2 hi2 11 ((hi2 10 7).toNatClampNeg) v4) 12 (((u2 hi2 11 ((hi2 10 7).toNatClampNeg) v4) 10 7).toNatClampNeg) (vp_nar .boolean v3)) 10 7 (((u2 (u2 hi2 11 ((hi2 10 7).toNatClampNeg) v4) 12 (((u2 hi2 11 ((hi2 10 7).toNatClampNeg) v4) 10 7).toNatClampNeg) (vp_nar .boolean v3)) 10 7) + (1 : Int32))) (24 + v5) 2) rfl rfl rfl (Nat.le_of_ble_eq_true rfl) dD_nodeFits_134 (fun H locs hP hS => ?_)
    refine lv_iconst (v := 1) K.1 K.2.1 dD_nodeFits_137 (by decide) ?_
    obtain ⟨g6, h⟩ := h
    exact x_zret K hr hP hS g6 h dD_nodeFits_138
  · have h := h.1 hc
    refine lv_iconst (v := 0) K.1 K.2.1 dD_nodeFits_95 (by decide) ?_
    obtain ⟨g7, h⟩ := h
    exact x_zret K hr hP hS g7 h dD_nodeFits_96
set_option maxRecDepth 100000 in
set_option maxHeartbeats 4000000 in
theorem bD_nodeFits_27 {p : Program} {l : Launch} {e : Env} {s : State} {m : MethodId} {args : Array Value} {below : List Frame} {meth : Method} {c : Code} {D : va_G} {cI cJ cC cZ cR : ClassId} {ad kd sd vd : Nat → Nat} {kA lA wA : Nat} {A : Nat → Prop} (K : Cx p (rmX 2 45) s m args meth c cD_nodeFits 6 "WordChecker$Draft" gT D cls8 (tys5 cI cJ cC cZ cR) 64 ad A (ZX A kd sd vd kA lA wA)) (hr : meth.sig.returnType = (some .boolean)) (hZ : ZsOK A (ZX A kd sd vd kA lA wA)) {Φ : Int32 → HI → HL → Prop} {v1 : Int32} {v3 : Int32} {q2 : Int32} {q3 : Int32} {hi : HI} {hl : HL} {H : Heap} {locs : List Loc} (h : wbD_nodeFits_27 v1 v3 q2 q3 hi hl Φ) {ls : Array Slot} (hL : lv_has ls 6 [(0, .ref (ad 10)), (1, .int v1), (3, .int v3)]) (hP : va_P D cls8 (wl 64 ad (GX cI cJ cC cZ cR ad kd) hi hl) H) (hS : va_S A s.heap H locs) : W p l e (rmX 2 45) s m args below meth c H locs 0 0 (MQ below (va_Qi (fun r (u : HI × HL) => Φ r u.1 u.2) (fun u t => va_P D cls8 (wl 64 ad (GX cI cJ cC cZ cR ad kd) u.1 u.2) t.heap) A) args s 0 0 A) (F0 m 27 ls [.int q3, .int q2, .ref (ad 1), .ref (ad 5)]) := by
  unfold wbD_nodeFits_27 at h
  refine x_cVI (As := [.int q2, .int q3]) (rest := [.ref (ad 5)]) K gT_good hZ hP hS calT_number mlD_31 1 (by decide) rfl rfl (mT_number hZ K.2.2.2.2.2.2.2.1 h) ⟨Nat.le_of_ble_eq_true rfl, Nat.le_of_ble_eq_true rfl⟩ rfl hL.1 rfl (Nat.le_of_ble_eq_true rfl) dD_nodeFits_27 (fun r1 hi2 hl3 H locs h hP hS => ?_)
  refine x_cVI (As := [.int r1]) (rest := []) K gT_good hZ hP hS calB_nodeWith mlD_147 5 (by decide) rfl rfl (mB_nodeWith hZ K.2.2.2.2.2.2.2.1 h) ⟨Nat.le_of_ble_eq_true rfl, Nat.le_of_ble_eq_true rfl⟩ rfl hL.1 rfl (Nat.le_of_ble_eq_true rfl) dD_nodeFits_30 (fun r4 hi5 hl6 H locs h hP hS => ?_)
  refine lv_istore (lv' := [(4, .int r4), (0, .ref (ad 10)), (1, .int v1), (3, .int v3)]) K.1 K.2.1 dD_nodeFits_33 hL (by decide) rfl (fun ls hL => ?_)
  refine lv_iload K.1 K.2.1 dD_nodeFits_35 (lv_at hL 0 rfl) ?_
  refine lv_iconst (v := -1) K.1 K.2.1 dD_nodeFits_37 (by decide) ?_
  refine lv_icmp_eq (tgt := 53) K.1 K.2.1 dD_nodeFits_38 rfl (fun hc => ?_) (fun hc => ?_)
  · have h := h.1 hc
    refine lv_iconst (v := 0) K.1 K.2.1 dD_nodeFits_53 (by decide) ?_
    obtain ⟨g7, h⟩ := h
    exact x_zret K hr hP hS g7 h dD_nodeFits_54
  · have h := h.2 hc
    refine lv_aload_n K.1 K.2.1 dD_nodeFits_41 rfl (lv_at hL 1 rfl) ?_
    refine x_get (v := .int (hi5 10 7)) K hP hinD (ci := 3) rfl 10 (by decide) rfl 7 (by decide) flD_27 rfl rfl dD_nodeFits_42 ?_
    refine lv_aload_n K.1 K.2.1 dD_nodeFits_45 rfl (lv_at hL 1 rfl) ?_
    refine x_get (v := .ref (ad 11)) K hP hinD (ci := 3) rfl 10 (by decide) rfl 5 (by decide) flD_9 rfl rfl dD_nodeFits_46 ?_
    refine x_alen (v := 3) K hP 11 (by decide) 0 rfl rfl rfl dD_nodeFits_49 ?_
    refine lv_icmp_lt (tgt := 55) K.1 K.2.1 dD_nodeFits_50 rfl (fun hc => ?_) (fun hc => ?_)
    · have h := h.1 hc
      refine lv_aload_n K.1 K.2.1 dD_nodeFits_55 rfl (lv_at hL 1 rfl) ?_
      refine x_get (v := .ref (ad 5)) K hP hinD (ci := 3) rfl 10 (by decide) rfl 1 (by decide) flD_23 rfl rfl dD_nodeFits_56 ?_
      refine x_getN (v := .ref (ad 6)) K hP hinB (ci := 2) rfl 5 (by decide) rfl 0 (by decide) (fnD_150 K.2.2.2.2.2.2.2.2) rfl rfl dD_nodeFits_59 ?_
      refine lv_iload K.1 K.2.1 dD_nodeFits_62 (lv_at hL 0 rfl) ?_
      obtain ⟨g8, h⟩ := h
      refine x_aald K hP 6 (by decide) 4 rfl rfl g8 (q := ad (24 + (r4.toNatClampNeg))) rfl dD_nodeFits_64 ?_
      refine lv_astore (lv' := [(5, .ref (ad (24 + (r4.toNatClampNeg)))), (4, .int r4), (0, .ref (ad 10)), (1, .int v1), (3, .int v3)]) K.1 K.2.1 dD_nodeFits_65 hL (by decide) rfl (fun ls hL => ?_)
      refine lv_iload_n K.1 K.2.1 dD_nodeFits_67 rfl (lv_at hL 4 rfl) ?_
      refine lv_if_eq (tgt := 84) K.1 K.2.1 dD_nodeFits_68 rfl (fun hc => ?_) (fun hc => ?_)
      · have h := h.1 hc
        exact bD_nodeFits_84 K hr hZ h (in_lt g8) (lv_sub hL [2, 3, 4, 1, 0] rfl) hP hS
      · have h := h.2 hc
        refine lv_aload K.1 K.2.1 dD_nodeFits_71 (lv_at hL 0 rfl) ?_
        refine x_getN (v := .int (hi5 (24 + (r4.toNatClampNeg)) 2)) K hP hinL (ci := 6) rfl (24 + (r4.toNatClampNeg)) (lt_l (in_lt g8)) (GX_line _ (in_lt g8) _ _) 2 (by decide) (fnD_154 K.2.2.2.2.2.2.2.2) rfl rfl dD_nodeFits_73 ?_
        refine x_cSNI (As := [.int (hi5 (24 + (r4.toNatClampNeg)) 2)]) (rest := []) K gT_good hZ hP hS calC_isArray (mnD_114 K.2.2.2.2.2.2.2.2) (mC_isArray hZ K.2.2.2.2.2.2.2.1 h) ⟨Nat.le_of_ble_eq_true rfl, Nat.le_of_ble_eq_true rfl⟩ rfl hL.1 rfl (Nat.le_of_ble_eq_true rfl) dD_nodeFits_76 (fun r9 hi10 hl11 H locs h hP hS => ?_)
        refine lv_if_eq (tgt := 84) K.1 K.2.1 dD_nodeFits_79 rfl (fun hc => ?_) (fun hc => ?_)
        · have h := h.1 hc
          exact bD_nodeFits_84 K hr hZ h (in_lt g8) (lv_sub hL [2, 3, 4, 1, 0] rfl) hP hS
        · have h := h.2 hc
          refine lv_iconst (v := 0) K.1 K.2.1 dD_nodeFits_82 (by decide) ?_
          obtain ⟨g12, h⟩ := h
          exact x_zret K hr hP hS g12 h dD_nodeFits_83
    · have h := h.2 hc
      refine lv_iconst (v := 0) K.1 K.2.1 dD_nodeFits_53 (by decide) ?_
      obtain ⟨g13, h⟩ := h
      exact x_zret K hr hP hS g13 h dD_nodeFits_54
set_option maxRecDepth 100000 in
set_option maxHeartbeats 4000000 in
theorem bD_nodeFits_0 {p : Program} {l : Launch} {e : Env} {s : State} {m : MethodId} {args : Array Value} {below : List Frame} {meth : Method} {c : Code} {D : va_G} {cI cJ cC cZ cR : ClassId} {ad kd sd vd : Nat → Nat} {kA lA wA : Nat} {A : Nat → Prop} (K : Cx p (rmX 2 45) s m args meth c cD_nodeFits 6 "WordChecker$Draft" gT D cls8 (tys5 cI cJ cC cZ cR) 64 ad A (ZX A kd sd vd kA lA wA)) (hr : meth.sig.returnType = (some .boolean)) (hZ : ZsOK A (ZX A kd sd vd kA lA wA)) {Φ : Int32 → HI → HL → Prop} {v1 : Int32} {v2 : Int32} {hi : HI} {hl : HL} {H : Heap} {locs : List Loc} (h : wbD_nodeFits_0 v1 v2 hi hl Φ) {ls : Array Slot} (hL : lv_has ls 6 [(0, .ref (ad 10)), (1, .int v1), (2, .int v2)]) (hP : va_P D cls8 (wl 64 ad (GX cI cJ cC cZ cR ad kd) hi hl) H) (hS : va_S A s.heap H locs) : W p l e (rmX 2 45) s m args below meth c H locs 0 0 (MQ below (va_Qi (fun r (u : HI × HL) => Φ r u.1 u.2) (fun u t => va_P D cls8 (wl 64 ad (GX cI cJ cC cZ cR ad kd) u.1 u.2) t.heap) A) args s 0 0 A) (F0 m 0 ls []) := by
  unfold wbD_nodeFits_0 at h
  refine lv_aload_n K.1 K.2.1 dD_nodeFits_0 rfl (lv_at hL 0 rfl) ?_
  refine x_get (v := .ref (ad 1)) K hP hinD (ci := 3) rfl 10 (by decide) rfl 0 (by decide) flD_19 rfl rfl dD_nodeFits_1 ?_
  refine lv_iload_n K.1 K.2.1 dD_nodeFits_4 rfl (lv_at hL 2 rfl) ?_
  refine x_cVI (As := [.int v2]) (rest := []) K gT_good hZ hP hS calT_hasMinus mlD_144 1 (by decide) rfl rfl (mT_hasMinus hZ K.2.2.2.2.2.2.2.1 h) ⟨Nat.le_of_ble_eq_true rfl, Nat.le_of_ble_eq_true rfl⟩ rfl hL.1 rfl (Nat.le_of_ble_eq_true rfl) dD_nodeFits_5 (fun r1 hi2 hl3 H locs h hP hS => ?_)
  refine lv_istore_n (lv' := [(3, .int r1), (0, .ref (ad 10)), (1, .int v1), (2, .int v2)]) K.1 K.2.1 dD_nodeFits_8 rfl hL (by decide) rfl (fun ls hL => ?_)
  refine lv_aload_n K.1 K.2.1 dD_nodeFits_9 rfl (lv_at hL 1 rfl) ?_
  refine x_get (v := .ref (ad 5)) K hP hinD (ci := 3) rfl 10 (by decide) rfl 1 (by decide) flD_23 rfl rfl dD_nodeFits_10 ?_
  refine lv_aload_n K.1 K.2.1 dD_nodeFits_13 rfl (lv_at hL 1 rfl) ?_
  refine x_get (v := .ref (ad 1)) K hP hinD (ci := 3) rfl 10 (by decide) rfl 0 (by decide) flD_19 rfl rfl dD_nodeFits_14 ?_
  refine lv_iload_n K.1 K.2.1 dD_nodeFits_17 rfl (lv_at hL 3 rfl) ?_
  refine lv_iload_n K.1 K.2.1 dD_nodeFits_18 rfl (lv_at hL 0 rfl) ?_
  refine lv_if_eq (tgt := 26) K.1 K.2.1 dD_nodeFits_19 rfl (fun hc => ?_) (fun hc => ?_)
  · have h := h.1 hc
    refine lv_iconst (v := 0) K.1 K.2.1 dD_nodeFits_26 (by decide) ?_
    exact bD_nodeFits_27 K hr hZ h (lv_sub hL [1, 2, 0] rfl) hP hS
  · have h := h.2 hc
    refine lv_iconst (v := 1) K.1 K.2.1 dD_nodeFits_22 (by decide) ?_
    refine lv_goto (tgt := 27) K.1 K.2.1 dD_nodeFits_23 rfl ?_
    exact bD_nodeFits_27 K hr hZ h (lv_sub hL [1, 2, 0] rfl) hP hS
set_option maxRecDepth 100000 in
set_option maxHeartbeats 4000000 in
theorem mD_nodeFits {l : Launch} {D : va_G} {cI cJ cC cZ cR : ClassId} {ad kd sd vd : Nat → Nat} {kA lA wA : Nat} {A : Nat → Prop} (hZ : ZsOK A (ZX A kd sd vd kA lA wA)) (hD : wlD 64 ad A) {v1 : Int32} {v2 : Int32} {hi : HI} {hl : HL} {Φ : Int32 → HI → HL → Prop} (h : wpD_nodeFits v1 v2 hi hl Φ) : SpI l yD_nodeFits cD_nodeFits 6 (some .boolean) gT 2 45 [.ref (ad 10), .int v1, .int v2] D cls8 (tys5 cI cJ cC cZ cR) 64 ad (GX cI cJ cC cZ cR ad kd) A (ZX A kd sd vd kA lA wA) hi hl Φ := by
  refine Met.ofW (cc := cD_nodeFits) (maxL := 6) (ret := (some .boolean)) (by decide) rfl ?_
  intro p e s m args below meth c s₁ B hml hv
  obtain ⟨rfl, hP, hK, hZs⟩ := hv
  have K : Cx p (rmX 2 45) s m _ meth c cD_nodeFits 6 "WordChecker$Draft" gT D cls8 (tys5 cI cJ cC cZ cR) 64 ad A (ZX A kd sd vd kA lA wA) := ⟨B.exec, B.bytes, hml, findClass_of_methodNamed B.named, fun w hw => atoms_spec B.pre w (List.mem_cons_of_mem _ hw), B.notSynchronized, hK, hD, hZs⟩
  have hL := lv_entry ([.ref (ad 10), .int v1, .int v2]) (n := 6) (Nat.le_of_ble_eq_true rfl)
  rw [lg_entry_eq]
  generalize (lg_sl ([.ref (ad 10), .int v1, .int v2]) ++ List.replicate (6 - (lg_sl ([.ref (ad 10), .int v1, .int v2])).length) Slot.unset).toArray = ls at hL ⊢
  have hL : lv_has ls 6 [(0, .ref (ad 10)), (1, .int v1), (2, .int v2)] := hL
  unfold wpD_nodeFits at h
  exact bD_nodeFits_0 K B.returns hZ h (lv_sub hL [0, 1, 2] rfl) hP va_S.rf
set_option maxRecDepth 100000 in
set_option maxHeartbeats 4000000 in
theorem bD_numberFits_0 {p : Program} {l : Launch} {e : Env} {s : State} {m : MethodId} {args : Array Value} {below : List Frame} {meth : Method} {c : Code} {D : va_G} {cI cJ cC cZ cR : ClassId} {ad kd sd vd : Nat → Nat} {kA lA wA : Nat} {A : Nat → Prop} (K : Cx p (rmX 1 26) s m args meth c cD_numberFits 3 "WordChecker$Draft" gT D cls8 (tys5 cI cJ cC cZ cR) 64 ad A (ZX A kd sd vd kA lA wA)) (hr : meth.sig.returnType = (some .boolean)) (hZ : ZsOK A (ZX A kd sd vd kA lA wA)) {Φ : Int32 → HI → HL → Prop} {v1 : Int32} {v2 : Int32} {hi : HI} {hl : HL} {H : Heap} {locs : List Loc} (h : wbD_numberFits_0 v1 v2 hi hl Φ) {ls : Array Slot} (hL : lv_has ls 3 [(0, .ref (ad 10)), (1, .int v1), (2, .int v2)]) (hP : va_P D cls8 (wl 64 ad (GX cI cJ cC cZ cR ad kd) hi hl) H) (hS : va_S A s.heap H locs) : W p l e (rmX 1 26) s m args below meth c H locs 0 0 (MQ below (va_Qi (fun r (u : HI × HL) => Φ r u.1 u.2) (fun u t => va_P D cls8 (wl 64 ad (GX cI cJ cC cZ cR ad kd) u.1 u.2) t.heap) A) args s 0 0 A) (F0 m 0 ls []) := by
  unfold wbD_numberFits_0 at h
  refine lv_aload_n K.1 K.2.1 dD_numberFits_0 rfl (lv_at hL 0 rfl) ?_
  refine lv_aload_n K.1 K.2.1 dD_numberFits_1 rfl (lv_at hL 0 rfl) ?_
  refine x_get (v := .int (hi 10 9)) K hP hinD (ci := 3) rfl 10 (by decide) rfl 9 (by decide) flD_136 rfl rfl dD_numberFits_2 ?_
  refine x_put (v := .int (hi 10 9)) K hP hS hinD tyD tyD_ok nmD (ci := 3) rfl 10 (by decide) rfl 10 (by decide) flD_138 rfl rfl (hi 10 9) rfl rfl rfl (Nat.le_of_ble_eq_true rfl) dD_numberFits_5 (fun H locs hP hS => ?_)
  refine lv_aload_n K.1 K.2.1 dD_numberFits_8 rfl (lv_at hL 0 rfl) ?_
  refine lv_aload_n K.1 K.2.1 dD_numberFits_9 rfl (lv_at hL 0 rfl) ?_
  refine x_get (v := .ref (ad 1)) K hP hinD (ci := 3) rfl 10 (by decide) rfl 0 (by decide) flD_19 rfl rfl dD_numberFits_10 ?_
  refine lv_iload_n K.1 K.2.1 dD_numberFits_13 rfl (lv_at hL 2 rfl) ?_
  refine lv_iconst (v := 0) K.1 K.2.1 dD_numberFits_14 (by decide) ?_
  refine x_cVI (As := [.int v2, .int (0 : Int32)]) (rest := [.ref (ad 10)]) K gT_good hZ hP hS calT_number mlD_31 1 (by decide) rfl rfl (mT_number hZ K.2.2.2.2.2.2.2.1 h) ⟨Nat.le_of_ble_eq_true rfl, Nat.le_of_ble_eq_true rfl⟩ rfl hL.1 rfl (Nat.le_of_ble_eq_true rfl) dD_numberFits_15 (fun r1 hi2 hl3 H locs h hP hS => ?_)
  refine x_put (v := .int r1) K hP hS hinD tyD tyD_ok nmD (ci := 3) rfl 10 (by decide) rfl 9 (by decide) flD_136 rfl rfl r1 rfl rfl rfl (Nat.le_of_ble_eq_true rfl) dD_numberFits_18 (fun H locs hP hS => ?_)
  refine lv_aload_n K.1 K.2.1 dD_numberFits_21 rfl (lv_at hL 0 rfl) ?_
  refine x_get (v := .int ((u2 hi2 10 9 r1) 10 9)) K hP hinD (ci := 3) rfl 10 (by decide) rfl 9 (by decide) flD_136 rfl rfl dD_numberFits_22 ?_
  refine lv_iconst (v := -1) K.1 K.2.1 dD_numberFits_25 (by decide) ?_
  refine lv_icmp_ne (tgt := 31) K.1 K.2.1 dD_numberFits_26 rfl (fun hc => ?_) (fun hc => ?_)
  · have h := h.2 hc
    refine lv_iload_n K.1 K.2.1 dD_numberFits_31 rfl (lv_at hL 1 rfl) ?_
    by_cases hc0 : v1 = 76
    · have h := h.1 hc0
      refine lv_lookup (off := 80) (tgt := 112) K.1 K.2.1 dD_numberFits_32 (by decide) (by rw [hc0]; decide) rfl ?_
      refine lv_aload_n K.1 K.2.1 dD_numberFits_112 rfl (lv_at hL 0 rfl) ?_
      refine x_get (v := .int ((u2 hi2 10 9 r1) 10 10)) K hP hinD (ci := 3) rfl 10 (by decide) rfl 10 (by decide) flD_138 rfl rfl dD_numberFits_113 ?_
      refine lv_aload_n K.1 K.2.1 dD_numberFits_116 rfl (lv_at hL 0 rfl) ?_
      refine x_get (v := .int ((u2 hi2 10 9 r1) 10 9)) K hP hinD (ci := 3) rfl 10 (by decide) rfl 9 (by decide) flD_136 rfl rfl dD_numberFits_117 ?_
      refine lv_isub K.1 K.2.1 dD_numberFits_120 ?_
      refine lv_iconst (v := 1) K.1 K.2.1 dD_numberFits_121 (by decide) ?_
      refine lv_iadd K.1 K.2.1 dD_numberFits_122 ?_
      refine lv_aload_n K.1 K.2.1 dD_numberFits_123 rfl (lv_at hL 0 rfl) ?_
      refine x_get (v := .int ((u2 hi2 10 9 r1) 10 4)) K hP hinD (ci := 3) rfl 10 (by decide) rfl 4 (by decide) flD_106 rfl rfl dD_numberFits_124 ?_
      refine lv_icmp_ne (tgt := 134) K.1 K.2.1 dD_numberFits_127 rfl (fun hc => ?_) (fun hc => ?_)
      · have h := h.2 hc
        refine lv_iconst (v := 0) K.1 K.2.1 dD_numberFits_134 (by decide) ?_
        obtain ⟨g4, h⟩ := h
        exact x_zret K hr hP hS g4 h dD_numberFits_135
      · have h := h.1 hc
        refine lv_iconst (v := 1) K.1 K.2.1 dD_numberFits_130 (by decide) ?_
        refine lv_goto (tgt := 135) K.1 K.2.1 dD_numberFits_131 rfl ?_
        obtain ⟨g5, h⟩ := h
        exact x_zret K hr hP hS g5 h dD_numberFits_135
    by_cases hc1 : v1 = 78
    · have h := h.2.1 hc1
      refine lv_lookup (off := 104) (tgt := 136) K.1 K.2.1 dD_numberFits_32 (by decide) (by rw [hc1]; decide) rfl ?_
      refine lv_aload_n K.1 K.2.1 dD_numberFits_136 rfl (lv_at hL 0 rfl) ?_
      refine x_get (v := .int ((u2 hi2 10 9 r1) 10 8)) K hP hinD (ci := 3) rfl 10 (by decide) rfl 8 (by decide) flD_141 rfl rfl dD_numberFits_137 ?_
      refine lv_aload_n K.1 K.2.1 dD_numberFits_140 rfl (lv_at hL 0 rfl) ?_
      refine x_get (v := .int ((u2 hi2 10 9 r1) 10 9)) K hP hinD (ci := 3) rfl 10 (by decide) rfl 9 (by decide) flD_136 rfl rfl dD_numberFits_141 ?_
      refine lv_iadd K.1 K.2.1 dD_numberFits_144 ?_
      refine lv_aload_n K.1 K.2.1 dD_numberFits_145 rfl (lv_at hL 0 rfl) ?_
      refine x_get (v := .int ((u2 hi2 10 9 r1) 10 4)) K hP hinD (ci := 3) rfl 10 (by decide) rfl 4 (by decide) flD_106 rfl rfl dD_numberFits_146 ?_
      refine lv_icmp_ne (tgt := 156) K.1 K.2.1 dD_numberFits_149 rfl (fun hc => ?_) (fun hc => ?_)
      · have h := h.2 hc
        refine lv_iconst (v := 0) K.1 K.2.1 dD_numberFits_156 (by decide) ?_
        obtain ⟨g6, h⟩ := h
        exact x_zret K hr hP hS g6 h dD_numberFits_157
      · have h := h.1 hc
        refine lv_iconst (v := 1) K.1 K.2.1 dD_numberFits_152 (by decide) ?_
        refine lv_goto (tgt := 157) K.1 K.2.1 dD_numberFits_153 rfl ?_
        obtain ⟨g7, h⟩ := h
        exact x_zret K hr hP hS g7 h dD_numberFits_157
    by_cases hc2 : v1 = 85
    · have h := h.2.2.1 hc2
      refine lv_lookup (off := 63) (tgt := 95) K.1 K.2.1 dD_numberFits_32 (by decide) (by rw [hc2]; decide) rfl ?_
      refine lv_aload_n K.1 K.2.1 dD_numberFits_95 rfl (lv_at hL 0 rfl) ?_
      refine x_get (v := .int ((u2 hi2 10 9 r1) 10 9)) K hP hinD (ci := 3) rfl 10 (by decide) rfl 9 (by decide) flD_136 rfl rfl dD_numberFits_96 ?_
      refine lv_aload_n K.1 K.2.1 dD_numberFits_99 rfl (lv_at hL 0 rfl) ?_
      refine x_get (v := .int ((u2 hi2 10 9 r1) 10 8)) K hP hinD (ci := 3) rfl 10 (by decide) rfl 8 (by decide) flD_141 rfl rfl dD_numberFits_100 ?_
      refine lv_icmp_ge (tgt := 110) K.1 K.2.1 dD_numberFits_103 rfl (fun hc => ?_) (fun hc => ?_)
      · have h := h.1 hc
        refine lv_iconst (v := 0) K.1 K.2.1 dD_numberFits_110 (by decide) ?_
        obtain ⟨g8, h⟩ := h
        exact x_zret K hr hP hS g8 h dD_numberFits_111
      · have h := h.2 hc
        refine lv_iconst (v := 1) K.1 K.2.1 dD_numberFits_106 (by decide) ?_
        refine lv_goto (tgt := 111) K.1 K.2.1 dD_numberFits_107 rfl ?_
        obtain ⟨g9, h⟩ := h
        exact x_zret K hr hP hS g9 h dD_numberFits_111
    by_cases hc3 : v1 = 86
    · have h := h.2.2.2.1 hc3
      refine lv_lookup (off := 44) (tgt := 76) K.1 K.2.1 dD_numberFits_32 (by decide) (by rw [hc3]; decide) rfl ?_
      refine lv_aload_n K.1 K.2.1 dD_numberFits_76 rfl (lv_at hL 0 rfl) ?_
      refine x_get (v := .int ((u2 hi2 10 9 r1) 10 9)) K hP hinD (ci := 3) rfl 10 (by decide) rfl 9 (by decide) flD_136 rfl rfl dD_numberFits_77 ?_
      refine lv_iconst (v := 1) K.1 K.2.1 dD_numberFits_80 (by decide) ?_
      refine lv_aload_n K.1 K.2.1 dD_numberFits_81 rfl (lv_at hL 0 rfl) ?_
      refine x_get (v := .int ((u2 hi2 10 9 r1) 10 4)) K hP hinD (ci := 3) rfl 10 (by decide) rfl 4 (by decide) flD_106 rfl rfl dD_numberFits_82 ?_
      refine lv_ishl K.1 K.2.1 dD_numberFits_85 ?_
      refine lv_icmp_ge (tgt := 93) K.1 K.2.1 dD_numberFits_86 rfl (fun hc => ?_) (fun hc => ?_)
      · have h := h.1 hc
        refine lv_iconst (v := 0) K.1 K.2.1 dD_numberFits_93 (by decide) ?_
        obtain ⟨g10, h⟩ := h
        exact x_zret K hr hP hS g10 h dD_numberFits_94
      · have h := h.2 hc
        refine lv_iconst (v := 1) K.1 K.2.1 dD_numberFits_89 (by decide) ?_
        refine lv_goto (tgt := 94) K.1 K.2.1 dD_numberFits_90 rfl ?_
        obtain ⟨g11, h⟩ := h
        exact x_zret K hr hP hS g11 h dD_numberFits_94
    have h := h.2.2.2.2 hc0 hc1 hc2 hc3
    refine lv_lookup (off := 126) (tgt := 158) K.1 K.2.1 dD_numberFits_32 (by decide) (by have e0 := i_ne hc0 (n := 76) (by decide); have e1 := i_ne hc1 (n := 78) (by decide); have e2 := i_ne hc2 (n := 85) (by decide); have e3 := i_ne hc3 (n := 86) (by decide); simp [Op.lookupswitch.offset, e0.symm, e1.symm, e2.symm, e3.symm]) rfl ?_
    refine lv_iconst (v := 0) K.1 K.2.1 dD_numberFits_158 (by decide) ?_
    obtain ⟨g12, h⟩ := h
    exact x_zret K hr hP hS g12 h dD_numberFits_159
  · have h := h.1 hc
    refine lv_iconst (v := 0) K.1 K.2.1 dD_numberFits_29 (by decide) ?_
    obtain ⟨g13, h⟩ := h
    exact x_zret K hr hP hS g13 h dD_numberFits_30
set_option maxRecDepth 100000 in
set_option maxHeartbeats 4000000 in
theorem mD_numberFits {l : Launch} {D : va_G} {cI cJ cC cZ cR : ClassId} {ad kd sd vd : Nat → Nat} {kA lA wA : Nat} {A : Nat → Prop} (hZ : ZsOK A (ZX A kd sd vd kA lA wA)) (hD : wlD 64 ad A) {v1 : Int32} {v2 : Int32} {hi : HI} {hl : HL} {Φ : Int32 → HI → HL → Prop} (h : wpD_numberFits v1 v2 hi hl Φ) : SpI l yD_numberFits cD_numberFits 3 (some .boolean) gT 1 26 [.ref (ad 10), .int v1, .int v2] D cls8 (tys5 cI cJ cC cZ cR) 64 ad (GX cI cJ cC cZ cR ad kd) A (ZX A kd sd vd kA lA wA) hi hl Φ := by
  refine Met.ofW (cc := cD_numberFits) (maxL := 3) (ret := (some .boolean)) (by decide) rfl ?_
  intro p e s m args below meth c s₁ B hml hv
  obtain ⟨rfl, hP, hK, hZs⟩ := hv
  have K : Cx p (rmX 1 26) s m _ meth c cD_numberFits 3 "WordChecker$Draft" gT D cls8 (tys5 cI cJ cC cZ cR) 64 ad A (ZX A kd sd vd kA lA wA) := ⟨B.exec, B.bytes, hml, findClass_of_methodNamed B.named, fun w hw => atoms_spec B.pre w (List.mem_cons_of_mem _ hw), B.notSynchronized, hK, hD, hZs⟩
  have hL := lv_entry ([.ref (ad 10), .int v1, .int v2]) (n := 3) (Nat.le_of_ble_eq_true rfl)
  rw [lg_entry_eq]
  generalize (lg_sl ([.ref (ad 10), .int v1, .int v2]) ++ List.replicate (3 - (lg_sl ([.ref (ad 10), .int v1, .int v2])).length) Slot.unset).toArray = ls at hL ⊢
  have hL : lv_has ls 3 [(0, .ref (ad 10)), (1, .int v1), (2, .int v2)] := hL
  unfold wpD_numberFits at h
  exact bD_numberFits_0 K B.returns hZ h (lv_sub hL [0, 1, 2] rfl) hP va_S.rf
set_option maxRecDepth 100000 in
set_option maxHeartbeats 4000000 in
theorem bB_sortOf_38 {p : Program} {l : Launch} {e : Env} {s : State} {m : MethodId} {args : Array Value} {below : List Frame} {meth : Method} {c : Code} {D : va_G} {cI cJ cC cZ cR : ClassId} {ad kd sd vd : Nat → Nat} {kA lA wA : Nat} {A : Nat → Prop} (K : Cx p (rmX 1 22) s m args meth c cB_sortOf 3 "WordChecker$Book" gT D cls8 (tys5 cI cJ cC cZ cR) 64 ad A (ZX A kd sd vd kA lA wA)) (hr : meth.sig.returnType = (some .int)) (hZ : ZsOK A (ZX A kd sd vd kA lA wA)) {Φ : Int32 → HI → HL → Prop} {hi : HI} {hl : HL} {H : Heap} {locs : List Loc} (h : wbB_sortOf_38 hi hl Φ) {ls : Array Slot} (hL : lv_has ls 3 []) (hP : va_P D cls8 (wl 64 ad (GX cI cJ cC cZ cR ad kd) hi hl) H) (hS : va_S A s.heap H locs) : W p l e (rmX 1 22) s m args below meth c H locs 0 0 (MQ below (va_Qi (fun r (u : HI × HL) => Φ r u.1 u.2) (fun u t => va_P D cls8 (wl 64 ad (GX cI cJ cC cZ cR ad kd) u.1 u.2) t.heap) A) args s 0 0 A) (F0 m 38 ls []) := by
  unfold wbB_sortOf_38 at h
  refine lv_iconst (v := -1) K.1 K.2.1 dB_sortOf_38 (by decide) ?_
  exact x_iret K hr hP hS h dB_sortOf_39
set_option maxRecDepth 100000 in
set_option maxHeartbeats 4000000 in
theorem bB_sortOf_0 {p : Program} {l : Launch} {e : Env} {s : State} {m : MethodId} {args : Array Value} {below : List Frame} {meth : Method} {c : Code} {D : va_G} {cI cJ cC cZ cR : ClassId} {ad kd sd vd : Nat → Nat} {kA lA wA : Nat} {A : Nat → Prop} (K : Cx p (rmX 1 22) s m args meth c cB_sortOf 3 "WordChecker$Book" gT D cls8 (tys5 cI cJ cC cZ cR) 64 ad A (ZX A kd sd vd kA lA wA)) (hr : meth.sig.returnType = (some .int)) (hZ : ZsOK A (ZX A kd sd vd kA lA wA)) {Φ : Int32 → HI → HL → Prop} {v1 : Int32} {hi : HI} {hl : HL} {H : Heap} {locs : List Loc} (h : wbB_sortOf_0 v1 hi hl Φ) {ls : Array Slot} (hL : lv_has ls 3 [(0, .ref (ad 5)), (1, .int v1)]) (hP : va_P D cls8 (wl 64 ad (GX cI cJ cC cZ cR ad kd) hi hl) H) (hS : va_S A s.heap H locs) : W p l e (rmX 1 22) s m args below meth c H locs 0 0 (MQ below (va_Qi (fun r (u : HI × HL) => Φ r u.1 u.2) (fun u t => va_P D cls8 (wl 64 ad (GX cI cJ cC cZ cR ad kd) u.1 u.2) t.heap) A) args s 0 0 A) (F0 m 0 ls []) := by
  unfold wbB_sortOf_0 at h
  refine lv_aload_n K.1 K.2.1 dB_sortOf_0 rfl (lv_at hL 0 rfl) ?_
  refine lv_iload_n K.1 K.2.1 dB_sortOf_1 rfl (lv_at hL 1 rfl) ?_
  refine x_cVI (As := [.int v1]) (rest := []) K gT_good hZ hP hS calB_rowWith mlB_44 5 (by decide) rfl rfl (mB_rowWith hZ K.2.2.2.2.2.2.2.1 h) ⟨Nat.le_of_ble_eq_true rfl, Nat.le_of_ble_eq_true rfl⟩ rfl hL.1 rfl (Nat.le_of_ble_eq_true rfl) dB_sortOf_2 (fun r1 hi2 hl3 H locs h hP hS => ?_)
  refine lv_istore_n (lv' := [(2, .int r1), (0, .ref (ad 5)), (1, .int v1)]) K.1 K.2.1 dB_sortOf_5 rfl hL (by decide) rfl (fun ls hL => ?_)
  refine lv_iload_n K.1 K.2.1 dB_sortOf_6 rfl (lv_at hL 0 rfl) ?_
  refine lv_iconst (v := -1) K.1 K.2.1 dB_sortOf_7 (by decide) ?_
  refine lv_icmp_eq (tgt := 38) K.1 K.2.1 dB_sortOf_8 rfl (fun hc => ?_) (fun hc => ?_)
  · have h := h.1 hc
    exact bB_sortOf_38 K hr hZ h (lv_sub hL [] rfl) hP hS
  · have h := h.2 hc
    refine lv_aload_n K.1 K.2.1 dB_sortOf_11 rfl (lv_at hL 1 rfl) ?_
    refine x_get (v := .ref (ad 6)) K hP hinB (ci := 2) rfl 5 (by decide) rfl 0 (by decide) flB_11 rfl rfl dB_sortOf_12 ?_
    refine lv_iload_n K.1 K.2.1 dB_sortOf_15 rfl (lv_at hL 0 rfl) ?_
    obtain ⟨g4, h⟩ := h
    refine x_aald K hP 6 (by decide) 4 rfl rfl g4 (q := ad (24 + (r1.toNatClampNeg))) rfl dB_sortOf_16 ?_
    refine x_getN (v := va_rf (kOf kd (hi2 (24 + (r1.toNatClampNeg)) 1))) K hP hinL (ci := 6) rfl (24 + (r1.toNatClampNeg)) (lt_l (in_lt g4)) (GX_line _ (in_lt g4) _ _) 1 (by decide) (fnB_48 K.2.2.2.2.2.2.2.2) rfl rfl dB_sortOf_17 ?_
    refine x_gets (v := .ref (kd ((0 : Int32).toNatClampNeg))) K hS (K.2.2.2.2.2.2.2.2.2.2.1 0 (by decide)).1 flB_58 dB_sortOf_20 ?_
    obtain ⟨g5, h⟩ := h
    obtain ⟨g6, h⟩ := h
    rw [kOf_in g5]
    refine x_acne (x := (hi2 (24 + (r1.toNatClampNeg)) 1)) (y := (0 : Int32)) (tgt := 38) K g5 g6 dB_sortOf_23 rfl (fun hc => ?_) (fun hc => ?_)
    · have h := h.2 hc
      exact bB_sortOf_38 K hr hZ h (lv_sub hL [] rfl) hP hS
    · have h := h.1 hc
      refine lv_aload_n K.1 K.2.1 dB_sortOf_26 rfl (lv_at hL 1 rfl) ?_
      refine x_get (v := .ref (ad 6)) K hP hinB (ci := 2) rfl 5 (by decide) rfl 0 (by decide) flB_11 rfl rfl dB_sortOf_27 ?_
      refine lv_iload_n K.1 K.2.1 dB_sortOf_30 rfl (lv_at hL 0 rfl) ?_
      obtain ⟨g7, h⟩ := h
      refine x_aald K hP 6 (by decide) 4 rfl rfl g7 (q := ad (24 + (r1.toNatClampNeg))) rfl dB_sortOf_31 ?_
      refine x_getN (v := .int (hi2 (24 + (r1.toNatClampNeg)) 2)) K hP hinL (ci := 6) rfl (24 + (r1.toNatClampNeg)) (lt_l (in_lt g7)) (GX_line _ (in_lt g7) _ _) 2 (by decide) (fnB_61 K.2.2.2.2.2.2.2.2) rfl rfl dB_sortOf_32 ?_
      refine lv_goto (tgt := 39) K.1 K.2.1 dB_sortOf_35 rfl ?_
      exact x_iret K hr hP hS h dB_sortOf_39
set_option maxRecDepth 100000 in
set_option maxHeartbeats 4000000 in
theorem mB_sortOf {l : Launch} {D : va_G} {cI cJ cC cZ cR : ClassId} {ad kd sd vd : Nat → Nat} {kA lA wA : Nat} {A : Nat → Prop} (hZ : ZsOK A (ZX A kd sd vd kA lA wA)) (hD : wlD 64 ad A) {v1 : Int32} {hi : HI} {hl : HL} {Φ : Int32 → HI → HL → Prop} (h : wpB_sortOf v1 hi hl Φ) : SpI l yB_sortOf cB_sortOf 3 (some .int) gT 1 22 [.ref (ad 5), .int v1] D cls8 (tys5 cI cJ cC cZ cR) 64 ad (GX cI cJ cC cZ cR ad kd) A (ZX A kd sd vd kA lA wA) hi hl Φ := by
  refine Met.ofW (cc := cB_sortOf) (maxL := 3) (ret := (some .int)) (by decide) rfl ?_
  intro p e s m args below meth c s₁ B hml hv
  obtain ⟨rfl, hP, hK, hZs⟩ := hv
  have K : Cx p (rmX 1 22) s m _ meth c cB_sortOf 3 "WordChecker$Book" gT D cls8 (tys5 cI cJ cC cZ cR) 64 ad A (ZX A kd sd vd kA lA wA) := ⟨B.exec, B.bytes, hml, findClass_of_methodNamed B.named, fun w hw => atoms_spec B.pre w (List.mem_cons_of_mem _ hw), B.notSynchronized, hK, hD, hZs⟩
  have hL := lv_entry ([.ref (ad 5), .int v1]) (n := 3) (Nat.le_of_ble_eq_true rfl)
  rw [lg_entry_eq]
  generalize (lg_sl ([.ref (ad 5), .int v1]) ++ List.replicate (3 - (lg_sl ([.ref (ad 5), .int v1])).length) Slot.unset).toArray = ls at hL ⊢
  have hL : lv_has ls 3 [(0, .ref (ad 5)), (1, .int v1)] := hL
  unfold wpB_sortOf at h
  exact bB_sortOf_0 K B.returns hZ h (lv_sub hL [0, 1] rfl) hP va_S.rf
set_option maxRecDepth 100000 in
set_option maxHeartbeats 4000000 in
theorem bD_sortFits_161 {p : Program} {l : Launch} {e : Env} {s : State} {m : MethodId} {args : Array Value} {below : List Frame} {meth : Method} {c : Code} {D : va_G} {cI cJ cC cZ cR : ClassId} {ad kd sd vd : Nat → Nat} {kA lA wA : Nat} {A : Nat → Prop} (K : Cx p (rmX 2 44) s m args meth c cD_sortFits 3 "WordChecker$Draft" gT D cls8 (tys5 cI cJ cC cZ cR) 64 ad A (ZX A kd sd vd kA lA wA)) (hr : meth.sig.returnType = (some .boolean)) (hZ : ZsOK A (ZX A kd sd vd kA lA wA)) {Φ : Int32 → HI → HL → Prop} {hi : HI} {hl : HL} {H : Heap} {locs : List Loc} (h : wbD_sortFits_161 hi hl Φ) {ls : Array Slot} (hL : lv_has ls 3 []) (hP : va_P D cls8 (wl 64 ad (GX cI cJ cC cZ cR ad kd) hi hl) H) (hS : va_S A s.heap H locs) : W p l e (rmX 2 44) s m args below meth c H locs 0 0 (MQ below (va_Qi (fun r (u : HI × HL) => Φ r u.1 u.2) (fun u t => va_P D cls8 (wl 64 ad (GX cI cJ cC cZ cR ad kd) u.1 u.2) t.heap) A) args s 0 0 A) (F0 m 161 ls []) := by
  unfold wbD_sortFits_161 at h
  refine lv_iconst (v := 0) K.1 K.2.1 dD_sortFits_161 (by decide) ?_
  obtain ⟨g1, h⟩ := h
  exact x_zret K hr hP hS g1 h dD_sortFits_162
set_option maxRecDepth 100000 in
set_option maxHeartbeats 4000000 in
theorem bD_sortFits_0 {p : Program} {l : Launch} {e : Env} {s : State} {m : MethodId} {args : Array Value} {below : List Frame} {meth : Method} {c : Code} {D : va_G} {cI cJ cC cZ cR : ClassId} {ad kd sd vd : Nat → Nat} {kA lA wA : Nat} {A : Nat → Prop} (K : Cx p (rmX 2 44) s m args meth c cD_sortFits 3 "WordChecker$Draft" gT D cls8 (tys5 cI cJ cC cZ cR) 64 ad A (ZX A kd sd vd kA lA wA)) (hr : meth.sig.returnType = (some .boolean)) (hZ : ZsOK A (ZX A kd sd vd kA lA wA)) {Φ : Int32 → HI → HL → Prop} {v1 : Int32} {v2 : Int32} {hi : HI} {hl : HL} {H : Heap} {locs : List Loc} (h : wbD_sortFits_0 v1 v2 hi hl Φ) {ls : Array Slot} (hL : lv_has ls 3 [(0, .ref (ad 10)), (1, .int v1), (2, .int v2)]) (hP : va_P D cls8 (wl 64 ad (GX cI cJ cC cZ cR ad kd) hi hl) H) (hS : va_S A s.heap H locs) : W p l e (rmX 2 44) s m args below meth c H locs 0 0 (MQ below (va_Qi (fun r (u : HI × HL) => Φ r u.1 u.2) (fun u t => va_P D cls8 (wl 64 ad (GX cI cJ cC cZ cR ad kd) u.1 u.2) t.heap) A) args s 0 0 A) (F0 m 0 ls []) := by
  unfold wbD_sortFits_0 at h
  refine lv_aload_n K.1 K.2.1 dD_sortFits_0 rfl (lv_at hL 0 rfl) ?_
  refine lv_aload_n K.1 K.2.1 dD_sortFits_1 rfl (lv_at hL 0 rfl) ?_
  refine x_get (v := .ref (ad 5)) K hP hinD (ci := 3) rfl 10 (by decide) rfl 1 (by decide) flD_23 rfl rfl dD_sortFits_2 ?_
  refine lv_aload_n K.1 K.2.1 dD_sortFits_5 rfl (lv_at hL 0 rfl) ?_
  refine x_get (v := .ref (ad 1)) K hP hinD (ci := 3) rfl 10 (by decide) rfl 0 (by decide) flD_19 rfl rfl dD_sortFits_6 ?_
  refine lv_iload_n K.1 K.2.1 dD_sortFits_9 rfl (lv_at hL 2 rfl) ?_
  refine lv_iconst (v := 0) K.1 K.2.1 dD_sortFits_10 (by decide) ?_
  refine x_cVI (As := [.int v2, .int (0 : Int32)]) (rest := [.ref (ad 5), .ref (ad 10)]) K gT_good hZ hP hS calT_number mlD_31 1 (by decide) rfl rfl (mT_number hZ K.2.2.2.2.2.2.2.1 h) ⟨Nat.le_of_ble_eq_true rfl, Nat.le_of_ble_eq_true rfl⟩ rfl hL.1 rfl (Nat.le_of_ble_eq_true rfl) dD_sortFits_11 (fun r1 hi2 hl3 H locs h hP hS => ?_)
  refine x_cVI (As := [.int r1]) (rest := [.ref (ad 10)]) K gT_good hZ hP hS calB_sortOf mlD_111 5 (by decide) rfl rfl (mB_sortOf hZ K.2.2.2.2.2.2.2.1 h) ⟨Nat.le_of_ble_eq_true rfl, Nat.le_of_ble_eq_true rfl⟩ rfl hL.1 rfl (Nat.le_of_ble_eq_true rfl) dD_sortFits_14 (fun r4 hi5 hl6 H locs h hP hS => ?_)
  refine x_put (v := .int r4) K hP hS hinD tyD tyD_ok nmD (ci := 3) rfl 10 (by decide) rfl 4 (by decide) flD_106 rfl rfl r4 rfl rfl rfl (Nat.le_of_ble_eq_true rfl) dD_sortFits_17 (fun H locs hP hS => ?_)
  refine lv_aload_n K.1 K.2.1 dD_sortFits_20 rfl (lv_at hL 0 rfl) ?_
  refine x_get (v := .int ((u2 hi5 10 4 r4) 10 4)) K hP hinD (ci := 3) rfl 10 (by decide) rfl 4 (by decide) flD_106 rfl rfl dD_sortFits_21 ?_
  refine lv_iconst (v := -1) K.1 K.2.1 dD_sortFits_24 (by decide) ?_
  refine lv_icmp_ne (tgt := 30) K.1 K.2.1 dD_sortFits_25 rfl (fun hc => ?_) (fun hc => ?_)
  · have h := h.2 hc
    refine lv_iload_n K.1 K.2.1 dD_sortFits_30 rfl (lv_at hL 1 rfl) ?_
    by_cases hc0 : v1 = 66
    · have h := h.1 hc0
      refine lv_lookup (off := 59) (tgt := 90) K.1 K.2.1 dD_sortFits_31 (by decide) (by rw [hc0]; decide) rfl ?_
      refine lv_aload_n K.1 K.2.1 dD_sortFits_90 rfl (lv_at hL 0 rfl) ?_
      refine x_get (v := .int ((u2 hi5 10 4 r4) 10 4)) K hP hinD (ci := 3) rfl 10 (by decide) rfl 4 (by decide) flD_106 rfl rfl dD_sortFits_91 ?_
      refine x_cSNI (As := [.int ((u2 hi5 10 4 r4) 10 4)]) (rest := []) K gT_good hZ hP hS calC_isArray (mnD_114 K.2.2.2.2.2.2.2.2) (mC_isArray hZ K.2.2.2.2.2.2.2.1 h) ⟨Nat.le_of_ble_eq_true rfl, Nat.le_of_ble_eq_true rfl⟩ rfl hL.1 rfl (Nat.le_of_ble_eq_true rfl) dD_sortFits_94 (fun r7 hi8 hl9 H locs h hP hS => ?_)
      refine lv_if_ne (tgt := 104) K.1 K.2.1 dD_sortFits_97 rfl (fun hc => ?_) (fun hc => ?_)
      · have h := h.2 hc
        refine lv_iconst (v := 0) K.1 K.2.1 dD_sortFits_104 (by decide) ?_
        obtain ⟨g10, h⟩ := h
        exact x_zret K hr hP hS g10 h dD_sortFits_105
      · have h := h.1 hc
        refine lv_iconst (v := 1) K.1 K.2.1 dD_sortFits_100 (by decide) ?_
        refine lv_goto (tgt := 105) K.1 K.2.1 dD_sortFits_101 rfl ?_
        obtain ⟨g11, h⟩ := h
        exact x_zret K hr hP hS g11 h dD_sortFits_105
    by_cases hc1 : v1 = 73
    · have h := h.2.1 hc1
      refine lv_lookup (off := 97) (tgt := 128) K.1 K.2.1 dD_sortFits_31 (by decide) (by rw [hc1]; decide) rfl ?_
      refine lv_aload_n K.1 K.2.1 dD_sortFits_128 rfl (lv_at hL 0 rfl) ?_
      refine x_get (v := .int ((u2 hi5 10 4 r4) 10 4)) K hP hinD (ci := 3) rfl 10 (by decide) rfl 4 (by decide) flD_106 rfl rfl dD_sortFits_129 ?_
      refine x_cSNI (As := [.int ((u2 hi5 10 4 r4) 10 4)]) (rest := []) K gT_good hZ hP hS calC_isArray (mnD_114 K.2.2.2.2.2.2.2.2) (mC_isArray hZ K.2.2.2.2.2.2.2.1 h) ⟨Nat.le_of_ble_eq_true rfl, Nat.le_of_ble_eq_true rfl⟩ rfl hL.1 rfl (Nat.le_of_ble_eq_true rfl) dD_sortFits_132 (fun r12 hi13 hl14 H locs h hP hS => ?_)
      refine lv_if_ne (tgt := 161) K.1 K.2.1 dD_sortFits_135 rfl (fun hc => ?_) (fun hc => ?_)
      · have h := h.2 hc
        exact bD_sortFits_161 K hr hZ h (lv_sub hL [] rfl) hP hS
      · have h := h.1 hc
        refine lv_aload_n K.1 K.2.1 dD_sortFits_138 rfl (lv_at hL 0 rfl) ?_
        refine x_get (v := .ref (ad 5)) K hP hinD (ci := 3) rfl 10 (by decide) rfl 1 (by decide) flD_23 rfl rfl dD_sortFits_139 ?_
        refine x_getN (v := .int (hi13 5 3)) K hP hinB (ci := 2) rfl 5 (by decide) rfl 3 (by decide) (fnD_127 K.2.2.2.2.2.2.2.2) rfl rfl dD_sortFits_142 ?_
        refine lv_aload_n K.1 K.2.1 dD_sortFits_145 rfl (lv_at hL 0 rfl) ?_
        refine x_get (v := .int (hi13 10 4)) K hP hinD (ci := 3) rfl 10 (by decide) rfl 4 (by decide) flD_106 rfl rfl dD_sortFits_146 ?_
        refine x_cSNI (As := [.int (hi13 10 4)]) (rest := [.int (hi13 5 3)]) K gT_good hZ hP hS calC_bitsOf (mnD_130 K.2.2.2.2.2.2.2.2) (mC_bitsOf hZ K.2.2.2.2.2.2.2.1 h) ⟨Nat.le_of_ble_eq_true rfl, Nat.le_of_ble_eq_true rfl⟩ rfl hL.1 rfl (Nat.le_of_ble_eq_true rfl) dD_sortFits_149 (fun r15 hi16 hl17 H locs h hP hS => ?_)
        refine lv_iadd K.1 K.2.1 dD_sortFits_152 ?_
        refine lv_iconst (v := 2) K.1 K.2.1 dD_sortFits_153 (by decide) ?_
        refine lv_icmp_gt (tgt := 161) K.1 K.2.1 dD_sortFits_154 rfl (fun hc => ?_) (fun hc => ?_)
        · have h := h.1 hc
          exact bD_sortFits_161 K hr hZ h (lv_sub hL [] rfl) hP hS
        · have h := h.2 hc
          refine lv_iconst (v := 1) K.1 K.2.1 dD_sortFits_157 (by decide) ?_
          refine lv_goto (tgt := 162) K.1 K.2.1 dD_sortFits_158 rfl ?_
          obtain ⟨g18, h⟩ := h
          exact x_zret K hr hP hS g18 h dD_sortFits_162
    by_cases hc2 : v1 = 79
    · have h := h.2.2.1 hc2
      refine lv_lookup (off := 75) (tgt := 106) K.1 K.2.1 dD_sortFits_31 (by decide) (by rw [hc2]; decide) rfl ?_
      refine lv_aload_n K.1 K.2.1 dD_sortFits_106 rfl (lv_at hL 0 rfl) ?_
      refine x_get (v := .int ((u2 hi5 10 4 r4) 10 4)) K hP hinD (ci := 3) rfl 10 (by decide) rfl 4 (by decide) flD_106 rfl rfl dD_sortFits_107 ?_
      refine lv_iconst (v := 1) K.1 K.2.1 dD_sortFits_110 (by decide) ?_
      refine lv_icmp_ne (tgt := 118) K.1 K.2.1 dD_sortFits_111 rfl (fun hc => ?_) (fun hc => ?_)
      · have h := h.2 hc
        refine lv_iconst (v := 0) K.1 K.2.1 dD_sortFits_118 (by decide) ?_
        obtain ⟨g19, h⟩ := h
        exact x_zret K hr hP hS g19 h dD_sortFits_119
      · have h := h.1 hc
        refine lv_iconst (v := 1) K.1 K.2.1 dD_sortFits_114 (by decide) ?_
        refine lv_goto (tgt := 119) K.1 K.2.1 dD_sortFits_115 rfl ?_
        obtain ⟨g20, h⟩ := h
        exact x_zret K hr hP hS g20 h dD_sortFits_119
    by_cases hc3 : v1 = 83
    · have h := h.2.2.2.1 hc3
      refine lv_lookup (off := 57) (tgt := 88) K.1 K.2.1 dD_sortFits_31 (by decide) (by rw [hc3]; decide) rfl ?_
      refine lv_iconst (v := 1) K.1 K.2.1 dD_sortFits_88 (by decide) ?_
      obtain ⟨g21, h⟩ := h
      exact x_zret K hr hP hS g21 h dD_sortFits_89
    by_cases hc4 : v1 = 84
    · have h := h.2.2.2.2.1 hc4
      refine lv_lookup (off := 132) (tgt := 163) K.1 K.2.1 dD_sortFits_31 (by decide) (by rw [hc4]; decide) rfl ?_
      refine lv_aload_n K.1 K.2.1 dD_sortFits_163 rfl (lv_at hL 0 rfl) ?_
      refine x_get (v := .ref (ad 5)) K hP hinD (ci := 3) rfl 10 (by decide) rfl 1 (by decide) flD_23 rfl rfl dD_sortFits_164 ?_
      refine x_getN (v := .int ((u2 hi5 10 4 r4) 5 4)) K hP hinB (ci := 2) rfl 5 (by decide) rfl 4 (by decide) (fnD_133 K.2.2.2.2.2.2.2.2) rfl rfl dD_sortFits_167 ?_
      refine lv_aload_n K.1 K.2.1 dD_sortFits_170 rfl (lv_at hL 0 rfl) ?_
      refine x_get (v := .int ((u2 hi5 10 4 r4) 10 4)) K hP hinD (ci := 3) rfl 10 (by decide) rfl 4 (by decide) flD_106 rfl rfl dD_sortFits_171 ?_
      refine x_cSNI (As := [.int ((u2 hi5 10 4 r4) 10 4)]) (rest := [.int ((u2 hi5 10 4 r4) 5 4)]) K gT_good hZ hP hS calC_bitsOf (mnD_130 K.2.2.2.2.2.2.2.2) (mC_bitsOf hZ K.2.2.2.2.2.2.2.1 h) ⟨Nat.le_of_ble_eq_true rfl, Nat.le_of_ble_eq_true rfl⟩ rfl hL.1 rfl (Nat.le_of_ble_eq_true rfl) dD_sortFits_174 (fun r22 hi23 hl24 H locs h hP hS => ?_)
      refine lv_iadd K.1 K.2.1 dD_sortFits_177 ?_
      refine lv_bipush (v := 6) K.1 K.2.1 dD_sortFits_178 (by decide) ?_
      refine lv_icmp_gt (tgt := 187) K.1 K.2.1 dD_sortFits_180 rfl (fun hc => ?_) (fun hc => ?_)
      · have h := h.1 hc
        refine lv_iconst (v := 0) K.1 K.2.1 dD_sortFits_187 (by decide) ?_
        obtain ⟨g25, h⟩ := h
        exact x_zret K hr hP hS g25 h dD_sortFits_188
      · have h := h.2 hc
        refine lv_iconst (v := 1) K.1 K.2.1 dD_sortFits_183 (by decide) ?_
        refine lv_goto (tgt := 188) K.1 K.2.1 dD_sortFits_184 rfl ?_
        obtain ⟨g26, h⟩ := h
        exact x_zret K hr hP hS g26 h dD_sortFits_188
    by_cases hc5 : v1 = 89
    · have h := h.2.2.2.2.2.1 hc5
      refine lv_lookup (off := 89) (tgt := 120) K.1 K.2.1 dD_sortFits_31 (by decide) (by rw [hc5]; decide) rfl ?_
      refine lv_aload_n K.1 K.2.1 dD_sortFits_120 rfl (lv_at hL 0 rfl) ?_
      refine x_get (v := .int ((u2 hi5 10 4 r4) 10 4)) K hP hinD (ci := 3) rfl 10 (by decide) rfl 4 (by decide) flD_106 rfl rfl dD_sortFits_121 ?_
      refine x_cSNI (As := [.int ((u2 hi5 10 4 r4) 10 4)]) (rest := []) K gT_good hZ hP hS calC_isArray (mnD_114 K.2.2.2.2.2.2.2.2) (mC_isArray hZ K.2.2.2.2.2.2.2.1 h) ⟨Nat.le_of_ble_eq_true rfl, Nat.le_of_ble_eq_true rfl⟩ rfl hL.1 rfl (Nat.le_of_ble_eq_true rfl) dD_sortFits_124 (fun r27 hi28 hl29 H locs h hP hS => ?_)
      obtain ⟨g30, h⟩ := h
      exact x_zret K hr hP hS g30 h dD_sortFits_127
    have h := h.2.2.2.2.2.2 hc0 hc1 hc2 hc3 hc4 hc5
    refine lv_lookup (off := 158) (tgt := 189) K.1 K.2.1 dD_sortFits_31 (by decide) (by have e0 := i_ne hc0 (n := 66) (by decide); have e1 := i_ne hc1 (n := 73) (by decide); have e2 := i_ne hc2 (n := 79) (by decide); have e3 := i_ne hc3 (n := 83) (by decide); have e4 := i_ne hc4 (n := 84) (by decide); have e5 := i_ne hc5 (n := 89) (by decide); simp [Op.lookupswitch.offset, e0.symm, e1.symm, e2.symm, e3.symm, e4.symm, e5.symm]) rfl ?_
    refine lv_iconst (v := 0) K.1 K.2.1 dD_sortFits_189 (by decide) ?_
    obtain ⟨g31, h⟩ := h
    exact x_zret K hr hP hS g31 h dD_sortFits_190
  · have h := h.1 hc
    refine lv_iconst (v := 0) K.1 K.2.1 dD_sortFits_28 (by decide) ?_
    obtain ⟨g32, h⟩ := h
    exact x_zret K hr hP hS g32 h dD_sortFits_29
set_option maxRecDepth 100000 in
set_option maxHeartbeats 4000000 in
theorem mD_sortFits {l : Launch} {D : va_G} {cI cJ cC cZ cR : ClassId} {ad kd sd vd : Nat → Nat} {kA lA wA : Nat} {A : Nat → Prop} (hZ : ZsOK A (ZX A kd sd vd kA lA wA)) (hD : wlD 64 ad A) {v1 : Int32} {v2 : Int32} {hi : HI} {hl : HL} {Φ : Int32 → HI → HL → Prop} (h : wpD_sortFits v1 v2 hi hl Φ) : SpI l yD_sortFits cD_sortFits 3 (some .boolean) gT 2 44 [.ref (ad 10), .int v1, .int v2] D cls8 (tys5 cI cJ cC cZ cR) 64 ad (GX cI cJ cC cZ cR ad kd) A (ZX A kd sd vd kA lA wA) hi hl Φ := by
  refine Met.ofW (cc := cD_sortFits) (maxL := 3) (ret := (some .boolean)) (by decide) rfl ?_
  intro p e s m args below meth c s₁ B hml hv
  obtain ⟨rfl, hP, hK, hZs⟩ := hv
  have K : Cx p (rmX 2 44) s m _ meth c cD_sortFits 3 "WordChecker$Draft" gT D cls8 (tys5 cI cJ cC cZ cR) 64 ad A (ZX A kd sd vd kA lA wA) := ⟨B.exec, B.bytes, hml, findClass_of_methodNamed B.named, fun w hw => atoms_spec B.pre w (List.mem_cons_of_mem _ hw), B.notSynchronized, hK, hD, hZs⟩
  have hL := lv_entry ([.ref (ad 10), .int v1, .int v2]) (n := 3) (Nat.le_of_ble_eq_true rfl)
  rw [lg_entry_eq]
  generalize (lg_sl ([.ref (ad 10), .int v1, .int v2]) ++ List.replicate (3 - (lg_sl ([.ref (ad 10), .int v1, .int v2])).length) Slot.unset).toArray = ls at hL ⊢
  have hL : lv_has ls 3 [(0, .ref (ad 10)), (1, .int v1), (2, .int v2)] := hL
  unfold wpD_sortFits at h
  exact bD_sortFits_0 K B.returns hZ h (lv_sub hL [0, 1, 2] rfl) hP va_S.rf
set_option maxRecDepth 100000 in
set_option maxHeartbeats 4000000 in
theorem bD_fits_0 {p : Program} {l : Launch} {e : Env} {s : State} {m : MethodId} {args : Array Value} {below : List Frame} {meth : Method} {c : Code} {D : va_G} {cI cJ cC cZ cR : ClassId} {ad kd sd vd : Nat → Nat} {kA lA wA : Nat} {A : Nat → Prop} (K : Cx p (rmX 3 70) s m args meth c cD_fits 3 "WordChecker$Draft" gT D cls8 (tys5 cI cJ cC cZ cR) 64 ad A (ZX A kd sd vd kA lA wA)) (hr : meth.sig.returnType = (some .boolean)) (hZ : ZsOK A (ZX A kd sd vd kA lA wA)) {Φ : Int32 → HI → HL → Prop} {v1 : Int32} {v2 : Int32} {hi : HI} {hl : HL} {H : Heap} {locs : List Loc} (h : wbD_fits_0 v1 v2 hi hl Φ) {ls : Array Slot} (hL : lv_has ls 3 [(0, .ref (ad 10)), (1, .int v1), (2, .int v2)]) (hP : va_P D cls8 (wl 64 ad (GX cI cJ cC cZ cR ad kd) hi hl) H) (hS : va_S A s.heap H locs) : W p l e (rmX 3 70) s m args below meth c H locs 0 0 (MQ below (va_Qi (fun r (u : HI × HL) => Φ r u.1 u.2) (fun u t => va_P D cls8 (wl 64 ad (GX cI cJ cC cZ cR ad kd) u.1 u.2) t.heap) A) args s 0 0 A) (F0 m 0 ls []) := by
  unfold wbD_fits_0 at h
  refine lv_iload_n K.1 K.2.1 dD_fits_0 rfl (lv_at hL 1 rfl) ?_
  by_cases hc0 : v1 = 66
  · have h := h.1 hc0
    refine lv_tableIn (off := 111) (tgt := 112) K.1 K.2.1 dD_fits_1 (by rw [hc0]; decide) (by rw [hc0]; decide) (by rw [hc0]; rfl) rfl ?_
    refine lv_aload_n K.1 K.2.1 dD_fits_112 rfl (lv_at hL 0 rfl) ?_
    refine lv_iload_n K.1 K.2.1 dD_fits_113 rfl (lv_at hL 1 rfl) ?_
    refine lv_iload_n K.1 K.2.1 dD_fits_114 rfl (lv_at hL 2 rfl) ?_
    refine x_cVI (As := [.int v1, .int v2]) (rest := []) K gT_good hZ hP hS calD_sortFits mlD_118 10 (by decide) rfl rfl (mD_sortFits hZ K.2.2.2.2.2.2.2.1 h) ⟨Nat.le_of_ble_eq_true rfl, Nat.le_of_ble_eq_true rfl⟩ rfl hL.1 rfl (Nat.le_of_ble_eq_true rfl) dD_fits_115 (fun r1 hi2 hl3 H locs h hP hS => ?_)
    obtain ⟨g4, h⟩ := h
    exact x_zret K hr hP hS g4 h dD_fits_118
  by_cases hc1 : v1 = 67
  · have h := h.2.1 hc1
    refine lv_tableIn (off := 125) (tgt := 126) K.1 K.2.1 dD_fits_1 (by rw [hc1]; decide) (by rw [hc1]; decide) (by rw [hc1]; rfl) rfl ?_
    refine lv_aload_n K.1 K.2.1 dD_fits_126 rfl (lv_at hL 0 rfl) ?_
    refine lv_iload_n K.1 K.2.1 dD_fits_127 rfl (lv_at hL 1 rfl) ?_
    refine lv_iload_n K.1 K.2.1 dD_fits_128 rfl (lv_at hL 2 rfl) ?_
    refine x_cVI (As := [.int v1, .int v2]) (rest := []) K gT_good hZ hP hS calD_nodeFits mlD_124 10 (by decide) rfl rfl (mD_nodeFits hZ K.2.2.2.2.2.2.2.1 h) ⟨Nat.le_of_ble_eq_true rfl, Nat.le_of_ble_eq_true rfl⟩ rfl hL.1 rfl (Nat.le_of_ble_eq_true rfl) dD_fits_129 (fun r5 hi6 hl7 H locs h hP hS => ?_)
    obtain ⟨g8, h⟩ := h
    exact x_zret K hr hP hS g8 h dD_fits_132
  by_cases hc2 : v1 = 68
  · have h := h.2.2.1 hc2
    refine lv_tableIn (off := 125) (tgt := 126) K.1 K.2.1 dD_fits_1 (by rw [hc2]; decide) (by rw [hc2]; decide) (by rw [hc2]; rfl) rfl ?_
    refine lv_aload_n K.1 K.2.1 dD_fits_126 rfl (lv_at hL 0 rfl) ?_
    refine lv_iload_n K.1 K.2.1 dD_fits_127 rfl (lv_at hL 1 rfl) ?_
    refine lv_iload_n K.1 K.2.1 dD_fits_128 rfl (lv_at hL 2 rfl) ?_
    refine x_cVI (As := [.int v1, .int v2]) (rest := []) K gT_good hZ hP hS calD_nodeFits mlD_124 10 (by decide) rfl rfl (mD_nodeFits hZ K.2.2.2.2.2.2.2.1 h) ⟨Nat.le_of_ble_eq_true rfl, Nat.le_of_ble_eq_true rfl⟩ rfl hL.1 rfl (Nat.le_of_ble_eq_true rfl) dD_fits_129 (fun r9 hi10 hl11 H locs h hP hS => ?_)
    obtain ⟨g12, h⟩ := h
    exact x_zret K hr hP hS g12 h dD_fits_132
  by_cases hc3 : v1 = 69
  · have h := h.2.2.2.1 hc3
    refine lv_tableIn (off := 125) (tgt := 126) K.1 K.2.1 dD_fits_1 (by rw [hc3]; decide) (by rw [hc3]; decide) (by rw [hc3]; rfl) rfl ?_
    refine lv_aload_n K.1 K.2.1 dD_fits_126 rfl (lv_at hL 0 rfl) ?_
    refine lv_iload_n K.1 K.2.1 dD_fits_127 rfl (lv_at hL 1 rfl) ?_
    refine lv_iload_n K.1 K.2.1 dD_fits_128 rfl (lv_at hL 2 rfl) ?_
    refine x_cVI (As := [.int v1, .int v2]) (rest := []) K gT_good hZ hP hS calD_nodeFits mlD_124 10 (by decide) rfl rfl (mD_nodeFits hZ K.2.2.2.2.2.2.2.1 h) ⟨Nat.le_of_ble_eq_true rfl, Nat.le_of_ble_eq_true rfl⟩ rfl hL.1 rfl (Nat.le_of_ble_eq_true rfl) dD_fits_129 (fun r13 hi14 hl15 H locs h hP hS => ?_)
    obtain ⟨g16, h⟩ := h
    exact x_zret K hr hP hS g16 h dD_fits_132
  by_cases hc4 : v1 = 70
  · have h := h.2.2.2.2.1 hc4
    refine lv_tableIn (off := 125) (tgt := 126) K.1 K.2.1 dD_fits_1 (by rw [hc4]; decide) (by rw [hc4]; decide) (by rw [hc4]; rfl) rfl ?_
    refine lv_aload_n K.1 K.2.1 dD_fits_126 rfl (lv_at hL 0 rfl) ?_
    refine lv_iload_n K.1 K.2.1 dD_fits_127 rfl (lv_at hL 1 rfl) ?_
    refine lv_iload_n K.1 K.2.1 dD_fits_128 rfl (lv_at hL 2 rfl) ?_
    refine x_cVI (As := [.int v1, .int v2]) (rest := []) K gT_good hZ hP hS calD_nodeFits mlD_124 10 (by decide) rfl rfl (mD_nodeFits hZ K.2.2.2.2.2.2.2.1 h) ⟨Nat.le_of_ble_eq_true rfl, Nat.le_of_ble_eq_true rfl⟩ rfl hL.1 rfl (Nat.le_of_ble_eq_true rfl) dD_fits_129 (fun r17 hi18 hl19 H locs h hP hS => ?_)
    obtain ⟨g20, h⟩ := h
    exact x_zret K hr hP hS g20 h dD_fits_132
  by_cases hc5 : v1 = 71
  · have h := h.2.2.2.2.2.1 hc5
    refine lv_tableIn (off := 125) (tgt := 126) K.1 K.2.1 dD_fits_1 (by rw [hc5]; decide) (by rw [hc5]; decide) (by rw [hc5]; rfl) rfl ?_
    refine lv_aload_n K.1 K.2.1 dD_fits_126 rfl (lv_at hL 0 rfl) ?_
    refine lv_iload_n K.1 K.2.1 dD_fits_127 rfl (lv_at hL 1 rfl) ?_
    refine lv_iload_n K.1 K.2.1 dD_fits_128 rfl (lv_at hL 2 rfl) ?_
    refine x_cVI (As := [.int v1, .int v2]) (rest := []) K gT_good hZ hP hS calD_nodeFits mlD_124 10 (by decide) rfl rfl (mD_nodeFits hZ K.2.2.2.2.2.2.2.1 h) ⟨Nat.le_of_ble_eq_true rfl, Nat.le_of_ble_eq_true rfl⟩ rfl hL.1 rfl (Nat.le_of_ble_eq_true rfl) dD_fits_129 (fun r21 hi22 hl23 H locs h hP hS => ?_)
    obtain ⟨g24, h⟩ := h
    exact x_zret K hr hP hS g24 h dD_fits_132
  by_cases hc6 : v1 = 72
  · have h := h.2.2.2.2.2.2.1 hc6
    refine lv_tableIn (off := 125) (tgt := 126) K.1 K.2.1 dD_fits_1 (by rw [hc6]; decide) (by rw [hc6]; decide) (by rw [hc6]; rfl) rfl ?_
    refine lv_aload_n K.1 K.2.1 dD_fits_126 rfl (lv_at hL 0 rfl) ?_
    refine lv_iload_n K.1 K.2.1 dD_fits_127 rfl (lv_at hL 1 rfl) ?_
    refine lv_iload_n K.1 K.2.1 dD_fits_128 rfl (lv_at hL 2 rfl) ?_
    refine x_cVI (As := [.int v1, .int v2]) (rest := []) K gT_good hZ hP hS calD_nodeFits mlD_124 10 (by decide) rfl rfl (mD_nodeFits hZ K.2.2.2.2.2.2.2.1 h) ⟨Nat.le_of_ble_eq_true rfl, Nat.le_of_ble_eq_true rfl⟩ rfl hL.1 rfl (Nat.le_of_ble_eq_true rfl) dD_fits_129 (fun r25 hi26 hl27 H locs h hP hS => ?_)
    obtain ⟨g28, h⟩ := h
    exact x_zret K hr hP hS g28 h dD_fits_132
  by_cases hc7 : v1 = 73
  · have h := h.2.2.2.2.2.2.2.1 hc7
    refine lv_tableIn (off := 111) (tgt := 112) K.1 K.2.1 dD_fits_1 (by rw [hc7]; decide) (by rw [hc7]; decide) (by rw [hc7]; rfl) rfl ?_
    refine lv_aload_n K.1 K.2.1 dD_fits_112 rfl (lv_at hL 0 rfl) ?_
    refine lv_iload_n K.1 K.2.1 dD_fits_113 rfl (lv_at hL 1 rfl) ?_
    refine lv_iload_n K.1 K.2.1 dD_fits_114 rfl (lv_at hL 2 rfl) ?_
    refine x_cVI (As := [.int v1, .int v2]) (rest := []) K gT_good hZ hP hS calD_sortFits mlD_118 10 (by decide) rfl rfl (mD_sortFits hZ K.2.2.2.2.2.2.2.1 h) ⟨Nat.le_of_ble_eq_true rfl, Nat.le_of_ble_eq_true rfl⟩ rfl hL.1 rfl (Nat.le_of_ble_eq_true rfl) dD_fits_115 (fun r29 hi30 hl31 H locs h hP hS => ?_)
    obtain ⟨g32, h⟩ := h
    exact x_zret K hr hP hS g32 h dD_fits_118
  by_cases hc8 : v1 = 74
  · have h := h.2.2.2.2.2.2.2.2.1 hc8
    refine lv_tableIn (off := 125) (tgt := 126) K.1 K.2.1 dD_fits_1 (by rw [hc8]; decide) (by rw [hc8]; decide) (by rw [hc8]; rfl) rfl ?_
    refine lv_aload_n K.1 K.2.1 dD_fits_126 rfl (lv_at hL 0 rfl) ?_
    refine lv_iload_n K.1 K.2.1 dD_fits_127 rfl (lv_at hL 1 rfl) ?_
    refine lv_iload_n K.1 K.2.1 dD_fits_128 rfl (lv_at hL 2 rfl) ?_
    refine x_cVI (As := [.int v1, .int v2]) (rest := []) K gT_good hZ hP hS calD_nodeFits mlD_124 10 (by decide) rfl rfl (mD_nodeFits hZ K.2.2.2.2.2.2.2.1 h) ⟨Nat.le_of_ble_eq_true rfl, Nat.le_of_ble_eq_true rfl⟩ rfl hL.1 rfl (Nat.le_of_ble_eq_true rfl) dD_fits_129 (fun r33 hi34 hl35 H locs h hP hS => ?_)
    obtain ⟨g36, h⟩ := h
    exact x_zret K hr hP hS g36 h dD_fits_132
  by_cases hc9 : v1 = 75
  · have h := h.2.2.2.2.2.2.2.2.2.1 hc9
    refine lv_tableIn (off := 125) (tgt := 126) K.1 K.2.1 dD_fits_1 (by rw [hc9]; decide) (by rw [hc9]; decide) (by rw [hc9]; rfl) rfl ?_
    refine lv_aload_n K.1 K.2.1 dD_fits_126 rfl (lv_at hL 0 rfl) ?_
    refine lv_iload_n K.1 K.2.1 dD_fits_127 rfl (lv_at hL 1 rfl) ?_
    refine lv_iload_n K.1 K.2.1 dD_fits_128 rfl (lv_at hL 2 rfl) ?_
    refine x_cVI (As := [.int v1, .int v2]) (rest := []) K gT_good hZ hP hS calD_nodeFits mlD_124 10 (by decide) rfl rfl (mD_nodeFits hZ K.2.2.2.2.2.2.2.1 h) ⟨Nat.le_of_ble_eq_true rfl, Nat.le_of_ble_eq_true rfl⟩ rfl hL.1 rfl (Nat.le_of_ble_eq_true rfl) dD_fits_129 (fun r37 hi38 hl39 H locs h hP hS => ?_)
    obtain ⟨g40, h⟩ := h
    exact x_zret K hr hP hS g40 h dD_fits_132
  by_cases hc10 : v1 = 76
  · have h := h.2.2.2.2.2.2.2.2.2.2.1 hc10
    refine lv_tableIn (off := 118) (tgt := 119) K.1 K.2.1 dD_fits_1 (by rw [hc10]; decide) (by rw [hc10]; decide) (by rw [hc10]; rfl) rfl ?_
    refine lv_aload_n K.1 K.2.1 dD_fits_119 rfl (lv_at hL 0 rfl) ?_
    refine lv_iload_n K.1 K.2.1 dD_fits_120 rfl (lv_at hL 1 rfl) ?_
    refine lv_iload_n K.1 K.2.1 dD_fits_121 rfl (lv_at hL 2 rfl) ?_
    refine x_cVI (As := [.int v1, .int v2]) (rest := []) K gT_good hZ hP hS calD_numberFits mlD_121 10 (by decide) rfl rfl (mD_numberFits hZ K.2.2.2.2.2.2.2.1 h) ⟨Nat.le_of_ble_eq_true rfl, Nat.le_of_ble_eq_true rfl⟩ rfl hL.1 rfl (Nat.le_of_ble_eq_true rfl) dD_fits_122 (fun r41 hi42 hl43 H locs h hP hS => ?_)
    obtain ⟨g44, h⟩ := h
    exact x_zret K hr hP hS g44 h dD_fits_125
  by_cases hc11 : v1 = 77
  · have h := h.2.2.2.2.2.2.2.2.2.2.2.1 hc11
    refine lv_tableIn (off := 125) (tgt := 126) K.1 K.2.1 dD_fits_1 (by rw [hc11]; decide) (by rw [hc11]; decide) (by rw [hc11]; rfl) rfl ?_
    refine lv_aload_n K.1 K.2.1 dD_fits_126 rfl (lv_at hL 0 rfl) ?_
    refine lv_iload_n K.1 K.2.1 dD_fits_127 rfl (lv_at hL 1 rfl) ?_
    refine lv_iload_n K.1 K.2.1 dD_fits_128 rfl (lv_at hL 2 rfl) ?_
    refine x_cVI (As := [.int v1, .int v2]) (rest := []) K gT_good hZ hP hS calD_nodeFits mlD_124 10 (by decide) rfl rfl (mD_nodeFits hZ K.2.2.2.2.2.2.2.1 h) ⟨Nat.le_of_ble_eq_true rfl, Nat.le_of_ble_eq_true rfl⟩ rfl hL.1 rfl (Nat.le_of_ble_eq_true rfl) dD_fits_129 (fun r45 hi46 hl47 H locs h hP hS => ?_)
    obtain ⟨g48, h⟩ := h
    exact x_zret K hr hP hS g48 h dD_fits_132
  by_cases hc12 : v1 = 78
  · have h := h.2.2.2.2.2.2.2.2.2.2.2.2.1 hc12
    refine lv_tableIn (off := 118) (tgt := 119) K.1 K.2.1 dD_fits_1 (by rw [hc12]; decide) (by rw [hc12]; decide) (by rw [hc12]; rfl) rfl ?_
    refine lv_aload_n K.1 K.2.1 dD_fits_119 rfl (lv_at hL 0 rfl) ?_
    refine lv_iload_n K.1 K.2.1 dD_fits_120 rfl (lv_at hL 1 rfl) ?_
    refine lv_iload_n K.1 K.2.1 dD_fits_121 rfl (lv_at hL 2 rfl) ?_
    refine x_cVI (As := [.int v1, .int v2]) (rest := []) K gT_good hZ hP hS calD_numberFits mlD_121 10 (by decide) rfl rfl (mD_numberFits hZ K.2.2.2.2.2.2.2.1 h) ⟨Nat.le_of_ble_eq_true rfl, Nat.le_of_ble_eq_true rfl⟩ rfl hL.1 rfl (Nat.le_of_ble_eq_true rfl) dD_fits_122 (fun r49 hi50 hl51 H locs h hP hS => ?_)
    obtain ⟨g52, h⟩ := h
    exact x_zret K hr hP hS g52 h dD_fits_125
  by_cases hc13 : v1 = 79
  · have h := h.2.2.2.2.2.2.2.2.2.2.2.2.2.1 hc13
    refine lv_tableIn (off := 111) (tgt := 112) K.1 K.2.1 dD_fits_1 (by rw [hc13]; decide) (by rw [hc13]; decide) (by rw [hc13]; rfl) rfl ?_
    refine lv_aload_n K.1 K.2.1 dD_fits_112 rfl (lv_at hL 0 rfl) ?_
    refine lv_iload_n K.1 K.2.1 dD_fits_113 rfl (lv_at hL 1 rfl) ?_
    refine lv_iload_n K.1 K.2.1 dD_fits_114 rfl (lv_at hL 2 rfl) ?_
    refine x_cVI (As := [.int v1, .int v2]) (rest := []) K gT_good hZ hP hS calD_sortFits mlD_118 10 (by decide) rfl rfl (mD_sortFits hZ K.2.2.2.2.2.2.2.1 h) ⟨Nat.le_of_ble_eq_true rfl, Nat.le_of_ble_eq_true rfl⟩ rfl hL.1 rfl (Nat.le_of_ble_eq_true rfl) dD_fits_115 (fun r53 hi54 hl55 H locs h hP hS => ?_)
    obtain ⟨g56, h⟩ := h
    exact x_zret K hr hP hS g56 h dD_fits_118
  by_cases hc14 : v1 = 80
  · have h := h.2.2.2.2.2.2.2.2.2.2.2.2.2.2.1 hc14
    refine lv_tableIn (off := 125) (tgt := 126) K.1 K.2.1 dD_fits_1 (by rw [hc14]; decide) (by rw [hc14]; decide) (by rw [hc14]; rfl) rfl ?_
    refine lv_aload_n K.1 K.2.1 dD_fits_126 rfl (lv_at hL 0 rfl) ?_
    refine lv_iload_n K.1 K.2.1 dD_fits_127 rfl (lv_at hL 1 rfl) ?_
    refine lv_iload_n K.1 K.2.1 dD_fits_128 rfl (lv_at hL 2 rfl) ?_
    refine x_cVI (As := [.int v1, .int v2]) (rest := []) K gT_good hZ hP hS calD_nodeFits mlD_124 10 (by decide) rfl rfl (mD_nodeFits hZ K.2.2.2.2.2.2.2.1 h) ⟨Nat.le_of_ble_eq_true rfl, Nat.le_of_ble_eq_true rfl⟩ rfl hL.1 rfl (Nat.le_of_ble_eq_true rfl) dD_fits_129 (fun r57 hi58 hl59 H locs h hP hS => ?_)
    obtain ⟨g60, h⟩ := h
    exact x_zret K hr hP hS g60 h dD_fits_132
  by_cases hc15 : v1 = 81
  · have h := h.2.2.2.2.2.2.2.2.2.2.2.2.2.2.2.1 hc15
    refine lv_tableIn (off := 125) (tgt := 126) K.1 K.2.1 dD_fits_1 (by rw [hc15]; decide) (by rw [hc15]; decide) (by rw [hc15]; rfl) rfl ?_
    refine lv_aload_n K.1 K.2.1 dD_fits_126 rfl (lv_at hL 0 rfl) ?_
    refine lv_iload_n K.1 K.2.1 dD_fits_127 rfl (lv_at hL 1 rfl) ?_
    refine lv_iload_n K.1 K.2.1 dD_fits_128 rfl (lv_at hL 2 rfl) ?_
    refine x_cVI (As := [.int v1, .int v2]) (rest := []) K gT_good hZ hP hS calD_nodeFits mlD_124 10 (by decide) rfl rfl (mD_nodeFits hZ K.2.2.2.2.2.2.2.1 h) ⟨Nat.le_of_ble_eq_true rfl, Nat.le_of_ble_eq_true rfl⟩ rfl hL.1 rfl (Nat.le_of_ble_eq_true rfl) dD_fits_129 (fun r61 hi62 hl63 H locs h hP hS => ?_)
    obtain ⟨g64, h⟩ := h
    exact x_zret K hr hP hS g64 h dD_fits_132
  by_cases hc16 : v1 = 82
  · have h := h.2.2.2.2.2.2.2.2.2.2.2.2.2.2.2.2.1 hc16
    refine lv_tableIn (off := 125) (tgt := 126) K.1 K.2.1 dD_fits_1 (by rw [hc16]; decide) (by rw [hc16]; decide) (by rw [hc16]; rfl) rfl ?_
    refine lv_aload_n K.1 K.2.1 dD_fits_126 rfl (lv_at hL 0 rfl) ?_
    refine lv_iload_n K.1 K.2.1 dD_fits_127 rfl (lv_at hL 1 rfl) ?_
    refine lv_iload_n K.1 K.2.1 dD_fits_128 rfl (lv_at hL 2 rfl) ?_
    refine x_cVI (As := [.int v1, .int v2]) (rest := []) K gT_good hZ hP hS calD_nodeFits mlD_124 10 (by decide) rfl rfl (mD_nodeFits hZ K.2.2.2.2.2.2.2.1 h) ⟨Nat.le_of_ble_eq_true rfl, Nat.le_of_ble_eq_true rfl⟩ rfl hL.1 rfl (Nat.le_of_ble_eq_true rfl) dD_fits_129 (fun r65 hi66 hl67 H locs h hP hS => ?_)
    obtain ⟨g68, h⟩ := h
    exact x_zret K hr hP hS g68 h dD_fits_132
  by_cases hc17 : v1 = 83
  · have h := h.2.2.2.2.2.2.2.2.2.2.2.2.2.2.2.2.2.1 hc17
    refine lv_tableIn (off := 111) (tgt := 112) K.1 K.2.1 dD_fits_1 (by rw [hc17]; decide) (by rw [hc17]; decide) (by rw [hc17]; rfl) rfl ?_
    refine lv_aload_n K.1 K.2.1 dD_fits_112 rfl (lv_at hL 0 rfl) ?_
    refine lv_iload_n K.1 K.2.1 dD_fits_113 rfl (lv_at hL 1 rfl) ?_
    refine lv_iload_n K.1 K.2.1 dD_fits_114 rfl (lv_at hL 2 rfl) ?_
    refine x_cVI (As := [.int v1, .int v2]) (rest := []) K gT_good hZ hP hS calD_sortFits mlD_118 10 (by decide) rfl rfl (mD_sortFits hZ K.2.2.2.2.2.2.2.1 h) ⟨Nat.le_of_ble_eq_true rfl, Nat.le_of_ble_eq_true rfl⟩ rfl hL.1 rfl (Nat.le_of_ble_eq_true rfl) dD_fits_115 (fun r69 hi70 hl71 H locs h hP hS => ?_)
    obtain ⟨g72, h⟩ := h
    exact x_zret K hr hP hS g72 h dD_fits_118
  by_cases hc18 : v1 = 84
  · have h := h.2.2.2.2.2.2.2.2.2.2.2.2.2.2.2.2.2.2.1 hc18
    refine lv_tableIn (off := 111) (tgt := 112) K.1 K.2.1 dD_fits_1 (by rw [hc18]; decide) (by rw [hc18]; decide) (by rw [hc18]; rfl) rfl ?_
    refine lv_aload_n K.1 K.2.1 dD_fits_112 rfl (lv_at hL 0 rfl) ?_
    refine lv_iload_n K.1 K.2.1 dD_fits_113 rfl (lv_at hL 1 rfl) ?_
    refine lv_iload_n K.1 K.2.1 dD_fits_114 rfl (lv_at hL 2 rfl) ?_
    refine x_cVI (As := [.int v1, .int v2]) (rest := []) K gT_good hZ hP hS calD_sortFits mlD_118 10 (by decide) rfl rfl (mD_sortFits hZ K.2.2.2.2.2.2.2.1 h) ⟨Nat.le_of_ble_eq_true rfl, Nat.le_of_ble_eq_true rfl⟩ rfl hL.1 rfl (Nat.le_of_ble_eq_true rfl) dD_fits_115 (fun r73 hi74 hl75 H locs h hP hS => ?_)
    obtain ⟨g76, h⟩ := h
    exact x_zret K hr hP hS g76 h dD_fits_118
  by_cases hc19 : v1 = 85
  · have h := h.2.2.2.2.2.2.2.2.2.2.2.2.2.2.2.2.2.2.2.1 hc19
    refine lv_tableIn (off := 118) (tgt := 119) K.1 K.2.1 dD_fits_1 (by rw [hc19]; decide) (by rw [hc19]; decide) (by rw [hc19]; rfl) rfl ?_
    refine lv_aload_n K.1 K.2.1 dD_fits_119 rfl (lv_at hL 0 rfl) ?_
    refine lv_iload_n K.1 K.2.1 dD_fits_120 rfl (lv_at hL 1 rfl) ?_
    refine lv_iload_n K.1 K.2.1 dD_fits_121 rfl (lv_at hL 2 rfl) ?_
    refine x_cVI (As := [.int v1, .int v2]) (rest := []) K gT_good hZ hP hS calD_numberFits mlD_121 10 (by decide) rfl rfl (mD_numberFits hZ K.2.2.2.2.2.2.2.1 h) ⟨Nat.le_of_ble_eq_true rfl, Nat.le_of_ble_eq_true rfl⟩ rfl hL.1 rfl (Nat.le_of_ble_eq_true rfl) dD_fits_122 (fun r77 hi78 hl79 H locs h hP hS => ?_)
    obtain ⟨g80, h⟩ := h
    exact x_zret K hr hP hS g80 h dD_fits_125
  by_cases hc20 : v1 = 86
  · have h := h.2.2.2.2.2.2.2.2.2.2.2.2.2.2.2.2.2.2.2.2.1 hc20
    refine lv_tableIn (off := 118) (tgt := 119) K.1 K.2.1 dD_fits_1 (by rw [hc20]; decide) (by rw [hc20]; decide) (by rw [hc20]; rfl) rfl ?_
    refine lv_aload_n K.1 K.2.1 dD_fits_119 rfl (lv_at hL 0 rfl) ?_
    refine lv_iload_n K.1 K.2.1 dD_fits_120 rfl (lv_at hL 1 rfl) ?_
    refine lv_iload_n K.1 K.2.1 dD_fits_121 rfl (lv_at hL 2 rfl) ?_
    refine x_cVI (As := [.int v1, .int v2]) (rest := []) K gT_good hZ hP hS calD_numberFits mlD_121 10 (by decide) rfl rfl (mD_numberFits hZ K.2.2.2.2.2.2.2.1 h) ⟨Nat.le_of_ble_eq_true rfl, Nat.le_of_ble_eq_true rfl⟩ rfl hL.1 rfl (Nat.le_of_ble_eq_true rfl) dD_fits_122 (fun r81 hi82 hl83 H locs h hP hS => ?_)
    obtain ⟨g84, h⟩ := h
    exact x_zret K hr hP hS g84 h dD_fits_125
  by_cases hc21 : v1 = 87
  · have h := h.2.2.2.2.2.2.2.2.2.2.2.2.2.2.2.2.2.2.2.2.2.1 hc21
    refine lv_tableIn (off := 125) (tgt := 126) K.1 K.2.1 dD_fits_1 (by rw [hc21]; decide) (by rw [hc21]; decide) (by rw [hc21]; rfl) rfl ?_
    refine lv_aload_n K.1 K.2.1 dD_fits_126 rfl (lv_at hL 0 rfl) ?_
    refine lv_iload_n K.1 K.2.1 dD_fits_127 rfl (lv_at hL 1 rfl) ?_
    refine lv_iload_n K.1 K.2.1 dD_fits_128 rfl (lv_at hL 2 rfl) ?_
    refine x_cVI (As := [.int v1, .int v2]) (rest := []) K gT_good hZ hP hS calD_nodeFits mlD_124 10 (by decide) rfl rfl (mD_nodeFits hZ K.2.2.2.2.2.2.2.1 h) ⟨Nat.le_of_ble_eq_true rfl, Nat.le_of_ble_eq_true rfl⟩ rfl hL.1 rfl (Nat.le_of_ble_eq_true rfl) dD_fits_129 (fun r85 hi86 hl87 H locs h hP hS => ?_)
    obtain ⟨g88, h⟩ := h
    exact x_zret K hr hP hS g88 h dD_fits_132
  by_cases hc22 : v1 = 88
  · have h := h.2.2.2.2.2.2.2.2.2.2.2.2.2.2.2.2.2.2.2.2.2.2.1 hc22
    refine lv_tableIn (off := 125) (tgt := 126) K.1 K.2.1 dD_fits_1 (by rw [hc22]; decide) (by rw [hc22]; decide) (by rw [hc22]; rfl) rfl ?_
    refine lv_aload_n K.1 K.2.1 dD_fits_126 rfl (lv_at hL 0 rfl) ?_
    refine lv_iload_n K.1 K.2.1 dD_fits_127 rfl (lv_at hL 1 rfl) ?_
    refine lv_iload_n K.1 K.2.1 dD_fits_128 rfl (lv_at hL 2 rfl) ?_
    refine x_cVI (As := [.int v1, .int v2]) (rest := []) K gT_good hZ hP hS calD_nodeFits mlD_124 10 (by decide) rfl rfl (mD_nodeFits hZ K.2.2.2.2.2.2.2.1 h) ⟨Nat.le_of_ble_eq_true rfl, Nat.le_of_ble_eq_true rfl⟩ rfl hL.1 rfl (Nat.le_of_ble_eq_true rfl) dD_fits_129 (fun r89 hi90 hl91 H locs h hP hS => ?_)
    obtain ⟨g92, h⟩ := h
    exact x_zret K hr hP hS g92 h dD_fits_132
  by_cases hc23 : v1 = 89
  · have h := h.2.2.2.2.2.2.2.2.2.2.2.2.2.2.2.2.2.2.2.2.2.2.2.1 hc23
    refine lv_tableIn (off := 111) (tgt := 112) K.1 K.2.1 dD_fits_1 (by rw [hc23]; decide) (by rw [hc23]; decide) (by rw [hc23]; rfl) rfl ?_
    refine lv_aload_n K.1 K.2.1 dD_fits_112 rfl (lv_at hL 0 rfl) ?_
    refine lv_iload_n K.1 K.2.1 dD_fits_113 rfl (lv_at hL 1 rfl) ?_
    refine lv_iload_n K.1 K.2.1 dD_fits_114 rfl (lv_at hL 2 rfl) ?_
    refine x_cVI (As := [.int v1, .int v2]) (rest := []) K gT_good hZ hP hS calD_sortFits mlD_118 10 (by decide) rfl rfl (mD_sortFits hZ K.2.2.2.2.2.2.2.1 h) ⟨Nat.le_of_ble_eq_true rfl, Nat.le_of_ble_eq_true rfl⟩ rfl hL.1 rfl (Nat.le_of_ble_eq_true rfl) dD_fits_115 (fun r93 hi94 hl95 H locs h hP hS => ?_)
    obtain ⟨g96, h⟩ := h
    exact x_zret K hr hP hS g96 h dD_fits_118
  have h := h.2.2.2.2.2.2.2.2.2.2.2.2.2.2.2.2.2.2.2.2.2.2.2.2 hc0 hc1 hc2 hc3 hc4 hc5 hc6 hc7 hc8 hc9 hc10 hc11 hc12 hc13 hc14 hc15 hc16 hc17 hc18 hc19 hc20 hc21 hc22 hc23
  refine lv_tableOut (tgt := 126) K.1 K.2.1 dD_fits_1 (by have e0 := i_ne hc0 (n := 66) (by decide); have e1 := i_ne hc1 (n := 67) (by decide); have e2 := i_ne hc2 (n := 68) (by decide); have e3 := i_ne hc3 (n := 69) (by decide); have e4 := i_ne hc4 (n := 70) (by decide); have e5 := i_ne hc5 (n := 71) (by decide); have e6 := i_ne hc6 (n := 72) (by decide); have e7 := i_ne hc7 (n := 73) (by decide); have e8 := i_ne hc8 (n := 74) (by decide); have e9 := i_ne hc9 (n := 75) (by decide); have e10 := i_ne hc10 (n := 76) (by decide); have e11 := i_ne hc11 (n := 77) (by decide); have e12 := i_ne hc12 (n := 78) (by decide); have e13 := i_ne hc13 (n := 79) (by decide); have e14 := i_ne hc14 (n := 80) (by decide); have e15 := i_ne hc15 (n := 81) (by decide); have e16 := i_ne hc16 (n := 82) (by decide); have e17 := i_ne hc17 (n := 83) (by decide); have e18 := i_ne hc18 (n := 84) (by decide); have e19 := i_ne hc19 (n := 85) (by decide); have e20 := i_ne hc20 (n := 86) (by decide); have e21 := i_ne hc21 (n := 87) (by decide); have e22 := i_ne hc22 (n := 88) (by decide); have e23 := i_ne hc23 (n := 89) (by decide); omega) rfl ?_
  refine lv_aload_n K.1 K.2.1 dD_fits_126 rfl (lv_at hL 0 rfl) ?_
  refine lv_iload_n K.1 K.2.1 dD_fits_127 rfl (lv_at hL 1 rfl) ?_
  refine lv_iload_n K.1 K.2.1 dD_fits_128 rfl (lv_at hL 2 rfl) ?_
  refine x_cVI (As := [.int v1, .int v2]) (rest := []) K gT_good hZ hP hS calD_nodeFits mlD_124 10 (by decide) rfl rfl (mD_nodeFits hZ K.2.2.2.2.2.2.2.1 h) ⟨Nat.le_of_ble_eq_true rfl, Nat.le_of_ble_eq_true rfl⟩ rfl hL.1 rfl (Nat.le_of_ble_eq_true rfl) dD_fits_129 (fun r97 hi98 hl99 H locs h hP hS => ?_)
  obtain ⟨g100, h⟩ := h
  exact x_zret K hr hP hS g100 h dD_fits_132
set_option maxRecDepth 100000 in
set_option maxHeartbeats 4000000 in
theorem mD_fits {l : Launch} {D : va_G} {cI cJ cC cZ cR : ClassId} {ad kd sd vd : Nat → Nat} {kA lA wA : Nat} {A : Nat → Prop} (hZ : ZsOK A (ZX A kd sd vd kA lA wA)) (hD : wlD 64 ad A) {v1 : Int32} {v2 : Int32} {hi : HI} {hl : HL} {Φ : Int32 → HI → HL → Prop} (h : wpD_fits v1 v2 hi hl Φ) : SpI l yD_fits cD_fits 3 (some .boolean) gT 3 70 [.ref (ad 10), .int v1, .int v2] D cls8 (tys5 cI cJ cC cZ cR) 64 ad (GX cI cJ cC cZ cR ad kd) A (ZX A kd sd vd kA lA wA) hi hl Φ := by
  refine Met.ofW (cc := cD_fits) (maxL := 3) (ret := (some .boolean)) (by decide) rfl ?_
  intro p e s m args below meth c s₁ B hml hv
  obtain ⟨rfl, hP, hK, hZs⟩ := hv
  have K : Cx p (rmX 3 70) s m _ meth c cD_fits 3 "WordChecker$Draft" gT D cls8 (tys5 cI cJ cC cZ cR) 64 ad A (ZX A kd sd vd kA lA wA) := ⟨B.exec, B.bytes, hml, findClass_of_methodNamed B.named, fun w hw => atoms_spec B.pre w (List.mem_cons_of_mem _ hw), B.notSynchronized, hK, hD, hZs⟩
  have hL := lv_entry ([.ref (ad 10), .int v1, .int v2]) (n := 3) (Nat.le_of_ble_eq_true rfl)
  rw [lg_entry_eq]
  generalize (lg_sl ([.ref (ad 10), .int v1, .int v2]) ++ List.replicate (3 - (lg_sl ([.ref (ad 10), .int v1, .int v2])).length) Slot.unset).toArray = ls at hL ⊢
  have hL : lv_has ls 3 [(0, .ref (ad 10)), (1, .int v1), (2, .int v2)] := hL
  unfold wpD_fits at h
  exact bD_fits_0 K B.returns hZ h (lv_sub hL [0, 1, 2] rfl) hP va_S.rf
set_option maxRecDepth 100000 in
set_option maxHeartbeats 4000000 in
theorem bT_isWord_32 {p : Program} {l : Launch} {e : Env} {s : State} {m : MethodId} {args : Array Value} {below : List Frame} {meth : Method} {c : Code} {D : va_G} {cI cJ cC cZ cR : ClassId} {ad kd sd vd : Nat → Nat} {kA lA wA : Nat} {A : Nat → Prop} (K : Cx p (rmX 4 85) s m args meth c cT_isWord 4 "WordChecker$Text" gT D cls8 (tys5 cI cJ cC cZ cR) 64 ad A (ZX A kd sd vd kA lA wA)) (hr : meth.sig.returnType = (some .boolean)) (hZ : ZsOK A (ZX A kd sd vd kA lA wA)) {Φ : Int32 → HI → HL → Prop} {n : Nat} {v1 : Int32} {v2 : Nat} {v3 : Int32} {hi : HI} {hl : HL} {H : Heap} {locs : List Loc} (h : wbT_isWord_32 n v1 v2 v3 hi hl Φ) {ls : Array Slot} (hL : lv_has ls 4 [(0, .ref (ad 1)), (1, .int v1), (2, .ref (sd v2)), (3, .int v3)]) (hP : va_P D cls8 (wl 64 ad (GX cI cJ cC cZ cR ad kd) hi hl) H) (hS : va_S A s.heap H locs) : W p l e (rmX 4 85) s m args below meth c H locs 0 0 (MQ below (va_Qi (fun r (u : HI × HL) => Φ r u.1 u.2) (fun u t => va_P D cls8 (wl 64 ad (GX cI cJ cC cZ cR ad kd) u.1 u.2) t.heap) A) args s 0 0 A) (F0 m 32 ls []) := by
  induction n generalizing v1 v2 v3 hi hl ls H locs with
  | zero => exact False.elim h
  | succ n ih =>
    unfold wbT_isWord_32 at h
    refine lv_iload_n K.1 K.2.1 dT_isWord_32 rfl (lv_at hL 3 rfl) ?_
    refine lv_aload_n K.1 K.2.1 dT_isWord_33 rfl (lv_at hL 2 rfl) ?_
    obtain ⟨g1, h⟩ := h
    refine x_slen (rest := [.int v3]) K hP hS g1 mlT_33 ⟨Nat.le_of_ble_eq_true rfl, Nat.le_of_ble_eq_true rfl⟩ hL.1 (Nat.le_of_ble_eq_true rfl) dT_isWord_34 (fun H locs hP hS => ?_)
    refine lv_icmp_ge (tgt := 69) K.1 K.2.1 dT_isWord_37 rfl (fun hc => ?_) (fun hc => ?_)
    · have h := h.1 hc
      refine lv_iconst (v := 1) K.1 K.2.1 dT_isWord_69 (by decide) ?_
      obtain ⟨g2, h⟩ := h
      exact x_zret K hr hP hS g2 h dT_isWord_70
    · have h := h.2 hc
      refine lv_aload_n K.1 K.2.1 dT_isWord_40 rfl (lv_at hL 0 rfl) ?_
      refine x_get (v := .ref (ad 2)) K hP hinT (ci := 1) rfl 1 (by decide) rfl 0 (by decide) flT_9 rfl rfl dT_isWord_41 ?_
      refine lv_aload_n K.1 K.2.1 dT_isWord_44 rfl (lv_at hL 0 rfl) ?_
      refine x_get (v := .ref (ad 3)) K hP hinT (ci := 1) rfl 1 (by decide) rfl 1 (by decide) flT_15 rfl rfl dT_isWord_45 ?_
      refine lv_iload_n K.1 K.2.1 dT_isWord_48 rfl (lv_at hL 1 rfl) ?_
      obtain ⟨g3, h⟩ := h
      refine x_iald K hP 3 (by decide) 0 rfl rfl g3 dT_isWord_49 ?_
      refine lv_iload_n K.1 K.2.1 dT_isWord_50 rfl (lv_at hL 3 rfl) ?_
      refine lv_iadd K.1 K.2.1 dT_isWord_51 ?_
      obtain ⟨g4, h⟩ := h
      refine x_cald K hP 2 (by decide) 2 rfl rfl g4 dT_isWord_52 ?_
      refine lv_aload_n K.1 K.2.1 dT_isWord_53 rfl (lv_at hL 2 rfl) ?_
      refine lv_iload_n K.1 K.2.1 dT_isWord_54 rfl (lv_at hL 3 rfl) ?_
      obtain ⟨g5, h⟩ := h
      obtain ⟨g6, h⟩ := h
      refine x_schar (rest := [.int (hi 2 (((hi 3 (v1.toNatClampNeg)) + v3).toNatClampNeg))]) K hP hS g5 g6 mlT_39 ⟨Nat.le_of_ble_eq_true rfl, Nat.le_of_ble_eq_true rfl⟩ hL.1 (Nat.le_of_ble_eq_true rfl) dT_isWord_55 (fun H locs hP hS => ?_)
      refine lv_icmp_eq (tgt := 63) K.1 K.2.1 dT_isWord_58 rfl (fun hc => ?_) (fun hc => ?_)
      · have h := h.1 hc
        refine lv_iinc (k := 3) (lv' := [(3, .int (v3 + Int32.ofInt (1))), (0, .ref (ad 1)), (1, .int v1), (2, .ref (sd v2))]) K.1 K.2.1 dT_isWord_63 hL rfl rfl (by decide) rfl (fun ls hL => ?_)
        refine lv_goto (tgt := 32) K.1 K.2.1 dT_isWord_66 rfl ?_
        exact ih h (lv_sub hL [1, 2, 3, 0] rfl) hP hS
      · have h := h.2 hc
        refine lv_iconst (v := 0) K.1 K.2.1 dT_isWord_61 (by decide) ?_
        obtain ⟨g7, h⟩ := h
        exact x_zret K hr hP hS g7 h dT_isWord_62
set_option maxRecDepth 100000 in
set_option maxHeartbeats 4000000 in
theorem bT_isWord_0 {p : Program} {l : Launch} {e : Env} {s : State} {m : MethodId} {args : Array Value} {below : List Frame} {meth : Method} {c : Code} {D : va_G} {cI cJ cC cZ cR : ClassId} {ad kd sd vd : Nat → Nat} {kA lA wA : Nat} {A : Nat → Prop} (K : Cx p (rmX 4 85) s m args meth c cT_isWord 4 "WordChecker$Text" gT D cls8 (tys5 cI cJ cC cZ cR) 64 ad A (ZX A kd sd vd kA lA wA)) (hr : meth.sig.returnType = (some .boolean)) (hZ : ZsOK A (ZX A kd sd vd kA lA wA)) {Φ : Int32 → HI → HL → Prop} {v1 : Int32} {v2 : Nat} {hi : HI} {hl : HL} {H : Heap} {locs : List Loc} (h : wbT_isWord_0 v1 v2 hi hl Φ) {ls : Array Slot} (hL : lv_has ls 4 [(0, .ref (ad 1)), (1, .int v1), (2, .ref (sd v2))]) (hP : va_P D cls8 (wl 64 ad (GX cI cJ cC cZ cR ad kd) hi hl) H) (hS : va_S A s.heap H locs) : W p l e (rmX 4 85) s m args below meth c H locs 0 0 (MQ below (va_Qi (fun r (u : HI × HL) => Φ r u.1 u.2) (fun u t => va_P D cls8 (wl 64 ad (GX cI cJ cC cZ cR ad kd) u.1 u.2) t.heap) A) args s 0 0 A) (F0 m 0 ls []) := by
  unfold wbT_isWord_0 at h
  refine lv_iload_n K.1 K.2.1 dT_isWord_0 rfl (lv_at hL 1 rfl) ?_
  refine lv_aload_n K.1 K.2.1 dT_isWord_1 rfl (lv_at hL 0 rfl) ?_
  refine x_get (v := .int (hi 1 4)) K hP hinT (ci := 1) rfl 1 (by decide) rfl 4 (by decide) flT_30 rfl rfl dT_isWord_2 ?_
  refine lv_icmp_ge (tgt := 28) K.1 K.2.1 dT_isWord_5 rfl (fun hc => ?_) (fun hc => ?_)
  · have h := h.1 hc
    refine lv_iconst (v := 0) K.1 K.2.1 dT_isWord_28 (by decide) ?_
    obtain ⟨g1, h⟩ := h
    exact x_zret K hr hP hS g1 h dT_isWord_29
  · have h := h.2 hc
    refine lv_aload_n K.1 K.2.1 dT_isWord_8 rfl (lv_at hL 0 rfl) ?_
    refine x_get (v := .ref (ad 4)) K hP hinT (ci := 1) rfl 1 (by decide) rfl 2 (by decide) flT_19 rfl rfl dT_isWord_9 ?_
    refine lv_iload_n K.1 K.2.1 dT_isWord_12 rfl (lv_at hL 1 rfl) ?_
    obtain ⟨g2, h⟩ := h
    refine x_iald K hP 4 (by decide) 0 rfl rfl g2 dT_isWord_13 ?_
    refine lv_aload_n K.1 K.2.1 dT_isWord_14 rfl (lv_at hL 0 rfl) ?_
    refine x_get (v := .ref (ad 3)) K hP hinT (ci := 1) rfl 1 (by decide) rfl 1 (by decide) flT_15 rfl rfl dT_isWord_15 ?_
    refine lv_iload_n K.1 K.2.1 dT_isWord_18 rfl (lv_at hL 1 rfl) ?_
    obtain ⟨g3, h⟩ := h
    refine x_iald K hP 3 (by decide) 0 rfl rfl g3 dT_isWord_19 ?_
    refine lv_isub K.1 K.2.1 dT_isWord_20 ?_
    refine lv_aload_n K.1 K.2.1 dT_isWord_21 rfl (lv_at hL 2 rfl) ?_
    obtain ⟨g4, h⟩ := h
    refine x_slen (rest := [.int ((hi 4 (v1.toNatClampNeg)) - (hi 3 (v1.toNatClampNeg)))]) K hP hS g4 mlT_33 ⟨Nat.le_of_ble_eq_true rfl, Nat.le_of_ble_eq_true rfl⟩ hL.1 (Nat.le_of_ble_eq_true rfl) dT_isWord_22 (fun H locs hP hS => ?_)
    refine lv_icmp_eq (tgt := 30) K.1 K.2.1 dT_isWord_25 rfl (fun hc => ?_) (fun hc => ?_)
    · have h := h.1 hc
      refine lv_iconst (v := 0) K.1 K.2.1 dT_isWord_30 (by decide) ?_
      refine lv_istore_n (lv' := [(3, .int (0 : Int32)), (0, .ref (ad 1)), (1, .int v1), (2, .ref (sd v2))]) K.1 K.2.1 dT_isWord_31 rfl hL (by decide) rfl (fun ls hL => ?_)
      obtain ⟨fu, h⟩ := h
      exact bT_isWord_32 K hr hZ h (lv_sub hL [1, 2, 3, 0] rfl) hP hS
    · have h := h.2 hc
      refine lv_iconst (v := 0) K.1 K.2.1 dT_isWord_28 (by decide) ?_
      obtain ⟨g5, h⟩ := h
      exact x_zret K hr hP hS g5 h dT_isWord_29
set_option maxRecDepth 100000 in
set_option maxHeartbeats 4000000 in
theorem mT_isWord {l : Launch} {D : va_G} {cI cJ cC cZ cR : ClassId} {ad kd sd vd : Nat → Nat} {kA lA wA : Nat} {A : Nat → Prop} (hZ : ZsOK A (ZX A kd sd vd kA lA wA)) (hD : wlD 64 ad A) {v1 : Int32} {v2 : Nat} {hi : HI} {hl : HL} {Φ : Int32 → HI → HL → Prop} (h : wpT_isWord v1 v2 hi hl Φ) : SpI l yT_isWord cT_isWord 4 (some .boolean) gT 4 85 [.ref (ad 1), .int v1, .ref (sd v2)] D cls8 (tys5 cI cJ cC cZ cR) 64 ad (GX cI cJ cC cZ cR ad kd) A (ZX A kd sd vd kA lA wA) hi hl Φ := by
  refine Met.ofW (cc := cT_isWord) (maxL := 4) (ret := (some .boolean)) (by decide) rfl ?_
  intro p e s m args below meth c s₁ B hml hv
  obtain ⟨rfl, hP, hK, hZs⟩ := hv
  have K : Cx p (rmX 4 85) s m _ meth c cT_isWord 4 "WordChecker$Text" gT D cls8 (tys5 cI cJ cC cZ cR) 64 ad A (ZX A kd sd vd kA lA wA) := ⟨B.exec, B.bytes, hml, findClass_of_methodNamed B.named, fun w hw => atoms_spec B.pre w (List.mem_cons_of_mem _ hw), B.notSynchronized, hK, hD, hZs⟩
  have hL := lv_entry ([.ref (ad 1), .int v1, .ref (sd v2)]) (n := 4) (Nat.le_of_ble_eq_true rfl)
  rw [lg_entry_eq]
  generalize (lg_sl ([.ref (ad 1), .int v1, .ref (sd v2)]) ++ List.replicate (4 - (lg_sl ([.ref (ad 1), .int v1, .ref (sd v2)])).length) Slot.unset).toArray = ls at hL ⊢
  have hL : lv_has ls 4 [(0, .ref (ad 1)), (1, .int v1), (2, .ref (sd v2))] := hL
  unfold wpT_isWord at h
  exact bT_isWord_0 K B.returns hZ h (lv_sub hL [0, 1, 2] rfl) hP va_S.rf
set_option maxRecDepth 100000 in
set_option maxHeartbeats 4000000 in
theorem bD_kindOfWord_2 {p : Program} {l : Launch} {e : Env} {s : State} {m : MethodId} {args : Array Value} {below : List Frame} {meth : Method} {c : Code} {D : va_G} {cI cJ cC cZ cR : ClassId} {ad kd sd vd : Nat → Nat} {kA lA wA : Nat} {A : Nat → Prop} (K : Cx p (rmX 5 108) s m args meth c cD_kindOfWord 2 "WordChecker$Draft" gT D cls8 (tys5 cI cJ cC cZ cR) 64 ad A (ZX A kd sd vd kA lA wA)) (hr : meth.sig.returnType = (some (.object "WordChecker$Kind"))) (hZ : ZsOK A (ZX A kd sd vd kA lA wA)) {Φ : Int32 → HI → HL → Prop} {n : Nat} {v1 : Int32} {hi : HI} {hl : HL} {H : Heap} {locs : List Loc} (h : wbD_kindOfWord_2 n v1 hi hl Φ) {ls : Array Slot} (hL : lv_has ls 2 [(0, .ref (ad 10)), (1, .int v1)]) (hP : va_P D cls8 (wl 64 ad (GX cI cJ cC cZ cR ad kd) hi hl) H) (hS : va_S A s.heap H locs) : W p l e (rmX 5 108) s m args below meth c H locs 0 0 (MQ below (va_Qk kd (fun r (u : HI × HL) => Φ r u.1 u.2) (fun u t => va_P D cls8 (wl 64 ad (GX cI cJ cC cZ cR ad kd) u.1 u.2) t.heap) A) args s 0 0 A) (F0 m 2 ls []) := by
  induction n generalizing v1 hi hl ls H locs with
  | zero => exact False.elim h
  | succ n ih =>
    unfold wbD_kindOfWord_2 at h
    refine lv_iload_n K.1 K.2.1 dD_kindOfWord_2 rfl (lv_at hL 1 rfl) ?_
    refine x_getsN (v := .ref kA) K hS K.2.2.2.2.2.2.2.2.2.1.1 (fnD_90 K.2.2.2.2.2.2.2.2) dD_kindOfWord_3 ?_
    refine va_tlen (v := 31) K.1 K.2.1 K.2.2.2.2.2.2.2.2.2.1.2.1 hS rfl dD_kindOfWord_6 ?_
    refine lv_icmp_ge (tgt := 41) K.1 K.2.1 dD_kindOfWord_7 rfl (fun hc => ?_) (fun hc => ?_)
    · have h := h.1 hc
      refine lv_null K.1 K.2.1 dD_kindOfWord_41 ?_
      exact x_kret K hr hP hS rfl h dD_kindOfWord_42
    · have h := h.2 hc
      refine lv_aload_n K.1 K.2.1 dD_kindOfWord_10 rfl (lv_at hL 0 rfl) ?_
      refine x_get (v := .ref (ad 1)) K hP hinD (ci := 3) rfl 10 (by decide) rfl 0 (by decide) flD_19 rfl rfl dD_kindOfWord_11 ?_
      refine lv_iconst (v := 1) K.1 K.2.1 dD_kindOfWord_14 (by decide) ?_
      refine x_getsN (v := .ref kA) K hS K.2.2.2.2.2.2.2.2.2.1.1 (fnD_90 K.2.2.2.2.2.2.2.2) dD_kindOfWord_15 ?_
      refine lv_iload_n K.1 K.2.1 dD_kindOfWord_18 rfl (lv_at hL 1 rfl) ?_
      obtain ⟨g1, h⟩ := h
      refine vb_tq (v := .ref (kd (v1.toNatClampNeg))) K.1 K.2.1 K.2.2.2.2.2.2.2.2.2.1.2.1 hS g1 rfl dD_kindOfWord_19 ?_
      obtain ⟨g2, h⟩ := h
      refine x_getON K hS (K.2.2.2.2.2.2.2.2.2.2.1 _ (in_lt g2)).2.2.2.1 (fnD_94 K.2.2.2.2.2.2.2.2) rfl dD_kindOfWord_20 ?_
      refine x_cVI (As := [.int (1 : Int32), .ref (sd (v1.toNatClampNeg))]) (rest := []) K gT_good hZ hP hS calT_isWord mlD_97 1 (by decide) rfl rfl (mT_isWord hZ K.2.2.2.2.2.2.2.1 h) ⟨Nat.le_of_ble_eq_true rfl, Nat.le_of_ble_eq_true rfl⟩ rfl hL.1 rfl (Nat.le_of_ble_eq_true rfl) dD_kindOfWord_23 (fun r3 hi4 hl5 H locs h hP hS => ?_)
      refine lv_if_eq (tgt := 35) K.1 K.2.1 dD_kindOfWord_26 rfl (fun hc => ?_) (fun hc => ?_)
      · have h := h.1 hc
        refine lv_iinc (k := 1) (lv' := [(1, .int (v1 + Int32.ofInt (1))), (0, .ref (ad 10))]) K.1 K.2.1 dD_kindOfWord_35 hL rfl rfl (by decide) rfl (fun ls hL => ?_)
        refine lv_goto (tgt := 2) K.1 K.2.1 dD_kindOfWord_38 rfl ?_
        exact ih h (lv_sub hL [1, 0] rfl) hP hS
      · have h := h.2 hc
        refine x_getsN (v := .ref kA) K hS K.2.2.2.2.2.2.2.2.2.1.1 (fnD_90 K.2.2.2.2.2.2.2.2) dD_kindOfWord_29 ?_
        refine lv_iload_n K.1 K.2.1 dD_kindOfWord_32 rfl (lv_at hL 1 rfl) ?_
        obtain ⟨g6, h⟩ := h
        refine vb_tq (v := .ref (kd (v1.toNatClampNeg))) K.1 K.2.1 K.2.2.2.2.2.2.2.2.2.1.2.1 hS g6 rfl dD_kindOfWord_33 ?_
        exact x_kret K hr hP hS (by rw [kOf_in g6]; rfl) h dD_kindOfWord_34
set_option maxRecDepth 100000 in
set_option maxHeartbeats 4000000 in
theorem bD_kindOfWord_0 {p : Program} {l : Launch} {e : Env} {s : State} {m : MethodId} {args : Array Value} {below : List Frame} {meth : Method} {c : Code} {D : va_G} {cI cJ cC cZ cR : ClassId} {ad kd sd vd : Nat → Nat} {kA lA wA : Nat} {A : Nat → Prop} (K : Cx p (rmX 5 108) s m args meth c cD_kindOfWord 2 "WordChecker$Draft" gT D cls8 (tys5 cI cJ cC cZ cR) 64 ad A (ZX A kd sd vd kA lA wA)) (hr : meth.sig.returnType = (some (.object "WordChecker$Kind"))) (hZ : ZsOK A (ZX A kd sd vd kA lA wA)) {Φ : Int32 → HI → HL → Prop} {hi : HI} {hl : HL} {H : Heap} {locs : List Loc} (h : wbD_kindOfWord_0 hi hl Φ) {ls : Array Slot} (hL : lv_has ls 2 [(0, .ref (ad 10))]) (hP : va_P D cls8 (wl 64 ad (GX cI cJ cC cZ cR ad kd) hi hl) H) (hS : va_S A s.heap H locs) : W p l e (rmX 5 108) s m args below meth c H locs 0 0 (MQ below (va_Qk kd (fun r (u : HI × HL) => Φ r u.1 u.2) (fun u t => va_P D cls8 (wl 64 ad (GX cI cJ cC cZ cR ad kd) u.1 u.2) t.heap) A) args s 0 0 A) (F0 m 0 ls []) := by
  unfold wbD_kindOfWord_0 at h
  refine lv_iconst (v := 0) K.1 K.2.1 dD_kindOfWord_0 (by decide) ?_
  refine lv_istore_n (lv' := [(1, .int (0 : Int32)), (0, .ref (ad 10))]) K.1 K.2.1 dD_kindOfWord_1 rfl hL (by decide) rfl (fun ls hL => ?_)
  obtain ⟨fu, h⟩ := h
  exact bD_kindOfWord_2 K hr hZ h (lv_sub hL [1, 0] rfl) hP hS
set_option maxRecDepth 100000 in
set_option maxHeartbeats 4000000 in
theorem mD_kindOfWord {l : Launch} {D : va_G} {cI cJ cC cZ cR : ClassId} {ad kd sd vd : Nat → Nat} {kA lA wA : Nat} {A : Nat → Prop} (hZ : ZsOK A (ZX A kd sd vd kA lA wA)) (hD : wlD 64 ad A) {hi : HI} {hl : HL} {Φ : Int32 → HI → HL → Prop} (h : wpD_kindOfWord hi hl Φ) : SpK kd l yD_kindOfWord cD_kindOfWord 2 (some (.object "WordChecker$Kind")) gT 5 108 [.ref (ad 10)] D cls8 (tys5 cI cJ cC cZ cR) 64 ad (GX cI cJ cC cZ cR ad kd) A (ZX A kd sd vd kA lA wA) hi hl Φ := by
  refine Met.ofW (cc := cD_kindOfWord) (maxL := 2) (ret := (some (.object "WordChecker$Kind"))) (by decide) rfl ?_
  intro p e s m args below meth c s₁ B hml hv
  obtain ⟨rfl, hP, hK, hZs⟩ := hv
  have K : Cx p (rmX 5 108) s m _ meth c cD_kindOfWord 2 "WordChecker$Draft" gT D cls8 (tys5 cI cJ cC cZ cR) 64 ad A (ZX A kd sd vd kA lA wA) := ⟨B.exec, B.bytes, hml, findClass_of_methodNamed B.named, fun w hw => atoms_spec B.pre w (List.mem_cons_of_mem _ hw), B.notSynchronized, hK, hD, hZs⟩
  have hL := lv_entry ([.ref (ad 10)]) (n := 2) (Nat.le_of_ble_eq_true rfl)
  rw [lg_entry_eq]
  generalize (lg_sl ([.ref (ad 10)]) ++ List.replicate (2 - (lg_sl ([.ref (ad 10)])).length) Slot.unset).toArray = ls at hL ⊢
  have hL : lv_has ls 2 [(0, .ref (ad 10))] := hL
  unfold wpD_kindOfWord at h
  exact bD_kindOfWord_0 K B.returns hZ h (lv_sub hL [0] rfl) hP va_S.rf
set_option maxRecDepth 100000 in
set_option maxHeartbeats 4000000 in
theorem bD_sortLineFault_42 {p : Program} {l : Launch} {e : Env} {s : State} {m : MethodId} {args : Array Value} {below : List Frame} {meth : Method} {c : Code} {D : va_G} {cI cJ cC cZ cR : ClassId} {ad kd sd vd : Nat → Nat} {kA lA wA : Nat} {A : Nat → Prop} (K : Cx p (rmX 5 108) s m args meth c cD_sortLineFault 2 "WordChecker$Draft" gT D cls8 (tys5 cI cJ cC cZ cR) 64 ad A (ZX A kd sd vd kA lA wA)) (hr : meth.sig.returnType = (some .int)) (hZ : ZsOK A (ZX A kd sd vd kA lA wA)) {Φ : Int32 → HI → HL → Prop} {hi : HI} {hl : HL} {H : Heap} {locs : List Loc} (h : wbD_sortLineFault_42 hi hl Φ) {ls : Array Slot} (hL : lv_has ls 2 []) (hP : va_P D cls8 (wl 64 ad (GX cI cJ cC cZ cR ad kd) hi hl) H) (hS : va_S A s.heap H locs) : W p l e (rmX 5 108) s m args below meth c H locs 0 0 (MQ below (va_Qi (fun r (u : HI × HL) => Φ r u.1 u.2) (fun u t => va_P D cls8 (wl 64 ad (GX cI cJ cC cZ cR ad kd) u.1 u.2) t.heap) A) args s 0 0 A) (F0 m 42 ls []) := by
  unfold wbD_sortLineFault_42 at h
  refine lv_iconst (v := 3) K.1 K.2.1 dD_sortLineFault_42 (by decide) ?_
  refine lv_goto (tgt := 51) K.1 K.2.1 dD_sortLineFault_43 rfl ?_
  exact x_iret K hr hP hS h dD_sortLineFault_51
set_option maxRecDepth 100000 in
set_option maxHeartbeats 4000000 in
theorem bD_sortLineFault_0 {p : Program} {l : Launch} {e : Env} {s : State} {m : MethodId} {args : Array Value} {below : List Frame} {meth : Method} {c : Code} {D : va_G} {cI cJ cC cZ cR : ClassId} {ad kd sd vd : Nat → Nat} {kA lA wA : Nat} {A : Nat → Prop} (K : Cx p (rmX 5 108) s m args meth c cD_sortLineFault 2 "WordChecker$Draft" gT D cls8 (tys5 cI cJ cC cZ cR) 64 ad A (ZX A kd sd vd kA lA wA)) (hr : meth.sig.returnType = (some .int)) (hZ : ZsOK A (ZX A kd sd vd kA lA wA)) {Φ : Int32 → HI → HL → Prop} {hi : HI} {hl : HL} {H : Heap} {locs : List Loc} (h : wbD_sortLineFault_0 hi hl Φ) {ls : Array Slot} (hL : lv_has ls 2 [(0, .ref (ad 10))]) (hP : va_P D cls8 (wl 64 ad (GX cI cJ cC cZ cR ad kd) hi hl) H) (hS : va_S A s.heap H locs) : W p l e (rmX 5 108) s m args below meth c H locs 0 0 (MQ below (va_Qi (fun r (u : HI × HL) => Φ r u.1 u.2) (fun u t => va_P D cls8 (wl 64 ad (GX cI cJ cC cZ cR ad kd) u.1 u.2) t.heap) A) args s 0 0 A) (F0 m 0 ls []) := by
  unfold wbD_sortLineFault_0 at h
  refine lv_aload_n K.1 K.2.1 dD_sortLineFault_0 rfl (lv_at hL 0 rfl) ?_
  refine x_get (v := .ref (ad 1)) K hP hinD (ci := 3) rfl 10 (by decide) rfl 0 (by decide) flD_19 rfl rfl dD_sortLineFault_1 ?_
  refine lv_iconst (v := 2) K.1 K.2.1 dD_sortLineFault_4 (by decide) ?_
  refine va_ldcS K.1 K.2.1 K.2.2.2.1 K.2.2.2.2.2.2.2.2.2.2.2.2.1 dD_sortLineFault_5 ?_
  refine x_cVI (As := [.int (2 : Int32), .ref (sd 62)]) (rest := []) K gT_good hZ hP hS calT_isWord mlD_97 1 (by decide) rfl rfl (mT_isWord hZ K.2.2.2.2.2.2.2.1 h) ⟨Nat.le_of_ble_eq_true rfl, Nat.le_of_ble_eq_true rfl⟩ rfl hL.1 rfl (Nat.le_of_ble_eq_true rfl) dD_sortLineFault_7 (fun r1 hi2 hl3 H locs h hP hS => ?_)
  refine lv_if_eq (tgt := 52) K.1 K.2.1 dD_sortLineFault_10 rfl (fun hc => ?_) (fun hc => ?_)
  · have h := h.1 hc
    refine lv_aload_n K.1 K.2.1 dD_sortLineFault_52 rfl (lv_at hL 0 rfl) ?_
    refine x_get (v := .ref (ad 1)) K hP hinD (ci := 3) rfl 10 (by decide) rfl 0 (by decide) flD_19 rfl rfl dD_sortLineFault_53 ?_
    refine lv_iconst (v := 2) K.1 K.2.1 dD_sortLineFault_56 (by decide) ?_
    refine va_ldcS K.1 K.2.1 K.2.2.2.1 K.2.2.2.2.2.2.2.2.2.2.2.2.2 dD_sortLineFault_57 ?_
    refine x_cVI (As := [.int (2 : Int32), .ref (sd 63)]) (rest := []) K gT_good hZ hP hS calT_isWord mlD_97 1 (by decide) rfl rfl (mT_isWord hZ K.2.2.2.2.2.2.2.1 h) ⟨Nat.le_of_ble_eq_true rfl, Nat.le_of_ble_eq_true rfl⟩ rfl hL.1 rfl (Nat.le_of_ble_eq_true rfl) dD_sortLineFault_59 (fun r4 hi5 hl6 H locs h hP hS => ?_)
    refine lv_if_ne (tgt := 67) K.1 K.2.1 dD_sortLineFault_62 rfl (fun hc => ?_) (fun hc => ?_)
    · have h := h.2 hc
      refine lv_aload_n K.1 K.2.1 dD_sortLineFault_67 rfl (lv_at hL 0 rfl) ?_
      refine x_get (v := .ref (ad 5)) K hP hinD (ci := 3) rfl 10 (by decide) rfl 1 (by decide) flD_23 rfl rfl dD_sortLineFault_68 ?_
      refine lv_aload_n K.1 K.2.1 dD_sortLineFault_71 rfl (lv_at hL 0 rfl) ?_
      refine x_get (v := .ref (ad 1)) K hP hinD (ci := 3) rfl 10 (by decide) rfl 0 (by decide) flD_19 rfl rfl dD_sortLineFault_72 ?_
      refine lv_iconst (v := 3) K.1 K.2.1 dD_sortLineFault_75 (by decide) ?_
      refine lv_iconst (v := 0) K.1 K.2.1 dD_sortLineFault_76 (by decide) ?_
      refine x_cVI (As := [.int (3 : Int32), .int (0 : Int32)]) (rest := [.ref (ad 5)]) K gT_good hZ hP hS calT_number mlD_31 1 (by decide) rfl rfl (mT_number hZ K.2.2.2.2.2.2.2.1 h) ⟨Nat.le_of_ble_eq_true rfl, Nat.le_of_ble_eq_true rfl⟩ rfl hL.1 rfl (Nat.le_of_ble_eq_true rfl) dD_sortLineFault_77 (fun r7 hi8 hl9 H locs h hP hS => ?_)
      refine x_cVI (As := [.int r7]) (rest := []) K gT_good hZ hP hS calB_sortOf mlD_111 5 (by decide) rfl rfl (mB_sortOf hZ K.2.2.2.2.2.2.2.1 h) ⟨Nat.le_of_ble_eq_true rfl, Nat.le_of_ble_eq_true rfl⟩ rfl hL.1 rfl (Nat.le_of_ble_eq_true rfl) dD_sortLineFault_80 (fun r10 hi11 hl12 H locs h hP hS => ?_)
      refine lv_iconst (v := 1) K.1 K.2.1 dD_sortLineFault_83 (by decide) ?_
      refine lv_icmp_eq (tgt := 89) K.1 K.2.1 dD_sortLineFault_84 rfl (fun hc => ?_) (fun hc => ?_)
      · have h := h.1 hc
        refine lv_aload_n K.1 K.2.1 dD_sortLineFault_89 rfl (lv_at hL 0 rfl) ?_
        refine x_get (v := .ref (ad 5)) K hP hinD (ci := 3) rfl 10 (by decide) rfl 1 (by decide) flD_23 rfl rfl dD_sortLineFault_90 ?_
        refine lv_aload_n K.1 K.2.1 dD_sortLineFault_93 rfl (lv_at hL 0 rfl) ?_
        refine x_get (v := .ref (ad 1)) K hP hinD (ci := 3) rfl 10 (by decide) rfl 0 (by decide) flD_19 rfl rfl dD_sortLineFault_94 ?_
        refine lv_iconst (v := 4) K.1 K.2.1 dD_sortLineFault_97 (by decide) ?_
        refine lv_iconst (v := 0) K.1 K.2.1 dD_sortLineFault_98 (by decide) ?_
        refine x_cVI (As := [.int (4 : Int32), .int (0 : Int32)]) (rest := [.ref (ad 5)]) K gT_good hZ hP hS calT_number mlD_31 1 (by decide) rfl rfl (mT_number hZ K.2.2.2.2.2.2.2.1 h) ⟨Nat.le_of_ble_eq_true rfl, Nat.le_of_ble_eq_true rfl⟩ rfl hL.1 rfl (Nat.le_of_ble_eq_true rfl) dD_sortLineFault_99 (fun r13 hi14 hl15 H locs h hP hS => ?_)
        refine x_cVI (As := [.int r13]) (rest := []) K gT_good hZ hP hS calB_sortOf mlD_111 5 (by decide) rfl rfl (mB_sortOf hZ K.2.2.2.2.2.2.2.1 h) ⟨Nat.le_of_ble_eq_true rfl, Nat.le_of_ble_eq_true rfl⟩ rfl hL.1 rfl (Nat.le_of_ble_eq_true rfl) dD_sortLineFault_102 (fun r16 hi17 hl18 H locs h hP hS => ?_)
        refine lv_istore_n (lv' := [(1, .int r16), (0, .ref (ad 10))]) K.1 K.2.1 dD_sortLineFault_105 rfl hL (by decide) rfl (fun ls hL => ?_)
        refine lv_iload_n K.1 K.2.1 dD_sortLineFault_106 rfl (lv_at hL 0 rfl) ?_
        refine lv_iconst (v := -1) K.1 K.2.1 dD_sortLineFault_107 (by decide) ?_
        refine lv_icmp_eq (tgt := 118) K.1 K.2.1 dD_sortLineFault_108 rfl (fun hc => ?_) (fun hc => ?_)
        · have h := h.1 hc
          refine lv_iconst (v := 4) K.1 K.2.1 dD_sortLineFault_118 (by decide) ?_
          exact x_iret K hr hP hS h dD_sortLineFault_119
        · have h := h.2 hc
          refine lv_iload_n K.1 K.2.1 dD_sortLineFault_111 rfl (lv_at hL 0 rfl) ?_
          refine x_cSNI (As := [.int r16]) (rest := []) K gT_good hZ hP hS calC_isArray (mnD_114 K.2.2.2.2.2.2.2.2) (mC_isArray hZ K.2.2.2.2.2.2.2.1 h) ⟨Nat.le_of_ble_eq_true rfl, Nat.le_of_ble_eq_true rfl⟩ rfl hL.1 rfl (Nat.le_of_ble_eq_true rfl) dD_sortLineFault_112 (fun r19 hi20 hl21 H locs h hP hS => ?_)
          refine lv_if_eq (tgt := 120) K.1 K.2.1 dD_sortLineFault_115 rfl (fun hc => ?_) (fun hc => ?_)
          · have h := h.1 hc
            refine lv_aload_n K.1 K.2.1 dD_sortLineFault_120 rfl (lv_at hL 1 rfl) ?_
            refine lv_iconst (v := 4) K.1 K.2.1 dD_sortLineFault_121 (by decide) ?_
            refine lv_iload_n K.1 K.2.1 dD_sortLineFault_122 rfl (lv_at hL 0 rfl) ?_
            refine lv_iadd K.1 K.2.1 dD_sortLineFault_123 ?_
            refine x_put (v := .int ((4 : Int32) + r16)) K hP hS hinD tyD tyD_ok nmD (ci := 3) rfl 10 (by decide) rfl 4 (by decide) flD_106 rfl rfl ((4 : Int32) + r16) rfl rfl rfl (Nat.le_of_ble_eq_true rfl) dD_sortLineFault_124 (fun H locs hP hS => ?_)
            refine lv_aload_n K.1 K.2.1 dD_sortLineFault_127 rfl (lv_at hL 1 rfl) ?_
            refine lv_iconst (v := 5) K.1 K.2.1 dD_sortLineFault_128 (by decide) ?_
            refine x_cVI (As := [.int (5 : Int32)]) (rest := []) K gT_good hZ hP hS calD_faultOfLength mlD_86 10 (by decide) rfl rfl (mD_faultOfLength hZ K.2.2.2.2.2.2.2.1 h) ⟨Nat.le_of_ble_eq_true rfl, Nat.le_of_ble_eq_true rfl⟩ rfl hL.1 rfl (Nat.le_of_ble_eq_true rfl) dD_sortLineFault_129 (fun r22 hi23 hl24 H locs h hP hS => ?_)
            exact x_iret K hr hP hS h dD_sortLineFault_132
          · have h := h.2 hc
            refine lv_iconst (v := 4) K.1 K.2.1 dD_sortLineFault_118 (by decide) ?_
            exact x_iret K hr hP hS h dD_sortLineFault_119
      · have h := h.2 hc
        refine lv_iconst (v := 3) K.1 K.2.1 dD_sortLineFault_87 (by decide) ?_
        exact x_iret K hr hP hS h dD_sortLineFault_88
    · have h := h.1 hc
      refine lv_iconst (v := 2) K.1 K.2.1 dD_sortLineFault_65 (by decide) ?_
      exact x_iret K hr hP hS h dD_sortLineFault_66
  · have h := h.2 hc
    refine lv_aload_n K.1 K.2.1 dD_sortLineFault_13 rfl (lv_at hL 0 rfl) ?_
    refine lv_aload_n K.1 K.2.1 dD_sortLineFault_14 rfl (lv_at hL 0 rfl) ?_
    refine x_get (v := .ref (ad 1)) K hP hinD (ci := 3) rfl 10 (by decide) rfl 0 (by decide) flD_19 rfl rfl dD_sortLineFault_15 ?_
    refine lv_iconst (v := 3) K.1 K.2.1 dD_sortLineFault_18 (by decide) ?_
    refine lv_iconst (v := 0) K.1 K.2.1 dD_sortLineFault_19 (by decide) ?_
    refine x_cVI (As := [.int (3 : Int32), .int (0 : Int32)]) (rest := [.ref (ad 10)]) K gT_good hZ hP hS calT_number mlD_31 1 (by decide) rfl rfl (mT_number hZ K.2.2.2.2.2.2.2.1 h) ⟨Nat.le_of_ble_eq_true rfl, Nat.le_of_ble_eq_true rfl⟩ rfl hL.1 rfl (Nat.le_of_ble_eq_true rfl) dD_sortLineFault_20 (fun r25 hi26 hl27 H locs h hP hS => ?_)
    refine x_put (v := .int r25) K hP hS hinD tyD tyD_ok nmD (ci := 3) rfl 10 (by decide) rfl 4 (by decide) flD_106 rfl rfl r25 rfl rfl rfl (Nat.le_of_ble_eq_true rfl) dD_sortLineFault_23 (fun H locs hP hS => ?_)
    refine lv_aload_n K.1 K.2.1 dD_sortLineFault_26 rfl (lv_at hL 0 rfl) ?_
    refine x_get (v := .int ((u2 hi26 10 4 r25) 10 4)) K hP hinD (ci := 3) rfl 10 (by decide) rfl 4 (by decide) flD_106 rfl rfl dD_sortLineFault_27 ?_
    refine lv_iconst (v := 1) K.1 K.2.1 dD_sortLineFault_30 (by decide) ?_
    refine lv_icmp_lt (tgt := 42) K.1 K.2.1 dD_sortLineFault_31 rfl (fun hc => ?_) (fun hc => ?_)
    · have h := h.1 hc
      exact bD_sortLineFault_42 K hr hZ h (lv_sub hL [] rfl) hP hS
    · have h := h.2 hc
      refine lv_aload_n K.1 K.2.1 dD_sortLineFault_34 rfl (lv_at hL 0 rfl) ?_
      refine x_get (v := .int ((u2 hi26 10 4 r25) 10 4)) K hP hinD (ci := 3) rfl 10 (by decide) rfl 4 (by decide) flD_106 rfl rfl dD_sortLineFault_35 ?_
      refine lv_iconst (v := 3) K.1 K.2.1 dD_sortLineFault_38 (by decide) ?_
      refine lv_icmp_le (tgt := 46) K.1 K.2.1 dD_sortLineFault_39 rfl (fun hc => ?_) (fun hc => ?_)
      · have h := h.1 hc
        refine lv_aload_n K.1 K.2.1 dD_sortLineFault_46 rfl (lv_at hL 0 rfl) ?_
        refine lv_iconst (v := 4) K.1 K.2.1 dD_sortLineFault_47 (by decide) ?_
        refine x_cVI (As := [.int (4 : Int32)]) (rest := []) K gT_good hZ hP hS calD_faultOfLength mlD_86 10 (by decide) rfl rfl (mD_faultOfLength hZ K.2.2.2.2.2.2.2.1 h) ⟨Nat.le_of_ble_eq_true rfl, Nat.le_of_ble_eq_true rfl⟩ rfl hL.1 rfl (Nat.le_of_ble_eq_true rfl) dD_sortLineFault_48 (fun r28 hi29 hl30 H locs h hP hS => ?_)
        exact x_iret K hr hP hS h dD_sortLineFault_51
      · have h := h.2 hc
        exact bD_sortLineFault_42 K hr hZ h (lv_sub hL [] rfl) hP hS
set_option maxRecDepth 100000 in
set_option maxHeartbeats 4000000 in
theorem mD_sortLineFault {l : Launch} {D : va_G} {cI cJ cC cZ cR : ClassId} {ad kd sd vd : Nat → Nat} {kA lA wA : Nat} {A : Nat → Prop} (hZ : ZsOK A (ZX A kd sd vd kA lA wA)) (hD : wlD 64 ad A) {hi : HI} {hl : HL} {Φ : Int32 → HI → HL → Prop} (h : wpD_sortLineFault hi hl Φ) : SpI l yD_sortLineFault cD_sortLineFault 2 (some .int) gT 5 108 [.ref (ad 10)] D cls8 (tys5 cI cJ cC cZ cR) 64 ad (GX cI cJ cC cZ cR ad kd) A (ZX A kd sd vd kA lA wA) hi hl Φ := by
  refine Met.ofW (cc := cD_sortLineFault) (maxL := 2) (ret := (some .int)) (by decide) rfl ?_
  intro p e s m args below meth c s₁ B hml hv
  obtain ⟨rfl, hP, hK, hZs⟩ := hv
  have K : Cx p (rmX 5 108) s m _ meth c cD_sortLineFault 2 "WordChecker$Draft" gT D cls8 (tys5 cI cJ cC cZ cR) 64 ad A (ZX A kd sd vd kA lA wA) := ⟨B.exec, B.bytes, hml, findClass_of_methodNamed B.named, fun w hw => atoms_spec B.pre w (List.mem_cons_of_mem _ hw), B.notSynchronized, hK, hD, hZs⟩
  have hL := lv_entry ([.ref (ad 10)]) (n := 2) (Nat.le_of_ble_eq_true rfl)
  rw [lg_entry_eq]
  generalize (lg_sl ([.ref (ad 10)]) ++ List.replicate (2 - (lg_sl ([.ref (ad 10)])).length) Slot.unset).toArray = ls at hL ⊢
  have hL : lv_has ls 2 [(0, .ref (ad 10))] := hL
  unfold wpD_sortLineFault at h
  exact bD_sortLineFault_0 K B.returns hZ h (lv_sub hL [0] rfl) hP va_S.rf
set_option maxRecDepth 100000 in
set_option maxHeartbeats 4000000 in
theorem bD_firstFault_89 {p : Program} {l : Launch} {e : Env} {s : State} {m : MethodId} {args : Array Value} {below : List Frame} {meth : Method} {c : Code} {D : va_G} {cI cJ cC cZ cR : ClassId} {ad kd sd vd : Nat → Nat} {kA lA wA : Nat} {A : Nat → Prop} (K : Cx p (rmX 6 129) s m args meth c cD_firstFault 2 "WordChecker$Draft" gT D cls8 (tys5 cI cJ cC cZ cR) 64 ad A (ZX A kd sd vd kA lA wA)) (hr : meth.sig.returnType = (some .int)) (hZ : ZsOK A (ZX A kd sd vd kA lA wA)) {Φ : Int32 → HI → HL → Prop} {n : Nat} {v1 : Int32} {hi : HI} {hl : HL} {H : Heap} {locs : List Loc} (h : wbD_firstFault_89 n v1 hi hl Φ) {ls : Array Slot} (hL : lv_has ls 2 [(0, .ref (ad 10)), (1, .int v1)]) (hP : va_P D cls8 (wl 64 ad (GX cI cJ cC cZ cR ad kd) hi hl) H) (hS : va_S A s.heap H locs) : W p l e (rmX 6 129) s m args below meth c H locs 0 0 (MQ below (va_Qi (fun r (u : HI × HL) => Φ r u.1 u.2) (fun u t => va_P D cls8 (wl 64 ad (GX cI cJ cC cZ cR ad kd) u.1 u.2) t.heap) A) args s 0 0 A) (F0 m 89 ls []) := by
  induction n generalizing v1 hi hl ls H locs with
  | zero => exact False.elim h
  | succ n ih =>
    unfold wbD_firstFault_89 at h
    refine lv_iload_n K.1 K.2.1 dD_firstFault_89 rfl (lv_at hL 1 rfl) ?_
    refine lv_aload_n K.1 K.2.1 dD_firstFault_90 rfl (lv_at hL 0 rfl) ?_
    refine x_get (v := va_rf (kOf kd (hi 10 3))) K hP hinD (ci := 3) rfl 10 (by decide) rfl 3 (by decide) flD_50 rfl rfl dD_firstFault_91 ?_
    obtain ⟨g1, h⟩ := h
    rw [kOf_in g1]
    refine x_getON K hS (K.2.2.2.2.2.2.2.2.2.2.1 _ (in_lt g1)).2.2.2.2 (fnD_69 K.2.2.2.2.2.2.2.2) rfl dD_firstFault_94 ?_
    obtain ⟨g2, h⟩ := h
    refine x_slen (rest := [.int v1]) K hP hS g2 mlD_73 ⟨Nat.le_of_ble_eq_true rfl, Nat.le_of_ble_eq_true rfl⟩ hL.1 (Nat.le_of_ble_eq_true rfl) dD_firstFault_97 (fun H locs hP hS => ?_)
    refine lv_icmp_ge (tgt := 134) K.1 K.2.1 dD_firstFault_100 rfl (fun hc => ?_) (fun hc => ?_)
    · have h := h.1 hc
      refine lv_aload_n K.1 K.2.1 dD_firstFault_134 rfl (lv_at hL 0 rfl) ?_
      refine lv_iconst (v := 2) K.1 K.2.1 dD_firstFault_135 (by decide) ?_
      refine lv_aload_n K.1 K.2.1 dD_firstFault_136 rfl (lv_at hL 0 rfl) ?_
      refine x_get (v := va_rf (kOf kd (hi 10 3))) K hP hinD (ci := 3) rfl 10 (by decide) rfl 3 (by decide) flD_50 rfl rfl dD_firstFault_137 ?_
      obtain ⟨g3, h⟩ := h
      rw [kOf_in g3]
      refine x_getON K hS (K.2.2.2.2.2.2.2.2.2.2.1 _ (in_lt g3)).2.2.2.2 (fnD_69 K.2.2.2.2.2.2.2.2) rfl dD_firstFault_140 ?_
      obtain ⟨g4, h⟩ := h
      refine x_slen (rest := [.int (2 : Int32), .ref (ad 10)]) K hP hS g4 mlD_73 ⟨Nat.le_of_ble_eq_true rfl, Nat.le_of_ble_eq_true rfl⟩ hL.1 (Nat.le_of_ble_eq_true rfl) dD_firstFault_143 (fun H locs hP hS => ?_)
      refine lv_iadd K.1 K.2.1 dD_firstFault_146 ?_
      refine x_cVI (As := [.int ((2 : Int32) + (slenC (31 + (hi 10 3).toNatClampNeg)))]) (rest := []) K gT_good hZ hP hS calD_faultOfLength mlD_86 10 (by decide) rfl rfl (mD_faultOfLength hZ K.2.2.2.2.2.2.2.1 h) ⟨Nat.le_of_ble_eq_true rfl, Nat.le_of_ble_eq_true rfl⟩ rfl hL.1 rfl (Nat.le_of_ble_eq_true rfl) dD_firstFault_147 (fun r5 hi6 hl7 H locs h hP hS => ?_)
      exact x_iret K hr hP hS h dD_firstFault_150
    · have h := h.2 hc
      refine lv_aload_n K.1 K.2.1 dD_firstFault_103 rfl (lv_at hL 0 rfl) ?_
      refine lv_aload_n K.1 K.2.1 dD_firstFault_104 rfl (lv_at hL 0 rfl) ?_
      refine x_get (v := va_rf (kOf kd (hi 10 3))) K hP hinD (ci := 3) rfl 10 (by decide) rfl 3 (by decide) flD_50 rfl rfl dD_firstFault_105 ?_
      obtain ⟨g8, h⟩ := h
      rw [kOf_in g8]
      refine x_getON K hS (K.2.2.2.2.2.2.2.2.2.2.1 _ (in_lt g8)).2.2.2.2 (fnD_69 K.2.2.2.2.2.2.2.2) rfl dD_firstFault_108 ?_
      refine lv_iload_n K.1 K.2.1 dD_firstFault_111 rfl (lv_at hL 1 rfl) ?_
      obtain ⟨g9, h⟩ := h
      obtain ⟨g10, h⟩ := h
      refine x_schar (rest := [.ref (ad 10)]) K hP hS g9 g10 mlD_78 ⟨Nat.le_of_ble_eq_true rfl, Nat.le_of_ble_eq_true rfl⟩ hL.1 (Nat.le_of_ble_eq_true rfl) dD_firstFault_112 (fun H locs hP hS => ?_)
      refine lv_iload_n K.1 K.2.1 dD_firstFault_115 rfl (lv_at hL 1 rfl) ?_
      refine lv_iconst (v := 2) K.1 K.2.1 dD_firstFault_116 (by decide) ?_
      refine lv_iadd K.1 K.2.1 dD_firstFault_117 ?_
      refine x_cVI (As := [.int (scharC (31 + (hi 10 3).toNatClampNeg) (v1.toNatClampNeg)), .int (v1 + (2 : Int32))]) (rest := []) K gT_good hZ hP hS calD_fits mlD_82 10 (by decide) rfl rfl (mD_fits hZ K.2.2.2.2.2.2.2.1 h) ⟨Nat.le_of_ble_eq_true rfl, Nat.le_of_ble_eq_true rfl⟩ rfl hL.1 rfl (Nat.le_of_ble_eq_true rfl) dD_firstFault_118 (fun r11 hi12 hl13 H locs h hP hS => ?_)
      refine lv_if_ne (tgt := 128) K.1 K.2.1 dD_firstFault_121 rfl (fun hc => ?_) (fun hc => ?_)
      · have h := h.2 hc
        refine lv_iinc (k := 1) (lv' := [(1, .int (v1 + Int32.ofInt (1))), (0, .ref (ad 10))]) K.1 K.2.1 dD_firstFault_128 hL rfl rfl (by decide) rfl (fun ls hL => ?_)
        refine lv_goto (tgt := 89) K.1 K.2.1 dD_firstFault_131 rfl ?_
        exact ih h (lv_sub hL [1, 0] rfl) hP hS
      · have h := h.1 hc
        refine lv_iload_n K.1 K.2.1 dD_firstFault_124 rfl (lv_at hL 1 rfl) ?_
        refine lv_iconst (v := 2) K.1 K.2.1 dD_firstFault_125 (by decide) ?_
        refine lv_iadd K.1 K.2.1 dD_firstFault_126 ?_
        exact x_iret K hr hP hS h dD_firstFault_127
set_option maxRecDepth 100000 in
set_option maxHeartbeats 4000000 in
theorem bD_firstFault_72 {p : Program} {l : Launch} {e : Env} {s : State} {m : MethodId} {args : Array Value} {below : List Frame} {meth : Method} {c : Code} {D : va_G} {cI cJ cC cZ cR : ClassId} {ad kd sd vd : Nat → Nat} {kA lA wA : Nat} {A : Nat → Prop} (K : Cx p (rmX 6 129) s m args meth c cD_firstFault 2 "WordChecker$Draft" gT D cls8 (tys5 cI cJ cC cZ cR) 64 ad A (ZX A kd sd vd kA lA wA)) (hr : meth.sig.returnType = (some .int)) (hZ : ZsOK A (ZX A kd sd vd kA lA wA)) {Φ : Int32 → HI → HL → Prop} {hi : HI} {hl : HL} {H : Heap} {locs : List Loc} (h : wbD_firstFault_72 hi hl Φ) {ls : Array Slot} (hL : lv_has ls 2 [(0, .ref (ad 10))]) (hP : va_P D cls8 (wl 64 ad (GX cI cJ cC cZ cR ad kd) hi hl) H) (hS : va_S A s.heap H locs) : W p l e (rmX 6 129) s m args below meth c H locs 0 0 (MQ below (va_Qi (fun r (u : HI × HL) => Φ r u.1 u.2) (fun u t => va_P D cls8 (wl 64 ad (GX cI cJ cC cZ cR ad kd) u.1 u.2) t.heap) A) args s 0 0 A) (F0 m 72 ls []) := by
  unfold wbD_firstFault_72 at h
  refine lv_aload_n K.1 K.2.1 dD_firstFault_72 rfl (lv_at hL 0 rfl) ?_
  refine x_get (v := va_rf (kOf kd (hi 10 3))) K hP hinD (ci := 3) rfl 10 (by decide) rfl 3 (by decide) flD_50 rfl rfl dD_firstFault_73 ?_
  refine x_gets (v := .ref (kd ((0 : Int32).toNatClampNeg))) K hS (K.2.2.2.2.2.2.2.2.2.2.1 0 (by decide)).1 flD_63 dD_firstFault_76 ?_
  obtain ⟨g1, h⟩ := h
  obtain ⟨g2, h⟩ := h
  rw [kOf_in g1]
  refine x_acne (x := (hi 10 3)) (y := (0 : Int32)) (tgt := 87) K g1 g2 dD_firstFault_79 rfl (fun hc => ?_) (fun hc => ?_)
  · have h := h.2 hc
    refine lv_iconst (v := 0) K.1 K.2.1 dD_firstFault_87 (by decide) ?_
    refine lv_istore_n (lv' := [(1, .int (0 : Int32)), (0, .ref (ad 10))]) K.1 K.2.1 dD_firstFault_88 rfl hL (by decide) rfl (fun ls hL => ?_)
    obtain ⟨fu, h⟩ := h
    exact bD_firstFault_89 K hr hZ h (lv_sub hL [1, 0] rfl) hP hS
  · have h := h.1 hc
    refine lv_aload_n K.1 K.2.1 dD_firstFault_82 rfl (lv_at hL 0 rfl) ?_
    refine x_cVI (As := []) (rest := []) K gT_good hZ hP hS calD_sortLineFault mlD_66 10 (by decide) rfl rfl (mD_sortLineFault hZ K.2.2.2.2.2.2.2.1 h) ⟨Nat.le_of_ble_eq_true rfl, Nat.le_of_ble_eq_true rfl⟩ rfl hL.1 rfl (Nat.le_of_ble_eq_true rfl) dD_firstFault_83 (fun r3 hi4 hl5 H locs h hP hS => ?_)
    exact x_iret K hr hP hS h dD_firstFault_86
set_option maxRecDepth 100000 in
set_option maxHeartbeats 4000000 in
theorem bD_firstFault_0 {p : Program} {l : Launch} {e : Env} {s : State} {m : MethodId} {args : Array Value} {below : List Frame} {meth : Method} {c : Code} {D : va_G} {cI cJ cC cZ cR : ClassId} {ad kd sd vd : Nat → Nat} {kA lA wA : Nat} {A : Nat → Prop} (K : Cx p (rmX 6 129) s m args meth c cD_firstFault 2 "WordChecker$Draft" gT D cls8 (tys5 cI cJ cC cZ cR) 64 ad A (ZX A kd sd vd kA lA wA)) (hr : meth.sig.returnType = (some .int)) (hZ : ZsOK A (ZX A kd sd vd kA lA wA)) {Φ : Int32 → HI → HL → Prop} {hi : HI} {hl : HL} {H : Heap} {locs : List Loc} (h : wbD_firstFault_0 hi hl Φ) {ls : Array Slot} (hL : lv_has ls 2 [(0, .ref (ad 10))]) (hP : va_P D cls8 (wl 64 ad (GX cI cJ cC cZ cR ad kd) hi hl) H) (hS : va_S A s.heap H locs) : W p l e (rmX 6 129) s m args below meth c H locs 0 0 (MQ below (va_Qi (fun r (u : HI × HL) => Φ r u.1 u.2) (fun u t => va_P D cls8 (wl 64 ad (GX cI cJ cC cZ cR ad kd) u.1 u.2) t.heap) A) args s 0 0 A) (F0 m 0 ls []) := by
  unfold wbD_firstFault_0 at h
  refine lv_aload_n K.1 K.2.1 dD_firstFault_0 rfl (lv_at hL 0 rfl) ?_
  refine lv_iconst (v := 0) K.1 K.2.1 dD_firstFault_1 (by decide) ?_
  refine x_put (v := .int (0 : Int32)) K hP hS hinD tyD tyD_ok nmD (ci := 3) rfl 10 (by decide) rfl 7 (by decide) flD_27 rfl rfl (0 : Int32) rfl rfl rfl (Nat.le_of_ble_eq_true rfl) dD_firstFault_2 (fun H locs hP hS => ?_)
  refine lv_aload_n K.1 K.2.1 dD_firstFault_5 rfl (lv_at hL 0 rfl) ?_
  refine lv_aload_n K.1 K.2.1 dD_firstFault_6 rfl (lv_at hL 0 rfl) ?_
  refine x_get (v := .ref (ad 1)) K hP hinD (ci := 3) rfl 10 (by decide) rfl 0 (by decide) flD_19 rfl rfl dD_firstFault_7 ?_
  refine lv_iconst (v := 0) K.1 K.2.1 dD_firstFault_10 (by decide) ?_
  refine lv_iconst (v := 0) K.1 K.2.1 dD_firstFault_11 (by decide) ?_
  refine x_cVI (As := [.int (0 : Int32), .int (0 : Int32)]) (rest := [.ref (ad 10)]) K gT_good hZ hP hS calT_number mlD_31 1 (by decide) rfl rfl (mT_number hZ K.2.2.2.2.2.2.2.1 h) ⟨Nat.le_of_ble_eq_true rfl, Nat.le_of_ble_eq_true rfl⟩ rfl hL.1 rfl (Nat.le_of_ble_eq_true rfl) dD_firstFault_12 (fun r1 hi2 hl3 H locs h hP hS => ?_)
  refine x_put (v := .int r1) K hP hS hinD tyD tyD_ok nmD (ci := 3) rfl 10 (by decide) rfl 2 (by decide) flD_37 rfl rfl r1 rfl rfl rfl (Nat.le_of_ble_eq_true rfl) dD_firstFault_15 (fun H locs hP hS => ?_)
  refine lv_aload_n K.1 K.2.1 dD_firstFault_18 rfl (lv_at hL 0 rfl) ?_
  refine x_get (v := .int ((u2 hi2 10 2 r1) 10 2)) K hP hinD (ci := 3) rfl 10 (by decide) rfl 2 (by decide) flD_37 rfl rfl dD_firstFault_19 ?_
  refine lv_aload_n K.1 K.2.1 dD_firstFault_22 rfl (lv_at hL 0 rfl) ?_
  refine x_get (v := .ref (ad 5)) K hP hinD (ci := 3) rfl 10 (by decide) rfl 1 (by decide) flD_23 rfl rfl dD_firstFault_23 ?_
  refine x_cVI (As := []) (rest := [.int ((u2 hi2 10 2 r1) 10 2)]) K gT_good hZ hP hS calB_lastId mlD_40 5 (by decide) rfl rfl (mB_lastId hZ K.2.2.2.2.2.2.2.1 h) ⟨Nat.le_of_ble_eq_true rfl, Nat.le_of_ble_eq_true rfl⟩ rfl hL.1 rfl (Nat.le_of_ble_eq_true rfl) dD_firstFault_26 (fun r4 hi5 hl6 H locs h hP hS => ?_)
  refine lv_icmp_gt (tgt := 34) K.1 K.2.1 dD_firstFault_29 rfl (fun hc => ?_) (fun hc => ?_)
  · have h := h.1 hc
    refine lv_aload_n K.1 K.2.1 dD_firstFault_34 rfl (lv_at hL 0 rfl) ?_
    refine lv_aload_n K.1 K.2.1 dD_firstFault_35 rfl (lv_at hL 0 rfl) ?_
    refine x_cVK (As := []) (rest := [.ref (ad 10)]) K gT_good hZ hP hS calD_kindOfWord mlD_46 10 (by decide) rfl rfl (mD_kindOfWord hZ K.2.2.2.2.2.2.2.1 h) ⟨Nat.le_of_ble_eq_true rfl, Nat.le_of_ble_eq_true rfl⟩ rfl hL.1 rfl (Nat.le_of_ble_eq_true rfl) dD_firstFault_36 (fun r7 hi8 hl9 H locs h hP hS => ?_)
    refine x_put (v := va_rf (kOf kd r7)) K hP hS hinD tyD tyD_ok nmD (ci := 3) rfl 10 (by decide) rfl 3 (by decide) flD_50 rfl rfl r7 rfl (kOf_nar _ _) (kOf_fit _ _) (Nat.le_of_ble_eq_true rfl) dD_firstFault_39 (fun H locs hP hS => ?_)
    refine lv_aload_n K.1 K.2.1 dD_firstFault_42 rfl (lv_at hL 0 rfl) ?_
    refine x_get (v := va_rf (kOf kd ((u2 hi8 10 3 r7) 10 3))) K hP hinD (ci := 3) rfl 10 (by decide) rfl 3 (by decide) flD_50 rfl rfl dD_firstFault_43 ?_
    refine x_null (tgt := 70) K dD_firstFault_46 rfl (fun hc => ?_) (fun hc => ?_)
    · have h := h.1 hc
      refine lv_iconst (v := 1) K.1 K.2.1 dD_firstFault_70 (by decide) ?_
      exact x_iret K hr hP hS h dD_firstFault_71
    · have h := h.2 hc
      refine lv_aload_n K.1 K.2.1 dD_firstFault_49 rfl (lv_at hL 0 rfl) ?_
      refine x_get (v := va_rf (kOf kd ((u2 hi8 10 3 r7) 10 3))) K hP hinD (ci := 3) rfl 10 (by decide) rfl 3 (by decide) flD_50 rfl rfl dD_firstFault_50 ?_
      obtain ⟨g10, h⟩ := h
      rw [kOf_in g10]
      refine x_cRI (As := []) (rest := []) K gT_good hZ hP hS calK_isHard mlD_54 (K.2.2.2.2.2.2.2.2.2.2.1 _ (in_lt g10)).2.1 (mK_isHard hZ K.2.2.2.2.2.2.2.1 h) ⟨Nat.le_of_ble_eq_true rfl, Nat.le_of_ble_eq_true rfl⟩ rfl hL.1 rfl (Nat.le_of_ble_eq_true rfl) dD_firstFault_53 (fun r11 hi12 hl13 H locs h hP hS => ?_)
      refine lv_if_eq (tgt := 72) K.1 K.2.1 dD_firstFault_56 rfl (fun hc => ?_) (fun hc => ?_)
      · have h := h.1 hc
        exact bD_firstFault_72 K hr hZ h (lv_sub hL [0] rfl) hP hS
      · have h := h.2 hc
        refine lv_aload_n K.1 K.2.1 dD_firstFault_59 rfl (lv_at hL 0 rfl) ?_
        refine x_get (v := .ref (ad 5)) K hP hinD (ci := 3) rfl 10 (by decide) rfl 1 (by decide) flD_23 rfl rfl dD_firstFault_60 ?_
        refine x_getN (v := .int (hi12 5 5)) K hP hinB (ci := 2) rfl 5 (by decide) rfl 5 (by decide) (fnD_60 K.2.2.2.2.2.2.2.2) rfl rfl dD_firstFault_63 ?_
        refine lv_iconst (v := 2) K.1 K.2.1 dD_firstFault_66 (by decide) ?_
        refine lv_icmp_lt (tgt := 72) K.1 K.2.1 dD_firstFault_67 rfl (fun hc => ?_) (fun hc => ?_)
        · have h := h.1 hc
          exact bD_firstFault_72 K hr hZ h (lv_sub hL [0] rfl) hP hS
        · have h := h.2 hc
          refine lv_iconst (v := 1) K.1 K.2.1 dD_firstFault_70 (by decide) ?_
          exact x_iret K hr hP hS h dD_firstFault_71
  · have h := h.2 hc
    refine lv_iconst (v := 0) K.1 K.2.1 dD_firstFault_32 (by decide) ?_
    exact x_iret K hr hP hS h dD_firstFault_33
set_option maxRecDepth 100000 in
set_option maxHeartbeats 4000000 in
theorem mD_firstFault {l : Launch} {D : va_G} {cI cJ cC cZ cR : ClassId} {ad kd sd vd : Nat → Nat} {kA lA wA : Nat} {A : Nat → Prop} (hZ : ZsOK A (ZX A kd sd vd kA lA wA)) (hD : wlD 64 ad A) {hi : HI} {hl : HL} {Φ : Int32 → HI → HL → Prop} (h : wpD_firstFault hi hl Φ) : SpI l yD_firstFault cD_firstFault 2 (some .int) gT 6 129 [.ref (ad 10)] D cls8 (tys5 cI cJ cC cZ cR) 64 ad (GX cI cJ cC cZ cR ad kd) A (ZX A kd sd vd kA lA wA) hi hl Φ := by
  refine Met.ofW (cc := cD_firstFault) (maxL := 2) (ret := (some .int)) (by decide) rfl ?_
  intro p e s m args below meth c s₁ B hml hv
  obtain ⟨rfl, hP, hK, hZs⟩ := hv
  have K : Cx p (rmX 6 129) s m _ meth c cD_firstFault 2 "WordChecker$Draft" gT D cls8 (tys5 cI cJ cC cZ cR) 64 ad A (ZX A kd sd vd kA lA wA) := ⟨B.exec, B.bytes, hml, findClass_of_methodNamed B.named, fun w hw => atoms_spec B.pre w (List.mem_cons_of_mem _ hw), B.notSynchronized, hK, hD, hZs⟩
  have hL := lv_entry ([.ref (ad 10)]) (n := 2) (Nat.le_of_ble_eq_true rfl)
  rw [lg_entry_eq]
  generalize (lg_sl ([.ref (ad 10)]) ++ List.replicate (2 - (lg_sl ([.ref (ad 10)])).length) Slot.unset).toArray = ls at hL ⊢
  have hL : lv_has ls 2 [(0, .ref (ad 10))] := hL
  unfold wpD_firstFault at h
  exact bD_firstFault_0 K B.returns hZ h (lv_sub hL [0] rfl) hP va_S.rf
set_option maxRecDepth 100000 in
set_option maxHeartbeats 4000000 in
theorem bS_drop_0 {p : Program} {l : Launch} {e : Env} {s : State} {m : MethodId} {args : Array Value} {below : List Frame} {meth : Method} {c : Code} {D : va_G} {cI cJ cC cZ cR : ClassId} {ad kd sd vd : Nat → Nat} {kA lA wA : Nat} {A : Nat → Prop} (K : Cx p (rmX 0 0) s m args meth c cS_drop 1 "WordChecker$Search" gT D cls8 (tys5 cI cJ cC cZ cR) 64 ad A (ZX A kd sd vd kA lA wA)) (hr : meth.sig.returnType = none) (hZ : ZsOK A (ZX A kd sd vd kA lA wA)) {Φ : HI → HL → Prop} {hi : HI} {hl : HL} {H : Heap} {locs : List Loc} (h : wbS_drop_0 hi hl Φ) {ls : Array Slot} (hL : lv_has ls 1 [(0, .ref (ad 20))]) (hP : va_P D cls8 (wl 64 ad (GX cI cJ cC cZ cR ad kd) hi hl) H) (hS : va_S A s.heap H locs) : W p l e (rmX 0 0) s m args below meth c H locs 0 0 (MQ below (va_Qv (fun (u : HI × HL) => Φ u.1 u.2) (fun u t => va_P D cls8 (wl 64 ad (GX cI cJ cC cZ cR ad kd) u.1 u.2) t.heap) A) args s 0 0 A) (F0 m 0 ls []) := by
  unfold wbS_drop_0 at h
  refine lv_aload_n K.1 K.2.1 dS_drop_0 rfl (lv_at hL 0 rfl) ?_
  refine lv_iconst (v := 0) K.1 K.2.1 dS_drop_1 (by decide) ?_
  refine x_put (v := .int (0 : Int32)) K hP hS hinS tyS tyS_ok nmS (ci := 5) rfl 20 (by decide) rfl 4 (by decide) flS_26 rfl rfl (0 : Int32) rfl rfl rfl (Nat.le_of_ble_eq_true rfl) dS_drop_2 (fun H locs hP hS => ?_)
  exact x_vret K hr hP hS h dS_drop_5
set_option maxRecDepth 100000 in
set_option maxHeartbeats 4000000 in
theorem mS_drop {l : Launch} {D : va_G} {cI cJ cC cZ cR : ClassId} {ad kd sd vd : Nat → Nat} {kA lA wA : Nat} {A : Nat → Prop} (hZ : ZsOK A (ZX A kd sd vd kA lA wA)) (hD : wlD 64 ad A) {hi : HI} {hl : HL} {Φ : HI → HL → Prop} (h : wpS_drop hi hl Φ) : SpV l yS_drop cS_drop 1 none gT 0 0 [.ref (ad 20)] D cls8 (tys5 cI cJ cC cZ cR) 64 ad (GX cI cJ cC cZ cR ad kd) A (ZX A kd sd vd kA lA wA) hi hl Φ := by
  refine Met.ofW (cc := cS_drop) (maxL := 1) (ret := none) (by decide) rfl ?_
  intro p e s m args below meth c s₁ B hml hv
  obtain ⟨rfl, hP, hK, hZs⟩ := hv
  have K : Cx p (rmX 0 0) s m _ meth c cS_drop 1 "WordChecker$Search" gT D cls8 (tys5 cI cJ cC cZ cR) 64 ad A (ZX A kd sd vd kA lA wA) := ⟨B.exec, B.bytes, hml, findClass_of_methodNamed B.named, fun w hw => atoms_spec B.pre w (List.mem_cons_of_mem _ hw), B.notSynchronized, hK, hD, hZs⟩
  have hL := lv_entry ([.ref (ad 20)]) (n := 1) (Nat.le_of_ble_eq_true rfl)
  rw [lg_entry_eq]
  generalize (lg_sl ([.ref (ad 20)]) ++ List.replicate (1 - (lg_sl ([.ref (ad 20)])).length) Slot.unset).toArray = ls at hL ⊢
  have hL : lv_has ls 1 [(0, .ref (ad 20))] := hL
  unfold wpS_drop at h
  exact bS_drop_0 K B.returns hZ h (lv_sub hL [0] rfl) hP va_S.rf
set_option maxRecDepth 100000 in
set_option maxHeartbeats 4000000 in
theorem bT_clear_0 {p : Program} {l : Launch} {e : Env} {s : State} {m : MethodId} {args : Array Value} {below : List Frame} {meth : Method} {c : Code} {D : va_G} {cI cJ cC cZ cR : ClassId} {ad kd sd vd : Nat → Nat} {kA lA wA : Nat} {A : Nat → Prop} (K : Cx p (rmX 0 0) s m args meth c cT_clear 1 "WordChecker$Text" gT D cls8 (tys5 cI cJ cC cZ cR) 64 ad A (ZX A kd sd vd kA lA wA)) (hr : meth.sig.returnType = none) (hZ : ZsOK A (ZX A kd sd vd kA lA wA)) {Φ : HI → HL → Prop} {hi : HI} {hl : HL} {H : Heap} {locs : List Loc} (h : wbT_clear_0 hi hl Φ) {ls : Array Slot} (hL : lv_has ls 1 [(0, .ref (ad 1))]) (hP : va_P D cls8 (wl 64 ad (GX cI cJ cC cZ cR ad kd) hi hl) H) (hS : va_S A s.heap H locs) : W p l e (rmX 0 0) s m args below meth c H locs 0 0 (MQ below (va_Qv (fun (u : HI × HL) => Φ u.1 u.2) (fun u t => va_P D cls8 (wl 64 ad (GX cI cJ cC cZ cR ad kd) u.1 u.2) t.heap) A) args s 0 0 A) (F0 m 0 ls []) := by
  unfold wbT_clear_0 at h
  refine lv_aload_n K.1 K.2.1 dT_clear_0 rfl (lv_at hL 0 rfl) ?_
  refine lv_iconst (v := 0) K.1 K.2.1 dT_clear_1 (by decide) ?_
  refine x_put (v := .int (0 : Int32)) K hP hS hinT tyT tyT_ok nmT (ci := 1) rfl 1 (by decide) rfl 3 (by decide) flT_22 rfl rfl (0 : Int32) rfl rfl rfl (Nat.le_of_ble_eq_true rfl) dT_clear_2 (fun H locs hP hS => ?_)
  refine lv_aload_n K.1 K.2.1 dT_clear_5 rfl (lv_at hL 0 rfl) ?_
  refine lv_iconst (v := 0) K.1 K.2.1 dT_clear_6 (by decide) ?_
  refine x_put (v := .int (0 : Int32)) K hP hS hinT tyT tyT_ok nmT (ci := 1) rfl 1 (by decide) rfl 4 (by decide) flT_30 rfl rfl (0 : Int32) rfl rfl rfl (Nat.le_of_ble_eq_true rfl) dT_clear_7 (fun H locs hP hS => ?_)
  exact x_vret K hr hP hS h dT_clear_10
set_option maxRecDepth 100000 in
set_option maxHeartbeats 4000000 in
theorem mT_clear {l : Launch} {D : va_G} {cI cJ cC cZ cR : ClassId} {ad kd sd vd : Nat → Nat} {kA lA wA : Nat} {A : Nat → Prop} (hZ : ZsOK A (ZX A kd sd vd kA lA wA)) (hD : wlD 64 ad A) {hi : HI} {hl : HL} {Φ : HI → HL → Prop} (h : wpT_clear hi hl Φ) : SpV l yT_clear cT_clear 1 none gT 0 0 [.ref (ad 1)] D cls8 (tys5 cI cJ cC cZ cR) 64 ad (GX cI cJ cC cZ cR ad kd) A (ZX A kd sd vd kA lA wA) hi hl Φ := by
  refine Met.ofW (cc := cT_clear) (maxL := 1) (ret := none) (by decide) rfl ?_
  intro p e s m args below meth c s₁ B hml hv
  obtain ⟨rfl, hP, hK, hZs⟩ := hv
  have K : Cx p (rmX 0 0) s m _ meth c cT_clear 1 "WordChecker$Text" gT D cls8 (tys5 cI cJ cC cZ cR) 64 ad A (ZX A kd sd vd kA lA wA) := ⟨B.exec, B.bytes, hml, findClass_of_methodNamed B.named, fun w hw => atoms_spec B.pre w (List.mem_cons_of_mem _ hw), B.notSynchronized, hK, hD, hZs⟩
  have hL := lv_entry ([.ref (ad 1)]) (n := 1) (Nat.le_of_ble_eq_true rfl)
  rw [lg_entry_eq]
  generalize (lg_sl ([.ref (ad 1)]) ++ List.replicate (1 - (lg_sl ([.ref (ad 1)])).length) Slot.unset).toArray = ls at hL ⊢
  have hL : lv_has ls 1 [(0, .ref (ad 1))] := hL
  unfold wpT_clear at h
  exact bT_clear_0 K B.returns hZ h (lv_sub hL [0] rfl) hP va_S.rf
set_option maxRecDepth 100000 in
set_option maxHeartbeats 4000000 in
theorem bT_split_114 {p : Program} {l : Launch} {e : Env} {s : State} {m : MethodId} {args : Array Value} {below : List Frame} {meth : Method} {c : Code} {D : va_G} {cI cJ cC cZ cR : ClassId} {ad kd sd vd : Nat → Nat} {kA lA wA : Nat} {A : Nat → Prop} (K : Cx p (rmX 0 0) s m args meth c cT_split 3 "WordChecker$Text" gT D cls8 (tys5 cI cJ cC cZ cR) 64 ad A (ZX A kd sd vd kA lA wA)) (hr : meth.sig.returnType = none) (hZ : ZsOK A (ZX A kd sd vd kA lA wA)) {Φ : HI → HL → Prop} {k7 : Int32 → HI → HL → Prop} (hk7 : ∀ (v1 : Int32) (hi : HI) (hl : HL) (ls : Array Slot) (H : Heap) (locs : List Loc), k7 v1 hi hl → lv_has ls 3 [(0, .ref (ad 1)), (1, .int v1)] → va_P D cls8 (wl 64 ad (GX cI cJ cC cZ cR ad kd) hi hl) H → va_S A s.heap H locs → W p l e (rmX 0 0) s m args below meth c H locs 0 0 (MQ below (va_Qv (fun (u : HI × HL) => Φ u.1 u.2) (fun u t => va_P D cls8 (wl 64 ad (GX cI cJ cC cZ cR ad kd) u.1 u.2) t.heap) A) args s 0 0 A) (F0 m 7 ls [])) {v1 : Int32} {hi : HI} {hl : HL} {H : Heap} {locs : List Loc} (h : wbT_split_114 k7 v1 hi hl Φ) {ls : Array Slot} (hL : lv_has ls 3 [(0, .ref (ad 1)), (1, .int v1)]) (hP : va_P D cls8 (wl 64 ad (GX cI cJ cC cZ cR ad kd) hi hl) H) (hS : va_S A s.heap H locs) : W p l e (rmX 0 0) s m args below meth c H locs 0 0 (MQ below (va_Qv (fun (u : HI × HL) => Φ u.1 u.2) (fun u t => va_P D cls8 (wl 64 ad (GX cI cJ cC cZ cR ad kd) u.1 u.2) t.heap) A) args s 0 0 A) (F0 m 114 ls []) := by
  unfold wbT_split_114 at h
  refine lv_iinc (k := 1) (lv' := [(1, .int (v1 + Int32.ofInt (1))), (0, .ref (ad 1))]) K.1 K.2.1 dT_split_114 hL rfl rfl (by decide) rfl (fun ls hL => ?_)
  refine lv_goto (tgt := 7) K.1 K.2.1 dT_split_117 rfl ?_
  exact hk7 _ _ _ _ _ _ h (lv_sub hL [1, 0] rfl) hP hS
set_option maxRecDepth 100000 in
set_option maxHeartbeats 4000000 in
theorem bT_split_82 {p : Program} {l : Launch} {e : Env} {s : State} {m : MethodId} {args : Array Value} {below : List Frame} {meth : Method} {c : Code} {D : va_G} {cI cJ cC cZ cR : ClassId} {ad kd sd vd : Nat → Nat} {kA lA wA : Nat} {A : Nat → Prop} (K : Cx p (rmX 0 0) s m args meth c cT_split 3 "WordChecker$Text" gT D cls8 (tys5 cI cJ cC cZ cR) 64 ad A (ZX A kd sd vd kA lA wA)) (hr : meth.sig.returnType = none) (hZ : ZsOK A (ZX A kd sd vd kA lA wA)) {Φ : HI → HL → Prop} {k7 : Int32 → HI → HL → Prop} (hk7 : ∀ (v1 : Int32) (hi : HI) (hl : HL) (ls : Array Slot) (H : Heap) (locs : List Loc), k7 v1 hi hl → lv_has ls 3 [(0, .ref (ad 1)), (1, .int v1)] → va_P D cls8 (wl 64 ad (GX cI cJ cC cZ cR ad kd) hi hl) H → va_S A s.heap H locs → W p l e (rmX 0 0) s m args below meth c H locs 0 0 (MQ below (va_Qv (fun (u : HI × HL) => Φ u.1 u.2) (fun u t => va_P D cls8 (wl 64 ad (GX cI cJ cC cZ cR ad kd) u.1 u.2) t.heap) A) args s 0 0 A) (F0 m 7 ls [])) {v1 : Int32} {hi : HI} {hl : HL} {H : Heap} {locs : List Loc} (h : wbT_split_82 k7 v1 hi hl Φ) {ls : Array Slot} (hL : lv_has ls 3 [(0, .ref (ad 1)), (1, .int v1)]) (hP : va_P D cls8 (wl 64 ad (GX cI cJ cC cZ cR ad kd) hi hl) H) (hS : va_S A s.heap H locs) : W p l e (rmX 0 0) s m args below meth c H locs 0 0 (MQ below (va_Qv (fun (u : HI × HL) => Φ u.1 u.2) (fun u t => va_P D cls8 (wl 64 ad (GX cI cJ cC cZ cR ad kd) u.1 u.2) t.heap) A) args s 0 0 A) (F0 m 82 ls []) := by
  unfold wbT_split_82 at h
  refine lv_aload_n K.1 K.2.1 dT_split_82 rfl (lv_at hL 0 rfl) ?_
  refine x_get (v := .ref (ad 2)) K hP hinT (ci := 1) rfl 1 (by decide) rfl 0 (by decide) flT_9 rfl rfl dT_split_83 ?_
  refine lv_iload_n K.1 K.2.1 dT_split_86 rfl (lv_at hL 1 rfl) ?_
  obtain ⟨g1, h⟩ := h
  refine x_cald K hP 2 (by decide) 2 rfl rfl g1 dT_split_87 ?_
  refine lv_bipush (v := 32) K.1 K.2.1 dT_split_88 (by decide) ?_
  refine lv_icmp_eq (tgt := 114) K.1 K.2.1 dT_split_90 rfl (fun hc => ?_) (fun hc => ?_)
  · have h := h.1 hc
    exact bT_split_114 K hr hZ hk7 h (lv_sub hL [0, 1] rfl) hP hS
  · have h := h.2 hc
    refine lv_aload_n K.1 K.2.1 dT_split_93 rfl (lv_at hL 0 rfl) ?_
    refine x_get (v := .int (hi 1 4)) K hP hinT (ci := 1) rfl 1 (by decide) rfl 4 (by decide) flT_30 rfl rfl dT_split_94 ?_
    refine lv_if_le (tgt := 114) K.1 K.2.1 dT_split_97 rfl (fun hc => ?_) (fun hc => ?_)
    · have h := h.1 hc
      exact bT_split_114 K hr hZ hk7 h (lv_sub hL [0, 1] rfl) hP hS
    · have h := h.2 hc
      refine lv_aload_n K.1 K.2.1 dT_split_100 rfl (lv_at hL 0 rfl) ?_
      refine x_get (v := .ref (ad 4)) K hP hinT (ci := 1) rfl 1 (by decide) rfl 2 (by decide) flT_19 rfl rfl dT_split_101 ?_
      refine lv_aload_n K.1 K.2.1 dT_split_104 rfl (lv_at hL 0 rfl) ?_
      refine x_get (v := .int (hi 1 4)) K hP hinT (ci := 1) rfl 1 (by decide) rfl 4 (by decide) flT_30 rfl rfl dT_split_105 ?_
      refine lv_iconst (v := 1) K.1 K.2.1 dT_split_108 (by decide) ?_
      refine lv_isub K.1 K.2.1 dT_split_109 ?_
      refine lv_iload_n K.1 K.2.1 dT_split_110 rfl (lv_at hL 1 rfl) ?_
      refine lv_iconst (v := 1) K.1 K.2.1 dT_split_111 (by decide) ?_
      refine lv_iadd K.1 K.2.1 dT_split_112 ?_
      obtain ⟨g2, h⟩ := h
      refine x_iast K hP hS 4 (by decide) 0 (fun _ => rfl) rfl g2 dT_split_113 (fun H locs hP hS => ?_)
      exact bT_split_114 K hr hZ hk7 h (lv_sub hL [0, 1] rfl) hP hS
set_option maxRecDepth 100000 in
set_option maxHeartbeats 4000000 in
theorem bT_split_48 {p : Program} {l : Launch} {e : Env} {s : State} {m : MethodId} {args : Array Value} {below : List Frame} {meth : Method} {c : Code} {D : va_G} {cI cJ cC cZ cR : ClassId} {ad kd sd vd : Nat → Nat} {kA lA wA : Nat} {A : Nat → Prop} (K : Cx p (rmX 0 0) s m args meth c cT_split 3 "WordChecker$Text" gT D cls8 (tys5 cI cJ cC cZ cR) 64 ad A (ZX A kd sd vd kA lA wA)) (hr : meth.sig.returnType = none) (hZ : ZsOK A (ZX A kd sd vd kA lA wA)) {Φ : HI → HL → Prop} {k7 : Int32 → HI → HL → Prop} (hk7 : ∀ (v1 : Int32) (hi : HI) (hl : HL) (ls : Array Slot) (H : Heap) (locs : List Loc), k7 v1 hi hl → lv_has ls 3 [(0, .ref (ad 1)), (1, .int v1)] → va_P D cls8 (wl 64 ad (GX cI cJ cC cZ cR ad kd) hi hl) H → va_S A s.heap H locs → W p l e (rmX 0 0) s m args below meth c H locs 0 0 (MQ below (va_Qv (fun (u : HI × HL) => Φ u.1 u.2) (fun u t => va_P D cls8 (wl 64 ad (GX cI cJ cC cZ cR ad kd) u.1 u.2) t.heap) A) args s 0 0 A) (F0 m 7 ls [])) {v1 : Int32} {q0 : Int32} {hi : HI} {hl : HL} {H : Heap} {locs : List Loc} (h : wbT_split_48 k7 v1 q0 hi hl Φ) {ls : Array Slot} (hL : lv_has ls 3 [(0, .ref (ad 1)), (1, .int v1)]) (hP : va_P D cls8 (wl 64 ad (GX cI cJ cC cZ cR ad kd) hi hl) H) (hS : va_S A s.heap H locs) : W p l e (rmX 0 0) s m args below meth c H locs 0 0 (MQ below (va_Qv (fun (u : HI × HL) => Φ u.1 u.2) (fun u t => va_P D cls8 (wl 64 ad (GX cI cJ cC cZ cR ad kd) u.1 u.2) t.heap) A) args s 0 0 A) (F0 m 48 ls [.int q0]) := by
  unfold wbT_split_48 at h
  refine lv_istore_n (lv' := [(2, .int q0), (0, .ref (ad 1)), (1, .int v1)]) K.1 K.2.1 dT_split_48 rfl hL (by decide) rfl (fun ls hL => ?_)
  refine lv_iload_n K.1 K.2.1 dT_split_49 rfl (lv_at hL 0 rfl) ?_
  refine lv_if_eq (tgt := 82) K.1 K.2.1 dT_split_50 rfl (fun hc => ?_) (fun hc => ?_)
  · have h := h.1 hc
    exact bT_split_82 K hr hZ hk7 h (lv_sub hL [1, 2] rfl) hP hS
  · have h := h.2 hc
    refine lv_aload_n K.1 K.2.1 dT_split_53 rfl (lv_at hL 1 rfl) ?_
    refine x_get (v := .int (hi 1 4)) K hP hinT (ci := 1) rfl 1 (by decide) rfl 4 (by decide) flT_30 rfl rfl dT_split_54 ?_
    refine lv_bipush (v := 20) K.1 K.2.1 dT_split_57 (by decide) ?_
    refine lv_icmp_ge (tgt := 82) K.1 K.2.1 dT_split_59 rfl (fun hc => ?_) (fun hc => ?_)
    · have h := h.1 hc
      exact bT_split_82 K hr hZ hk7 h (lv_sub hL [1, 2] rfl) hP hS
    · have h := h.2 hc
      refine lv_aload_n K.1 K.2.1 dT_split_62 rfl (lv_at hL 1 rfl) ?_
      refine x_get (v := .ref (ad 3)) K hP hinT (ci := 1) rfl 1 (by decide) rfl 1 (by decide) flT_15 rfl rfl dT_split_63 ?_
      refine lv_aload_n K.1 K.2.1 dT_split_66 rfl (lv_at hL 1 rfl) ?_
      refine x_get (v := .int (hi 1 4)) K hP hinT (ci := 1) rfl 1 (by decide) rfl 4 (by decide) flT_30 rfl rfl dT_split_67 ?_
      refine lv_iload_n K.1 K.2.1 dT_split_70 rfl (lv_at hL 2 rfl) ?_
      obtain ⟨g1, h⟩ := h
      refine x_iast K hP hS 3 (by decide) 0 (fun _ => rfl) rfl g1 dT_split_71 (fun H locs hP hS => ?_)
      refine lv_aload_n K.1 K.2.1 dT_split_72 rfl (lv_at hL 1 rfl) ?_
      refine lv_dup K.1 K.2.1 dT_split_73 rfl ?_
      refine x_get (v := .int ((u2 hi 3 ((hi 1 4).toNatClampNeg) v1) 1 4)) K hP hinT (ci := 1) rfl 1 (by decide) rfl 4 (by decide) flT_30 rfl rfl dT_split_74 ?_
      refine lv_iconst (v := 1) K.1 K.2.1 dT_split_77 (by decide) ?_
      refine lv_iadd K.1 K.2.1 dT_split_78 ?_
      refine x_put (v := .int (((u2 hi 3 ((hi 1 4).toNatClampNeg) v1) 1 4) + (1 : Int32))) K hP hS hinT tyT tyT_ok nmT (ci := 1) rfl 1 (by decide) rfl 4 (by decide) flT_30 rfl rfl (((u2 hi 3 ((hi 1 4).toNatClampNeg) v1) 1 4) + (1 : Int32)) rfl rfl rfl (Nat.le_of_ble_eq_true rfl) dT_split_79 (fun H locs hP hS => ?_)
      exact bT_split_82 K hr hZ hk7 h (lv_sub hL [1, 2] rfl) hP hS
set_option maxRecDepth 100000 in
set_option maxHeartbeats 4000000 in
theorem bT_split_47 {p : Program} {l : Launch} {e : Env} {s : State} {m : MethodId} {args : Array Value} {below : List Frame} {meth : Method} {c : Code} {D : va_G} {cI cJ cC cZ cR : ClassId} {ad kd sd vd : Nat → Nat} {kA lA wA : Nat} {A : Nat → Prop} (K : Cx p (rmX 0 0) s m args meth c cT_split 3 "WordChecker$Text" gT D cls8 (tys5 cI cJ cC cZ cR) 64 ad A (ZX A kd sd vd kA lA wA)) (hr : meth.sig.returnType = none) (hZ : ZsOK A (ZX A kd sd vd kA lA wA)) {Φ : HI → HL → Prop} {k7 : Int32 → HI → HL → Prop} (hk7 : ∀ (v1 : Int32) (hi : HI) (hl : HL) (ls : Array Slot) (H : Heap) (locs : List Loc), k7 v1 hi hl → lv_has ls 3 [(0, .ref (ad 1)), (1, .int v1)] → va_P D cls8 (wl 64 ad (GX cI cJ cC cZ cR ad kd) hi hl) H → va_S A s.heap H locs → W p l e (rmX 0 0) s m args below meth c H locs 0 0 (MQ below (va_Qv (fun (u : HI × HL) => Φ u.1 u.2) (fun u t => va_P D cls8 (wl 64 ad (GX cI cJ cC cZ cR ad kd) u.1 u.2) t.heap) A) args s 0 0 A) (F0 m 7 ls [])) {v1 : Int32} {hi : HI} {hl : HL} {H : Heap} {locs : List Loc} (h : wbT_split_47 k7 v1 hi hl Φ) {ls : Array Slot} (hL : lv_has ls 3 [(0, .ref (ad 1)), (1, .int v1)]) (hP : va_P D cls8 (wl 64 ad (GX cI cJ cC cZ cR ad kd) hi hl) H) (hS : va_S A s.heap H locs) : W p l e (rmX 0 0) s m args below meth c H locs 0 0 (MQ below (va_Qv (fun (u : HI × HL) => Φ u.1 u.2) (fun u t => va_P D cls8 (wl 64 ad (GX cI cJ cC cZ cR ad kd) u.1 u.2) t.heap) A) args s 0 0 A) (F0 m 47 ls []) := by
  unfold wbT_split_47 at h
  refine lv_iconst (v := 0) K.1 K.2.1 dT_split_47 (by decide) ?_
  exact bT_split_48 K hr hZ hk7 h (lv_sub hL [0, 1] rfl) hP hS
set_option maxRecDepth 100000 in
set_option maxHeartbeats 4000000 in
theorem bT_split_43 {p : Program} {l : Launch} {e : Env} {s : State} {m : MethodId} {args : Array Value} {below : List Frame} {meth : Method} {c : Code} {D : va_G} {cI cJ cC cZ cR : ClassId} {ad kd sd vd : Nat → Nat} {kA lA wA : Nat} {A : Nat → Prop} (K : Cx p (rmX 0 0) s m args meth c cT_split 3 "WordChecker$Text" gT D cls8 (tys5 cI cJ cC cZ cR) 64 ad A (ZX A kd sd vd kA lA wA)) (hr : meth.sig.returnType = none) (hZ : ZsOK A (ZX A kd sd vd kA lA wA)) {Φ : HI → HL → Prop} {k7 : Int32 → HI → HL → Prop} (hk7 : ∀ (v1 : Int32) (hi : HI) (hl : HL) (ls : Array Slot) (H : Heap) (locs : List Loc), k7 v1 hi hl → lv_has ls 3 [(0, .ref (ad 1)), (1, .int v1)] → va_P D cls8 (wl 64 ad (GX cI cJ cC cZ cR ad kd) hi hl) H → va_S A s.heap H locs → W p l e (rmX 0 0) s m args below meth c H locs 0 0 (MQ below (va_Qv (fun (u : HI × HL) => Φ u.1 u.2) (fun u t => va_P D cls8 (wl 64 ad (GX cI cJ cC cZ cR ad kd) u.1 u.2) t.heap) A) args s 0 0 A) (F0 m 7 ls [])) {v1 : Int32} {hi : HI} {hl : HL} {H : Heap} {locs : List Loc} (h : wbT_split_43 k7 v1 hi hl Φ) {ls : Array Slot} (hL : lv_has ls 3 [(0, .ref (ad 1)), (1, .int v1)]) (hP : va_P D cls8 (wl 64 ad (GX cI cJ cC cZ cR ad kd) hi hl) H) (hS : va_S A s.heap H locs) : W p l e (rmX 0 0) s m args below meth c H locs 0 0 (MQ below (va_Qv (fun (u : HI × HL) => Φ u.1 u.2) (fun u t => va_P D cls8 (wl 64 ad (GX cI cJ cC cZ cR ad kd) u.1 u.2) t.heap) A) args s 0 0 A) (F0 m 43 ls []) := by
  unfold wbT_split_43 at h
  refine lv_iconst (v := 1) K.1 K.2.1 dT_split_43 (by decide) ?_
  refine lv_goto (tgt := 48) K.1 K.2.1 dT_split_44 rfl ?_
  exact bT_split_48 K hr hZ hk7 h (lv_sub hL [0, 1] rfl) hP hS
set_option maxRecDepth 100000 in
set_option maxHeartbeats 4000000 in
theorem bT_split_7 {p : Program} {l : Launch} {e : Env} {s : State} {m : MethodId} {args : Array Value} {below : List Frame} {meth : Method} {c : Code} {D : va_G} {cI cJ cC cZ cR : ClassId} {ad kd sd vd : Nat → Nat} {kA lA wA : Nat} {A : Nat → Prop} (K : Cx p (rmX 0 0) s m args meth c cT_split 3 "WordChecker$Text" gT D cls8 (tys5 cI cJ cC cZ cR) 64 ad A (ZX A kd sd vd kA lA wA)) (hr : meth.sig.returnType = none) (hZ : ZsOK A (ZX A kd sd vd kA lA wA)) {Φ : HI → HL → Prop} {n : Nat} {v1 : Int32} {hi : HI} {hl : HL} {H : Heap} {locs : List Loc} (h : wbT_split_7 n v1 hi hl Φ) {ls : Array Slot} (hL : lv_has ls 3 [(0, .ref (ad 1)), (1, .int v1)]) (hP : va_P D cls8 (wl 64 ad (GX cI cJ cC cZ cR ad kd) hi hl) H) (hS : va_S A s.heap H locs) : W p l e (rmX 0 0) s m args below meth c H locs 0 0 (MQ below (va_Qv (fun (u : HI × HL) => Φ u.1 u.2) (fun u t => va_P D cls8 (wl 64 ad (GX cI cJ cC cZ cR ad kd) u.1 u.2) t.heap) A) args s 0 0 A) (F0 m 7 ls []) := by
  induction n generalizing v1 hi hl ls H locs with
  | zero => exact False.elim h
  | succ n ih =>
    unfold wbT_split_7 at h
    refine lv_iload_n K.1 K.2.1 dT_split_7 rfl (lv_at hL 1 rfl) ?_
    refine lv_aload_n K.1 K.2.1 dT_split_8 rfl (lv_at hL 0 rfl) ?_
    refine x_get (v := .int (hi 1 3)) K hP hinT (ci := 1) rfl 1 (by decide) rfl 3 (by decide) flT_22 rfl rfl dT_split_9 ?_
    refine lv_icmp_ge (tgt := 120) K.1 K.2.1 dT_split_12 rfl (fun hc => ?_) (fun hc => ?_)
    · have h := h.1 hc
      exact x_vret K hr hP hS h dT_split_120
    · have h := h.2 hc
      refine lv_aload_n K.1 K.2.1 dT_split_15 rfl (lv_at hL 0 rfl) ?_
      refine x_get (v := .ref (ad 2)) K hP hinT (ci := 1) rfl 1 (by decide) rfl 0 (by decide) flT_9 rfl rfl dT_split_16 ?_
      refine lv_iload_n K.1 K.2.1 dT_split_19 rfl (lv_at hL 1 rfl) ?_
      obtain ⟨g1, h⟩ := h
      refine x_cald K hP 2 (by decide) 2 rfl rfl g1 dT_split_20 ?_
      refine lv_bipush (v := 32) K.1 K.2.1 dT_split_21 (by decide) ?_
      refine lv_icmp_eq (tgt := 47) K.1 K.2.1 dT_split_23 rfl (fun hc => ?_) (fun hc => ?_)
      · have h := h.1 hc
        exact bT_split_47 K hr hZ (fun v1 hi hl ls H locs h hL hP hS => ih h hL hP hS) h (lv_sub hL [0, 1] rfl) hP hS
      · have h := h.2 hc
        refine lv_iload_n K.1 K.2.1 dT_split_26 rfl (lv_at hL 1 rfl) ?_
        refine lv_if_eq (tgt := 43) K.1 K.2.1 dT_split_27 rfl (fun hc => ?_) (fun hc => ?_)
        · have h := h.1 hc
          exact bT_split_43 K hr hZ (fun v1 hi hl ls H locs h hL hP hS => ih h hL hP hS) h (lv_sub hL [0, 1] rfl) hP hS
        · have h := h.2 hc
          refine lv_aload_n K.1 K.2.1 dT_split_30 rfl (lv_at hL 0 rfl) ?_
          refine x_get (v := .ref (ad 2)) K hP hinT (ci := 1) rfl 1 (by decide) rfl 0 (by decide) flT_9 rfl rfl dT_split_31 ?_
          refine lv_iload_n K.1 K.2.1 dT_split_34 rfl (lv_at hL 1 rfl) ?_
          refine lv_iconst (v := 1) K.1 K.2.1 dT_split_35 (by decide) ?_
          refine lv_isub K.1 K.2.1 dT_split_36 ?_
          obtain ⟨g2, h⟩ := h
          refine x_cald K hP 2 (by decide) 2 rfl rfl g2 dT_split_37 ?_
          refine lv_bipush (v := 32) K.1 K.2.1 dT_split_38 (by decide) ?_
          refine lv_icmp_ne (tgt := 47) K.1 K.2.1 dT_split_40 rfl (fun hc => ?_) (fun hc => ?_)
          · have h := h.2 hc
            exact bT_split_47 K hr hZ (fun v1 hi hl ls H locs h hL hP hS => ih h hL hP hS) h (lv_sub hL [0, 1] rfl) hP hS
          · have h := h.1 hc
            exact bT_split_43 K hr hZ (fun v1 hi hl ls H locs h hL hP hS => ih h hL hP hS) h (lv_sub hL [0, 1] rfl) hP hS
set_option maxRecDepth 100000 in
set_option maxHeartbeats 4000000 in
theorem bT_split_0 {p : Program} {l : Launch} {e : Env} {s : State} {m : MethodId} {args : Array Value} {below : List Frame} {meth : Method} {c : Code} {D : va_G} {cI cJ cC cZ cR : ClassId} {ad kd sd vd : Nat → Nat} {kA lA wA : Nat} {A : Nat → Prop} (K : Cx p (rmX 0 0) s m args meth c cT_split 3 "WordChecker$Text" gT D cls8 (tys5 cI cJ cC cZ cR) 64 ad A (ZX A kd sd vd kA lA wA)) (hr : meth.sig.returnType = none) (hZ : ZsOK A (ZX A kd sd vd kA lA wA)) {Φ : HI → HL → Prop} {hi : HI} {hl : HL} {H : Heap} {locs : List Loc} (h : wbT_split_0 hi hl Φ) {ls : Array Slot} (hL : lv_has ls 3 [(0, .ref (ad 1))]) (hP : va_P D cls8 (wl 64 ad (GX cI cJ cC cZ cR ad kd) hi hl) H) (hS : va_S A s.heap H locs) : W p l e (rmX 0 0) s m args below meth c H locs 0 0 (MQ below (va_Qv (fun (u : HI × HL) => Φ u.1 u.2) (fun u t => va_P D cls8 (wl 64 ad (GX cI cJ cC cZ cR ad kd) u.1 u.2) t.heap) A) args s 0 0 A) (F0 m 0 ls []) := by
  unfold wbT_split_0 at h
  refine lv_aload_n K.1 K.2.1 dT_split_0 rfl (lv_at hL 0 rfl) ?_
  refine lv_iconst (v := 0) K.1 K.2.1 dT_split_1 (by decide) ?_
  refine x_put (v := .int (0 : Int32)) K hP hS hinT tyT tyT_ok nmT (ci := 1) rfl 1 (by decide) rfl 4 (by decide) flT_30 rfl rfl (0 : Int32) rfl rfl rfl (Nat.le_of_ble_eq_true rfl) dT_split_2 (fun H locs hP hS => ?_)
  refine lv_iconst (v := 0) K.1 K.2.1 dT_split_5 (by decide) ?_
  refine lv_istore_n (lv' := [(1, .int (0 : Int32)), (0, .ref (ad 1))]) K.1 K.2.1 dT_split_6 rfl hL (by decide) rfl (fun ls hL => ?_)
  obtain ⟨fu, h⟩ := h
  exact bT_split_7 K hr hZ h (lv_sub hL [1, 0] rfl) hP hS
set_option maxRecDepth 100000 in
set_option maxHeartbeats 4000000 in
theorem mT_split {l : Launch} {D : va_G} {cI cJ cC cZ cR : ClassId} {ad kd sd vd : Nat → Nat} {kA lA wA : Nat} {A : Nat → Prop} (hZ : ZsOK A (ZX A kd sd vd kA lA wA)) (hD : wlD 64 ad A) {hi : HI} {hl : HL} {Φ : HI → HL → Prop} (h : wpT_split hi hl Φ) : SpV l yT_split cT_split 3 none gT 0 0 [.ref (ad 1)] D cls8 (tys5 cI cJ cC cZ cR) 64 ad (GX cI cJ cC cZ cR ad kd) A (ZX A kd sd vd kA lA wA) hi hl Φ := by
  refine Met.ofW (cc := cT_split) (maxL := 3) (ret := none) (by decide) rfl ?_
  intro p e s m args below meth c s₁ B hml hv
  obtain ⟨rfl, hP, hK, hZs⟩ := hv
  have K : Cx p (rmX 0 0) s m _ meth c cT_split 3 "WordChecker$Text" gT D cls8 (tys5 cI cJ cC cZ cR) 64 ad A (ZX A kd sd vd kA lA wA) := ⟨B.exec, B.bytes, hml, findClass_of_methodNamed B.named, fun w hw => atoms_spec B.pre w (List.mem_cons_of_mem _ hw), B.notSynchronized, hK, hD, hZs⟩
  have hL := lv_entry ([.ref (ad 1)]) (n := 3) (Nat.le_of_ble_eq_true rfl)
  rw [lg_entry_eq]
  generalize (lg_sl ([.ref (ad 1)]) ++ List.replicate (3 - (lg_sl ([.ref (ad 1)])).length) Slot.unset).toArray = ls at hL ⊢
  have hL : lv_has ls 3 [(0, .ref (ad 1))] := hL
  unfold wpT_split at h
  exact bT_split_0 K B.returns hZ h (lv_sub hL [0] rfl) hP va_S.rf
