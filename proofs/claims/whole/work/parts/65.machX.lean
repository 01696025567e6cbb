set_option maxRecDepth 100000 in
set_option maxHeartbeats 4000000 in
theorem bC_find_0 {p : Program} {l : Launch} {e : Env} {s : State} {m : MethodId} {args : Array Value} {below : List Frame} {meth : Method} {c : Code} {D : va_G} {cI cJ cC cZ cR : ClassId} {ad kd sd vd : Nat → Nat} {kA lA wA : Nat} {A : Nat → Prop} (K : Cx p (rmX 6 141) s m args meth c cC_find 2 "WordChecker" gT D cls8 (tys5 cI cJ cC cZ cR) 64 ad A (ZX A kd sd vd kA lA wA)) (hr : meth.sig.returnType = (some .int)) (hZ : ZsOK A (ZX A kd sd vd kA lA wA)) {Φ : Int32 → HI → HL → Prop} {v1 : Int32} {hi : HI} {hl : HL} {H : Heap} {locs : List Loc} (h : wbC_find_0 v1 hi hl Φ) {ls : Array Slot} (hL : lv_has ls 2 [(0, .ref (ad 0)), (1, .int v1)]) (hP : va_P D cls8 (wl 64 ad (GX cI cJ cC cZ cR ad kd) hi hl) H) (hS : va_S A s.heap H locs) : W p l e (rmX 6 141) s m args below meth c H locs 0 0 (MQ below (va_Qi (fun r (u : HI × HL) => Φ r u.1 u.2) (fun u t => va_P D cls8 (wl 64 ad (GX cI cJ cC cZ cR ad kd) u.1 u.2) t.heap) A) args s 0 0 A) (F0 m 0 ls []) := by
  unfold wbC_find_0 at h
  refine lv_iload_n K.1 K.2.1 dC_find_0 rfl (lv_at hL 1 rfl) ?_
  refine lv_if_lt (tgt := 9) K.1 K.2.1 dC_find_1 rfl (fun hc => ?_) (fun hc => ?_)
  · have h := h.1 hc
    refine lv_bipush (v := -2) K.1 K.2.1 dC_find_9 (by decide) ?_
    exact x_iret K hr hP hS h dC_find_11
  · have h := h.2 hc
    refine lv_iload_n K.1 K.2.1 dC_find_4 rfl (lv_at hL 1 rfl) ?_
    refine lv_iconst (v := 3) K.1 K.2.1 dC_find_5 (by decide) ?_
    refine lv_icmp_le (tgt := 12) K.1 K.2.1 dC_find_6 rfl (fun hc => ?_) (fun hc => ?_)
    · have h := h.1 hc
      refine lv_aload_n K.1 K.2.1 dC_find_12 rfl (lv_at hL 0 rfl) ?_
      refine x_get (v := .ref (ad 20)) K hP hinC (ci := 0) rfl 0 (by decide) rfl 3 (by decide) flC_37 rfl rfl dC_find_13 ?_
      refine lv_iload_n K.1 K.2.1 dC_find_16 rfl (lv_at hL 1 rfl) ?_
      refine x_cVI (As := [.int v1]) (rest := []) K gT_good hZ hP hS calS_leastBad mlC_94 20 (by decide) rfl rfl (mS_leastBad hZ K.2.2.2.2.2.2.2.1 h) ⟨Nat.le_of_ble_eq_true rfl, Nat.le_of_ble_eq_true rfl⟩ rfl hL.1 rfl (Nat.le_of_ble_eq_true rfl) dC_find_17 (fun r1 hi2 hl3 H locs h hP hS => ?_)
      exact x_iret K hr hP hS h dC_find_20
    · have h := h.2 hc
      refine lv_bipush (v := -2) K.1 K.2.1 dC_find_9 (by decide) ?_
      exact x_iret K hr hP hS h dC_find_11
set_option maxRecDepth 100000 in
set_option maxHeartbeats 4000000 in
theorem mC_find {l : Launch} {D : va_G} {cI cJ cC cZ cR : ClassId} {ad kd sd vd : Nat → Nat} {kA lA wA : Nat} {A : Nat → Prop} (hZ : ZsOK A (ZX A kd sd vd kA lA wA)) (hD : wlD 64 ad A) {v1 : Int32} {hi : HI} {hl : HL} {Φ : Int32 → HI → HL → Prop} (h : wpC_find v1 hi hl Φ) : SpI l yC_find cC_find 2 (some .int) gT 6 141 [.ref (ad 0), .int v1] D cls8 (tys5 cI cJ cC cZ cR) 64 ad (GX cI cJ cC cZ cR ad kd) A (ZX A kd sd vd kA lA wA) hi hl Φ := by
  refine Met.ofW (cc := cC_find) (maxL := 2) (ret := (some .int)) (by decide) rfl ?_
  intro p e s m args below meth c s₁ B hml hv
  obtain ⟨rfl, hP, hK, hZs⟩ := hv
  have K : Cx p (rmX 6 141) s m _ meth c cC_find 2 "WordChecker" gT D cls8 (tys5 cI cJ cC cZ cR) 64 ad A (ZX A kd sd vd kA lA wA) := ⟨B.exec, B.bytes, hml, findClass_of_methodNamed B.named, fun w hw => atoms_spec B.pre w (List.mem_cons_of_mem _ hw), B.notSynchronized, hK, hD, hZs⟩
  have hL := lv_entry ([.ref (ad 0), .int v1]) (n := 2) (Nat.le_of_ble_eq_true rfl)
  rw [lg_entry_eq]
  generalize (lg_sl ([.ref (ad 0), .int v1]) ++ List.replicate (2 - (lg_sl ([.ref (ad 0), .int v1])).length) Slot.unset).toArray = ls at hL ⊢
  have hL : lv_has ls 2 [(0, .ref (ad 0)), (1, .int v1)] := hL
  unfold wpC_find at h
  exact bC_find_0 K B.returns hZ h (lv_sub hL [0, 1] rfl) hP va_S.rf
set_option maxRecDepth 100000 in
set_option maxHeartbeats 4000000 in
theorem bC_shown_0 {p : Program} {l : Launch} {e : Env} {s : State} {m : MethodId} {args : Array Value} {below : List Frame} {meth : Method} {c : Code} {D : va_G} {cI cJ cC cZ cR : ClassId} {ad kd sd vd : Nat → Nat} {kA lA wA : Nat} {A : Nat → Prop} (K : Cx p (rmX 4 88) s m args meth c cC_shown 3 "WordChecker" gT D cls8 (tys5 cI cJ cC cZ cR) 64 ad A (ZX A kd sd vd kA lA wA)) (hr : meth.sig.returnType = (some .int)) (hZ : ZsOK A (ZX A kd sd vd kA lA wA)) {Φ : Int32 → HI → HL → Prop} {v1 : Int32} {v2 : Int32} {hi : HI} {hl : HL} {H : Heap} {locs : List Loc} (h : wbC_shown_0 v1 v2 hi hl Φ) {ls : Array Slot} (hL : lv_has ls 3 [(0, .ref (ad 0)), (1, .int v1), (2, .int v2)]) (hP : va_P D cls8 (wl 64 ad (GX cI cJ cC cZ cR ad kd) hi hl) H) (hS : va_S A s.heap H locs) : W p l e (rmX 4 88) s m args below meth c H locs 0 0 (MQ below (va_Qi (fun r (u : HI × HL) => Φ r u.1 u.2) (fun u t => va_P D cls8 (wl 64 ad (GX cI cJ cC cZ cR ad kd) u.1 u.2) t.heap) A) args s 0 0 A) (F0 m 0 ls []) := by
  unfold wbC_shown_0 at h
  refine lv_iload_n K.1 K.2.1 dC_shown_0 rfl (lv_at hL 1 rfl) ?_
  refine lv_if_lt (tgt := 15) K.1 K.2.1 dC_shown_1 rfl (fun hc => ?_) (fun hc => ?_)
  · have h := h.1 hc
    refine lv_iconst (v := -1) K.1 K.2.1 dC_shown_15 (by decide) ?_
    exact x_iret K hr hP hS h dC_shown_16
  · have h := h.2 hc
    refine lv_iload_n K.1 K.2.1 dC_shown_4 rfl (lv_at hL 1 rfl) ?_
    refine lv_aload_n K.1 K.2.1 dC_shown_5 rfl (lv_at hL 0 rfl) ?_
    refine x_get (v := .ref (ad 20)) K hP hinC (ci := 0) rfl 0 (by decide) rfl 3 (by decide) flC_37 rfl rfl dC_shown_6 ?_
    refine x_getN (v := .int (hi 20 4)) K hP hinS (ci := 5) rfl 20 (by decide) rfl 4 (by decide) (fnC_97 K.2.2.2.2.2.2.2.2) rfl rfl dC_shown_9 ?_
    refine lv_icmp_lt (tgt := 17) K.1 K.2.1 dC_shown_12 rfl (fun hc => ?_) (fun hc => ?_)
    · have h := h.1 hc
      refine lv_aload_n K.1 K.2.1 dC_shown_17 rfl (lv_at hL 0 rfl) ?_
      refine x_get (v := .ref (ad 5)) K hP hinC (ci := 0) rfl 0 (by decide) rfl 1 (by decide) flC_19 rfl rfl dC_shown_18 ?_
      refine lv_iload_n K.1 K.2.1 dC_shown_21 rfl (lv_at hL 2 rfl) ?_
      refine lv_aload_n K.1 K.2.1 dC_shown_22 rfl (lv_at hL 0 rfl) ?_
      refine x_get (v := .ref (ad 20)) K hP hinC (ci := 0) rfl 0 (by decide) rfl 3 (by decide) flC_37 rfl rfl dC_shown_23 ?_
      refine x_getN (v := .ref (ad 22)) K hP hinS (ci := 5) rfl 20 (by decide) rfl 2 (by decide) (fnC_100 K.2.2.2.2.2.2.2.2) rfl rfl dC_shown_26 ?_
      refine lv_iload_n K.1 K.2.1 dC_shown_29 rfl (lv_at hL 1 rfl) ?_
      obtain ⟨g1, h⟩ := h
      refine x_iald K hP 22 (by decide) 0 rfl rfl g1 dC_shown_30 ?_
      refine lv_aload_n K.1 K.2.1 dC_shown_31 rfl (lv_at hL 0 rfl) ?_
      refine x_get (v := .ref (ad 20)) K hP hinC (ci := 0) rfl 0 (by decide) rfl 3 (by decide) flC_37 rfl rfl dC_shown_32 ?_
      refine x_getN (v := .ref (ad 23)) K hP hinS (ci := 5) rfl 20 (by decide) rfl 3 (by decide) (fnC_104 K.2.2.2.2.2.2.2.2) rfl rfl dC_shown_35 ?_
      refine lv_iload_n K.1 K.2.1 dC_shown_38 rfl (lv_at hL 1 rfl) ?_
      obtain ⟨g2, h⟩ := h
      refine x_iald K hP 23 (by decide) 0 rfl rfl g2 dC_shown_39 ?_
      refine x_cVI (As := [.int v2, .int (hi 22 (v1.toNatClampNeg)), .int (hi 23 (v1.toNatClampNeg))]) (rest := []) K gT_good hZ hP hS calB_valueOf mlC_90 5 (by decide) rfl rfl (mB_valueOf hZ K.2.2.2.2.2.2.2.1 h) ⟨Nat.le_of_ble_eq_true rfl, Nat.le_of_ble_eq_true rfl⟩ rfl hL.1 rfl (Nat.le_of_ble_eq_true rfl) dC_shown_40 (fun r3 hi4 hl5 H locs h hP hS => ?_)
      exact x_iret K hr hP hS h dC_shown_43
    · have h := h.2 hc
      refine lv_iconst (v := -1) K.1 K.2.1 dC_shown_15 (by decide) ?_
      exact x_iret K hr hP hS h dC_shown_16
set_option maxRecDepth 100000 in
set_option maxHeartbeats 4000000 in
theorem mC_shown {l : Launch} {D : va_G} {cI cJ cC cZ cR : ClassId} {ad kd sd vd : Nat → Nat} {kA lA wA : Nat} {A : Nat → Prop} (hZ : ZsOK A (ZX A kd sd vd kA lA wA)) (hD : wlD 64 ad A) {v1 : Int32} {v2 : Int32} {hi : HI} {hl : HL} {Φ : Int32 → HI → HL → Prop} (h : wpC_shown v1 v2 hi hl Φ) : SpI l yC_shown cC_shown 3 (some .int) gT 4 88 [.ref (ad 0), .int v1, .int v2] D cls8 (tys5 cI cJ cC cZ cR) 64 ad (GX cI cJ cC cZ cR ad kd) A (ZX A kd sd vd kA lA wA) hi hl Φ := by
  refine Met.ofW (cc := cC_shown) (maxL := 3) (ret := (some .int)) (by decide) rfl ?_
  intro p e s m args below meth c s₁ B hml hv
  obtain ⟨rfl, hP, hK, hZs⟩ := hv
  have K : Cx p (rmX 4 88) s m _ meth c cC_shown 3 "WordChecker" gT D cls8 (tys5 cI cJ cC cZ cR) 64 ad A (ZX A kd sd vd kA lA wA) := ⟨B.exec, B.bytes, hml, findClass_of_methodNamed B.named, fun w hw => atoms_spec B.pre w (List.mem_cons_of_mem _ hw), B.notSynchronized, hK, hD, hZs⟩
  have hL := lv_entry ([.ref (ad 0), .int v1, .int v2]) (n := 3) (Nat.le_of_ble_eq_true rfl)
  rw [lg_entry_eq]
  generalize (lg_sl ([.ref (ad 0), .int v1, .int v2]) ++ List.replicate (3 - (lg_sl ([.ref (ad 0), .int v1, .int v2])).length) Slot.unset).toArray = ls at hL ⊢
  have hL : lv_has ls 3 [(0, .ref (ad 0)), (1, .int v1), (2, .int v2)] := hL
  unfold wpC_shown at h
  exact bC_shown_0 K B.returns hZ h (lv_sub hL [0, 1, 2] rfl) hP va_S.rf
set_option maxRecDepth 100000 in
set_option maxHeartbeats 4000000 in
theorem bS_stretches_82 {p : Program} {l : Launch} {e : Env} {s : State} {m : MethodId} {args : Array Value} {below : List Frame} {meth : Method} {c : Code} {D : va_G} {cI cJ cC cZ cR : ClassId} {ad kd sd vd : Nat → Nat} {kA lA wA : Nat} {A : Nat → Prop} {d : Nat} {rec : Int32 → Int64 → Int32 → HI → HL → (Int32 → HI → HL → Prop) → Prop} (hrec : ∀ {v1 v2 v4 : _} {hi : HI} {hl : HL} {Φ : Int32 → HI → HL → Prop}, rec v1 v2 v4 hi hl Φ → SpI l yS_stretches cS_stretches 9 (some .boolean) gT (d + 3) (40 * d + 69) [.ref (ad 20), .int v1, .long v2, .int v4] D cls8 (tys5 cI cJ cC cZ cR) 64 ad (GX cI cJ cC cZ cR ad kd) A (ZX A kd sd vd kA lA wA) hi hl Φ) (K : Cx p (rmX (d + 1 + 3) (40 * (d + 1) + 69)) s m args meth c cS_stretches 9 "WordChecker$Search" gT D cls8 (tys5 cI cJ cC cZ cR) 64 ad A (ZX A kd sd vd kA lA wA)) (hr : meth.sig.returnType = (some .boolean)) (hZ : ZsOK A (ZX A kd sd vd kA lA wA)) {Φ : Int32 → HI → HL → Prop} {k17 : Int32 → Int32 → Int64 → Int32 → HI → HL → Prop} (hk17 : ∀ (v1 : Int32) (v4 : Int32) (v5 : Int64) (v7 : Int32) (hi : HI) (hl : HL) (ls : Array Slot) (H : Heap) (locs : List Loc), k17 v1 v4 v5 v7 hi hl → lv_has ls 9 [(0, .ref (ad 20)), (1, .int v1), (4, .int v4), (5, .long v5), (7, .int v7)] → va_P D cls8 (wl 64 ad (GX cI cJ cC cZ cR ad kd) hi hl) H → va_S A s.heap H locs → W p l e (rmX (d + 1 + 3) (40 * (d + 1) + 69)) s m args below meth c H locs 0 0 (MQ below (va_Qi (fun r (u : HI × HL) => Φ r u.1 u.2) (fun u t => va_P D cls8 (wl 64 ad (GX cI cJ cC cZ cR ad kd) u.1 u.2) t.heap) A) args s 0 0 A) (F0 m 17 ls [])) {v1 : Int32} {v4 : Int32} {v5 : Int64} {v7 : Int32} {hi : HI} {hl : HL} {H : Heap} {locs : List Loc} (h : wbS_stretches_82 rec k17 v1 v4 v5 v7 hi hl Φ) {ls : Array Slot} (hL : lv_has ls 9 [(0, .ref (ad 20)), (1, .int v1), (4, .int v4), (5, .long v5), (7, .int v7)]) (hP : va_P D cls8 (wl 64 ad (GX cI cJ cC cZ cR ad kd) hi hl) H) (hS : va_S A s.heap H locs) : W p l e (rmX (d + 1 + 3) (40 * (d + 1) + 69)) s m args below meth c H locs 0 0 (MQ below (va_Qi (fun r (u : HI × HL) => Φ r u.1 u.2) (fun u t => va_P D cls8 (wl 64 ad (GX cI cJ cC cZ cR ad kd) u.1 u.2) t.heap) A) args s 0 0 A) (F0 m 82 ls []) := by
  unfold wbS_stretches_82 at h
  refine lv_iinc (k := 4) (lv' := [(7, .int (v7 + Int32.ofInt (1))), (0, .ref (ad 20)), (1, .int v1), (4, .int v4), (5, .long v5)]) K.1 K.2.1 dS_stretches_82 hL rfl rfl (by decide) rfl (fun ls hL => ?_)
  refine lv_goto (tgt := 17) K.1 K.2.1 dS_stretches_85 rfl ?_
  exact hk17 _ _ _ _ _ _ _ _ _ h (lv_sub hL [1, 2, 3, 4, 0] rfl) hP hS
set_option maxRecDepth 100000 in
set_option maxHeartbeats 4000000 in
theorem bS_stretches_17 {p : Program} {l : Launch} {e : Env} {s : State} {m : MethodId} {args : Array Value} {below : List Frame} {meth : Method} {c : Code} {D : va_G} {cI cJ cC cZ cR : ClassId} {ad kd sd vd : Nat → Nat} {kA lA wA : Nat} {A : Nat → Prop} {d : Nat} {rec : Int32 → Int64 → Int32 → HI → HL → (Int32 → HI → HL → Prop) → Prop} (hrec : ∀ {v1 v2 v4 : _} {hi : HI} {hl : HL} {Φ : Int32 → HI → HL → Prop}, rec v1 v2 v4 hi hl Φ → SpI l yS_stretches cS_stretches 9 (some .boolean) gT (d + 3) (40 * d + 69) [.ref (ad 20), .int v1, .long v2, .int v4] D cls8 (tys5 cI cJ cC cZ cR) 64 ad (GX cI cJ cC cZ cR ad kd) A (ZX A kd sd vd kA lA wA) hi hl Φ) (K : Cx p (rmX (d + 1 + 3) (40 * (d + 1) + 69)) s m args meth c cS_stretches 9 "WordChecker$Search" gT D cls8 (tys5 cI cJ cC cZ cR) 64 ad A (ZX A kd sd vd kA lA wA)) (hr : meth.sig.returnType = (some .boolean)) (hZ : ZsOK A (ZX A kd sd vd kA lA wA)) {Φ : Int32 → HI → HL → Prop} {n : Nat} {v1 : Int32} {v4 : Int32} {v5 : Int64} {v7 : Int32} {hi : HI} {hl : HL} {H : Heap} {locs : List Loc} (h : wbS_stretches_17 rec n v1 v4 v5 v7 hi hl Φ) {ls : Array Slot} (hL : lv_has ls 9 [(0, .ref (ad 20)), (1, .int v1), (4, .int v4), (5, .long v5), (7, .int v7)]) (hP : va_P D cls8 (wl 64 ad (GX cI cJ cC cZ cR ad kd) hi hl) H) (hS : va_S A s.heap H locs) : W p l e (rmX (d + 1 + 3) (40 * (d + 1) + 69)) s m args below meth c H locs 0 0 (MQ below (va_Qi (fun r (u : HI × HL) => Φ r u.1 u.2) (fun u t => va_P D cls8 (wl 64 ad (GX cI cJ cC cZ cR ad kd) u.1 u.2) t.heap) A) args s 0 0 A) (F0 m 17 ls []) := by
  induction n generalizing v1 v4 v5 v7 hi hl ls H locs with
  | zero => exact False.elim h
  | succ n ih =>
    unfold wbS_stretches_17 at h
    refine lv_iload K.1 K.2.1 dS_stretches_17 (lv_at hL 4 rfl) ?_
    refine lv_iconst (v := 1) K.1 K.2.1 dS_stretches_19 (by decide) ?_
    refine lv_aload_n K.1 K.2.1 dS_stretches_20 rfl (lv_at hL 0 rfl) ?_
    refine x_get (v := .ref (ad 5)) K hP hinS (ci := 5) rfl 20 (by decide) rfl 0 (by decide) flS_22 rfl rfl dS_stretches_21 ?_
    refine x_getN (v := .int (hi 5 3)) K hP hinB (ci := 2) rfl 5 (by decide) rfl 3 (by decide) (fnS_54 K.2.2.2.2.2.2.2.2) rfl rfl dS_stretches_24 ?_
    refine lv_ishl K.1 K.2.1 dS_stretches_27 ?_
    refine lv_icmp_ge (tgt := 88) K.1 K.2.1 dS_stretches_28 rfl (fun hc => ?_) (fun hc => ?_)
    · have h := h.1 hc
      refine lv_iconst (v := 0) K.1 K.2.1 dS_stretches_88 (by decide) ?_
      obtain ⟨g1, h⟩ := h
      exact x_zret K hr hP hS g1 h dS_stretches_89
    · have h := h.2 hc
      refine lv_aload_n K.1 K.2.1 dS_stretches_31 rfl (lv_at hL 0 rfl) ?_
      refine lv_iload_n K.1 K.2.1 dS_stretches_32 rfl (lv_at hL 1 rfl) ?_
      refine lv_iload K.1 K.2.1 dS_stretches_33 (lv_at hL 4 rfl) ?_
      refine lv_iload K.1 K.2.1 dS_stretches_35 (lv_at hL 2 rfl) ?_
      refine x_cVI (As := [.int v1, .int v7, .int v4]) (rest := []) K gT_good hZ hP hS calS_leads mlS_57 20 (by decide) rfl rfl (mS_leads hZ K.2.2.2.2.2.2.2.1 h) ⟨by simp only [rmX]; omega, by simp only [rmX]; omega⟩ rfl hL.1 rfl (Nat.le_of_ble_eq_true rfl) dS_stretches_37 (fun r2 hi3 hl4 H locs h hP hS => ?_)
      refine lv_if_eq (tgt := 82) K.1 K.2.1 dS_stretches_40 rfl (fun hc => ?_) (fun hc => ?_)
      · have h := h.1 hc
        exact bS_stretches_82 hrec K hr hZ (fun v1 v4 v5 v7 hi hl ls H locs h hL hP hS => ih h hL hP hS) h (lv_sub hL [0, 1, 2, 3, 4] rfl) hP hS
      · have h := h.2 hc
        refine lv_aload_n K.1 K.2.1 dS_stretches_43 rfl (lv_at hL 0 rfl) ?_
        refine x_get (v := .ref (ad 5)) K hP hinS (ci := 5) rfl 20 (by decide) rfl 0 (by decide) flS_22 rfl rfl dS_stretches_44 ?_
        refine lv_iload_n K.1 K.2.1 dS_stretches_47 rfl (lv_at hL 1 rfl) ?_
        refine lv_iload K.1 K.2.1 dS_stretches_48 (lv_at hL 4 rfl) ?_
        refine x_cVI (As := [.int v1, .int v7]) (rest := []) K gT_good hZ hP hS calB_after mlS_71 5 (by decide) rfl rfl (mB_after hZ K.2.2.2.2.2.2.2.1 h) ⟨by simp only [rmX]; omega, by simp only [rmX]; omega⟩ rfl hL.1 rfl (Nat.le_of_ble_eq_true rfl) dS_stretches_50 (fun r5 hi6 hl7 H locs h hP hS => ?_)
        refine lv_istore (lv' := [(8, .int r5), (0, .ref (ad 20)), (1, .int v1), (4, .int v4), (5, .long v5), (7, .int v7)]) K.1 K.2.1 dS_stretches_53 hL (by decide) rfl (fun ls hL => ?_)
        refine lv_lload K.1 K.2.1 dS_stretches_55 (lv_at hL 4 rfl) ?_
        refine lv_iload K.1 K.2.1 dS_stretches_57 (lv_at hL 0 rfl) ?_
        refine x_cSNI (As := [.long v5, .int r5]) (rest := []) K gT_good hZ hP hS calC_has (mnS_64 K.2.2.2.2.2.2.2.2) (mC_has hZ K.2.2.2.2.2.2.2.1 h) ⟨by simp only [rmX]; omega, by simp only [rmX]; omega⟩ rfl hL.1 rfl (Nat.le_of_ble_eq_true rfl) dS_stretches_59 (fun r8 hi9 hl10 H locs h hP hS => ?_)
        refine lv_if_ne (tgt := 82) K.1 K.2.1 dS_stretches_62 rfl (fun hc => ?_) (fun hc => ?_)
        · have h := h.2 hc
          exact bS_stretches_82 hrec K hr hZ (fun v1 v4 v5 v7 hi hl ls H locs h hL hP hS => ih h hL hP hS) h (lv_sub hL [1, 2, 3, 4, 5] rfl) hP hS
        · have h := h.1 hc
          refine lv_aload_n K.1 K.2.1 dS_stretches_65 rfl (lv_at hL 1 rfl) ?_
          refine lv_iload K.1 K.2.1 dS_stretches_66 (lv_at hL 0 rfl) ?_
          refine lv_lload K.1 K.2.1 dS_stretches_68 (lv_at hL 4 rfl) ?_
          refine lv_iload K.1 K.2.1 dS_stretches_70 (lv_at hL 3 rfl) ?_
          refine lv_iconst (v := 1) K.1 K.2.1 dS_stretches_72 (by decide) ?_
          refine lv_isub K.1 K.2.1 dS_stretches_73 ?_
          refine x_cVI (As := [.int r5, .long v5, .int (v4 - (1 : Int32))]) (rest := []) K gT_good hZ hP hS calS_stretches mlS_82 20 (by decide) rfl rfl (hrec h) ⟨by simp only [rmX]; omega, by simp only [rmX]; omega⟩ rfl hL.1 rfl (Nat.le_of_ble_eq_true rfl) dS_stretches_74 (fun r11 hi12 hl13 H locs h hP hS => ?_)
          refine lv_if_eq (tgt := 82) K.1 K.2.1 dS_stretches_77 rfl (fun hc => ?_) (fun hc => ?_)
          · have h := h.1 hc
            exact bS_stretches_82 hrec K hr hZ (fun v1 v4 v5 v7 hi hl ls H locs h hL hP hS => ih h hL hP hS) h (lv_sub hL [1, 2, 3, 4, 5] rfl) hP hS
          · have h := h.2 hc
            refine lv_iconst (v := 1) K.1 K.2.1 dS_stretches_80 (by decide) ?_
            obtain ⟨g14, h⟩ := h
            exact x_zret K hr hP hS g14 h dS_stretches_81
set_option maxRecDepth 100000 in
set_option maxHeartbeats 4000000 in
theorem bS_stretches_0 {p : Program} {l : Launch} {e : Env} {s : State} {m : MethodId} {args : Array Value} {below : List Frame} {meth : Method} {c : Code} {D : va_G} {cI cJ cC cZ cR : ClassId} {ad kd sd vd : Nat → Nat} {kA lA wA : Nat} {A : Nat → Prop} {d : Nat} {rec : Int32 → Int64 → Int32 → HI → HL → (Int32 → HI → HL → Prop) → Prop} (hrec : ∀ {v1 v2 v4 : _} {hi : HI} {hl : HL} {Φ : Int32 → HI → HL → Prop}, rec v1 v2 v4 hi hl Φ → SpI l yS_stretches cS_stretches 9 (some .boolean) gT (d + 3) (40 * d + 69) [.ref (ad 20), .int v1, .long v2, .int v4] D cls8 (tys5 cI cJ cC cZ cR) 64 ad (GX cI cJ cC cZ cR ad kd) A (ZX A kd sd vd kA lA wA) hi hl Φ) (K : Cx p (rmX (d + 1 + 3) (40 * (d + 1) + 69)) s m args meth c cS_stretches 9 "WordChecker$Search" gT D cls8 (tys5 cI cJ cC cZ cR) 64 ad A (ZX A kd sd vd kA lA wA)) (hr : meth.sig.returnType = (some .boolean)) (hZ : ZsOK A (ZX A kd sd vd kA lA wA)) {Φ : Int32 → HI → HL → Prop} {v1 : Int32} {v2 : Int64} {v4 : Int32} {hi : HI} {hl : HL} {H : Heap} {locs : List Loc} (h : wbS_stretches_0 rec v1 v2 v4 hi hl Φ) {ls : Array Slot} (hL : lv_has ls 9 [(0, .ref (ad 20)), (1, .int v1), (2, .long v2), (4, .int v4)]) (hP : va_P D cls8 (wl 64 ad (GX cI cJ cC cZ cR ad kd) hi hl) H) (hS : va_S A s.heap H locs) : W p l e (rmX (d + 1 + 3) (40 * (d + 1) + 69)) s m args below meth c H locs 0 0 (MQ below (va_Qi (fun r (u : HI × HL) => Φ r u.1 u.2) (fun u t => va_P D cls8 (wl 64 ad (GX cI cJ cC cZ cR ad kd) u.1 u.2) t.heap) A) args s 0 0 A) (F0 m 0 ls []) := by
  unfold wbS_stretches_0 at h
  refine lv_iload K.1 K.2.1 dS_stretches_0 (lv_at hL 3 rfl) ?_
  refine lv_if_gt (tgt := 7) K.1 K.2.1 dS_stretches_2 rfl (fun hc => ?_) (fun hc => ?_)
  · have h := h.1 hc
    refine lv_lload_n K.1 K.2.1 dS_stretches_7 rfl (lv_at hL 2 rfl) ?_
    refine lv_lconst (v := 1) K.1 K.2.1 dS_stretches_8 (by decide) ?_
    refine lv_iload_n K.1 K.2.1 dS_stretches_9 rfl (lv_at hL 1 rfl) ?_
    refine lv_lshl K.1 K.2.1 dS_stretches_10 rfl ?_
    refine lv_lor K.1 K.2.1 dS_stretches_11 ?_
    refine lv_lstore (lv' := [(5, .long (v2 ||| ((1 : Int64) <<< (v1.toInt64 &&& 63)))), (0, .ref (ad 20)), (1, .int v1), (2, .long v2), (4, .int v4)]) K.1 K.2.1 dS_stretches_12 hL (by decide) rfl (fun ls hL => ?_)
    refine lv_iconst (v := 0) K.1 K.2.1 dS_stretches_14 (by decide) ?_
    refine lv_istore (lv' := [(7, .int (0 : Int32)), (5, .long (v2 ||| ((1 : Int64) <<< (v1.toInt64 &&& 63)))), (0, .ref (ad 20)), (1, .int v1), (2, .long v2), (4, .int v4)]) K.1 K.2.1 dS_stretches_15 hL (by decide) rfl (fun ls hL => ?_)
    obtain ⟨fu, h⟩ := h
    exact bS_stretches_17 hrec K hr hZ h (lv_sub hL [2, 3, 5, 1, 0] rfl) hP hS
  · have h := h.2 hc
    refine lv_iconst (v := 1) K.1 K.2.1 dS_stretches_5 (by decide) ?_
    obtain ⟨g1, h⟩ := h
    exact x_zret K hr hP hS g1 h dS_stretches_6
set_option maxRecDepth 100000 in
set_option maxHeartbeats 4000000 in
theorem mS_stretches {l : Launch} {d : Nat} {D : va_G} {cI cJ cC cZ cR : ClassId} {ad kd sd vd : Nat → Nat} {kA lA wA : Nat} {A : Nat → Prop} (hZ : ZsOK A (ZX A kd sd vd kA lA wA)) (hD : wlD 64 ad A) {v1 : Int32} {v2 : Int64} {v4 : Int32} {hi : HI} {hl : HL} {Φ : Int32 → HI → HL → Prop} (h : wpS_stretches d v1 v2 v4 hi hl Φ) : SpI l yS_stretches cS_stretches 9 (some .boolean) gT (d + 3) (40 * d + 69) [.ref (ad 20), .int v1, .long v2, .int v4] D cls8 (tys5 cI cJ cC cZ cR) 64 ad (GX cI cJ cC cZ cR ad kd) A (ZX A kd sd vd kA lA wA) hi hl Φ := by
  induction d generalizing v1 v2 v4 hi hl Φ with
  | zero => exact False.elim h
  | succ d ih =>
  have hrec : ∀ {v1 v2 v4 : _} {hi : HI} {hl : HL} {Φ : Int32 → HI → HL → Prop}, wpS_stretches d v1 v2 v4 hi hl Φ → SpI l yS_stretches cS_stretches 9 (some .boolean) gT (d + 3) (40 * d + 69) [.ref (ad 20), .int v1, .long v2, .int v4] D cls8 (tys5 cI cJ cC cZ cR) 64 ad (GX cI cJ cC cZ cR ad kd) A (ZX A kd sd vd kA lA wA) hi hl Φ := fun h => ih h
  refine Met.ofW (cc := cS_stretches) (maxL := 9) (ret := (some .boolean)) (by decide) rfl ?_
  intro p e s m args below meth c s₁ B hml hv
  obtain ⟨rfl, hP, hK, hZs⟩ := hv
  have K : Cx p (rmX (d + 1 + 3) (40 * (d + 1) + 69)) s m _ meth c cS_stretches 9 "WordChecker$Search" gT D cls8 (tys5 cI cJ cC cZ cR) 64 ad A (ZX A kd sd vd kA lA wA) := ⟨B.exec, B.bytes, hml, findClass_of_methodNamed B.named, fun w hw => atoms_spec B.pre w (List.mem_cons_of_mem _ hw), B.notSynchronized, hK, hD, hZs⟩
  have hL := lv_entry ([.ref (ad 20), .int v1, .long v2, .int v4]) (n := 9) (Nat.le_of_ble_eq_true rfl)
  rw [lg_entry_eq]
  generalize (lg_sl ([.ref (ad 20), .int v1, .long v2, .int v4]) ++ List.replicate (9 - (lg_sl ([.ref (ad 20), .int v1, .long v2, .int v4])).length) Slot.unset).toArray = ls at hL ⊢
  have hL : lv_has ls 9 [(0, .ref (ad 20)), (1, .int v1), (2, .long v2), (4, .int v4)] := hL
  unfold wpS_stretches at h
  exact bS_stretches_0 hrec K B.returns hZ h (lv_sub hL [0, 1, 2, 3] rfl) hP va_S.rf
set_option maxRecDepth 100000 in
set_option maxHeartbeats 4000000 in
theorem bS_hasStretch_45 {p : Program} {l : Launch} {e : Env} {s : State} {m : MethodId} {args : Array Value} {below : List Frame} {meth : Method} {c : Code} {D : va_G} {cI cJ cC cZ cR : ClassId} {ad kd sd vd : Nat → Nat} {kA lA wA : Nat} {A : Nat → Prop} (K : Cx p (rmX 9 297) s m args meth c cS_hasStretch 3 "WordChecker$Search" gT D cls8 (tys5 cI cJ cC cZ cR) 64 ad A (ZX A kd sd vd kA lA wA)) (hr : meth.sig.returnType = (some .boolean)) (hZ : ZsOK A (ZX A kd sd vd kA lA wA)) {Φ : Int32 → HI → HL → Prop} {k7 : Int32 → Int32 → HI → HL → Prop} (hk7 : ∀ (v1 : Int32) (v2 : Int32) (hi : HI) (hl : HL) (ls : Array Slot) (H : Heap) (locs : List Loc), k7 v1 v2 hi hl → lv_has ls 3 [(0, .ref (ad 20)), (1, .int v1), (2, .int v2)] → va_P D cls8 (wl 64 ad (GX cI cJ cC cZ cR ad kd) hi hl) H → va_S A s.heap H locs → W p l e (rmX 9 297) s m args below meth c H locs 0 0 (MQ below (va_Qi (fun r (u : HI × HL) => Φ r u.1 u.2) (fun u t => va_P D cls8 (wl 64 ad (GX cI cJ cC cZ cR ad kd) u.1 u.2) t.heap) A) args s 0 0 A) (F0 m 7 ls [])) {v1 : Int32} {v2 : Int32} {hi : HI} {hl : HL} {H : Heap} {locs : List Loc} (h : wbS_hasStretch_45 k7 v1 v2 hi hl Φ) {ls : Array Slot} (hL : lv_has ls 3 [(0, .ref (ad 20)), (1, .int v1), (2, .int v2)]) (hP : va_P D cls8 (wl 64 ad (GX cI cJ cC cZ cR ad kd) hi hl) H) (hS : va_S A s.heap H locs) : W p l e (rmX 9 297) s m args below meth c H locs 0 0 (MQ below (va_Qi (fun r (u : HI × HL) => Φ r u.1 u.2) (fun u t => va_P D cls8 (wl 64 ad (GX cI cJ cC cZ cR ad kd) u.1 u.2) t.heap) A) args s 0 0 A) (F0 m 45 ls []) := by
  unfold wbS_hasStretch_45 at h
  refine lv_iinc (k := 2) (lv' := [(2, .int (v2 + Int32.ofInt (1))), (0, .ref (ad 20)), (1, .int v1)]) K.1 K.2.1 dS_hasStretch_45 hL rfl rfl (by decide) rfl (fun ls hL => ?_)
  refine lv_goto (tgt := 7) K.1 K.2.1 dS_hasStretch_48 rfl ?_
  exact hk7 _ _ _ _ _ _ _ h (lv_sub hL [1, 2, 0] rfl) hP hS
set_option maxRecDepth 100000 in
set_option maxHeartbeats 4000000 in
theorem bS_hasStretch_7 {p : Program} {l : Launch} {e : Env} {s : State} {m : MethodId} {args : Array Value} {below : List Frame} {meth : Method} {c : Code} {D : va_G} {cI cJ cC cZ cR : ClassId} {ad kd sd vd : Nat → Nat} {kA lA wA : Nat} {A : Nat → Prop} (K : Cx p (rmX 9 297) s m args meth c cS_hasStretch 3 "WordChecker$Search" gT D cls8 (tys5 cI cJ cC cZ cR) 64 ad A (ZX A kd sd vd kA lA wA)) (hr : meth.sig.returnType = (some .boolean)) (hZ : ZsOK A (ZX A kd sd vd kA lA wA)) {Φ : Int32 → HI → HL → Prop} {n : Nat} {v1 : Int32} {v2 : Int32} {hi : HI} {hl : HL} {H : Heap} {locs : List Loc} (h : wbS_hasStretch_7 n v1 v2 hi hl Φ) {ls : Array Slot} (hL : lv_has ls 3 [(0, .ref (ad 20)), (1, .int v1), (2, .int v2)]) (hP : va_P D cls8 (wl 64 ad (GX cI cJ cC cZ cR ad kd) hi hl) H) (hS : va_S A s.heap H locs) : W p l e (rmX 9 297) s m args below meth c H locs 0 0 (MQ below (va_Qi (fun r (u : HI × HL) => Φ r u.1 u.2) (fun u t => va_P D cls8 (wl 64 ad (GX cI cJ cC cZ cR ad kd) u.1 u.2) t.heap) A) args s 0 0 A) (F0 m 7 ls []) := by
  induction n generalizing v1 v2 hi hl ls H locs with
  | zero => exact False.elim h
  | succ n ih =>
    unfold wbS_hasStretch_7 at h
    refine lv_iload_n K.1 K.2.1 dS_hasStretch_7 rfl (lv_at hL 2 rfl) ?_
    refine lv_iconst (v := 1) K.1 K.2.1 dS_hasStretch_8 (by decide) ?_
    refine lv_aload_n K.1 K.2.1 dS_hasStretch_9 rfl (lv_at hL 0 rfl) ?_
    refine x_get (v := .ref (ad 5)) K hP hinS (ci := 5) rfl 20 (by decide) rfl 0 (by decide) flS_22 rfl rfl dS_hasStretch_10 ?_
    refine x_getN (v := .int (hi 5 4)) K hP hinB (ci := 2) rfl 5 (by decide) rfl 4 (by decide) (fnS_51 K.2.2.2.2.2.2.2.2) rfl rfl dS_hasStretch_13 ?_
    refine lv_ishl K.1 K.2.1 dS_hasStretch_16 ?_
    refine lv_icmp_ge (tgt := 51) K.1 K.2.1 dS_hasStretch_17 rfl (fun hc => ?_) (fun hc => ?_)
    · have h := h.1 hc
      refine lv_iconst (v := 0) K.1 K.2.1 dS_hasStretch_51 (by decide) ?_
      obtain ⟨g1, h⟩ := h
      exact x_zret K hr hP hS g1 h dS_hasStretch_52
    · have h := h.2 hc
      refine lv_aload_n K.1 K.2.1 dS_hasStretch_20 rfl (lv_at hL 0 rfl) ?_
      refine x_get (v := .ref (ad 21)) K hP hinS (ci := 5) rfl 20 (by decide) rfl 1 (by decide) flS_9 rfl rfl dS_hasStretch_21 ?_
      refine lv_iload_n K.1 K.2.1 dS_hasStretch_24 rfl (lv_at hL 1 rfl) ?_
      obtain ⟨g2, h⟩ := h
      refine x_lald K hP 21 (by decide) 1 rfl rfl g2 dS_hasStretch_25 ?_
      refine lv_iload_n K.1 K.2.1 dS_hasStretch_26 rfl (lv_at hL 2 rfl) ?_
      refine x_cSNI (As := [.long (hl 21 (v1.toNatClampNeg)), .int v2]) (rest := []) K gT_good hZ hP hS calC_has (mnS_64 K.2.2.2.2.2.2.2.2) (mC_has hZ K.2.2.2.2.2.2.2.1 h) ⟨Nat.le_of_ble_eq_true rfl, Nat.le_of_ble_eq_true rfl⟩ rfl hL.1 rfl (Nat.le_of_ble_eq_true rfl) dS_hasStretch_27 (fun r3 hi4 hl5 H locs h hP hS => ?_)
      refine lv_if_eq (tgt := 45) K.1 K.2.1 dS_hasStretch_30 rfl (fun hc => ?_) (fun hc => ?_)
      · have h := h.1 hc
        exact bS_hasStretch_45 K hr hZ (fun v1 v2 hi hl ls H locs h hL hP hS => ih h hL hP hS) h (lv_sub hL [0, 1, 2] rfl) hP hS
      · have h := h.2 hc
        refine lv_aload_n K.1 K.2.1 dS_hasStretch_33 rfl (lv_at hL 0 rfl) ?_
        refine lv_iload_n K.1 K.2.1 dS_hasStretch_34 rfl (lv_at hL 2 rfl) ?_
        refine lv_lconst (v := 0) K.1 K.2.1 dS_hasStretch_35 (by decide) ?_
        refine lv_iload_n K.1 K.2.1 dS_hasStretch_36 rfl (lv_at hL 1 rfl) ?_
        refine x_cVI (As := [.int v2, .long (0 : Int64), .int v1]) (rest := []) K gT_good hZ hP hS calS_stretches mlS_82 20 (by decide) rfl rfl (mS_stretches hZ K.2.2.2.2.2.2.2.1 h) ⟨Nat.le_of_ble_eq_true rfl, Nat.le_of_ble_eq_true rfl⟩ rfl hL.1 rfl (Nat.le_of_ble_eq_true rfl) dS_hasStretch_37 (fun r6 hi7 hl8 H locs h hP hS => ?_)
        refine lv_if_eq (tgt := 45) K.1 K.2.1 dS_hasStretch_40 rfl (fun hc => ?_) (fun hc => ?_)
        · have h := h.1 hc
          exact bS_hasStretch_45 K hr hZ (fun v1 v2 hi hl ls H locs h hL hP hS => ih h hL hP hS) h (lv_sub hL [0, 1, 2] rfl) hP hS
        · have h := h.2 hc
          refine lv_iconst (v := 1) K.1 K.2.1 dS_hasStretch_43 (by decide) ?_
          obtain ⟨g9, h⟩ := h
          exact x_zret K hr hP hS g9 h dS_hasStretch_44
set_option maxRecDepth 100000 in
set_option maxHeartbeats 4000000 in
theorem bS_hasStretch_0 {p : Program} {l : Launch} {e : Env} {s : State} {m : MethodId} {args : Array Value} {below : List Frame} {meth : Method} {c : Code} {D : va_G} {cI cJ cC cZ cR : ClassId} {ad kd sd vd : Nat → Nat} {kA lA wA : Nat} {A : Nat → Prop} (K : Cx p (rmX 9 297) s m args meth c cS_hasStretch 3 "WordChecker$Search" gT D cls8 (tys5 cI cJ cC cZ cR) 64 ad A (ZX A kd sd vd kA lA wA)) (hr : meth.sig.returnType = (some .boolean)) (hZ : ZsOK A (ZX A kd sd vd kA lA wA)) {Φ : Int32 → HI → HL → Prop} {v1 : Int32} {hi : HI} {hl : HL} {H : Heap} {locs : List Loc} (h : wbS_hasStretch_0 v1 hi hl Φ) {ls : Array Slot} (hL : lv_has ls 3 [(0, .ref (ad 20)), (1, .int v1)]) (hP : va_P D cls8 (wl 64 ad (GX cI cJ cC cZ cR ad kd) hi hl) H) (hS : va_S A s.heap H locs) : W p l e (rmX 9 297) s m args below meth c H locs 0 0 (MQ below (va_Qi (fun r (u : HI × HL) => Φ r u.1 u.2) (fun u t => va_P D cls8 (wl 64 ad (GX cI cJ cC cZ cR ad kd) u.1 u.2) t.heap) A) args s 0 0 A) (F0 m 0 ls []) := by
  unfold wbS_hasStretch_0 at h
  refine lv_aload_n K.1 K.2.1 dS_hasStretch_0 rfl (lv_at hL 0 rfl) ?_
  refine lv_iload_n K.1 K.2.1 dS_hasStretch_1 rfl (lv_at hL 1 rfl) ?_
  refine x_cVV (As := [.int v1]) (rest := []) K gT_good hZ hP hS calS_gather mlS_39 20 (by decide) rfl rfl (mS_gather hZ K.2.2.2.2.2.2.2.1 h) ⟨Nat.le_of_ble_eq_true rfl, Nat.le_of_ble_eq_true rfl⟩ rfl hL.1 rfl (Nat.le_of_ble_eq_true rfl) dS_hasStretch_2 (fun hi2 hl3 H locs h hP hS => ?_)
  refine lv_iconst (v := 0) K.1 K.2.1 dS_hasStretch_5 (by decide) ?_
  refine lv_istore_n (lv' := [(2, .int (0 : Int32)), (0, .ref (ad 20)), (1, .int v1)]) K.1 K.2.1 dS_hasStretch_6 rfl hL (by decide) rfl (fun ls hL => ?_)
  obtain ⟨fu, h⟩ := h
  exact bS_hasStretch_7 K hr hZ h (lv_sub hL [1, 2, 0] rfl) hP hS
set_option maxRecDepth 100000 in
set_option maxHeartbeats 4000000 in
theorem mS_hasStretch {l : Launch} {D : va_G} {cI cJ cC cZ cR : ClassId} {ad kd sd vd : Nat → Nat} {kA lA wA : Nat} {A : Nat → Prop} (hZ : ZsOK A (ZX A kd sd vd kA lA wA)) (hD : wlD 64 ad A) {v1 : Int32} {hi : HI} {hl : HL} {Φ : Int32 → HI → HL → Prop} (h : wpS_hasStretch v1 hi hl Φ) : SpI l yS_hasStretch cS_hasStretch 3 (some .boolean) gT 9 297 [.ref (ad 20), .int v1] D cls8 (tys5 cI cJ cC cZ cR) 64 ad (GX cI cJ cC cZ cR ad kd) A (ZX A kd sd vd kA lA wA) hi hl Φ := by
  refine Met.ofW (cc := cS_hasStretch) (maxL := 3) (ret := (some .boolean)) (by decide) rfl ?_
  intro p e s m args below meth c s₁ B hml hv
  obtain ⟨rfl, hP, hK, hZs⟩ := hv
  have K : Cx p (rmX 9 297) s m _ meth c cS_hasStretch 3 "WordChecker$Search" gT D cls8 (tys5 cI cJ cC cZ cR) 64 ad A (ZX A kd sd vd kA lA wA) := ⟨B.exec, B.bytes, hml, findClass_of_methodNamed B.named, fun w hw => atoms_spec B.pre w (List.mem_cons_of_mem _ hw), B.notSynchronized, hK, hD, hZs⟩
  have hL := lv_entry ([.ref (ad 20), .int v1]) (n := 3) (Nat.le_of_ble_eq_true rfl)
  rw [lg_entry_eq]
  generalize (lg_sl ([.ref (ad 20), .int v1]) ++ List.replicate (3 - (lg_sl ([.ref (ad 20), .int v1])).length) Slot.unset).toArray = ls at hL ⊢
  have hL : lv_has ls 3 [(0, .ref (ad 20)), (1, .int v1)] := hL
  unfold wpS_hasStretch at h
  exact bS_hasStretch_0 K B.returns hZ h (lv_sub hL [0, 1] rfl) hP va_S.rf
set_option maxRecDepth 100000 in
set_option maxHeartbeats 4000000 in
theorem bC_prove_0 {p : Program} {l : Launch} {e : Env} {s : State} {m : MethodId} {args : Array Value} {below : List Frame} {meth : Method} {c : Code} {D : va_G} {cI cJ cC cZ cR : ClassId} {ad kd sd vd : Nat → Nat} {kA lA wA : Nat} {A : Nat → Prop} (K : Cx p (rmX 10 319) s m args meth c cC_prove 2 "WordChecker" gT D cls8 (tys5 cI cJ cC cZ cR) 64 ad A (ZX A kd sd vd kA lA wA)) (hr : meth.sig.returnType = (some .int)) (hZ : ZsOK A (ZX A kd sd vd kA lA wA)) {Φ : Int32 → HI → HL → Prop} {v1 : Int32} {hi : HI} {hl : HL} {H : Heap} {locs : List Loc} (h : wbC_prove_0 v1 hi hl Φ) {ls : Array Slot} (hL : lv_has ls 2 [(0, .ref (ad 0)), (1, .int v1)]) (hP : va_P D cls8 (wl 64 ad (GX cI cJ cC cZ cR ad kd) hi hl) H) (hS : va_S A s.heap H locs) : W p l e (rmX 10 319) s m args below meth c H locs 0 0 (MQ below (va_Qi (fun r (u : HI × HL) => Φ r u.1 u.2) (fun u t => va_P D cls8 (wl 64 ad (GX cI cJ cC cZ cR ad kd) u.1 u.2) t.heap) A) args s 0 0 A) (F0 m 0 ls []) := by
  unfold wbC_prove_0 at h
  refine lv_iload_n K.1 K.2.1 dC_prove_0 rfl (lv_at hL 1 rfl) ?_
  refine lv_if_lt (tgt := 9) K.1 K.2.1 dC_prove_1 rfl (fun hc => ?_) (fun hc => ?_)
  · have h := h.1 hc
    refine lv_bipush (v := -2) K.1 K.2.1 dC_prove_9 (by decide) ?_
    exact x_iret K hr hP hS h dC_prove_11
  · have h := h.2 hc
    refine lv_iload_n K.1 K.2.1 dC_prove_4 rfl (lv_at hL 1 rfl) ?_
    refine lv_iconst (v := 2) K.1 K.2.1 dC_prove_5 (by decide) ?_
    refine lv_icmp_le (tgt := 12) K.1 K.2.1 dC_prove_6 rfl (fun hc => ?_) (fun hc => ?_)
    · have h := h.1 hc
      refine lv_aload_n K.1 K.2.1 dC_prove_12 rfl (lv_at hL 0 rfl) ?_
      refine x_get (v := .ref (ad 20)) K hP hinC (ci := 0) rfl 0 (by decide) rfl 3 (by decide) flC_37 rfl rfl dC_prove_13 ?_
      refine lv_iload_n K.1 K.2.1 dC_prove_16 rfl (lv_at hL 1 rfl) ?_
      refine x_cVI (As := [.int v1]) (rest := []) K gT_good hZ hP hS calS_leastBad mlC_94 20 (by decide) rfl rfl (mS_leastBad hZ K.2.2.2.2.2.2.2.1 h) ⟨Nat.le_of_ble_eq_true rfl, Nat.le_of_ble_eq_true rfl⟩ rfl hL.1 rfl (Nat.le_of_ble_eq_true rfl) dC_prove_17 (fun r1 hi2 hl3 H locs h hP hS => ?_)
      refine lv_iconst (v := -1) K.1 K.2.1 dC_prove_20 (by decide) ?_
      refine lv_icmp_eq (tgt := 26) K.1 K.2.1 dC_prove_21 rfl (fun hc => ?_) (fun hc => ?_)
      · have h := h.1 hc
        refine lv_aload_n K.1 K.2.1 dC_prove_26 rfl (lv_at hL 0 rfl) ?_
        refine x_get (v := .ref (ad 20)) K hP hinC (ci := 0) rfl 0 (by decide) rfl 3 (by decide) flC_37 rfl rfl dC_prove_27 ?_
        refine lv_iload_n K.1 K.2.1 dC_prove_30 rfl (lv_at hL 1 rfl) ?_
        refine lv_iconst (v := 1) K.1 K.2.1 dC_prove_31 (by decide) ?_
        refine lv_iadd K.1 K.2.1 dC_prove_32 ?_
        refine x_cVI (As := [.int (v1 + (1 : Int32))]) (rest := []) K gT_good hZ hP hS calS_hasStretch mlC_107 20 (by decide) rfl rfl (mS_hasStretch hZ K.2.2.2.2.2.2.2.1 h) ⟨Nat.le_of_ble_eq_true rfl, Nat.le_of_ble_eq_true rfl⟩ rfl hL.1 rfl (Nat.le_of_ble_eq_true rfl) dC_prove_33 (fun r4 hi5 hl6 H locs h hP hS => ?_)
        refine lv_if_eq (tgt := 43) K.1 K.2.1 dC_prove_36 rfl (fun hc => ?_) (fun hc => ?_)
        · have h := h.1 hc
          refine lv_iconst (v := 1) K.1 K.2.1 dC_prove_43 (by decide) ?_
          exact x_iret K hr hP hS h dC_prove_44
        · have h := h.2 hc
          refine lv_iconst (v := 0) K.1 K.2.1 dC_prove_39 (by decide) ?_
          refine lv_goto (tgt := 44) K.1 K.2.1 dC_prove_40 rfl ?_
          exact x_iret K hr hP hS h dC_prove_44
      · have h := h.2 hc
        refine lv_iconst (v := 2) K.1 K.2.1 dC_prove_24 (by decide) ?_
        exact x_iret K hr hP hS h dC_prove_25
    · have h := h.2 hc
      refine lv_bipush (v := -2) K.1 K.2.1 dC_prove_9 (by decide) ?_
      exact x_iret K hr hP hS h dC_prove_11
set_option maxRecDepth 100000 in
set_option maxHeartbeats 4000000 in
theorem mC_prove {l : Launch} {D : va_G} {cI cJ cC cZ cR : ClassId} {ad kd sd vd : Nat → Nat} {kA lA wA : Nat} {A : Nat → Prop} (hZ : ZsOK A (ZX A kd sd vd kA lA wA)) (hD : wlD 64 ad A) {v1 : Int32} {hi : HI} {hl : HL} {Φ : Int32 → HI → HL → Prop} (h : wpC_prove v1 hi hl Φ) : SpI l yC_prove cC_prove 2 (some .int) gT 10 319 [.ref (ad 0), .int v1] D cls8 (tys5 cI cJ cC cZ cR) 64 ad (GX cI cJ cC cZ cR ad kd) A (ZX A kd sd vd kA lA wA) hi hl Φ := by
  refine Met.ofW (cc := cC_prove) (maxL := 2) (ret := (some .int)) (by decide) rfl ?_
  intro p e s m args below meth c s₁ B hml hv
  obtain ⟨rfl, hP, hK, hZs⟩ := hv
  have K : Cx p (rmX 10 319) s m _ meth c cC_prove 2 "WordChecker" gT D cls8 (tys5 cI cJ cC cZ cR) 64 ad A (ZX A kd sd vd kA lA wA) := ⟨B.exec, B.bytes, hml, findClass_of_methodNamed B.named, fun w hw => atoms_spec B.pre w (List.mem_cons_of_mem _ hw), B.notSynchronized, hK, hD, hZs⟩
  have hL := lv_entry ([.ref (ad 0), .int v1]) (n := 2) (Nat.le_of_ble_eq_true rfl)
  rw [lg_entry_eq]
  generalize (lg_sl ([.ref (ad 0), .int v1]) ++ List.replicate (2 - (lg_sl ([.ref (ad 0), .int v1])).length) Slot.unset).toArray = ls at hL ⊢
  have hL : lv_has ls 2 [(0, .ref (ad 0)), (1, .int v1)] := hL
  unfold wpC_prove at h
  exact bC_prove_0 K B.returns hZ h (lv_sub hL [0, 1] rfl) hP va_S.rf
