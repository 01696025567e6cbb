/-! M: compute (printed by wip/whole/pure/compute.py) -/
theorem c111_3 {d hm : HI} {n : Nat} {hl : HL} {Φ : Int32 → HI → HL → Prop} {v : Nat → Nat} (hW : WL d n) (hR : RL d hm n) (k : Nat) (hv : VL d hm k v) (hV : VR d k v) (hk : k < n) (e5 : d 5 k = 3) (hL : LK d 3 k) (x y wide : Int32) (h : Φ (opM 3 (nI (wdt (nk d k))) wide (nI (wdt (nk d (oix d k 8)))) (d 14 k) (d 13 k) x y (nI (gv d v k 9))) hm hl) : wbM_compute_111 (nI k) x y (nI (wdt (nk d k))) ((1 : Int32) <<< (nI (wdt (nk d k)) &&& 31) - 1) wide hm hl Φ := by
  have hn := hW.1
  have hvk : vp_in (nI k) 21 := vp_in_nI (by omega) (by omega)
  have hck : (nI k).toNatClampNeg = k := nI_clamp (by omega)
  have r5 : hm 5 k = 3 := by rw [hR.2 5 (by omega) (by omega) k hk, e5]
  have r13 := hR.2 13 (by omega) (by omega) k hk
  have r14 := hR.2 14 (by omega) (by omega) k hk
  have r8 := hR.2 8 (by omega) (by omega) k hk
  have r9 := hR.2 9 (by omega) (by omega) k hk
  have r12 := hR.2 12 (by omega) (by omega) k hk
  have r6 := hR.2 6 (by omega) (by omega) k hk
  unfold wbM_compute_111
  rw [hck, r5]
  refine ⟨hvk, ?_⟩
  simp (decide := true) only [false_implies, true_implies, and_true, true_and, not_true, not_false_eq_true]
  simp (decide := true) only [opM, ↓reduceIte] at h
  rw [r13]
  exact ⟨hvk, h⟩
theorem c111_4 {d hm : HI} {n : Nat} {hl : HL} {Φ : Int32 → HI → HL → Prop} {v : Nat → Nat} (hW : WL d n) (hR : RL d hm n) (k : Nat) (hv : VL d hm k v) (hV : VR d k v) (hk : k < n) (e5 : d 5 k = 4) (hL : LK d 4 k) (x y wide : Int32) (h : Φ (opM 4 (nI (wdt (nk d k))) wide (nI (wdt (nk d (oix d k 8)))) (d 14 k) (d 13 k) x y (nI (gv d v k 9))) hm hl) : wbM_compute_111 (nI k) x y (nI (wdt (nk d k))) ((1 : Int32) <<< (nI (wdt (nk d k)) &&& 31) - 1) wide hm hl Φ := by
  have hn := hW.1
  have hvk : vp_in (nI k) 21 := vp_in_nI (by omega) (by omega)
  have hck : (nI k).toNatClampNeg = k := nI_clamp (by omega)
  have r5 : hm 5 k = 4 := by rw [hR.2 5 (by omega) (by omega) k hk, e5]
  have r13 := hR.2 13 (by omega) (by omega) k hk
  have r14 := hR.2 14 (by omega) (by omega) k hk
  have r8 := hR.2 8 (by omega) (by omega) k hk
  have r9 := hR.2 9 (by omega) (by omega) k hk
  have r12 := hR.2 12 (by omega) (by omega) k hk
  have r6 := hR.2 6 (by omega) (by omega) k hk
  unfold wbM_compute_111
  rw [hck, r5]
  refine ⟨hvk, ?_⟩
  simp (decide := true) only [false_implies, true_implies, and_true, true_and, not_true, not_false_eq_true]
  simp (decide := true) only [opM, ↓reduceIte] at h
  exact h
theorem c111_5 {d hm : HI} {n : Nat} {hl : HL} {Φ : Int32 → HI → HL → Prop} {v : Nat → Nat} (hW : WL d n) (hR : RL d hm n) (k : Nat) (hv : VL d hm k v) (hV : VR d k v) (hk : k < n) (e5 : d 5 k = 5) (hL : LK d 5 k) (x y wide : Int32) (h : Φ (opM 5 (nI (wdt (nk d k))) wide (nI (wdt (nk d (oix d k 8)))) (d 14 k) (d 13 k) x y (nI (gv d v k 9))) hm hl) : wbM_compute_111 (nI k) x y (nI (wdt (nk d k))) ((1 : Int32) <<< (nI (wdt (nk d k)) &&& 31) - 1) wide hm hl Φ := by
  have hn := hW.1
  have hvk : vp_in (nI k) 21 := vp_in_nI (by omega) (by omega)
  have hck : (nI k).toNatClampNeg = k := nI_clamp (by omega)
  have r5 : hm 5 k = 5 := by rw [hR.2 5 (by omega) (by omega) k hk, e5]
  have r13 := hR.2 13 (by omega) (by omega) k hk
  have r14 := hR.2 14 (by omega) (by omega) k hk
  have r8 := hR.2 8 (by omega) (by omega) k hk
  have r9 := hR.2 9 (by omega) (by omega) k hk
  have r12 := hR.2 12 (by omega) (by omega) k hk
  have r6 := hR.2 6 (by omega) (by omega) k hk
  unfold wbM_compute_111
  rw [hck, r5]
  refine ⟨hvk, ?_⟩
  simp (decide := true) only [false_implies, true_implies, and_true, true_and, not_true, not_false_eq_true]
  simp (decide := true) only [opM, ↓reduceIte] at h
  exact h
theorem c111_6 {d hm : HI} {n : Nat} {hl : HL} {Φ : Int32 → HI → HL → Prop} {v : Nat → Nat} (hW : WL d n) (hR : RL d hm n) (k : Nat) (hv : VL d hm k v) (hV : VR d k v) (hk : k < n) (e5 : d 5 k = 6) (hL : LK d 6 k) (x y wide : Int32) (h : Φ (opM 6 (nI (wdt (nk d k))) wide (nI (wdt (nk d (oix d k 8)))) (d 14 k) (d 13 k) x y (nI (gv d v k 9))) hm hl) : wbM_compute_111 (nI k) x y (nI (wdt (nk d k))) ((1 : Int32) <<< (nI (wdt (nk d k)) &&& 31) - 1) wide hm hl Φ := by
  have hn := hW.1
  have hvk : vp_in (nI k) 21 := vp_in_nI (by omega) (by omega)
  have hck : (nI k).toNatClampNeg = k := nI_clamp (by omega)
  have r5 : hm 5 k = 6 := by rw [hR.2 5 (by omega) (by omega) k hk, e5]
  have r13 := hR.2 13 (by omega) (by omega) k hk
  have r14 := hR.2 14 (by omega) (by omega) k hk
  have r8 := hR.2 8 (by omega) (by omega) k hk
  have r9 := hR.2 9 (by omega) (by omega) k hk
  have r12 := hR.2 12 (by omega) (by omega) k hk
  have r6 := hR.2 6 (by omega) (by omega) k hk
  unfold wbM_compute_111
  rw [hck, r5]
  refine ⟨hvk, ?_⟩
  simp (decide := true) only [false_implies, true_implies, and_true, true_and, not_true, not_false_eq_true]
  simp (decide := true) only [opM, ↓reduceIte] at h
  by_cases q : x = 0
  · rw [if_pos q] at h; exact br_t q h
  · rw [if_neg q] at h; exact br_f q h
theorem c111_7 {d hm : HI} {n : Nat} {hl : HL} {Φ : Int32 → HI → HL → Prop} {v : Nat → Nat} (hW : WL d n) (hR : RL d hm n) (k : Nat) (hv : VL d hm k v) (hV : VR d k v) (hk : k < n) (e5 : d 5 k = 7) (hL : LK d 7 k) (x y wide : Int32) (h : Φ (opM 7 (nI (wdt (nk d k))) wide (nI (wdt (nk d (oix d k 8)))) (d 14 k) (d 13 k) x y (nI (gv d v k 9))) hm hl) : wbM_compute_111 (nI k) x y (nI (wdt (nk d k))) ((1 : Int32) <<< (nI (wdt (nk d k)) &&& 31) - 1) wide hm hl Φ := by
  have hn := hW.1
  have hvk : vp_in (nI k) 21 := vp_in_nI (by omega) (by omega)
  have hck : (nI k).toNatClampNeg = k := nI_clamp (by omega)
  have r5 : hm 5 k = 7 := by rw [hR.2 5 (by omega) (by omega) k hk, e5]
  have r13 := hR.2 13 (by omega) (by omega) k hk
  have r14 := hR.2 14 (by omega) (by omega) k hk
  have r8 := hR.2 8 (by omega) (by omega) k hk
  have r9 := hR.2 9 (by omega) (by omega) k hk
  have r12 := hR.2 12 (by omega) (by omega) k hk
  have r6 := hR.2 6 (by omega) (by omega) k hk
  unfold wbM_compute_111
  rw [hck, r5]
  refine ⟨hvk, ?_⟩
  simp (decide := true) only [false_implies, true_implies, and_true, true_and, not_true, not_false_eq_true]
  simp (decide := true) only [opM, ↓reduceIte] at h
  refine ⟨hvk, ?_⟩
  unfold wpM_binary wbM_binary_0
  simp (decide := true) only [false_implies, true_implies, and_true, true_and, not_true, not_false_eq_true]
  exact h
theorem c111_8 {d hm : HI} {n : Nat} {hl : HL} {Φ : Int32 → HI → HL → Prop} {v : Nat → Nat} (hW : WL d n) (hR : RL d hm n) (k : Nat) (hv : VL d hm k v) (hV : VR d k v) (hk : k < n) (e5 : d 5 k = 8) (hL : LK d 8 k) (x y wide : Int32) (h : Φ (opM 8 (nI (wdt (nk d k))) wide (nI (wdt (nk d (oix d k 8)))) (d 14 k) (d 13 k) x y (nI (gv d v k 9))) hm hl) : wbM_compute_111 (nI k) x y (nI (wdt (nk d k))) ((1 : Int32) <<< (nI (wdt (nk d k)) &&& 31) - 1) wide hm hl Φ := by
  have hn := hW.1
  have hvk : vp_in (nI k) 21 := vp_in_nI (by omega) (by omega)
  have hck : (nI k).toNatClampNeg = k := nI_clamp (by omega)
  have r5 : hm 5 k = 8 := by rw [hR.2 5 (by omega) (by omega) k hk, e5]
  have r13 := hR.2 13 (by omega) (by omega) k hk
  have r14 := hR.2 14 (by omega) (by omega) k hk
  have r8 := hR.2 8 (by omega) (by omega) k hk
  have r9 := hR.2 9 (by omega) (by omega) k hk
  have r12 := hR.2 12 (by omega) (by omega) k hk
  have r6 := hR.2 6 (by omega) (by omega) k hk
  unfold wbM_compute_111
  rw [hck, r5]
  refine ⟨hvk, ?_⟩
  simp (decide := true) only [false_implies, true_implies, and_true, true_and, not_true, not_false_eq_true]
  simp (decide := true) only [opM, ↓reduceIte] at h
  refine ⟨hvk, ?_⟩
  unfold wpM_binary wbM_binary_0
  simp (decide := true) only [false_implies, true_implies, and_true, true_and, not_true, not_false_eq_true]
  exact h
theorem c111_9 {d hm : HI} {n : Nat} {hl : HL} {Φ : Int32 → HI → HL → Prop} {v : Nat → Nat} (hW : WL d n) (hR : RL d hm n) (k : Nat) (hv : VL d hm k v) (hV : VR d k v) (hk : k < n) (e5 : d 5 k = 9) (hL : LK d 9 k) (x y wide : Int32) (h : Φ (opM 9 (nI (wdt (nk d k))) wide (nI (wdt (nk d (oix d k 8)))) (d 14 k) (d 13 k) x y (nI (gv d v k 9))) hm hl) : wbM_compute_111 (nI k) x y (nI (wdt (nk d k))) ((1 : Int32) <<< (nI (wdt (nk d k)) &&& 31) - 1) wide hm hl Φ := by
  have hn := hW.1
  have hvk : vp_in (nI k) 21 := vp_in_nI (by omega) (by omega)
  have hck : (nI k).toNatClampNeg = k := nI_clamp (by omega)
  have r5 : hm 5 k = 9 := by rw [hR.2 5 (by omega) (by omega) k hk, e5]
  have r13 := hR.2 13 (by omega) (by omega) k hk
  have r14 := hR.2 14 (by omega) (by omega) k hk
  have r8 := hR.2 8 (by omega) (by omega) k hk
  have r9 := hR.2 9 (by omega) (by omega) k hk
  have r12 := hR.2 12 (by omega) (by omega) k hk
  have r6 := hR.2 6 (by omega) (by omega) k hk
  unfold wbM_compute_111
  rw [hck, r5]
  refine ⟨hvk, ?_⟩
  simp (decide := true) only [false_implies, true_implies, and_true, true_and, not_true, not_false_eq_true]
  simp (decide := true) only [opM, ↓reduceIte] at h
  refine ⟨hvk, ?_⟩
  unfold wpM_binary wbM_binary_0
  simp (decide := true) only [false_implies, true_implies, and_true, true_and, not_true, not_false_eq_true]
  exact h
theorem c111_10 {d hm : HI} {n : Nat} {hl : HL} {Φ : Int32 → HI → HL → Prop} {v : Nat → Nat} (hW : WL d n) (hR : RL d hm n) (k : Nat) (hv : VL d hm k v) (hV : VR d k v) (hk : k < n) (e5 : d 5 k = 10) (hL : LK d 10 k) (x y wide : Int32) (h : Φ (opM 10 (nI (wdt (nk d k))) wide (nI (wdt (nk d (oix d k 8)))) (d 14 k) (d 13 k) x y (nI (gv d v k 9))) hm hl) : wbM_compute_111 (nI k) x y (nI (wdt (nk d k))) ((1 : Int32) <<< (nI (wdt (nk d k)) &&& 31) - 1) wide hm hl Φ := by
  have hn := hW.1
  have hvk : vp_in (nI k) 21 := vp_in_nI (by omega) (by omega)
  have hck : (nI k).toNatClampNeg = k := nI_clamp (by omega)
  have r5 : hm 5 k = 10 := by rw [hR.2 5 (by omega) (by omega) k hk, e5]
  have r13 := hR.2 13 (by omega) (by omega) k hk
  have r14 := hR.2 14 (by omega) (by omega) k hk
  have r8 := hR.2 8 (by omega) (by omega) k hk
  have r9 := hR.2 9 (by omega) (by omega) k hk
  have r12 := hR.2 12 (by omega) (by omega) k hk
  have r6 := hR.2 6 (by omega) (by omega) k hk
  unfold wbM_compute_111
  rw [hck, r5]
  refine ⟨hvk, ?_⟩
  simp (decide := true) only [false_implies, true_implies, and_true, true_and, not_true, not_false_eq_true]
  simp (decide := true) only [opM, ↓reduceIte] at h
  refine ⟨hvk, ?_⟩
  unfold wpM_binary wbM_binary_0
  simp (decide := true) only [false_implies, true_implies, and_true, true_and, not_true, not_false_eq_true]
  exact h
theorem c111_11 {d hm : HI} {n : Nat} {hl : HL} {Φ : Int32 → HI → HL → Prop} {v : Nat → Nat} (hW : WL d n) (hR : RL d hm n) (k : Nat) (hv : VL d hm k v) (hV : VR d k v) (hk : k < n) (e5 : d 5 k = 11) (hL : LK d 11 k) (x y wide : Int32) (h : Φ (opM 11 (nI (wdt (nk d k))) wide (nI (wdt (nk d (oix d k 8)))) (d 14 k) (d 13 k) x y (nI (gv d v k 9))) hm hl) : wbM_compute_111 (nI k) x y (nI (wdt (nk d k))) ((1 : Int32) <<< (nI (wdt (nk d k)) &&& 31) - 1) wide hm hl Φ := by
  have hn := hW.1
  have hvk : vp_in (nI k) 21 := vp_in_nI (by omega) (by omega)
  have hck : (nI k).toNatClampNeg = k := nI_clamp (by omega)
  have r5 : hm 5 k = 11 := by rw [hR.2 5 (by omega) (by omega) k hk, e5]
  have r13 := hR.2 13 (by omega) (by omega) k hk
  have r14 := hR.2 14 (by omega) (by omega) k hk
  have r8 := hR.2 8 (by omega) (by omega) k hk
  have r9 := hR.2 9 (by omega) (by omega) k hk
  have r12 := hR.2 12 (by omega) (by omega) k hk
  have r6 := hR.2 6 (by omega) (by omega) k hk
  unfold wbM_compute_111
  rw [hck, r5]
  refine ⟨hvk, ?_⟩
  simp (decide := true) only [false_implies, true_implies, and_true, true_and, not_true, not_false_eq_true]
  simp (decide := true) only [opM, ↓reduceIte] at h
  refine ⟨hvk, ?_⟩
  unfold wpM_binary wbM_binary_0
  simp (decide := true) only [false_implies, true_implies, and_true, true_and, not_true, not_false_eq_true]
  exact h
theorem c111_12 {d hm : HI} {n : Nat} {hl : HL} {Φ : Int32 → HI → HL → Prop} {v : Nat → Nat} (hW : WL d n) (hR : RL d hm n) (k : Nat) (hv : VL d hm k v) (hV : VR d k v) (hk : k < n) (e5 : d 5 k = 12) (hL : LK d 12 k) (x y wide : Int32) (h : Φ (opM 12 (nI (wdt (nk d k))) wide (nI (wdt (nk d (oix d k 8)))) (d 14 k) (d 13 k) x y (nI (gv d v k 9))) hm hl) : wbM_compute_111 (nI k) x y (nI (wdt (nk d k))) ((1 : Int32) <<< (nI (wdt (nk d k)) &&& 31) - 1) wide hm hl Φ := by
  have hn := hW.1
  have hvk : vp_in (nI k) 21 := vp_in_nI (by omega) (by omega)
  have hck : (nI k).toNatClampNeg = k := nI_clamp (by omega)
  have r5 : hm 5 k = 12 := by rw [hR.2 5 (by omega) (by omega) k hk, e5]
  have r13 := hR.2 13 (by omega) (by omega) k hk
  have r14 := hR.2 14 (by omega) (by omega) k hk
  have r8 := hR.2 8 (by omega) (by omega) k hk
  have r9 := hR.2 9 (by omega) (by omega) k hk
  have r12 := hR.2 12 (by omega) (by omega) k hk
  have r6 := hR.2 6 (by omega) (by omega) k hk
  unfold wbM_compute_111
  rw [hck, r5]
  refine ⟨hvk, ?_⟩
  simp (decide := true) only [false_implies, true_implies, and_true, true_and, not_true, not_false_eq_true]
  simp (decide := true) only [opM, ↓reduceIte] at h
  refine ⟨hvk, ?_⟩
  unfold wpM_binary wbM_binary_0
  simp (decide := true) only [false_implies, true_implies, and_true, true_and, not_true, not_false_eq_true]
  exact h
theorem c111_13 {d hm : HI} {n : Nat} {hl : HL} {Φ : Int32 → HI → HL → Prop} {v : Nat → Nat} (hW : WL d n) (hR : RL d hm n) (k : Nat) (hv : VL d hm k v) (hV : VR d k v) (hk : k < n) (e5 : d 5 k = 13) (hL : LK d 13 k) (x y wide : Int32) (h : Φ (opM 13 (nI (wdt (nk d k))) wide (nI (wdt (nk d (oix d k 8)))) (d 14 k) (d 13 k) x y (nI (gv d v k 9))) hm hl) : wbM_compute_111 (nI k) x y (nI (wdt (nk d k))) ((1 : Int32) <<< (nI (wdt (nk d k)) &&& 31) - 1) wide hm hl Φ := by
  have hn := hW.1
  have hvk : vp_in (nI k) 21 := vp_in_nI (by omega) (by omega)
  have hck : (nI k).toNatClampNeg = k := nI_clamp (by omega)
  have r5 : hm 5 k = 13 := by rw [hR.2 5 (by omega) (by omega) k hk, e5]
  have r13 := hR.2 13 (by omega) (by omega) k hk
  have r14 := hR.2 14 (by omega) (by omega) k hk
  have r8 := hR.2 8 (by omega) (by omega) k hk
  have r9 := hR.2 9 (by omega) (by omega) k hk
  have r12 := hR.2 12 (by omega) (by omega) k hk
  have r6 := hR.2 6 (by omega) (by omega) k hk
  unfold wbM_compute_111
  rw [hck, r5]
  refine ⟨hvk, ?_⟩
  simp (decide := true) only [false_implies, true_implies, and_true, true_and, not_true, not_false_eq_true]
  simp (decide := true) only [opM, ↓reduceIte] at h
  refine ⟨hvk, ?_⟩
  unfold wpM_binary wbM_binary_0
  simp (decide := true) only [false_implies, true_implies, and_true, true_and, not_true, not_false_eq_true]
  by_cases q : y = 0
  · rw [if_pos q] at h; exact br_t q h
  · rw [if_neg q] at h; exact br_f q ⟨q, h⟩
theorem c111_14 {d hm : HI} {n : Nat} {hl : HL} {Φ : Int32 → HI → HL → Prop} {v : Nat → Nat} (hW : WL d n) (hR : RL d hm n) (k : Nat) (hv : VL d hm k v) (hV : VR d k v) (hk : k < n) (e5 : d 5 k = 14) (hL : LK d 14 k) (x y wide : Int32) (h : Φ (opM 14 (nI (wdt (nk d k))) wide (nI (wdt (nk d (oix d k 8)))) (d 14 k) (d 13 k) x y (nI (gv d v k 9))) hm hl) : wbM_compute_111 (nI k) x y (nI (wdt (nk d k))) ((1 : Int32) <<< (nI (wdt (nk d k)) &&& 31) - 1) wide hm hl Φ := by
  have hn := hW.1
  have hvk : vp_in (nI k) 21 := vp_in_nI (by omega) (by omega)
  have hck : (nI k).toNatClampNeg = k := nI_clamp (by omega)
  have r5 : hm 5 k = 14 := by rw [hR.2 5 (by omega) (by omega) k hk, e5]
  have r13 := hR.2 13 (by omega) (by omega) k hk
  have r14 := hR.2 14 (by omega) (by omega) k hk
  have r8 := hR.2 8 (by omega) (by omega) k hk
  have r9 := hR.2 9 (by omega) (by omega) k hk
  have r12 := hR.2 12 (by omega) (by omega) k hk
  have r6 := hR.2 6 (by omega) (by omega) k hk
  unfold wbM_compute_111
  rw [hck, r5]
  refine ⟨hvk, ?_⟩
  simp (decide := true) only [false_implies, true_implies, and_true, true_and, not_true, not_false_eq_true]
  simp (decide := true) only [opM, ↓reduceIte] at h
  refine ⟨hvk, ?_⟩
  unfold wpM_binary wbM_binary_0
  simp (decide := true) only [false_implies, true_implies, and_true, true_and, not_true, not_false_eq_true]
  by_cases q : y = 0
  · rw [if_pos q] at h; exact br_t q h
  · rw [if_neg q] at h; exact br_f q ⟨q, h⟩
theorem c111_15 {d hm : HI} {n : Nat} {hl : HL} {Φ : Int32 → HI → HL → Prop} {v : Nat → Nat} (hW : WL d n) (hR : RL d hm n) (k : Nat) (hv : VL d hm k v) (hV : VR d k v) (hk : k < n) (e5 : d 5 k = 15) (hL : LK d 15 k) (x y wide : Int32) (h : Φ (opM 15 (nI (wdt (nk d k))) wide (nI (wdt (nk d (oix d k 8)))) (d 14 k) (d 13 k) x y (nI (gv d v k 9))) hm hl) : wbM_compute_111 (nI k) x y (nI (wdt (nk d k))) ((1 : Int32) <<< (nI (wdt (nk d k)) &&& 31) - 1) wide hm hl Φ := by
  have hn := hW.1
  have hvk : vp_in (nI k) 21 := vp_in_nI (by omega) (by omega)
  have hck : (nI k).toNatClampNeg = k := nI_clamp (by omega)
  have r5 : hm 5 k = 15 := by rw [hR.2 5 (by omega) (by omega) k hk, e5]
  have r13 := hR.2 13 (by omega) (by omega) k hk
  have r14 := hR.2 14 (by omega) (by omega) k hk
  have r8 := hR.2 8 (by omega) (by omega) k hk
  have r9 := hR.2 9 (by omega) (by omega) k hk
  have r12 := hR.2 12 (by omega) (by omega) k hk
  have r6 := hR.2 6 (by omega) (by omega) k hk
  unfold wbM_compute_111
  rw [hck, r5]
  refine ⟨hvk, ?_⟩
  simp (decide := true) only [false_implies, true_implies, and_true, true_and, not_true, not_false_eq_true]
  simp (decide := true) only [opM, ↓reduceIte] at h
  refine ⟨hvk, ?_⟩
  unfold wpM_binary wbM_binary_0
  simp (decide := true) only [false_implies, true_implies, and_true, true_and, not_true, not_false_eq_true]
  exact h
theorem c111_16 {d hm : HI} {n : Nat} {hl : HL} {Φ : Int32 → HI → HL → Prop} {v : Nat → Nat} (hW : WL d n) (hR : RL d hm n) (k : Nat) (hv : VL d hm k v) (hV : VR d k v) (hk : k < n) (e5 : d 5 k = 16) (hL : LK d 16 k) (x y wide : Int32) (h : Φ (opM 16 (nI (wdt (nk d k))) wide (nI (wdt (nk d (oix d k 8)))) (d 14 k) (d 13 k) x y (nI (gv d v k 9))) hm hl) : wbM_compute_111 (nI k) x y (nI (wdt (nk d k))) ((1 : Int32) <<< (nI (wdt (nk d k)) &&& 31) - 1) wide hm hl Φ := by
  have hn := hW.1
  have hvk : vp_in (nI k) 21 := vp_in_nI (by omega) (by omega)
  have hck : (nI k).toNatClampNeg = k := nI_clamp (by omega)
  have r5 : hm 5 k = 16 := by rw [hR.2 5 (by omega) (by omega) k hk, e5]
  have r13 := hR.2 13 (by omega) (by omega) k hk
  have r14 := hR.2 14 (by omega) (by omega) k hk
  have r8 := hR.2 8 (by omega) (by omega) k hk
  have r9 := hR.2 9 (by omega) (by omega) k hk
  have r12 := hR.2 12 (by omega) (by omega) k hk
  have r6 := hR.2 6 (by omega) (by omega) k hk
  unfold wbM_compute_111
  rw [hck, r5]
  refine ⟨hvk, ?_⟩
  simp (decide := true) only [false_implies, true_implies, and_true, true_and, not_true, not_false_eq_true]
  simp (decide := true) only [opM, ↓reduceIte] at h
  refine ⟨hvk, ?_⟩
  unfold wpM_binary wbM_binary_0
  simp (decide := true) only [false_implies, true_implies, and_true, true_and, not_true, not_false_eq_true]
  exact h
theorem c111_17 {d hm : HI} {n : Nat} {hl : HL} {Φ : Int32 → HI → HL → Prop} {v : Nat → Nat} (hW : WL d n) (hR : RL d hm n) (k : Nat) (hv : VL d hm k v) (hV : VR d k v) (hk : k < n) (e5 : d 5 k = 17) (hL : LK d 17 k) (x y wide : Int32) (h : Φ (opM 17 (nI (wdt (nk d k))) wide (nI (wdt (nk d (oix d k 8)))) (d 14 k) (d 13 k) x y (nI (gv d v k 9))) hm hl) : wbM_compute_111 (nI k) x y (nI (wdt (nk d k))) ((1 : Int32) <<< (nI (wdt (nk d k)) &&& 31) - 1) wide hm hl Φ := by
  have hn := hW.1
  have hvk : vp_in (nI k) 21 := vp_in_nI (by omega) (by omega)
  have hck : (nI k).toNatClampNeg = k := nI_clamp (by omega)
  have r5 : hm 5 k = 17 := by rw [hR.2 5 (by omega) (by omega) k hk, e5]
  have r13 := hR.2 13 (by omega) (by omega) k hk
  have r14 := hR.2 14 (by omega) (by omega) k hk
  have r8 := hR.2 8 (by omega) (by omega) k hk
  have r9 := hR.2 9 (by omega) (by omega) k hk
  have r12 := hR.2 12 (by omega) (by omega) k hk
  have r6 := hR.2 6 (by omega) (by omega) k hk
  unfold wbM_compute_111
  rw [hck, r5]
  refine ⟨hvk, ?_⟩
  simp (decide := true) only [false_implies, true_implies, and_true, true_and, not_true, not_false_eq_true]
  simp (decide := true) only [opM, ↓reduceIte] at h
  by_cases q : x = y
  · rw [if_pos q] at h; exact br_t q h
  · rw [if_neg q] at h; exact br_f q h
theorem c111_18 {d hm : HI} {n : Nat} {hl : HL} {Φ : Int32 → HI → HL → Prop} {v : Nat → Nat} (hW : WL d n) (hR : RL d hm n) (k : Nat) (hv : VL d hm k v) (hV : VR d k v) (hk : k < n) (e5 : d 5 k = 18) (hL : LK d 18 k) (x y wide : Int32) (h : Φ (opM 18 (nI (wdt (nk d k))) wide (nI (wdt (nk d (oix d k 8)))) (d 14 k) (d 13 k) x y (nI (gv d v k 9))) hm hl) : wbM_compute_111 (nI k) x y (nI (wdt (nk d k))) ((1 : Int32) <<< (nI (wdt (nk d k)) &&& 31) - 1) wide hm hl Φ := by
  have hn := hW.1
  have hvk : vp_in (nI k) 21 := vp_in_nI (by omega) (by omega)
  have hck : (nI k).toNatClampNeg = k := nI_clamp (by omega)
  have r5 : hm 5 k = 18 := by rw [hR.2 5 (by omega) (by omega) k hk, e5]
  have r13 := hR.2 13 (by omega) (by omega) k hk
  have r14 := hR.2 14 (by omega) (by omega) k hk
  have r8 := hR.2 8 (by omega) (by omega) k hk
  have r9 := hR.2 9 (by omega) (by omega) k hk
  have r12 := hR.2 12 (by omega) (by omega) k hk
  have r6 := hR.2 6 (by omega) (by omega) k hk
  unfold wbM_compute_111
  rw [hck, r5]
  refine ⟨hvk, ?_⟩
  simp (decide := true) only [false_implies, true_implies, and_true, true_and, not_true, not_false_eq_true]
  simp (decide := true) only [opM, ↓reduceIte] at h
  by_cases q : y ≤ x
  · rw [if_pos q] at h; exact br_t q h
  · rw [if_neg q] at h; exact br_f q h
theorem c111_19 {d hm : HI} {n : Nat} {hl : HL} {Φ : Int32 → HI → HL → Prop} {v : Nat → Nat} (hW : WL d n) (hR : RL d hm n) (k : Nat) (hv : VL d hm k v) (hV : VR d k v) (hk : k < n) (e5 : d 5 k = 19) (hL : LK d 19 k) (x y wide : Int32) (h : Φ (opM 19 (nI (wdt (nk d k))) wide (nI (wdt (nk d (oix d k 8)))) (d 14 k) (d 13 k) x y (nI (gv d v k 9))) hm hl) : wbM_compute_111 (nI k) x y (nI (wdt (nk d k))) ((1 : Int32) <<< (nI (wdt (nk d k)) &&& 31) - 1) wide hm hl Φ := by
  have hn := hW.1
  have hvk : vp_in (nI k) 21 := vp_in_nI (by omega) (by omega)
  have hck : (nI k).toNatClampNeg = k := nI_clamp (by omega)
  have r5 : hm 5 k = 19 := by rw [hR.2 5 (by omega) (by omega) k hk, e5]
  have r13 := hR.2 13 (by omega) (by omega) k hk
  have r14 := hR.2 14 (by omega) (by omega) k hk
  have r8 := hR.2 8 (by omega) (by omega) k hk
  have r9 := hR.2 9 (by omega) (by omega) k hk
  have r12 := hR.2 12 (by omega) (by omega) k hk
  have r6 := hR.2 6 (by omega) (by omega) k hk
  unfold wbM_compute_111
  rw [hck, r5]
  refine ⟨hvk, ?_⟩
  simp (decide := true) only [false_implies, true_implies, and_true, true_and, not_true, not_false_eq_true]
  simp (decide := true) only [opM, ↓reduceIte] at h
  have sg : ∀ (a : Int32) Ψ, wpM_sign a wide hm hl Ψ = Ψ (sgn a wide) hm hl := fun a Ψ => by
    unfold wpM_sign wbM_sign_0 sgn
    by_cases q : a < (1 : Int32) <<< ((wide - 1) &&& 31)
    · rw [if_pos q]; simp only [q, true_implies, not_true, false_implies, and_true]
    · rw [if_neg q]; simp only [q, false_implies, not_false_eq_true, true_implies, true_and]
  rw [sg, sg]
  by_cases q : sgn y wide ≤ sgn x wide
  · rw [if_pos q] at h; exact br_t q h
  · rw [if_neg q] at h; exact br_f q h
theorem c111_20 {d hm : HI} {n : Nat} {hl : HL} {Φ : Int32 → HI → HL → Prop} {v : Nat → Nat} (hW : WL d n) (hR : RL d hm n) (k : Nat) (hv : VL d hm k v) (hV : VR d k v) (hk : k < n) (e5 : d 5 k = 20) (hL : LK d 20 k) (x y wide : Int32) (h : Φ (opM 20 (nI (wdt (nk d k))) wide (nI (wdt (nk d (oix d k 8)))) (d 14 k) (d 13 k) x y (nI (gv d v k 9))) hm hl) : wbM_compute_111 (nI k) x y (nI (wdt (nk d k))) ((1 : Int32) <<< (nI (wdt (nk d k)) &&& 31) - 1) wide hm hl Φ := by
  have hn := hW.1
  have hvk : vp_in (nI k) 21 := vp_in_nI (by omega) (by omega)
  have hck : (nI k).toNatClampNeg = k := nI_clamp (by omega)
  have r5 : hm 5 k = 20 := by rw [hR.2 5 (by omega) (by omega) k hk, e5]
  have r13 := hR.2 13 (by omega) (by omega) k hk
  have r14 := hR.2 14 (by omega) (by omega) k hk
  have r8 := hR.2 8 (by omega) (by omega) k hk
  have r9 := hR.2 9 (by omega) (by omega) k hk
  have r12 := hR.2 12 (by omega) (by omega) k hk
  have r6 := hR.2 6 (by omega) (by omega) k hk
  unfold wbM_compute_111
  rw [hck, r5]
  refine ⟨hvk, ?_⟩
  simp (decide := true) only [false_implies, true_implies, and_true, true_and, not_true, not_false_eq_true]
  simp (decide := true) only [opM, ↓reduceIte] at h
  obtain ⟨i, hi, ei, hno, tt, et, ht⟩ := hL.2.2.2.2.1 (by omega)
  obtain ⟨s, hs, es, e5', enk, r1, r2, r3, r4, r5', r6'⟩ := nkf hW (show i < n by omega) hno
  have eo : oix d k 8 = i := by unfold oix; rw [ei, nI_clamp (by omega)]
  rw [r8, ei, nI_clamp (show i < 2 ^ 31 by omega), hR.2 6 (by omega) (by omega) i (by omega), es, nI_clamp (show s < 2 ^ 31 by omega), hR.2 16 (by omega) (by omega) s hs, sc_w hW hs e5', ← enk]
  rw [eo] at h
  exact ⟨hvk, vp_in_nI (by omega) (by omega), vp_in_nI (by omega) (by omega), h⟩
theorem c111_21 {d hm : HI} {n : Nat} {hl : HL} {Φ : Int32 → HI → HL → Prop} {v : Nat → Nat} (hW : WL d n) (hR : RL d hm n) (k : Nat) (hv : VL d hm k v) (hV : VR d k v) (hk : k < n) (e5 : d 5 k = 21) (hL : LK d 21 k) (x y wide : Int32) (h : Φ (opM 21 (nI (wdt (nk d k))) wide (nI (wdt (nk d (oix d k 8)))) (d 14 k) (d 13 k) x y (nI (gv d v k 9))) hm hl) : wbM_compute_111 (nI k) x y (nI (wdt (nk d k))) ((1 : Int32) <<< (nI (wdt (nk d k)) &&& 31) - 1) wide hm hl Φ := by
  have hn := hW.1
  have hvk : vp_in (nI k) 21 := vp_in_nI (by omega) (by omega)
  have hck : (nI k).toNatClampNeg = k := nI_clamp (by omega)
  have r5 : hm 5 k = 21 := by rw [hR.2 5 (by omega) (by omega) k hk, e5]
  have r13 := hR.2 13 (by omega) (by omega) k hk
  have r14 := hR.2 14 (by omega) (by omega) k hk
  have r8 := hR.2 8 (by omega) (by omega) k hk
  have r9 := hR.2 9 (by omega) (by omega) k hk
  have r12 := hR.2 12 (by omega) (by omega) k hk
  have r6 := hR.2 6 (by omega) (by omega) k hk
  unfold wbM_compute_111
  rw [hck, r5]
  refine ⟨hvk, ?_⟩
  simp (decide := true) only [false_implies, true_implies, and_true, true_and, not_true, not_false_eq_true]
  simp (decide := true) only [opM, ↓reduceIte] at h
  rw [r14]
  exact ⟨hvk, h⟩
theorem c111_22 {d hm : HI} {n : Nat} {hl : HL} {Φ : Int32 → HI → HL → Prop} {v : Nat → Nat} (hW : WL d n) (hR : RL d hm n) (k : Nat) (hv : VL d hm k v) (hV : VR d k v) (hk : k < n) (e5 : d 5 k = 22) (hL : LK d 22 k) (x y wide : Int32) (h : Φ (opM 22 (nI (wdt (nk d k))) wide (nI (wdt (nk d (oix d k 8)))) (d 14 k) (d 13 k) x y (nI (gv d v k 9))) hm hl) : wbM_compute_111 (nI k) x y (nI (wdt (nk d k))) ((1 : Int32) <<< (nI (wdt (nk d k)) &&& 31) - 1) wide hm hl Φ := by
  have hn := hW.1
  have hvk : vp_in (nI k) 21 := vp_in_nI (by omega) (by omega)
  have hck : (nI k).toNatClampNeg = k := nI_clamp (by omega)
  have r5 : hm 5 k = 22 := by rw [hR.2 5 (by omega) (by omega) k hk, e5]
  have r13 := hR.2 13 (by omega) (by omega) k hk
  have r14 := hR.2 14 (by omega) (by omega) k hk
  have r8 := hR.2 8 (by omega) (by omega) k hk
  have r9 := hR.2 9 (by omega) (by omega) k hk
  have r12 := hR.2 12 (by omega) (by omega) k hk
  have r6 := hR.2 6 (by omega) (by omega) k hk
  unfold wbM_compute_111
  rw [hck, r5]
  refine ⟨hvk, ?_⟩
  simp (decide := true) only [false_implies, true_implies, and_true, true_and, not_true, not_false_eq_true]
  simp (decide := true) only [opM, ↓reduceIte] at h
  exact h
theorem c111_23 {d hm : HI} {n : Nat} {hl : HL} {Φ : Int32 → HI → HL → Prop} {v : Nat → Nat} (hW : WL d n) (hR : RL d hm n) (k : Nat) (hv : VL d hm k v) (hV : VR d k v) (hk : k < n) (e5 : d 5 k = 23) (hL : LK d 23 k) (x y wide : Int32) (h : Φ (opM 23 (nI (wdt (nk d k))) wide (nI (wdt (nk d (oix d k 8)))) (d 14 k) (d 13 k) x y (nI (gv d v k 9))) hm hl) : wbM_compute_111 (nI k) x y (nI (wdt (nk d k))) ((1 : Int32) <<< (nI (wdt (nk d k)) &&& 31) - 1) wide hm hl Φ := by
  have hn := hW.1
  have hvk : vp_in (nI k) 21 := vp_in_nI (by omega) (by omega)
  have hck : (nI k).toNatClampNeg = k := nI_clamp (by omega)
  have r5 : hm 5 k = 23 := by rw [hR.2 5 (by omega) (by omega) k hk, e5]
  have r13 := hR.2 13 (by omega) (by omega) k hk
  have r14 := hR.2 14 (by omega) (by omega) k hk
  have r8 := hR.2 8 (by omega) (by omega) k hk
  have r9 := hR.2 9 (by omega) (by omega) k hk
  have r12 := hR.2 12 (by omega) (by omega) k hk
  have r6 := hR.2 6 (by omega) (by omega) k hk
  unfold wbM_compute_111
  rw [hck, r5]
  refine ⟨hvk, ?_⟩
  simp (decide := true) only [false_implies, true_implies, and_true, true_and, not_true, not_false_eq_true]
  simp (decide := true) only [opM, ↓reduceIte] at h
  have sg : ∀ (a : Int32) Ψ, wpM_sign a wide hm hl Ψ = Ψ (sgn a wide) hm hl := fun a Ψ => by
    unfold wpM_sign wbM_sign_0 sgn
    by_cases q : a < (1 : Int32) <<< ((wide - 1) &&& 31)
    · rw [if_pos q]; simp only [q, true_implies, not_true, false_implies, and_true]
    · rw [if_neg q]; simp only [q, false_implies, not_false_eq_true, true_implies, true_and]
  rw [sg]
  exact h
theorem c111_24 {d hm : HI} {n : Nat} {hl : HL} {Φ : Int32 → HI → HL → Prop} {v : Nat → Nat} (hW : WL d n) (hR : RL d hm n) (k : Nat) (hv : VL d hm k v) (hV : VR d k v) (hk : k < n) (e5 : d 5 k = 24) (hL : LK d 24 k) (x y wide : Int32) (h : Φ (opM 24 (nI (wdt (nk d k))) wide (nI (wdt (nk d (oix d k 8)))) (d 14 k) (d 13 k) x y (nI (gv d v k 9))) hm hl) : wbM_compute_111 (nI k) x y (nI (wdt (nk d k))) ((1 : Int32) <<< (nI (wdt (nk d k)) &&& 31) - 1) wide hm hl Φ := by
  have hn := hW.1
  have hvk : vp_in (nI k) 21 := vp_in_nI (by omega) (by omega)
  have hck : (nI k).toNatClampNeg = k := nI_clamp (by omega)
  have r5 : hm 5 k = 24 := by rw [hR.2 5 (by omega) (by omega) k hk, e5]
  have r13 := hR.2 13 (by omega) (by omega) k hk
  have r14 := hR.2 14 (by omega) (by omega) k hk
  have r8 := hR.2 8 (by omega) (by omega) k hk
  have r9 := hR.2 9 (by omega) (by omega) k hk
  have r12 := hR.2 12 (by omega) (by omega) k hk
  have r6 := hR.2 6 (by omega) (by omega) k hk
  unfold wbM_compute_111
  rw [hck, r5]
  refine ⟨hvk, ?_⟩
  simp (decide := true) only [false_implies, true_implies, and_true, true_and, not_true, not_false_eq_true]
  simp (decide := true) only [opM, ↓reduceIte] at h
  rw [r9, r12]
  refine ⟨hvk, hvk, pM_getO hW hR k 9 hv hV (by omega) (hL.2.2.2.2.2.1 (by omega)) ?_⟩
  by_cases q : nI (gv d v k 9) = 1
  · rw [if_pos q] at h; exact br_t q h
  · rw [if_neg q] at h; exact br_f q h
theorem c111_25 {d hm : HI} {n : Nat} {hl : HL} {Φ : Int32 → HI → HL → Prop} {v : Nat → Nat} (hW : WL d n) (hR : RL d hm n) (k : Nat) (hv : VL d hm k v) (hV : VR d k v) (hk : k < n) (e5 : d 5 k = 25) (hL : LK d 25 k) (x y wide : Int32) (h : Φ (opM 25 (nI (wdt (nk d k))) wide (nI (wdt (nk d (oix d k 8)))) (d 14 k) (d 13 k) x y (nI (gv d v k 9))) hm hl) : wbM_compute_111 (nI k) x y (nI (wdt (nk d k))) ((1 : Int32) <<< (nI (wdt (nk d k)) &&& 31) - 1) wide hm hl Φ := by
  have hn := hW.1
  have hvk : vp_in (nI k) 21 := vp_in_nI (by omega) (by omega)
  have hck : (nI k).toNatClampNeg = k := nI_clamp (by omega)
  have r5 : hm 5 k = 25 := by rw [hR.2 5 (by omega) (by omega) k hk, e5]
  have r13 := hR.2 13 (by omega) (by omega) k hk
  have r14 := hR.2 14 (by omega) (by omega) k hk
  have r8 := hR.2 8 (by omega) (by omega) k hk
  have r9 := hR.2 9 (by omega) (by omega) k hk
  have r12 := hR.2 12 (by omega) (by omega) k hk
  have r6 := hR.2 6 (by omega) (by omega) k hk
  unfold wbM_compute_111
  rw [hck, r5]
  refine ⟨hvk, ?_⟩
  simp (decide := true) only [false_implies, true_implies, and_true, true_and, not_true, not_false_eq_true]
  simp (decide := true) only [opM, ↓reduceIte] at h
  unfold wpM_elementOf wbM_elementOf_0
  unfold elm at h
  by_cases q : y = 0
  · rw [if_pos q] at h; exact br_t q h
  · rw [if_neg q] at h; exact br_f q h
theorem c111_26 {d hm : HI} {n : Nat} {hl : HL} {Φ : Int32 → HI → HL → Prop} {v : Nat → Nat} (hW : WL d n) (hR : RL d hm n) (k : Nat) (hv : VL d hm k v) (hV : VR d k v) (hk : k < n) (e5 : d 5 k = 26) (hL : LK d 26 k) (x y wide : Int32) (h : Φ (opM 26 (nI (wdt (nk d k))) wide (nI (wdt (nk d (oix d k 8)))) (d 14 k) (d 13 k) x y (nI (gv d v k 9))) hm hl) : wbM_compute_111 (nI k) x y (nI (wdt (nk d k))) ((1 : Int32) <<< (nI (wdt (nk d k)) &&& 31) - 1) wide hm hl Φ := by
  have hn := hW.1
  have hvk : vp_in (nI k) 21 := vp_in_nI (by omega) (by omega)
  have hck : (nI k).toNatClampNeg = k := nI_clamp (by omega)
  have r5 : hm 5 k = 26 := by rw [hR.2 5 (by omega) (by omega) k hk, e5]
  have r13 := hR.2 13 (by omega) (by omega) k hk
  have r14 := hR.2 14 (by omega) (by omega) k hk
  have r8 := hR.2 8 (by omega) (by omega) k hk
  have r9 := hR.2 9 (by omega) (by omega) k hk
  have r12 := hR.2 12 (by omega) (by omega) k hk
  have r6 := hR.2 6 (by omega) (by omega) k hk
  unfold wbM_compute_111
  rw [hck, r5]
  refine ⟨hvk, ?_⟩
  simp (decide := true) only [false_implies, true_implies, and_true, true_and, not_true, not_false_eq_true]
  simp (decide := true) only [opM, ↓reduceIte] at h
  obtain ⟨s, hs, es, e5', enk, r1, r2, r3, r4, r5', r6'⟩ := nkf hW hk (by rw [e5]; exact ⟨by decide, by decide⟩)
  unfold wpM_written wbM_written_0
  rw [hck, r9, r12, r6, es, nI_clamp (show s < 2 ^ 31 by omega), hR.2 16 (by omega) (by omega) s hs, sc_w hW hs e5', ← enk]
  refine ⟨hvk, vp_in_nI (by omega) (by omega), hvk, hvk, pM_getO hW hR k 9 hv hV (by omega) (hL.2.2.2.2.2.1 (by omega)) ?_⟩
  unfold wbM_written_48 wbM_written_68 wpM_elementOf wbM_elementOf_0
  have e0 : ∀ a b, elm a 0 b = a &&& ((1 : Int32) <<< (b &&& 31) - 1) := fun a b => by unfold elm; rw [if_pos rfl]
  have e1 : ∀ a b, elm a 1 b = a >>> (b &&& 31) := fun a b => by unfold elm; rw [if_neg (by decide)]
  rw [e0, e1] at h
  by_cases q : y = 0
  · rw [if_pos q] at h
    refine br_t q (br_f (by rw [q]; decide) (br_f (by decide) ?_))
    rw [if_neg (by rw [q]; decide)] at h; exact h
  · rw [if_neg q] at h
    refine br_f q (br_t rfl ?_)
    by_cases q1 : y = 1
    · rw [if_pos q1] at h; exact br_t q1 h
    · rw [if_neg q1] at h; exact br_f q1 (br_f (by decide) h)
theorem pM_compute {d hm : HI} {n : Nat} {hl : HL} {Φ : Int32 → HI → HL → Prop} {v : Nat → Nat} (hW : WL d n) (hR : RL d hm n) (k : Nat) (hv : VL d hm k v) (hV : VR d k v) (hk : k < n) (κ : Nat) (hκ : 3 ≤ κ ∧ κ ≤ 26) (e5 : d 5 k = nI κ) (hL : LK d κ k) (h : Φ (opK d v k) hm hl) : wpM_compute (nI k) hm hl Φ := by
  have hn := hW.1
  have hvk : vp_in (nI k) 21 := vp_in_nI (by omega) (by omega)
  have hck : (nI k).toNatClampNeg = k := nI_clamp (by omega)
  have r7 := hR.2 7 (by omega) (by omega) k hk
  have r8 := hR.2 8 (by omega) (by omega) k hk
  have r10 := hR.2 10 (by omega) (by omega) k hk
  have r11 := hR.2 11 (by omega) (by omega) k hk
  have r6 := hR.2 6 (by omega) (by omega) k hk
  have hno : nod (d 5 k) := by rw [e5]; exact nod_nI (by omega) (by omega)
  obtain ⟨s, hs, es, e5', enk, r1, r2, r3, r4, r5', r6'⟩ := nkf hW hk hno
  have e16 : hm 16 s = nI (wdt (nk d k)) := by rw [hR.2 16 (by omega) (by omega) s hs, sc_w hW hs e5', enk]
  have hcs : (nI s).toNatClampNeg = s := nI_clamp (by omega)
  have eκ : (d 5 k).toNatClampNeg = κ := by rw [e5]; exact nI_clamp (by omega)
  unfold opK at h
  rw [eκ] at h
  have c111 : ∀ x y wide, Φ (opM κ (nI (wdt (nk d k))) wide (nI (wdt (nk d (oix d k 8)))) (d 14 k) (d 13 k) x y (nI (gv d v k 9))) hm hl → wbM_compute_111 (nI k) x y (nI (wdt (nk d k))) ((1 : Int32) <<< (nI (wdt (nk d k)) &&& 31) - 1) wide hm hl Φ := by
    intro x y wide hh
    have hc : κ = 3 ∨ κ = 4 ∨ κ = 5 ∨ κ = 6 ∨ κ = 7 ∨ κ = 8 ∨ κ = 9 ∨ κ = 10 ∨ κ = 11 ∨ κ = 12 ∨ κ = 13 ∨ κ = 14 ∨ κ = 15 ∨ κ = 16 ∨ κ = 17 ∨ κ = 18 ∨ κ = 19 ∨ κ = 20 ∨ κ = 21 ∨ κ = 22 ∨ κ = 23 ∨ κ = 24 ∨ κ = 25 ∨ κ = 26 := by omega
    rcases hc with rfl | rfl | rfl | rfl | rfl | rfl | rfl | rfl | rfl | rfl | rfl | rfl | rfl | rfl | rfl | rfl | rfl | rfl | rfl | rfl | rfl | rfl | rfl | rfl
    · exact c111_3 hW hR k hv hV hk e5 hL x y wide hh
    · exact c111_4 hW hR k hv hV hk e5 hL x y wide hh
    · exact c111_5 hW hR k hv hV hk e5 hL x y wide hh
    · exact c111_6 hW hR k hv hV hk e5 hL x y wide hh
    · exact c111_7 hW hR k hv hV hk e5 hL x y wide hh
    · exact c111_8 hW hR k hv hV hk e5 hL x y wide hh
    · exact c111_9 hW hR k hv hV hk e5 hL x y wide hh
    · exact c111_10 hW hR k hv hV hk e5 hL x y wide hh
    · exact c111_11 hW hR k hv hV hk e5 hL x y wide hh
    · exact c111_12 hW hR k hv hV hk e5 hL x y wide hh
    · exact c111_13 hW hR k hv hV hk e5 hL x y wide hh
    · exact c111_14 hW hR k hv hV hk e5 hL x y wide hh
    · exact c111_15 hW hR k hv hV hk e5 hL x y wide hh
    · exact c111_16 hW hR k hv hV hk e5 hL x y wide hh
    · exact c111_17 hW hR k hv hV hk e5 hL x y wide hh
    · exact c111_18 hW hR k hv hV hk e5 hL x y wide hh
    · exact c111_19 hW hR k hv hV hk e5 hL x y wide hh
    · exact c111_20 hW hR k hv hV hk e5 hL x y wide hh
    · exact c111_21 hW hR k hv hV hk e5 hL x y wide hh
    · exact c111_22 hW hR k hv hV hk e5 hL x y wide hh
    · exact c111_23 hW hR k hv hV hk e5 hL x y wide hh
    · exact c111_24 hW hR k hv hV hk e5 hL x y wide hh
    · exact c111_25 hW hR k hv hV hk e5 hL x y wide hh
    · exact c111_26 hW hR k hv hV hk e5 hL x y wide hh
  unfold wpM_compute wbM_compute_0 wbM_compute_29 wbM_compute_59
  rw [hck]
  simp only [r7, r8, r10, r11, r6, es, hcs, e16, hck]
  have vs : vp_in (nI s) 21 := vp_in_nI (by omega) (by omega)
  by_cases k3 : κ = 3
  · subst k3
    obtain ⟨b1, b2, b3, b4⟩ := hL.2.1 rfl
    rw [b2, b3]
    refine ⟨hvk, br_f (by decide) ⟨hvk, br_f (by decide) ⟨hvk, vs, hvk, br_f (by decide) (c111 _ _ _ ?_)⟩⟩⟩
    simp (decide := true) only [opM, ↓reduceIte] at h ⊢
    exact h
  · have o7 : opr d k 7 := hL.2.2.1 (by omega) (by omega)
    have o7' := o7
    obtain ⟨i, hi, ei, hnoi, tt, et, ht⟩ := o7
    obtain ⟨si, hsi, esi, e5i, enki, q1, q2, q3, q4, q5, q6⟩ := nkf hW (show i < n by omega) hnoi
    have h7 : (0 : Int32) ≤ d 7 k := by rw [ei]; exact nI_pos' (by omega)
    have eo : oix d k 7 = i := by unfold oix; rw [ei, nI_clamp (by omega)]
    have wid : hm 16 (hm 6 (d 7 k).toNatClampNeg).toNatClampNeg = nI (wdt (nk d (oix d k 7))) := by
      rw [ei, nI_clamp (by omega), hR.2 6 (by omega) (by omega) i (by omega), esi, nI_clamp (by omega), hR.2 16 (by omega) (by omega) si hsi, sc_w hW hsi e5i, ← enki, eo]
    have v7 : vp_in (d 7 k) 21 := by rw [ei]; exact vp_in_nI (by omega) (by omega)
    have v76 : vp_in (hm 6 (d 7 k).toNatClampNeg) 21 := by
      rw [ei, nI_clamp (by omega), hR.2 6 (by omega) (by omega) i (by omega), esi]; exact vp_in_nI (by omega) (by omega)
    refine ⟨hvk, br_t h7 ⟨hvk, hvk, pM_getO hW hR k 7 hv hV (by omega) o7' ?_⟩⟩
    simp only [r7, r8, r10, r11, r6, es, hcs, e16, wid]
    refine ⟨hvk, ?_⟩
    by_cases kb : 7 ≤ κ ∧ κ ≤ 20 ∨ 24 ≤ κ ∧ κ ≤ 28
    · have o8 : opr d k 8 := hL.2.2.2.2.1 kb
      have o8' := o8
      obtain ⟨j, hj, ej, _⟩ := o8
      have h8 : (0 : Int32) ≤ d 8 k := by rw [ej]; exact nI_pos' (by omega)
      refine br_t h8 ⟨hvk, hvk, pM_getO hW hR k 8 hv hV (by omega) o8' ?_⟩
      simp only [r7, r8, r10, r11, r6, es, hcs, e16, wid]
      exact ⟨hvk, vs, hvk, br_t h7 ⟨hvk, v7, v76, c111 _ _ _ h⟩⟩
    · have e8 : d 8 k = -1 := hL.2.2.2.1 (by omega)
      rw [e8]
      refine br_f (by decide) ⟨hvk, vs, hvk, br_t h7 ⟨hvk, v7, v76, c111 _ _ _ ?_⟩⟩
      have hc : κ = 4 ∨ κ = 5 ∨ κ = 6 ∨ κ = 21 ∨ κ = 22 ∨ κ = 23 := by omega
      rcases hc with rfl | rfl | rfl | rfl | rfl | rfl <;> simp (decide := true) only [opM, ↓reduceIte] at h ⊢ <;> exact h
