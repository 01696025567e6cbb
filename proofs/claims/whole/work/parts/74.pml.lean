/-! M: letters of a word, what kind they say (printed by wip/whole/pure/kindof.py) -/
def kcs : List (Int64 × Int32) := [(638548, 0), (9913012, 1), (20579973, 2), (116870788, 3), (14836, 4), (14503, 5), (19042802, 6), (1476, 7), (498, 8), (25074, 9), (1156, 10), (20130, 11), (13996, 12), (692534, 13), (706733, 14), (19852, 15), (20044, 16), (177, 17), (21908, 18), (19860, 19), (116853812, 20), (20325477, 21), (694036, 22), (628500, 23), (9861, 24), (594980, 25), (24716933, 26), (309556, 27), (464660, 28), (2084, 29), (122547918120404, 30)]
def kfold (v : Int64) (q : Int32) (l : List (Int64 × Int32)) : Int32 := l.foldl (fun q p => if v = p.1 then p.2 else q) q
theorem kfold_n (v : Int64) (q : Int32) : kfold v q [] = q := rfl
theorem kfold_c (v : Int64) (q : Int32) (p : Int64 × Int32) (l : List (Int64 × Int32)) : kfold v q (p :: l) = kfold v (if v = p.1 then p.2 else q) l := rfl
theorem kO_445 (v : Int64) (q : Int32) (hi : HI) (hl : HL) (Φ : Int32 → HI → HL → Prop) : wbM_kindOf_445 v q hi hl Φ = Φ (kfold v q (kcs.drop 30)) hi hl := by
  unfold wbM_kindOf_445
  have e : kcs.drop 30 = (122547918120404, 30) :: kcs.drop 31 := rfl
  rw [e, kfold_c, lg_cmp_eq]
  by_cases c : v = 122547918120404
  · simp [c, kcs, kfold]
  · simp [c, kcs, kfold]
theorem kO_430 (v : Int64) (q : Int32) (hi : HI) (hl : HL) (Φ : Int32 → HI → HL → Prop) : wbM_kindOf_430 v q hi hl Φ = Φ (kfold v q (kcs.drop 29)) hi hl := by
  unfold wbM_kindOf_430
  have e : kcs.drop 29 = (2084, 29) :: kcs.drop 30 := rfl
  rw [e, kfold_c, lg_cmp_eq, kO_445, kO_445]
  by_cases c : v = 2084
  · simp [c]
  · simp [c]
theorem kO_415 (v : Int64) (q : Int32) (hi : HI) (hl : HL) (Φ : Int32 → HI → HL → Prop) : wbM_kindOf_415 v q hi hl Φ = Φ (kfold v q (kcs.drop 28)) hi hl := by
  unfold wbM_kindOf_415
  have e : kcs.drop 28 = (464660, 28) :: kcs.drop 29 := rfl
  rw [e, kfold_c, lg_cmp_eq, kO_430, kO_430]
  by_cases c : v = 464660
  · simp [c]
  · simp [c]
theorem kO_400 (v : Int64) (q : Int32) (hi : HI) (hl : HL) (Φ : Int32 → HI → HL → Prop) : wbM_kindOf_400 v q hi hl Φ = Φ (kfold v q (kcs.drop 27)) hi hl := by
  unfold wbM_kindOf_400
  have e : kcs.drop 27 = (309556, 27) :: kcs.drop 28 := rfl
  rw [e, kfold_c, lg_cmp_eq, kO_415, kO_415]
  by_cases c : v = 309556
  · simp [c]
  · simp [c]
theorem kO_385 (v : Int64) (q : Int32) (hi : HI) (hl : HL) (Φ : Int32 → HI → HL → Prop) : wbM_kindOf_385 v q hi hl Φ = Φ (kfold v q (kcs.drop 26)) hi hl := by
  unfold wbM_kindOf_385
  have e : kcs.drop 26 = (24716933, 26) :: kcs.drop 27 := rfl
  rw [e, kfold_c, lg_cmp_eq, kO_400, kO_400]
  by_cases c : v = 24716933
  · simp [c]
  · simp [c]
theorem kO_370 (v : Int64) (q : Int32) (hi : HI) (hl : HL) (Φ : Int32 → HI → HL → Prop) : wbM_kindOf_370 v q hi hl Φ = Φ (kfold v q (kcs.drop 25)) hi hl := by
  unfold wbM_kindOf_370
  have e : kcs.drop 25 = (594980, 25) :: kcs.drop 26 := rfl
  rw [e, kfold_c, lg_cmp_eq, kO_385, kO_385]
  by_cases c : v = 594980
  · simp [c]
  · simp [c]
theorem kO_355 (v : Int64) (q : Int32) (hi : HI) (hl : HL) (Φ : Int32 → HI → HL → Prop) : wbM_kindOf_355 v q hi hl Φ = Φ (kfold v q (kcs.drop 24)) hi hl := by
  unfold wbM_kindOf_355
  have e : kcs.drop 24 = (9861, 24) :: kcs.drop 25 := rfl
  rw [e, kfold_c, lg_cmp_eq, kO_370, kO_370]
  by_cases c : v = 9861
  · simp [c]
  · simp [c]
theorem kO_340 (v : Int64) (q : Int32) (hi : HI) (hl : HL) (Φ : Int32 → HI → HL → Prop) : wbM_kindOf_340 v q hi hl Φ = Φ (kfold v q (kcs.drop 23)) hi hl := by
  unfold wbM_kindOf_340
  have e : kcs.drop 23 = (628500, 23) :: kcs.drop 24 := rfl
  rw [e, kfold_c, lg_cmp_eq, kO_355, kO_355]
  by_cases c : v = 628500
  · simp [c]
  · simp [c]
theorem kO_325 (v : Int64) (q : Int32) (hi : HI) (hl : HL) (Φ : Int32 → HI → HL → Prop) : wbM_kindOf_325 v q hi hl Φ = Φ (kfold v q (kcs.drop 22)) hi hl := by
  unfold wbM_kindOf_325
  have e : kcs.drop 22 = (694036, 22) :: kcs.drop 23 := rfl
  rw [e, kfold_c, lg_cmp_eq, kO_340, kO_340]
  by_cases c : v = 694036
  · simp [c]
  · simp [c]
theorem kO_310 (v : Int64) (q : Int32) (hi : HI) (hl : HL) (Φ : Int32 → HI → HL → Prop) : wbM_kindOf_310 v q hi hl Φ = Φ (kfold v q (kcs.drop 21)) hi hl := by
  unfold wbM_kindOf_310
  have e : kcs.drop 21 = (20325477, 21) :: kcs.drop 22 := rfl
  rw [e, kfold_c, lg_cmp_eq, kO_325, kO_325]
  by_cases c : v = 20325477
  · simp [c]
  · simp [c]
theorem kO_295 (v : Int64) (q : Int32) (hi : HI) (hl : HL) (Φ : Int32 → HI → HL → Prop) : wbM_kindOf_295 v q hi hl Φ = Φ (kfold v q (kcs.drop 20)) hi hl := by
  unfold wbM_kindOf_295
  have e : kcs.drop 20 = (116853812, 20) :: kcs.drop 21 := rfl
  rw [e, kfold_c, lg_cmp_eq, kO_310, kO_310]
  by_cases c : v = 116853812
  · simp [c]
  · simp [c]
theorem kO_280 (v : Int64) (q : Int32) (hi : HI) (hl : HL) (Φ : Int32 → HI → HL → Prop) : wbM_kindOf_280 v q hi hl Φ = Φ (kfold v q (kcs.drop 19)) hi hl := by
  unfold wbM_kindOf_280
  have e : kcs.drop 19 = (19860, 19) :: kcs.drop 20 := rfl
  rw [e, kfold_c, lg_cmp_eq, kO_295, kO_295]
  by_cases c : v = 19860
  · simp [c]
  · simp [c]
theorem kO_265 (v : Int64) (q : Int32) (hi : HI) (hl : HL) (Φ : Int32 → HI → HL → Prop) : wbM_kindOf_265 v q hi hl Φ = Φ (kfold v q (kcs.drop 18)) hi hl := by
  unfold wbM_kindOf_265
  have e : kcs.drop 18 = (21908, 18) :: kcs.drop 19 := rfl
  rw [e, kfold_c, lg_cmp_eq, kO_280, kO_280]
  by_cases c : v = 21908
  · simp [c]
  · simp [c]
theorem kO_250 (v : Int64) (q : Int32) (hi : HI) (hl : HL) (Φ : Int32 → HI → HL → Prop) : wbM_kindOf_250 v q hi hl Φ = Φ (kfold v q (kcs.drop 17)) hi hl := by
  unfold wbM_kindOf_250
  have e : kcs.drop 17 = (177, 17) :: kcs.drop 18 := rfl
  rw [e, kfold_c, lg_cmp_eq, kO_265, kO_265]
  by_cases c : v = 177
  · simp [c]
  · simp [c]
theorem kO_235 (v : Int64) (q : Int32) (hi : HI) (hl : HL) (Φ : Int32 → HI → HL → Prop) : wbM_kindOf_235 v q hi hl Φ = Φ (kfold v q (kcs.drop 16)) hi hl := by
  unfold wbM_kindOf_235
  have e : kcs.drop 16 = (20044, 16) :: kcs.drop 17 := rfl
  rw [e, kfold_c, lg_cmp_eq, kO_250, kO_250]
  by_cases c : v = 20044
  · simp [c]
  · simp [c]
theorem kO_220 (v : Int64) (q : Int32) (hi : HI) (hl : HL) (Φ : Int32 → HI → HL → Prop) : wbM_kindOf_220 v q hi hl Φ = Φ (kfold v q (kcs.drop 15)) hi hl := by
  unfold wbM_kindOf_220
  have e : kcs.drop 15 = (19852, 15) :: kcs.drop 16 := rfl
  rw [e, kfold_c, lg_cmp_eq, kO_235, kO_235]
  by_cases c : v = 19852
  · simp [c]
  · simp [c]
theorem kO_205 (v : Int64) (q : Int32) (hi : HI) (hl : HL) (Φ : Int32 → HI → HL → Prop) : wbM_kindOf_205 v q hi hl Φ = Φ (kfold v q (kcs.drop 14)) hi hl := by
  unfold wbM_kindOf_205
  have e : kcs.drop 14 = (706733, 14) :: kcs.drop 15 := rfl
  rw [e, kfold_c, lg_cmp_eq, kO_220, kO_220]
  by_cases c : v = 706733
  · simp [c]
  · simp [c]
theorem kO_190 (v : Int64) (q : Int32) (hi : HI) (hl : HL) (Φ : Int32 → HI → HL → Prop) : wbM_kindOf_190 v q hi hl Φ = Φ (kfold v q (kcs.drop 13)) hi hl := by
  unfold wbM_kindOf_190
  have e : kcs.drop 13 = (692534, 13) :: kcs.drop 14 := rfl
  rw [e, kfold_c, lg_cmp_eq, kO_205, kO_205]
  by_cases c : v = 692534
  · simp [c]
  · simp [c]
theorem kO_175 (v : Int64) (q : Int32) (hi : HI) (hl : HL) (Φ : Int32 → HI → HL → Prop) : wbM_kindOf_175 v q hi hl Φ = Φ (kfold v q (kcs.drop 12)) hi hl := by
  unfold wbM_kindOf_175
  have e : kcs.drop 12 = (13996, 12) :: kcs.drop 13 := rfl
  rw [e, kfold_c, lg_cmp_eq, kO_190, kO_190]
  by_cases c : v = 13996
  · simp [c]
  · simp [c]
theorem kO_160 (v : Int64) (q : Int32) (hi : HI) (hl : HL) (Φ : Int32 → HI → HL → Prop) : wbM_kindOf_160 v q hi hl Φ = Φ (kfold v q (kcs.drop 11)) hi hl := by
  unfold wbM_kindOf_160
  have e : kcs.drop 11 = (20130, 11) :: kcs.drop 12 := rfl
  rw [e, kfold_c, lg_cmp_eq, kO_175, kO_175]
  by_cases c : v = 20130
  · simp [c]
  · simp [c]
theorem kO_145 (v : Int64) (q : Int32) (hi : HI) (hl : HL) (Φ : Int32 → HI → HL → Prop) : wbM_kindOf_145 v q hi hl Φ = Φ (kfold v q (kcs.drop 10)) hi hl := by
  unfold wbM_kindOf_145
  have e : kcs.drop 10 = (1156, 10) :: kcs.drop 11 := rfl
  rw [e, kfold_c, lg_cmp_eq, kO_160, kO_160]
  by_cases c : v = 1156
  · simp [c]
  · simp [c]
theorem kO_130 (v : Int64) (q : Int32) (hi : HI) (hl : HL) (Φ : Int32 → HI → HL → Prop) : wbM_kindOf_130 v q hi hl Φ = Φ (kfold v q (kcs.drop 9)) hi hl := by
  unfold wbM_kindOf_130
  have e : kcs.drop 9 = (25074, 9) :: kcs.drop 10 := rfl
  rw [e, kfold_c, lg_cmp_eq, kO_145, kO_145]
  by_cases c : v = 25074
  · simp [c]
  · simp [c]
theorem kO_115 (v : Int64) (q : Int32) (hi : HI) (hl : HL) (Φ : Int32 → HI → HL → Prop) : wbM_kindOf_115 v q hi hl Φ = Φ (kfold v q (kcs.drop 8)) hi hl := by
  unfold wbM_kindOf_115
  have e : kcs.drop 8 = (498, 8) :: kcs.drop 9 := rfl
  rw [e, kfold_c, lg_cmp_eq, kO_130, kO_130]
  by_cases c : v = 498
  · simp [c]
  · simp [c]
theorem kO_100 (v : Int64) (q : Int32) (hi : HI) (hl : HL) (Φ : Int32 → HI → HL → Prop) : wbM_kindOf_100 v q hi hl Φ = Φ (kfold v q (kcs.drop 7)) hi hl := by
  unfold wbM_kindOf_100
  have e : kcs.drop 7 = (1476, 7) :: kcs.drop 8 := rfl
  rw [e, kfold_c, lg_cmp_eq, kO_115, kO_115]
  by_cases c : v = 1476
  · simp [c]
  · simp [c]
theorem kO_85 (v : Int64) (q : Int32) (hi : HI) (hl : HL) (Φ : Int32 → HI → HL → Prop) : wbM_kindOf_85 v q hi hl Φ = Φ (kfold v q (kcs.drop 6)) hi hl := by
  unfold wbM_kindOf_85
  have e : kcs.drop 6 = (19042802, 6) :: kcs.drop 7 := rfl
  rw [e, kfold_c, lg_cmp_eq, kO_100, kO_100]
  by_cases c : v = 19042802
  · simp [c]
  · simp [c]
theorem kO_71 (v : Int64) (q : Int32) (hi : HI) (hl : HL) (Φ : Int32 → HI → HL → Prop) : wbM_kindOf_71 v q hi hl Φ = Φ (kfold v q (kcs.drop 5)) hi hl := by
  unfold wbM_kindOf_71
  have e : kcs.drop 5 = (14503, 5) :: kcs.drop 6 := rfl
  rw [e, kfold_c, lg_cmp_eq, kO_85, kO_85]
  by_cases c : v = 14503
  · simp [c]
  · simp [c]
theorem kO_57 (v : Int64) (q : Int32) (hi : HI) (hl : HL) (Φ : Int32 → HI → HL → Prop) : wbM_kindOf_57 v q hi hl Φ = Φ (kfold v q (kcs.drop 4)) hi hl := by
  unfold wbM_kindOf_57
  have e : kcs.drop 4 = (14836, 4) :: kcs.drop 5 := rfl
  rw [e, kfold_c, lg_cmp_eq, kO_71, kO_71]
  by_cases c : v = 14836
  · simp [c]
  · simp [c]
theorem kO_43 (v : Int64) (q : Int32) (hi : HI) (hl : HL) (Φ : Int32 → HI → HL → Prop) : wbM_kindOf_43 v q hi hl Φ = Φ (kfold v q (kcs.drop 3)) hi hl := by
  unfold wbM_kindOf_43
  have e : kcs.drop 3 = (116870788, 3) :: kcs.drop 4 := rfl
  rw [e, kfold_c, lg_cmp_eq, kO_57, kO_57]
  by_cases c : v = 116870788
  · simp [c]
  · simp [c]
theorem kO_29 (v : Int64) (q : Int32) (hi : HI) (hl : HL) (Φ : Int32 → HI → HL → Prop) : wbM_kindOf_29 v q hi hl Φ = Φ (kfold v q (kcs.drop 2)) hi hl := by
  unfold wbM_kindOf_29
  have e : kcs.drop 2 = (20579973, 2) :: kcs.drop 3 := rfl
  rw [e, kfold_c, lg_cmp_eq, kO_43, kO_43]
  by_cases c : v = 20579973
  · simp [c]
  · simp [c]
theorem kO_15 (v : Int64) (q : Int32) (hi : HI) (hl : HL) (Φ : Int32 → HI → HL → Prop) : wbM_kindOf_15 v q hi hl Φ = Φ (kfold v q (kcs.drop 1)) hi hl := by
  unfold wbM_kindOf_15
  have e : kcs.drop 1 = (9913012, 1) :: kcs.drop 2 := rfl
  rw [e, kfold_c, lg_cmp_eq, kO_29, kO_29]
  by_cases c : v = 9913012
  · simp [c]
  · simp [c]
theorem pM_kindOf (v : Int64) (hi : HI) (hl : HL) (Φ : Int32 → HI → HL → Prop) : wpM_kindOf v hi hl Φ = Φ (kfold v (-1) kcs) hi hl := by
  unfold wpM_kindOf wbM_kindOf_0
  have e : kcs = (638548, 0) :: kcs.drop 1 := rfl
  rw [e, kfold_c, lg_cmp_eq, kO_15, kO_15]
  by_cases c : v = 638548
  · simp [c]
  · simp [c]
def en (c : Nat → Int32) (p : Nat) : Nat → Nat
  | 0 => 0
  | m + 1 => 32 * en c p m + ((c (p + m)).toNatClampNeg - 96)
def e64 (c : Nat → Int32) (p : Nat) : Nat → Int64
  | 0 => 0
  | m + 1 => 32 * e64 c p m + (c (p + m)).toInt64 - 96
def lets (c : Nat → Int32) (p m : Nat) : Prop := ∀ i, i < m → 97 ≤ c (p + i) ∧ c (p + i) ≤ 122
theorem lets_s {c : Nat → Int32} {p m : Nat} : lets c p (m + 1) ↔ lets c p m ∧ 97 ≤ c (p + m) ∧ c (p + m) ≤ 122 := by
  constructor
  · intro h; exact ⟨fun i hi => h i (by omega), h m (by omega)⟩
  · intro ⟨h1, h2⟩ i hi
    by_cases e : i = m
    · subst e; exact h2
    · exact h1 i (by omega)
theorem let_n {x : Int32} (h : 97 ≤ x ∧ x ≤ 122) : ∃ k, 97 ≤ k ∧ k ≤ 122 ∧ x = nI k := by
  have h0 : ¬ x < 0 := by
    rw [i32_nlt]
    have := h.1
    rw [Int32.le_iff_toInt_le] at this ⊢
    have e1 : (97 : Int32).toInt = 97 := by decide
    have e2 : (0 : Int32).toInt = 0 := by decide
    omega
  obtain ⟨k, hk, e⟩ := nI_of2 (n := 122) (by decide) h0 h.2
  refine ⟨k, ?_, hk, e⟩
  have := h.1
  rw [e] at this
  have e1 : (97 : Int32) = nI 97 := rfl
  rw [e1, nI_leI (by omega) (by omega)] at this
  exact this
theorem en_lt {c : Nat → Int32} {p : Nat} : ∀ {m : Nat}, lets c p m → en c p m < 32 ^ m
  | 0, _ => by simp [en]
  | m + 1, h => by
    have h' := lets_s.mp h
    have := en_lt h'.1
    obtain ⟨k, k1, k2, e⟩ := let_n h'.2
    simp only [en, e, nI_clamp (show k < 2 ^ 31 by omega), Nat.pow_succ]
    omega
theorem e64_en {c : Nat → Int32} {p : Nat} : ∀ {m : Nat}, lets c p m → e64 c p m = lN (en c p m)
  | 0, _ => rfl
  | m + 1, h => by
    have h' := lets_s.mp h
    obtain ⟨k, k1, k2, e⟩ := let_n h'.2
    simp only [e64, en, e64_en h'.1, e, nI_clamp (show k < 2 ^ 31 by omega), nI_l (show k < 2 ^ 31 by omega)]
    have e32 : (32 : Int64) = lN 32 := rfl
    have e96 : (96 : Int64) = lN 96 := rfl
    rw [e32, e96, lN_mul, lN_add, lN_sub (by omega)]
    congr 1
    omega
noncomputable def LTR (d : HI) (w j : Nat) : Int64 := @ite _ (j < w ∧ (d 3 j).toNatClampNeg ≤ (d 2 j).toNatClampNeg + 10 ∧ lets (d 1) (d 2 j).toNatClampNeg ((d 3 j).toNatClampNeg - (d 2 j).toNatClampNeg)) (Classical.propDecidable _) (lN (en (d 1) (d 2 j).toNatClampNeg ((d 3 j).toNatClampNeg - (d 2 j).toNatClampNeg))) 0
theorem pM_letters {d hm : HI} {n w : Nat} {hl : HL} {Φ : Int64 → HI → HL → Prop} (hT : TXw d w) (hR : RC d hm n w) (j : Nat) (hj : j < 100) (h : Φ (LTR d w j) hm hl) : wpM_letters (nI j) hm hl Φ := by
  obtain ⟨h6, h2, e1, e2, e3, hL⟩ := hR
  obtain ⟨hw, hT⟩ := hT
  have k32 : LTR d w j = 0 → wbM_letters_32 (nI j) 0 hm hl Φ := fun q => by
    rw [q] at h
    unfold wbM_letters_32 wbM_letters_33 wbM_letters_50
    refine br_t rfl ⟨1, ?_⟩
    unfold wbM_letters_52 wbM_letters_109
    exact br_t rfl (br_t rfl h)
  unfold wpM_letters wbM_letters_0
  rw [h2]
  refine pk_le w j (fun c => k32 ?_) (fun c => ?_)
  · unfold LTR; rw [if_neg (fun z => absurd z.1 (by omega))]
  · obtain ⟨f, t, ef, et, ft, t40⟩ := hT j c
    have hv : vp_in (nI j) 20 := vp_in_nI (by omega) (by omega)
    have hcj : (nI j).toNatClampNeg = j := nI_clamp (by omega)
    have hcf : (nI f).toNatClampNeg = f := nI_clamp (by omega)
    have hct : (nI t).toNatClampNeg = t := nI_clamp (by omega)
    refine ⟨hv, hv, ?_⟩
    rw [hcj, e2, e3, ef, et, pk_sub (by omega)]
    refine pk_lt 10 (t - f) (fun q => k32 ?_) (fun q => ?_)
    · unfold LTR; rw [ef, et, hcf, hct, if_neg (fun z => absurd z.2.1 (by omega))]
    · unfold wbM_letters_33 wbM_letters_50
      refine br_f (by decide) ⟨hv, ?_⟩
      rw [hcj, e2, ef]
      have key := loop_g (fun fu i (s : Int64 × Int32) => wbM_letters_52 fu (nI j) s.1 s.2 (nI (f + i)) hm hl Φ) (fun i => (e64 (d 1) f i, bI (@decide (lets (d 1) f i) (Classical.propDecidable _)))) (t - f) (fun m => ?_) (fun m i hi ih => ?_) 0 (by omega)
      · obtain ⟨m, hm⟩ := key
        have z : @decide (lets (d 1) f 0) (Classical.propDecidable _) = true := by
          exact @decide_eq_true _ (Classical.propDecidable _) (fun i hi => absurd hi (by omega))
        simp only [z, bI_t, e64, Nat.add_zero] at hm
        exact ⟨m, hm⟩
      · unfold wbM_letters_52 wbM_letters_109
        simp only [bI_0, bI_ne, hcj, e3, et]
        by_cases z : lets (d 1) f (t - f)
        · refine br_f (by simp [z]) ⟨hv, ?_⟩
          refine br_t (nI_le (by omega) (by omega)) (br_f (by simp [z]) ?_)
          have : LTR d w j = e64 (d 1) f (t - f) := by
            unfold LTR; rw [ef, et, hcf, hct, if_pos ⟨c, by omega, z⟩, e64_en z]
          rw [← this]; exact h
        · refine br_t (by simp [z]) (br_t (by simp [z]) ?_)
          have : LTR d w j = 0 := by
            unfold LTR; rw [ef, et, hcf, hct, if_neg (fun y => z y.2.2)]
          rw [← this]; exact h
      · unfold wbM_letters_52 wbM_letters_109
        simp only [bI_0, bI_ne, hcj, e3, et]
        by_cases z : lets (d 1) f i
        · refine br_f (by simp [z]) ⟨hv, ?_⟩
          refine br_f (nI_ge (by omega) (by omega)) ⟨vp_in_nI (by omega) (by omega), ?_⟩
          rw [pM_in]
          refine ⟨vp_in_nI (by omega) (by omega), ?_⟩
          rw [nI_clamp (by omega), nI_n1, nI_1, e1]
          have e5 : (32 * e64 (d 1) f i + (d 1 (f + i)).toInt64 - 96) = e64 (d 1) f (i + 1) := rfl
          rw [e5]
          have e6 : @decide (lets (d 1) f (i + 1)) (Classical.propDecidable _) = decide (97 ≤ d 1 (f + i) ∧ d 1 (f + i) ≤ 122) := by
            rw [decide_eq_decide, lets_s]
            exact ⟨fun y => y.2, fun y => ⟨z, y⟩⟩
          rw [← e6]
          exact ih
        · refine br_t (by simp [z]) (br_t (by simp [z]) ?_)
          have : LTR d w j = 0 := by
            unfold LTR; rw [ef, et, hcf, hct, if_neg (fun y => z (fun r hr => y.2.2 r (by omega)))]
          rw [← this]; exact h
