/-! a line that is not faulty has as many words as are looked at (printed by wip/whole/pure/lens.py) -/
theorem NU_w {d : HI} {w j : Nat} (h : 0 ≤ NU d w j) : j < w := by
  rcases NU_cases d w j with e | ⟨_, _, _, c⟩
  · rw [e] at h; exact absurd h (by decide)
  · exact c
theorem SW_w {d : HI} {n w j : Nat} (h : 0 ≤ SW d n w j) : j < w := by
  by_cases c : 0 ≤ NU d w j
  · exact NU_w c
  · unfold SW at h
    rw [if_neg (fun y => c y.1)] at h; exact absurd h (by decide)
theorem NW_w {d : HI} {n w j : Nat} (h : 0 ≤ NW d n w j) : j < w := by
  by_cases c : j < w
  · exact c
  · have e : NX d w j = -1 := by unfold NX; rw [if_neg c]
    unfold NW at h
    rw [e, if_neg (fun y => absurd y.1 (by decide))] at h; exact absurd h (by decide)
theorem len_1 {d : HI} {n w : Nat} (ha : (CK d n w 1).all id = true) : 2 + (CK d n w 1).length ≤ w := by
  rw [CK_1] at ha ⊢
  simp only [List.all_cons, List.all_nil, Bool.and_eq_true, id, and_true] at ha
  have := SW_w (of_decide_eq_true ha).1
  simp only [List.length_cons, List.length_nil]
  omega
theorem len_2 {d : HI} {n w : Nat} (ha : (CK d n w 2).all id = true) : 2 + (CK d n w 2).length ≤ w := by
  rw [CK_2] at ha ⊢
  simp only [List.all_cons, List.all_nil, Bool.and_eq_true, id, and_true] at ha
  have := SW_w (of_decide_eq_true ha).1
  simp only [List.length_cons, List.length_nil]
  omega
theorem len_3 {d : HI} {n w : Nat} (ha : (CK d n w 3).all id = true) : 2 + (CK d n w 3).length ≤ w := by
  rw [CK_3] at ha ⊢
  simp only [List.all_cons, List.all_nil, Bool.and_eq_true, id, and_true] at ha
  obtain ⟨b0, b1⟩ := ha
  have := NU_w (of_decide_eq_true b1).1
  simp only [List.length_cons, List.length_nil]
  omega
theorem len_4 {d : HI} {n w : Nat} (ha : (CK d n w 4).all id = true) : 2 + (CK d n w 4).length ≤ w := by
  rw [CK_4] at ha ⊢
  simp only [List.all_cons, List.all_nil, Bool.and_eq_true, id, and_true] at ha
  obtain ⟨b0, b1⟩ := ha
  have := NW_w (of_decide_eq_true b1).1
  simp only [List.length_cons, List.length_nil]
  omega
theorem len_5 {d : HI} {n w : Nat} (ha : (CK d n w 5).all id = true) : 2 + (CK d n w 5).length ≤ w := by
  rw [CK_5] at ha ⊢
  simp only [List.all_cons, List.all_nil, Bool.and_eq_true, id, and_true] at ha
  obtain ⟨b0, b1⟩ := ha
  have := NW_w (of_decide_eq_true b1).1
  simp only [List.length_cons, List.length_nil]
  omega
theorem len_6 {d : HI} {n w : Nat} (ha : (CK d n w 6).all id = true) : 2 + (CK d n w 6).length ≤ w := by
  rw [CK_6] at ha ⊢
  simp only [List.all_cons, List.all_nil, Bool.and_eq_true, id, and_true] at ha
  obtain ⟨b0, b1⟩ := ha
  have := NW_w (of_decide_eq_true b1).1
  simp only [List.length_cons, List.length_nil]
  omega
theorem len_7 {d : HI} {n w : Nat} (ha : (CK d n w 7).all id = true) : 2 + (CK d n w 7).length ≤ w := by
  rw [CK_7] at ha ⊢
  simp only [List.all_cons, List.all_nil, Bool.and_eq_true, id, and_true] at ha
  obtain ⟨b0, b1, b2⟩ := ha
  have := NW_w (of_decide_eq_true b2).1
  simp only [List.length_cons, List.length_nil]
  omega
theorem len_8 {d : HI} {n w : Nat} (ha : (CK d n w 8).all id = true) : 2 + (CK d n w 8).length ≤ w := by
  rw [CK_8] at ha ⊢
  simp only [List.all_cons, List.all_nil, Bool.and_eq_true, id, and_true] at ha
  obtain ⟨b0, b1, b2⟩ := ha
  have := NW_w (of_decide_eq_true b2).1
  simp only [List.length_cons, List.length_nil]
  omega
theorem len_9 {d : HI} {n w : Nat} (ha : (CK d n w 9).all id = true) : 2 + (CK d n w 9).length ≤ w := by
  rw [CK_9] at ha ⊢
  simp only [List.all_cons, List.all_nil, Bool.and_eq_true, id, and_true] at ha
  obtain ⟨b0, b1, b2⟩ := ha
  have := NW_w (of_decide_eq_true b2).1
  simp only [List.length_cons, List.length_nil]
  omega
theorem len_10 {d : HI} {n w : Nat} (ha : (CK d n w 10).all id = true) : 2 + (CK d n w 10).length ≤ w := by
  rw [CK_10] at ha ⊢
  simp only [List.all_cons, List.all_nil, Bool.and_eq_true, id, and_true] at ha
  obtain ⟨b0, b1, b2⟩ := ha
  have := NW_w (of_decide_eq_true b2).1
  simp only [List.length_cons, List.length_nil]
  omega
theorem len_11 {d : HI} {n w : Nat} (ha : (CK d n w 11).all id = true) : 2 + (CK d n w 11).length ≤ w := by
  rw [CK_11] at ha ⊢
  simp only [List.all_cons, List.all_nil, Bool.and_eq_true, id, and_true] at ha
  obtain ⟨b0, b1, b2⟩ := ha
  have := NW_w (of_decide_eq_true b2).1
  simp only [List.length_cons, List.length_nil]
  omega
theorem len_12 {d : HI} {n w : Nat} (ha : (CK d n w 12).all id = true) : 2 + (CK d n w 12).length ≤ w := by
  rw [CK_12] at ha ⊢
  simp only [List.all_cons, List.all_nil, Bool.and_eq_true, id, and_true] at ha
  obtain ⟨b0, b1, b2⟩ := ha
  have := NW_w (of_decide_eq_true b2).1
  simp only [List.length_cons, List.length_nil]
  omega
theorem len_13 {d : HI} {n w : Nat} (ha : (CK d n w 13).all id = true) : 2 + (CK d n w 13).length ≤ w := by
  rw [CK_13] at ha ⊢
  simp only [List.all_cons, List.all_nil, Bool.and_eq_true, id, and_true] at ha
  obtain ⟨b0, b1, b2⟩ := ha
  have := NW_w (of_decide_eq_true b2).1
  simp only [List.length_cons, List.length_nil]
  omega
theorem len_14 {d : HI} {n w : Nat} (ha : (CK d n w 14).all id = true) : 2 + (CK d n w 14).length ≤ w := by
  rw [CK_14] at ha ⊢
  simp only [List.all_cons, List.all_nil, Bool.and_eq_true, id, and_true] at ha
  obtain ⟨b0, b1, b2⟩ := ha
  have := NW_w (of_decide_eq_true b2).1
  simp only [List.length_cons, List.length_nil]
  omega
theorem len_15 {d : HI} {n w : Nat} (ha : (CK d n w 15).all id = true) : 2 + (CK d n w 15).length ≤ w := by
  rw [CK_15] at ha ⊢
  simp only [List.all_cons, List.all_nil, Bool.and_eq_true, id, and_true] at ha
  obtain ⟨b0, b1, b2⟩ := ha
  have := NW_w (of_decide_eq_true b2).1
  simp only [List.length_cons, List.length_nil]
  omega
theorem len_16 {d : HI} {n w : Nat} (ha : (CK d n w 16).all id = true) : 2 + (CK d n w 16).length ≤ w := by
  rw [CK_16] at ha ⊢
  simp only [List.all_cons, List.all_nil, Bool.and_eq_true, id, and_true] at ha
  obtain ⟨b0, b1, b2⟩ := ha
  have := NW_w (of_decide_eq_true b2).1
  simp only [List.length_cons, List.length_nil]
  omega
theorem len_17 {d : HI} {n w : Nat} (ha : (CK d n w 17).all id = true) : 2 + (CK d n w 17).length ≤ w := by
  rw [CK_17] at ha ⊢
  simp only [List.all_cons, List.all_nil, Bool.and_eq_true, id, and_true] at ha
  obtain ⟨b0, b1, b2⟩ := ha
  have := NW_w (of_decide_eq_true b2).1
  simp only [List.length_cons, List.length_nil]
  omega
theorem len_18 {d : HI} {n w : Nat} (ha : (CK d n w 18).all id = true) : 2 + (CK d n w 18).length ≤ w := by
  rw [CK_18] at ha ⊢
  simp only [List.all_cons, List.all_nil, Bool.and_eq_true, id, and_true] at ha
  obtain ⟨b0, b1, b2⟩ := ha
  have := NW_w (of_decide_eq_true b2).1
  simp only [List.length_cons, List.length_nil]
  omega
theorem len_19 {d : HI} {n w : Nat} (ha : (CK d n w 19).all id = true) : 2 + (CK d n w 19).length ≤ w := by
  rw [CK_19] at ha ⊢
  simp only [List.all_cons, List.all_nil, Bool.and_eq_true, id, and_true] at ha
  obtain ⟨b0, b1, b2⟩ := ha
  have := NW_w (of_decide_eq_true b2).1
  simp only [List.length_cons, List.length_nil]
  omega
theorem len_20 {d : HI} {n w : Nat} (ha : (CK d n w 20).all id = true) : 2 + (CK d n w 20).length ≤ w := by
  rw [CK_20] at ha ⊢
  simp only [List.all_cons, List.all_nil, Bool.and_eq_true, id, and_true] at ha
  obtain ⟨b0, b1, b2⟩ := ha
  have := NW_w (of_decide_eq_true b2).1
  simp only [List.length_cons, List.length_nil]
  omega
theorem len_21 {d : HI} {n w : Nat} (ha : (CK d n w 21).all id = true) : 2 + (CK d n w 21).length ≤ w := by
  rw [CK_21] at ha ⊢
  simp only [List.all_cons, List.all_nil, Bool.and_eq_true, id, and_true] at ha
  obtain ⟨b0, b1, b2, b3⟩ := ha
  have := NU_w (of_decide_eq_true b3).1
  simp only [List.length_cons, List.length_nil]
  omega
theorem len_22 {d : HI} {n w : Nat} (ha : (CK d n w 22).all id = true) : 2 + (CK d n w 22).length ≤ w := by
  rw [CK_22] at ha ⊢
  simp only [List.all_cons, List.all_nil, Bool.and_eq_true, id, and_true] at ha
  obtain ⟨b0, b1, b2⟩ := ha
  have := NU_w (of_decide_eq_true b2).1
  simp only [List.length_cons, List.length_nil]
  omega
theorem len_23 {d : HI} {n w : Nat} (ha : (CK d n w 23).all id = true) : 2 + (CK d n w 23).length ≤ w := by
  rw [CK_23] at ha ⊢
  simp only [List.all_cons, List.all_nil, Bool.and_eq_true, id, and_true] at ha
  obtain ⟨b0, b1, b2⟩ := ha
  have := NU_w (of_decide_eq_true b2).1
  simp only [List.length_cons, List.length_nil]
  omega
theorem len_24 {d : HI} {n w : Nat} (ha : (CK d n w 24).all id = true) : 2 + (CK d n w 24).length ≤ w := by
  rw [CK_24] at ha ⊢
  simp only [List.all_cons, List.all_nil, Bool.and_eq_true, id, and_true] at ha
  obtain ⟨b0, b1, b2, b3⟩ := ha
  have := NW_w (of_decide_eq_true b3).1
  simp only [List.length_cons, List.length_nil]
  omega
theorem len_25 {d : HI} {n w : Nat} (ha : (CK d n w 25).all id = true) : 2 + (CK d n w 25).length ≤ w := by
  rw [CK_25] at ha ⊢
  simp only [List.all_cons, List.all_nil, Bool.and_eq_true, id, and_true] at ha
  obtain ⟨b0, b1, b2⟩ := ha
  have := NW_w (of_decide_eq_true b2).1
  simp only [List.length_cons, List.length_nil]
  omega
theorem len_26 {d : HI} {n w : Nat} (ha : (CK d n w 26).all id = true) : 2 + (CK d n w 26).length ≤ w := by
  rw [CK_26] at ha ⊢
  simp only [List.all_cons, List.all_nil, Bool.and_eq_true, id, and_true] at ha
  obtain ⟨b0, b1, b2, b3⟩ := ha
  have := NW_w (of_decide_eq_true b3).1
  simp only [List.length_cons, List.length_nil]
  omega
theorem len_27 {d : HI} {n w : Nat} (ha : (CK d n w 27).all id = true) : 2 + (CK d n w 27).length ≤ w := by
  rw [CK_27] at ha ⊢
  simp only [List.all_cons, List.all_nil, Bool.and_eq_true, id, and_true] at ha
  obtain ⟨b0, b1, b2⟩ := ha
  have := NW_w (of_decide_eq_true b2).1
  simp only [List.length_cons, List.length_nil]
  omega
theorem len_28 {d : HI} {n w : Nat} (ha : (CK d n w 28).all id = true) : 2 + (CK d n w 28).length ≤ w := by
  rw [CK_28] at ha ⊢
  simp only [List.all_cons, List.all_nil, Bool.and_eq_true, id, and_true] at ha
  obtain ⟨b0, b1, b2⟩ := ha
  have := NW_w (of_decide_eq_true b2).1
  simp only [List.length_cons, List.length_nil]
  omega
theorem len_29 {d : HI} {n w : Nat} (ha : (CK d n w 29).all id = true) : 2 + (CK d n w 29).length ≤ w := by
  rw [CK_29] at ha ⊢
  simp only [List.all_cons, List.all_nil, Bool.and_eq_true, id, and_true] at ha
  have := NW_w (of_decide_eq_true ha).1
  simp only [List.length_cons, List.length_nil]
  omega
theorem len_30 {d : HI} {n w : Nat} (ha : (CK d n w 30).all id = true) : 2 + (CK d n w 30).length ≤ w := by
  rw [CK_30] at ha ⊢
  simp only [List.all_cons, List.all_nil, Bool.and_eq_true, id, and_true] at ha
  have := NW_w (of_decide_eq_true ha).1
  simp only [List.length_cons, List.length_nil]
  omega
theorem len_n {d : HI} {n w κ : Nat} (hκ : κ ≤ 30) (ha : (CK d n w κ).all id = true) : 2 + (CK d n w κ).length ≤ w := by
  by_cases k0 : κ = 0
  · subst k0
    have e : CK d n w 0 = CKs d n w := by unfold CK; rw [if_pos rfl]
    rw [e] at ha ⊢
    unfold CKs at ha ⊢
    by_cases q : LTR d w 2 = 1656889
    · rw [if_pos q] at ha ⊢
      simp only [List.all_cons, List.all_nil, Bool.and_eq_true, id, and_true] at ha
      have := SW_w (of_decide_eq_true ha.2.2).1
      simp only [List.length_cons, List.length_nil]
      omega
    · rw [if_neg q] at ha ⊢
      by_cases q2 : LTR d w 2 = 77224099
      · rw [if_pos q2] at ha ⊢
        simp only [List.all_cons, List.all_nil, Bool.and_eq_true, id, and_true] at ha
        have z := (of_decide_eq_true ha.2).1
        have h0 : (0 : Int32) ≤ NU d w 3 := by
          rw [Int32.le_iff_toInt_le] at z ⊢
          have e1 : (1 : Int32).toInt = 1 := by decide
          have e2 : (0 : Int32).toInt = 0 := by decide
          omega
        have := NU_w h0
        simp only [List.length_cons, List.length_nil]
        omega
      · rw [if_neg q2] at ha; simp at ha
  · have hc : κ = 1 ∨ κ = 2 ∨ κ = 3 ∨ κ = 4 ∨ κ = 5 ∨ κ = 6 ∨ κ = 7 ∨ κ = 8 ∨ κ = 9 ∨ κ = 10 ∨ κ = 11 ∨ κ = 12 ∨ κ = 13 ∨ κ = 14 ∨ κ = 15 ∨ κ = 16 ∨ κ = 17 ∨ κ = 18 ∨ κ = 19 ∨ κ = 20 ∨ κ = 21 ∨ κ = 22 ∨ κ = 23 ∨ κ = 24 ∨ κ = 25 ∨ κ = 26 ∨ κ = 27 ∨ κ = 28 ∨ κ = 29 ∨ κ = 30 := by omega
    rcases hc with rfl | rfl | rfl | rfl | rfl | rfl | rfl | rfl | rfl | rfl | rfl | rfl | rfl | rfl | rfl | rfl | rfl | rfl | rfl | rfl | rfl | rfl | rfl | rfl | rfl | rfl | rfl | rfl | rfl | rfl
    · exact len_1 ha
    · exact len_2 ha
    · exact len_3 ha
    · exact len_4 ha
    · exact len_5 ha
    · exact len_6 ha
    · exact len_7 ha
    · exact len_8 ha
    · exact len_9 ha
    · exact len_10 ha
    · exact len_11 ha
    · exact len_12 ha
    · exact len_13 ha
    · exact len_14 ha
    · exact len_15 ha
    · exact len_16 ha
    · exact len_17 ha
    · exact len_18 ha
    · exact len_19 ha
    · exact len_20 ha
    · exact len_21 ha
    · exact len_22 ha
    · exact len_23 ha
    · exact len_24 ha
    · exact len_25 ha
    · exact len_26 ha
    · exact len_27 ha
    · exact len_28 ha
    · exact len_29 ha
    · exact len_30 ha
theorem lr_all : ∀ (L : List Bool) (j : Nat), L.all id = true → lr L j = j + L.length
  | [], j, _ => rfl
  | b :: L, j, h => by
    simp only [List.all_cons, Bool.and_eq_true, id] at h
    rw [h.1]
    simp only [lr, if_true, List.length_cons]
    rw [lr_all L (j + 1) h.2]; omega
theorem lr_le : ∀ (L : List Bool) (j : Nat), lr L j ≤ j + L.length
  | [], j => Nat.le_refl _
  | b :: L, j => by
    simp only [lr, List.length_cons]
    split
    · have := lr_le L (j + 1); omega
    · omega
theorem CK_len {d : HI} {n w κ : Nat} (hκ : κ ≤ 30) : (CK d n w κ).length ≤ 4 := by
  by_cases k0 : κ = 0
  · subst k0
    have e : CK d n w 0 = CKs d n w := by unfold CK; rw [if_pos rfl]
    rw [e]
    unfold CKs
    split
    · simp
    · split <;> simp
  · have hc : κ = 1 ∨ κ = 2 ∨ κ = 3 ∨ κ = 4 ∨ κ = 5 ∨ κ = 6 ∨ κ = 7 ∨ κ = 8 ∨ κ = 9 ∨ κ = 10 ∨ κ = 11 ∨ κ = 12 ∨ κ = 13 ∨ κ = 14 ∨ κ = 15 ∨ κ = 16 ∨ κ = 17 ∨ κ = 18 ∨ κ = 19 ∨ κ = 20 ∨ κ = 21 ∨ κ = 22 ∨ κ = 23 ∨ κ = 24 ∨ κ = 25 ∨ κ = 26 ∨ κ = 27 ∨ κ = 28 ∨ κ = 29 ∨ κ = 30 := by omega
    rcases hc with rfl | rfl | rfl | rfl | rfl | rfl | rfl | rfl | rfl | rfl | rfl | rfl | rfl | rfl | rfl | rfl | rfl | rfl | rfl | rfl | rfl | rfl | rfl | rfl | rfl | rfl | rfl | rfl | rfl | rfl
    · rw [CK_1]; simp
    · rw [CK_2]; simp
    · rw [CK_3]; simp
    · rw [CK_4]; simp
    · rw [CK_5]; simp
    · rw [CK_6]; simp
    · rw [CK_7]; simp
    · rw [CK_8]; simp
    · rw [CK_9]; simp
    · rw [CK_10]; simp
    · rw [CK_11]; simp
    · rw [CK_12]; simp
    · rw [CK_13]; simp
    · rw [CK_14]; simp
    · rw [CK_15]; simp
    · rw [CK_16]; simp
    · rw [CK_17]; simp
    · rw [CK_18]; simp
    · rw [CK_19]; simp
    · rw [CK_20]; simp
    · rw [CK_21]; simp
    · rw [CK_22]; simp
    · rw [CK_23]; simp
    · rw [CK_24]; simp
    · rw [CK_25]; simp
    · rw [CK_26]; simp
    · rw [CK_27]; simp
    · rw [CK_28]; simp
    · rw [CK_29]; simp
    · rw [CK_30]; simp
/-! what stays when the first n lines stay -/
theorem Asg_c {d d' : HI} {n : Nat} (h : EQL d d' n) (hF : WF d n) {v : Nat → Nat} {σ ι : Nat} (hA : Asg d' n v σ ι) : Asg d n v σ ι := by
  obtain ⟨h1, h2, h3⟩ := hA
  have hW := hF.1
  refine ⟨(VR_c h hW).mp h1, Sett_c h hF h2, fun k hk => ⟨fun e => ?_, fun e => ?_⟩⟩
  · have := (h3 k hk).1 (by rw [h 5 (by omega) (by omega) k hk]; exact e)
    rw [this, fld_c h hW σ hk (fre_2 e).1]
  · have := (h3 k hk).2 (by rw [h 5 (by omega) (by omega) k hk]; exact e)
    rw [this, fld_c h hW ι hk (fre_1 e).1]
theorem RXL_c {d d' hx : HI} {n : Nat} (h : EQL d d' n) (hF : WF d n) (hX : RXL d hx n) : RXL d' hx n := by
  have hW := hF.1
  obtain ⟨a1, a2, a3, a4, a5⟩ := hX
  refine ⟨a1, by rw [tot_c h hW _ (nod_nI (by omega) (by omega)) n (Nat.le_refl _)]; exact a2, by rw [tot_c h hW _ (nod_nI (by omega) (by omega)) n (Nat.le_refl _)]; exact a3, by rw [hrd_c h n (Nat.le_refl _)]; exact a4, fun k hk => ?_⟩
  obtain ⟨⟨κ, hκ, e⟩, l0, l1, l2, l3, l4⟩ := a5 k hk
  have e5 := h 5 (by omega) (by omega) k hk
  refine ⟨⟨κ, hκ, by rw [e5]; exact e⟩, by rw [h 4 (by omega) (by omega) k hk]; exact l0, by rw [e5]; exact l1, fun q => ?_, fun q => ?_, fun q => ?_⟩
  · rw [e5] at q; rw [sc_c h hk]; exact l2 q
  · rw [e5] at q
    have := nk_c h hW hk q
    unfold nk at this
    rw [this, FR_c h hk]; exact l3 q
  · rw [e5] at q
    rw [hsq_c h _ _ n (Nat.le_refl _), hsq_c h _ _ n (Nat.le_refl _)]; exact l4 q
theorem TBL_c {d d' hx : HI} {hl : HL} {n : Nat} (h : EQL d d' n) (hF : WF d n) (hT : TBL d n hx hl) : TBL d' n hx hl := by
  have hW := hF.1
  obtain ⟨hWi, hLa, hBd, hIn, hPl⟩ := hT
  refine ⟨fun σ hσ i hi v hA k hk hno j hj => ?_, fun σ hσ i hi v hA k hk e2 j hj => ?_, fun σ hσ i hi v hA => ?_, fun k hk e2 hq v h1 h2 h3 => ?_, fun k hk e => ?_, hPl.2.1, ?_, ?_⟩
  · rw [h 5 (by omega) (by omega) k hk] at hno
    rw [nk_c h hW hk hno] at hj
    exact hWi σ hσ i hi v (Asg_c h hF hA) k hk hno j hj
  · rw [h 5 (by omega) (by omega) k hk] at e2
    have hno := (fre_2 e2).1
    rw [nk_c h hW hk hno] at hj
    rw [pl_c h hW hk hno, nx_c h hF v n (Nat.le_refl _)]
    exact hLa σ hσ i hi v (Asg_c h hF hA) k hk e2 j hj
  · rw [bdd_c h hF v n (Nat.le_refl _), hld_c h hF v n (Nat.le_refl _)]
    exact hBd σ hσ i hi v (Asg_c h hF hA)
  · rw [h 5 (by omega) (by omega) k hk] at e2
    rw [hsq_c h _ _ n (Nat.le_refl _)] at hq
    rw [ivl_c h hF v n (Nat.le_refl _)]
    refine hIn k hk e2 hq v ((VR_c h hW).mp h1) (Sett_c h hF h2) (fun k hk hf => h3 k hk ?_)
    unfold fre; rw [h 5 (by omega) (by omega) k hk]; exact hf
  · rw [h 5 (by omega) (by omega) k hk] at e
    have hno : nod (d 5 k) := by rcases e with e | e <;> rw [e] <;> exact ⟨by decide, by decide⟩
    rw [pl_c h hW hk hno]; exact hPl.1 k hk e
  · rw [tot_c h hW _ (nod_nI (by omega) (by omega)) n (Nat.le_refl _)]; exact hPl.2.2.1
  · rw [tot_c h hW _ (nod_nI (by omega) (by omega)) n (Nat.le_refl _)]; exact hPl.2.2.2
/-- the tables hang on few of the class's cells -/
theorem TBL_x {d hx hx' : HI} {hl hl' : HL} {n : Nat} (h1 : ∀ k, k < 20 → hx' (24 + k) = hx (24 + k)) (h2 : ∀ k, k < 20 → hl' (44 + k) = hl (44 + k)) (h7 : hl' 7 = hl 7) (h8 : hl' 8 = hl 8) (h9 : hl' 9 = hl 9) (hn : n ≤ 20) (hT : TBL d n hx hl) : TBL d n hx' hl' := by
  obtain ⟨hWi, hLa, hBd, hIn, hPl⟩ := hT
  refine ⟨fun σ hσ i hi v hA k hk hno j hj => ?_, fun σ hσ i hi v hA k hk e2 j hj => ?_, fun σ hσ i hi v hA => ?_, fun k hk e2 hq v h1' h2' h3' => ?_, fun k hk e => ?_, fun k a b => ?_, hPl.2.2.1, hPl.2.2.2⟩
  · rw [h2 k (by omega)]; exact hWi σ hσ i hi v hA k hk hno j hj
  · rw [h7]; exact hLa σ hσ i hi v hA k hk e2 j hj
  · rw [h8, h9]; exact hBd σ hσ i hi v hA
  · rw [h1 k (by omega)]; exact hIn k hk e2 hq v h1' h2' h3'
  · rw [h1 k (by omega)]; exact hPl.1 k hk e
  · rw [h1 k b]; exact hPl.2.1 k a b
theorem RXL_x {d hx hx' : HI} {n : Nat} (h1 : ∀ k, k < 20 → hx' (24 + k) = hx (24 + k)) (h5 : hx' 5 = hx 5) (hn : n ≤ 20) (hX : RXL d hx n) : RXL d hx' n := by
  obtain ⟨a1, a2, a3, a4, a5⟩ := hX
  refine ⟨by rw [h5]; exact a1, by rw [h5]; exact a2, by rw [h5]; exact a3, by rw [h5]; exact a4, fun k hk => ⟨(a5 k hk).1, ?_⟩⟩
  unfold LX
  rw [h1 k (by omega)]
  exact (a5 k hk).2
theorem WInc_c {d d' : HI} {n : Nat} (h : EQL d d' n) (hM : WInc d n) : WInc d' n := fun a b hab hb => by
  rw [h 4 (by omega) (by omega) a (by omega), h 4 (by omega) (by omega) b hb]; exact hM a b hab hb
