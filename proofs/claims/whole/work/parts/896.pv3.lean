/-! M: values stay in range (printed by wip/whole/pure/ranges.py) -/
/-- an int that stands for a number below a bound -/
def okr (x : Int32) (m : Nat) : Bool := decide (nI x.toNatClampNeg = x) && decide (x.toNatClampNeg < m)
theorem okr_e {x : Int32} {m : Nat} (h : okr x m = true) : ∃ r, r < m ∧ x = nI r := by
  unfold okr at h
  rw [Bool.and_eq_true, decide_eq_true_eq, decide_eq_true_eq] at h
  exact ⟨_, h.2, h.1.symm⟩
theorem okr_n {r m : Nat} (h : r < m) : ∃ r', r' < m ∧ nI r = nI r' := ⟨r, h, rfl⟩
theorem rg_4 : ∀ w, w ∈ [1, 2, 3] → ∀ x, x ∈ List.range 8 → x < 2 ^ w → okr (opM 4 (nI w) 0 0 0 0 (nI x) 0 0) (2 ^ w) = true := by decide +kernel
theorem rg_5 : ∀ w, w ∈ [1, 2, 3] → ∀ x, x ∈ List.range 8 → x < 2 ^ w → okr (opM 5 (nI w) 0 0 0 0 (nI x) 0 0) (2 ^ w) = true := by decide +kernel
theorem rg_7 : ∀ w, w ∈ [1, 2, 3] → ∀ x, x ∈ List.range 8 → x < 2 ^ w → ∀ y, y ∈ List.range 8 → y < 2 ^ w → okr (opM 7 (nI w) 0 0 0 0 (nI x) (nI y) 0) (2 ^ w) = true := by decide +kernel
theorem rg_8 : ∀ w, w ∈ [1, 2, 3] → ∀ x, x ∈ List.range 8 → x < 2 ^ w → ∀ y, y ∈ List.range 8 → y < 2 ^ w → okr (opM 8 (nI w) 0 0 0 0 (nI x) (nI y) 0) (2 ^ w) = true := by decide +kernel
theorem rg_9 : ∀ w, w ∈ [1, 2, 3] → ∀ x, x ∈ List.range 8 → x < 2 ^ w → ∀ y, y ∈ List.range 8 → y < 2 ^ w → okr (opM 9 (nI w) 0 0 0 0 (nI x) (nI y) 0) (2 ^ w) = true := by decide +kernel
theorem rg_10 : ∀ w, w ∈ [1, 2, 3] → ∀ x, x ∈ List.range 8 → x < 2 ^ w → ∀ y, y ∈ List.range 8 → y < 2 ^ w → okr (opM 10 (nI w) 0 0 0 0 (nI x) (nI y) 0) (2 ^ w) = true := by decide +kernel
theorem rg_11 : ∀ w, w ∈ [1, 2, 3] → ∀ x, x ∈ List.range 8 → x < 2 ^ w → ∀ y, y ∈ List.range 8 → y < 2 ^ w → okr (opM 11 (nI w) 0 0 0 0 (nI x) (nI y) 0) (2 ^ w) = true := by decide +kernel
theorem rg_12 : ∀ w, w ∈ [1, 2, 3] → ∀ x, x ∈ List.range 8 → x < 2 ^ w → ∀ y, y ∈ List.range 8 → y < 2 ^ w → okr (opM 12 (nI w) 0 0 0 0 (nI x) (nI y) 0) (2 ^ w) = true := by decide +kernel
theorem rg_13 : ∀ w, w ∈ [1, 2, 3] → ∀ x, x ∈ List.range 8 → x < 2 ^ w → ∀ y, y ∈ List.range 8 → y < 2 ^ w → okr (opM 13 (nI w) 0 0 0 0 (nI x) (nI y) 0) (2 ^ w) = true := by decide +kernel
theorem rg_14 : ∀ w, w ∈ [1, 2, 3] → ∀ x, x ∈ List.range 8 → x < 2 ^ w → ∀ y, y ∈ List.range 8 → y < 2 ^ w → okr (opM 14 (nI w) 0 0 0 0 (nI x) (nI y) 0) (2 ^ w) = true := by decide +kernel
theorem rg_15 : ∀ w, w ∈ [1, 2, 3] → ∀ x, x ∈ List.range 8 → x < 2 ^ w → ∀ y, y ∈ List.range 8 → y < 2 ^ w → okr (opM 15 (nI w) 0 0 0 0 (nI x) (nI y) 0) (2 ^ w) = true := by decide +kernel
theorem rg_16 : ∀ w, w ∈ [1, 2, 3] → ∀ x, x ∈ List.range 8 → x < 2 ^ w → ∀ y, y ∈ List.range 8 → y < 2 ^ w → okr (opM 16 (nI w) 0 0 0 0 (nI x) (nI y) 0) (2 ^ w) = true := by decide +kernel
theorem rg_20 : ∀ a, a ∈ [1, 2] → ∀ b, b ∈ [1, 2] → a + b ≤ 3 → ∀ x, x ∈ List.range 4 → x < 2 ^ a → ∀ y, y ∈ List.range 4 → y < 2 ^ b → okr (opM 20 0 0 (nI b) 0 0 (nI x) (nI y) 0) (2 ^ (a + b)) = true := by decide +kernel
theorem rg_21 : ∀ w, w ∈ [1, 2, 3] → ∀ l, l ∈ [0, 1, 2] → ∀ x, x ∈ List.range 8 → okr (opM 21 (nI w) 0 0 (nI l) 0 (nI x) 0 0) (2 ^ w) = true := by decide +kernel
theorem rg_23 : ∀ w, w ∈ [1, 2, 3] → ∀ a, a ∈ [1, 2, 3] → a ≤ w → ∀ x, x ∈ List.range 8 → x < 2 ^ a → okr (opM 23 (nI w) (nI a) 0 0 0 (nI x) 0 0) (2 ^ w) = true := by decide +kernel
theorem rg_25 : ∀ w, w ∈ [1, 2, 3] → ∀ x, x ∈ List.range 64 → x < 2 ^ (2 * w) → ∀ y, y ∈ List.range 2 → okr (opM 25 (nI w) 0 0 0 0 (nI x) (nI y) 0) (2 ^ w) = true := by decide +kernel
theorem rg_26 : ∀ w, w ∈ [1, 2, 3] → ∀ x, x ∈ List.range 64 → x < 2 ^ (2 * w) → ∀ y, y ∈ List.range 2 → ∀ z, z ∈ List.range 8 → z < 2 ^ w → okr (opM 26 (nI w) 0 0 0 0 (nI x) (nI y) (nI z)) (2 ^ (2 * w)) = true := by decide +kernel
theorem m123 {w : Nat} (h1 : 1 ≤ w) (h2 : w ≤ 3) : w ∈ [1, 2, 3] := by
  have : w = 1 ∨ w = 2 ∨ w = 3 := by omega
  rcases this with rfl | rfl | rfl <;> simp
theorem m8 {w x : Nat} (h2 : w ≤ 3) (h : x < 2 ^ w) : x ∈ List.range 8 := by
  have : (2 : Nat) ^ w ≤ 2 ^ 3 := Nat.pow_le_pow_right (by omega) h2
  exact List.mem_range.mpr (by omega)
theorem m64 {w x : Nat} (h2 : w ≤ 3) (h : x < 2 ^ (2 * w)) : x ∈ List.range 64 := by
  have : (2 : Nat) ^ (2 * w) ≤ 2 ^ 6 := Nat.pow_le_pow_right (by omega) (by omega)
  exact List.mem_range.mpr (by omega)
theorem bts_b {c : Nat} (h : c ≤ 4) : bts c = c := by unfold bts; rw [if_pos h]
theorem bts_a {c : Nat} (h : 5 ≤ c) : bts c = 2 * (c - 4) := by unfold bts; rw [if_neg (by omega)]
theorem wdt_b {c : Nat} (h : c ≤ 4) : wdt c = c := by unfold wdt; rw [if_pos h]
theorem wdt_a {c : Nat} (h : 5 ≤ c) : wdt c = c - 4 := by unfold wdt; rw [if_neg (by omega)]
theorem opK_r {d : HI} {n : Nat} {v : Nat → Nat} (hW : WL d n) (k : Nat) (hV : VR d k v) (hk : k < n) (κ : Nat) (hκ : 3 ≤ κ ∧ κ ≤ 26) (e5 : d 5 k = nI κ) (hL : LK d κ k) : ∃ r, r < 2 ^ bts (nk d k) ∧ opK d v k = nI r := by
  have hn := hW.1
  have hno : nod (d 5 k) := by rw [e5]; exact nod_nI (by omega) (by omega)
  obtain ⟨s, hs, es, e5', enk, r1, r2, r3, r4, r5', r6'⟩ := nkf hW hk hno
  have eκ : (d 5 k).toNatClampNeg = κ := by rw [e5]; exact nI_clamp (by omega)
  unfold opK
  rw [eκ]
  have on : ∀ c, opr d k c → 1 ≤ nk d (oix d k c) ∧ nk d (oix d k c) ≤ 7 ∧ nk d (oix d k c) ≠ 4 := fun c ho => by
    obtain ⟨i, hi, ei, hnoi, _⟩ := ho
    have eo : oix d k c = i := by unfold oix; rw [ei, nI_clamp (by omega)]
    obtain ⟨_, _, _, _, _, q1, q2, q3, _⟩ := nkf hW (show i < n by omega) hnoi
    rw [eo]; exact ⟨q1, q2, q3⟩
  obtain ⟨l1, l3, lA, l8, lB, lC, l45, l6, lbin, l17, l18, l20, l21, l22, l24, l25, l26, l27, l29⟩ := hL
  have hc : κ = 3 ∨ κ = 4 ∨ κ = 5 ∨ κ = 6 ∨ κ = 7 ∨ κ = 8 ∨ κ = 9 ∨ κ = 10 ∨ κ = 11 ∨ κ = 12 ∨ κ = 13 ∨ κ = 14 ∨ κ = 15 ∨ κ = 16 ∨ κ = 17 ∨ κ = 18 ∨ κ = 19 ∨ κ = 20 ∨ κ = 21 ∨ κ = 22 ∨ κ = 23 ∨ κ = 24 ∨ κ = 25 ∨ κ = 26 := by omega
  rcases hc with rfl | rfl | rfl | rfl | rfl | rfl | rfl | rfl | rfl | rfl | rfl | rfl | rfl | rfl | rfl | rfl | rfl | rfl | rfl | rfl | rfl | rfl | rfl | rfl
  · obtain ⟨a1, a2, a3, u, hu, eu⟩ := l3 rfl
    clear l1 l3 lA l8 lB lC l45 l6 lbin l17 l18 l20 l21 l22 l24 l25 l26 l27 l29
    simp (decide := true) only [opM, ↓reduceIte]
    rw [bts_b a1, eu]; exact okr_n hu
  · obtain ⟨a1, a2⟩ := l45 (by decide)
    have gA := gv_lt hW hV (Nat.le_of_lt hk) (lA (by decide) (by decide))
    clear l1 l3 lA l8 lB lC l45 l6 lbin l17 l18 l20 l21 l22 l24 l25 l26 l27 l29
    rw [a2, bts_b a1] at gA
    rw [bts_b a1, wdt_b a1]
    have := rg_4 _ (m123 r1 (by omega)) _ (m8 (by omega) gA) gA
    simp (decide := true) only [opM, ↓reduceIte] at this ⊢
    exact okr_e this
  · obtain ⟨a1, a2⟩ := l45 (by decide)
    have gA := gv_lt hW hV (Nat.le_of_lt hk) (lA (by decide) (by decide))
    clear l1 l3 lA l8 lB lC l45 l6 lbin l17 l18 l20 l21 l22 l24 l25 l26 l27 l29
    rw [a2, bts_b a1] at gA
    rw [bts_b a1, wdt_b a1]
    have := rg_5 _ (m123 r1 (by omega)) _ (m8 (by omega) gA) gA
    simp (decide := true) only [opM, ↓reduceIte] at this ⊢
    exact okr_e this
  · obtain ⟨a1, a2⟩ := l6 rfl
    clear l1 l3 lA l8 lB lC l45 l6 lbin l17 l18 l20 l21 l22 l24 l25 l26 l27 l29
    rw [a1]
    simp (decide := true) only [opM, ↓reduceIte]
    split
    · exact ⟨0, by decide, rfl⟩
    · exact ⟨1, by decide, rfl⟩
  · obtain ⟨a1, a2, a3⟩ := lbin (by decide) (by decide)
    have gA := gv_lt hW hV (Nat.le_of_lt hk) (lA (by decide) (by decide))
    have gB := gv_lt hW hV (Nat.le_of_lt hk) (lB (by decide))
    clear l1 l3 lA l8 lB lC l45 l6 lbin l17 l18 l20 l21 l22 l24 l25 l26 l27 l29
    rw [a2, bts_b a1] at gA
    rw [a3, bts_b a1] at gB
    rw [bts_b a1, wdt_b a1]
    have := rg_7 _ (m123 r1 (by omega)) _ (m8 (by omega) gA) gA _ (m8 (by omega) gB) gB
    simp (decide := true) only [opM, ↓reduceIte] at this ⊢
    exact okr_e this
  · obtain ⟨a1, a2, a3⟩ := lbin (by decide) (by decide)
    have gA := gv_lt hW hV (Nat.le_of_lt hk) (lA (by decide) (by decide))
    have gB := gv_lt hW hV (Nat.le_of_lt hk) (lB (by decide))
    clear l1 l3 lA l8 lB lC l45 l6 lbin l17 l18 l20 l21 l22 l24 l25 l26 l27 l29
    rw [a2, bts_b a1] at gA
    rw [a3, bts_b a1] at gB
    rw [bts_b a1, wdt_b a1]
    have := rg_8 _ (m123 r1 (by omega)) _ (m8 (by omega) gA) gA _ (m8 (by omega) gB) gB
    simp (decide := true) only [opM, ↓reduceIte] at this ⊢
    exact okr_e this
  · obtain ⟨a1, a2, a3⟩ := lbin (by decide) (by decide)
    have gA := gv_lt hW hV (Nat.le_of_lt hk) (lA (by decide) (by decide))
    have gB := gv_lt hW hV (Nat.le_of_lt hk) (lB (by decide))
    clear l1 l3 lA l8 lB lC l45 l6 lbin l17 l18 l20 l21 l22 l24 l25 l26 l27 l29
    rw [a2, bts_b a1] at gA
    rw [a3, bts_b a1] at gB
    rw [bts_b a1, wdt_b a1]
    have := rg_9 _ (m123 r1 (by omega)) _ (m8 (by omega) gA) gA _ (m8 (by omega) gB) gB
    simp (decide := true) only [opM, ↓reduceIte] at this ⊢
    exact okr_e this
  · obtain ⟨a1, a2, a3⟩ := lbin (by decide) (by decide)
    have gA := gv_lt hW hV (Nat.le_of_lt hk) (lA (by decide) (by decide))
    have gB := gv_lt hW hV (Nat.le_of_lt hk) (lB (by decide))
    clear l1 l3 lA l8 lB lC l45 l6 lbin l17 l18 l20 l21 l22 l24 l25 l26 l27 l29
    rw [a2, bts_b a1] at gA
    rw [a3, bts_b a1] at gB
    rw [bts_b a1, wdt_b a1]
    have := rg_10 _ (m123 r1 (by omega)) _ (m8 (by omega) gA) gA _ (m8 (by omega) gB) gB
    simp (decide := true) only [opM, ↓reduceIte] at this ⊢
    exact okr_e this
  · obtain ⟨a1, a2, a3⟩ := lbin (by decide) (by decide)
    have gA := gv_lt hW hV (Nat.le_of_lt hk) (lA (by decide) (by decide))
    have gB := gv_lt hW hV (Nat.le_of_lt hk) (lB (by decide))
    clear l1 l3 lA l8 lB lC l45 l6 lbin l17 l18 l20 l21 l22 l24 l25 l26 l27 l29
    rw [a2, bts_b a1] at gA
    rw [a3, bts_b a1] at gB
    rw [bts_b a1, wdt_b a1]
    have := rg_11 _ (m123 r1 (by omega)) _ (m8 (by omega) gA) gA _ (m8 (by omega) gB) gB
    simp (decide := true) only [opM, ↓reduceIte] at this ⊢
    exact okr_e this
  · obtain ⟨a1, a2, a3⟩ := lbin (by decide) (by decide)
    have gA := gv_lt hW hV (Nat.le_of_lt hk) (lA (by decide) (by decide))
    have gB := gv_lt hW hV (Nat.le_of_lt hk) (lB (by decide))
    clear l1 l3 lA l8 lB lC l45 l6 lbin l17 l18 l20 l21 l22 l24 l25 l26 l27 l29
    rw [a2, bts_b a1] at gA
    rw [a3, bts_b a1] at gB
    rw [bts_b a1, wdt_b a1]
    have := rg_12 _ (m123 r1 (by omega)) _ (m8 (by omega) gA) gA _ (m8 (by omega) gB) gB
    simp (decide := true) only [opM, ↓reduceIte] at this ⊢
    exact okr_e this
  · obtain ⟨a1, a2, a3⟩ := lbin (by decide) (by decide)
    have gA := gv_lt hW hV (Nat.le_of_lt hk) (lA (by decide) (by decide))
    have gB := gv_lt hW hV (Nat.le_of_lt hk) (lB (by decide))
    clear l1 l3 lA l8 lB lC l45 l6 lbin l17 l18 l20 l21 l22 l24 l25 l26 l27 l29
    rw [a2, bts_b a1] at gA
    rw [a3, bts_b a1] at gB
    rw [bts_b a1, wdt_b a1]
    have := rg_13 _ (m123 r1 (by omega)) _ (m8 (by omega) gA) gA _ (m8 (by omega) gB) gB
    simp (decide := true) only [opM, ↓reduceIte] at this ⊢
    exact okr_e this
  · obtain ⟨a1, a2, a3⟩ := lbin (by decide) (by decide)
    have gA := gv_lt hW hV (Nat.le_of_lt hk) (lA (by decide) (by decide))
    have gB := gv_lt hW hV (Nat.le_of_lt hk) (lB (by decide))
    clear l1 l3 lA l8 lB lC l45 l6 lbin l17 l18 l20 l21 l22 l24 l25 l26 l27 l29
    rw [a2, bts_b a1] at gA
    rw [a3, bts_b a1] at gB
    rw [bts_b a1, wdt_b a1]
    have := rg_14 _ (m123 r1 (by omega)) _ (m8 (by omega) gA) gA _ (m8 (by omega) gB) gB
    simp (decide := true) only [opM, ↓reduceIte] at this ⊢
    exact okr_e this
  · obtain ⟨a1, a2, a3⟩ := lbin (by decide) (by decide)
    have gA := gv_lt hW hV (Nat.le_of_lt hk) (lA (by decide) (by decide))
    have gB := gv_lt hW hV (Nat.le_of_lt hk) (lB (by decide))
    clear l1 l3 lA l8 lB lC l45 l6 lbin l17 l18 l20 l21 l22 l24 l25 l26 l27 l29
    rw [a2, bts_b a1] at gA
    rw [a3, bts_b a1] at gB
    rw [bts_b a1, wdt_b a1]
    have := rg_15 _ (m123 r1 (by omega)) _ (m8 (by omega) gA) gA _ (m8 (by omega) gB) gB
    simp (decide := true) only [opM, ↓reduceIte] at this ⊢
    exact okr_e this
  · obtain ⟨a1, a2, a3⟩ := lbin (by decide) (by decide)
    have gA := gv_lt hW hV (Nat.le_of_lt hk) (lA (by decide) (by decide))
    have gB := gv_lt hW hV (Nat.le_of_lt hk) (lB (by decide))
    clear l1 l3 lA l8 lB lC l45 l6 lbin l17 l18 l20 l21 l22 l24 l25 l26 l27 l29
    rw [a2, bts_b a1] at gA
    rw [a3, bts_b a1] at gB
    rw [bts_b a1, wdt_b a1]
    have := rg_16 _ (m123 r1 (by omega)) _ (m8 (by omega) gA) gA _ (m8 (by omega) gB) gB
    simp (decide := true) only [opM, ↓reduceIte] at this ⊢
    exact okr_e this
  · have a1 := (l17 rfl).1
    clear l1 l3 lA l8 lB lC l45 l6 lbin l17 l18 l20 l21 l22 l24 l25 l26 l27 l29
    rw [a1]
    simp (decide := true) only [opM, ↓reduceIte]
    split
    · exact ⟨1, by decide, rfl⟩
    · exact ⟨0, by decide, rfl⟩
  · have a1 := (l18 (by decide)).1
    clear l1 l3 lA l8 lB lC l45 l6 lbin l17 l18 l20 l21 l22 l24 l25 l26 l27 l29
    rw [a1]
    simp (decide := true) only [opM, ↓reduceIte]
    split
    · exact ⟨0, by decide, rfl⟩
    · exact ⟨1, by decide, rfl⟩
  · have a1 := (l18 (by decide)).1
    clear l1 l3 lA l8 lB lC l45 l6 lbin l17 l18 l20 l21 l22 l24 l25 l26 l27 l29
    rw [a1]
    simp (decide := true) only [opM, ↓reduceIte]
    split
    · exact ⟨0, by decide, rfl⟩
    · exact ⟨1, by decide, rfl⟩
  · obtain ⟨a1, a2, a3⟩ := l20 rfl
    have gA := gv_lt hW hV (Nat.le_of_lt hk) (lA (by decide) (by decide))
    have gB := gv_lt hW hV (Nat.le_of_lt hk) (lB (by decide))
    have nA := on 7 (lA (by decide) (by decide))
    have nB := on 8 (lB (by decide))
    clear l1 l3 lA l8 lB lC l45 l6 lbin l17 l18 l20 l21 l22 l24 l25 l26 l27 l29
    rw [bts_b (by omega)] at gA
    rw [bts_b (by omega)] at gB
    rw [bts_b a1, wdt_b (c := nk d (oix d k 8)) (by omega)]
    have h2A : (2 : Nat) ^ nk d (oix d k 7) ≤ 2 ^ 2 := Nat.pow_le_pow_right (by omega) (by omega)
    have h2B : (2 : Nat) ^ nk d (oix d k 8) ≤ 2 ^ 2 := Nat.pow_le_pow_right (by omega) (by omega)
    have mA : nk d (oix d k 7) ∈ [1, 2] := by
      have : nk d (oix d k 7) = 1 ∨ nk d (oix d k 7) = 2 := by omega
      rcases this with e | e <;> rw [e] <;> simp
    have mB : nk d (oix d k 8) ∈ [1, 2] := by
      have : nk d (oix d k 8) = 1 ∨ nk d (oix d k 8) = 2 := by omega
      rcases this with e | e <;> rw [e] <;> simp
    have := rg_20 _ mA _ mB (by omega) _ (List.mem_range.mpr (show gv d v k 7 < 4 by omega)) gA _ (List.mem_range.mpr (show gv d v k 8 < 4 by omega)) gB
    have es' : nk d (oix d k 7) + nk d (oix d k 8) = nk d k := by omega
    rw [es'] at this
    simp (decide := true) only [opM, ↓reduceIte] at this ⊢
    exact okr_e this
  · obtain ⟨a1, a2, U, l, el, hU, hUl⟩ := l21 rfl
    have gA := gv_lt hW hV (Nat.le_of_lt hk) (lA (by decide) (by decide))
    have nA := on 7 (lA (by decide) (by decide))
    clear l1 l3 lA l8 lB lC l45 l6 lbin l17 l18 l20 l21 l22 l24 l25 l26 l27 l29
    rw [bts_b a2] at gA
    rw [bts_b a1, wdt_b a1, el]
    have ml : l ∈ [0, 1, 2] := by
      have : l = 0 ∨ l = 1 ∨ l = 2 := by omega
      rcases this with rfl | rfl | rfl <;> simp
    have := rg_21 _ (m123 r1 (by omega)) _ ml _ (m8 (by omega) gA)
    simp (decide := true) only [opM, ↓reduceIte] at this ⊢
    exact okr_e this
  · obtain ⟨a1, a2⟩ := l22 (by decide)
    have gA := gv_lt hW hV (Nat.le_of_lt hk) (lA (by decide) (by decide))
    clear l1 l3 lA l8 lB lC l45 l6 lbin l17 l18 l20 l21 l22 l24 l25 l26 l27 l29
    rw [bts_b (by omega)] at gA
    rw [bts_b a1]
    have : (2 : Nat) ^ nk d (oix d k 7) ≤ 2 ^ nk d k := Nat.pow_le_pow_right (by omega) a2
    simp (decide := true) only [opM, ↓reduceIte]
    exact okr_n (by omega)
  · obtain ⟨a1, a2⟩ := l22 (by decide)
    have gA := gv_lt hW hV (Nat.le_of_lt hk) (lA (by decide) (by decide))
    have nA := on 7 (lA (by decide) (by decide))
    clear l1 l3 lA l8 lB lC l45 l6 lbin l17 l18 l20 l21 l22 l24 l25 l26 l27 l29
    rw [bts_b (by omega)] at gA
    rw [bts_b a1, wdt_b a1, wdt_b (c := nk d (oix d k 7)) (by omega)]
    have := rg_23 _ (m123 r1 (by omega)) _ (m123 nA.1 (by omega)) a2 _ (m8 (by omega) gA) gA
    simp (decide := true) only [opM, ↓reduceIte] at this ⊢
    exact okr_e this
  · obtain ⟨a1, a2, a3⟩ := l24 rfl
    have gA := gv_lt hW hV (Nat.le_of_lt hk) (lA (by decide) (by decide))
    have gB := gv_lt hW hV (Nat.le_of_lt hk) (lB (by decide))
    clear l1 l3 lA l8 lB lC l45 l6 lbin l17 l18 l20 l21 l22 l24 l25 l26 l27 l29
    rw [a2] at gA
    rw [a3] at gB
    simp (decide := true) only [opM, ↓reduceIte]
    split
    · exact okr_n gA
    · exact okr_n gB
  · obtain ⟨a1, a2, a3⟩ := l25 rfl
    have gA := gv_lt hW hV (Nat.le_of_lt hk) (lA (by decide) (by decide))
    have gB := gv_lt hW hV (Nat.le_of_lt hk) (lB (by decide))
    have nA := on 7 (lA (by decide) (by decide))
    clear l1 l3 lA l8 lB lC l45 l6 lbin l17 l18 l20 l21 l22 l24 l25 l26 l27 l29
    rw [a2, bts_a (by omega), show 4 + nk d k - 4 = nk d k by omega] at gA
    rw [a3, bts_b (by omega)] at gB
    rw [bts_b a1, wdt_b a1]
    have := rg_25 _ (m123 r1 (by omega)) _ (m64 (by omega) gA) gA _ (List.mem_range.mpr gB)
    simp (decide := true) only [opM, ↓reduceIte] at this ⊢
    exact okr_e this
  · obtain ⟨a1, a2, a3, a4⟩ := l26 rfl
    have gA := gv_lt hW hV (Nat.le_of_lt hk) (lA (by decide) (by decide))
    have gB := gv_lt hW hV (Nat.le_of_lt hk) (lB (by decide))
    have gC := gv_lt hW hV (Nat.le_of_lt hk) (lC (by decide))
    clear l1 l3 lA l8 lB lC l45 l6 lbin l17 l18 l20 l21 l22 l24 l25 l26 l27 l29
    rw [a2, bts_a a1] at gA
    rw [a3, bts_b (by omega)] at gB
    rw [a4, bts_b (by omega)] at gC
    rw [bts_a a1, wdt_a a1]
    have := rg_26 _ (m123 (w := nk d k - 4) (by omega) (by omega)) _ (m64 (by omega) gA) gA _ (List.mem_range.mpr gB) _ (m8 (by omega) gC) gC
    simp (decide := true) only [opM, ↓reduceIte] at this ⊢
    exact okr_e this
/-- settled: every node that is no input and no state has the value of its line -/
def Sett (d : HI) (n : Nat) (v : Nat → Nat) : Prop := ∀ k, k < n → nod (d 5 k) → ¬ d 5 k ≤ 2 → nI (v k) = opK d v k
def s17 (hm : HI) (g : Nat → Int32) : HI := fun c k => if c = 17 then g k else hm c k
theorem s17_c (hm : HI) (g : Nat → Int32) {c : Nat} (h : c ≠ 17) : s17 hm g c = hm c := by funext k; simp [s17, h]
theorem s17_17 (hm : HI) (g : Nat → Int32) (k : Nat) : s17 hm g 17 k = g k := by simp [s17]
theorem s17_u (hm : HI) (g : Nat → Int32) (k : Nat) (x : Int32) : u2 (s17 hm g) 17 k x = s17 hm (fun i => if i = k then x else g i) := by
  funext a b
  by_cases e : a = 17
  · subst e; by_cases e2 : b = k <;> simp [u2, s17, e2]
  · simp [u2, s17, e]
theorem s17_s (hm : HI) : s17 hm (hm 17) = hm := by
  funext a b
  by_cases e : a = 17
  · subst e; simp [s17]
  · simp [s17, e]
theorem RL_17 {d hm : HI} {n : Nat} (h : RL d hm n) (g : Nat → Int32) : RL d (s17 hm g) n :=
  ⟨by rw [s17_c _ _ (by decide)]; exact h.1, fun c h1 h2 k hk => by rw [s17_c _ _ (by omega)]; exact h.2 c h1 h2 k hk⟩
/-- the operands' values alone count -/
theorem gv_congr {d : HI} {v v' : Nat → Nat} {k c : Nat} (h : v (oix d k c) = v' (oix d k c)) : gv d v k c = gv d v' k c := by
  unfold gv; rw [h]
theorem opK_op {d : HI} {v v' : Nat → Nat} {k κ : Nat} (hn : k ≤ 20) (e5 : d 5 k = nI κ) (hκ : 3 ≤ κ ∧ κ ≤ 26) (hL : LK d κ k) (cg : ∀ c, opr d k c → gv d v k c = gv d v' k c) : opK d v k = opK d v' k := by
  have eκ : (d 5 k).toNatClampNeg = κ := by rw [e5]; exact nI_clamp (by omega)
  obtain ⟨l1, l3, lA, l8, lB, lC, _⟩ := hL
  unfold opK
  rw [eκ]
  by_cases kA : 4 ≤ κ
  · rw [cg 7 (lA kA hκ.2)]
    by_cases kB : 7 ≤ κ ∧ κ ≤ 20 ∨ 24 ≤ κ ∧ κ ≤ 28
    · rw [cg 8 (lB kB)]
      by_cases kC : κ = 24 ∨ κ = 26
      · rw [cg 9 (lC kC)]
      · have hc : κ = 7 ∨ κ = 8 ∨ κ = 9 ∨ κ = 10 ∨ κ = 11 ∨ κ = 12 ∨ κ = 13 ∨ κ = 14 ∨ κ = 15 ∨ κ = 16 ∨ κ = 17 ∨ κ = 18 ∨ κ = 19 ∨ κ = 20 ∨ κ = 25 := by omega
        rcases hc with rfl | rfl | rfl | rfl | rfl | rfl | rfl | rfl | rfl | rfl | rfl | rfl | rfl | rfl | rfl <;> simp (decide := true) only [opM, ↓reduceIte]
    · have hc : κ = 4 ∨ κ = 5 ∨ κ = 6 ∨ κ = 21 ∨ κ = 22 ∨ κ = 23 := by omega
      rcases hc with rfl | rfl | rfl | rfl | rfl | rfl <;> simp (decide := true) only [opM, ↓reduceIte]
  · have : κ = 3 := by omega
    subst this
    simp (decide := true) only [opM, ↓reduceIte]
theorem opK_congr {d : HI} {v v' : Nat → Nat} {k κ : Nat} (hn : k ≤ 20) (e5 : d 5 k = nI κ) (hκ : 3 ≤ κ ∧ κ ≤ 26) (hL : LK d κ k) (h : ∀ i, i < k → v i = v' i) : opK d v k = opK d v' k :=
  opK_op hn e5 hκ hL (fun c ho => by
    obtain ⟨i, hi, ei, _⟩ := ho
    refine gv_congr (h _ ?_)
    unfold oix; rw [ei, nI_clamp (by omega)]; exact hi)
theorem pM_settle {d hm : HI} {n : Nat} {hl : HL} {Φ : HI → HL → Prop} (hF : WF d n) (hR : RL d hm n) (v : Nat → Nat) (hV0 : ∀ k, k < n → nod (d 5 k) → d 5 k ≤ 2 → hm 17 k = nI (v k) ∧ v k < 2 ^ bts (nk d k))
    (h : ∀ v' g, VR d n v' → Sett d n v' → (∀ k, k < n → nod (d 5 k) → g k = nI (v' k)) → (∀ k, k < n → nod (d 5 k) → d 5 k ≤ 2 → v' k = v k) → Φ (s17 hm g) hl) : wpM_settle hm hl Φ := by
  obtain ⟨hW, hA, hI, hK⟩ := hF
  have hn := hW.1
  unfold wpM_settle wbM_settle_0
  have key := loop_0 (fun fu i (s : HI) => wbM_settle_2 fu (nI i) s hl Φ)
    (fun i s => ∃ g v', s = s17 hm g ∧ (∀ k, k < n → nod (d 5 k) → (k < i ∨ d 5 k ≤ 2) → g k = nI (v' k) ∧ v' k < 2 ^ bts (nk d k)) ∧ (∀ k, k < i → nod (d 5 k) → ¬ d 5 k ≤ 2 → nI (v' k) = opK d v' k) ∧ (∀ k, k < n → nod (d 5 k) → d 5 k ≤ 2 → v' k = v k))
    n hm ⟨hm 17, v, (s17_s hm).symm, fun k hk hno hc => hV0 k hk hno (hc.resolve_left (by omega)), fun k hk => absurd hk (by omega), fun _ _ _ _ => rfl⟩ ?_ ?_
  · exact key
  · intro m s ⟨g, v', e, h1, h2, h3⟩
    subst e
    unfold wbM_settle_2
    refine br_t (by rw [(RL_17 hR g).1]; exact nI_le (Nat.le_refl _) (by omega)) ?_
    exact h v' g (fun k hk hno => (h1 k hk hno (Or.inl hk)).2) h2 (fun k hk hno => (h1 k hk hno (Or.inl hk)).1) h3
  · intro m i s hi ⟨g, v', e, h1, h2, h3⟩ ih
    subst e
    have hRg := RL_17 hR g
    obtain ⟨κ, hκ, e5, hL⟩ := hK i hi
    have hci : (nI i).toNatClampNeg = i := nI_clamp (by omega)
    have p0 : (0 : Int32) ≤ nI i := nI_pos' (by omega)
    unfold wbM_settle_2
    refine br_f (by rw [hRg.1]; exact nI_ge hi (by omega)) ?_
    refine pM_isNode (nI i) (Or.inr ⟨i, by omega, rfl⟩) ?_
    unfold wbM_settle_39
    rw [hci, hRg.2 5 (by omega) (by omega) i hi, nI_n1, nI_1]
    refine br_c (fun q => ?_) (fun q => ⟨vp_in_nI (by omega) (by omega), br_c (fun q2 => ?_) (fun q2 => ?_)⟩)
    · rw [bI_0, decide_eq_false_iff_not] at q
      refine ih _ ⟨g, v', rfl, fun k hk hno hc => h1 k hk hno ?_, fun k hk hno hc => h2 k ?_ hno hc, h3⟩
      · by_cases z : k = i
        · subst z; exact absurd ⟨p0, hno.1, hno.2⟩ q
        · exact hc.imp (fun y => by omega) id
      · by_cases z : k = i
        · subst z; exact absurd ⟨p0, hno.1, hno.2⟩ q
        · omega
    · refine ih _ ⟨g, v', rfl, fun k hk hno hc => h1 k hk hno ?_, fun k hk hno hc => h2 k ?_ hno hc, h3⟩
      · by_cases z : k = i
        · subst z; exact Or.inr q2
        · exact hc.imp (fun y => by omega) id
      · by_cases z : k = i
        · subst z; exact absurd q2 hc
        · omega
    · rw [bI_ne, decide_eq_true_eq] at q
      have hno : nod (d 5 i) := ⟨q.2.1, q.2.2⟩
      have hkr : 3 ≤ κ ∧ κ ≤ 26 := by
        have a := (nod_κ hκ).mp (e5 ▸ hno)
        have b : ¬ κ ≤ 2 := fun z => q2 (by rw [e5]; exact (nI_leI (b := 2) (by omega) (by omega)).mpr z)
        omega
      -- values behind i do not matter: they are taken as 0
      let v0 : Nat → Nat := fun k => if k < i ∨ d 5 k ≤ 2 then v' k else 0
      have v0V : VR d n v0 := fun k hk hnk => by
        by_cases c : k < i ∨ d 5 k ≤ 2
        · have := (h1 k hk hnk c).2
          simp only [v0, if_pos c]; exact this
        · simp only [v0, if_neg c]; exact Nat.two_pow_pos _
      have v0V' : VR d i v0 := fun k hk hnk => v0V k (by omega) hnk
      have eop : opK d v0 i = opK d v' i := opK_congr (by omega) e5 hkr hL (fun a ha => by simp only [v0, if_pos (Or.inl ha : a < i ∨ d 5 a ≤ 2)])
      have WLi : WL d n := hW
      have hcomp : wpM_compute (nI i) (s17 hm g) hl (fun r5 hi6 hl7 => vp_in (nI i) 21 ∧ wbM_settle_2 m (nI (i + 1)) (u2 hi6 17 i r5) hl7 Φ) := by
        -- the operands come before i
        refine pM_compute hW hRg i (fun k hk hnk => ?_) v0V' hi κ hkr e5 hL ?_
        · have := (h1 k (by omega) hnk (Or.inl hk)).1
          rw [s17_17, this]; simp only [v0, if_pos (Or.inl hk : k < i ∨ d 5 k ≤ 2)]
        · refine ⟨vp_in_nI (by omega) (by omega), ?_⟩
          obtain ⟨r, hr, er⟩ := opK_r hW i v0V' hi κ hkr e5 hL
          rw [er, s17_u]
          refine ih _ ⟨_, fun k => if k = i then r else v' k, rfl, fun k hk hnk hc => ?_, fun k hk hnk hc => ?_, fun k hk hnk hc => ?_⟩
          · by_cases z : k = i
            · subst z; simp only [if_true]; exact ⟨trivial, hr⟩
            · simp only [if_neg z]; exact h1 k hk hnk (hc.imp (fun y => by omega) id)
          · obtain ⟨κk, hκk, e5k, hLk⟩ := hK k (by omega)
            have hkk : 3 ≤ κk ∧ κk ≤ 26 := by
              have a := (nod_κ hκk).mp (e5k ▸ hnk)
              have b : ¬ κk ≤ 2 := fun z => hc (by rw [e5k]; exact (nI_leI (b := 2) (by omega) (by omega)).mpr z)
              omega
            have cg : opK d (fun k => if k = i then r else v' k) k = opK d v' k := opK_congr (by omega) e5k hkk hLk (fun a ha => by simp only [if_neg (show ¬ a = i by omega)])
            by_cases z : k = i
            · subst z
              simp only [if_true]
              rw [← er, eop]
              have cg2 : opK d (fun a => if a = k then r else v' a) k = opK d v' k := cg
              exact cg2.symm
            · simp only [if_neg z]
              rw [cg]; exact h2 k (by omega) hnk hc
          · have z : ¬ k = i := fun z => by subst z; exact q2 hc
            simp only [if_neg z]; exact h3 k hk hnk hc
      exact hcomp
