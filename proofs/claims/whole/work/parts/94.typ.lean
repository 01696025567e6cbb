/-! type -/
def byM (x : Int32) (k : Nat) : Int32 := (x >>> (((8 : Int32) * nI k) &&& 31)) &&& 255
theorem by_n (x : Int32) (k : Nat) : ∃ q, q < 256 ∧ byM x k = nI q := by
  obtain ⟨q, h1, h2⟩ := pk_andE (x >>> (((8 : Int32) * nI k) &&& 31)) (m := 255) 8 (by decide)
  exact ⟨q, by omega, h2⟩
theorem by_x (x : Int32) (k : Nat) (hk : k < 4) : ((x.toUInt32 >>> (((8 : Int32) * nI k).toUInt32 &&& Int32.toUInt32 31)).toInt32) &&& (255 : Int32) = byM x k := by
  unfold byM
  have h8 : ∀ k, k ∈ List.range 4 → ((8 : Int32) * nI k = nI (8 * k)) ∧ ((((8 : Int32) * nI k).toUInt32 &&& Int32.toUInt32 31).toBitVec % 32).toNat = 8 * k := by decide
  obtain ⟨e1, e2⟩ := h8 k (List.mem_range.mpr hk)
  rw [pk_and _ 8 (m := 255) (by decide), pk_and _ 8 (m := 255) (by decide)]
  congr 1
  have el := pk_ushr x ((8 : Int32) * nI k) (8 * k) e2
  rw [el]
  have lb := LB_s (LB_0 x 32) (Nat.le_refl _) (8 * k) (by omega) (by omega)
  rw [← e1] at lb
  refine Nat.eq_of_testBit_eq (fun i => ?_)
  rw [Nat.testBit_mod_two_pow, Nat.testBit_mod_two_pow]
  by_cases c : i < 8
  · rw [BitVec.testBit_toNat, lb i (by omega)]
  · simp [c]
theorem vn_c {q : Nat} (h : q < 65536) : vp_nar .char (nI q) = nI q := by
  unfold vp_nar; rw [(pk_charN h).1]
/-- what is typed, behind i characters more -/
def tyf (f : Nat → Int32) (m N : Nat) (x : Int32) : Nat → Nat → Int32
  | 0 => f
  | i + 1 => fun j => if j = m + i then byM x (N - 1 - i) else tyf f m N x i j
def gdT (x : Int32) (N : Nat) : Bool := (List.range N).all (fun k => decide (32 ≤ byM x k ∧ byM x k ≤ 126))
theorem gd_s (x : Int32) (N : Nat) : gdT x (N + 1) = (gdT x N && decide (32 ≤ byM x N ∧ byM x N ≤ 126)) := by
  unfold gdT; rw [List.range_succ, List.all_append]; simp
theorem gd_m {x : Int32} {a b : Nat} (h : a ≤ b) (hb : gdT x b = true) : gdT x a = true := by
  unfold gdT at *
  rw [List.all_eq_true] at *
  intro k hk
  exact hb k (List.mem_range.mpr (by have := List.mem_range.mp hk; omega))
def stM (hm : HI) (g : Nat → Int32) (m : Nat) : HI := fun c j => if c = 1 then g j else if c = 0 ∧ j = 1 then nI m else hm c j
def stX (hx : HI) (g : Nat → Int32) (m : Nat) : HI := fun c j => if c = 2 then g j else if c = 1 ∧ j = 3 then nI m else hx c j
theorem stM_u (hm : HI) (g : Nat → Int32) (m k : Nat) (x : Int32) (m' : Nat) : u2 (u2 (stM hm g m) 1 k x) 0 1 (nI m') = stM hm (fun j => if j = k then x else g j) m' := by
  funext a b
  by_cases e : a = 1
  · subst e; by_cases e2 : b = k <;> simp [u2, stM, e2]
  · by_cases e2 : a = 0 ∧ b = 1
    · simp [u2, stM, e2]
    · simp [u2, stM, e, e2]
theorem stX_u (hx : HI) (g : Nat → Int32) (m k : Nat) (x : Int32) (m' : Nat) : u2 (u2 (stX hx g m) 2 k x) 1 3 (nI m') = stX hx (fun j => if j = k then x else g j) m' := by
  funext a b
  by_cases e : a = 2
  · subst e; by_cases e2 : b = k <;> simp [u2, stX, e2]
  · by_cases e2 : a = 1 ∧ b = 3
    · simp [u2, stX, e2]
    · simp [u2, stX, e, e2]
theorem stM_s {hm : HI} {m : Nat} (h : hm 0 1 = nI m) : stM hm (hm 1) m = hm := by
  funext a b
  by_cases e : a = 1
  · subst e; simp [stM]
  · by_cases e2 : a = 0 ∧ b = 1
    · obtain ⟨rfl, rfl⟩ := e2; simp [stM, h]
    · simp [stM, e, e2]
theorem stX_s {hx : HI} {m : Nat} (h : hx 1 3 = nI m) : stX hx (hx 2) m = hx := by
  funext a b
  by_cases e : a = 2
  · subst e; simp [stX]
  · by_cases e2 : a = 1 ∧ b = 3
    · obtain ⟨rfl, rfl⟩ := e2; simp [stX, h]
    · simp [stX, e, e2]
theorem dn_1 {N i : Nat} (h : i < N) : nI (N - i) - 1 = nI (N - 1 - i) := by
  rw [show (1 : Int32) = nI 1 from rfl, pk_sub (by omega)]; congr 1; omega
theorem dn_2 {N i : Nat} (h : i < N) : nI (N - 1 - i) + (-1) = nI (N - (i + 1)) - 1 := by
  rw [Int32.sub_eq_add_neg]; congr 2; omega
theorem pM_type {hm : HI} {hl : HL} {Φ : Int32 → HI → HL → Prop} (x y : Int32) (m : Nat) (hm1 : hm 0 1 = nI m) (hm40 : m ≤ 40)
    (h0 : (∀ N, 1 ≤ N → N ≤ 4 → m + N ≤ 40 → gdT x N = true → y ≠ nI N) → Φ 0 hm hl) (h1 : ∀ N, 1 ≤ N → N ≤ 4 → m + N ≤ 40 → gdT x N = true → y = nI N → Φ 1 (stM hm (tyf (hm 1) m N x N) (m + N)) hl) : wpM_type x y hm hl Φ := by
  unfold wpM_type wbM_type_0
  rw [pM_in]
  have no : (∀ N, 1 ≤ N → N ≤ 4 → m + N ≤ 40 → gdT x N = true → y ≠ nI N) → wbM_type_24 x y hm hl Φ := fun q => by
    unfold wbM_type_24 wbM_type_25
    refine ⟨1, ?_⟩
    unfold wbM_type_29 wbM_type_64
    have e : ∃ fu, wbM_type_69 fu x 0 (y - 1) hm hl Φ := by
      refine ⟨1, ?_⟩
      unfold wbM_type_69
      exact br_c (fun _ => ⟨i01_0, h0 q⟩) (fun _ => br_t rfl ⟨i01_0, h0 q⟩)
    exact br_c (fun _ => e) (fun _ => br_t rfl e)
  refine br_c (fun q => no (fun N n1 n4 _ _ e => ?_)) (fun q => ?_)
  · rw [bI_0, decide_eq_false_iff_not, e] at q
    exact q ⟨(nI_leI (a := 1) (by omega) (by omega)).mpr n1, (nI_leI (b := 4) (by omega) (by omega)).mpr n4⟩
  · rw [bI_ne, decide_eq_true_eq] at q
    have : ∃ N, 1 ≤ N ∧ N ≤ 4 ∧ y = nI N := by
      have h0' : ¬ y < 0 := by
        rw [i32_nlt]
        have := q.1
        rw [Int32.le_iff_toInt_le] at this ⊢
        have e1 : (1 : Int32).toInt = 1 := by decide
        have e2 : (0 : Int32).toInt = 0 := by decide
        omega
      obtain ⟨N, hN, e⟩ := nI_of2 (n := 4) (by decide) h0' q.2
      refine ⟨N, ?_, hN, e⟩
      have := q.1
      rw [e] at this
      exact (nI_leI (a := 1) (by omega) (by omega)).mp this
    obtain ⟨N, n1, n4, e⟩ := this
    subst e
    have inj : ∀ N', N' ≤ 4 → nI N = nI N' → N' = N := fun N' h' e => ((nI_eq (by omega) (by omega)).mp e).symm
    rw [hm1, nI_add]
    refine pk_lt 40 (m + N) (fun z => no (fun N' _ h4 h40 _ e => by have := inj N' h4 e; omega)) (fun z => ?_)
    unfold wbM_type_25
    refine loop_f (fun fu k g => wbM_type_29 fu x (nI N) g (nI k) hm hl Φ) (fun k => bI (gdT x k)) N (fun fu => ?_) (fun fu k hk ih => ?_)
    · unfold wbM_type_29 wbM_type_64
      refine br_t (nI_le (Nat.le_refl _) (by omega)) ?_
      cases g : gdT x N
      · refine ⟨1, ?_⟩
        unfold wbM_type_69
        have hn := h0 (fun N' _ h4 _ gg e => by have := inj N' h4 e; subst this; rw [g] at gg; exact absurd gg (by decide))
        exact br_c (fun _ => ⟨i01_0, hn⟩) (fun _ => br_t rfl ⟨i01_0, hn⟩)
      · have hy := h1 N n1 n4 z g rfl
        have lp := loop_f (fun fu i (s : HI) => wbM_type_69 fu x 1 (nI (N - i) - 1) s hl Φ) (fun i => stM hm (tyf (hm 1) m N x i) (m + i)) N (fun fu => ?_) (fun fu i hi ih => ?_)
        · have e0 : stM hm (tyf (hm 1) m N x 0) (m + 0) = hm := stM_s hm1
          rw [e0] at lp
          exact lp
        · unfold wbM_type_69
          rw [Nat.sub_self]
          exact br_t (by decide) ⟨i01_1, hy⟩
        · unfold wbM_type_69
          rw [dn_1 hi]
          refine br_f (nI_pos (by omega)) (br_f (by decide) ?_)
          have s1 : stM hm (tyf (hm 1) m N x i) (m + i) 0 1 = nI (m + i) := by simp [stM]
          rw [s1, nI_clamp (by omega), u2_c _ _ _ _ (by decide), s1, nI_1, stM_u, nI_m1, dn_2 hi]
          exact ⟨vp_in_nI (by omega) (by omega), ih⟩
    · unfold wbM_type_29 wbM_type_64
      refine br_f (nI_ge hk (by omega)) (br_c (fun g => ?_) (fun g => ?_))
      · rw [bI_0] at g
        rw [g]
        refine ⟨1, ?_⟩
        unfold wbM_type_69
        have hn := h0 (fun N' _ h4 _ gg e => by have := inj N' h4 e; subst this; have := gd_m (Nat.le_of_lt hk) gg; rw [g] at this; exact absurd this (by decide))
        exact br_c (fun _ => ⟨i01_0, hn⟩) (fun _ => br_t rfl ⟨i01_0, hn⟩)
      · rw [bI_ne] at g
        rw [pM_in, nI_n1, nI_1]
        have : bI (gdT x (k + 1)) = bI (decide (32 ≤ (x >>> (((8 : Int32) * nI k) &&& 31)) &&& 255 ∧ (x >>> (((8 : Int32) * nI k) &&& 31)) &&& 255 ≤ 126)) := by
          rw [gd_s, g, Bool.true_and]; rfl
        rw [← this]; exact ih
theorem pX_type {hx : HI} {hl : HL} {Φ : Int32 → HI → HL → Prop} (x y : Int32) (m : Nat) (hx3 : hx 1 3 = nI m) (hm40 : m ≤ 40)
    (h0 : (∀ N, 1 ≤ N → N ≤ 4 → m + N ≤ 40 → gdT x N = true → y ≠ nI N) → Φ 0 hx hl) (h1 : ∀ N, 1 ≤ N → N ≤ 4 → m + N ≤ 40 → gdT x N = true → y = nI N → Φ 1 (stX hx (tyf (hx 2) m N x N) (m + N)) hl) : wpC_type x y hx hl Φ := by
  unfold wpC_type wbC_type_0 wpT_append wbT_append_0
  have no : (∀ N, 1 ≤ N → N ≤ 4 → m + N ≤ 40 → gdT x N = true → y ≠ nI N) → i01 0 ∧ i01 0 ∧ Φ 0 hx hl := fun q => ⟨i01_0, i01_0, h0 q⟩
  refine br_c (fun q => no (fun N n1 n4 _ _ e => ?_)) (fun q1 => br_c (fun q => no (fun N n1 n4 _ _ e => ?_)) (fun q4 => ?_))
  · rw [e] at q; exact nI_nlt (b := 1) n1 (by omega) q
  · rw [e] at q; exact nI_nlt (a := 4) n4 (by omega) q
  · have : ∃ N, 1 ≤ N ∧ N ≤ 4 ∧ y = nI N := by
      rw [i32_nlt] at q1 q4
      have h0' : ¬ y < 0 := by
        rw [i32_nlt]
        rw [Int32.le_iff_toInt_le] at q1 ⊢
        have e1 : (1 : Int32).toInt = 1 := by decide
        have e2 : (0 : Int32).toInt = 0 := by decide
        omega
      obtain ⟨N, hN, e⟩ := nI_of2 (n := 4) (by decide) h0' q4
      refine ⟨N, ?_, hN, e⟩
      rw [e] at q1
      exact (nI_leI (a := 1) (by omega) (by omega)).mp q1
    obtain ⟨N, n1, n4, e⟩ := this
    subst e
    have inj : ∀ N', N' ≤ 4 → nI N = nI N' → N' = N := fun N' h' e => ((nI_eq (by omega) (by omega)).mp e).symm
    rw [hx3, nI_add]
    refine pk_le (m + N) 40 (fun z => ?_) (fun z => no (fun N' _ h4 h40 _ e => by have := inj N' h4 e; omega))
    refine loop_0 (fun fu k (_ : Unit) => wbT_append_25 fu x (nI N) (nI k) hx hl (fun r1 hi2 hl3 => i01 r1 ∧ Φ r1 hi2 hl3)) (fun k _ => gdT x k = true) N () (by rfl) (fun fu _ g => ?_) (fun fu k _ hk g ih => ?_)
    · unfold wbT_append_25
      refine br_t (nI_le (Nat.le_refl _) (by omega)) ?_
      have hy := h1 N n1 n4 z g rfl
      have lp := loop_f (fun fu i (s : HI) => wbT_append_63 fu x (nI (N - i) - 1) s hl (fun r1 hi2 hl3 => i01 r1 ∧ Φ r1 hi2 hl3)) (fun i => stX hx (tyf (hx 2) m N x i) (m + i)) N (fun fu => ?_) (fun fu i hi ih => ?_)
      · have e0 : stX hx (tyf (hx 2) m N x 0) (m + 0) = hx := stX_s hx3
        rw [e0] at lp
        exact lp
      · unfold wbT_append_63
        rw [Nat.sub_self]
        exact br_t (by decide) ⟨i01_1, i01_1, hy⟩
      · unfold wbT_append_63 wpT_byteOf wbT_byteOf_0
        rw [dn_1 hi]
        refine br_f (nI_pos (by omega)) ?_
        have s1 : stX hx (tyf (hx 2) m N x i) (m + i) 1 3 = nI (m + i) := by simp [stX]
        obtain ⟨b, hb, eb⟩ := by_n x (N - 1 - i)
        have ec : vp_nar .char ((((x.toUInt32 >>> (((8 : Int32) * nI (N - 1 - i)).toUInt32 &&& Int32.toUInt32 31)).toInt32) &&& (255 : Int32)).toUInt32 % 65536).toInt32 = byM x (N - 1 - i) := by
          rw [by_x x _ (by omega), eb, pk_char, pk_tn (by omega), Nat.mod_eq_of_lt (by omega), vn_c (by omega)]
        dsimp only
        rw [ec, s1, nI_clamp (by omega), u2_c _ _ _ _ (by decide), s1, nI_1, stX_u, nI_m1, dn_2 hi]
        exact ⟨vp_in_nI (by omega) (by omega), ih⟩
    · unfold wbT_append_25 wpT_byteOf wbT_byteOf_0
      rw [by_x x k (by omega), nI_n1, nI_1]
      have bad : ¬ (32 ≤ byM x k ∧ byM x k ≤ 126) → i01 0 ∧ i01 0 ∧ Φ 0 hx hl := fun b => no (fun N' _ h4 _ gg e => by
        have := inj N' h4 e; subst this
        have := gd_m (show k + 1 ≤ N' by omega) gg
        rw [gd_s, g, Bool.true_and, decide_eq_true_eq] at this
        exact b this)
      refine br_f (nI_ge hk (by omega)) (br_c (fun b => bad (fun y => ?_)) (fun b => br_c (fun b2 => ih () ?_) (fun b2 => bad (fun y => b2 y.2))))
      · have := y.1; rw [← i32_nlt] at this; exact this b
      · rw [i32_nlt] at b
        rw [gd_s, g, decide_eq_true (And.intro b b2)]; rfl
