/-! the pure part: small rows on ints, booleans and loops -/
def bI (b : Bool) : Int32 := if b then 1 else 0
theorem bI_t : bI true = 1 := rfl
theorem bI_f : bI false = 0 := rfl
theorem bI_01 (b : Bool) : i01 (bI b) := by cases b; exact Or.inl rfl; exact Or.inr rfl
theorem bI_0 (b : Bool) : (bI b = 0) = (b = false) := by cases b <;> simp [bI]
theorem bI_1 (b : Bool) : (bI b = 1) = (b = true) := by cases b <;> simp [bI]
theorem bI_ne (b : Bool) : (¬ bI b = 0) = (b = true) := by cases b <;> simp [bI]
theorem i01_0 : i01 (0 : Int32) := Or.inl rfl
theorem i01_1 : i01 (1 : Int32) := Or.inr rfl
theorem i01_b {x : Int32} (h : i01 x) : x = bI (decide (x = 1)) := by
  rcases h with h | h <;> subst h <;> decide
theorem vn_b {x : Int32} (h : i01 x) : vp_nar .boolean x = x := by
  rcases h with h | h <;> subst h <;> decide
theorem vn_bI (b : Bool) : vp_nar .boolean (bI b) = bI b := vn_b (bI_01 b)
theorem nI_n1 : Int32.ofInt (1) = 1 := by decide
theorem nI_m1 : Int32.ofInt (-1) = -1 := by decide
theorem u2_s {α : Type} (h : Nat → Nat → α) (c j : Nat) (v : α) : u2 h c j v c j = v := by simp [u2]
theorem u2_c {α : Type} (h : Nat → Nat → α) {c a : Nat} (j : Nat) (v : α) (b : Nat) (e : a ≠ c) : u2 h c j v a b = h a b := by simp [u2, e]
theorem u2_cf {α : Type} (h : Nat → Nat → α) {c a : Nat} (j : Nat) (v : α) (e : a ≠ c) : u2 h c j v a = h a := by funext b; simp [u2, e]
theorem u2_j {α : Type} (h : Nat → Nat → α) (c a : Nat) {j b : Nat} (v : α) (e : b ≠ j) : u2 h c j v a b = h a b := by simp [u2, e]
/-- a loop whose state is a function of its counter -/
theorem loop_f {σ : Type} (W : Nat → Nat → σ → Prop) (F : Nat → σ) (e : Nat) (hx : ∀ n, W (n + 1) e (F e)) (hs : ∀ n i, i < e → W n (i + 1) (F (i + 1)) → W (n + 1) i (F i)) : ∃ n, W n 0 (F 0) :=
  loop_0 W (fun i s => s = F i) e (F 0) rfl (fun n s h => h ▸ hx n) (fun n i s hi h k => h ▸ hs n i hi (k _ rfl))
/-- the same from any place on -/
theorem loop_g {σ : Type} (W : Nat → Nat → σ → Prop) (F : Nat → σ) (e : Nat) (hx : ∀ n, W (n + 1) e (F e)) (hs : ∀ n i, i < e → W n (i + 1) (F (i + 1)) → W (n + 1) i (F i)) (i : Nat) (hi : i ≤ e) : ∃ n, W n i (F i) :=
  ⟨e - i + 1, loop_i W (fun i s => s = F i) e (fun n s h => h ▸ hx n) (fun n i s hi h k => h ▸ hs n i hi (k _ rfl)) _ i (F i) hi (by omega) rfl⟩
theorem i32_nlt {a b : Int32} : (¬ a < b) = (b ≤ a) := by
  simp only [Int32.lt_iff_toInt_lt, Int32.le_iff_toInt_le, Int.not_lt]
theorem i32_nle {a b : Int32} : (¬ a ≤ b) = (b < a) := by
  simp only [Int32.lt_iff_toInt_lt, Int32.le_iff_toInt_le, Int.not_le]
theorem m1_lt0 : ((-1 : Int32) < 0) = True := by decide
theorem m1_le0 : ((0 : Int32) ≤ -1) = False := by decide
/-! M: small methods -/
theorem pM_in (a b c : Int32) (hi : HI) (hl : HL) (Φ : Int32 → HI → HL → Prop) : wpM_in a b c hi hl Φ = Φ (bI (decide (b ≤ a ∧ a ≤ c))) hi hl := by
  unfold wpM_in wbM_in_0 wbM_in_14
  by_cases h1 : a < b
  · have : ¬ b ≤ a := by rw [i32_nle]; exact h1
    simp [h1, this, bI, i01]
  · have h1' : b ≤ a := by rw [i32_nlt] at h1; exact h1
    by_cases h2 : c < a
    · have : ¬ a ≤ c := by rw [i32_nle]; exact h2
      simp [h1, h1', h2, this, bI, i01]
    · have h2' : a ≤ c := by rw [i32_nlt] at h2; exact h2
      simp [h1, h1', h2, h2', bI, i01]
/-- the number of the last line of the first n with this ID, or -1 -/
def lof (f : Nat → Int32) (x : Int32) : Nat → Int32
  | 0 => -1
  | k + 1 => if f k = x then nI k else lof f x k
theorem lof_cases (f : Nat → Int32) (x : Int32) (n : Nat) : (lof f x n = -1 ∧ ∀ k, k < n → f k ≠ x) ∨ ∃ k, k < n ∧ f k = x ∧ lof f x n = nI k := by
  induction n with
  | zero => exact Or.inl ⟨rfl, fun k h => absurd h (by omega)⟩
  | succ n ih =>
    by_cases e : f n = x
    · exact Or.inr ⟨n, by omega, e, by simp [lof, e]⟩
    · rcases ih with ⟨a, b⟩ | ⟨k, a, b, c⟩
      · exact Or.inl ⟨by simp [lof, e, a], fun k hk => by
          by_cases q : k = n
          · subst q; exact e
          · exact b k (by omega)⟩
      · exact Or.inr ⟨k, by omega, b, by simp [lof, e, c]⟩
theorem pM_lineOf (x : Int32) (hi : HI) (hl : HL) (Φ : Int32 → HI → HL → Prop) (n : Nat) (hn : hi 0 6 = nI n) (h20 : n ≤ 20) (h : Φ (lof (hi 4) x n) hi hl) : wpM_lineOf x hi hl Φ := by
  unfold wpM_lineOf wbM_lineOf_0
  refine loop_f (fun fu i s => wbM_lineOf_4 fu x s (nI i) hi hl Φ) (fun i => lof (hi 4) x i) n (fun k => ?_) (fun k i hk ih => ?_)
  · unfold wbM_lineOf_4
    exact br_t (by rw [hn]; exact nI_le (Nat.le_refl _) (by omega)) h
  · unfold wbM_lineOf_4 wbM_lineOf_27
    refine br_f (by rw [hn]; exact nI_ge hk (by omega)) ⟨vp_in_nI (by omega) (by omega), ?_⟩
    simp only [nI_clamp (show i < 2 ^ 31 by omega), nI_n1, nI_1]
    refine br_c (fun e => ?_) (fun e => ?_)
    · simpa [lof, e] using ih
    · simpa [lof, e] using ih
/-- two digits at most, the first one not 0 unless it is the only one -/
noncomputable def dg (c : Nat → Int32) (p q : Nat) : Int32 :=
  if q = p + 1 ∧ (48 ≤ c p ∧ c p ≤ 57) then c p - 48
  else if q = p + 2 ∧ ¬ c p = 48 ∧ (48 ≤ c p ∧ c p ≤ 57) ∧ (48 ≤ c (p + 1) ∧ c (p + 1) ≤ 57) then 10 * (c p - 48) + c (p + 1) - 48
  else -1
theorem pM_digits (hi : HI) (hl : HL) (Φ : Int32 → HI → HL → Prop) (p q : Nat) (hpq : p ≤ q) (hq : q ≤ 40) (h : Φ (dg (hi 1) p q) hi hl) : wpM_digits (nI p) (nI q) hi hl Φ := by
  unfold wpM_digits wbM_digits_0
  rw [pM_in, pk_sub hpq]
  have c0 : q = p ∨ q = p + 1 ∨ q = p + 2 ∨ p + 3 ≤ q := by omega
  rcases c0 with e | e | e | e
  · subst e
    have hd : dg (hi 1) q q = -1 := by simp [dg]
    rw [hd] at h
    simp only [Nat.sub_self, wbM_digits_33, wbM_digits_34]
    refine br_t (by decide) ⟨1, ?_⟩
    unfold wbM_digits_41 wbM_digits_90
    exact br_t (nI_le (Nat.le_refl _) (by omega)) (br_t rfl h)
  · subst e
    have e1 : p + 1 - p = 1 := by omega
    simp only [e1, wbM_digits_29, wbM_digits_34]
    refine br_f (by decide) (br_f (by decide) ⟨2, ?_⟩)
    unfold wbM_digits_41
    refine br_f (nI_ge (by omega) (by omega)) (br_f (by decide) ⟨vp_in_nI (by omega) (by omega), ?_⟩)
    rw [pM_in, nI_clamp (by omega)]
    refine ⟨vp_in_nI (by omega) (by omega), ?_⟩
    unfold wbM_digits_41 wbM_digits_90
    rw [nI_n1, nI_1]
    refine br_t (nI_le (Nat.le_refl _) (by omega)) ?_
    by_cases hc : 48 ≤ hi 1 p ∧ hi 1 p ≤ 57
    · have hd : dg (hi 1) p (p + 1) = hi 1 p - 48 := by simp [dg, hc]
      rw [hd] at h
      refine br_f (by simp [hc, bI]) ?_
      simpa using h
    · have hd : dg (hi 1) p (p + 1) = -1 := by simp [dg, hc]
      rw [hd] at h
      exact br_t (by simp [hc, bI]) h
  · subst e
    have e1 : p + 2 - p = 2 := by omega
    have e2 : ∀ x y : Prop, (p + 2 = p + 1 ∧ x) = False := by intro x y; simp
    simp only [e1, wbM_digits_29, wbM_digits_33, wbM_digits_34]
    refine br_f (by decide) (br_t (by decide) ⟨vp_in_nI (by omega) (by omega), ?_⟩)
    rw [nI_clamp (by omega)]
    by_cases h48 : hi 1 p = 48
    · refine br_t h48 ⟨1, ?_⟩
      have hd : dg (hi 1) p (p + 2) = -1 := by simp [dg, h48]
      rw [hd] at h
      unfold wbM_digits_41 wbM_digits_90
      exact br_f (nI_ge (by omega) (by omega)) (br_t rfl (br_t rfl h))
    · refine br_f h48 ⟨3, ?_⟩
      unfold wbM_digits_41
      refine br_f (nI_ge (by omega) (by omega)) (br_f (by decide) ⟨vp_in_nI (by omega) (by omega), ?_⟩)
      rw [pM_in, nI_clamp (by omega)]
      refine ⟨vp_in_nI (by omega) (by omega), ?_⟩
      rw [nI_n1, nI_1]
      unfold wbM_digits_41
      refine br_f (nI_ge (by omega) (by omega)) ?_
      by_cases hc : 48 ≤ hi 1 p ∧ hi 1 p ≤ 57
      · refine br_f (by simp [hc, bI]) ⟨vp_in_nI (by omega) (by omega), ?_⟩
        rw [pM_in, nI_clamp (by omega)]
        refine ⟨vp_in_nI (by omega) (by omega), ?_⟩
        rw [nI_n1, nI_1]
        unfold wbM_digits_41 wbM_digits_90
        refine br_t (nI_le (by omega) (by omega)) ?_
        by_cases hc2 : 48 ≤ hi 1 (p + 1) ∧ hi 1 (p + 1) ≤ 57
        · have hd : dg (hi 1) p (p + 2) = 10 * (hi 1 p - 48) + hi 1 (p + 1) - 48 := by simp [dg, hc, hc2, h48]
          rw [hd] at h
          refine br_f (by simp [hc2, bI]) ?_
          simpa using h
        · have hd : dg (hi 1) p (p + 2) = -1 := by simp [dg, hc2]
          rw [hd] at h
          exact br_t (by simp [hc2, bI]) h
      · have hd : dg (hi 1) p (p + 2) = -1 := by simp [dg, hc]
        rw [hd] at h
        unfold wbM_digits_90
        exact br_t (by simp [hc, bI]) (br_t (by simp [hc, bI]) h)
  · have hd : dg (hi 1) p q = -1 := by
      unfold dg
      rw [if_neg (by omega), if_neg (by omega)]
    rw [hd] at h
    have e1 : decide ((1 : Int32) ≤ nI (q - p) ∧ nI (q - p) ≤ 2) = false := by
      have : ¬ nI (q - p) ≤ nI 2 := nI_ge (by omega) (by omega)
      have e2 : nI 2 = (2 : Int32) := rfl
      rw [e2] at this
      simp [this]
    rw [e1]
    simp only [wbM_digits_33, wbM_digits_34]
    refine br_t rfl ⟨1, ?_⟩
    unfold wbM_digits_41 wbM_digits_90
    exact br_f (nI_ge (by omega) (by omega)) (br_t rfl (br_t rfl h))
