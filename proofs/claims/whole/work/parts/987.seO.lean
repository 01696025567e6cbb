/-! X: leastOf -/
theorem or_b : ∀ p, p ∈ List.range 6 → ∀ a, a ∈ List.range 64 → a.testBit p = false → nI a ||| ((1 : Int32) <<< (nI p &&& 31)) = nI (a + 2 ^ p) := by decide +kernel
theorem tb_dm (x i : Nat) : x / 2 ^ i % 2 = if x.testBit i = true then 1 else 0 := by
  rw [Nat.testBit_eq_decide_div_mod_eq]
  have : x / 2 ^ i % 2 < 2 := Nat.mod_lt _ (by omega)
  by_cases c : x / 2 ^ i % 2 = 1
  · simp [c]
  · have : x / 2 ^ i % 2 = 0 := by omega
    simp [this]
/-- one bit more -/
theorem half (x m : Nat) : x / 2 ^ m = 2 * (x / 2 ^ (m + 1)) + (if x.testBit m = true then 1 else 0) := by
  rw [Nat.pow_succ, ← Nat.div_div_eq_div_mul, ← tb_dm]
  omega
/-- the key of a state, as far as all but m bits of line i -/
def kyi (d : HI) (n i m τ : Nat) : Nat := pkT d (TA d n true) (fld d τ) i * 2 ^ (bts (nk d i) - m) + fld d τ i / 2 ^ m
/-- the bits of a state, as far -/
def lyi (d : HI) (i m τ : Nat) : Nat := τ % 2 ^ tot d (nI 2) i + fld d τ i / 2 ^ m * 2 ^ (tot d (nI 2) i + m)
theorem kyi_s {d : HI} {n i m τ : Nat} (hm : m < bts (nk d i)) : kyi d n i m τ = 2 * kyi d n i (m + 1) τ + (if (fld d τ i).testBit m = true then 1 else 0) := by
  unfold kyi
  rw [half (fld d τ i) m]
  have e : bts (nk d i) - m = bts (nk d i) - (m + 1) + 1 := by omega
  rw [e, Nat.pow_succ, Nat.mul_add, Nat.mul_comm 2 (pkT d (TA d n true) (fld d τ) i * 2 ^ (bts (nk d i) - (m + 1))), Nat.mul_assoc, Nat.add_assoc]
theorem lyi_s {d : HI} {i m τ : Nat} : lyi d i m τ = lyi d i (m + 1) τ + (if (fld d τ i).testBit m = true then 2 ^ (tot d (nI 2) i + m) else 0) := by
  unfold lyi
  rw [half (fld d τ i) m]
  have e : tot d (nI 2) i + (m + 1) = tot d (nI 2) i + m + 1 := by omega
  generalize fld d τ i / 2 ^ (m + 1) = a
  rw [e, Nat.pow_succ]
  generalize 2 ^ (tot d (nI 2) i + m) = q
  rw [Nat.add_mul, Nat.mul_comm q 2, ← Nat.mul_assoc, Nat.mul_comm a 2]
  split
  · omega
  · omega
theorem lyi_b {d : HI} {i m τ : Nat} : (lyi d i (m + 1) τ).testBit (tot d (nI 2) i + m) = false := by
  unfold lyi
  have hlt : τ % 2 ^ tot d (nI 2) i < 2 ^ tot d (nI 2) i := Nat.mod_lt _ (Nat.two_pow_pos _)
  have h2 : (2 : Nat) ^ tot d (nI 2) i ≤ 2 ^ (tot d (nI 2) i + m) := Nat.pow_le_pow_right (by omega) (by omega)
  have := fa (a := τ % 2 ^ tot d (nI 2) i) (c := fld d τ i / 2 ^ (m + 1)) (p := tot d (nI 2) i + m) (b := 1) (q := tot d (nI 2) i + (m + 1)) (by omega)
  rw [Nat.div_eq_of_lt (show τ % 2 ^ tot d (nI 2) i < 2 ^ (tot d (nI 2) i + m) by omega)] at this
  rw [Nat.testBit_eq_decide_div_mod_eq]
  rw [Nat.pow_one, Nat.zero_mod] at this
  rw [this]; rfl
theorem lyi_0 {d : HI} {i τ : Nat} (e : d 5 i = nI 2) : lyi d i 0 τ = τ % 2 ^ tot d (nI 2) (i + 1) := by
  unfold lyi fld
  rw [tot_s e, pl_w e, Nat.pow_zero, Nat.div_one, Nat.add_zero, Nat.pow_add, Nat.mod_mul, Nat.mul_comm (2 ^ tot d (nI 2) i)]
theorem lyi_t {d : HI} {i τ : Nat} : lyi d i (bts (nk d i)) τ = τ % 2 ^ tot d (nI 2) i := by
  unfold lyi
  rw [Nat.div_eq_of_lt (fld_lt d τ i), Nat.zero_mul, Nat.add_zero]
theorem kyi_t {d : HI} {n i τ : Nat} : kyi d n i (bts (nk d i)) τ = pkT d (TA d n true) (fld d τ) i := by
  unfold kyi
  rw [Nat.div_eq_of_lt (fld_lt d τ i), Nat.sub_self, Nat.pow_zero, Nat.mul_one, Nat.add_zero]
theorem kyi_0 {d : HI} {n i τ : Nat} (e : d 5 i = 2) : kyi d n i 0 τ = pkT d (TA d n true) (fld d τ) (i + 1) := by
  unfold kyi
  rw [pkT_s (by rw [TA_t]; exact decide_eq_true e), Nat.sub_zero, Nat.pow_zero, Nat.div_one]
/-- the states of A whose key, as far, is the least -/
def LO (A L : Int64) (key : Nat → Nat) (low : Nat → Nat) (x : Int32) : Prop := ∃ μ, (∀ τ, τ < 64 → (bt L τ = true ↔ bt A τ = true ∧ key τ = μ)) ∧ (∃ τ, τ < 64 ∧ bt L τ = true) ∧ (∀ τ, τ < 64 → bt A τ = true → μ ≤ key τ) ∧ ∀ τ, τ < 64 → bt L τ = true → x = nI (low τ)
theorem LO_c {A L : Int64} {key key' low low' : Nat → Nat} {x : Int32} (h1 : ∀ τ, τ < 64 → bt A τ = true → key τ = key' τ) (h2 : ∀ τ, τ < 64 → low τ = low' τ) (h : LO A L key low x) : LO A L key' low' x := by
  obtain ⟨μ, a, b, c, e⟩ := h
  refine ⟨μ, fun τ hτ => ?_, b, fun τ hτ hA => by rw [← h1 τ hτ hA]; exact c τ hτ hA, fun τ hτ hL => by rw [← h2 τ hτ]; exact e τ hτ hL⟩
  rw [a τ hτ]
  exact ⟨fun z => ⟨z.1, by rw [← h1 τ hτ z.1]; exact z.2⟩, fun z => ⟨z.1, by rw [h1 τ hτ z.1]; exact z.2⟩⟩
theorem pX_leastOf {d hx : HI} {n : Nat} {hl : HL} {Φ : Int32 → HI → HL → Prop} (hF : WF d n) (hB : XB d n hx) (A : Int64) (hA : ∃ τ, τ < 64 ∧ bt A τ = true) (hS : ∀ τ, τ < 64 → bt A τ = true → τ < 2 ^ tot d (nI 2) n)
    (h : ∀ σ, σ < 2 ^ tot d (nI 2) n → bt A σ = true → (∀ τ, τ < 64 → bt A τ = true → pkn d n σ ≤ pkn d n τ) → Φ (nI σ) hx hl) : wpB_leastOf A hx hl Φ := by
  have hn := hF.1.1
  have hS6 := hB.2.2.2.2
  unfold wpB_leastOf wbB_leastOf_0
  refine loop_0 (fun fu i (s : Int64 × Int32) => wbB_leastOf_8 fu s.1 s.2 (nI i) hx hl Φ) (fun i s => LO A s.1 (fun τ => pkT d (TA d n true) (fld d τ) i) (fun τ => τ % 2 ^ tot d (nI 2) i) s.2) n (A, 0) ⟨0, fun τ _ => ⟨fun z => ⟨z, rfl⟩, fun z => z.1⟩, hA, fun _ _ _ => Nat.zero_le _, fun τ _ _ => by simp only [tot, Nat.pow_zero, Nat.mod_one]; rfl⟩ (fun m s hs => ?_) (fun m i s hi hs ih => ?_)
  · obtain ⟨μ, a, ⟨σ, hσ, hL⟩, c, e⟩ := hs
    unfold wbB_leastOf_8
    refine br_t (by rw [hB.1.1]; exact nI_le (Nat.le_refl _) (by omega)) ?_
    obtain ⟨hAσ, hμ⟩ := (a σ hσ).mp hL
    have hσS := hS σ hσ hAσ
    have := e σ hσ hL
    dsimp only at this
    rw [Nat.mod_eq_of_lt hσS] at this
    rw [this]
    refine h σ hσS hAσ (fun τ hτ hAτ => ?_)
    have := c τ hτ hAτ
    rw [← hμ] at this; exact this
  · obtain ⟨⟨κ, hκ, eκ⟩, l0, l1, l2, l3, l4⟩ := hB.1.2.2.2.2 i hi
    have hvi : vp_in (nI i) 20 := vp_in_nI (by omega) (by omega)
    have hvk : vp_in (d 5 i) 31 := by rw [eκ]; exact vp31 κ (by omega)
    unfold wbB_leastOf_8
    rw [nI_clamp (by omega), l1]
    refine br_f (by rw [hB.1.1]; exact nI_ge hi (by omega)) ⟨hvi, hvk, vp31 2 (by omega), br_c (fun e => ⟨hvi, ?_⟩) (fun e => ?_)⟩
    · have e' : d 5 i = nI 2 := e
      have hno := (fre_2 e).1
      have p4 : hx (24 + i) 4 = nI (pl d i) := hB.2.1 i hi (Or.inr e)
      have hb6 := b_6 hB.2 hi e
      have hpl : pl d i = tot d (nI 2) i := pl_w e'
      have en : sc d (d 6 i).toNatClampNeg = nk d i := rfl
      rw [(l3 hno).1, en, pX_bitsOf _ (n_7 hF.1 hi hno)]
      have key : ∀ b, b ≤ bts (nk d i) → ∀ p : Int64 × Int32, LO A p.1 (kyi d n i b) (lyi d i b) p.2 → wbB_leastOf_50 (fun v3 v5 v6 hi hl => wbB_leastOf_8 m v3 v5 v6 hi hl Φ) (b + 1) p.1 p.2 (nI i) (nI b - 1) hx hl Φ := by
        intro b
        induction b with
        | zero =>
          intro _ p hp
          unfold wbB_leastOf_50 wbB_leastOf_148
          rw [nI_n1, nI_1 i]
          refine br_t (by decide) (ih p ?_)
          exact LO_c (fun τ _ _ => kyi_0 e) (fun τ _ => lyi_0 e') hp
        | succ b ihb =>
          intro hb p hp
          obtain ⟨μ, a, ⟨σ, hσ, hLσ⟩, c, ex⟩ := hp
          have lb := fun τ (hτ : τ < 64) => lanes_b (pl d i + b) (List.mem_range.mpr (by omega)) τ (List.mem_range.mpr hτ)
          have fb := fun τ => fld_tb (d := d) (y := τ) (show b < bts (nk d i) by omega)
          unfold wbB_leastOf_50 wbB_leastOf_92 wbB_leastOf_111 wbB_leastOf_139
          rw [nI_pred, nI_clamp (by omega), p4, nI_add, nI_clamp (by omega), lg_cmp_eq, nI_m1]
          have e1 : nI b + -1 = nI b - 1 := by rw [Int32.sub_eq_add_neg]
          rw [e1]
          refine br_f (nI_pos (by omega)) ⟨hvi, vp_in_nI (by omega) (by omega), br_c (fun z => br_t rfl (br_t rfl ⟨hvi, ?_⟩)) (fun z => br_f (by decide) (br_f (by decide) ?_))⟩
          · -- all have the bit
            have hz := bt_z.mp z
            have one : ∀ τ, τ < 64 → bt p.1 τ = true → (fld d τ i).testBit b = true := fun τ hτ hL => by
              have := hz τ hτ
              rw [bt_and, bt_not hτ, lb τ hτ, hL] at this
              rw [fb τ]; simpa using this
            refine ihb (by omega) (p.1 &&& lanesC (pl d i + b), p.2 ||| ((1 : Int32) <<< (nI (pl d i + b) &&& 31))) ⟨2 * μ + 1, fun τ hτ => ?_, ⟨σ, hσ, ?_⟩, fun τ hτ hAτ => ?_, fun τ hτ hL => ?_⟩ <;> try dsimp only at *
            · rw [bt_and, lb τ hτ, Bool.and_eq_true, ← fb τ, a τ hτ, kyi_s (show b < bts (nk d i) by omega)]
              refine ⟨fun ⟨⟨y1, y2⟩, y3⟩ => ⟨y1, by rw [y2, y3, if_pos rfl]⟩, fun ⟨y1, y2⟩ => ?_⟩
              by_cases q : (fld d τ i).testBit b = true
              · rw [if_pos q] at y2; exact ⟨⟨y1, by omega⟩, q⟩
              · rw [if_neg q] at y2; omega
            · rw [bt_and, lb σ hσ, ← fb σ, one σ hσ hLσ, hLσ]; rfl
            · have := c τ hτ hAτ
              rw [kyi_s (show b < bts (nk d i) by omega)]
              by_cases q : kyi d n i (b + 1) τ = μ
              · rw [one τ hτ ((a τ hτ).mpr ⟨hAτ, q⟩), if_pos rfl]; omega
              · split <;> omega
            · rw [bt_and, Bool.and_eq_true] at hL
              have q := one τ hτ hL.1
              rw [ex τ hτ hL.1, hpl]
              have hlt : lyi d i (b + 1) τ < 64 := by
                have := lyi_s (d := d) (i := i) (m := b) (τ := τ)
                have := Nat.mod_le τ (2 ^ tot d (nI 2) i)
                unfold lyi
                have hf := fld_lt d τ i
                have e2 : fld d τ i / 2 ^ (b + 1) < 2 ^ (bts (nk d i) - (b + 1)) := by
                  rw [Nat.div_lt_iff_lt_mul (Nat.two_pow_pos _), ← Nat.pow_add]
                  have : bts (nk d i) - (b + 1) + (b + 1) = bts (nk d i) := by omega
                  rw [this]; exact hf
                have e3 : (fld d τ i / 2 ^ (b + 1) + 1) * 2 ^ (tot d (nI 2) i + (b + 1)) ≤ 2 ^ (bts (nk d i) - (b + 1)) * 2 ^ (tot d (nI 2) i + (b + 1)) := Nat.mul_le_mul_right _ e2
                rw [← Nat.pow_add, Nat.add_mul, Nat.one_mul] at e3
                have e4 : (2 : Nat) ^ (bts (nk d i) - (b + 1) + (tot d (nI 2) i + (b + 1))) ≤ 2 ^ 6 := Nat.pow_le_pow_right (by omega) (by omega)
                have e5 : τ % 2 ^ tot d (nI 2) i < 2 ^ tot d (nI 2) i := Nat.mod_lt _ (Nat.two_pow_pos _)
                have e6 : (2 : Nat) ^ tot d (nI 2) i ≤ 2 ^ (tot d (nI 2) i + (b + 1)) := Nat.pow_le_pow_right (by omega) (by omega)
                omega
              rw [or_b _ (List.mem_range.mpr (by omega)) _ (List.mem_range.mpr hlt) lyi_b, lyi_s (m := b), if_pos q]
          · -- some have not
            have hz : ∃ τ, τ < 64 ∧ bt p.1 τ = true ∧ (fld d τ i).testBit b = false := by
              refine Classical.byContradiction (fun hno => z (bt_z.mpr (fun τ hτ => ?_)))
              rw [bt_and, bt_not hτ, lb τ hτ, ← fb τ]
              cases u : bt p.1 τ
              · rfl
              · cases w : (fld d τ i).testBit b
                · exact absurd ⟨τ, hτ, u, w⟩ hno
                · rfl
            obtain ⟨ρ, hρ, hLρ, hbρ⟩ := hz
            have e0 : p.2 ||| 0 = p.2 := by simp
            rw [e0]
            refine ihb (by omega) (p.1 &&& (lanesC (pl d i + b) ^^^ (-1)), p.2) ⟨2 * μ, fun τ hτ => ?_, ⟨ρ, hρ, ?_⟩, fun τ hτ hAτ => ?_, fun τ hτ hL => ?_⟩ <;> try dsimp only at *
            · rw [bt_and, bt_not hτ, lb τ hτ, Bool.and_eq_true, ← fb τ, a τ hτ, kyi_s (show b < bts (nk d i) by omega)]
              refine ⟨fun ⟨⟨y1, y2⟩, y3⟩ => ⟨y1, ?_⟩, fun ⟨y1, y2⟩ => ?_⟩
              · have : ¬ (fld d τ i).testBit b = true := by simpa using y3
                rw [if_neg this, y2]; omega
              · by_cases q : (fld d τ i).testBit b = true
                · rw [if_pos q] at y2; omega
                · rw [if_neg q] at y2; exact ⟨⟨y1, by omega⟩, by simpa using q⟩
            · rw [bt_and, bt_not hρ, lb ρ hρ, ← fb ρ, hbρ, hLρ]; rfl
            · have := c τ hτ hAτ
              rw [kyi_s (show b < bts (nk d i) by omega)]
              omega
            · rw [bt_and, bt_not hτ, lb τ hτ, Bool.and_eq_true, ← fb τ] at hL
              have : ¬ (fld d τ i).testBit b = true := by simpa using hL.2
              rw [ex τ hτ hL.1, lyi_s (m := b), if_neg this]; rfl
      refine ⟨bts (nk d i) + 1, key (bts (nk d i)) (Nat.le_refl _) s ?_⟩
      exact LO_c (fun τ _ _ => kyi_t.symm) (fun τ _ => lyi_t.symm) hs
    · have e' : ¬ d 5 i = nI 2 := e
      unfold wbB_leastOf_148
      rw [nI_n1, nI_1 i]
      refine ih s (LO_c (fun τ _ _ => ?_) (fun τ _ => ?_) hs)
      · exact (pkT_e (by rw [TA_t]; exact decide_eq_false e)).symm
      · rw [tot_e e']
