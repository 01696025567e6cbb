/-! numbers out of fields; begin, feed, step, value -/
theorem fa {a c p b q : Nat} (h : p + b ≤ q) : (a + c * 2 ^ q) / 2 ^ p % 2 ^ b = a / 2 ^ p % 2 ^ b := by
  have e : 2 ^ q = 2 ^ p * (2 ^ b * 2 ^ (q - p - b)) := by rw [← Nat.pow_add, ← Nat.pow_add]; congr 1; omega
  have e2 : c * 2 ^ q = 2 ^ p * (2 ^ b * (c * 2 ^ (q - p - b))) := by rw [e]; simp only [Nat.mul_left_comm]
  rw [e2, Nat.add_mul_div_left _ _ (Nat.two_pow_pos p), Nat.add_mul_mod_self_left]
def enc (d : HI) (what : Int32) (f : Nat → Nat) : Nat → Nat
  | 0 => 0
  | k + 1 => enc d what f k + (if d 5 k = what then f k * 2 ^ tot d what k else 0)
theorem tot_e {d : HI} {what : Int32} {k : Nat} (h : ¬ d 5 k = what) : tot d what (k + 1) = tot d what k := by
  simp only [tot, if_neg h, Nat.add_zero]
theorem enc_s {d : HI} {what : Int32} {f : Nat → Nat} {k : Nat} (h : d 5 k = what) : enc d what f (k + 1) = enc d what f k + f k * 2 ^ tot d what k := by
  simp only [enc, if_pos h]
theorem enc_e {d : HI} {what : Int32} {f : Nat → Nat} {k : Nat} (h : ¬ d 5 k = what) : enc d what f (k + 1) = enc d what f k := by
  simp only [enc, if_neg h, Nat.add_zero]
theorem enc_lt {d : HI} {what : Int32} {f : Nat → Nat} : ∀ {m : Nat}, (∀ k, k < m → d 5 k = what → f k < 2 ^ bts (nk d k)) → enc d what f m < 2 ^ tot d what m
  | 0, _ => Nat.two_pow_pos _
  | k + 1, h => by
    have ih := enc_lt (m := k) (fun i hi e => h i (by omega) e)
    by_cases e : d 5 k = what
    · rw [enc_s e, tot_s e, Nat.pow_add, Nat.mul_comm (2 ^ tot d what k)]
      have hf := h k (by omega) e
      have : (f k + 1) * 2 ^ tot d what k ≤ 2 ^ bts (nk d k) * 2 ^ tot d what k := Nat.mul_le_mul_right _ hf
      rw [Nat.add_mul, Nat.one_mul] at this
      omega
    · rw [enc_e e, tot_e e]; exact ih
theorem enc_f {d : HI} {what : Int32} {f : Nat → Nat} : ∀ {m : Nat}, (∀ k, k < m → d 5 k = what → f k < 2 ^ bts (nk d k)) → ∀ {i : Nat}, i < m → d 5 i = what → enc d what f m / 2 ^ tot d what i % 2 ^ bts (nk d i) = f i
  | 0, _, i, hi, _ => absurd hi (by omega)
  | k + 1, h, i, hi, ei => by
    have h' := fun i (hi : i < k) e => h i (show i < k + 1 by omega) e
    by_cases z : i = k
    · subst z
      rw [enc_s ei, Nat.add_mul_div_right _ _ (Nat.two_pow_pos _), Nat.div_eq_of_lt (enc_lt h'), Nat.zero_add, Nat.mod_eq_of_lt (h i hi ei)]
    · have ih := enc_f h' (show i < k by omega) ei
      by_cases e : d 5 k = what
      · have : tot d what i + bts (nk d i) ≤ tot d what k := by
          rw [← tot_s ei]; exact tot_m (by omega)
        rw [enc_s e, fa this, ih]
      · rw [enc_e e, ih]
theorem enc_cg {d : HI} {what : Int32} {f g : Nat → Nat} : ∀ {m : Nat}, (∀ k, k < m → d 5 k = what → f k = g k) → enc d what f m = enc d what g m
  | 0, _ => rfl
  | k + 1, h => by
    have ih := enc_cg (m := k) (fun i hi e => h i (by omega) e)
    by_cases e : d 5 k = what
    · rw [enc_s e, enc_s e, ih, h k (by omega) e]
    · rw [enc_e e, enc_e e, ih]
theorem enc_id {d : HI} {what : Int32} (σ : Nat) : ∀ m, enc d what (fun k => σ / 2 ^ tot d what k % 2 ^ bts (nk d k)) m = σ % 2 ^ tot d what m
  | 0 => by simp only [enc, tot, Nat.pow_zero, Nat.mod_one]
  | k + 1 => by
    by_cases e : d 5 k = what
    · rw [enc_s e, tot_s e, enc_id σ k, Nat.pow_add, Nat.mod_mul, Nat.mul_comm (2 ^ tot d what k)]
    · rw [enc_e e, tot_e e, enc_id σ k]
theorem pl_w {d : HI} {what : Int32} {k : Nat} (h : d 5 k = what) : pl d k = tot d what k := by unfold pl; rw [h]
theorem fld_enc {d : HI} {what : Int32} {f : Nat → Nat} {n : Nat} (h : ∀ k, k < n → d 5 k = what → f k < 2 ^ bts (nk d k)) {i : Nat} (hi : i < n) (e : d 5 i = what) : fld d (enc d what f n) i = f i := by
  unfold fld; rw [pl_w e]; exact enc_f h hi e
theorem fld_inj {d : HI} {what : Int32} {σ τ n : Nat} (h1 : σ < 2 ^ tot d what n) (h2 : τ < 2 ^ tot d what n) (h : ∀ k, k < n → d 5 k = what → fld d σ k = fld d τ k) : σ = τ := by
  have a := enc_id (d := d) (what := what) σ n
  have b := enc_id (d := d) (what := what) τ n
  rw [Nat.mod_eq_of_lt h1] at a
  rw [Nat.mod_eq_of_lt h2] at b
  rw [← a, ← b]
  refine enc_cg (fun k hk e => ?_)
  have := h k hk e
  unfold fld at this
  rw [pl_w e] at this; exact this
theorem fld_lt (d : HI) (y k : Nat) : fld d y k < 2 ^ bts (nk d k) := Nat.mod_lt _ (Nat.two_pow_pos _)
/-- there are settled values -/
theorem asg_ex {d : HI} {n : Nat} (hF : WF d n) (f : Nat → Nat) (hf : ∀ k, k < n → fre d k → f k < 2 ^ bts (nk d k)) : ∃ v, VR d n v ∧ Sett d n v ∧ ∀ k, k < n → fre d k → v k = f k := by
  obtain ⟨hW, hA, hI, hK⟩ := hF
  have hn := hW.1
  have key : ∀ i, i ≤ n → ∃ v', (∀ k, k < n → nod (d 5 k) → (k < i ∨ d 5 k ≤ 2) → v' k < 2 ^ bts (nk d k)) ∧ (∀ k, k < i → nod (d 5 k) → ¬ d 5 k ≤ 2 → nI (v' k) = opK d v' k) ∧ (∀ k, k < n → nod (d 5 k) → d 5 k ≤ 2 → v' k = f k) := by
    intro i
    induction i with
    | zero => exact fun _ => ⟨f, fun k hk hno hc => hf k hk ⟨hno, hc.resolve_left (by omega)⟩, fun k hk => absurd hk (by omega), fun _ _ _ _ => rfl⟩
    | succ i ih =>
      intro hi
      obtain ⟨v', h1, h2, h3⟩ := ih (by omega)
      by_cases q : nod (d 5 i) ∧ ¬ d 5 i ≤ 2
      · obtain ⟨hno, q2⟩ := q
        obtain ⟨κ, hκ, e5, hL⟩ := hK i (by omega)
        have hkr : 3 ≤ κ ∧ κ ≤ 26 := by
          have a := (nod_κ hκ).mp (e5 ▸ hno)
          have b : ¬ κ ≤ 2 := fun z => q2 (by rw [e5]; exact (nI_leI (b := 2) (by omega) (by omega)).mpr z)
          omega
        have v0V' : VR d i v' := fun k hk hnk => h1 k (by omega) hnk (Or.inl hk)
        obtain ⟨r, hr, er⟩ := opK_r hW i v0V' (by omega) κ hkr e5 hL
        refine ⟨fun k => if k = i then r else v' k, fun k hk hnk hc => ?_, fun k hk hnk hc => ?_, fun k hk hnk hc => ?_⟩
        · by_cases z : k = i
          · subst z; simp only [if_true]; exact hr
          · simp only [if_neg z]; exact h1 k hk hnk (hc.imp (fun y => by omega) id)
        · obtain ⟨κk, hκk, e5k, hLk⟩ := hK k (by omega)
          have hkk : 3 ≤ κk ∧ κk ≤ 26 := by
            have a := (nod_κ hκk).mp (e5k ▸ hnk)
            have b : ¬ κk ≤ 2 := fun z => hc (by rw [e5k]; exact (nI_leI (b := 2) (by omega) (by omega)).mpr z)
            omega
          have cg : opK d (fun k => if k = i then r else v' k) k = opK d v' k := opK_congr (by omega) e5k hkk hLk (fun a ha => by simp only [if_neg (show ¬ a = i by omega)])
          by_cases z : k = i
          · subst z
            simp only [if_true]
            rw [← er]; exact cg.symm
          · simp only [if_neg z]
            rw [cg]; exact h2 k (by omega) hnk hc
        · have z : ¬ k = i := fun z => by subst z; exact q2 hc
          simp only [if_neg z]; exact h3 k hk hnk hc
      · refine ⟨v', fun k hk hno hc => h1 k hk hno ?_, fun k hk hno hc => h2 k ?_ hno hc, h3⟩
        · by_cases z : k = i
          · subst z
            by_cases q2 : d 5 k ≤ 2
            · exact Or.inr q2
            · exact absurd ⟨hno, q2⟩ q
          · exact hc.imp (fun y => by omega) id
        · by_cases z : k = i
          · subst z; exact absurd ⟨hno, hc⟩ q
          · omega
  obtain ⟨v, h1, h2, h3⟩ := key n (Nat.le_refl _)
  exact ⟨v, fun k hk hno => h1 k hk hno (Or.inl hk), h2, fun k hk hf => h3 k hk hf.1 hf.2⟩
theorem asg_e {d : HI} {n : Nat} (hF : WF d n) (σ ι : Nat) : ∃ v, Asg d n v σ ι := by
  obtain ⟨v, h1, h2, h3⟩ := asg_ex hF (fun k => if d 5 k = 2 then fld d σ k else fld d ι k) (fun k hk _ => by
    split
    · exact fld_lt d σ k
    · exact fld_lt d ι k)
  refine ⟨v, h1, h2, fun k hk => ⟨fun e => ?_, fun e => ?_⟩⟩
  · rw [h3 k hk (fre_2 e)]; simp only [if_pos e]
  · rw [h3 k hk (fre_1 e)]; rw [if_neg (by rw [e]; decide)]
/-- values that hang on a state and an input are of their assignment -/
theorem asg_of {d : HI} {n : Nat} (hF : WF d n) {v f : Nat → Nat} {σ ι : Nat} (hV : VR d n v) (hS : Sett d n v) (h : ∀ k, k < n → fre d k → v k = f k) (h2 : ∀ k, k < n → d 5 k = 2 → f k = fld d σ k) (h1 : ∀ k, k < n → d 5 k = 1 → f k = fld d ι k) : Asg d n v σ ι :=
  ⟨hV, hS, fun k hk => ⟨fun e => by rw [h k hk (fre_2 e), h2 k hk e], fun e => by rw [h k hk (fre_1 e), h1 k hk e]⟩⟩
/-! X: the state after -/
def AF (hl : HL) (S σ ι : Nat) : Nat := lvb (fun j => bt (hl 7 (4 * j + ι)) σ) S
theorem AF_lt (hl : HL) (S σ ι : Nat) : AF hl S σ ι < 2 ^ S := lvb_lt _ _
theorem AF_f {d : HI} {n : Nat} {hl : HL} (hL : LAT d n hl) (hF : WF d n) {σ ι : Nat} (hσ : σ < 64) (hι : ι < 4) {v : Nat → Nat} (hA : Asg d n v σ ι) {k : Nat} (hk : k < n) (e : d 5 k = 2) : fld d (AF hl (tot d (nI 2) n) σ ι) k = nx d v n k := by
  have hp := pl_b (d := d) hk
  rw [e] at hp
  have hp' : pl d k + bts (nk d k) ≤ tot d (nI 2) n := hp
  have hx := nx_lt hF hA.1 (Nat.le_refl n) hk (fre_2 e).1
  refine Nat.eq_of_testBit_eq (fun j => ?_)
  unfold fld
  rw [Nat.testBit_mod_two_pow, Nat.testBit_div_two_pow]
  by_cases c : j < bts (nk d k)
  · rw [decide_eq_true c, Bool.true_and, Nat.add_comm j]
    unfold AF
    rw [lvb_tb _ _ _ (by omega)]
    exact hL σ hσ ι hι v hA k hk e j c
  · rw [decide_eq_false c, Bool.false_and]
    exact (Nat.testBit_lt_two_pow (Nat.lt_of_lt_of_le hx (Nat.pow_le_pow_right (by omega) (by omega)))).symm
theorem ix4 (j ι : Nat) : nI j * 4 + nI ι = nI (4 * j + ι) := by
  have e : (4 : Int32) = nI 4 := rfl
  rw [e, pk_mul, nI_add, Nat.mul_comm]
theorem pX_after {hx : HI} {hl : HL} {Φ : Int32 → HI → HL → Prop} (S σ ι : Nat) (hS : S ≤ 6) (h4 : hx 5 4 = nI S) (hσ : σ < 64) (hι : ι < 4) (h : Φ (nI (AF hl S σ ι)) hx hl) : wpB_after (nI σ) (nI ι) hx hl Φ := by
  unfold wpB_after wbB_after_0
  refine loop_f (fun fu j q => wbB_after_5 fu (nI σ) (nI ι) q (nI j) hx hl Φ) (fun j => nI (AF hl j σ ι)) S (fun n => ?_) (fun n j hj ih => ?_)
  · unfold wbB_after_5
    exact br_t (by rw [h4]; exact nI_le (Nat.le_refl _) (by omega)) h
  · unfold wbB_after_5 wbB_after_39
    rw [ix4, nI_clamp (by omega), pX_has _ σ hσ, nI_n1, nI_1]
    have hlt := AF_lt hl j σ ι
    have h64 := p2_64 (show j ≤ 6 by omega)
    refine br_f (by rw [h4]; exact nI_ge hj (by omega)) ⟨vp_in_nI (by omega) (by omega), br_c (fun q => ?_) (fun q => ?_)⟩
    · rw [bI_0] at q
      have e : AF hl (j + 1) σ ι = AF hl j σ ι := by unfold AF; simp only [lvb, q]; simp
      rw [e] at ih; exact ih
    · rw [bI_ne] at q
      have e : AF hl (j + 1) σ ι = AF hl j σ ι + 2 ^ j := by unfold AF; simp only [lvb, q]; simp
      rw [e] at ih
      rw [or_k j (List.mem_range.mpr (by omega)) _ (List.mem_range.mpr (by omega)) hlt]; exact ih
/-! X: a node's value -/
theorem pX_valueAt {d hx : HI} {hl : HL} {Φ : Int32 → HI → HL → Prop} {n : Nat} (hF : WF d n) (hX : RXL d hx n) (hW : WIR d n hl) {σ ι : Nat} (hσ : σ < 64) (hι : ι < 4) {v : Nat → Nat} (hA : Asg d n v σ ι) (k : Nat) (hk : k < n) (hno : nod (d 5 k)) (h : Φ (nI (v k)) hx hl) : wpL_valueAt k (nI σ) (nI ι) hx hl Φ := by
  have hn := hF.1.1
  have hv := hA.1 k hk hno
  have n7 : nk d k ≤ 7 := by
    obtain ⟨s, hs, es, e5, e, _⟩ := nkf hF.1 hk hno
    rcases sc_cases hF.1 hs e5 with ⟨a, b, c, _⟩ | ⟨a, b, c, _⟩ <;> omega
  have hb := bts_7 n7
  have x2 : hx (24 + k) 2 = nI (nk d k) := ((hX.2.2.2.2 k hk).2.2.2.2.1 hno).1
  have hend : lvb (fun j => bt (hl (44 + k) (4 * j + ι)) σ) (bts (nk d k)) = v k := lvb_of hv (fun j hj => hW σ hσ ι hι v hA k hk hno j hj)
  unfold wpL_valueAt wbL_valueAt_0
  refine loop_f (fun fu j q => wbL_valueAt_5 fu k (nI σ) (nI ι) q (nI j) hx hl Φ) (fun j => nI (lvb (fun j => bt (hl (44 + k) (4 * j + ι)) σ) j)) (bts (nk d k)) (fun m => ?_) (fun m j hj ih => ?_)
  · unfold wbL_valueAt_5
    rw [x2, pX_bitsOf _ n7]
    exact br_t (nI_le (Nat.le_refl _) (by omega)) (by rw [hend]; exact h)
  · unfold wbL_valueAt_5 wbL_valueAt_42
    rw [x2, pX_bitsOf _ n7]
    rw [ix4, nI_clamp (by omega), pX_has _ σ hσ, nI_n1, nI_1]
    have hlt := lvb_lt (fun j => bt (hl (44 + k) (4 * j + ι)) σ) j
    have h64 := p2_64 (show j ≤ 6 by omega)
    refine br_f (nI_ge hj (by omega)) ⟨vp_in_nI (by omega) (by omega), br_c (fun q => ?_) (fun q => ?_)⟩
    · rw [bI_0] at q
      have e : lvb (fun j => bt (hl (44 + k) (4 * j + ι)) σ) (j + 1) = lvb (fun j => bt (hl (44 + k) (4 * j + ι)) σ) j := by simp only [lvb, q]; simp
      rw [e] at ih; exact ih
    · rw [bI_ne] at q
      have e : lvb (fun j => bt (hl (44 + k) (4 * j + ι)) σ) (j + 1) = lvb (fun j => bt (hl (44 + k) (4 * j + ι)) σ) j + 2 ^ j := by simp only [lvb, q]; simp
      rw [e] at ih
      rw [or_k j (List.mem_range.mpr (by omega)) _ (List.mem_range.mpr (by omega)) hlt]; exact ih
