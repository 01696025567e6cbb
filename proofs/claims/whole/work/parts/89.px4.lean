/-! X: the words of a line, one letter of the form a word -/
def FX (hx hx' : HI) : Prop := ∀ c, (c < 10 ∨ 12 < c) → hx' c = hx c
theorem FX_r (hx : HI) : FX hx hx := fun _ _ => rfl
theorem FX_t {a b c : HI} (h : FX a b) (k : FX b c) : FX a c := fun x hx => (k x hx).trans (h x hx)
theorem FX_u (hx : HI) (c k : Nat) (x : Int32) (h1 : 10 ≤ c) (h2 : c ≤ 12) : FX hx (u2 hx c k x) := fun a ha => u2_cf _ _ _ (by omega)
theorem FX_nd (hx : HI) (cnt : Nat) (x t : Int32) (c : Nat) : FX hx (ndX hx cnt x t c) :=
  FX_t (FX_t (FX_t (FX_u _ 11 _ _ (by omega) (by omega)) (FX_u _ 12 _ _ (by omega) (by omega))) (FX_u _ 10 _ _ (by omega) (by omega))) (FX_u _ 10 _ _ (by omega) (by omega))
def nmX (hx : HI) (x : Int32) : HI := u2 (u2 hx 10 10 (hx 10 9)) 10 9 x
theorem FX_nm (hx : HI) (x : Int32) : FX hx (nmX hx x) := FX_t (FX_u _ 10 _ _ (by omega) (by omega)) (FX_u _ 10 _ _ (by omega) (by omega))
theorem RX_nm {d hx : HI} {n w : Nat} (h : RX d hx n w) (x : Int32) : RX d (nmX hx x) n w := RX_u (RX_u h 10 _ _ (by omega) (by omega)) 10 _ _ (by omega) (by omega)
/-- a step: the check b of word j; the state behind it -/
def StepX (d : HI) (n w : Nat) (hl : HL) (ℓ : Int32) (j : Nat) (hx : HI) (b : Bool) (hx1 : HI) : Prop :=
  ∀ Ψ : Int32 → HI → HL → Prop, (b = false → ∀ hx', RX d hx' n w → FX hx hx' → Ψ 0 hx' hl) → (b = true → Ψ 1 hx1 hl) → wpD_fits ℓ (nI j) hx hl Ψ
def PX (d : HI) (n w : Nat) (hx : HI) (L : List Bool) (z : HI) (r : Int32) (hx' : HI) : Prop :=
  RX d hx' n w ∧ FX hx hx' ∧ ((L.all id = false ∧ r = nI (lr L 2)) ∨ (L.all id = true ∧ hx' = z ∧ r = if w ≤ 2 + L.length then -1 else nI (2 + L.length)))
theorem lr_at : ∀ (L : List Bool) (j i : Nat), (∀ a, a < i → L.getD a false = true) → i < L.length → L.getD i false = false → lr L j = j + i ∧ L.all id = false
  | [], j, i, _, h, _ => absurd h (by simp)
  | b :: L, j, 0, _, _, h2 => by
    have : b = false := by simpa using h2
    subst this; simp [lr]
  | b :: L, j, i + 1, h, h1, h2 => by
    have hb : b = true := by have := h 0 (by omega); simpa using this
    subst hb
    have := lr_at L (j + 1) i (fun a ha => by have := h (a + 1) (by omega); simpa using this) (by simpa using h1) (by simpa using h2)
    refine ⟨?_, ?_⟩
    · simp only [lr, if_true]; rw [this.1]; omega
    · simpa using this.2
theorem all_of : ∀ (L : List Bool), (∀ a, a < L.length → L.getD a false = true) → L.all id = true
  | [], _ => rfl
  | b :: L, h => by
    have hb : b = true := by have := h 0 (by simp); simpa using this
    subst hb
    have := all_of L (fun a ha => by have := h (a + 1) (by simpa using ha); simpa using this)
    simpa using this
theorem pX_runX {d : HI} {n w : Nat} {hl : HL} {Φ : Int32 → HI → HL → Prop} (hw : w ≤ 20) (κ : Nat) (hκ : κ ≤ 30) (L : List Bool) (S : Nat → HI) (hL : L.length = slenN (31 + κ)) (hL4 : L.length ≤ 4)
    (hs : ∀ i, i < L.length → (∀ a, a < i → L.getD a false = true) → StepX d n w hl (scharC (31 + κ) i) (i + 2) (S i) (L.getD i false) (S (i + 1)))
    (hS : ∀ i, i ≤ L.length → RX d (S i) n w ∧ FX (S 0) (S i) ∧ S i 10 3 = nI κ)
    (h : ∀ r hx', PX d n w (S 0) L (S L.length) r hx' → Φ r hx' hl) : ∃ fu, wbD_firstFault_89 fu 0 (S 0) hl Φ := by
  have hv : vp_in (nI κ) 31 := vp_in_nI (by omega) (by omega)
  have hc : (nI κ).toNatClampNeg = κ := nI_clamp (by omega)
  refine loop_0 (fun fu i (s : HI) => wbD_firstFault_89 fu (nI i) s hl Φ) (fun i s => s = S i ∧ ∀ a, a < i → L.getD a false = true) (slenN (31 + κ)) (S 0) ⟨rfl, fun a ha => absurd ha (by omega)⟩ (fun k s hk => ?_) (fun k i s hi hk ih => ?_)
  · obtain ⟨e, ht⟩ := hk
    subst e
    rw [← hL] at ht ⊢
    obtain ⟨r1, r2, r3⟩ := hS L.length (Nat.le_refl _)
    unfold wbD_firstFault_89
    rw [r3, hc]
    unfold slenC
    refine ⟨hv, by omega, br_t (nI_le (by omega) (by omega)) ⟨hv, by omega, ?_⟩⟩
    unfold wpD_faultOfLength wbD_faultOfLength_0
    have e2 : (2 : Int32) + nI (slenN (31 + κ)) = nI (2 + L.length) := by rw [hL]; exact nI_add 2 _
    rw [r1.2.1, e2]
    have hp : ∀ r, r = (if w ≤ 2 + L.length then -1 else nI (2 + L.length)) → Φ r (S L.length) hl := fun r hr => h r _ ⟨r1, r2, Or.inr ⟨all_of L ht, rfl, hr⟩⟩
    refine pk_le w (2 + L.length) (fun q => hp _ (by rw [if_pos q])) (fun q => hp _ (by rw [if_neg (by omega)]))
  · obtain ⟨e, ht⟩ := hk
    subst e
    obtain ⟨r1, r2, r3⟩ := hS i (by omega)
    have hst := hs i (by omega) ht
    unfold wbD_firstFault_89
    rw [r3, hc]
    unfold slenC
    have e2 : nI i + 2 = nI (i + 2) := nI_add i 2
    refine ⟨hv, by omega, br_f (nI_ge hi (by omega)) ⟨hv, by omega, vp_in_nI hi (by omega), ?_⟩⟩
    rw [nI_clamp (by omega), e2, nI_n1, nI_1]
    refine hst _ (fun q hx' q1 q2 => br_t rfl ?_) (fun q => br_f (by decide) (ih _ ⟨rfl, fun a ha => ?_⟩))
    · obtain ⟨l1, l2⟩ := lr_at L 2 i ht (by omega) q
      refine h _ _ ⟨q1, FX_t r2 q2, Or.inl ⟨l2, ?_⟩⟩
      rw [l1]; congr 1; omega
    · by_cases z : a = i
      · subst z; exact q
      · exact ht a (by omega)
/-! the steps -/
theorem stS {d hx : HI} {n w : Nat} {hl : HL} (hT : TXw d w) (hW : WL d n) (hI : WI d n) (hR : RX d hx n w) (ℓ : Int32) (P : Prop) (dp : Decidable P)
    (hℓ : (ℓ = 66 ∧ (0 ≤ SW d n w 2 → (P ↔ sc d (SW d n w 2).toNatClampNeg ≤ 4))) ∨ (ℓ = 73 ∧ (0 ≤ SW d n w 2 → (P ↔ sc d (SW d n w 2).toNatClampNeg ≤ 4 ∧ tot d (nI 1) n + bts (sc d (SW d n w 2).toNatClampNeg) ≤ 2))) ∨ (ℓ = 79 ∧ (0 ≤ SW d n w 2 → (P ↔ sc d (SW d n w 2).toNatClampNeg = 1))) ∨ (ℓ = 83 ∧ (0 ≤ SW d n w 2 → (P ↔ True))) ∨ (ℓ = 84 ∧ (0 ≤ SW d n w 2 → (P ↔ tot d (nI 2) n + bts (sc d (SW d n w 2).toNatClampNeg) ≤ 6))) ∨ (ℓ = 89 ∧ (0 ≤ SW d n w 2 → (P ↔ ¬ sc d (SW d n w 2).toNatClampNeg ≤ 4))))
    (b : Bool) (hb : b = (decide (0 ≤ SW d n w 2) && decide P)) : StepX d n w hl ℓ 2 hx b (u2 hx 10 4 (scX d n w 2)) := by
  intro Ψ h0 h1
  have key : wpD_sortFits ℓ (nI 2) hx hl (fun r1 hi2 hl3 => i01 r1 ∧ Ψ r1 hi2 hl3) := by
    refine pX_sortFits hT hW hI hR ℓ 2 (by omega) P dp hℓ ?_
    rw [← hb]
    cases b
    · exact ⟨i01_0, h0 rfl _ (RX_u hR 10 _ _ (by omega) (by omega)) (FX_u _ 10 _ _ (by omega) (by omega))⟩
    · exact ⟨i01_1, h1 rfl⟩
  unfold wpD_fits wbD_fits_0
  rcases hℓ with ⟨e, _⟩ | ⟨e, _⟩ | ⟨e, _⟩ | ⟨e, _⟩ | ⟨e, _⟩ | ⟨e, _⟩ <;> subst e <;> simp (decide := true) only [false_implies, true_implies, and_true, true_and, not_true, not_false_eq_true] <;> exact key
theorem stN {d hx : HI} {n w : Nat} {hl : HL} (hT : TXw d w) (hR : RX d hx n w) (ℓ : Int32) (j : Nat) (hj : j < 99) (S last : Nat) (hS : hx 10 4 = nI S) (hS3 : 1 ≤ S ∧ S ≤ 3) (hl8 : ℓ = 85 ∨ ℓ = 78 → hx 10 8 = nI last)
    (b : Bool) (hb : (ℓ = 86 ∧ b = decide (0 ≤ NU d w j ∧ NU d w j < nI (2 ^ S))) ∨ (ℓ = 85 ∧ b = decide (0 ≤ NU d w j ∧ NU d w j < nI last)) ∨ (ℓ = 76 ∧ b = decide (0 ≤ NU d w j ∧ hx 10 9 - NU d w j + 1 = nI S)) ∨ (ℓ = 78 ∧ b = decide (0 ≤ NU d w j ∧ nI last + NU d w j = nI S))) : StepX d n w hl ℓ j hx b (nmX hx (NU d w j)) := by
  intro Ψ h0 h1
  have hRn := RX_nm hR (NU d w j)
  have y0 : b = false → i01 0 ∧ Ψ 0 (nmX hx (NU d w j)) hl := fun q => ⟨i01_0, h0 q _ hRn (FX_nm _ _)⟩
  have y1 : b = true → i01 1 ∧ Ψ 1 (nmX hx (NU d w j)) hl := fun q => ⟨i01_1, h1 q⟩
  have y0' : b = false → i01 0 ∧ i01 0 ∧ Ψ 0 (nmX hx (NU d w j)) hl := fun q => ⟨i01_0, y0 q⟩
  have y1' : b = true → i01 1 ∧ i01 1 ∧ Ψ 1 (nmX hx (NU d w j)) hl := fun q => ⟨i01_1, y1 q⟩
  have e4 : nmX hx (NU d w j) 10 4 = nI S := by unfold nmX; simp (decide := true) only [u2_j]; exact hS
  have e9 : nmX hx (NU d w j) 10 9 = NU d w j := by unfold nmX; rw [u2_s]
  have e10 : nmX hx (NU d w j) 10 10 = hx 10 9 := by unfold nmX; simp (decide := true) only [u2_j, u2_s]
  have e8 : nmX hx (NU d w j) 10 8 = hx 10 8 := by unfold nmX; simp (decide := true) only [u2_j]
  have key : wpD_numberFits ℓ (nI j) hx hl (fun r1 hi2 hl3 => i01 r1 ∧ Ψ r1 hi2 hl3) := by
    unfold wpD_numberFits wbD_numberFits_0
    refine pX_number hT (RX_u hR 10 _ _ (by omega) (by omega)) j 0 (by omega) (by omega) ?_
    rw [NS_0]
    show (nmX hx (NU d w j) 10 9 = -1 → i01 0 ∧ i01 0 ∧ Ψ 0 (nmX hx (NU d w j)) hl) ∧ _
    rw [e9]
    refine br_c (fun q => y0' ?_) (fun q => ?_)
    · have : ¬ 0 ≤ NU d w j := by rw [q]; decide
      rcases hb with ⟨_, e⟩ | ⟨_, e⟩ | ⟨_, e⟩ | ⟨_, e⟩ <;> rw [e] <;> exact decide_eq_false (fun y => this y.1)
    · have hp : 0 ≤ NU d w j := by
        rcases NU_cases d w j with e | ⟨v, hv, e, _⟩
        · exact absurd e q
        · rw [e]; exact nI_pos' (by omega)
      rcases hb with ⟨eℓ, e⟩ | ⟨eℓ, e⟩ | ⟨eℓ, e⟩ | ⟨eℓ, e⟩ <;> subst eℓ <;> simp (decide := true) only [false_implies, true_implies, and_true, true_and, not_true, not_false_eq_true]
      · show ((1 : Int32) <<< (nmX hx (NU d w j) 10 4 &&& 31) ≤ nmX hx (NU d w j) 10 9 → i01 0 ∧ i01 0 ∧ Ψ 0 (nmX hx (NU d w j)) hl) ∧ (¬ (1 : Int32) <<< (nmX hx (NU d w j) 10 4 &&& 31) ≤ nmX hx (NU d w j) 10 9 → i01 1 ∧ i01 1 ∧ Ψ 1 (nmX hx (NU d w j)) hl)
        rw [e4, e9, sh_w S hS3.1 hS3.2]
        refine br_c (fun z => y0' ?_) (fun z => y1' ?_)
        · rw [e]; refine decide_eq_false (fun y => ?_); have := y.2; rw [← i32_nle] at this; exact this z
        · rw [e]; rw [i32_nle] at z; exact decide_eq_true ⟨hp, z⟩
      · show (nmX hx (NU d w j) 10 8 ≤ nmX hx (NU d w j) 10 9 → i01 0 ∧ i01 0 ∧ Ψ 0 (nmX hx (NU d w j)) hl) ∧ (¬ nmX hx (NU d w j) 10 8 ≤ nmX hx (NU d w j) 10 9 → i01 1 ∧ i01 1 ∧ Ψ 1 (nmX hx (NU d w j)) hl)
        rw [e8, e9, hl8 (Or.inl rfl)]
        refine br_c (fun z => y0' ?_) (fun z => y1' ?_)
        · rw [e]; refine decide_eq_false (fun y => ?_); have := y.2; rw [← i32_nle] at this; exact this z
        · rw [e]; rw [i32_nle] at z; exact decide_eq_true ⟨hp, z⟩
      · show (nmX hx (NU d w j) 10 10 - nmX hx (NU d w j) 10 9 + 1 = nmX hx (NU d w j) 10 4 → i01 1 ∧ i01 1 ∧ Ψ 1 (nmX hx (NU d w j)) hl) ∧ (¬ nmX hx (NU d w j) 10 10 - nmX hx (NU d w j) 10 9 + 1 = nmX hx (NU d w j) 10 4 → i01 0 ∧ i01 0 ∧ Ψ 0 (nmX hx (NU d w j)) hl)
        rw [e10, e9, e4]
        refine br_c (fun z => y1' ?_) (fun z => y0' ?_)
        · rw [e]; exact decide_eq_true ⟨hp, z⟩
        · rw [e]; exact decide_eq_false (fun y => z y.2)
      · show (nmX hx (NU d w j) 10 8 + nmX hx (NU d w j) 10 9 = nmX hx (NU d w j) 10 4 → i01 1 ∧ i01 1 ∧ Ψ 1 (nmX hx (NU d w j)) hl) ∧ (¬ nmX hx (NU d w j) 10 8 + nmX hx (NU d w j) 10 9 = nmX hx (NU d w j) 10 4 → i01 0 ∧ i01 0 ∧ Ψ 0 (nmX hx (NU d w j)) hl)
        rw [e8, e9, e4, hl8 (Or.inr rfl)]
        refine br_c (fun z => y1' ?_) (fun z => y0' ?_)
        · rw [e]; exact decide_eq_true ⟨hp, z⟩
        · rw [e]; exact decide_eq_false (fun y => z y.2)
  unfold wpD_fits wbD_fits_0
  rcases hb with ⟨e, _⟩ | ⟨e, _⟩ | ⟨e, _⟩ | ⟨e, _⟩ <;> subst e <;> simp (decide := true) only [false_implies, true_implies, and_true, true_and, not_true, not_false_eq_true] <;> exact key
