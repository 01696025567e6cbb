/-! X: a line is taken -/
theorem pX_isFree {hx : HI} {hl : HL} {Φ : Int32 → HI → HL → Prop} (κ : Nat) (hκ : κ ≤ 30) (h : Φ (bI (decide (κ = 1 ∨ κ = 2))) hx hl) : wpK_isFree (nI κ) hx hl Φ := by
  unfold wpK_isFree wbK_isFree_0 wbK_isFree_14
  have hv : vp_in (nI κ) 31 := vp_in_nI (by omega) (by omega)
  refine ⟨hv, vp31 1 (by decide), pk_eq κ 1 (fun q => ⟨i01_1, ?_⟩) (fun q => ⟨hv, vp31 2 (by decide), pk_eq κ 2 (fun q2 => ⟨i01_1, ?_⟩) (fun q2 => ⟨i01_0, ?_⟩)⟩)⟩
  · rw [decide_eq_true (Or.inl q)] at h; exact h
  · rw [decide_eq_true (Or.inr q2)] at h; exact h
  · rw [decide_eq_false (by omega)] at h; exact h
/-- all nodes of the draft are fixed -/
def afx (cnt : Nat) (fx : Nat → Bool) : Bool := (decide (0 < cnt → fx 0 = true)) && (decide (1 < cnt → fx 1 = true)) && (decide (2 < cnt → fx 2 = true))
theorem pB_allFixed {hx : HI} {hl : HL} {Φ : Int32 → HI → HL → Prop} {cnt : Nat} {k : Nat → Nat} {fx : Nat → Bool} (h7 : hx 10 7 = nI cnt) (hc : cnt ≤ 3) (hk : ∀ m, m < cnt → hx 11 m = nI (k m) ∧ k m < 20 ∧ hx (24 + k m) 3 = bI (fx m)) (b : Bool) (hb : b = true ↔ ∀ m, m < cnt → fx m = true) (h : Φ (bI b) hx hl) : wpB_allFixed hx hl Φ := by
  unfold wpB_allFixed wbB_allFixed_0
  refine loop_0 (fun fu i (_ : Unit) => wbB_allFixed_2 fu (nI i) hx hl Φ) (fun i _ => ∀ m, m < i → fx m = true) cnt () (fun m hm => absurd hm (by omega)) (fun n _ hn => ?_) (fun n i _ hi hn ih => ?_)
  · unfold wbB_allFixed_2
    refine br_t (by rw [h7]; exact nI_le (Nat.le_refl _) (by omega)) ⟨i01_1, ?_⟩
    rw [hb.mpr hn] at h; exact h
  · obtain ⟨a1, a2, a3⟩ := hk i hi
    unfold wbB_allFixed_2
    rw [nI_clamp (by omega), a1, nI_clamp (by omega), a3, nI_n1, nI_1]
    refine br_f (by rw [h7]; exact nI_ge hi (by omega)) ⟨vp_in_nI (by omega) (by omega), vp_in_nI (by omega) (by omega), br_c (fun q => ⟨i01_0, ?_⟩) (fun q => ih () (fun m hm => ?_))⟩
    · rw [bI_0] at q
      have : b = false := by
        cases z : b
        · rfl
        · have := hb.mp z i hi; rw [q] at this; exact absurd this (by decide)
      rw [this] at h; exact h
    · rw [bI_ne] at q
      by_cases z : m = i
      · subst z; exact q
      · exact hn m (by omega)
/-- the row of a new line, and the count -/
def rwX (hx : HI) (n κ : Nat) (fb : Bool) : HI := u2 (u2 (u2 (u2 (u2 hx (24 + n) 0 (hx 10 2)) (24 + n) 1 (nI κ)) (24 + n) 2 (hx 10 4)) (24 + n) 3 (bI fb)) 5 2 (nI (n + 1))
theorem sw_k : ∀ κ, κ ∈ List.range 31 → swC κ = (if κ = 0 then 1 else if κ = 1 then 2 else if κ = 2 then 3 else if κ = 27 then 4 else if κ = 28 then 5 else if κ = 29 then 6 else if κ = 30 then 7 else swC κ) ∧ (3 ≤ κ → κ ≤ 26 → ¬ swC κ = 1 ∧ ¬ swC κ = 2 ∧ ¬ swC κ = 3 ∧ ¬ swC κ = 4 ∧ ¬ swC κ = 5 ∧ ¬ swC κ = 6 ∧ ¬ swC κ = 7) := by decide
theorem pB_take {hx : HI} {hl : HL} {Φ : HI → HL → Prop} (n κ cnt hd : Nat) (k : Nat → Nat) (fx : Nat → Bool) (hn : n < 20) (hκ : κ ≤ 30) (h52 : hx 5 2 = nI n) (h55 : hx 5 5 = nI hd) (h3 : hx 10 3 = nI κ) (h7 : hx 10 7 = nI cnt) (hc : cnt ≤ 3) (hk : ∀ m, m < cnt → hx 11 m = nI (k m) ∧ k m < n ∧ hx (24 + k m) 3 = bI (fx m)) (fb : Bool) (hfb : fb = true ↔ (¬ (κ = 1 ∨ κ = 2) ∧ ∀ m, m < cnt → fx m = true))
    (h0 : κ = 0 → Φ (rwX hx n κ fb) hl) (h1 : κ = 1 → wpB_addInput n (rwX hx n κ fb) hl Φ) (h2 : κ = 2 → wpB_addState n (rwX hx n κ fb) hl Φ) (h27 : κ = 27 → wpB_setInit (rwX hx n κ fb) hl Φ) (h28 : κ = 28 → wpB_setNext (rwX hx n κ fb) hl Φ) (h29 : κ = 29 → wpB_addBad (rwX hx n κ fb) hl Φ) (h30 : κ = 30 → wpB_addConstraint (rwX hx n κ fb) hl Φ)
    (hg : 3 ≤ κ → κ ≤ 26 → wpG_build n (u2 (rwX hx n κ fb) 5 5 (nI (hd + (if 12 ≤ κ ∧ κ ≤ 14 then 1 else 0)))) hl Φ) : wpB_take hx hl Φ := by
  have hcn : (nI n).toNatClampNeg = n := nI_clamp (by omega)
  have hck : (nI κ).toNatClampNeg = κ := nI_clamp (by omega)
  have hvk : vp_in (nI κ) 31 := vp_in_nI (by omega) (by omega)
  have ne10 : (10 : Nat) ≠ 24 + n := by omega
  have ne11 : (11 : Nat) ≠ 24 + n := by omega
  have ne5 : (5 : Nat) ≠ 24 + n := by omega
  unfold wpB_take wbB_take_0
  rw [h52, hcn]
  refine br_t (nI_lt (b := 20) hn (by omega)) ⟨vp_in_nI (by omega) (by omega), ?_⟩
  rw [u2_c _ _ _ _ ne10, u2_c _ _ _ _ ne10, u2_c _ _ _ _ ne10, u2_c _ _ _ _ ne10, u2_c _ _ _ _ ne10, h3]
  refine ⟨hvk, ?_⟩
  refine pX_isFree κ hκ ?_
  have ez : ∀ c, c ≠ 24 + n → (u2 (u2 (u2 hx (24 + n) 0 (hx 10 2)) (24 + n) 1 (nI κ)) (24 + n) 2 (hx 10 4)) c = hx c := fun c hcc => by
    rw [u2_cf _ _ _ hcc, u2_cf _ _ _ hcc, u2_cf _ _ _ hcc]
  have r68 : wbB_take_68 n n (bI fb) (u2 (u2 (u2 hx (24 + n) 0 (hx 10 2)) (24 + n) 1 (nI κ)) (24 + n) 2 (hx 10 4)) hl Φ := by
    unfold wbB_take_68
    have e52 : (u2 (u2 (u2 (u2 hx (24 + n) 0 (hx 10 2)) (24 + n) 1 (nI κ)) (24 + n) 2 (hx 10 4)) (24 + n) 3 (bI fb)) 5 2 = nI n := by
      rw [u2_c _ _ _ _ ne5, ez 5 ne5]; exact h52
    rw [e52, nI_1]
    have y3 : (rwX hx n κ fb) 10 3 = nI κ := by
      unfold rwX; rw [u2_c _ _ _ _ (by decide), u2_c _ _ _ _ ne10, ez 10 ne10]; exact h3
    have y5 : (rwX hx n κ fb) 5 5 = nI hd := by
      unfold rwX; rw [u2_j _ _ _ _ (by decide), u2_c _ _ _ _ ne5, ez 5 ne5]; exact h55
    show i01 (bI fb) ∧ vp_in ((rwX hx n κ fb) 10 3) 31 ∧ vp_in ((rwX hx n κ fb) 10 3) 31 ∧ (swC ((rwX hx n κ fb) 10 3).toNatClampNeg = 1 → Φ (rwX hx n κ fb) hl) ∧ (swC ((rwX hx n κ fb) 10 3).toNatClampNeg = 2 → wpB_addInput n (rwX hx n κ fb) hl Φ) ∧ (swC ((rwX hx n κ fb) 10 3).toNatClampNeg = 3 → wpB_addState n (rwX hx n κ fb) hl Φ) ∧ (swC ((rwX hx n κ fb) 10 3).toNatClampNeg = 4 → wpB_setInit (rwX hx n κ fb) hl Φ) ∧ (swC ((rwX hx n κ fb) 10 3).toNatClampNeg = 5 → wpB_setNext (rwX hx n κ fb) hl Φ) ∧ (swC ((rwX hx n κ fb) 10 3).toNatClampNeg = 6 → wpB_addBad (rwX hx n κ fb) hl Φ) ∧ (swC ((rwX hx n κ fb) 10 3).toNatClampNeg = 7 → wpB_addConstraint (rwX hx n κ fb) hl Φ) ∧ (¬ swC ((rwX hx n κ fb) 10 3).toNatClampNeg = 1 → ¬ swC ((rwX hx n κ fb) 10 3).toNatClampNeg = 2 → ¬ swC ((rwX hx n κ fb) 10 3).toNatClampNeg = 3 → ¬ swC ((rwX hx n κ fb) 10 3).toNatClampNeg = 4 → ¬ swC ((rwX hx n κ fb) 10 3).toNatClampNeg = 5 → ¬ swC ((rwX hx n κ fb) 10 3).toNatClampNeg = 6 → ¬ swC ((rwX hx n κ fb) 10 3).toNatClampNeg = 7 → vp_in ((rwX hx n κ fb) 10 3) 31 ∧ wpK_isHard ((rwX hx n κ fb) 10 3) (rwX hx n κ fb) hl (fun r23 hi24 hl25 => (r23 = 0 → wbB_take_207 n ((rwX hx n κ fb) 5 5) 0 hi24 hl25 Φ) ∧ (¬ r23 = 0 → wbB_take_207 n ((rwX hx n κ fb) 5 5) 1 hi24 hl25 Φ)))
    rw [y3, y5, hck]
    have hs := sw_k κ (List.mem_range.mpr (by omega))
    refine ⟨bI_01 _, hvk, hvk, ?_⟩
    by_cases kg : 3 ≤ κ ∧ κ ≤ 26
    · obtain ⟨s1, s2, s3, s4, s5, s6, s7⟩ := hs.2 kg.1 kg.2
      refine ⟨fun q => absurd q s1, fun q => absurd q s2, fun q => absurd q s3, fun q => absurd q s4, fun q => absurd q s5, fun q => absurd q s6, fun q => absurd q s7, fun _ _ _ _ _ _ _ => ⟨hvk, pX_isHard κ hκ ?_⟩⟩
      have hh := hg kg.1 kg.2
      unfold wbB_take_207
      refine br_c (fun q => ?_) (fun q => ?_)
      · rw [bI_0, decide_eq_false_iff_not] at q
        rw [if_neg q, Nat.add_zero] at hh
        have : nI hd + 0 = nI hd := by simp
        rw [this]; exact hh
      · rw [bI_ne, decide_eq_true_eq] at q
        rw [if_pos q] at hh
        rw [nI_1]; exact hh
    · have hc7 : κ = 0 ∨ κ = 1 ∨ κ = 2 ∨ κ = 27 ∨ κ = 28 ∨ κ = 29 ∨ κ = 30 := by omega
      rcases hc7 with rfl | rfl | rfl | rfl | rfl | rfl | rfl
      · have e : swC 0 = 1 := by decide
        rw [e]; simp (decide := true) only [false_implies, true_implies, and_true, true_and, not_true]; exact h0 rfl
      · have e : swC 1 = 2 := by decide
        rw [e]; simp (decide := true) only [false_implies, true_implies, and_true, true_and, not_true, not_false_eq_true]; exact h1 rfl
      · have e : swC 2 = 3 := by decide
        rw [e]; simp (decide := true) only [false_implies, true_implies, and_true, true_and, not_true, not_false_eq_true]; exact h2 rfl
      · have e : swC 27 = 4 := by decide
        rw [e]; simp (decide := true) only [false_implies, true_implies, and_true, true_and, not_true, not_false_eq_true]; exact h27 rfl
      · have e : swC 28 = 5 := by decide
        rw [e]; simp (decide := true) only [false_implies, true_implies, and_true, true_and, not_true, not_false_eq_true]; exact h28 rfl
      · have e : swC 29 = 6 := by decide
        rw [e]; simp (decide := true) only [false_implies, true_implies, and_true, true_and, not_true, not_false_eq_true]; exact h29 rfl
      · have e : swC 30 = 7 := by decide
        rw [e]; simp (decide := true) only [false_implies, true_implies, and_true, true_and, not_true, not_false_eq_true]; exact h30 rfl
  refine br_c (fun q => ?_) (fun q => ?_)
  · rw [bI_0, decide_eq_false_iff_not] at q
    refine pB_allFixed (cnt := cnt) (k := k) (fx := fx) (by rw [ez 10 ne10]; exact h7) hc (fun m hm => ?_) fb ?_ ?_
    · obtain ⟨a1, a2, a3⟩ := hk m hm
      exact ⟨by rw [ez 11 ne11]; exact a1, by omega, by rw [ez (24 + k m) (by omega)]; exact a3⟩
    · rw [hfb]; exact ⟨fun y => y.2, fun y => ⟨q, y⟩⟩
    · refine br_c (fun y => ?_) (fun y => ?_)
      · rw [bI_0] at y
        unfold wbB_take_67
        rw [y] at r68; exact r68
      · rw [bI_ne] at y
        rw [y] at r68; exact r68
  · rw [bI_ne, decide_eq_true_eq] at q
    have : fb = false := by
      cases z : fb
      · rfl
      · exact absurd q (hfb.mp z).1
    unfold wbB_take_67
    rw [this] at r68; exact r68
