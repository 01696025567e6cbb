/-! M: loops over the lines (total, has, fixed) -/
def tot (d : HI) (what : Int32) : Nat → Nat
  | 0 => 0
  | k + 1 => tot d what k + (if d 5 k = what then bts (sc d (d 6 k).toNatClampNeg) else 0)
theorem pM_total {d hm : HI} {n w : Nat} {hl : HL} {Φ : Int32 → HI → HL → Prop} (hW : WL d n) (hR : RC d hm n w) (what : Int32) (hno : nod what) (h : Φ (nI (tot d what n)) hm hl) : wpM_total what hm hl Φ := by
  have hn := hW.1
  unfold wpM_total wbM_total_0
  refine loop_f (fun fu i s => wbM_total_4 fu what s (nI i) hm hl Φ) (fun i => nI (tot d what i)) n (fun k => ?_) (fun k i hk ih => ?_)
  · unfold wbM_total_4
    exact br_t (by rw [hR.1]; exact nI_le (Nat.le_refl _) (by omega)) h
  · unfold wbM_total_4 wbM_total_38
    have hv : vp_in (nI i) 21 := vp_in_nI (by omega) (by omega)
    refine br_f (by rw [hR.1]; exact nI_ge hk (by omega)) ⟨hv, ?_⟩
    simp only [nI_clamp (show i < 2 ^ 31 by omega), nI_n1, nI_1, hR.2.2.2.2.2 5 (by omega) (by omega) i hk, hR.2.2.2.2.2 6 (by omega) (by omega) i hk]
    refine br_c (fun e => ⟨hv, ?_⟩) (fun e => ?_)
    · obtain ⟨s, hs, es, e5⟩ := hW.2.1 i hk (by rw [e]; exact hno)
      rw [es, pM_bits hW hR s hs e5, nI_add]
      have : tot d what (i + 1) = tot d what i + bts (sc d s) := by
        simp only [tot, if_pos e, es, nI_clamp (show s < 2 ^ 31 by omega)]
      rw [← this]; exact ih
    · have : tot d what (i + 1) = tot d what i := by simp only [tot, if_neg e, Nat.add_zero]
      rw [← this]; exact ih
def hsq (d : HI) (what x : Int32) : Nat → Bool
  | 0 => false
  | k + 1 => hsq d what x k || decide (d 5 k = what ∧ d 7 k = x)
theorem pM_has {d hm : HI} {n w : Nat} {hl : HL} {Φ : Int32 → HI → HL → Prop} (hW : WL d n) (hR : RC d hm n w) (what x : Int32) (h : Φ (bI (hsq d what x n)) hm hl) : wpM_has what x hm hl Φ := by
  have hn := hW.1
  unfold wpM_has wbM_has_0
  refine loop_f (fun fu i s => wbM_has_5 fu what x s (nI i) hm hl Φ) (fun i => bI (hsq d what x i)) n (fun k => ?_) (fun k i hk ih => ?_)
  · unfold wbM_has_5
    exact br_t (by rw [hR.1]; exact nI_le (Nat.le_refl _) (by omega)) ⟨bI_01 _, h⟩
  · unfold wbM_has_5 wbM_has_40 wbM_has_44 wbM_has_45
    have hv : vp_in (nI i) 21 := vp_in_nI (by omega) (by omega)
    refine br_f (by rw [hR.1]; exact nI_ge hk (by omega)) ?_
    simp only [nI_clamp (show i < 2 ^ 31 by omega), nI_n1, nI_1, hR.2.2.2.2.2 5 (by omega) (by omega) i hk, hR.2.2.2.2.2 7 (by omega) (by omega) i hk]
    refine br_c (fun e => ⟨hv, ?_⟩) (fun e => ?_)
    · rw [bI_0] at e
      refine br_c (fun e1 => ⟨hv, br_c (fun e2 => ?_) (fun e2 => ?_)⟩) (fun e1 => ?_)
      · have : hsq d what x (i + 1) = true := by simp [hsq, e1, e2]
        rw [this] at ih; exact ih
      · have : hsq d what x (i + 1) = false := by simp [hsq, e, e2]
        rw [this] at ih; exact ih
      · have : hsq d what x (i + 1) = false := by simp [hsq, e, e1]
        rw [this] at ih; exact ih
    · rw [bI_ne] at e
      have : hsq d what x (i + 1) = true := by simp [hsq, e]
      rw [this] at ih; exact ih
/-- the lines that a node's line names come before it -/
def WA (d : HI) (n : Nat) : Prop := ∀ j, j < n → nod (d 5 j) → ∀ c, 7 ≤ c → c ≤ 9 → d c j < 0 ∨ ∃ i, i < j ∧ d c j = nI i
def s18 (hm : HI) (g : Nat → Int32) : HI := fun c k => if c = 18 then g k else hm c k
theorem s18_c (hm : HI) (g : Nat → Int32) {c : Nat} (h : c ≠ 18) : s18 hm g c = hm c := by funext k; simp [s18, h]
theorem s18_18 (hm : HI) (g : Nat → Int32) (k : Nat) : s18 hm g 18 k = g k := by simp [s18]
theorem s18_u (hm : HI) (g : Nat → Int32) (k : Nat) (x : Int32) : u2 (s18 hm g) 18 k x = s18 hm (fun i => if i = k then x else g i) := by
  funext a b
  by_cases e : a = 18
  · subst e; by_cases e2 : b = k <;> simp [u2, s18, e2]
  · simp [u2, s18, e]
theorem s18_s (hm : HI) : s18 hm (hm 18) = hm := by
  funext a b
  by_cases e : a = 18
  · subst e; simp [s18]
  · simp [s18, e]
theorem RC_18 {d hm : HI} {n w : Nat} (h : RC d hm n w) (g : Nat → Int32) : RC d (s18 hm g) n w := by
  obtain ⟨a, b, p, e, f, q⟩ := h
  refine ⟨?_, ?_, ?_, ?_, ?_, fun c hc1 hc2 k hk => ?_⟩
  · rw [s18_c _ _ (by decide)]; exact a
  · rw [s18_c _ _ (by decide)]; exact b
  · rw [s18_c _ _ (by decide)]; exact p
  · rw [s18_c _ _ (by decide)]; exact e
  · rw [s18_c _ _ (by decide)]; exact f
  · rw [s18_c _ _ (by omega)]; exact q c hc1 hc2 k hk
/-- free: an input, a state, or a node with a free one in its line -/
def frs (d : HI) (f : Nat → Bool) (j : Nat) : Bool :=
  decide (d 5 j = 1) || decide (d 5 j = 2) || (decide (¬ d 5 j = 0 ∧ ¬ 27 ≤ d 5 j ∧ ¬ d 5 j = 3) && ((decide (¬ d 7 j < 0) && f (d 7 j).toNatClampNeg) || (decide (¬ d 8 j < 0) && f (d 8 j).toNatClampNeg) || (decide (¬ d 9 j < 0) && f (d 9 j).toNatClampNeg)))
def frv (d : HI) : Nat → Nat → Bool
  | 0 => fun _ => false
  | m + 1 => fun i => if i = m then frs d (frv d m) m else frv d m i
def FR (d : HI) (j : Nat) : Bool := frv d (j + 1) j
theorem frv_lt (d : HI) : ∀ {m i : Nat}, i < m → frv d m i = FR d i
  | 0, i, h => absurd h (by omega)
  | m + 1, i, h => by
    by_cases e : i = m
    · subst e; rfl
    · have := frv_lt d (m := m) (i := i) (by omega)
      simp only [frv, if_neg e]; exact this
theorem FR_eq {d : HI} {n : Nat} (hn : n ≤ 20) (hA : WA d n) {j : Nat} (hj : j < n) : FR d j = frs d (FR d) j := by
  have e : FR d j = frs d (frv d j) j := by simp [FR, frv]
  rw [e]
  unfold frs
  by_cases q : ¬ d 5 j = 0 ∧ ¬ 27 ≤ d 5 j
  · have k : ∀ c, 7 ≤ c → c ≤ 9 → (decide (¬ d c j < 0) && frv d j (d c j).toNatClampNeg) = (decide (¬ d c j < 0) && FR d (d c j).toNatClampNeg) := fun c h1 h2 => by
      rcases hA j hj q c h1 h2 with z | ⟨i, hi, z⟩
      · simp [z]
      · rw [z, nI_clamp (by omega), frv_lt d hi]
    rw [k 7 (by omega) (by omega), k 8 (by omega) (by omega), k 9 (by omega) (by omega)]
  · have : decide (¬ d 5 j = 0 ∧ ¬ 27 ≤ d 5 j ∧ ¬ d 5 j = 3) = false := decide_eq_false (fun z => q ⟨z.1, z.2.1⟩)
    rw [this]; simp
theorem pM_seenFree {hm : HI} {hl : HL} {Φ : Int32 → HI → HL → Prop} (i : Nat) (hi : i < 21) (b : Bool) (e : hm 18 i = bI b) : wpM_seenFree (nI i) hm hl Φ = Φ (bI b) hm hl := by
  unfold wpM_seenFree wbM_seenFree_0
  have hv : vp_in (nI i) 21 := vp_in_nI (by omega) (by omega)
  rw [nI_clamp (by omega), e]
  cases b <;> simp [hv, bI, i01]
theorem pM_fixed {d hm : HI} {n w : Nat} {hl : HL} {Φ : Int32 → HI → HL → Prop} (hW : WL d n) (hA : WA d n) (hR : RC d hm n w) (k : Nat) (hk : k < n) (hno : nod (d 5 k)) (h : ∀ g, Φ (bI (! FR d k)) (s18 hm g) hl) : wpM_fixed (nI k) hm hl Φ := by
  have hn := hW.1
  unfold wpM_fixed wbM_fixed_0
  refine ⟨vp_in_nI (by omega) (by omega), ?_⟩
  rw [nI_clamp (by omega), hR.2.2.2.2.2 5 (by omega) (by omega) k hk]
  refine br_c (fun e => ⟨i01_1, ?_⟩) (fun e => ?_)
  · have := h (hm 18)
    rw [s18_s] at this
    have f : FR d k = false := by rw [FR_eq hn hA hk]; simp [frs, e]
    rw [f] at this; exact this
  · have key := loop_0 (fun fu i (s : Int32 × HI) => wbM_fixed_16 fu (nI k) s.1 (nI i) s.2 hl Φ) (fun i s => ∃ g, s.2 = s18 hm g ∧ (∀ a, a < i → g a = bI (FR d a)) ∧ s.1 = (if k < i then bI (! FR d k) else 1)) (k + 1) (1, hm) ⟨hm 18, (s18_s hm).symm, fun a ha => absurd ha (by omega), by simp⟩ ?_ ?_
    · exact key
    · intro m s ⟨g, e1, e2, e3⟩
      unfold wbM_fixed_16
      rw [e3, if_pos (by omega), e1]
      exact br_t (nI_lt (by omega) (by omega)) ⟨bI_01 _, h g⟩
    · intro m i s hi ⟨g, e1, e2, e3⟩ ih
      have hin : i < n := by omega
      rw [if_neg (by omega)] at e3
      have hRg := RC_18 hR g
      have r5 := hRg.2.2.2.2.2 5 (by omega) (by omega) i hin
      have hv : vp_in (nI i) 21 := vp_in_nI (by omega) (by omega)
      have hc : (nI i).toNatClampNeg = i := nI_clamp (by omega)
      have fe := FR_eq hn hA hin
      -- the end of a round: what is free is written down
      have fin : ∀ b : Bool, b = FR d i → wbM_fixed_159 (fun v1 v2 v3 hi hl => wbM_fixed_16 m v1 v2 v3 hi hl Φ) (nI k) 1 (nI i) (bI b) (s18 hm g) hl Φ := fun b hb => by
        have up : ∃ g', u2 (s18 hm g) 18 i (bI b) = s18 hm g' ∧ ∀ a, a < i + 1 → g' a = bI (FR d a) := by
          refine ⟨_, s18_u _ _ _ _, fun a ha => ?_⟩
          by_cases q : a = i
          · subst q; simp [hb]
          · simp [q]; exact e2 a (by omega)
        obtain ⟨g', u1, u2'⟩ := up
        unfold wbM_fixed_159 wbM_fixed_176 wbM_fixed_196
        rw [nI_n1, nI_1, hc]
        have fin2 : (vp_in (nI i) 21 ∧ (nI i = nI k → (bI b = 0 → wbM_fixed_16 m (nI k) 1 (nI (i + 1)) (u2 (s18 hm g) 18 i (bI b)) hl Φ) ∧ (¬ bI b = 0 → wbM_fixed_16 m (nI k) 0 (nI (i + 1)) (u2 (s18 hm g) 18 i (bI b)) hl Φ)) ∧ (¬ nI i = nI k → wbM_fixed_16 m (nI k) 1 (nI (i + 1)) (u2 (s18 hm g) 18 i (bI b)) hl Φ)) := by
          rw [u1]
          refine ⟨hv, pk_eq i k (fun q => br_c (fun z => ?_) (fun z => ?_)) (fun q => ?_)⟩
          · rw [bI_0] at z
            refine ih (1, s18 hm g') ⟨g', rfl, u2', ?_⟩
            subst q
            rw [if_pos (by omega), ← hb, z]; rfl
          · rw [bI_ne] at z
            refine ih (0, s18 hm g') ⟨g', rfl, u2', ?_⟩
            subst q
            rw [if_pos (by omega), ← hb, z]; rfl
          · exact ih (1, s18 hm g') ⟨g', rfl, u2', by rw [if_neg (by omega)]⟩
        cases b
        · exact br_t rfl fin2
        · exact br_f (by decide) fin2
      unfold wbM_fixed_16
      rw [e1, e3, hc, r5]
      refine br_f (nI_nlt (by omega) (by omega)) ⟨hv, ?_⟩
      -- the links
      have lk : ∀ c, 7 ≤ c → c ≤ 9 → nod (d 5 i) → s18 hm g c i = d c i ∧ (d c i < 0 ∨ ∃ a, a < i ∧ d c i = nI a ∧ ¬ d c i < 0 ∧ (d c i).toNatClampNeg = a ∧ s18 hm g 18 a = bI (FR d a)) := fun c h1 h2 hz => by
        refine ⟨hRg.2.2.2.2.2 c (by omega) (by omega) i hin, ?_⟩
        rcases hA i hin hz c h1 h2 with z | ⟨a, ha, z⟩
        · exact Or.inl z
        · exact Or.inr ⟨a, ha, z, by rw [z]; exact nI_pos (by omega), by rw [z, nI_clamp (by omega)], by rw [s18_18]; exact e2 a ha⟩
      have is1 : (d 5 i = 1 ∨ d 5 i = 2) → wbM_fixed_41 (fun v1 v2 v3 hi hl => wbM_fixed_16 m v1 v2 v3 hi hl Φ) (nI k) 1 (nI i) (s18 hm g) hl Φ := fun q => by
        unfold wbM_fixed_41 wbM_fixed_46
        refine pM_isNode (nI i) (Or.inr ⟨i, by omega, rfl⟩) ?_
        rw [hc, r5]
        have f : FR d i = true := by rw [fe]; rcases q with q | q <;> simp [frs, q]
        have : wbM_fixed_75 (fun v1 v2 v3 hi hl => wbM_fixed_16 m v1 v2 v3 hi hl Φ) (nI k) 1 (nI i) 1 (s18 hm g) hl Φ := by
          unfold wbM_fixed_75 wbM_fixed_76 wbM_fixed_154
          exact br_f (by decide) (fin true f.symm)
        exact br_c (fun _ => this) (fun _ => ⟨hv, br_c (fun _ => this) (fun _ => br_f (by decide) this)⟩)
      refine br_c (fun q => is1 (Or.inl q)) (fun q1 => ⟨hv, br_c (fun q => is1 (Or.inr q)) (fun q2 => ?_)⟩)
      unfold wbM_fixed_46
      refine pM_isNode (nI i) (Or.inr ⟨i, by omega, rfl⟩) ?_
      rw [hc, r5]
      have p0 : (0 : Int32) ≤ nI i := nI_pos' (by omega)
      have k75 : FR d i = false → wbM_fixed_75 (fun v1 v2 v3 hi hl => wbM_fixed_16 m v1 v2 v3 hi hl Φ) (nI k) 1 (nI i) 0 (s18 hm g) hl Φ := fun f => by
        unfold wbM_fixed_75 wbM_fixed_76 wbM_fixed_158
        exact br_t rfl (br_t rfl (fin false f.symm))
      refine br_c (fun q => k75 ?_) (fun q => ⟨hv, br_c (fun q3 => k75 ?_) (fun q3 => br_t rfl ?_)⟩)
      · rw [bI_0, decide_eq_false_iff_not] at q
        rw [fe]
        have : decide (¬ d 5 i = 0 ∧ ¬ 27 ≤ d 5 i ∧ ¬ d 5 i = 3) = false := decide_eq_false (fun z => q ⟨p0, z.1, z.2.1⟩)
        simp only [frs, q1, q2, this]; simp
      · rw [fe]; simp [frs, q3]
      · rw [bI_ne, decide_eq_true_eq] at q
        have hz : nod (d 5 i) := ⟨q.2.1, q.2.2⟩
        have dd : decide (¬ d 5 i = 0 ∧ ¬ 27 ≤ d 5 i ∧ ¬ d 5 i = 3) = true := decide_eq_true ⟨q.2.1, q.2.2, q3⟩
        have fe' : FR d i = ((decide (¬ d 7 i < 0) && FR d (d 7 i).toNatClampNeg) || (decide (¬ d 8 i < 0) && FR d (d 8 i).toNatClampNeg) || (decide (¬ d 9 i < 0) && FR d (d 9 i).toNatClampNeg)) := by
          rw [fe]; simp only [frs, q1, q2, dd]; simp
        have k154 : FR d i = true → wbM_fixed_154 (fun v1 v2 v3 hi hl => wbM_fixed_16 m v1 v2 v3 hi hl Φ) (nI k) 1 (nI i) (s18 hm g) hl Φ := fun f => by
          unfold wbM_fixed_154; exact fin true f.symm
        have k158 : FR d i = false → wbM_fixed_158 (fun v1 v2 v3 hi hl => wbM_fixed_16 m v1 v2 v3 hi hl Φ) (nI k) 1 (nI i) (s18 hm g) hl Φ := fun f => by
          unfold wbM_fixed_158; exact fin false f.symm
        have k132 : ((decide (¬ d 7 i < 0) && FR d (d 7 i).toNatClampNeg) = false ∧ (decide (¬ d 8 i < 0) && FR d (d 8 i).toNatClampNeg) = false) → wbM_fixed_132 (fun v1 v2 v3 hi hl => wbM_fixed_16 m v1 v2 v3 hi hl Φ) (nI k) 1 (nI i) (s18 hm g) hl Φ := fun f => by
          unfold wbM_fixed_132
          rw [f.1, f.2] at fe'
          obtain ⟨l1, l2⟩ := lk 9 (by omega) (by omega) hz
          rw [hc, l1]
          refine ⟨hv, ?_⟩
          rcases l2 with z | ⟨a, ha, z1, z2, z3, z4⟩
          · exact br_t z (k158 (by rw [fe']; simp [z]))
          · refine br_f z2 ⟨hv, ?_⟩
            rw [z1, pM_seenFree a (by omega) _ z4]
            rw [z3] at fe'
            refine br_c (fun y => k158 ?_) (fun y => k154 ?_)
            · rw [bI_0] at y; rw [fe', y]; simp
            · rw [bI_ne] at y; rw [fe', y]; simp [z2]
        have k110 : (decide (¬ d 7 i < 0) && FR d (d 7 i).toNatClampNeg) = false → wbM_fixed_110 (fun v1 v2 v3 hi hl => wbM_fixed_16 m v1 v2 v3 hi hl Φ) (nI k) 1 (nI i) (s18 hm g) hl Φ := fun f => by
          unfold wbM_fixed_110
          obtain ⟨l1, l2⟩ := lk 8 (by omega) (by omega) hz
          rw [hc, l1]
          refine ⟨hv, ?_⟩
          rcases l2 with z | ⟨a, ha, z1, z2, z3, z4⟩
          · exact br_t z (k132 ⟨f, by simp [z]⟩)
          · refine br_f z2 ⟨hv, ?_⟩
            rw [z1, pM_seenFree a (by omega) _ z4]
            refine br_c (fun y => k132 ⟨f, ?_⟩) (fun y => k154 ?_)
            · rw [bI_0] at y; rw [z3, y]; simp
            · rw [bI_ne] at y; rw [fe', f, z3, y]; simp [z2]
        unfold wbM_fixed_76
        refine br_t rfl (br_f (by decide) ⟨hv, ?_⟩)
        obtain ⟨l1, l2⟩ := lk 7 (by omega) (by omega) hz
        rw [hc, l1]
        rcases l2 with z | ⟨a, ha, z1, z2, z3, z4⟩
        · exact br_t z (k110 (by simp [z]))
        · refine br_f z2 ⟨hv, ?_⟩
          rw [z1, pM_seenFree a (by omega) _ z4]
          refine br_c (fun y => k110 ?_) (fun y => k154 ?_)
          · rw [bI_0] at y; rw [z3, y]; simp
          · rw [bI_ne] at y; rw [fe', z3, y]; simp [z2]
