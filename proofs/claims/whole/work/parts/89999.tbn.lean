/-! tables with a new line -/
theorem kof {d d' : HI} {n w κ : Nat} (h : NL d d' n w κ) (c : Nat) (hc : c ≤ 30) : (d' 5 n = nI c) ↔ κ = c := by
  have hκ := h.2.2.2.1
  rw [N5 h]; exact nI_eq (by omega) (by omega)
theorem nx_n {d d' : HI} {n w κ : Nat} (h : NL d d' n w κ) (v : Nat → Nat) (k : Nat) : nx d' v (n + 1) k = if κ = 28 ∧ oix d' n 7 = k then gv d' v n 8 else nx d v n k := by
  have e := kof h 28 (by omega)
  simp only [nx, nx_c h.2.2.1 h.2.1 v n (Nat.le_refl _) k]
  by_cases q : κ = 28 ∧ oix d' n 7 = k
  · rw [if_pos q, if_pos ⟨e.mpr q.1, q.2⟩]
  · rw [if_neg q, if_neg (fun y => q ⟨e.mp y.1, y.2⟩)]
theorem ivl_n {d d' : HI} {n w κ : Nat} (h : NL d d' n w κ) (v : Nat → Nat) (k : Nat) : ivl d' v (n + 1) k = if κ = 27 ∧ oix d' n 7 = k then gv d' v n 8 else ivl d v n k := by
  have e := kof h 27 (by omega)
  simp only [ivl, ivl_c h.2.2.1 h.2.1 v n (Nat.le_refl _) k]
  by_cases q : κ = 27 ∧ oix d' n 7 = k
  · rw [if_pos q, if_pos ⟨e.mpr q.1, q.2⟩]
  · rw [if_neg q, if_neg (fun y => q ⟨e.mp y.1, y.2⟩)]
theorem bdd_n {d d' : HI} {n w κ : Nat} (h : NL d d' n w κ) (v : Nat → Nat) : bdd d' v (n + 1) = (bdd d v n || decide (κ = 29 ∧ gv d' v n 7 = 1)) := by
  have e := kof h 29 (by omega)
  simp only [bdd, bdd_c h.2.2.1 h.2.1 v n (Nat.le_refl _)]
  congr 1
  rw [decide_eq_decide]
  exact ⟨fun y => ⟨e.mp y.1, y.2⟩, fun y => ⟨e.mpr y.1, y.2⟩⟩
theorem hld_n {d d' : HI} {n w κ : Nat} (h : NL d d' n w κ) (v : Nat → Nat) : hld d' v (n + 1) = (hld d v n && decide (¬ κ = 30 ∨ gv d' v n 7 = 1)) := by
  have e := kof h 30 (by omega)
  simp only [hld, hld_c h.2.2.1 h.2.1 v n (Nat.le_refl _)]
  congr 1
  rw [decide_eq_decide]
  exact ⟨fun y => y.imp (fun z q => z (e.mpr q)) id, fun y => y.imp (fun z q => z (e.mp q)) id⟩
theorem hsq_n {d d' : HI} {n w κ : Nat} (h : NL d d' n w κ) (c : Nat) (hc : c ≤ 30) (x : Int32) : hsq d' (nI c) x (n + 1) = (hsq d (nI c) x n || decide (κ = c ∧ d' 7 n = x)) := by
  have e := kof h c hc
  simp only [hsq, hsq_c h.2.2.1 _ _ n (Nat.le_refl _)]
  congr 1
  rw [decide_eq_decide]
  exact ⟨fun y => ⟨e.mp y.1, y.2⟩, fun y => ⟨e.mpr y.1, y.2⟩⟩
/-- nobody speaks of a state that is not there yet -/
theorem hsq_new {d : HI} {n : Nat} (hF : WF d n) (c : Nat) (hc : c = 27 ∨ c = 28) {k : Nat} (hk : n ≤ k) (hk2 : k < 21) : hsq d (nI c) (nI k) n = false := by
  have hn := hF.1.1
  cases q : hsq d (nI c) (nI k) n
  · rfl
  · exfalso
    obtain ⟨l, hl, e5, e7⟩ := hsq_t q
    obtain ⟨a, ha, ea, _⟩ := inf hF hl c hc e5
    rw [ea] at e7
    have := (nI_eq (by omega) (by omega)).mp e7
    omega
theorem nx_new {d : HI} {n : Nat} (hF : WF d n) (v : Nat → Nat) {k : Nat} (hk : n ≤ k) : ∀ l, l ≤ n → nx d v l k = v k
  | 0, _ => rfl
  | l + 1, hl => by
    simp only [nx]
    rw [if_neg, nx_new hF v hk l (by omega)]
    intro ⟨e, eo⟩
    obtain ⟨a, ha, _, eo', _⟩ := inf hF (show l < n by omega) 28 (Or.inr rfl) e
    omega
theorem WIR_n {d d' : HI} {n w κ : Nat} (h : NL d d' n w κ) {hl hl' : HL} (hT : WIR d n hl) (w1 : ∀ k, k < n → hl' (44 + k) = hl (44 + k)) (wn : ∀ σ, σ < 64 → ∀ i, i < 4 → ∀ v, Asg d' (n + 1) v σ i → 1 ≤ κ ∧ κ ≤ 26 → ∀ j, j < bts (nk d' n) → bt (hl' (44 + n) (4 * j + i)) σ = (v n).testBit j) : WIR d' (n + 1) hl' := by
  intro σ hσ i hi v hA k hk hno j hj
  have hE := h.2.2.1
  have hF := h.2.1
  by_cases z : k = n
  · subst z
    rw [N5 h] at hno
    exact wn σ hσ i hi v hA ((nod_κ h.2.2.2.1).mp hno) j hj
  · have hk' : k < n := by omega
    rw [hE 5 (by omega) (by omega) k hk'] at hno
    rw [nk_c hE hF.1 hk' hno] at hj
    rw [w1 k hk']
    exact hT σ hσ i hi v (Asg_r hE hF hA) k hk' hno j hj
theorem LAT_d {d d' : HI} {n w κ : Nat} (h : NL d d' n w κ) {hl hl' : HL} (hT : LAT d n hl) (h7 : hl' 7 = hl 7) (h2 : κ ≠ 2) (h28 : κ ≠ 28) : LAT d' (n + 1) hl' := by
  intro σ hσ i hi v hA k hk e2 j hj
  have hE := h.2.2.1
  have hF := h.2.1
  by_cases z : k = n
  · subst z
    exact absurd ((kof h 2 (by omega)).mp e2) h2
  · have hk' : k < n := by omega
    rw [hE 5 (by omega) (by omega) k hk'] at e2
    have hno := (fre_2 e2).1
    rw [nk_c hE hF.1 hk' hno] at hj
    rw [h7, pl_c hE hF.1 hk' hno, nx_n h, if_neg (fun y => h28 y.1)]
    exact hT σ hσ i hi v (Asg_r hE hF hA) k hk' e2 j hj
theorem BDA_d {d d' : HI} {n w κ : Nat} (h : NL d d' n w κ) {hl hl' : HL} (hT : BDA d n hl) (h8 : hl' 8 = hl 8) (h9 : hl' 9 = hl 9) (h29 : κ ≠ 29) (h30 : κ ≠ 30) : BDA d' (n + 1) hl' := by
  intro σ hσ i hi v hA
  have := hT σ hσ i hi v (Asg_r h.2.2.1 h.2.1 hA)
  rw [h8, h9, bdd_n h, hld_n h, this.1, this.2, decide_eq_false (fun y => h29 y.1), decide_eq_true (Or.inl h30)]
  simp
theorem zer_r {d d' : HI} {n : Nat} (hE : EQL d d' n) (hF : WF d n) {v : Nat → Nat} (h1 : VR d' (n + 1) v) (h2 : Sett d' (n + 1) v) (h3 : ∀ k, k < n + 1 → fre d' k → v k = 0) : VR d n v ∧ Sett d n v ∧ ∀ k, k < n → fre d k → v k = 0 := by
  refine ⟨(VR_c hE hF.1).mp (fun k hk hno => h1 k (by omega) hno), Sett_c hE hF (fun k hk hno hc => h2 k (by omega) hno hc), fun k hk hf => h3 k (by omega) ?_⟩
  unfold fre; rw [hE 5 (by omega) (by omega) k hk]; exact hf
theorem INI_d {d d' : HI} {n w κ : Nat} (h : NL d d' n w κ) (hn : n < 20) {hx hx' : HI} (hT : INI d n hx) (h5 : ∀ k, k < n → hx' (24 + k) 5 = hx (24 + k) 5) (h27 : κ ≠ 27) : INI d' (n + 1) hx' := by
  intro k hk e2 hq v h1 h2 h3
  have hE := h.2.2.1
  have hF := h.2.1
  rw [hsq_n h 27 (by omega), decide_eq_false (fun y => h27 y.1), Bool.or_false] at hq
  by_cases z : k = n
  · subst z
    rw [hsq_new hF 27 (Or.inl rfl) (Nat.le_refl _) (by omega)] at hq
    exact absurd hq (by decide)
  · have hk' : k < n := by omega
    rw [hE 5 (by omega) (by omega) k hk'] at e2
    obtain ⟨z1, z2, z3⟩ := zer_r hE hF h1 h2 h3
    rw [h5 k hk', ivl_n h, if_neg (fun y => h27 y.1)]
    exact hT k hk' e2 hq v z1 z2 z3
