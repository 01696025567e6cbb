/-! the search, as of a small system of states and inputs -/
abbrev Sy := (Nat → Nat → Bool) × (Nat → Nat → Bool) × (Nat → Nat → Nat) × (Nat → Nat) × Nat
abbrev yO (y : Sy) := y.1
abbrev yB (y : Sy) := y.2.1
abbrev yA (y : Sy) := y.2.2.1
abbrev yN (y : Sy) := y.2.2.2.1
abbrev yI (y : Sy) := y.2.2.2.2
def nr (y : Sy) : Nat → Nat → Prop
  | 0, σ => ∃ ι, ι < 2 ^ yI y ∧ yO y σ ι = true ∧ yB y σ ι = true
  | r + 1, σ => ∃ ι, ι < 2 ^ yI y ∧ yO y σ ι = true ∧ yB y σ ι = false ∧ nr y r (yA y σ ι)
def ldx (y : Sy) : Nat → Nat → Nat → Prop
  | 0, σ, ι => yO y σ ι = true ∧ yB y σ ι = true
  | r + 1, σ, ι => yO y σ ι = true ∧ yB y σ ι = false ∧ nr y r (yA y σ ι)
theorem nr_ld (y : Sy) (r σ : Nat) : nr y r σ ↔ ∃ ι, ι < 2 ^ yI y ∧ ldx y r σ ι := by cases r <;> exact Iff.rfl
def dgt (I V r : Nat) : Nat := V / 2 ^ (r * I) % 2 ^ I
theorem dgt_lt (I V r : Nat) : dgt I V r < 2 ^ I := Nat.mod_lt _ (Nat.two_pow_pos _)
def yi (y : Sy) (V r : Nat) : Nat := yN y (dgt (yI y) V r)
def MT (y : Sy) : Nat → Nat → Nat → Prop
  | 0, σ, V => yO y σ (yi y V 0) = true ∧ yB y σ (yi y V 0) = true
  | r + 1, σ, V => yO y σ (yi y V (r + 1)) = true ∧ MT y r (yA y σ (yi y V (r + 1))) V
def PT (y : Sy) : Nat → Nat → Nat → Prop
  | 0, σ, V => yO y σ (yi y V 0) = true ∧ yB y σ (yi y V 0) = true
  | r + 1, σ, V => yO y σ (yi y V (r + 1)) = true ∧ yB y σ (yi y V (r + 1)) = false ∧ PT y r (yA y σ (yi y V (r + 1))) V
def LT (y : Sy) : Nat → Nat → Nat → Prop
  | 0, σ, V => ldx y 0 σ (yi y V 0) ∧ ∀ m, m < dgt (yI y) V 0 → ¬ ldx y 0 σ (yN y m)
  | r + 1, σ, V => ldx y (r + 1) σ (yi y V (r + 1)) ∧ (∀ m, m < dgt (yI y) V (r + 1) → ¬ ldx y (r + 1) σ (yN y m)) ∧ LT y r (yA y σ (yi y V (r + 1))) V
/-- the inputs' numbers are those of the inputs -/
def yok (y : Sy) : Prop := (∀ m, m < 2 ^ yI y → yN y m < 2 ^ yI y) ∧ ∀ ι, ι < 2 ^ yI y → ∃ m, m < 2 ^ yI y ∧ yN y m = ι
theorem yi_lt {y : Sy} (h : yok y) (V r : Nat) : yi y V r < 2 ^ yI y := h.1 _ (dgt_lt _ _ _)
theorem PT_nr {y : Sy} (h : yok y) : ∀ {r σ V : Nat}, PT y r σ V → nr y r σ
  | 0, σ, V, hp => ⟨_, yi_lt h V 0, hp⟩
  | r + 1, σ, V, hp => ⟨_, yi_lt h V (r + 1), hp.1, hp.2.1, PT_nr h hp.2.2⟩
theorem PT_ld {y : Sy} (h : yok y) : ∀ {r σ V : Nat}, PT y r σ V → ldx y r σ (yi y V r)
  | 0, _, _, hp => hp
  | r + 1, _, _, hp => ⟨hp.1, hp.2.1, PT_nr h hp.2.2⟩
theorem PT_MT {y : Sy} : ∀ {r σ V : Nat}, PT y r σ V → MT y r σ V
  | 0, _, _, hp => hp
  | r + 1, _, _, hp => ⟨hp.1, PT_MT hp.2.2⟩
theorem MT_PT {y : Sy} (h : yok y) : ∀ {r σ V : Nat}, MT y r σ V → PT y r σ V ∨ ∃ q, q < r ∧ nr y q σ
  | 0, _, _, hp => Or.inl hp
  | r + 1, σ, V, hp => by
    cases b : yB y σ (yi y V (r + 1))
    · rcases MT_PT h hp.2 with z | ⟨q, hq, z⟩
      · exact Or.inl ⟨hp.1, b, z⟩
      · exact Or.inr ⟨q + 1, by omega, _, yi_lt h V (r + 1), hp.1, b, z⟩
    · exact Or.inr ⟨0, by omega, _, yi_lt h V (r + 1), hp.1, b⟩
theorem LT_PT {y : Sy} : ∀ {r σ V : Nat}, LT y r σ V → PT y r σ V
  | 0, _, _, hp => hp.1
  | r + 1, _, _, hp => ⟨hp.1.1, hp.1.2.1, LT_PT hp.2.2⟩
theorem yi_cg {y : Sy} {V W r : Nat} (h : dgt (yI y) V r = dgt (yI y) W r) : yi y V r = yi y W r := by unfold yi; rw [h]
theorem LT_cg {y : Sy} : ∀ {r σ V W : Nat}, (∀ j, j ≤ r → dgt (yI y) V j = dgt (yI y) W j) → LT y r σ V → LT y r σ W
  | 0, σ, V, W, hc, hp => by
    have e := hc 0 (Nat.le_refl _)
    unfold LT at hp ⊢
    rw [← yi_cg e, ← e]; exact hp
  | r + 1, σ, V, W, hc, hp => by
    have e := hc (r + 1) (Nat.le_refl _)
    unfold LT at hp ⊢
    rw [← yi_cg e, ← e]; exact ⟨hp.1, hp.2.1, LT_cg (fun j hj => hc j (by omega)) hp.2.2⟩
theorem dgt_top {I q x n r : Nat} (hq : q = r * I) (hx : x < 2 ^ q) (hn : n < 2 ^ I) : dgt I (x + n * 2 ^ q) r = n := by
  subst hq
  unfold dgt
  rw [Nat.add_mul_div_right _ _ (Nat.two_pow_pos _), Nat.div_eq_of_lt hx, Nat.zero_add, Nat.mod_eq_of_lt hn]
theorem mulI {j r I : Nat} (h : j < r) : j * I + I ≤ r * I := by
  have : (j + 1) * I ≤ r * I := Nat.mul_le_mul_right _ h
  rw [Nat.add_mul, Nat.one_mul] at this; exact this
theorem dgt_low {I x n r j : Nat} (h : j < r) : dgt I (x + n * 2 ^ (r * I)) j = dgt I x j := by
  unfold dgt
  exact fa (mulI h)
theorem up_lt {I x n r : Nat} (hx : x < 2 ^ (r * I)) (hn : n < 2 ^ I) : x + n * 2 ^ (r * I) < 2 ^ ((r + 1) * I) := by
  have : (n + 1) * 2 ^ (r * I) ≤ 2 ^ I * 2 ^ (r * I) := Nat.mul_le_mul_right _ hn
  rw [Nat.add_mul, Nat.one_mul, ← Nat.pow_add, Nat.add_comm I] at this
  have e : (r + 1) * I = r * I + I := by rw [Nat.add_mul, Nat.one_mul]
  rw [e]; omega
theorem LT_ex {y : Sy} (h : yok y) : ∀ {r σ : Nat}, nr y r σ → ∃ x, x < 2 ^ ((r + 1) * yI y) ∧ LT y r σ x
  | 0, σ, hn => by
    obtain ⟨ι, hι, hl⟩ := (nr_ld y 0 σ).mp hn
    obtain ⟨m0, hm0, e0⟩ := h.2 ι hι
    obtain ⟨m, hm, hmin⟩ := pk_least (fun m => ldx y 0 σ (yN y m)) ⟨m0, by rw [e0]; exact hl⟩
    have hlt : m < 2 ^ yI y := by
      by_cases c : m ≤ m0
      · omega
      · exact absurd (by rw [e0]; exact hl) (hmin m0 (by omega))
    have ed : dgt (yI y) m 0 = m := by unfold dgt; rw [Nat.zero_mul, Nat.pow_zero, Nat.div_one, Nat.mod_eq_of_lt hlt]
    refine ⟨m, by rw [Nat.zero_add, Nat.one_mul]; exact hlt, ?_⟩
    unfold LT yi
    rw [ed]; exact ⟨hm, hmin⟩
  | r + 1, σ, hn => by
    obtain ⟨ι, hι, hl⟩ := (nr_ld y (r + 1) σ).mp hn
    obtain ⟨m0, hm0, e0⟩ := h.2 ι hι
    obtain ⟨m, hm, hmin⟩ := pk_least (fun m => ldx y (r + 1) σ (yN y m)) ⟨m0, by rw [e0]; exact hl⟩
    have hlt : m < 2 ^ yI y := by
      by_cases c : m ≤ m0
      · omega
      · exact absurd (by rw [e0]; exact hl) (hmin m0 (by omega))
    obtain ⟨x, hx, hL⟩ := LT_ex h hm.2.2
    refine ⟨x + m * 2 ^ ((r + 1) * yI y), up_lt hx hlt, ?_⟩
    have ed : dgt (yI y) (x + m * 2 ^ ((r + 1) * yI y)) (r + 1) = m := dgt_top rfl hx hlt
    unfold LT yi
    rw [ed]
    exact ⟨hm, hmin, LT_cg (fun j hj => (dgt_low (by omega)).symm) hL⟩
theorem mod_up (I V r : Nat) : V % 2 ^ ((r + 1) * I) = V % 2 ^ (r * I) + dgt I V r * 2 ^ (r * I) := by
  have e : (r + 1) * I = r * I + I := by rw [Nat.add_mul, Nat.one_mul]
  rw [e, Nat.pow_add, Nat.mod_mul, Nat.mul_comm (2 ^ (r * I))]; rfl
theorem lex_le {a b x z q : Nat} (hx : x < q) (h : a < b) : x + a * q ≤ z + b * q := by
  have : (a + 1) * q ≤ b * q := Nat.mul_le_mul_right _ h
  rw [Nat.add_mul, Nat.one_mul] at this
  omega
theorem LT_min {y : Sy} (h : yok y) : ∀ {r σ V W : Nat}, LT y r σ V → PT y r σ W → V % 2 ^ ((r + 1) * yI y) ≤ W % 2 ^ ((r + 1) * yI y)
  | 0, σ, V, W, hl, hp => by
    rw [mod_up, mod_up _ W]
    have nlt : ¬ dgt (yI y) W 0 < dgt (yI y) V 0 := fun z => hl.2 _ z (PT_ld h hp)
    rw [Nat.zero_mul, Nat.pow_zero, Nat.mod_one, Nat.mod_one]
    omega
  | r + 1, σ, V, W, hl, hp => by
    have nlt : ¬ dgt (yI y) W (r + 1) < dgt (yI y) V (r + 1) := fun z => hl.2.1 _ z (PT_ld h hp)
    rw [mod_up, mod_up _ W]
    by_cases e : dgt (yI y) V (r + 1) = dgt (yI y) W (r + 1)
    · have hp2 := hp.2.2
      rw [← yi_cg e] at hp2
      have ih := LT_min h hl.2.2 hp2
      rw [e]; omega
    · exact lex_le (Nat.mod_lt _ (Nat.two_pow_pos _)) (by omega)
/-- the number that the class keeps is the least one that leads -/
theorem find_core {y : Sy} (h : yok y) {D cb c x : Nat} {st key : Nat → Nat} (hc : c < 2 ^ cb) (hmono : ∀ a b, a < b → b < 2 ^ cb → key (st a) < key (st b)) (hless : ∀ q, q < D → ∀ a, a < 2 ^ cb → ¬ nr y q (st a)) (hmin : ∀ a, a < 2 ^ cb → nr y D (st a) → key (st c) ≤ key (st a))
    (hx : x < 2 ^ ((D + 1) * yI y)) (hL : LT y D (st c) x) : MT y D (st ((x + c * 2 ^ ((D + 1) * yI y)) / 2 ^ ((D + 1) * yI y))) (x + c * 2 ^ ((D + 1) * yI y)) ∧ ∀ W, W < x + c * 2 ^ ((D + 1) * yI y) → ¬ MT y D (st (W / 2 ^ ((D + 1) * yI y))) W := by
  have e1 : (x + c * 2 ^ ((D + 1) * yI y)) / 2 ^ ((D + 1) * yI y) = c := by
    rw [Nat.add_mul_div_right _ _ (Nat.two_pow_pos _), Nat.div_eq_of_lt hx, Nat.zero_add]
  have hLV : LT y D (st c) (x + c * 2 ^ ((D + 1) * yI y)) := LT_cg (fun j hj => (dgt_low (by omega)).symm) hL
  refine ⟨by rw [e1]; exact PT_MT (LT_PT hLV), fun W hW hM => ?_⟩
  have hWc : W / 2 ^ ((D + 1) * yI y) ≤ c := by
    rw [← e1]; exact Nat.div_le_div_right (by omega)
  have hPT : PT y D (st (W / 2 ^ ((D + 1) * yI y))) W := by
    rcases MT_PT h hM with z | ⟨q, hq, z⟩
    · exact z
    · exact absurd z (hless q hq _ (by omega))
  by_cases e : W / 2 ^ ((D + 1) * yI y) = c
  · rw [e] at hPT
    have := LT_min h hLV hPT
    rw [Nat.add_mul_mod_self_right, Nat.mod_eq_of_lt hx] at this
    have hd := Nat.mod_add_div W (2 ^ ((D + 1) * yI y))
    rw [e, Nat.mul_comm (2 ^ ((D + 1) * yI y)) c] at hd
    omega
  · have a := hmono _ c (show W / 2 ^ ((D + 1) * yI y) < c by omega) hc
    have b := hmin _ (by omega) (PT_nr h hPT)
    omega
/-- none leads -/
theorem find_none {y : Sy} (h : yok y) {D cb : Nat} {st : Nat → Nat} (hless : ∀ q, q ≤ D → ∀ a, a < 2 ^ cb → ¬ nr y q (st a)) (W : Nat) (hW : W < 2 ^ (cb + (D + 1) * yI y)) : ¬ MT y D (st (W / 2 ^ ((D + 1) * yI y))) W := fun hM => by
  have hc : W / 2 ^ ((D + 1) * yI y) < 2 ^ cb := by
    rw [Nat.div_lt_iff_lt_mul (Nat.two_pow_pos _), ← Nat.pow_add]; exact hW
  rcases MT_PT h hM with z | ⟨q, hq, z⟩
  · exact hless D (Nat.le_refl _) _ hc (PT_nr h z)
  · exact hless q (by omega) _ hc z
/-! stretches -/
def SM (y : Sy) : Nat → (Nat → Prop) → Nat → Nat → Prop
  | 0, seen, σ, V => ¬ seen σ ∧ yO y σ (yi y V 0) = true ∧ yB y σ (yi y V 0) = true
  | r + 1, seen, σ, V => ¬ seen σ ∧ yO y σ (yi y V (r + 1)) = true ∧ yB y σ (yi y V (r + 1)) = false ∧ SM y r (fun τ => seen τ ∨ τ = σ) (yA y σ (yi y V (r + 1))) V
def SX (y : Sy) : Nat → (Nat → Prop) → Nat → Prop
  | 0, _, _ => True
  | r + 1, seen, σ => ∃ ι, ι < 2 ^ yI y ∧ ldx y (r + 1) σ ι ∧ ¬ (seen (yA y σ ι) ∨ yA y σ ι = σ) ∧ SX y r (fun τ => seen τ ∨ τ = σ) (yA y σ ι)
theorem SM_PT {y : Sy} : ∀ {r σ V : Nat} {seen : Nat → Prop}, SM y r seen σ V → PT y r σ V
  | 0, _, _, _, hp => hp.2
  | r + 1, _, _, _, hp => ⟨hp.2.1, hp.2.2.1, SM_PT hp.2.2.2⟩
theorem SM_n {y : Sy} : ∀ {r σ V : Nat} {seen : Nat → Prop}, SM y r seen σ V → ¬ seen σ
  | 0, _, _, _, hp => hp.1
  | r + 1, _, _, _, hp => hp.1
theorem SM_cg {y : Sy} : ∀ {r σ V W : Nat} {seen : Nat → Prop}, (∀ j, j ≤ r → dgt (yI y) V j = dgt (yI y) W j) → SM y r seen σ V → SM y r seen σ W
  | 0, σ, V, W, seen, hc, hp => by
    have e := hc 0 (Nat.le_refl _)
    unfold SM at hp ⊢
    rw [← yi_cg e]; exact hp
  | r + 1, σ, V, W, seen, hc, hp => by
    have e := hc (r + 1) (Nat.le_refl _)
    unfold SM at hp ⊢
    rw [← yi_cg e]; exact ⟨hp.1, hp.2.1, hp.2.2.1, SM_cg (fun j hj => hc j (by omega)) hp.2.2.2⟩
theorem SM_SX {y : Sy} (h : yok y) : ∀ {r σ V : Nat} {seen : Nat → Prop}, SM y r seen σ V → SX y r seen σ
  | 0, _, _, _, _ => trivial
  | r + 1, σ, V, seen, hp => ⟨_, yi_lt h V (r + 1), PT_ld h (SM_PT hp), SM_n hp.2.2.2, SM_SX h hp.2.2.2⟩
theorem SX_SM {y : Sy} (h : yok y) : ∀ {r σ : Nat} {seen : Nat → Prop}, nr y r σ → ¬ seen σ → SX y r seen σ → ∃ x, x < 2 ^ ((r + 1) * yI y) ∧ SM y r seen σ x
  | 0, σ, seen, hn, hs, _ => by
    obtain ⟨ι, hι, hl⟩ := (nr_ld y 0 σ).mp hn
    obtain ⟨m, hm, e0⟩ := h.2 ι hι
    have ed : dgt (yI y) m 0 = m := by unfold dgt; rw [Nat.zero_mul, Nat.pow_zero, Nat.div_one, Nat.mod_eq_of_lt hm]
    refine ⟨m, by rw [Nat.zero_add, Nat.one_mul]; exact hm, ?_⟩
    unfold SM yi
    rw [ed, e0]; exact ⟨hs, hl⟩
  | r + 1, σ, seen, hn, hs, ⟨ι, hι, hl, hns, hx⟩ => by
    obtain ⟨m, hm, e0⟩ := h.2 ι hι
    obtain ⟨x, hx', hL⟩ := SX_SM h (seen := fun τ => seen τ ∨ τ = σ) hl.2.2 hns hx
    refine ⟨x + m * 2 ^ ((r + 1) * yI y), up_lt hx' hm, ?_⟩
    have ed : dgt (yI y) (x + m * 2 ^ ((r + 1) * yI y)) (r + 1) = m := dgt_top rfl hx' hm
    unfold SM yi
    rw [ed, e0]
    exact ⟨hs, hl.1, hl.2.1, SM_cg (fun j hj => (dgt_low (by omega)).symm) hL⟩
