/-! the class's tables against the lines -/
def pl (d : HI) (k : Nat) : Nat := tot d (d 5 k) k
def fld (d : HI) (y k : Nat) : Nat := y / 2 ^ pl d k % 2 ^ bts (nk d k)
def Agr (d : HI) (n : Nat) (v : Nat → Nat) (σ ι : Nat) : Prop := ∀ k, k < n → (d 5 k = 2 → v k = fld d σ k) ∧ (d 5 k = 1 → v k = fld d ι k)
def Asg (d : HI) (n : Nat) (v : Nat → Nat) (σ ι : Nat) : Prop := VR d n v ∧ Sett d n v ∧ Agr d n v σ ι
def WIR (d : HI) (n : Nat) (hl : HL) : Prop := ∀ σ, σ < 64 → ∀ i, i < 4 → ∀ v, Asg d n v σ i → ∀ k, k < n → nod (d 5 k) → ∀ j, j < bts (nk d k) → bt (hl (44 + k) (4 * j + i)) σ = (v k).testBit j
def LAT (d : HI) (n : Nat) (hl : HL) : Prop := ∀ σ, σ < 64 → ∀ i, i < 4 → ∀ v, Asg d n v σ i → ∀ k, k < n → d 5 k = 2 → ∀ j, j < bts (nk d k) → bt (hl 7 (4 * (pl d k + j) + i)) σ = (nx d v n k).testBit j
def BDA (d : HI) (n : Nat) (hl : HL) : Prop := ∀ σ, σ < 64 → ∀ i, i < 4 → ∀ v, Asg d n v σ i → bt (hl 8 i) σ = bdd d v n ∧ bt (hl 9 i) σ = hld d v n
def INI (d : HI) (n : Nat) (hx : HI) : Prop := ∀ k, k < n → d 5 k = 2 → hsq d (nI 27) (nI k) n = true → ∀ v, VR d n v → Sett d n v → (∀ k, k < n → fre d k → v k = 0) → hx (24 + k) 5 = nI (ivl d v n k)
def PLC (d : HI) (n : Nat) (hx : HI) : Prop := (∀ k, k < n → (d 5 k = 1 ∨ d 5 k = 2) → hx (24 + k) 4 = nI (pl d k)) ∧ (∀ k, n ≤ k → k < 20 → hx (24 + k) 5 = -1 ∧ hx (24 + k) 6 = 0) ∧ tot d (nI 1) n ≤ 2 ∧ tot d (nI 2) n ≤ 6
def TBL (d : HI) (n : Nat) (hx : HI) (hl : HL) : Prop := WIR d n hl ∧ LAT d n hl ∧ BDA d n hl ∧ INI d n hx ∧ PLC d n hx
theorem tot_m {d : HI} {what : Int32} : ∀ {a b : Nat}, a ≤ b → tot d what a ≤ tot d what b
  | a, 0, h => by have : a = 0 := by omega
                  subst this; exact Nat.le_refl _
  | a, b + 1, h => by
    by_cases e : a = b + 1
    · subst e; exact Nat.le_refl _
    · have := tot_m (d := d) (what := what) (show a ≤ b by omega)
      simp only [tot]; omega
theorem tot_s {d : HI} {what : Int32} {k : Nat} (h : d 5 k = what) : tot d what (k + 1) = tot d what k + bts (nk d k) := by
  simp only [tot, if_pos h, nk]
theorem pl_b {d : HI} {n k : Nat} (hk : k < n) : pl d k + bts (nk d k) ≤ tot d (d 5 k) n := by
  have := tot_s (d := d) (k := k) rfl
  have := tot_m (d := d) (what := d 5 k) (show k + 1 ≤ n by omega)
  unfold pl; omega
theorem pl_c {d d' : HI} {n : Nat} (h : EQL d d' n) (hW : WL d n) {k : Nat} (hk : k < n) (hno : nod (d 5 k)) : pl d' k = pl d k := by
  unfold pl; rw [h 5 (by omega) (by omega) k hk, tot_c h hW _ hno k (by omega)]
theorem fld_c {d d' : HI} {n : Nat} (h : EQL d d' n) (hW : WL d n) (y : Nat) {k : Nat} (hk : k < n) (hno : nod (d 5 k)) : fld d' y k = fld d y k := by
  unfold fld; rw [pl_c h hW hk hno, nk_c h hW hk hno]
theorem Asg_r {d d' : HI} {n : Nat} (h : EQL d d' n) (hF : WF d n) {v : Nat → Nat} {σ ι : Nat} (hA : Asg d' (n + 1) v σ ι) : Asg d n v σ ι := by
  obtain ⟨h1, h2, h3⟩ := hA
  have hW := hF.1
  refine ⟨(VR_c h hW).mp (fun k hk hno => h1 k (by omega) hno), Sett_c h hF (fun k hk hno hc => h2 k (by omega) hno hc), fun k hk => ⟨fun e => ?_, fun e => ?_⟩⟩
  · have := (h3 k (by omega)).1 (by rw [h 5 (by omega) (by omega) k hk]; exact e)
    rw [this, fld_c h hW σ hk (fre_2 e).1]
  · have := (h3 k (by omega)).2 (by rw [h 5 (by omega) (by omega) k hk]; exact e)
    rw [this, fld_c h hW ι hk (fre_1 e).1]
theorem nx_c {d d' : HI} {n : Nat} (h : EQL d d' n) (hF : WF d n) (v : Nat → Nat) : ∀ l, l ≤ n → ∀ k, nx d' v l k = nx d v l k
  | 0, _, k => rfl
  | l + 1, hl, k => by
    simp only [nx, nx_c h hF v l (by omega) k, h 5 (by omega) (by omega) l (by omega), oix_c h (show l < n by omega) (show 4 ≤ 7 by omega) (by omega)]
    by_cases q : d 5 l = 28 ∧ oix d l 7 = k
    · rw [if_pos q, if_pos q]
      obtain ⟨a, _, _, _, _, _, ho, _⟩ := inf hF (show l < n by omega) 28 (Or.inr rfl) q.1
      exact gv_c h hF.1 (show l < n by omega) (by omega) (by omega) ho v
    · rw [if_neg q, if_neg q]
theorem ivl_c {d d' : HI} {n : Nat} (h : EQL d d' n) (hF : WF d n) (v : Nat → Nat) : ∀ l, l ≤ n → ∀ k, ivl d' v l k = ivl d v l k
  | 0, _, k => rfl
  | l + 1, hl, k => by
    simp only [ivl, ivl_c h hF v l (by omega) k, h 5 (by omega) (by omega) l (by omega), oix_c h (show l < n by omega) (show 4 ≤ 7 by omega) (by omega)]
    by_cases q : d 5 l = 27 ∧ oix d l 7 = k
    · rw [if_pos q, if_pos q]
      obtain ⟨a, _, _, _, _, _, ho, _⟩ := inf hF (show l < n by omega) 27 (Or.inl rfl) q.1
      exact gv_c h hF.1 (show l < n by omega) (by omega) (by omega) ho v
    · rw [if_neg q, if_neg q]
theorem bdd_c {d d' : HI} {n : Nat} (h : EQL d d' n) (hF : WF d n) (v : Nat → Nat) : ∀ l, l ≤ n → bdd d' v l = bdd d v l
  | 0, _ => rfl
  | l + 1, hl => by
    simp only [bdd, bdd_c h hF v l (by omega), h 5 (by omega) (by omega) l (by omega)]
    by_cases q : d 5 l = 29
    · have ho := (op29 hF (show l < n by omega) 29 (Or.inl rfl) q).1
      rw [gv_c h hF.1 (show l < n by omega) (by omega) (by omega) ho v]
    · simp [q]
theorem hld_c {d d' : HI} {n : Nat} (h : EQL d d' n) (hF : WF d n) (v : Nat → Nat) : ∀ l, l ≤ n → hld d' v l = hld d v l
  | 0, _ => rfl
  | l + 1, hl => by
    simp only [hld, hld_c h hF v l (by omega), h 5 (by omega) (by omega) l (by omega)]
    by_cases q : d 5 l = 30
    · have ho := (op29 hF (show l < n by omega) 30 (Or.inr rfl) q).1
      rw [gv_c h hF.1 (show l < n by omega) (by omega) (by omega) ho v]
    · simp [q]
theorem lvb_not {x w : Nat} (hx : x < 2 ^ w) : lvb (fun j => ! x.testBit j) w = 2 ^ w - 1 - x := by
  refine lvb_of (by have := Nat.two_pow_pos w; omega) (fun j hj => ?_)
  have e : 2 ^ w - 1 - x = 2 ^ w - (x + 1) := by omega
  rw [e, Nat.testBit_two_pow_sub_succ hx j]; simp [hj]
/-- the lanes of a node in the draft, as a number, are its value -/
theorem lwv_gv {d : HI} {n : Nat} {hl : HL} (hW : WIR d n hl) {σ i : Nat} (hσ : σ < 64) (hi : i < 4) {v : Nat → Nat} (hA : Asg d n v σ i) {cnt : Nat} {k s : Nat → Nat} {t : Nat → Bool} {m : Nat} (hm : m < cnt) (hk : k m < n) (hno : nod (d 5 (k m))) (hs : s m = nk d (k m)) (ht : t m = true → nk d (k m) ≤ 4) : lwv hl cnt k s t i σ m = if t m = true then 2 ^ nk d (k m) - 1 - v (k m) else v (k m) := by
  have hv := hA.1 (k m) hk hno
  have en : nn cnt s m = nk d (k m) := by unfold nn; rw [if_pos hm, hs]
  unfold lwv
  rw [en]
  cases q : t m
  · rw [if_neg (by decide)]
    refine lvb_of hv (fun j hj => ?_)
    unfold wir; rw [q, if_neg (by decide)]
    exact hW σ hσ i hi v hA (k m) hk hno j hj
  · rw [if_pos rfl]
    have hb : bts (nk d (k m)) = nk d (k m) := bts_b (ht q)
    rw [hb] at hv ⊢
    rw [← lvb_not hv]
    refine lvb_congr (fun j hj => ?_)
    unfold wir; rw [q, if_pos rfl, bt_not hσ, hW σ hσ i hi v hA (k m) hk hno j (by omega)]
