/-! M reads the words behind the sort: a list of checks, a word each -/
def lr : List Bool → Nat → Nat
  | [], j => j
  | b :: l, j => if b = true then lr l (j + 1) else j
def Fm (hm hm' : HI) : Prop := (∀ s, s ≠ 5 → s ≠ 20 → hm' 0 s = hm 0 s) ∧ hm' 17 = hm 17 ∧ hm' 19 = hm 19 ∧ hm' 20 = hm 20
theorem Fm_r (hm : HI) : Fm hm hm := ⟨fun _ _ _ => rfl, rfl, rfl, rfl⟩
theorem Fm_t {a b c : HI} (h : Fm a b) (k : Fm b c) : Fm a c := ⟨fun s h1 h2 => (k.1 s h1 h2).trans (h.1 s h1 h2), k.2.1.trans h.2.1, k.2.2.1.trans h.2.2.1, k.2.2.2.trans h.2.2.2⟩
theorem Fm_5 (hm : HI) (x : Int32) : Fm hm (u2 hm 0 5 x) := ⟨fun s h _ => u2_j _ _ _ _ h, u2_cf _ _ _ (by decide), u2_cf _ _ _ (by decide), u2_cf _ _ _ (by decide)⟩
theorem Fm_20 (hm : HI) (x : Int32) : Fm hm (u2 hm 0 20 x) := ⟨fun s _ h => u2_j _ _ _ _ h, u2_cf _ _ _ (by decide), u2_cf _ _ _ (by decide), u2_cf _ _ _ (by decide)⟩
theorem Fm_c (hm : HI) (c k : Nat) (x : Int32) (h1 : 4 ≤ c) (h2 : c ≤ 16) : Fm hm (u2 hm c k x) := ⟨fun s _ _ => u2_c _ _ _ _ (by omega), u2_cf _ _ _ (by omega), u2_cf _ _ _ (by omega), u2_cf _ _ _ (by omega)⟩
theorem Fm_18 (hm : HI) (g : Nat → Int32) : Fm hm (s18 hm g) := ⟨fun s _ _ => by rw [s18_c _ _ (by decide)], s18_c _ _ (by decide), s18_c _ _ (by decide), s18_c _ _ (by decide)⟩
theorem Fm_rd (hm : HI) (ca ct n : Nat) (x t : Int32) (j : Nat) (h1 : 4 ≤ ca) (h2 : ca ≤ 16) (h3 : 4 ≤ ct) (h4 : ct ≤ 16) : Fm hm (rdS hm ca ct n x t j) :=
  Fm_t (Fm_t (Fm_t (Fm_20 _ _) (Fm_c _ _ _ _ h1 h2)) (Fm_c _ _ _ _ h3 h4)) (Fm_5 _ _)
/-- what a reader leaves: the checks L from word j on, all held or the place of the first that did not; the new line's cells f if all held -/
def Po (d : HI) (n w : Nat) (hm : HI) (L : List Bool) (j : Nat) (f : Nat → Int32) (b : Bool) (hm' : HI) : Prop :=
  b = L.all id ∧ hm' 0 5 = nI (lr L j) ∧ RC d hm' n w ∧ Fm hm hm' ∧ (b = true → ∀ c, 4 ≤ c → c ≤ 16 → hm' c n = f c)
theorem Po_f {d : HI} {n w : Nat} {hm hm1 : HI} {L : List Bool} {j : Nat} {f : Nat → Int32} (h1 : RC d hm1 n w) (h2 : Fm hm hm1) (h3 : hm1 0 5 = nI j) : Po d n w hm (false :: L) j f false hm1 :=
  ⟨by simp, by simpa [lr] using h3, h1, h2, fun h => absurd h (by decide)⟩
theorem Po_c {d : HI} {n w : Nat} {hm hm1 hm' : HI} {L : List Bool} {j : Nat} {f : Nat → Int32} {b : Bool} (h2 : Fm hm hm1) (h : Po d n w hm1 L (j + 1) f b hm') : Po d n w hm (true :: L) j f b hm' :=
  ⟨by simpa using h.1, by simpa [lr] using h.2.1, h.2.2.1, Fm_t h2 h.2.2.2.1, h.2.2.2.2⟩
theorem Po_1 {d : HI} {n w : Nat} {hm hm1 : HI} {j : Nat} {f : Nat → Int32} {b : Bool} (h1 : RC d hm1 n w) (h2 : Fm hm hm1) (h3 : hm1 0 5 = nI (if b = true then j + 1 else j)) (h4 : b = true → ∀ c, 4 ≤ c → c ≤ 16 → hm1 c n = f c) : Po d n w hm [b] j f b hm1 :=
  ⟨by cases b <;> rfl, by rw [h3]; cases b <;> rfl, h1, h2, h4⟩
/-- the cells of the new line: two of them set -/
def f2 (f : Nat → Int32) (ca ct : Nat) (x t : Int32) : Nat → Int32 := fun c => if c = ct then t else if c = ca then x else f c
theorem rdS_n (hm : HI) (ca ct n : Nat) (x t : Int32) (j c : Nat) (hc : 4 ≤ c) : rdS hm ca ct n x t j c n = f2 (fun c => hm c n) ca ct x t c := by
  unfold rdS f2
  rw [u2_c _ _ _ _ (by omega)]
  by_cases e : c = ct
  · subst e; rw [u2_s, if_pos rfl]
  · rw [u2_c _ _ _ _ e, if_neg e]
    by_cases e2 : c = ca
    · subst e2; rw [u2_s, if_pos rfl]
    · rw [u2_c _ _ _ _ e2, if_neg e2, u2_c _ _ _ _ (by omega)]
theorem Po_rd {d : HI} {n w : Nat} {hm : HI} {j : Nat} {b : Bool} {x t : Int32} (ca ct : Nat) (h1 : 4 ≤ ca) (h2 : ca ≤ 16) (h3 : 4 ≤ ct) (h4 : ct ≤ 16) (hR : RC d hm n w) : Po d n w hm [b] j (f2 (fun c => hm c n) ca ct x t) b (rdS hm ca ct n x t (if b = true then j + 1 else j)) :=
  Po_1 (RC_rd hR _ _ _ _ _ h1 h3) (Fm_rd _ _ _ _ _ _ _ h1 h2 h3 h4) (rdS_5 _ _ _ _ _ _ _) (fun _ c hc _ => rdS_n _ _ _ _ _ _ _ _ hc)
/-- numbers -/
theorem dg_cases (c : Nat → Int32) (p q : Nat) : dg c p q = -1 ∨ ∃ v, v ≤ 99 ∧ dg c p q = nI v := by
  have one : ∀ x : Int32, 48 ≤ x ∧ x ≤ 57 → ∃ v, v ≤ 9 ∧ x - 48 = nI v := fun x hx => by
    have h0 : ¬ x < 0 := by
      rw [i32_nlt]
      have := hx.1
      rw [Int32.le_iff_toInt_le] at this ⊢
      have e1 : (48 : Int32).toInt = 48 := by decide
      have e2 : (0 : Int32).toInt = 0 := by decide
      omega
    obtain ⟨k, hk, e⟩ := nI_of2 (n := 57) (by decide) h0 hx.2
    have h48 : 48 ≤ k := by
      have := hx.1
      rw [e, show (48 : Int32) = nI 48 from rfl, nI_leI (by omega) (by omega)] at this
      exact this
    exact ⟨k - 48, by omega, by rw [e, show (48 : Int32) = nI 48 from rfl, pk_sub h48]⟩
  unfold dg
  split
  · rename_i h
    obtain ⟨v, hv, e⟩ := one _ h.2
    exact Or.inr ⟨v, by omega, e⟩
  · split
    · rename_i h
      obtain ⟨v, hv, e⟩ := one _ h.2.2.1
      obtain ⟨u, hu, e'⟩ := one _ h.2.2.2
      refine Or.inr ⟨10 * v + u, by omega, ?_⟩
      have : 10 * (c p - 48) + c (p + 1) - 48 = 10 * (c p - 48) + (c (p + 1) - 48) := by
        rw [Int32.sub_eq_add_neg, Int32.add_assoc, ← Int32.sub_eq_add_neg]
      rw [this, e, e', show (10 : Int32) = nI 10 from rfl, pk_mul, nI_add]
    · exact Or.inl rfl
theorem NU_cases (d : HI) (w j : Nat) : NU d w j = -1 ∨ ∃ v, v ≤ 99 ∧ NU d w j = nI v ∧ j < w := by
  unfold NU
  split
  · rename_i h
    rcases dg_cases (d 1) (d 2 j).toNatClampNeg (d 3 j).toNatClampNeg with e | ⟨v, hv, e⟩
    · exact Or.inl e
    · exact Or.inr ⟨v, hv, e, h⟩
  · exact Or.inl rfl
