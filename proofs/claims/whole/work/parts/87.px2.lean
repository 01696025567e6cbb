/-! a word is one of the known texts: X compares characters, M numbers of letters -/
def isW (d : HI) (w j v : Nat) : Prop := j < w ∧ (d 3 j).toNatClampNeg - (d 2 j).toNatClampNeg = slenN v ∧ ∀ p, p < slenN v → d 1 ((d 2 j).toNatClampNeg + p) = scharC v p
noncomputable def isB (d : HI) (w j v : Nat) : Bool := @decide (isW d w j v) (Classical.propDecidable _)
def Kv (v : Nat) : Int64 := lN (en (scharC v) 0 (slenN v))
def goodT (v : Nat) : Prop := slenN v ≤ 10 ∧ 1 ≤ slenN v ∧ lets (scharC v) 0 (slenN v)
theorem lN_inj {a b : Nat} (ha : a < 2 ^ 63) (hb : b < 2 ^ 63) (h : lN a = lN b) : a = b := by
  have h1 := congrArg (fun x : Int64 => x.toBitVec.toNat) h
  have e : ∀ n : Nat, n < 2 ^ 63 → (lN n).toBitVec.toNat = n := fun n hn => by
    show n % 2 ^ 64 = n
    omega
  simp only [e a ha, e b hb] at h1
  exact h1
theorem en_inj {c c' : Nat → Int32} {p p' : Nat} : ∀ {m m' : Nat}, lets c p m → lets c' p' m' → en c p m = en c' p' m' → m = m' ∧ ∀ i, i < m → c (p + i) = c' (p' + i)
  | 0, 0, _, _, _ => ⟨rfl, fun i h => absurd h (by omega)⟩
  | 0, m' + 1, _, h', e => by
    obtain ⟨k, k1, k2, ek⟩ := let_n (lets_s.mp h').2
    simp only [en, ek, nI_clamp (show k < 2 ^ 31 by omega)] at e
    omega
  | m + 1, 0, h, _, e => by
    obtain ⟨k, k1, k2, ek⟩ := let_n (lets_s.mp h).2
    simp only [en, ek, nI_clamp (show k < 2 ^ 31 by omega)] at e
    omega
  | m + 1, m' + 1, h, h', e => by
    obtain ⟨k, k1, k2, ek⟩ := let_n (lets_s.mp h).2
    obtain ⟨l, l1, l2, el⟩ := let_n (lets_s.mp h').2
    simp only [en, ek, el, nI_clamp (show k < 2 ^ 31 by omega), nI_clamp (show l < 2 ^ 31 by omega)] at e
    have ih := en_inj (lets_s.mp h).1 (lets_s.mp h').1 (show en c p m = en c' p' m' by omega)
    have kl : k = l := by omega
    refine ⟨by omega, fun i hi => ?_⟩
    by_cases z : i = m
    · subst z
      have : m' = i := by omega
      subst this
      rw [ek, el, kl]
    · exact ih.2 i (by omega)
theorem en_congr {c c' : Nat → Int32} {p p' : Nat} : ∀ {m : Nat}, (∀ i, i < m → c (p + i) = c' (p' + i)) → en c p m = en c' p' m
  | 0, _ => rfl
  | m + 1, h => by
    have ih : en c p m = en c' p' m := en_congr (fun i hi => h i (by omega))
    simp only [en, h m (by omega), ih]
theorem en_pow {c : Nat → Int32} {p m : Nat} (h : lets c p m) (hm : m ≤ 10) : en c p m < 2 ^ 63 := by
  have h1 := en_lt h
  have h2 : 32 ^ m ≤ 32 ^ 10 := Nat.pow_le_pow_right (by omega) hm
  have h3 : (32 : Nat) ^ 10 < 2 ^ 63 := by decide
  omega
theorem en_pos {c : Nat → Int32} {p m : Nat} (h : lets c p m) (hm : 1 ≤ m) : 1 ≤ en c p m := by
  cases m with
  | zero => omega
  | succ m =>
    obtain ⟨k, k1, k2, ek⟩ := let_n (lets_s.mp h).2
    simp only [en, ek, nI_clamp (show k < 2 ^ 31 by omega)]
    omega
theorem letW {d : HI} {w j v : Nat} (hT : TXw d w) (hG : goodT v) : LTR d w j = Kv v ↔ isW d w j v := by
  obtain ⟨g1, g2, g3⟩ := hG
  have kb := en_pow g3 g1
  constructor
  · intro h
    unfold LTR at h
    by_cases q : j < w ∧ (d 3 j).toNatClampNeg ≤ (d 2 j).toNatClampNeg + 10 ∧ lets (d 1) (d 2 j).toNatClampNeg ((d 3 j).toNatClampNeg - (d 2 j).toNatClampNeg)
    · rw [if_pos q] at h
      have := lN_inj (en_pow q.2.2 (by omega)) kb h
      have := en_inj q.2.2 g3 this
      refine ⟨q.1, this.1, fun p hp => ?_⟩
      have := this.2 p (by omega)
      rw [Nat.zero_add] at this; exact this
    · rw [if_neg q] at h
      have h0 : lN 0 = lN (en (scharC v) 0 (slenN v)) := h
      have := lN_inj (by decide) kb h0
      have := en_pos g3 g2
      omega
  · intro ⟨h1, h2, h3⟩
    unfold LTR
    have hl : lets (d 1) (d 2 j).toNatClampNeg ((d 3 j).toNatClampNeg - (d 2 j).toNatClampNeg) := fun i hi => by
      rw [h2] at hi
      rw [h3 i hi]
      have := g3 i hi
      rw [Nat.zero_add] at this; exact this
    rw [if_pos ⟨h1, by omega, hl⟩]
    unfold Kv
    rw [h2]
    congr 1
    refine en_congr (fun i hi => ?_)
    rw [h3 i hi, Nat.zero_add]
def goodTb (v : Nat) : Bool := decide (slenN v ≤ 10 ∧ 1 ≤ slenN v) && (List.range (slenN v)).all (fun i => decide (97 ≤ scharC v (0 + i) ∧ scharC v (0 + i) ≤ 122))
theorem goodT_of {v : Nat} (h : goodTb v = true) : goodT v := by
  unfold goodTb at h
  rw [Bool.and_eq_true, decide_eq_true_eq, List.all_eq_true] at h
  refine ⟨h.1.1, h.1.2, fun i hi => ?_⟩
  have := h.2 i (List.mem_range.mpr hi)
  rwa [decide_eq_true_eq] at this
theorem goodT_k {v : Nat} (h : v < 31) : goodT v := by
  have : ∀ v ∈ List.range 31, goodTb v = true := by decide
  exact goodT_of (this v (List.mem_range.mpr h))
theorem goodT_62 : goodT 62 := goodT_of (by decide)
theorem goodT_63 : goodT 63 := goodT_of (by decide)
theorem Kv_62 : Kv 62 = 77224099 := by decide
theorem Kv_63 : Kv 63 = 1656889 := by decide
theorem kcs_eq : kcs = (List.range 31).map (fun i => (Kv i, nI i)) := by decide
theorem pX_isWord {d hx : HI} {n w : Nat} {hl : HL} {Φ : Int32 → HI → HL → Prop} (hT : TXw d w) (hR : RX d hx n w) (j v : Nat) (hj : j < 100) (hv : v < 64) (hv2 : slenN v ≤ 10) (h : Φ (bI (isB d w j v)) hx hl) : wpT_isWord (nI j) v hx hl Φ := by
  obtain ⟨a1, a2, a3, a4, a5, _⟩ := hR
  unfold wpT_isWord wbT_isWord_0
  have hw := hT.1
  have no : ¬ isW d w j v → i01 0 ∧ Φ 0 hx hl := fun q => by
    have : isB d w j v = false := @decide_eq_false _ (Classical.propDecidable _) q
    rw [this] at h; exact ⟨i01_0, h⟩
  rw [a2]
  refine pk_le w j (fun c => no (fun q => absurd q.1 (by omega))) (fun c => ?_)
  obtain ⟨f, t, ef, et, ft, t40⟩ := hT.2 j c
  have hvj : vp_in (nI j) 20 := vp_in_nI (by omega) (by omega)
  have hcj : (nI j).toNatClampNeg = j := nI_clamp (by omega)
  have hcf : (nI f).toNatClampNeg = f := nI_clamp (by omega)
  have hct : (nI t).toNatClampNeg = t := nI_clamp (by omega)
  rw [hcj, a4, a5, ef, et, pk_sub (by omega)]
  refine ⟨hvj, hvj, hv, ?_⟩
  unfold slenC
  refine pk_eq (t - f) (slenN v) (fun q => ?_) (fun q => no (fun x => q ?_))
  · refine loop_0 (fun fu i (_ : Unit) => wbT_isWord_32 fu (nI j) v (nI i) hx hl Φ) (fun i _ => ∀ p, p < i → d 1 (f + p) = scharC v p) (slenN v) () (fun a ha => absurd ha (by omega)) (fun k _ hk => ?_) (fun k i _ hi hk ih => ?_)
    · unfold wbT_isWord_32
      refine ⟨hv, br_t (nI_le (Nat.le_refl _) (by omega)) ?_⟩
      have : isB d w j v = true := @decide_eq_true _ (Classical.propDecidable _) ⟨c, by rw [ef, et, hcf, hct]; exact q, fun p hp => by rw [ef, hcf]; exact hk p hp⟩
      rw [this] at h; exact ⟨i01_1, h⟩
    · unfold wbT_isWord_32
      rw [hcj, a4, ef, nI_add, nI_clamp (by omega), a3, nI_clamp (by omega), nI_n1, nI_1]
      refine ⟨hv, br_f (nI_ge hi (by omega)) ⟨hvj, vp_in_nI (by omega) (by omega), hv, vp_in_nI hi (by omega), br_c (fun z => ih () (fun p hp => ?_)) (fun z => no (fun x => z ?_))⟩⟩
      · by_cases y : p = i
        · subst y; exact z
        · exact hk p (by omega)
      · have := x.2.2 i hi
        rwa [ef, hcf] at this
  · have := x.2.1
    rwa [ef, et, hcf, hct] at this
theorem kfold_no (v : Int64) : ∀ (l : List (Int64 × Int32)) (q : Int32), (∀ p, p ∈ l → v ≠ p.1) → kfold v q l = q
  | [], q, _ => rfl
  | p :: l, q, h => by
    rw [kfold_c, if_neg (h p List.mem_cons_self)]
    exact kfold_no v l q (fun p' hp' => h p' (List.mem_cons_of_mem _ hp'))
theorem KO_of {d : HI} {w i : Nat} (hT : TXw d w) (hi : i < 31) (h : isW d w 1 i) : KO d w = nI i := by
  have e := (letW hT (goodT_k hi)).mpr h
  unfold KO
  rw [e]
  have : ∀ i ∈ List.range 31, kfold (Kv i) (-1) kcs = nI i := by decide
  exact this i (List.mem_range.mpr hi)
theorem KO_no {d : HI} {w : Nat} (hT : TXw d w) (h : ∀ i, i < 31 → ¬ isW d w 1 i) : KO d w = -1 := by
  unfold KO
  refine kfold_no _ _ _ (fun p hp e => ?_)
  rw [kcs_eq, List.mem_map] at hp
  obtain ⟨i, hi, ei⟩ := hp
  have hi' := List.mem_range.mp hi
  refine h i hi' ((letW hT (goodT_k hi')).mp ?_)
  rw [e, ← ei]
theorem pX_kindOfWord {d hx : HI} {n w : Nat} {hl : HL} {Φ : Int32 → HI → HL → Prop} (hT : TXw d w) (hR : RX d hx n w) (h : Φ (KO d w) hx hl) : wpD_kindOfWord hx hl Φ := by
  unfold wpD_kindOfWord wbD_kindOfWord_0
  refine loop_0 (fun fu i (_ : Unit) => wbD_kindOfWord_2 fu (nI i) hx hl Φ) (fun i _ => ∀ p, p < i → ¬ isW d w 1 p) 31 () (fun a ha => absurd ha (by omega)) (fun k _ hk => ?_) (fun k i _ hi hk ih => ?_)
  · unfold wbD_kindOfWord_2
    refine br_t (by decide) ?_
    rw [KO_no hT hk] at h; exact h
  · unfold wbD_kindOfWord_2
    have hv : vp_in (nI i) 31 := vp_in_nI (by omega) (by omega)
    refine br_f (nI_ge (b := 31) hi (by omega)) ⟨hv, hv, ?_⟩
    rw [nI_clamp (by omega), nI_n1, nI_1]
    refine pX_isWord hT hR 1 i (by omega) (by omega) (goodT_k hi).1 ?_
    refine br_c (fun q => ih () (fun p hp => ?_)) (fun q => ⟨hv, ?_⟩)
    · rw [bI_0] at q
      by_cases y : p = i
      · subst y
        exact @of_decide_eq_false _ (Classical.propDecidable _) q
      · exact hk p (by omega)
    · rw [bI_ne] at q
      have := @of_decide_eq_true _ (Classical.propDecidable _) q
      rw [KO_of hT hi this] at h; exact h
