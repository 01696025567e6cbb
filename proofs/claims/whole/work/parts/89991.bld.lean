/-! X: the wires of a new node -/
def DN (hx : HI) (cnt : Nat) (k s : Nat → Nat) (t : Nat → Bool) : Prop := hx 10 7 = nI cnt ∧ cnt ≤ 3 ∧ ∀ m, m < cnt → hx 11 m = nI (k m) ∧ k m < 20 ∧ hx (24 + k m) 2 = nI (s m) ∧ s m ≤ 7 ∧ hx 12 m = bI (t m)
def nn (cnt : Nat) (s : Nat → Nat) (m : Nat) : Nat := if m < cnt then s m else 0
theorem nn_7 {hx : HI} {cnt : Nat} {k s : Nat → Nat} {t : Nat → Bool} (hD : DN hx cnt k s t) (m : Nat) : nn cnt s m ≤ 7 := by
  unfold nn; split
  · rename_i q; exact (hD.2.2 m q).2.2.2.1
  · omega
theorem pG_widthOf {hx : HI} {hl : HL} {Φ : Int32 → HI → HL → Prop} {cnt : Nat} {k s : Nat → Nat} {t : Nat → Bool} (hD : DN hx cnt k s t) (m : Nat) (hm : m < 3) (h : Φ (nI (bts (nn cnt s m))) hx hl) : wpG_widthOf (nI m) hx hl Φ := by
  unfold wpG_widthOf wbG_widthOf_0
  have hc := hD.2.1
  rw [hD.1]
  refine pk_le cnt m (fun q => ?_) (fun q => ?_)
  · have : nn cnt s m = 0 := by unfold nn; rw [if_neg (by omega)]
    rw [this] at h; exact h
  · obtain ⟨a1, a2, a3, a4, a5⟩ := hD.2.2 m q
    have : nn cnt s m = s m := by unfold nn; rw [if_pos q]
    rw [this] at h
    rw [nI_clamp (by omega), a1, nI_clamp (by omega), a3, pX_bitsOf _ a4]
    exact ⟨vp_in_nI (by omega) (by omega), vp_in_nI (by omega) (by omega), h⟩
/-- a wire of a node in the draft -/
def wir (hl : HL) (k : Nat → Nat) (t : Nat → Bool) (i m j : Nat) : Int64 := if t m = true then hl (44 + k m) (4 * j + i) ^^^ (-1 : Int64) else hl (44 + k m) (4 * j + i)
theorem pG_load {hx : HI} {hl : HL} {Φ : HI → HL → Prop} {cnt : Nat} {k s : Nat → Nat} {t : Nat → Bool} (hD : DN hx cnt k s t) (v m i : Nat) (hv : v < 3) (hm : m < 3) (hi : i < 4)
    (h : ∀ hl', (∀ c, c ≠ 14 + v → hl' c = hl c) → (∀ j, j < 6 → hl' (14 + v) j = if j < bts (nn cnt s m) then wir hl k t i m j else 0) → Φ hx hl') : wpG_load v (nI m) (nI i) hx hl Φ := by
  unfold wpG_load wbG_load_0
  refine pG_clear v hx hl _ (fun hl0 g0 z0 => ?_)
  refine pG_widthOf hD m hm ?_
  have hb6 := bts_7 (nn_7 hD m)
  refine loop_0 (fun fu j (q : HL) => wbG_load_15 fu v (nI m) (nI i) (nI (bts (nn cnt s m))) (nI j) hx q Φ) (fun j q => (∀ c, c ≠ 14 + v → q c = hl c) ∧ ∀ j', j' < 6 → q (14 + v) j' = if j' < j then wir hl k t i m j' else 0) (bts (nn cnt s m)) hl0 ⟨g0, fun j' hj' => by rw [if_neg (by omega)]; exact z0 j' hj'⟩ (fun n q hq => ?_) (fun n j q hj hq ih => ?_)
  · unfold wbG_load_15
    exact br_t (nI_le (Nat.le_refl _) (by omega)) (h q hq.1 hq.2)
  · have mc : m < cnt := by
      by_cases c : m < cnt
      · exact c
      · have : nn cnt s m = 0 := by unfold nn; rw [if_neg c]
        rw [this] at hj; simp [bts] at hj
    obtain ⟨a1, a2, a3, a4, a5⟩ := hD.2.2 m mc
    have ei : nI j * 4 + nI i = nI (4 * j + i) := by rw [show (4 : Int32) = nI 4 from rfl, pk_mul, nI_add]; congr 1; omega
    unfold wbG_load_15 wbG_load_66
    rw [nI_clamp (by omega), a1, nI_clamp (by omega), ei, nI_clamp (by omega), a5, nI_n1, nI_1, nI_clamp (by omega), hq.1 (44 + k m) (by omega)]
    have fin : ∀ x : Int64, x = wir hl k t i m j → wbG_load_15 n v (nI m) (nI i) (nI (bts (nn cnt s m))) (nI (j + 1)) hx (u2 q (14 + v) j x) Φ := fun x hx' => by
      refine ih _ ⟨fun c hc => ?_, fun j' hj' => ?_⟩
      · rw [u2_cf _ _ _ hc]; exact hq.1 c hc
      · by_cases z : j' = j
        · subst z; rw [u2_s, if_pos (by omega)]; exact hx'
        · rw [u2_j _ _ _ _ z, hq.2 j' hj']
          by_cases y : j' < j
          · rw [if_pos y, if_pos (by omega)]
          · rw [if_neg y, if_neg (by omega)]
    refine br_f (nI_ge hj (by omega)) ⟨vp_in_nI (by omega) (by omega), vp_in_nI (by omega) (by omega), vp_in_nI (by omega) (by omega), vp_in_nI (by omega) (by omega), br_c (fun y => ⟨vp_in_nI (by omega) (by omega), fin _ ?_⟩) (fun y => ⟨vp_in_nI (by omega) (by omega), fin _ ?_⟩)⟩
    · rw [bI_0] at y; unfold wir; rw [y, if_neg (by decide)]
    · rw [bI_ne] at y; unfold wir; rw [y, if_pos rfl]
/-- the lanes of a node in the draft, as a number -/
def lwv (hl : HL) (cnt : Nat) (k s : Nat → Nat) (t : Nat → Bool) (i σ m : Nat) : Nat := lvb (fun j => bt (wir hl k t i m j) σ) (bts (nn cnt s m))
def oAv (hl : HL) (cnt : Nat) (k s : Nat → Nat) (t : Nat → Bool) (i σ κ : Nat) : Nat := if κ = 24 then lwv hl cnt k s t i σ 1 else lwv hl cnt k s t i σ 0
def oBv (hl : HL) (cnt : Nat) (k s : Nat → Nat) (t : Nat → Bool) (i σ κ : Nat) : Nat := if κ = 24 then lwv hl cnt k s t i σ 2 else lwv hl cnt k s t i σ 1
def oCv (hl : HL) (cnt : Nat) (k s : Nat → Nat) (t : Nat → Bool) (i σ κ : Nat) : Nat := if κ = 24 then lwv hl cnt k s t i σ 0 else lwv hl cnt k s t i σ 2
theorem lvb_congr {a b : Nat → Bool} : ∀ {w : Nat}, (∀ j, j < w → a j = b j) → lvb a w = lvb b w
  | 0, _ => rfl
  | w + 1, h => by
    have ih : lvb a w = lvb b w := lvb_congr (fun j hj => h j (by omega))
    simp only [lvb, ih, h w (by omega)]
def outW (hl : HL) (κ S cnt : Nat) (k s : Nat → Nat) (t : Nat → Bool) (l u i σ : Nat) : Int32 := opM κ (nI (wdt S)) (nI (wdt (nn cnt s 0))) (nI (wdt (nn cnt s 1))) (nI l) (nI u) (nI (oAv hl cnt k s t i σ κ)) (nI (oBv hl cnt k s t i σ κ)) (nI (oCv hl cnt k s t i σ κ))
theorem lwv_congr {hl hl' : HL} {cnt : Nat} {k s : Nat → Nat} {t : Nat → Bool} {i σ m : Nat} (h : m < cnt → hl' (44 + k m) = hl (44 + k m)) : lwv hl' cnt k s t i σ m = lwv hl cnt k s t i σ m := by
  unfold lwv
  by_cases c : m < cnt
  · unfold wir; rw [h c]
  · have : nn cnt s m = 0 := by unfold nn; rw [if_neg c]
    rw [this]; rfl
theorem pG_build {hx : HI} {hl : HL} {Φ : HI → HL → Prop} {cnt : Nat} {k s : Nat → Nat} {t : Nat → Bool} (hD : DN hx cnt k s t) (r κ S l u : Nat) (hr : r < 20) (hk : ∀ m, m < cnt → k m < r) (hS : hx (24 + r) 2 = nI S) (hS7 : S ≤ 7) (h3 : hx 10 3 = nI κ) (h93 : κ = 3 → hx 10 9 = nI u) (h91 : κ = 21 → hx 10 9 = nI l) (hJ : JC κ S (nn cnt s 0) (nn cnt s 1) (nn cnt s 2) l u)
    (h : ∀ hx' hl', (∀ c, c ≠ 13 → hx' c = hx c) → (∀ c, (c < 14 ∨ 19 < c) → c ≠ 44 + r → hl' c = hl c) → (∀ σ, σ < 64 → ∀ i, i < 4 → ∀ j, j < bts S → bt (hl' (44 + r) (4 * j + i)) σ = (outW hl κ S cnt k s t l u i σ).toNatClampNeg.testBit j) → Φ hx' hl') : wpG_build r hx hl Φ := by
  have hb6 := bts_7 hS7
  have hb0 := bts_7 (nn_7 hD 0)
  have hb1 := bts_7 (nn_7 hD 1)
  unfold wpG_build wbG_build_0
  rw [hS, pX_bitsOf _ hS7]
  have DNu : ∀ {q : HI} (sl : Nat) (x : Int32), DN q cnt k s t → DN (u2 q 13 sl x) cnt k s t := fun {q} sl x hq => by
    refine ⟨by rw [u2_c _ _ _ _ (by decide)]; exact hq.1, hq.2.1, fun m hm => ?_⟩
    obtain ⟨a1, a2, a3, a4, a5⟩ := hq.2.2 m hm
    exact ⟨by rw [u2_c _ _ _ _ (by decide)]; exact a1, a2, by rw [u2_c _ _ _ _ (by omega)]; exact a3, a4, by rw [u2_c _ _ _ _ (by decide)]; exact a5⟩
  have D1 := DNu 6 (nI (bts S)) hD
  refine pG_widthOf D1 0 (by omega) ?_
  have D2 := DNu 7 (nI (bts (nn cnt s 0))) D1
  refine pG_widthOf D2 1 (by omega) ?_
  have D3 := DNu 8 (nI (bts (nn cnt s 1))) D2
  have g6 : (u2 (u2 (u2 hx 13 6 (nI (bts S))) 13 7 (nI (bts (nn cnt s 0)))) 13 8 (nI (bts (nn cnt s 1)))) 13 6 = nI (bts S) := by simp (decide := true) only [u2_j, u2_s]
  have g7 : (u2 (u2 (u2 hx 13 6 (nI (bts S))) 13 7 (nI (bts (nn cnt s 0)))) 13 8 (nI (bts (nn cnt s 1)))) 13 7 = nI (bts (nn cnt s 0)) := by simp (decide := true) only [u2_j, u2_s]
  have g8 : (u2 (u2 (u2 hx 13 6 (nI (bts S))) 13 7 (nI (bts (nn cnt s 0)))) 13 8 (nI (bts (nn cnt s 1)))) 13 8 = nI (bts (nn cnt s 1)) := by rw [u2_s]
  have gF : ∀ c, c ≠ 13 → (u2 (u2 (u2 hx 13 6 (nI (bts S))) 13 7 (nI (bts (nn cnt s 0)))) 13 8 (nI (bts (nn cnt s 1)))) c = hx c := fun c hc => by
    rw [u2_cf _ _ _ hc, u2_cf _ _ _ hc, u2_cf _ _ _ hc]
  generalize (u2 (u2 (u2 hx 13 6 (nI (bts S))) 13 7 (nI (bts (nn cnt s 0)))) 13 8 (nI (bts (nn cnt s 1)))) = y at D3 g6 g7 g8 gF ⊢
  refine loop_0 (fun fu i (q : HL) => wbG_build_34 fu r (nI i) y q Φ) (fun i q => (∀ c, (c < 14 ∨ 19 < c) → c ≠ 44 + r → q c = hl c) ∧ ∀ σ, σ < 64 → ∀ i', i' < i → ∀ j, j < bts S → bt (q (44 + r) (4 * j + i')) σ = (outW hl κ S cnt k s t l u i' σ).toNatClampNeg.testBit j) 4 hl ⟨fun _ _ _ => rfl, fun σ _ i' hi' => absurd hi' (by omega)⟩ (fun n q hq => ?_) (fun n i q hi hq ih => ?_)
  · unfold wbG_build_34
    exact br_t (by decide) (h y q gF hq.1 hq.2)
  · unfold wbG_build_34
    refine br_f (nI_ge (b := 4) hi (by omega)) ?_
    refine pG_load D3 0 0 i (by omega) (by omega) hi (fun q1 f1 l1 => ?_)
    refine pG_load D3 1 1 i (by omega) (by omega) hi (fun q2 f2 l2 => ?_)
    refine pG_load D3 2 2 i (by omega) (by omega) hi (fun q3 f3 l3 => ?_)
    refine pG_clear 3 y q3 _ (fun q4 f4 l4 => ?_)
    have c14 : q4 14 = q1 14 := by rw [f4 14 (by decide), f3 14 (by decide), f2 14 (by decide)]
    have c15 : q4 15 = q2 15 := by rw [f4 15 (by decide), f3 15 (by decide)]
    have c16 : q4 16 = q3 16 := by rw [f4 16 (by decide)]
    have wq : ∀ m, m < cnt → ∀ p : HL, p (44 + k m) = hl (44 + k m) → ∀ j, wir p k t i m j = wir hl k t i m j := fun m hm p hp j => by unfold wir; rw [hp]
    have e44 : ∀ m, m < cnt → q (44 + k m) = hl (44 + k m) := fun m hm => hq.1 _ (Or.inr (by omega)) (by have := hk m hm; omega)
    have e441 : ∀ m, m < cnt → q1 (44 + k m) = hl (44 + k m) := fun m hm => by rw [f1 _ (by omega)]; exact e44 m hm
    have e442 : ∀ m, m < cnt → q2 (44 + k m) = hl (44 + k m) := fun m hm => by rw [f2 _ (by omega)]; exact e441 m hm
    have lane : ∀ m (p p' : HL) (c : Nat), (∀ j, j < 6 → p c j = if j < bts (nn cnt s m) then wir p' k t i m j else 0) → (m < cnt → p' (44 + k m) = hl (44 + k m)) → ∀ σ, lvb (fun j => bt (p c j) σ) (bts (nn cnt s m)) = lwv hl cnt k s t i σ m := fun m p p' c hp hp' σ => by
      unfold lwv
      refine lvb_congr (fun j hj => ?_)
      have := bts_7 (nn_7 hD m)
      rw [hp j (by omega), if_pos hj]
      by_cases z : m < cnt
      · rw [wq m z p' (hp' z) j]
      · have : nn cnt s m = 0 := by unfold nn; rw [if_neg z]
        rw [this] at hj; simp [bts] at hj
    have L0 := fun σ => lane 0 q4 q 14 (fun j hj => by rw [c14]; exact l1 j hj) (e44 0) σ
    have L1 := fun σ => lane 1 q4 q1 15 (fun j hj => by rw [c15]; exact l2 j hj) (e441 1) σ
    have L2 := fun σ => lane 2 q4 q2 16 (fun j hj => by rw [c16]; exact l3 j hj) (e442 2) σ
    have zz : ∀ m (c : Nat) (p' : HL), (∀ j, j < 6 → q4 c j = if j < bts (nn cnt s m) then wir p' k t i m j else 0) → ∀ j, bts (nn cnt s m) ≤ j → j < 6 → q4 c j = 0 := fun m c p' hp j h1 h2 => by rw [hp j h2, if_neg (by omega)]
    refine pG_join y q4 _ κ S (nn cnt s 0) (nn cnt s 1) (nn cnt s 2) l u hJ (by rw [gF 10 (by decide)]; exact h3) g6 g7 g8 (fun z => by rw [gF 10 (by decide)]; exact h93 z) (fun z => by rw [gF 10 (by decide)]; exact h91 z) (zz 0 14 q (fun j hj => by rw [c14]; exact l1 j hj)) (zz 1 15 q1 (fun j hj => by rw [c15]; exact l2 j hj)) l4 (fun q5 f5 b5 => ?_)
    have out5 : ∀ σ, σ < 64 → ∀ j, j < bts S → bt (q5 17 j) σ = (outW hl κ S cnt k s t l u i σ).toNatClampNeg.testBit j := fun σ hσ j hj => by
      rw [b5 σ hσ j hj]
      unfold outW lA lBv lCv oAv oBv oCv
      rw [L0, L1, L2]
    have far : ∀ c, (c < 14 ∨ 19 < c) → q5 c = q c := fun c hc => by
      rw [f5 c hc, f4 c (by omega), f3 c (by omega), f2 c (by omega), f1 c (by omega)]
    refine loop_0 (fun fu j (p : HL) => wbG_build_91 (fun v2 v4 hi hl => wbG_build_34 n v2 v4 hi hl Φ) fu r (nI i) (nI j) y p Φ) (fun j p => (∀ c, c ≠ 44 + r → p c = q5 c) ∧ (∀ j' i', i' < 4 → ¬ (i' = i ∧ j' < j) → p (44 + r) (4 * j' + i') = q5 (44 + r) (4 * j' + i')) ∧ ∀ j', j' < j → p (44 + r) (4 * j' + i) = q5 17 j') (bts S) q5 ⟨fun _ _ => rfl, fun _ _ _ _ => rfl, fun j' hj' => absurd hj' (by omega)⟩ (fun n2 p hp => ?_) (fun n2 j p hj hp ih2 => ?_)
    · unfold wbG_build_91
      rw [nI_n1, nI_1]
      refine br_t (by rw [g6]; exact nI_le (Nat.le_refl _) (by omega)) (ih p ⟨fun c hc hc2 => ?_, fun σ hσ i' hi' j hj => ?_⟩)
      · rw [hp.1 c hc2, far c hc]; exact hq.1 c hc hc2
      · by_cases z : i' = i
        · subst z; rw [hp.2.2 j hj]; exact out5 σ hσ j hj
        · rw [hp.2.1 j i' (by omega) (fun y => z y.1), far (44 + r) (Or.inr (by omega))]
          exact hq.2 σ hσ i' (by omega) j hj
    · have ei : nI j * 4 + nI i = nI (4 * j + i) := by rw [show (4 : Int32) = nI 4 from rfl, pk_mul, nI_add]; congr 1; omega
      unfold wbG_build_91
      rw [ei, nI_clamp (by omega), nI_clamp (by omega), nI_n1, nI_1 j]
      refine br_f (by rw [g6]; exact nI_ge hj (by omega)) ⟨vp_in_nI (by omega) (by omega), vp_in_nI (by omega) (by omega), ih2 _ ⟨fun c hc => ?_, fun j' i' hi' hc => ?_, fun j' hj' => ?_⟩⟩
      · rw [u2_cf _ _ _ hc]; exact hp.1 c hc
      · rw [u2_j _ _ _ _ (by omega)]
        exact hp.2.1 j' i' hi' (fun z => hc ⟨z.1, by omega⟩)
      · by_cases z : j' = j
        · subst z; rw [u2_s, hp.1 17 (by omega)]
        · rw [u2_j _ _ _ _ (by omega)]; exact hp.2.2 j' (by omega)
