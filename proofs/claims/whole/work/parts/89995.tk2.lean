theorem pB_wireOf {hx : HI} {hl : HL} {Φ : Int64 → HI → HL → Prop} {cnt : Nat} {k s : Nat → Nat} {t : Nat → Bool} (hD : DN hx cnt k s t) (m j i : Nat) (hm : m < cnt) (hj : j < 6) (hi : i < 4) (h : Φ (wir hl k t i m j) hx hl) : wpB_wireOf (nI m) (nI j) (nI i) hx hl Φ := by
  have hc := hD.2.1
  obtain ⟨a1, a2, a3, a4, a5⟩ := hD.2.2 m hm
  have ei : nI j * 4 + nI i = nI (4 * j + i) := by rw [show (4 : Int32) = nI 4 from rfl, pk_mul, nI_add]; congr 1; omega
  unfold wpB_wireOf wbB_wireOf_0
  rw [nI_clamp (by omega), a1, nI_clamp (by omega), a5, ei, nI_clamp (by omega)]
  refine ⟨vp_in_nI (by omega) (by omega), vp_in_nI (by omega) (by omega), vp_in_nI (by omega) (by omega), vp_in_nI (by omega) (by omega), br_c (fun q => ?_) (fun q => ?_)⟩
  · rw [bI_0] at q; unfold wir at h; rw [q, if_neg (by decide)] at h; exact h
  · rw [bI_ne] at q; unfold wir at h; rw [q, if_pos rfl] at h; exact h
theorem wir_c {hl hl' : HL} {k : Nat → Nat} {t : Nat → Bool} {i m j : Nat} (h : hl' (44 + k m) = hl (44 + k m)) : wir hl' k t i m j = wir hl k t i m j := by unfold wir; rw [h]
theorem pB_addBad {hx : HI} {hl : HL} {Φ : HI → HL → Prop} {cnt : Nat} {k s : Nat → Nat} {t : Nat → Bool} (hD : DN hx cnt k s t) (h0 : 0 < cnt) (h : ∀ hl', (∀ c, c ≠ 8 → hl' c = hl c) → (∀ i, i < 4 → hl' 8 i = hl 8 i ||| wir hl k t i 0 0) → Φ hx hl') : wpB_addBad hx hl Φ := by
  unfold wpB_addBad wbB_addBad_0
  refine loop_0 (fun fu i (q : HL) => wbB_addBad_2 fu (nI i) hx q Φ) (fun i q => (∀ c, c ≠ 8 → q c = hl c) ∧ (∀ i', i' < i → q 8 i' = hl 8 i' ||| wir hl k t i' 0 0) ∧ ∀ i', i ≤ i' → q 8 i' = hl 8 i') 4 hl ⟨fun _ _ => rfl, fun i' hi' => absurd hi' (by omega), fun _ _ => rfl⟩ (fun n q hq => ?_) (fun n i q hi hq ih => ?_)
  · unfold wbB_addBad_2
    exact br_t (by decide) (h q hq.1 hq.2.1)
  · unfold wbB_addBad_2
    have hv : vp_in (nI i) 4 := vp_in_nI (by omega) (by omega)
    refine br_f (nI_ge (b := 4) hi (by omega)) ⟨hv, pB_wireOf hD 0 0 i h0 (by omega) hi ⟨hv, ?_⟩⟩
    rw [nI_clamp (by omega), nI_n1, nI_1, wir_c (hq.1 (44 + k 0) (by omega)), hq.2.2 i (Nat.le_refl _)]
    refine ih _ ⟨fun c hc => ?_, fun i' hi' => ?_, fun i' hi' => ?_⟩
    · rw [u2_cf _ _ _ hc]; exact hq.1 c hc
    · by_cases z : i' = i
      · subst z; rw [u2_s]
      · rw [u2_j _ _ _ _ z]; exact hq.2.1 i' (by omega)
    · rw [u2_j _ _ _ _ (by omega)]; exact hq.2.2 i' (by omega)
theorem pB_addConstraint {hx : HI} {hl : HL} {Φ : HI → HL → Prop} {cnt : Nat} {k s : Nat → Nat} {t : Nat → Bool} (hD : DN hx cnt k s t) (h0 : 0 < cnt) (h : ∀ hl', (∀ c, c ≠ 9 → hl' c = hl c) → (∀ i, i < 4 → hl' 9 i = hl 9 i &&& wir hl k t i 0 0) → Φ hx hl') : wpB_addConstraint hx hl Φ := by
  unfold wpB_addConstraint wbB_addConstraint_0
  refine loop_0 (fun fu i (q : HL) => wbB_addConstraint_2 fu (nI i) hx q Φ) (fun i q => (∀ c, c ≠ 9 → q c = hl c) ∧ (∀ i', i' < i → q 9 i' = hl 9 i' &&& wir hl k t i' 0 0) ∧ ∀ i', i ≤ i' → q 9 i' = hl 9 i') 4 hl ⟨fun _ _ => rfl, fun i' hi' => absurd hi' (by omega), fun _ _ => rfl⟩ (fun n q hq => ?_) (fun n i q hi hq ih => ?_)
  · unfold wbB_addConstraint_2
    exact br_t (by decide) (h q hq.1 hq.2.1)
  · unfold wbB_addConstraint_2
    have hv : vp_in (nI i) 4 := vp_in_nI (by omega) (by omega)
    refine br_f (nI_ge (b := 4) hi (by omega)) ⟨hv, pB_wireOf hD 0 0 i h0 (by omega) hi ⟨hv, ?_⟩⟩
    rw [nI_clamp (by omega), nI_n1, nI_1, wir_c (hq.1 (44 + k 0) (by omega)), hq.2.2 i (Nat.le_refl _)]
    refine ih _ ⟨fun c hc => ?_, fun i' hi' => ?_, fun i' hi' => ?_⟩
    · rw [u2_cf _ _ _ hc]; exact hq.1 c hc
    · by_cases z : i' = i
      · subst z; rw [u2_s]
      · rw [u2_j _ _ _ _ z]; exact hq.2.1 i' (by omega)
    · rw [u2_j _ _ _ _ (by omega)]; exact hq.2.2 i' (by omega)
theorem or_k : ∀ j, j ∈ List.range 6 → ∀ a, a ∈ List.range 64 → a < 2 ^ j → nI a ||| ((1 : Int32) <<< (nI j &&& 31)) = nI (a + 2 ^ j) := by decide +kernel
theorem pB_setInit {hx : HI} {hl : HL} {Φ : HI → HL → Prop} {cnt : Nat} {k s : Nat → Nat} {t : Nat → Bool} (hD : DN hx cnt k s t) (h2 : 1 < cnt) (S : Nat) (hS : hx 10 4 = nI S) (hS7 : S ≤ 7) (h : Φ (u2 hx (24 + k 0) 5 (nI (lvb (fun j => bt (wir hl k t 0 1 j) 0) (bts S)))) hl) : wpB_setInit hx hl Φ := by
  have hb := bts_7 hS7
  have hc := hD.2.1
  obtain ⟨a1, a2, _⟩ := hD.2.2 0 (by omega)
  unfold wpB_setInit wbB_setInit_0
  refine loop_f (fun fu j q => wbB_setInit_4 fu q (nI j) hx hl Φ) (fun j => nI (lvb (fun j => bt (wir hl k t 0 1 j) 0) j)) (bts S) (fun n => ?_) (fun n j hj ih => ?_)
  · unfold wbB_setInit_4
    rw [hS, pX_bitsOf _ hS7]
    refine br_t (nI_le (Nat.le_refl _) (by omega)) ⟨vp_in_nI (n := 0) (by omega) (by omega), ?_⟩
    have e0 : (0 : Int32).toNatClampNeg = 0 := by decide
    rw [e0, a1, nI_clamp (by omega)]
    exact ⟨vp_in_nI (by omega) (by omega), h⟩
  · unfold wbB_setInit_4 wbB_setInit_38
    rw [hS, pX_bitsOf _ hS7]
    refine br_f (nI_ge hj (by omega)) (pB_wireOf hD 1 j 0 h2 (by omega) (by omega) ?_)
    have := pX_has (wir hl k t 0 1 j) 0 (by omega) hx hl (fun r9 hi10 hl11 => (r9 = 0 → (fun v2 v3 hi hl => wbB_setInit_4 n v2 v3 hi hl Φ) (nI (lvb (fun j => bt (wir hl k t 0 1 j) 0) j) ||| 0) (nI j + Int32.ofInt 1) hi10 hl11) ∧ (¬ r9 = 0 → (fun v2 v3 hi hl => wbB_setInit_4 n v2 v3 hi hl Φ) (nI (lvb (fun j => bt (wir hl k t 0 1 j) 0) j) ||| ((1 : Int32) <<< (nI j &&& 31))) (nI j + Int32.ofInt 1) hi10 hl11))
    refine this.mpr ?_
    have hlt := lvb_lt (fun j => bt (wir hl k t 0 1 j) 0) j
    have h64 := p2_64 (show j ≤ 6 by omega)
    rw [nI_n1, nI_1]
    refine br_c (fun q => ?_) (fun q => ?_)
    · rw [bI_0] at q
      have e : lvb (fun j => bt (wir hl k t 0 1 j) 0) (j + 1) = lvb (fun j => bt (wir hl k t 0 1 j) 0) j := by simp only [lvb, q]; simp
      rw [e] at ih
      show wbB_setInit_4 n (nI (lvb (fun j => bt (wir hl k t 0 1 j) 0) j) ||| 0) (nI (j + 1)) hx hl Φ
      have e2 : nI (lvb (fun j => bt (wir hl k t 0 1 j) 0) j) ||| 0 = nI (lvb (fun j => bt (wir hl k t 0 1 j) 0) j) := by simp
      rw [e2]; exact ih
    · rw [bI_ne] at q
      have e : lvb (fun j => bt (wir hl k t 0 1 j) 0) (j + 1) = lvb (fun j => bt (wir hl k t 0 1 j) 0) j + 2 ^ j := by simp only [lvb, q]; simp
      rw [e] at ih
      show wbB_setInit_4 n (nI (lvb (fun j => bt (wir hl k t 0 1 j) 0) j) ||| ((1 : Int32) <<< (nI j &&& 31))) (nI (j + 1)) hx hl Φ
      rw [or_k j (List.mem_range.mpr (by omega)) _ (List.mem_range.mpr (by omega)) hlt]; exact ih
theorem pB_setNext {hx : HI} {hl : HL} {Φ : HI → HL → Prop} {cnt : Nat} {k s : Nat → Nat} {t : Nat → Bool} (hD : DN hx cnt k s t) (h2 : 1 < cnt) (S P : Nat) (hS : hx 10 4 = nI S) (hS7 : S ≤ 7) (hP : hx (24 + k 0) 4 = nI P) (hPb : P + bts S ≤ 6)
    (h : ∀ hl', (∀ c, c ≠ 7 → hl' c = hl c) → (∀ j i, j < bts S → i < 4 → hl' 7 (4 * (P + j) + i) = wir hl k t i 1 j) → (∀ j i, i < 4 → ¬ (P ≤ j ∧ j < P + bts S) → hl' 7 (4 * j + i) = hl 7 (4 * j + i)) → Φ (u2 hx (24 + k 0) 6 1) hl') : wpB_setNext hx hl Φ := by
  have hc := hD.2.1
  obtain ⟨a1, a2, _⟩ := hD.2.2 0 (by omega)
  have e0 : (0 : Int32).toNatClampNeg = 0 := by decide
  unfold wpB_setNext wbB_setNext_0
  rw [e0, a1, nI_clamp (by omega)]
  refine ⟨vp_in_nI (n := 0) (by omega) (by omega), vp_in_nI (by omega) (by omega), i01_1, ?_⟩
  have D' : DN (u2 hx (24 + k 0) 6 1) cnt k s t := by
    refine ⟨by rw [u2_c _ _ _ _ (by omega)]; exact hD.1, hD.2.1, fun m hm => ?_⟩
    obtain ⟨b1, b2, b3, b4, b5⟩ := hD.2.2 m hm
    exact ⟨by rw [u2_c _ _ _ _ (by omega)]; exact b1, b2, by rw [u2_j _ _ _ _ (by decide)]; exact b3, b4, by rw [u2_c _ _ _ _ (by omega)]; exact b5⟩
  have s4 : (u2 hx (24 + k 0) 6 1) 10 4 = nI S := by rw [u2_c _ _ _ _ (by omega)]; exact hS
  have p4 : (u2 hx (24 + k 0) 6 1) (24 + k 0) 4 = nI P := by rw [u2_j _ _ _ _ (by decide)]; exact hP
  generalize u2 hx (24 + k 0) 6 1 = y at D' s4 p4 h ⊢
  refine loop_0 (fun fu j (q : HL) => wbB_setNext_19 fu (k 0) (nI j) y q Φ) (fun j q => (∀ c, c ≠ 7 → q c = hl c) ∧ (∀ j' i, j' < j → i < 4 → q 7 (4 * (P + j') + i) = wir hl k t i 1 j') ∧ (∀ j' i, i < 4 → ¬ (P ≤ j' ∧ j' < P + j) → q 7 (4 * j' + i) = hl 7 (4 * j' + i))) (bts S) hl ⟨fun _ _ => rfl, fun j' i hj' => absurd hj' (by omega), fun _ _ _ _ => rfl⟩ (fun n q hq => ?_) (fun n j q hj hq ih => ?_)
  · unfold wbB_setNext_19
    rw [s4, pX_bitsOf _ hS7]
    exact br_t (nI_le (Nat.le_refl _) (by omega)) (h q hq.1 hq.2.1 hq.2.2)
  · unfold wbB_setNext_19
    rw [s4, pX_bitsOf _ hS7]
    refine br_f (nI_ge hj (by omega)) ?_
    refine loop_0 (fun fu i (p : HL) => wbB_setNext_33 (fun v2 v3 hi hl => wbB_setNext_19 n v2 v3 hi hl Φ) fu (k 0) (nI j) (nI i) y p Φ) (fun i p => (∀ c, c ≠ 7 → p c = hl c) ∧ (∀ j' i', i' < 4 → (j' < j ∨ j' = j ∧ i' < i) → p 7 (4 * (P + j') + i') = wir hl k t i' 1 j') ∧ (∀ j' i', i' < 4 → ¬ (P ≤ j' ∧ j' < P + j) → ¬ (j' = P + j ∧ i' < i) → p 7 (4 * j' + i') = hl 7 (4 * j' + i'))) 4 q ⟨hq.1, fun j' i' hi' hc => hq.2.1 j' i' (by omega) hi', fun j' i' hi' h1 _ => hq.2.2 j' i' hi' h1⟩ (fun n2 p hp => ?_) (fun n2 i p hi hp ih2 => ?_)
    · unfold wbB_setNext_33
      rw [nI_n1, nI_1]
      refine br_t (by decide) (ih p ⟨hp.1, fun j' i' hj' hi' => hp.2.1 j' i' hi' (by omega), fun j' i' hi' hc => hp.2.2 j' i' hi' (by omega) (by omega)⟩)
    · unfold wbB_setNext_33
      have ei : (nI P + nI j) * 4 + nI i = nI (4 * (P + j) + i) := by rw [nI_add, show (4 : Int32) = nI 4 from rfl, pk_mul, nI_add]; congr 1; omega
      rw [p4, ei]
      refine br_f (nI_ge (b := 4) hi (by omega)) (pB_wireOf D' 1 j i h2 (by omega) hi ⟨vp_in_nI (by omega) (by omega), ?_⟩)
      rw [nI_clamp (by omega), nI_n1, nI_1, wir_c (hp.1 (44 + k 1) (by omega))]
      refine ih2 _ ⟨fun c hc => ?_, fun j' i' hi' hc => ?_, fun j' i' hi' h1 h2' => ?_⟩
      · rw [u2_cf _ _ _ hc]; exact hp.1 c hc
      · by_cases z : j' = j ∧ i' = i
        · obtain ⟨rfl, rfl⟩ := z; rw [u2_s]
        · rw [u2_j _ _ _ _ (by omega)]; exact hp.2.1 j' i' hi' (by omega)
      · rw [u2_j _ _ _ _ (by omega)]; exact hp.2.2 j' i' hi' h1 (by omega)
theorem bt_i : ∀ i, i ∈ List.range 4 → ∀ j, j ∈ List.range 12 → bt (nI i).toInt64 j = i.testBit j := by decide +kernel
theorem pB_addInput {hx : HI} {hl : HL} {Φ : HI → HL → Prop} (r S P : Nat) (hr : r < 20) (hS : hx (24 + r) 2 = nI S) (hS7 : S ≤ 7) (hP : hx 5 3 = nI P) (hPb : P + bts S ≤ 6)
    (h : ∀ hl', (∀ c, c ≠ 44 + r → hl' c = hl c) → (∀ j i, j < bts S → i < 4 → hl' (44 + r) (4 * j + i) = if i.testBit (P + j) = true then -1 else 0) → Φ (u2 (u2 hx (24 + r) 4 (nI P)) 5 3 (nI (P + bts S))) hl') : wpB_addInput r hx hl Φ := by
  unfold wpB_addInput wbB_addInput_0
  rw [u2_j _ _ _ _ (by decide), hS, pX_bitsOf _ hS7, u2_c _ _ _ _ (by omega), hP, nI_add]
  have s2 : (u2 (u2 hx (24 + r) 4 (nI P)) 5 3 (nI (P + bts S))) (24 + r) 2 = nI S := by rw [u2_c _ _ _ _ (by omega), u2_j _ _ _ _ (by decide)]; exact hS
  have s4 : (u2 (u2 hx (24 + r) 4 (nI P)) 5 3 (nI (P + bts S))) (24 + r) 4 = nI P := by rw [u2_c _ _ _ _ (by omega), u2_s]
  generalize u2 (u2 hx (24 + r) 4 (nI P)) 5 3 (nI (P + bts S)) = y at s2 s4 h ⊢
  refine loop_0 (fun fu j (q : HL) => wbB_addInput_26 fu r (nI j) y q Φ) (fun j q => (∀ c, c ≠ 44 + r → q c = hl c) ∧ ∀ j' i, j' < j → i < 4 → q (44 + r) (4 * j' + i) = if i.testBit (P + j') = true then -1 else 0) (bts S) hl ⟨fun _ _ => rfl, fun j' i hj' => absurd hj' (by omega)⟩ (fun n q hq => ?_) (fun n j q hj hq ih => ?_)
  · unfold wbB_addInput_26
    rw [s2, pX_bitsOf _ hS7]
    exact br_t (nI_le (Nat.le_refl _) (by omega)) (h q hq.1 hq.2)
  · unfold wbB_addInput_26
    rw [s2, pX_bitsOf _ hS7]
    refine br_f (nI_ge hj (by omega)) ?_
    refine loop_0 (fun fu i (p : HL) => wbB_addInput_39 (fun v1 v2 hi hl => wbB_addInput_26 n v1 v2 hi hl Φ) fu r (nI j) (nI i) y p Φ) (fun i p => (∀ c, c ≠ 44 + r → p c = hl c) ∧ ∀ j' i', i' < 4 → (j' < j ∨ j' = j ∧ i' < i) → p (44 + r) (4 * j' + i') = if i'.testBit (P + j') = true then -1 else 0) 4 q ⟨hq.1, fun j' i' hi' hc => hq.2 j' i' (by omega) hi'⟩ (fun n2 p hp => ?_) (fun n2 i p hi hp ih2 => ?_)
    · unfold wbB_addInput_39
      rw [nI_n1, nI_1]
      exact br_t (by decide) (ih p ⟨hp.1, fun j' i' hj' hi' => hp.2 j' i' hi' (by omega)⟩)
    · unfold wbB_addInput_39 wbB_addInput_74
      have ei : nI j * 4 + nI i = nI (4 * j + i) := by rw [show (4 : Int32) = nI 4 from rfl, pk_mul, nI_add]; congr 1; omega
      rw [s4, nI_add, ei, pX_has _ (P + j) (by omega), bt_i i (List.mem_range.mpr hi) (P + j) (List.mem_range.mpr (by omega)), nI_clamp (by omega), nI_n1, nI_1 i]
      have fin : ∀ x : Int64, x = (if i.testBit (P + j) = true then -1 else 0) → wbB_addInput_39 (fun v1 v2 hi hl => wbB_addInput_26 n v1 v2 hi hl Φ) n2 r (nI j) (nI (i + 1)) y (u2 p (44 + r) (4 * j + i) x) Φ := fun x hx' => by
        refine ih2 _ ⟨fun c hc => ?_, fun j' i' hi' hc => ?_⟩
        · rw [u2_cf _ _ _ hc]; exact hp.1 c hc
        · by_cases z : j' = j ∧ i' = i
          · obtain ⟨rfl, rfl⟩ := z; rw [u2_s]; exact hx'
          · rw [u2_j _ _ _ _ (by omega)]; exact hp.2 j' i' hi' (by omega)
      refine br_f (nI_ge (b := 4) hi (by omega)) (br_c (fun q => ⟨vp_in_nI (by omega) (by omega), fin 0 ?_⟩) (fun q => ⟨vp_in_nI (by omega) (by omega), fin (-1) ?_⟩))
      · rw [bI_0] at q; rw [q]; rfl
      · rw [bI_ne] at q; rw [q]; rfl
theorem pB_addState {hx : HI} {hl : HL} {Φ : HI → HL → Prop} (r S P : Nat) (hr : r < 20) (hS : hx (24 + r) 2 = nI S) (hS7 : S ≤ 7) (hP : hx 5 4 = nI P) (hPb : P + bts S ≤ 6)
    (h : ∀ hl', (∀ c, c ≠ 44 + r → c ≠ 7 → hl' c = hl c) → (∀ j i, j < bts S → i < 4 → hl' (44 + r) (4 * j + i) = lanesC (P + j)) → (∀ j i, j < bts S → i < 4 → hl' 7 (4 * (P + j) + i) = lanesC (P + j)) → (∀ j i, i < 4 → ¬ (P ≤ j ∧ j < P + bts S) → hl' 7 (4 * j + i) = hl 7 (4 * j + i)) → Φ (u2 (u2 hx (24 + r) 4 (nI P)) 5 4 (nI (P + bts S))) hl') : wpB_addState r hx hl Φ := by
  unfold wpB_addState wbB_addState_0
  rw [u2_j _ _ _ _ (by decide), hS, pX_bitsOf _ hS7, u2_c _ _ _ _ (by omega), hP, nI_add]
  have s2 : (u2 (u2 hx (24 + r) 4 (nI P)) 5 4 (nI (P + bts S))) (24 + r) 2 = nI S := by rw [u2_c _ _ _ _ (by omega), u2_j _ _ _ _ (by decide)]; exact hS
  have s4 : (u2 (u2 hx (24 + r) 4 (nI P)) 5 4 (nI (P + bts S))) (24 + r) 4 = nI P := by rw [u2_c _ _ _ _ (by omega), u2_s]
  generalize u2 (u2 hx (24 + r) 4 (nI P)) 5 4 (nI (P + bts S)) = y at s2 s4 h ⊢
  refine loop_0 (fun fu j (q : HL) => wbB_addState_26 fu r (nI j) y q Φ) (fun j q => (∀ c, c ≠ 44 + r → c ≠ 7 → q c = hl c) ∧ (∀ j' i, j' < j → i < 4 → q (44 + r) (4 * j' + i) = lanesC (P + j')) ∧ (∀ j' i, j' < j → i < 4 → q 7 (4 * (P + j') + i) = lanesC (P + j')) ∧ (∀ j' i, i < 4 → ¬ (P ≤ j' ∧ j' < P + j) → q 7 (4 * j' + i) = hl 7 (4 * j' + i))) (bts S) hl ⟨fun _ _ _ => rfl, fun j' i hj' => absurd hj' (by omega), fun j' i hj' => absurd hj' (by omega), fun _ _ _ _ => rfl⟩ (fun n q hq => ?_) (fun n j q hj hq ih => ?_)
  · unfold wbB_addState_26
    rw [s2, pX_bitsOf _ hS7]
    exact br_t (nI_le (Nat.le_refl _) (by omega)) (h q hq.1 hq.2.1 hq.2.2.1 hq.2.2.2)
  · unfold wbB_addState_26
    rw [s2, pX_bitsOf _ hS7]
    refine br_f (nI_ge hj (by omega)) ?_
    refine loop_0 (fun fu i (p : HL) => wbB_addState_39 (fun v1 v2 hi hl => wbB_addState_26 n v1 v2 hi hl Φ) fu r (nI j) (nI i) y p Φ) (fun i p => (∀ c, c ≠ 44 + r → c ≠ 7 → p c = hl c) ∧ (∀ j' i', i' < 4 → (j' < j ∨ j' = j ∧ i' < i) → p (44 + r) (4 * j' + i') = lanesC (P + j')) ∧ (∀ j' i', i' < 4 → (j' < j ∨ j' = j ∧ i' < i) → p 7 (4 * (P + j') + i') = lanesC (P + j')) ∧ (∀ j' i', i' < 4 → ¬ (P ≤ j' ∧ j' < P + j) → ¬ (j' = P + j ∧ i' < i) → p 7 (4 * j' + i') = hl 7 (4 * j' + i'))) 4 q ⟨hq.1, fun j' i' hi' hc => hq.2.1 j' i' (by omega) hi', fun j' i' hi' hc => hq.2.2.1 j' i' (by omega) hi', fun j' i' hi' h1 _ => hq.2.2.2 j' i' hi' h1⟩ (fun n2 p hp => ?_) (fun n2 i p hi hp ih2 => ?_)
    · unfold wbB_addState_39
      rw [nI_n1, nI_1]
      exact br_t (by decide) (ih p ⟨hp.1, fun j' i' hj' hi' => hp.2.1 j' i' hi' (by omega), fun j' i' hj' hi' => hp.2.2.1 j' i' hi' (by omega), fun j' i' hi' hc => hp.2.2.2 j' i' hi' (by omega) (by omega)⟩)
    · unfold wbB_addState_39
      have ei : nI j * 4 + nI i = nI (4 * j + i) := by rw [show (4 : Int32) = nI 4 from rfl, pk_mul, nI_add]; congr 1; omega
      have e2 : nI (P + j) * 4 + nI i = nI (4 * (P + j) + i) := by rw [show (4 : Int32) = nI 4 from rfl, pk_mul, nI_add]; congr 1; omega
      rw [s4, nI_add, ei, e2, nI_clamp (by omega), nI_clamp (by omega), nI_clamp (by omega), nI_n1, nI_1 i]
      refine br_f (nI_ge (b := 4) hi (by omega)) ⟨vp_in_nI (by omega) (by omega), vp_in_nI (by omega) (by omega), vp_in_nI (by omega) (by omega), vp_in_nI (by omega) (by omega), ih2 _ ⟨fun c hc hc2 => ?_, fun j' i' hi' hc => ?_, fun j' i' hi' hc => ?_, fun j' i' hi' h1 h2' => ?_⟩⟩
      · rw [u2_cf _ _ _ hc2, u2_cf _ _ _ hc]; exact hp.1 c hc hc2
      · rw [u2_c _ _ _ _ (by omega)]
        by_cases z : j' = j ∧ i' = i
        · obtain ⟨rfl, rfl⟩ := z; rw [u2_s]
        · rw [u2_j _ _ _ _ (by omega)]; exact hp.2.1 j' i' hi' (by omega)
      · by_cases z : j' = j ∧ i' = i
        · obtain ⟨rfl, rfl⟩ := z; rw [u2_s]
        · rw [u2_j _ _ _ _ (by omega), u2_c _ _ _ _ (by omega)]; exact hp.2.2.1 j' i' hi' (by omega)
      · rw [u2_j _ _ _ _ (by omega), u2_c _ _ _ _ (by omega)]; exact hp.2.2.2 j' i' hi' h1 (by omega)
