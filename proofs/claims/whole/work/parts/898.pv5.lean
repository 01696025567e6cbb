theorem hsq_f {d : HI} {what x : Int32} : ∀ {k : Nat}, hsq d what x k = false → ∀ j, j < k → ¬ (d 5 j = what ∧ d 7 j = x)
  | 0, _, j, hj => absurd hj (by omega)
  | k + 1, h, j, hj => by
    simp only [hsq, Bool.or_eq_false_iff, decide_eq_false_iff_not] at h
    by_cases e : j = k
    · subst e; exact h.2
    · exact hsq_f h.1 j (by omega)
theorem hsq_t {d : HI} {what x : Int32} : ∀ {k : Nat}, hsq d what x k = true → ∃ j, j < k ∧ d 5 j = what ∧ d 7 j = x
  | 0, h => absurd h (by simp [hsq])
  | k + 1, h => by
    simp only [hsq, Bool.or_eq_true, decide_eq_true_eq] at h
    rcases h with h | h
    · obtain ⟨j, hj, e⟩ := hsq_t h
      exact ⟨j, by omega, e⟩
    · exact ⟨k, by omega, h⟩
/-- an init or next line -/
theorem inf {d : HI} {n : Nat} (hF : WF d n) {l : Nat} (hl : l < n) (κ : Nat) (hκ : κ = 27 ∨ κ = 28) (e : d 5 l = nI κ) : ∃ a, a < l ∧ d 7 l = nI a ∧ oix d l 7 = a ∧ d 5 a = 2 ∧ hsq d (nI κ) (nI a) l = false ∧ opr d l 8 ∧ nk d (oix d l 8) = nk d a ∧ (κ = 27 → FR d (oix d l 8) = false) := by
  obtain ⟨hW, hA, hI, hK⟩ := hF
  have hn := hW.1
  obtain ⟨κ', hκ', e', hL⟩ := hK l hl
  have : κ' = κ := (nI_eq (by omega) (by omega)).mp (e'.symm.trans e)
  subst this
  obtain ⟨l1, l3, lA, l8, lB, lC, l45, l6, lbin, l17, l18, l20, l21, l22, l24, l25, l26, l27, l29⟩ := hL
  obtain ⟨⟨a, ha, ea, e2, eh⟩, en, ef⟩ := l27 hκ
  have eo : oix d l 7 = a := by unfold oix; rw [ea, nI_clamp (by omega)]
  have hb : 7 ≤ κ' ∧ κ' ≤ 20 ∨ 24 ≤ κ' ∧ κ' ≤ 28 := by
    clear l1 l3 lA l8 lB lC l45 l6 lbin l17 l18 l20 l21 l22 l24 l25 l26 l27 l29
    omega
  exact ⟨a, ha, ea, eo, e2, eh, lB hb, by rw [en, eo], ef⟩
theorem nx_o {d : HI} {v : Nat → Nat} {n : Nat} (hF : WF d n) : ∀ {l : Nat}, l ≤ n → ∀ {k : Nat}, ¬ d 5 k = 2 → nx d v l k = v k
  | 0, _, k, _ => rfl
  | l + 1, hl, k, h => by
    simp only [nx]
    rw [if_neg, nx_o hF (by omega) h]
    intro ⟨e, eo⟩
    obtain ⟨a, _, _, eo', e2, _⟩ := inf hF (show l < n by omega) 28 (Or.inr rfl) e
    rw [eo'] at eo; subst eo; exact h e2
theorem nx_lt {d : HI} {v : Nat → Nat} {n : Nat} (hF : WF d n) (hV : VR d n v) : ∀ {l : Nat}, l ≤ n → ∀ {k : Nat}, k < n → nod (d 5 k) → nx d v l k < 2 ^ bts (nk d k)
  | 0, _, k, hk, hno => hV k hk hno
  | l + 1, hl, k, hk, hno => by
    simp only [nx]
    split
    · rename_i h
      obtain ⟨a, ha, _, eo', e2, _, ho, en, _⟩ := inf hF (show l < n by omega) 28 (Or.inr rfl) h.1
      have := gv_lt hF.1 (fun i hi hni => hV i (by omega) hni) (show l ≤ n by omega) ho
      rw [en, ← eo', h.2] at this
      exact this
    · exact nx_lt hF hV (by omega) hk hno
theorem pM_advance {d hm : HI} {n : Nat} {hl : HL} {Φ : HI → HL → Prop} (hF : WF d n) (hR : RL d hm n) (v : Nat → Nat) (hS : SV d n hm v) (h : ∀ hm', G17 hm hm' → (∀ k, k < n → nod (d 5 k) → hm' 17 k = nI (nx d v n k)) → Φ hm' hl) : wpM_advance hm hl Φ := by
  have hW := hF.1
  have hn := hW.1
  unfold wpM_advance wbM_advance_0
  refine loop_0 (fun fu i (s : HI) => wbM_advance_2 fu (nI i) s hl Φ) (fun i s => ∃ g, s = s18 hm g ∧ ∀ l, l < i → d 5 l = 28 → g (oix d l 7) = nI (gv d v l 8)) n hm ⟨hm 18, (s18_s hm).symm, fun l hl => absurd hl (by omega)⟩ (fun m s hs => ?_) (fun m i s hi hs ih => ?_)
  · obtain ⟨g, e, hg⟩ := hs
    subst e
    have hRg : RL d (s18 hm g) n := RL_G hR (G_18 hm g)
    unfold wbM_advance_2
    refine br_t (by rw [hRg.1]; exact nI_le (Nat.le_refl _) (by omega)) ?_
    refine loop_0 (fun fu i (s : HI) => wbM_advance_56 fu (nI i) s hl Φ) (fun i s => ∃ g2, s = s17 (s18 hm g) g2 ∧ ∀ k, k < n → nod (d 5 k) → g2 k = nI (nx d v i k)) n (s18 hm g) ⟨s18 hm g 17, (s17_s _).symm, fun k hk hno => by rw [s18_c _ _ (by decide)]; exact hS.1 k hk hno⟩ (fun m2 s hs => ?_) (fun m2 i s hi hs ih => ?_)
    · obtain ⟨g2, e, hg2⟩ := hs
      subst e
      have hR2 : RL d (s17 (s18 hm g) g2) n := RL_17 hRg g2
      unfold wbM_advance_56
      refine br_t (by rw [hR2.1]; exact nI_le (Nat.le_refl _) (by omega)) ?_
      exact h _ (G_t (G_18 hm g) (G_17 _ g2)) (fun k hk hno => by rw [s17_17]; exact hg2 k hk hno)
    · obtain ⟨g2, e, hg2⟩ := hs
      subst e
      have hR2 : RL d (s17 (s18 hm g) g2) n := RL_17 hRg g2
      have hv : vp_in (nI i) 21 := vp_in_nI (by omega) (by omega)
      unfold wbM_advance_56 wbM_advance_97
      rw [nI_clamp (by omega), hR2.2 5 (by omega) (by omega) i hi, hR2.2 7 (by omega) (by omega) i hi, nI_n1, nI_1]
      refine br_f (by rw [hR2.1]; exact nI_ge hi (by omega)) ⟨hv, br_c (fun q => ?_) (fun q => ?_)⟩
      · obtain ⟨a, ha, ea, eo, e2, eh, ho, en, _⟩ := inf hF hi 28 (Or.inr rfl) q
        have hva : vp_in (d 7 i) 21 := by rw [ea]; exact vp_in_nI (by omega) (by omega)
        refine ⟨hv, hv, hva, hva, ?_⟩
        rw [ea, nI_clamp (by omega), s17_c _ _ (by decide), s18_18, s17_u]
        have ga := hg i hi q
        rw [eo] at ga
        refine ih _ ⟨_, rfl, fun k hk hno => ?_⟩
        simp only [nx, q, true_and, eo]
        by_cases z : k = a
        · rw [if_pos z, if_pos z.symm, ga]
        · rw [if_neg z, if_neg (fun y => z y.symm)]; exact hg2 k hk hno
      · refine ih _ ⟨g2, rfl, fun k hk hno => ?_⟩
        simp only [nx, q, false_and, if_false]; exact hg2 k hk hno
  · obtain ⟨g, e, hg⟩ := hs
    subst e
    have hRg : RL d (s18 hm g) n := RL_G hR (G_18 hm g)
    have hv : vp_in (nI i) 21 := vp_in_nI (by omega) (by omega)
    unfold wbM_advance_2 wbM_advance_48
    rw [nI_clamp (by omega), hRg.2 5 (by omega) (by omega) i hi, hRg.2 7 (by omega) (by omega) i hi, hRg.2 8 (by omega) (by omega) i hi, hRg.2 11 (by omega) (by omega) i hi, nI_n1, nI_1]
    refine br_f (by rw [hRg.1]; exact nI_ge hi (by omega)) ⟨hv, br_c (fun q => ?_) (fun q => ?_)⟩
    · obtain ⟨a, ha, ea, eo, e2, eh, ho, en, _⟩ := inf hF hi 28 (Or.inr rfl) q
      have hva : vp_in (d 7 i) 21 := by rw [ea]; exact vp_in_nI (by omega) (by omega)
      refine ⟨hv, hv, hv, pM_getO hW hRg i 8 (fun k hk hno => ?_) (fun k hk hno => hS.2.1 k (by omega) hno) (by omega) ho ⟨hva, ?_⟩⟩
      · rw [s18_c _ _ (by decide)]; exact hS.1 k (by omega) hno
      · rw [ea, nI_clamp (by omega), s18_u]
        refine ih _ ⟨_, rfl, fun l hl2 ql => ?_⟩
        by_cases z : l = i
        · subst z; rw [if_pos eo]
        · have hl' : l < i := by omega
          obtain ⟨a', ha', ea', eo', _⟩ := inf hF (show l < n by omega) 28 (Or.inr rfl) ql
          have ne : ¬ oix d l 7 = a := fun y => hsq_f eh l hl' ⟨ql, by rw [ea', ← y, eo']⟩
          rw [if_neg ne]; exact hg l hl' ql
    · refine ih _ ⟨g, rfl, fun l hl2 ql => ?_⟩
      by_cases z : l = i
      · subst z; exact absurd ql q
      · exact hg l (by omega) ql
/-- what the init lines say, all inputs and states being 0 -/
def ivl (d : HI) (v : Nat → Nat) : Nat → Nat → Nat
  | 0, _ => 0
  | l + 1, k => if d 5 l = 27 ∧ oix d l 7 = k then gv d v l 8 else ivl d v l k
theorem ivl_lt {d : HI} {v : Nat → Nat} {n : Nat} (hF : WF d n) (hV : VR d n v) : ∀ {l : Nat}, l ≤ n → ∀ {k : Nat}, k < n → nod (d 5 k) → ivl d v l k < 2 ^ bts (nk d k)
  | 0, _, k, hk, hno => Nat.two_pow_pos _
  | l + 1, hl, k, hk, hno => by
    simp only [ivl]
    split
    · rename_i h
      obtain ⟨a, ha, _, eo', e2, _, ho, en, _⟩ := inf hF (show l < n by omega) 27 (Or.inl rfl) h.1
      have := gv_lt hF.1 (fun i hi hni => hV i (by omega) hni) (show l ≤ n by omega) ho
      rw [en, ← eo', h.2] at this
      exact this
    · exact ivl_lt hF hV (by omega) hk hno
theorem ivl_o {d : HI} {v : Nat → Nat} {n : Nat} (hF : WF d n) : ∀ {l : Nat}, l ≤ n → ∀ {k : Nat}, ¬ d 5 k = 2 → ivl d v l k = 0
  | 0, _, k, _ => rfl
  | l + 1, hl, k, h => by
    simp only [ivl]
    rw [if_neg, ivl_o hF (by omega) h]
    intro ⟨e, eo⟩
    obtain ⟨a, _, _, eo', e2, _⟩ := inf hF (show l < n by omega) 27 (Or.inl rfl) e
    rw [eo'] at eo; subst eo; exact h e2
theorem pM_initz {d hm : HI} {n : Nat} {hl : HL} {Φ : HI → HL → Prop} (hF : WF d n) (hR : RL d hm n) (h : ∀ v hm', VR d n v → Sett d n v → (∀ k, k < n → fre d k → v k = 0) → G17 hm hm' → (∀ k, k < n → fre d k → hm' 17 k = nI (ivl d v n k)) → Φ hm' hl) : wpM_initz hm hl Φ := by
  have hW := hF.1
  have hn := hW.1
  unfold wpM_initz wbM_initz_0
  refine loop_0 (fun fu i (s : HI) => wbM_initz_2 fu (nI i) s hl Φ) (fun i s => ∃ g, s = s17 hm g ∧ ∀ k, k < i → fre d k → g k = nI 0) n hm ⟨hm 17, (s17_s hm).symm, fun l hl => absurd hl (by omega)⟩ (fun m s hs => ?_) (fun m i s hi hs ih => ?_)
  · obtain ⟨g, e, hg⟩ := hs
    subst e
    have hRg : RL d (s17 hm g) n := RL_17 hR g
    unfold wbM_initz_2
    refine br_t (by rw [hRg.1]; exact nI_le (Nat.le_refl _) (by omega)) ?_
    refine pM_settle' hF hRg (fun _ => 0) (fun k hk hf => ⟨by rw [s17_17]; exact hg k hk hf, Nat.two_pow_pos _⟩) (fun v hm1 g1 hS hv0 => ?_)
    have hR1 : RL d hm1 n := RL_G hRg g1
    refine loop_0 (fun fu i (s : HI) => wbM_initz_49 fu (nI i) s hl Φ) (fun i s => ∃ g2, s = s17 hm1 g2 ∧ (∀ k, k < n → fre d k → g2 k = nI (ivl d v i k)) ∧ (∀ k, k < n → nod (d 5 k) → ¬ d 5 k ≤ 2 → g2 k = nI (v k))) n hm1 ⟨hm1 17, (s17_s _).symm, fun k hk hf => by rw [hS.1 k hk hf.1, hv0 k hk hf]; rfl, fun k hk hno _ => hS.1 k hk hno⟩ (fun m2 s hs => ?_) (fun m2 i s hi hs ih => ?_)
    · obtain ⟨g2, e, hg2, hg3⟩ := hs
      subst e
      have hR2 : RL d (s17 hm1 g2) n := RL_17 hR1 g2
      unfold wbM_initz_49
      refine br_t (by rw [hR2.1]; exact nI_le (Nat.le_refl _) (by omega)) ?_
      exact h v _ hS.2.1 hS.2.2 hv0 (G_t (G_17 hm g) (G_t g1 (G_17 _ g2))) (fun k hk hno => by rw [s17_17]; exact hg2 k hk hno)
    · obtain ⟨g2, e, hg2, hg3⟩ := hs
      subst e
      have hR2 : RL d (s17 hm1 g2) n := RL_17 hR1 g2
      have hv : vp_in (nI i) 21 := vp_in_nI (by omega) (by omega)
      unfold wbM_initz_49 wbM_initz_95
      rw [nI_clamp (by omega), hR2.2 5 (by omega) (by omega) i hi, hR2.2 7 (by omega) (by omega) i hi, hR2.2 8 (by omega) (by omega) i hi, hR2.2 11 (by omega) (by omega) i hi, nI_n1, nI_1]
      refine br_f (by rw [hR2.1]; exact nI_ge hi (by omega)) ⟨hv, br_c (fun q => ?_) (fun q => ?_)⟩
      · obtain ⟨a, ha, ea, eo, e2, eh, ho, en, ef⟩ := inf hF hi 27 (Or.inl rfl) q
        have hva : vp_in (d 7 i) 21 := by rw [ea]; exact vp_in_nI (by omega) (by omega)
        have ho' := ho
        obtain ⟨b, hb, eb, hnb, t, et, htt⟩ := ho'
        have eob : oix d i 8 = b := by unfold oix; rw [eb, nI_clamp (by omega)]
        have fb := ef rfl
        rw [eob] at fb
        obtain ⟨κb, hκb, e5b, _⟩ := hF.2.2.2 b (by omega)
        have nfb : ¬ d 5 b ≤ 2 := fun z => by
          have hc := fre_c hκb e5b ⟨hnb, z⟩
          have := FR_eq hn hF.2.1 (show b < n by omega)
          rw [fb] at this
          rcases hc with c | c <;> simp [frs, c] at this
        refine ⟨hv, hv, hv, ?_⟩
        have hget : wpM_get (nI b) (bI t) (s17 hm1 g2) hl (fun r5 hi6 hl7 => vp_in (d 7 i) 21 ∧ wbM_initz_49 m2 (nI (i + 1)) (u2 hi6 17 (d 7 i).toNatClampNeg r5) hl7 Φ) := by
          refine pM_get hW hR2 b (by omega) hnb (by rw [s17_17]; exact hg3 b (by omega) hnb nfb) (hS.2.1 b (by omega) hnb) t htt ⟨hva, ?_⟩
          rw [ea, nI_clamp (by omega), s17_u]
          have egv : gv d v i 8 = if t = true then 2 ^ nk d b - 1 - v b else v b := by
            unfold gv; rw [eob, et]
            cases t
            · rw [bI_f, if_pos rfl, if_neg (by decide)]
            · rw [bI_t, if_neg (by decide), if_pos rfl]
          refine ih _ ⟨_, rfl, fun k hk hno => ?_, fun k hk hno hc => ?_⟩
          · simp only [ivl, q, true_and, eo]
            by_cases z : k = a
            · rw [if_pos z, if_pos z.symm, egv]
            · rw [if_neg z, if_neg (fun y => z y.symm)]; exact hg2 k hk hno
          · have z : ¬ k = a := fun z => by subst z; exact hc (by rw [e2]; decide)
            rw [if_neg z]; exact hg3 k hk hno hc
        rw [← eb, ← et] at hget
        exact hget
      · refine ih _ ⟨g2, rfl, fun k hk hno => ?_, hg3⟩
        simp only [ivl, q, false_and, if_false]; exact hg2 k hk hno
  · obtain ⟨g, e, hg⟩ := hs
    subst e
    have hRg : RL d (s17 hm g) n := RL_17 hR g
    have hv : vp_in (nI i) 21 := vp_in_nI (by omega) (by omega)
    unfold wbM_initz_2 wbM_initz_30 wbM_initz_37
    rw [nI_clamp (by omega), hRg.2 5 (by omega) (by omega) i hi, nI_n1, nI_1]
    have set0 : wbM_initz_2 m (nI (i + 1)) (u2 (s17 hm g) 17 i 0) hl Φ := by
      rw [s17_u]
      refine ih _ ⟨_, rfl, fun k hk hf => ?_⟩
      by_cases z : k = i
      · rw [if_pos z]; rfl
      · rw [if_neg z]; exact hg k (by omega) hf
    refine br_f (by rw [hRg.1]; exact nI_ge hi (by omega)) ⟨hv, br_c (fun q => ⟨hv, set0⟩) (fun q1 => ⟨hv, br_c (fun q => ⟨hv, set0⟩) (fun q2 => ?_)⟩)⟩
    refine ih _ ⟨g, rfl, fun k hk hf => ?_⟩
    by_cases z : k = i
    · subst z
      obtain ⟨κ, hκ, e5, _⟩ := hF.2.2.2 k hi
      rcases fre_c hκ e5 hf with c | c
      · exact absurd c q1
      · exact absurd c q2
    · exact hg k (by omega) hf
