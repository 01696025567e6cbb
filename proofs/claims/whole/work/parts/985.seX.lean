/-! X: near sets, inputs -/
theorem sh1 : ∀ p, p ∈ List.range 31 → (1 : Int32) <<< (nI p &&& 31) = nI (2 ^ p) := by decide +kernel
theorem sh_1 {p : Nat} (h : p ≤ 30) : (1 : Int32) <<< (nI p &&& 31) = nI (2 ^ p) := sh1 p (List.mem_range.mpr (by omega))
theorem bt1_k : ∀ i, i ∈ List.range 64 → ∀ τ, τ ∈ List.range 64 → bt ((1 : Int64) <<< ((nI i).toInt64 &&& 63)) τ = decide (τ = i) := by decide +kernel
theorem bt_hi (x : Int64) {τ : Nat} (h : 64 ≤ τ) : bt x τ = false := by
  unfold bt; exact BitVec.getLsbD_of_ge _ _ h
theorem bt1 {i : Nat} (hi : i < 64) (τ : Nat) : bt ((1 : Int64) <<< ((nI i).toInt64 &&& 63)) τ = decide (τ = i) := by
  by_cases c : τ < 64
  · exact bt1_k i (List.mem_range.mpr hi) τ (List.mem_range.mpr c)
  · rw [bt_hi _ (by omega), decide_eq_false (by omega)]
theorem bt_z {x : Int64} : x = 0 ↔ ∀ τ, τ < 64 → bt x τ = false := by
  refine ⟨fun h τ _ => by rw [h]; exact bt_0 τ, fun h => ?_⟩
  apply Int64.toBitVec_inj.mp
  apply BitVec.eq_of_getLsbD_eq
  intro i hi
  have a := h i hi
  have b := bt_0 i
  unfold bt at a b
  rw [a, b]
def XH (h0 hl : HL) : Prop := ∀ c, c ≠ 21 → hl c = h0 c
def NRr (y : Sy) (S : Nat) (hl : HL) (r : Nat) : Prop := ∀ τ, τ < 64 → (bt (hl 21 r) τ = true ↔ τ < 2 ^ S ∧ nr y r τ)
/-- what the search wants of the book -/
def XB (d : HI) (n : Nat) (hx : HI) : Prop := RXL d hx n ∧ PLC d n hx
theorem pX_leads {d hx : HI} {n : Nat} {h0 hl : HL} {Φ : Int32 → HI → HL → Prop} (hB : XB d n hx) (hH : XH h0 hl) (r σ ι : Nat) (hr : r ≤ 4) (hσ : σ < 2 ^ tot d (nI 2) n) (hι : ι < 2 ^ tot d (nI 1) n) (hN : ∀ q, r = q + 1 → NRr (sy d n h0) (tot d (nI 2) n) hl q)
    (h : ∀ b, (b = true ↔ ldx (sy d n h0) r σ ι) → Φ (bI b) hx hl) : wpS_leads (nI σ) (nI ι) (nI r) hx hl Φ := by
  have h64 := st_64 hB.2 hσ
  have h4 := in_4 hB.2 hι
  have hv : vp_in (nI ι) 4 := vp_in_nI h4 (by omega)
  unfold wpS_leads wbS_leads_0
  rw [nI_clamp (by omega), pX_has _ σ h64, hH 9 (by decide), hH 8 (by decide)]
  refine ⟨hv, br_c (fun q => ⟨i01_0, h false ⟨fun z => absurd z (by decide), fun z => ?_⟩⟩) (fun q => ⟨hv, ?_⟩)⟩
  · rw [bI_0] at q
    have z1 : bt (h0 9 ι) σ = true := by cases r <;> exact z.1
    exact absurd (q.symm.trans z1) (by decide)
  · rw [bI_ne] at q
    rw [pX_has _ σ h64]
    cases r with
    | zero =>
      refine br_t rfl ?_
      unfold wbS_leads_38 wbS_leads_70
      refine br_c (fun z => br_t rfl ⟨i01_1, h true ⟨fun _ => ⟨q, ?_⟩, fun _ => rfl⟩⟩) (fun z => ⟨i01_0, h false ⟨fun y => absurd y (by decide), fun y => ?_⟩⟩)
      · rw [bI_1] at z; exact z
      · rw [bI_1] at z; exact absurd y.2 z
    | succ r =>
      have hne : ¬ nI (r + 1) = 0 := nI_ne0 (by omega) (by omega)
      refine br_f hne ?_
      unfold wbS_leads_38 wbS_leads_70
      refine br_c (fun z => br_f hne ?_) (fun z => ⟨i01_0, h false ⟨fun y => absurd y (by decide), fun y => ?_⟩⟩)
      · rw [bI_0] at z
        rw [nI_pred, nI_clamp (by omega)]
        refine ⟨vp_in_nI (by omega) (by omega), pX_after (tot d (nI 2) n) σ ι hB.2.2.2.2 hB.1.2.2.1 h64 h4 ?_⟩
        have eA : AF hl (tot d (nI 2) n) σ ι = AF h0 (tot d (nI 2) n) σ ι := by unfold AF; rw [hH 7 (by decide)]
        have hA := AF_lt h0 (tot d (nI 2) n) σ ι
        have hA64 := st_64 hB.2 hA
        rw [eA, pX_has _ _ hA64]
        have hN' := hN r rfl _ hA64
        refine br_c (fun y => ⟨i01_0, h false ⟨fun u => absurd u (by decide), fun u => ?_⟩⟩) (fun y => ⟨i01_1, h true ⟨fun _ => ⟨q, z, ?_⟩, fun _ => rfl⟩⟩)
        · rw [bI_0] at y
          exact absurd (y.symm.trans (hN'.mpr ⟨hA, u.2.2⟩)) (by decide)
        · rw [bI_ne] at y
          exact (hN'.mp y).2
      · rw [bI_0] at z; exact absurd y.2.1 z
theorem pX_gather {d hx : HI} {n : Nat} {h0 hl : HL} {Φ : HI → HL → Prop} (hB : XB d n hx) (hH : XH h0 hl) (r : Nat) (hr : r ≤ 3) (hN : ∀ q, q < r → NRr (sy d n h0) (tot d (nI 2) n) hl q)
    (h : ∀ hl', XH h0 hl' → (∀ q, q ≤ r → NRr (sy d n h0) (tot d (nI 2) n) hl' q) → Φ hx hl') : wpS_gather (nI r) hx hl Φ := by
  have hS6 := hB.2.2.2.2
  have hI2 := hB.2.2.2.1
  have p6 := p2_64 hS6
  have p2 : (2 : Nat) ^ tot d (nI 1) n ≤ 2 ^ 2 := Nat.pow_le_pow_right (by omega) hI2
  have hvr : vp_in (nI r) 4 := vp_in_nI (by omega) (by omega)
  unfold wpS_gather wbS_gather_0
  rw [nI_clamp (by omega)]
  refine ⟨hvr, ?_⟩
  refine loop_0 (fun fu i (s : HL) => wbS_gather_9 fu (nI r) (nI i) hx s Φ) (fun i s => XH h0 s ∧ (∀ q, q < r → s 21 q = hl 21 q) ∧ ∀ τ, τ < 64 → (bt (s 21 r) τ = true ↔ τ < i ∧ nr (sy d n h0) r τ)) (2 ^ tot d (nI 2) n) (u2 hl 21 r 0) ⟨fun c hc => by rw [u2_cf _ _ _ hc]; exact hH c hc, fun q hq => u2_j _ _ _ _ (by omega), fun τ _ => by rw [u2_s, bt_0]; exact ⟨fun z => absurd z (by decide), fun z => absurd z.1 (by omega)⟩⟩ (fun m s hs => ?_) (fun m i s hi hs ih => ?_)
  · obtain ⟨s1, s2, s3⟩ := hs
    unfold wbS_gather_9
    rw [hB.1.2.2.1, sh_1 (by omega)]
    refine br_t (nI_le (Nat.le_refl _) (by omega)) (h s s1 (fun q hq => ?_))
    by_cases z : q = r
    · subst z; exact s3
    · intro τ hτ
      rw [s2 q (by omega)]; exact hN q (by omega) τ hτ
  · obtain ⟨s1, s2, s3⟩ := hs
    unfold wbS_gather_9
    rw [hB.1.2.2.1, sh_1 (by omega)]
    refine br_f (nI_ge hi (by omega)) ?_
    refine loop_0 (fun fu j (p : HL) => wbS_gather_24 (fun v1 v2 hi hl => wbS_gather_9 m v1 v2 hi hl Φ) fu (nI r) (nI i) (nI j) hx p Φ) (fun j p => XH h0 p ∧ (∀ q, q < r → p 21 q = hl 21 q) ∧ ∀ τ, τ < 64 → (bt (p 21 r) τ = true ↔ (τ < i ∧ nr (sy d n h0) r τ) ∨ (τ = i ∧ ∃ ι, ι < j ∧ ldx (sy d n h0) r i ι))) (2 ^ tot d (nI 1) n) s ⟨s1, s2, fun τ hτ => by
      rw [s3 τ hτ]
      exact ⟨Or.inl, fun z => z.elim id (fun ⟨_, ι, hι, _⟩ => absurd hι (by omega))⟩⟩ (fun m2 p hp => ?_) (fun m2 j p hj hp ih2 => ?_)
    · obtain ⟨p1, p2', p3⟩ := hp
      unfold wbS_gather_24
      rw [hB.1.2.1, sh_1 (by omega), nI_n1, nI_1 i]
      refine br_t (nI_le (Nat.le_refl _) (by omega)) (ih p ⟨p1, p2', fun τ hτ => ?_⟩)
      rw [p3 τ hτ]
      have key := nr_ld (sy d n h0) r i
      refine ⟨fun z => ?_, fun z => ?_⟩
      · rcases z with z | ⟨z, w⟩
        · exact ⟨by omega, z.2⟩
        · subst z; exact ⟨by omega, key.mpr w⟩
      · by_cases c : τ = i
        · subst c; exact Or.inr ⟨rfl, key.mp z.2⟩
        · exact Or.inl ⟨by omega, z.2⟩
    · obtain ⟨p1, p2', p3⟩ := hp
      unfold wbS_gather_24 wbS_gather_59
      rw [hB.1.2.1, sh_1 (by omega)]
      refine br_f (nI_ge hj (by omega)) (pX_leads hB p1 r i j (by omega) hi hj (fun q hq τ hτ => ?_) (fun b hb => ?_))
      · rw [p2' q (by omega)]; exact hN q (by omega) τ hτ
      · rw [nI_clamp (by omega), nI_n1, nI_1 j]
        refine br_c (fun z => ?_) (fun z => ⟨hvr, hvr, ?_⟩)
        · rw [bI_0] at z
          refine ih2 p ⟨p1, p2', fun τ hτ => ?_⟩
          rw [p3 τ hτ]
          refine ⟨fun w => w.imp id (fun ⟨a, ι, c, e⟩ => ⟨a, ι, by omega, e⟩), fun w => w.imp id (fun ⟨a, ι, c, e⟩ => ⟨a, ι, ?_, e⟩)⟩
          by_cases y : ι = j
          · subst y
            rw [hb.mpr e] at z; exact absurd z (by decide)
          · omega
        · rw [bI_ne] at z
          refine ih2 _ ⟨fun c hc => by rw [u2_cf _ _ _ hc]; exact p1 c hc, fun q hq => by rw [u2_j _ _ _ _ (by omega)]; exact p2' q hq, fun τ hτ => ?_⟩
          rw [u2_s, bt_or, bt1 (by omega), Bool.or_eq_true, decide_eq_true_eq, p3 τ hτ]
          refine ⟨fun w => ?_, fun w => ?_⟩
          · rcases w with w | w
            · exact w.imp id (fun ⟨a, ι, c, e⟩ => ⟨a, ι, by omega, e⟩)
            · exact Or.inr ⟨w, j, by omega, hb.mp z⟩
          · rcases w with w | ⟨a, _⟩
            · exact Or.inl (Or.inl w)
            · exact Or.inr a
theorem pX_inputAt {d hx : HI} {n : Nat} {hl : HL} {Φ : Int32 → HI → HL → Prop} (hF : WF d n) (hB : XB d n hx) (m : Nat) (hm : m < 2 ^ tot d (nI 1) n) (h : Φ (nI (ia d n m)) hx hl) : wpB_inputAt (nI m) hx hl Φ := by
  have hn := hF.1.1
  have hI2 := hB.2.2.2.1
  have m4 := in_4 hB.2 hm
  unfold wpB_inputAt wbB_inputAt_0
  rw [hB.1.2.1]
  refine loop_0 (fun fu i (s : Int32 × Int32) => wbB_inputAt_10 fu (nI m) s.1 s.2 (nI i) hx hl Φ) (fun i s => s.1 = nI (enc d (nI 1) (fun k => m / 2 ^ (tot d (nI 1) n - tot d (nI 1) (k + 1)) % 2 ^ bts (nk d k)) i) ∧ s.2 = nI (tot d (nI 1) n - tot d (nI 1) i)) n (0, nI (tot d (nI 1) n)) ⟨rfl, by simp only [tot, Nat.sub_zero]⟩ (fun fu s hs => ?_) (fun fu i s hi hs ih => ?_)
  · unfold wbB_inputAt_10
    exact br_t (by rw [hB.1.1]; exact nI_le (Nat.le_refl _) (by omega)) (by rw [hs.1]; exact h)
  · obtain ⟨s1, s2⟩ := hs
    obtain ⟨⟨κ, hκ, eκ⟩, l0, l1, l2, l3, l4⟩ := hB.1.2.2.2.2 i hi
    have hvi : vp_in (nI i) 20 := vp_in_nI (by omega) (by omega)
    have hvk : vp_in (d 5 i) 31 := by rw [eκ]; exact vp31 κ (by omega)
    unfold wbB_inputAt_10 wbB_inputAt_79
    rw [nI_clamp (by omega), l1, nI_n1, nI_1 i, s1, s2]
    refine br_f (by rw [hB.1.1]; exact nI_ge hi (by omega)) ⟨hvi, hvk, vp31 1 (by omega), br_c (fun e => ⟨hvi, ?_⟩) (fun e => ?_)⟩
    · have e' : d 5 i = nI 1 := e
      have hno := (fre_1 e).1
      have ts := tot_s e'
      have tm := tot_m (d := d) (what := nI 1) (show i + 1 ≤ n by omega)
      have p4 : hx (24 + i) 4 = nI (tot d (nI 1) i) := by rw [hB.2.1 i hi (Or.inl e), pl_w e']
      rw [(l3 hno).1]
      have en : sc d (d 6 i).toNatClampNeg = nk d i := rfl
      rw [en, pX_bitsOf _ (n_7 hF.1 hi hno), p4, pk_sub (by omega)]
      have e1 : tot d (nI 1) n - tot d (nI 1) i - bts (nk d i) = tot d (nI 1) n - tot d (nI 1) (i + 1) := by omega
      have hdl : m / 2 ^ (tot d (nI 1) n - tot d (nI 1) (i + 1)) ≤ m := Nat.div_le_self _ _
      rw [e1, pk_ushrN (by omega) _ _ (su_k (tot d (nI 1) n - tot d (nI 1) (i + 1)) (List.mem_range.mpr (by omega))), pk_andN (by omega) (bts (nk d i)) (mk_k _ (List.mem_range.mpr (by omega)))]
      rw [or_f (w := bts (nk d i)) (enc_lt (fun _ _ _ => Nat.mod_lt _ (Nat.two_pow_pos _))) (Nat.mod_lt _ (Nat.two_pow_pos _)) (by omega)]
      refine ⟨hvi, ?_⟩
      have := ih (nI (enc d (nI 1) (fun k => m / 2 ^ (tot d (nI 1) n - tot d (nI 1) (k + 1)) % 2 ^ bts (nk d k)) (i + 1)), nI (tot d (nI 1) n - tot d (nI 1) (i + 1))) ⟨rfl, rfl⟩
      rw [enc_s e'] at this; exact this
    · have e' : ¬ d 5 i = nI 1 := e
      have := ih (nI (enc d (nI 1) (fun k => m / 2 ^ (tot d (nI 1) n - tot d (nI 1) (k + 1)) % 2 ^ bts (nk d k)) (i + 1)), nI (tot d (nI 1) n - tot d (nI 1) (i + 1))) ⟨rfl, rfl⟩
      rw [enc_e e', tot_e e'] at this; exact this
/-- each value of the inputs has its number -/
theorem ia_sur {d : HI} {n ι : Nat} (hι : ι < 2 ^ tot d (nI 1) n) : ∃ m, m < 2 ^ tot d (nI 1) n ∧ ia d n m = ι := by
  have hlt := pkT_lt (d := d) (T := inT d) (f := fld d ι) (m := n) (fun _ _ _ => fld_lt _ _ _)
  rw [tof_in] at hlt
  refine ⟨_, hlt, fld_inj (ia_lt d n _) hι (fun k hk e => ?_)⟩
  rw [ia_f hk e, ← tof_in, ← tof_in]
  exact pkT_f (fun _ _ _ => fld_lt _ _ _) hk (by unfold inT; exact decide_eq_true e)
theorem sy_ok (d : HI) (n : Nat) (hl : HL) : yok (sy d n hl) := ⟨fun m _ => ia_lt d n m, fun _ h => ia_sur h⟩
theorem pX_leastInput {d hx : HI} {n : Nat} {h0 hl : HL} {Φ : Int32 → HI → HL → Prop} (hF : WF d n) (hB : XB d n hx) (hH : XH h0 hl) (r σ : Nat) (hr : r ≤ 3) (hσ : σ < 2 ^ tot d (nI 2) n) (hN : ∀ q, q < r → NRr (sy d n h0) (tot d (nI 2) n) hl q) (hnr : nr (sy d n h0) r σ)
    (h : ∀ m, m < 2 ^ tot d (nI 1) n → ldx (sy d n h0) r σ (ia d n m) → (∀ m', m' < m → ¬ ldx (sy d n h0) r σ (ia d n m')) → Φ (nI (ia d n m)) hx hl) : wpS_leastInput (nI σ) (nI r) hx hl Φ := by
  have hI2 := hB.2.2.2.1
  have p2 : (2 : Nat) ^ tot d (nI 1) n ≤ 2 ^ 2 := Nat.pow_le_pow_right (by omega) hI2
  unfold wpS_leastInput wbS_leastInput_0
  refine loop_0 (fun fu i (_ : Unit) => wbS_leastInput_2 fu (nI σ) (nI r) (nI i) hx hl Φ) (fun i _ => ∀ m', m' < i → ¬ ldx (sy d n h0) r σ (ia d n m')) (2 ^ tot d (nI 1) n) () (fun m' hm' => absurd hm' (by omega)) (fun fu _ hs => ?_) (fun fu i _ hi hs ih => ?_)
  · obtain ⟨ι, hι, hl⟩ := (nr_ld _ r σ).mp hnr
    obtain ⟨m, hm, e⟩ := ia_sur hι
    rw [← e] at hl
    exact absurd hl (hs m hm)
  · unfold wbS_leastInput_2
    rw [hB.1.2.1, sh_1 (by omega)]
    refine br_f (nI_ge hi (by omega)) (pX_inputAt hF hB i hi (pX_leads hB hH r σ _ (by omega) hσ (ia_lt d n i) (fun q hq => hN q (by omega)) (fun b hb => ?_)))
    rw [nI_n1, nI_1 i]
    refine br_c (fun z => ih () (fun m' hm' => ?_)) (fun z => ?_)
    · rw [bI_0] at z
      by_cases y : m' = i
      · subst y
        intro w
        rw [hb.mpr w] at z; exact absurd z (by decide)
      · exact hs m' (by omega)
    · rw [bI_ne] at z
      exact h i hi (hb.mp z) hs
