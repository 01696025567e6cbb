/-! M: leads, isStretch -/
def sy (d : HI) (n : Nat) (hl : HL) : Sy := (fun σ ι => bt (hl 9 ι) σ, fun σ ι => bt (hl 8 ι) σ, AF hl (tot d (nI 2) n), ia d n, tot d (nI 1) n)
theorem ivl_u {d : HI} {n : Nat} (hF : WF d n) {v v' : Nat → Nat} (v1 : VR d n v) (v2 : Sett d n v) (v3 : ∀ k, k < n → fre d k → v k = 0) (w1 : VR d n v') (w2 : Sett d n v') (w3 : ∀ k, k < n → fre d k → v' k = 0) : ∀ l, l ≤ n → ∀ k, ivl d v l k = ivl d v' l k
  | 0, _, _ => rfl
  | l + 1, hl, k => by
    simp only [ivl, ivl_u hF v1 v2 v3 w1 w2 w3 l (by omega) k]
    by_cases q : d 5 l = 27 ∧ oix d l 7 = k
    · rw [if_pos q, if_pos q]
      obtain ⟨a, _, _, _, _, _, ⟨i, hi, ei, hni, _⟩, _⟩ := inf hF (show l < n by omega) 27 (Or.inl rfl) q.1
      have hn := hF.1.1
      refine gv_congr ?_
      have : oix d l 8 = i := by unfold oix; rw [ei, nI_clamp (by omega)]
      rw [this]
      exact sett_u hF v1 w1 v2 w2 (fun k hk hf => by rw [v3 k hk hf, w3 k hk hf]) i (by omega) hni
    · rw [if_neg q, if_neg q]
def sC (d : HI) (n : Nat) (any : Bool) (v0 : Nat → Nat) (c k : Nat) : Nat := if TA d n any k = true then c / 2 ^ (tof d (TA d n any) n - tof d (TA d n any) (k + 1)) % 2 ^ bts (nk d k) else ivl d v0 n k
/-- the state at step 0 that a number means -/
def st (d : HI) (n : Nat) (any : Bool) (v0 : Nat → Nat) (c : Nat) : Nat := enc d (nI 2) (sC d n any v0 c) n
theorem sC_lt {d : HI} {n : Nat} (hF : WF d n) {v0 : Nat → Nat} (v1 : VR d n v0) (any : Bool) (c : Nat) {k : Nat} (hk : k < n) (e : d 5 k = 2) : sC d n any v0 c k < 2 ^ bts (nk d k) := by
  unfold sC
  split
  · exact Nat.mod_lt _ (Nat.two_pow_pos _)
  · exact ivl_lt hF v1 (Nat.le_refl _) hk (fre_2 e).1
theorem st_lt {d : HI} {n : Nat} (hF : WF d n) {v0 : Nat → Nat} (v1 : VR d n v0) (any : Bool) (c : Nat) : st d n any v0 c < 2 ^ tot d (nI 2) n := enc_lt (fun k hk e => sC_lt hF v1 any c hk e)
theorem st_f {d : HI} {n : Nat} (hF : WF d n) {v0 : Nat → Nat} (v1 : VR d n v0) (any : Bool) (c : Nat) {k : Nat} (hk : k < n) (e : d 5 k = 2) : fld d (st d n any v0 c) k = sC d n any v0 c k := fld_enc (what := nI 2) (fun k hk e => sC_lt hF v1 any c hk e) hk e
theorem sV_C {d : HI} {n : Nat} {any : Bool} {v0 : Nat → Nat} {V q k : Nat} (hk : k < n) : sV d n any v0 V (tof d (TA d n any) n + q) k = sC d n any v0 (V / 2 ^ q) k := by
  unfold sV sC
  have := tof_le (d := d) (T := TA d n any) (show k + 1 ≤ n by omega)
  have e : tof d (TA d n any) n + q - tof d (TA d n any) (k + 1) = q + (tof d (TA d n any) n - tof d (TA d n any) (k + 1)) := by omega
  rw [e, Nat.div_div_eq_div_mul, ← Nat.pow_add]
theorem ld27 {d hm0 : HI} {n : Nat} {hl hz : HL} {Φ : Int32 → HI → HL → Prop} (hF : WF d n) (hR : RL d hm0 n) (hB : BDA d n hz) (hL : LAT d n hz) (hS6 : tot d (nI 2) n ≤ 6) (hI2 : tot d (nI 1) n ≤ 2) (V D : Nat) (hV : V < 2 ^ 31) (hD : D ≤ 9) :
    ∀ r s hm σ, s + r = D → G17 hm0 hm → σ < 2 ^ tot d (nI 2) n → (∀ k, k < n → d 5 k = 2 → hm 17 k = nI (fld d σ k)) → (∀ b hm', G17 hm0 hm' → (b = true ↔ MT (sy d n hz) r σ V) → Φ (bI b) hm' hl) → wbM_leads_27 (fun v1 v3 v4 v5 hi hl => wbM_leads_12 (r + 1) v1 v3 v4 v5 hi hl Φ) (nI V) (nI D) (nI ((r + 1) * tot d (nI 1) n)) (nI s) hm hl Φ := by
  intro r
  induction r with
  | zero =>
    intro s hm σ hs g hσ hst h
    unfold wbM_leads_27
    have hb : (0 + 1) * tot d (nI 1) n ≤ 30 := by omega
    refine pM_put hF (RL_G hR g) V 0 σ hV hb hst (fun v hm1 g1 hSv hA => ?_)
    have g2 := G_t g g1
    have h64 := p2_64 hS6
    have hι := ia_lt d n (dgt (tot d (nI 1) n) V 0)
    have h4 : (2 : Nat) ^ tot d (nI 1) n ≤ 2 ^ 2 := Nat.pow_le_pow_right (by omega) hI2
    obtain ⟨b1, b2⟩ := hB σ (by omega) _ (by omega) v hA
    refine pM_holds hF (RL_G hR g2) v hSv (br_c (fun q => ⟨i01_0, ?_⟩) (fun q => ?_))
    · rw [bI_0] at q
      refine h false hm1 g2 ⟨fun z => absurd z (by decide), fun z => ?_⟩
      have z1 : bt (hz 9 _) σ = true := z.1
      rw [← b2] at q
      exact absurd (q.symm.trans z1) (by decide)
    · rw [bI_ne] at q
      unfold wbM_leads_12
      rw [nI_n1, nI_1 s]
      refine br_t (nI_lt (by omega) (by omega)) (pM_isBad hF (RL_G hR g2) v hSv ⟨bI_01 _, h _ hm1 g2 ?_⟩)
      rw [← b1]
      exact ⟨fun z => ⟨b2.trans q, z⟩, fun z => z.2⟩
  | succ r ih =>
    intro s hm σ hs g hσ hst h
    unfold wbM_leads_27
    have hb : (r + 1 + 1) * tot d (nI 1) n ≤ 30 := by
      have : (r + 1 + 1) * tot d (nI 1) n ≤ (r + 1 + 1) * 2 := Nat.mul_le_mul_left _ hI2
      omega
    refine pM_put hF (RL_G hR g) V (r + 1) σ hV hb hst (fun v hm1 g1 hSv hA => ?_)
    have g2 := G_t g g1
    have h64 := p2_64 hS6
    have hι := ia_lt d n (dgt (tot d (nI 1) n) V (r + 1))
    have h4 : (2 : Nat) ^ tot d (nI 1) n ≤ 2 ^ 2 := Nat.pow_le_pow_right (by omega) hI2
    obtain ⟨b1, b2⟩ := hB σ (by omega) _ (by omega) v hA
    refine pM_holds hF (RL_G hR g2) v hSv (br_c (fun q => ⟨i01_0, ?_⟩) (fun q => ?_))
    · rw [bI_0] at q
      refine h false hm1 g2 ⟨fun z => absurd z (by decide), fun z => ?_⟩
      have z1 : bt (hz 9 _) σ = true := z.1
      rw [← b2] at q
      exact absurd (q.symm.trans z1) (by decide)
    · rw [bI_ne] at q
      unfold wbM_leads_12
      rw [nI_n1, nI_1 s]
      refine br_f (nI_nlt (by omega) (by omega)) (br_f (nI_nle (by omega) (by omega)) (pM_advance hF (RL_G hR g2) v hSv (fun hm2 g3 hx => ?_)))
      refine ih (s + 1) hm2 (AF hz (tot d (nI 2) n) σ (ia d n (dgt (tot d (nI 1) n) V (r + 1)))) (by omega) (G_t g2 g3) (AF_lt _ _ _ _) (fun k hk e => ?_) (fun b hm' g4 hb => h b hm' g4 ?_)
      · rw [hx k hk (fre_2 e).1, AF_f hL hF (by omega) (by omega) hA hk e]
      · rw [hb]
        exact ⟨fun z => ⟨b2.trans q, z⟩, fun z => z.2⟩
theorem pM_leads {d hm : HI} {n : Nat} {hl hz : HL} {Φ : Int32 → HI → HL → Prop} (hF : WF d n) (hR : RL d hm n) (hB : BDA d n hz) (hL : LAT d n hz) (hS6 : tot d (nI 2) n ≤ 6) (hI2 : tot d (nI 1) n ≤ 2) {v0 : Nat → Nat} (v1 : VR d n v0) (v2 : Sett d n v0) (v3 : ∀ k, k < n → fre d k → v0 k = 0) (V D : Nat) (hV : V < 2 ^ 31) (hD : D ≤ 9)
    (h : ∀ b hm', G17 hm hm' → (b = true ↔ MT (sy d n hz) D (st d n false v0 (V / 2 ^ ((D + 1) * tot d (nI 1) n))) V) → Φ (bI b) hm' hl) : wpM_leads (nI V) (nI (tof d (TA d n false) n + (D + 1) * tot d (nI 1) n)) (nI D) hm hl Φ := by
  unfold wpM_leads wbM_leads_0
  have ht := tofT_tot (d := d) (n := n) false n
  have hb : (D + 1) * tot d (nI 1) n ≤ (D + 1) * 2 := Nat.mul_le_mul_left _ hI2
  refine pM_start hF hR false V _ hV (by omega) (by omega) (fun w0 hm1 w1 w2 w3 g hx => ⟨D + 1 + 1, ?_⟩)
  have e : tof d (TA d n false) n + (D + 1) * tot d (nI 1) n - tof d (TA d n false) n = (D + 1) * tot d (nI 1) n := by omega
  rw [e]
  unfold wbM_leads_12
  refine br_f (nI_nlt (b := 0) (by omega) (by omega)) (br_t (by decide) ?_)
  refine ld27 hF hR hB hL hS6 hI2 V D hV hD D 0 hm1 (st d n false v0 (V / 2 ^ ((D + 1) * tot d (nI 1) n))) (by omega) g (st_lt hF v1 _ _) (fun k hk e2 => ?_) h
  rw [hx k hk (fre_2 e2), st_f hF v1 _ _ hk e2, sV_C hk]
  unfold sC
  rw [ivl_u hF w1 w2 w3 v1 v2 v3 n (Nat.le_refl _) k]
/-! packing from the first line down -/
def pkT (d : HI) (T : Nat → Bool) (f : Nat → Nat) : Nat → Nat
  | 0 => 0
  | k + 1 => if T k = true then pkT d T f k * 2 ^ bts (nk d k) + f k else pkT d T f k
theorem pkT_s {d : HI} {T : Nat → Bool} {f : Nat → Nat} {k : Nat} (h : T k = true) : pkT d T f (k + 1) = pkT d T f k * 2 ^ bts (nk d k) + f k := by simp only [pkT, h, if_true]
theorem pkT_e {d : HI} {T : Nat → Bool} {f : Nat → Nat} {k : Nat} (h : T k = false) : pkT d T f (k + 1) = pkT d T f k := by simp only [pkT, h, Bool.false_eq_true, if_false]
theorem pkT_lt {d : HI} {T : Nat → Bool} {f : Nat → Nat} : ∀ {m : Nat}, (∀ k, k < m → T k = true → f k < 2 ^ bts (nk d k)) → pkT d T f m < 2 ^ tof d T m
  | 0, _ => Nat.two_pow_pos _
  | k + 1, h => by
    have ih := pkT_lt (m := k) (fun i hi e => h i (by omega) e)
    cases e : T k
    · rw [pkT_e e, tof_e e]; exact ih
    · rw [pkT_s e, tof_s e, Nat.pow_add]
      have hf := h k (by omega) e
      have : (pkT d T f k + 1) * 2 ^ bts (nk d k) ≤ 2 ^ tof d T k * 2 ^ bts (nk d k) := Nat.mul_le_mul_right _ ih
      rw [Nat.add_mul, Nat.one_mul] at this
      omega
theorem pkT_d {d : HI} {T : Nat → Bool} {f : Nat → Nat} : ∀ {n : Nat}, (∀ k, k < n → T k = true → f k < 2 ^ bts (nk d k)) → ∀ {m : Nat}, m ≤ n → pkT d T f n / 2 ^ (tof d T n - tof d T m) = pkT d T f m
  | 0, _, m, hm => by
    have : m = 0 := by omega
    subst this; rw [Nat.sub_self, Nat.pow_zero, Nat.div_one]
  | n + 1, h, m, hm => by
    by_cases z : m = n + 1
    · subst z; rw [Nat.sub_self, Nat.pow_zero, Nat.div_one]
    · have ih := pkT_d (n := n) (fun i hi e => h i (by omega) e) (show m ≤ n by omega)
      have tl := tof_le (d := d) (T := T) (show m ≤ n by omega)
      cases e : T n
      · rw [pkT_e e, tof_e e]; exact ih
      · have hf := h n (by omega) e
        rw [pkT_s e, tof_s e]
        have e2 : tof d T n + bts (nk d n) - tof d T m = bts (nk d n) + (tof d T n - tof d T m) := by omega
        rw [e2, Nat.pow_add, ← Nat.div_div_eq_div_mul, Nat.add_comm (pkT d T f n * 2 ^ bts (nk d n)), Nat.add_mul_div_right _ _ (Nat.two_pow_pos _), Nat.div_eq_of_lt hf, Nat.zero_add]
        exact ih
theorem pkT_f {d : HI} {T : Nat → Bool} {f : Nat → Nat} {n : Nat} (h : ∀ k, k < n → T k = true → f k < 2 ^ bts (nk d k)) {i : Nat} (hi : i < n) (e : T i = true) : pkT d T f n / 2 ^ (tof d T n - tof d T (i + 1)) % 2 ^ bts (nk d i) = f i := by
  rw [pkT_d h (show i + 1 ≤ n by omega), pkT_s e, Nat.add_comm, Nat.add_mul_mod_self_right, Nat.mod_eq_of_lt (h i hi e)]
/-- the key of a state -/
def pkn (d : HI) (n σ : Nat) : Nat := pkT d (TA d n true) (fld d σ) n
theorem pkn_lt (d : HI) (n σ : Nat) : pkn d n σ < 2 ^ tot d (nI 2) n := by
  have := pkT_lt (d := d) (T := TA d n true) (f := fld d σ) (m := n) (fun _ _ _ => fld_lt _ _ _)
  rw [tofT_t] at this; exact this
theorem pkn_inj {d : HI} {n σ τ : Nat} (h1 : σ < 2 ^ tot d (nI 2) n) (h2 : τ < 2 ^ tot d (nI 2) n) (h : pkn d n σ = pkn d n τ) : σ = τ := by
  refine fld_inj h1 h2 (fun k hk e => ?_)
  have ht : TA d n true k = true := by rw [TA_t]; exact decide_eq_true e
  have a := pkT_f (d := d) (T := TA d n true) (f := fld d σ) (n := n) (fun _ _ _ => fld_lt _ _ _) hk ht
  have b := pkT_f (d := d) (T := TA d n true) (f := fld d τ) (n := n) (fun _ _ _ => fld_lt _ _ _) hk ht
  unfold pkn at h
  rw [h] at a
  exact a.symm.trans b
theorem pM_states {d hm : HI} {n : Nat} {hl : HL} {Φ : Int32 → HI → HL → Prop} (hW : WL d n) (hR : RL d hm n) (hS6 : tot d (nI 2) n ≤ 6) (σ : Nat) (hσ : ∀ k, k < n → d 5 k = 2 → hm 17 k = nI (fld d σ k)) (h : Φ (nI (pkn d n σ)) hm hl) : wpM_states hm hl Φ := by
  have hn := hW.1
  unfold wpM_states wbM_states_0
  refine loop_f (fun fu i s => wbM_states_4 fu s (nI i) hm hl Φ) (fun i => nI (pkT d (TA d n true) (fld d σ) i)) n (fun k => ?_) (fun k i hi ih => ?_)
  · unfold wbM_states_4
    exact br_t (by rw [hR.1]; exact nI_le (Nat.le_refl _) (by omega)) h
  · have hv : vp_in (nI i) 21 := vp_in_nI (by omega) (by omega)
    unfold wbM_states_4 wbM_states_45
    rw [nI_clamp (by omega), hR.2 5 (by omega) (by omega) i hi, hR.2 6 (by omega) (by omega) i hi, nI_n1, nI_1 i]
    refine br_f (by rw [hR.1]; exact nI_ge hi (by omega)) ⟨hv, br_c (fun e => ?_) (fun e => ?_)⟩
    · have hno := (fre_2 e).1
      have hb := bts_7 (n_7 hW hi hno)
      have ht : TA d n true i = true := by rw [TA_t]; exact decide_eq_true e
      have hlt := pkT_lt (d := d) (T := TA d n true) (f := fld d σ) (m := i + 1) (fun _ _ _ => fld_lt _ _ _)
      have tm := tof_le (d := d) (T := TA d n true) (show i + 1 ≤ n by omega)
      rw [tofT_t n] at tm
      have h64 := p2_64 (show tof d (TA d n true) (i + 1) ≤ 6 by omega)
      rw [pkT_s ht] at hlt
      rw [pM_bitsR hW hR i hi hno, hσ i hi e, pk_shlN _ (bts (nk d i)) (sm_k _ (List.mem_range.mpr (by omega))) (by omega), nI_add, ← pkT_s ht]
      exact ⟨hv, hv, ih⟩
    · have ht : TA d n true i = false := by rw [TA_t]; exact decide_eq_false e
      rw [← pkT_e (d := d) (f := fld d σ) ht]; exact ih
theorem pM_totalR {d hm : HI} {n : Nat} {hl : HL} {Φ : Int32 → HI → HL → Prop} (hW : WL d n) (hR : RL d hm n) (what : Int32) (hno : nod what) (h : Φ (nI (tot d what n)) hm hl) : wpM_total what hm hl Φ := by
  have hn := hW.1
  unfold wpM_total wbM_total_0
  refine loop_f (fun fu i s => wbM_total_4 fu what s (nI i) hm hl Φ) (fun i => nI (tot d what i)) n (fun k => ?_) (fun k i hk ih => ?_)
  · unfold wbM_total_4
    exact br_t (by rw [hR.1]; exact nI_le (Nat.le_refl _) (by omega)) h
  · unfold wbM_total_4 wbM_total_38
    have hv : vp_in (nI i) 21 := vp_in_nI (by omega) (by omega)
    refine br_f (by rw [hR.1]; exact nI_ge hk (by omega)) ⟨hv, ?_⟩
    rw [nI_clamp (by omega), nI_n1, nI_1 i, hR.2 5 (by omega) (by omega) i hk, hR.2 6 (by omega) (by omega) i hk]
    refine br_c (fun e => ⟨hv, ?_⟩) (fun e => ?_)
    · rw [pM_bitsR hW hR i hk (by rw [e]; exact hno), nI_add, ← tot_s e]; exact ih
    · rw [← tot_e e]; exact ih
theorem pM_places {d hm : HI} {n : Nat} {hl : HL} {Φ : Int32 → HI → HL → Prop} (hW : WL d n) (hR : RL d hm n) (any : Bool) (D : Nat) (h : Φ (nI (tof d (TA d n any) n + (D + 1) * tot d (nI 1) n)) hm hl) : wpM_places (nI D) (bI any) hm hl Φ := by
  unfold wpM_places wbM_places_0
  refine pM_totalR hW hR 1 ⟨by decide, by decide⟩ (pM_width hW hR any ?_)
  have e : (1 : Int32) = nI 1 := rfl
  rw [nI_1, e, pk_mul, nI_add]; exact h
/-! M: isStretch -/
def G20 (hm hm' : HI) : Prop := ∀ c, c ≠ 17 → c ≠ 18 → c ≠ 20 → hm' c = hm c
theorem G20_G {a b c : HI} (h : G20 a b) (k : G17 b c) : G20 a c := fun x h1 h2 h3 => (k x h1 h2).trans (h x h1 h2 h3)
theorem G20_u {a b : HI} (h : G20 a b) (j : Nat) (x : Int32) : G20 a (u2 b 20 j x) := fun c h1 h2 h3 => by rw [u2_cf _ _ _ h3]; exact h c h1 h2 h3
theorem RL_20 {d hm hm' : HI} {n : Nat} (h : RL d hm n) (g : G20 hm hm') : RL d hm' n :=
  ⟨by rw [g 0 (by decide) (by decide) (by decide)]; exact h.1, fun c h1 h2 k hk => by rw [g c (by omega) (by omega) (by omega)]; exact h.2 c h1 h2 k hk⟩
/-- whether none of the first j is x -/
def frh (f : Nat → Int32) (x : Int32) : Nat → Bool
  | 0 => true
  | j + 1 => frh f x j && decide (¬ f j = x)
theorem frh_t {f : Nat → Int32} {x : Int32} : ∀ {j : Nat}, frh f x j = true ↔ ∀ t, t < j → ¬ f t = x
  | 0 => ⟨fun _ t ht => absurd ht (by omega), fun _ => rfl⟩
  | j + 1 => by
    simp only [frh, Bool.and_eq_true, decide_eq_true_eq, frh_t (j := j)]
    refine ⟨fun ⟨a, b⟩ t ht => ?_, fun h => ⟨fun t ht => h t (by omega), h j (by omega)⟩⟩
    by_cases z : t = j
    · subst z; exact b
    · exact a t (by omega)
theorem fresh {hi : HI} {hl : HL} {Φ : Int32 → HI → HL → Prop} (k12 : (Int32 → Int32 → Int32 → Int32 → HI → HL → Prop)) (a b c : Int32) (s : Nat) (hs : s < 8)
    (h : wbM_isStretch_55 k12 1 a b c (nI s) (bI (frh (hi 20) (hi 20 s) s)) (nI s) hi hl Φ) : ∃ fu, wbM_isStretch_55 k12 fu a b c (nI s) 1 0 hi hl Φ := by
  refine loop_f (fun fu j q => wbM_isStretch_55 k12 fu a b c (nI s) q (nI j) hi hl Φ) (fun j => bI (frh (hi 20) (hi 20 s) j)) s (fun m => ?_) (fun m j hj ih => ?_)
  · unfold wbM_isStretch_55 at h ⊢
    exact br_t (nI_le (Nat.le_refl _) (by omega)) (h.1 (nI_le (Nat.le_refl _) (by omega)))
  · unfold wbM_isStretch_55 wbM_isStretch_88 wbM_isStretch_89
    rw [nI_clamp (by omega), nI_clamp (by omega), nI_n1, nI_1 j]
    refine br_f (nI_ge hj (by omega)) (br_c (fun q => ?_) (fun q => ⟨vp_in_nI (by omega) (by omega), vp_in_nI (by omega) (by omega), br_c (fun z => ?_) (fun z => ?_)⟩))
    · rw [bI_0] at q
      have : frh (hi 20) (hi 20 s) (j + 1) = false := by simp only [frh, q, Bool.false_and]
      rw [this] at ih; exact ih
    · have : frh (hi 20) (hi 20 s) (j + 1) = false := by simp [frh, z]
      rw [this] at ih; exact ih
    · rw [bI_ne] at q
      have : frh (hi 20) (hi 20 s) (j + 1) = true := by simp [frh, q, z]
      rw [this] at ih; exact ih
theorem st29 {d hm0 : HI} {n : Nat} {hl hz : HL} {Φ : Int32 → HI → HL → Prop} (hF : WF d n) (hR : RL d hm0 n) (hB : BDA d n hz) (hL : LAT d n hz) (hS6 : tot d (nI 2) n ≤ 6) (hI2 : tot d (nI 1) n ≤ 2) (V K : Nat) (hV : V < 2 ^ 31) (hK : K ≤ 5) :
    ∀ r s hm σ seen, s + r = K + 1 → G20 hm0 hm → σ < 2 ^ tot d (nI 2) n → (∀ k, k < n → d 5 k = 2 → hm 17 k = nI (fld d σ k)) → (∀ τ, τ < 2 ^ tot d (nI 2) n → (seen τ ↔ ∃ t, t < s ∧ hm 20 t = nI (pkn d n τ))) → (∀ b hm', G20 hm0 hm' → (b = true ↔ SM (sy d n hz) r seen σ V) → Φ (bI b) hm' hl) → wbM_isStretch_29 (fun v1 v3 v4 v5 hi hl => wbM_isStretch_12 (r + 1) v1 v3 v4 v5 hi hl Φ) (nI V) (nI K) (nI ((r + 1) * tot d (nI 1) n)) (nI s) hm hl Φ := by
  intro r
  induction r with
  | zero =>
    intro s hm σ seen hs g hσ hst hse h
    unfold wbM_isStretch_29
    have hb : (0 + 1) * tot d (nI 1) n ≤ 30 := by omega
    refine pM_put hF (RL_20 hR g) V 0 σ hV hb hst (fun v hm1 g1 hSv hA => ?_)
    have g2 := G20_G g g1
    have h64 := p2_64 hS6
    have hι := ia_lt d n (dgt (tot d (nI 1) n) V 0)
    have h4 : (2 : Nat) ^ tot d (nI 1) n ≤ 2 ^ 2 := Nat.pow_le_pow_right (by omega) hI2
    obtain ⟨b1, b2⟩ := hB σ (by omega) _ (by omega) v hA
    refine pM_states hF.1 (RL_20 hR g2) hS6 σ (fun k hk e => by rw [hSv.1 k hk (fre_2 e).1, (hA.2.2 k hk).1 e]) ⟨vp_in_nI (by omega) (by omega), ?_⟩
    rw [nI_clamp (by omega)]
    have g3 := G20_u g2 s (nI (pkn d n σ))
    have hfr : frh (u2 hm1 20 s (nI (pkn d n σ)) 20) (u2 hm1 20 s (nI (pkn d n σ)) 20 s) s = true ↔ ¬ seen σ := by
      rw [frh_t, hse σ hσ, u2_s]
      refine ⟨fun a ⟨t, ht, et⟩ => a t ht ?_, fun a t ht et => a ⟨t, ht, ?_⟩⟩
      · rw [u2_j _ _ _ _ (by omega), g1 20 (by decide) (by decide)]; exact et
      · rw [u2_j _ _ _ _ (by omega), g1 20 (by decide) (by decide)] at et; exact et
    refine fresh _ _ _ _ s (by omega) ?_
    have hSv3 : SV d n (u2 hm1 20 s (nI (pkn d n σ))) v := ⟨fun k hk hno => by rw [u2_c _ _ _ _ (by decide)]; exact hSv.1 k hk hno, hSv.2⟩
    unfold wbM_isStretch_55
    refine br_t (nI_le (Nat.le_refl _) (by omega)) (br_c (fun q => ⟨i01_0, ?_⟩) (fun q => ?_))
    · rw [bI_0] at q
      refine h false _ g3 ⟨fun z => absurd z (by decide), fun z => ?_⟩
      rw [hfr.mpr z.1] at q; exact absurd q (by decide)
    · rw [bI_ne] at q
      refine pM_holds hF (RL_20 hR g3) v hSv3 (br_c (fun q2 => ⟨i01_0, ?_⟩) (fun q2 => ?_))
      · rw [bI_0] at q2
        refine h false _ g3 ⟨fun z => absurd z (by decide), fun z => ?_⟩
        have z1 : bt (hz 9 _) σ = true := z.2.1
        rw [← b2] at q2
        exact absurd (q2.symm.trans z1) (by decide)
      · rw [bI_ne] at q2
        refine pM_isBad hF (RL_20 hR g3) v hSv3 ?_
        rw [nI_1 K]
        refine br_t (by congr 1) ?_
        unfold wbM_isStretch_126
        refine br_c (fun z => ?_) (fun z => ⟨i01_0, ?_⟩)
        · rw [bI_1] at z
          unfold wbM_isStretch_12
          rw [nI_n1, nI_1 s]
          dsimp only
          rw [nI_1 K]
          exact br_t (nI_lt (by omega) (by omega)) ⟨i01_1, h true _ g3 ⟨fun _ => ⟨hfr.mp q, b2.trans q2, b1.trans z⟩, fun _ => rfl⟩⟩
        · rw [bI_1] at z
          refine h false _ g3 ⟨fun z => absurd z (by decide), fun y => ?_⟩
          exact absurd (b1.symm.trans y.2.2) z
  | succ r ih =>
    intro s hm σ seen hs g hσ hst hse h
    unfold wbM_isStretch_29
    have hb : (r + 1 + 1) * tot d (nI 1) n ≤ 30 := by
      have : (r + 1 + 1) * tot d (nI 1) n ≤ (r + 1 + 1) * 2 := Nat.mul_le_mul_left _ hI2
      omega
    refine pM_put hF (RL_20 hR g) V (r + 1) σ hV hb hst (fun v hm1 g1 hSv hA => ?_)
    have g2 := G20_G g g1
    have h64 := p2_64 hS6
    have hι := ia_lt d n (dgt (tot d (nI 1) n) V (r + 1))
    have h4 : (2 : Nat) ^ tot d (nI 1) n ≤ 2 ^ 2 := Nat.pow_le_pow_right (by omega) hI2
    obtain ⟨b1, b2⟩ := hB σ (by omega) _ (by omega) v hA
    refine pM_states hF.1 (RL_20 hR g2) hS6 σ (fun k hk e => by rw [hSv.1 k hk (fre_2 e).1, (hA.2.2 k hk).1 e]) ⟨vp_in_nI (by omega) (by omega), ?_⟩
    rw [nI_clamp (by omega)]
    have g3 := G20_u g2 s (nI (pkn d n σ))
    have hfr : frh (u2 hm1 20 s (nI (pkn d n σ)) 20) (u2 hm1 20 s (nI (pkn d n σ)) 20 s) s = true ↔ ¬ seen σ := by
      rw [frh_t, hse σ hσ, u2_s]
      refine ⟨fun a ⟨t, ht, et⟩ => a t ht ?_, fun a t ht et => a ⟨t, ht, ?_⟩⟩
      · rw [u2_j _ _ _ _ (by omega), g1 20 (by decide) (by decide)]; exact et
      · rw [u2_j _ _ _ _ (by omega), g1 20 (by decide) (by decide)] at et; exact et
    refine fresh _ _ _ _ s (by omega) ?_
    have hSv3 : SV d n (u2 hm1 20 s (nI (pkn d n σ))) v := ⟨fun k hk hno => by rw [u2_c _ _ _ _ (by decide)]; exact hSv.1 k hk hno, hSv.2⟩
    unfold wbM_isStretch_55
    refine br_t (nI_le (Nat.le_refl _) (by omega)) (br_c (fun q => ⟨i01_0, ?_⟩) (fun q => ?_))
    · rw [bI_0] at q
      refine h false _ g3 ⟨fun z => absurd z (by decide), fun z => ?_⟩
      rw [hfr.mpr z.1] at q; exact absurd q (by decide)
    · rw [bI_ne] at q
      refine pM_holds hF (RL_20 hR g3) v hSv3 (br_c (fun q2 => ⟨i01_0, ?_⟩) (fun q2 => ?_))
      · rw [bI_0] at q2
        refine h false _ g3 ⟨fun z => absurd z (by decide), fun z => ?_⟩
        have z1 : bt (hz 9 _) σ = true := z.2.1
        rw [← b2] at q2
        exact absurd (q2.symm.trans z1) (by decide)
      · rw [bI_ne] at q2
        refine pM_isBad hF (RL_20 hR g3) v hSv3 ?_
        rw [nI_1 K]
        refine br_f (fun z => absurd ((nI_eq (by omega) (by omega)).mp z) (by omega)) ?_
        unfold wbM_isStretch_126
        refine br_c (fun z => ?_) (fun z => ⟨i01_0, ?_⟩)
        · rw [bI_0] at z
          unfold wbM_isStretch_12
          rw [nI_n1, nI_1 s]
          dsimp only
          rw [nI_1 K]
          refine br_f (nI_nlt (by omega) (by omega)) (br_f (nI_nle (by omega) (by omega)) (pM_advance hF (RL_20 hR g3) v hSv3 (fun hm2 g4 hx => ?_)))
          refine ih (s + 1) hm2 (AF hz (tot d (nI 2) n) σ (ia d n (dgt (tot d (nI 1) n) V (r + 1)))) (fun τ => seen τ ∨ τ = σ) (by omega) (G20_G g3 g4) (AF_lt _ _ _ _) (fun k hk e => ?_) (fun τ hτ => ?_) (fun b hm' g5 hb => h b hm' g5 ?_)
          · rw [hx k hk (fre_2 e).1, AF_f hL hF (by omega) (by omega) hA hk e]
          · rw [hse τ hτ]
            have e20 : hm2 20 = u2 hm1 20 s (nI (pkn d n σ)) 20 := g4 20 (by decide) (by decide)
            have e21 : hm1 20 = hm 20 := g1 20 (by decide) (by decide)
            refine ⟨fun a => ?_, fun ⟨t, ht, et⟩ => ?_⟩
            · rcases a with ⟨t, ht, et⟩ | a
              · exact ⟨t, by omega, by rw [e20, u2_j _ _ _ _ (by omega), e21]; exact et⟩
              · exact ⟨s, by omega, by rw [e20, u2_s, a]⟩
            · rw [e20] at et
              by_cases z2 : t = s
              · subst z2
                rw [u2_s] at et
                have l1 := pkn_lt d n σ
                have l2 := pkn_lt d n τ
                exact Or.inr (pkn_inj hτ hσ ((nI_eq (by omega) (by omega)).mp et).symm)
              · rw [u2_j _ _ _ _ z2, e21] at et
                exact Or.inl ⟨t, by omega, et⟩
          · rw [hb]
            exact ⟨fun y => ⟨hfr.mp q, b2.trans q2, b1.trans z, y⟩, fun y => y.2.2.2⟩
        · rw [bI_0] at z
          refine h false _ g3 ⟨fun z => absurd z (by decide), fun y => ?_⟩
          exact absurd (b1.symm.trans y.2.2.1) z
theorem pM_isStretch {d hm : HI} {n : Nat} {hl hz : HL} {Φ : Int32 → HI → HL → Prop} (hF : WF d n) (hR : RL d hm n) (hB : BDA d n hz) (hL : LAT d n hz) (hS6 : tot d (nI 2) n ≤ 6) (hI2 : tot d (nI 1) n ≤ 2) {v0 : Nat → Nat} (v1 : VR d n v0) (v2 : Sett d n v0) (v3 : ∀ k, k < n → fre d k → v0 k = 0) (V K : Nat) (hV : V < 2 ^ 31) (hK : K ≤ 5)
    (h : ∀ b hm', G20 hm hm' → (b = true ↔ SM (sy d n hz) (K + 1) (fun _ => False) (st d n true v0 (V / 2 ^ ((K + 2) * tot d (nI 1) n))) V) → Φ (bI b) hm' hl) : wpM_isStretch (nI V) (nI (tof d (TA d n true) n + (K + 2) * tot d (nI 1) n)) (nI K) hm hl Φ := by
  unfold wpM_isStretch wbM_isStretch_0
  have ht := tofT_tot (d := d) (n := n) true n
  have hb : (K + 2) * tot d (nI 1) n ≤ (K + 2) * 2 := Nat.mul_le_mul_left _ hI2
  refine pM_start hF hR true V _ hV (by omega) (by omega) (fun w0 hm1 w1 w2 w3 g hx => ⟨K + 1 + 1 + 1, ?_⟩)
  have e : tof d (TA d n true) n + (K + 2) * tot d (nI 1) n - tof d (TA d n true) n = (K + 2) * tot d (nI 1) n := by omega
  rw [e]
  unfold wbM_isStretch_12
  rw [nI_1 K]
  refine br_f (nI_nlt (b := 0) (by omega) (by omega)) (br_t (by decide) ?_)
  refine st29 hF hR hB hL hS6 hI2 V K hV hK (K + 1) 0 hm1 (st d n true v0 (V / 2 ^ ((K + 2) * tot d (nI 1) n))) (fun _ => False) (by omega) (fun c h1 h2 _ => g c h1 h2) (st_lt hF v1 _ _) (fun k hk e2 => ?_) (fun τ _ => ⟨fun z => z.elim, fun ⟨t, ht, _⟩ => absurd ht (by omega)⟩) h
  rw [hx k hk (fre_2 e2), st_f hF v1 _ _ hk e2, sV_C hk]
  unfold sC
  rw [ivl_u hF w1 w2 w3 v1 v2 v3 n (Nat.le_refl _) k]
