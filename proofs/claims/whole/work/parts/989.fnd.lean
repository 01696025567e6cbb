/-! find, prove, shown -/
theorem Sta_st {d : HI} {n : Nat} (hF : WF d n) {v0 : Nat → Nat} (v1 : VR d n v0) (c : Nat) : Sta d n v0 n (st d n false v0 c) := fun k hk e hc => by
  rw [st_f hF v1 _ _ hk e]
  unfold sC
  rw [TA_f, hc, if_neg (by decide)]
theorem st_sur {d : HI} {n : Nat} (hF : WF d n) {v0 : Nat → Nat} (v1 : VR d n v0) {σ : Nat} (hσ : σ < 2 ^ tot d (nI 2) n) (hS : Sta d n v0 n σ) : ∃ c, c < 2 ^ tof d (TA d n false) n ∧ st d n false v0 c = σ := by
  refine ⟨pkT d (TA d n false) (fld d σ) n, pkT_lt (fun _ _ _ => fld_lt _ _ _), fld_inj (st_lt hF v1 _ _) hσ (fun k hk e => ?_)⟩
  rw [st_f hF v1 _ _ hk e]
  unfold sC
  cases hc : TA d n false k
  · rw [if_neg (by decide)]; exact (hS k hk e hc).symm
  · rw [if_pos rfl]; exact pkT_f (fun _ _ _ => fld_lt _ _ _) hk hc
theorem st_surT {d : HI} {n : Nat} (hF : WF d n) {v0 : Nat → Nat} (v1 : VR d n v0) {σ : Nat} (hσ : σ < 2 ^ tot d (nI 2) n) : ∃ c, c < 2 ^ tof d (TA d n true) n ∧ st d n true v0 c = σ := by
  refine ⟨pkT d (TA d n true) (fld d σ) n, pkT_lt (fun _ _ _ => fld_lt _ _ _), fld_inj (st_lt hF v1 _ _) hσ (fun k hk e => ?_)⟩
  rw [st_f hF v1 _ _ hk e]
  unfold sC
  have hc : TA d n true k = true := by rw [TA_t]; exact decide_eq_true e
  rw [if_pos hc]; exact pkT_f (fun _ _ _ => fld_lt _ _ _) hk hc
theorem lex_lt {a b f g q : Nat} (hf : f < q) (h : a < b) : a * q + f < b * q + g := by
  have : (a + 1) * q ≤ b * q := Nat.mul_le_mul_right _ h
  rw [Nat.add_mul, Nat.one_mul] at this
  omega
/-- the states at step 0 come in the order of their numbers -/
theorem st_mono {d : HI} {n : Nat} (hF : WF d n) {v0 : Nat → Nat} (v1 : VR d n v0) (a b : Nat) (ha : a < 2 ^ tof d (TA d n false) n) (hb : b < 2 ^ tof d (TA d n false) n) : ∀ k, k ≤ n →
    (a / 2 ^ (tof d (TA d n false) n - tof d (TA d n false) k) < b / 2 ^ (tof d (TA d n false) n - tof d (TA d n false) k) → pkT d (TA d n true) (fld d (st d n false v0 a)) k < pkT d (TA d n true) (fld d (st d n false v0 b)) k) ∧
    (a / 2 ^ (tof d (TA d n false) n - tof d (TA d n false) k) = b / 2 ^ (tof d (TA d n false) n - tof d (TA d n false) k) → pkT d (TA d n true) (fld d (st d n false v0 a)) k = pkT d (TA d n true) (fld d (st d n false v0 b)) k)
  | 0, _ => by
    simp only [tof, Nat.sub_zero]
    refine ⟨fun h => ?_, fun _ => rfl⟩
    rw [Nat.div_eq_of_lt ha, Nat.div_eq_of_lt hb] at h
    omega
  | k + 1, hk => by
    obtain ⟨i1, i2⟩ := st_mono hF v1 a b ha hb k (by omega)
    have tl := tof_le (d := d) (T := TA d n false) (show k + 1 ≤ n by omega)
    by_cases e : d 5 k = 2
    · have ht : TA d n true k = true := by rw [TA_t]; exact decide_eq_true e
      rw [pkT_s ht, pkT_s ht, st_f hF v1 _ _ (show k < n by omega) e, st_f hF v1 _ _ (show k < n by omega) e]
      cases hc : TA d n false k
      · have ea : ∀ c, sC d n false v0 c k = ivl d v0 n k := fun c => by unfold sC; rw [hc, if_neg (by decide)]
        rw [tof_e hc, ea, ea]
        refine ⟨fun h => lex_lt ?_ (i1 h), fun h => by rw [i2 h]⟩
        exact ivl_lt hF v1 (Nat.le_refl _) (by omega) (fre_2 e).1
      · have es := tof_s (d := d) hc
        have ec : ∀ c, sC d n false v0 c k = c / 2 ^ (tof d (TA d n false) n - tof d (TA d n false) (k + 1)) % 2 ^ bts (nk d k) := fun c => by unfold sC; rw [hc, if_pos rfl]
        have eq : tof d (TA d n false) n - tof d (TA d n false) k = (tof d (TA d n false) n - tof d (TA d n false) (k + 1)) + bts (nk d k) := by omega
        rw [ec, ec]
        rw [eq, Nat.pow_add, ← Nat.div_div_eq_div_mul, ← Nat.div_div_eq_div_mul] at i1 i2
        generalize a / 2 ^ (tof d (TA d n false) n - tof d (TA d n false) (k + 1)) = A at *
        generalize b / 2 ^ (tof d (TA d n false) n - tof d (TA d n false) (k + 1)) = B at *
        refine ⟨fun h => ?_, fun h => by subst h; rw [i2 rfl]⟩
        by_cases z : A / 2 ^ bts (nk d k) = B / 2 ^ bts (nk d k)
        · rw [i2 z]
          have m1 := Nat.mod_add_div A (2 ^ bts (nk d k))
          have m2 := Nat.mod_add_div B (2 ^ bts (nk d k))
          rw [z] at m1
          omega
        · have := Nat.div_le_div_right (c := 2 ^ bts (nk d k)) (show A ≤ B by omega)
          exact lex_lt (Nat.mod_lt _ (Nat.two_pow_pos _)) (i1 (by omega))
    · have ht : TA d n true k = false := by rw [TA_t]; exact decide_eq_false e
      have hc : TA d n false k = false := by
        cases q : TA d n false k
        · rfl
        · exact absurd (TA_2 q) e
      rw [pkT_e ht, pkT_e ht, tof_e hc]
      exact ⟨i1, i2⟩
/-! M: find -/
theorem RL_u {d hm : HI} {n : Nat} (h : RL d hm n) (s : Nat) (x : Int32) (hs : s ≠ 6) : RL d (u2 hm 0 s x) n :=
  ⟨by rw [u2_j _ _ _ _ (fun z => hs z.symm)]; exact h.1, fun c h1 h2 k hk => by rw [u2_c _ _ _ _ (by omega)]; exact h.2 c h1 h2 k hk⟩
/-- what M's search wants -/
def MB (d : HI) (n : Nat) (hz : HL) (v0 : Nat → Nat) : Prop := WF d n ∧ BDA d n hz ∧ LAT d n hz ∧ tot d (nI 2) n ≤ 6 ∧ tot d (nI 1) n ≤ 2 ∧ VR d n v0 ∧ Sett d n v0 ∧ ∀ k, k < n → fre d k → v0 k = 0
theorem p_14 {d : HI} {n : Nat} {hz : HL} {v0 : Nat → Nat} (hB : MB d n hz v0) (any : Bool) {D : Nat} (hD : D ≤ 3) : tof d (TA d n any) n + (D + 1) * tot d (nI 1) n ≤ 14 := by
  have h1 := tofT_tot (d := d) (n := n) any n
  have h2 : (D + 1) * tot d (nI 1) n ≤ (D + 1) * 2 := Nat.mul_le_mul_left _ hB.2.2.2.2.1
  have := hB.2.2.2.1
  omega
theorem p2_14 {p : Nat} (h : p ≤ 14) : 2 ^ p ≤ 16384 := by
  have : (2 : Nat) ^ p ≤ 2 ^ 14 := Nat.pow_le_pow_right (by omega) h
  omega
def MTd (d : HI) (n : Nat) (hz : HL) (v0 : Nat → Nat) (D V : Nat) : Prop := MT (sy d n hz) D (st d n false v0 (V / 2 ^ ((D + 1) * tot d (nI 1) n))) V
theorem fi34n {d hm : HI} {n : Nat} {hl hz : HL} {v0 : Nat → Nat} {Φ : Int32 → HI → HL → Prop} (hB : MB d n hz v0) (hR : RL d hm n) (k19 : Int32 → Int32 → HI → HL → Prop) (k : Int32) (D : Nat) (hD : D ≤ 3) (hno : ∀ V, V < 2 ^ (tof d (TA d n false) n + (D + 1) * tot d (nI 1) n) → ¬ MTd d n hz v0 D V)
    (h : ∀ hm', G17 hm hm' → k19 k (nI (D + 1)) hm' hl) : ∃ fu, wbM_find_34 k19 fu k (nI D) (nI (tof d (TA d n false) n + (D + 1) * tot d (nI 1) n)) 0 hm hl Φ := by
  obtain ⟨hF, hBD, hLA, hS6, hI2, v1, v2, v3⟩ := id hB
  have hp := p_14 hB false hD
  have hpp := p2_14 hp
  refine loop_0 (fun fu V (s : HI) => wbM_find_34 k19 fu k (nI D) (nI (tof d (TA d n false) n + (D + 1) * tot d (nI 1) n)) (nI V) s hl Φ) (fun V s => G17 hm s) (2 ^ (tof d (TA d n false) n + (D + 1) * tot d (nI 1) n)) hm (G_r hm) (fun m s hs => ?_) (fun m V s hV hs ih => ?_)
  · unfold wbM_find_34
    rw [sh_1 (by omega), nI_n1, nI_1 D]
    exact br_t (nI_le (Nat.le_refl _) (by omega)) (h s hs)
  · unfold wbM_find_34
    rw [sh_1 (by omega)]
    refine br_f (nI_ge hV (by omega)) (pM_leads hF (RL_G hR hs) hBD hLA hS6 hI2 v1 v2 v3 V D (by omega) (by omega) (fun b hm' g hb => ?_))
    rw [nI_n1, nI_1 V]
    refine br_t ?_ (ih hm' (G_t hs g))
    rw [bI_0]
    cases b
    · rfl
    · exact absurd (hb.mp rfl) (hno V hV)
theorem fi34s {d hm : HI} {n : Nat} {hl hz : HL} {v0 : Nat → Nat} {Φ : Int32 → HI → HL → Prop} (hB : MB d n hz v0) (hR : RL d hm n) (k19 : Int32 → Int32 → HI → HL → Prop) (k : Int32) (D : Nat) (hD : D ≤ 3) (W : Nat) (hW : W < 2 ^ (tof d (TA d n false) n + (D + 1) * tot d (nI 1) n)) (hM : MTd d n hz v0 D W) (hno : ∀ V, V < W → ¬ MTd d n hz v0 D V)
    (h : ∀ hm', G17 hm hm' → Φ (nI D) (u2 (u2 hm' 0 25 (nI D)) 0 26 (nI W)) hl) : ∃ fu, wbM_find_34 k19 fu k (nI D) (nI (tof d (TA d n false) n + (D + 1) * tot d (nI 1) n)) 0 hm hl Φ := by
  obtain ⟨hF, hBD, hLA, hS6, hI2, v1, v2, v3⟩ := id hB
  have hp := p_14 hB false hD
  have hpp := p2_14 hp
  refine loop_0 (fun fu V (s : HI) => wbM_find_34 k19 fu k (nI D) (nI (tof d (TA d n false) n + (D + 1) * tot d (nI 1) n)) (nI V) s hl Φ) (fun V s => G17 hm s) W hm (G_r hm) (fun m s hs => ?_) (fun m V s hV hs ih => ?_)
  · unfold wbM_find_34
    rw [sh_1 (by omega)]
    refine br_f (nI_ge hW (by omega)) (pM_leads hF (RL_G hR hs) hBD hLA hS6 hI2 v1 v2 v3 W D (by omega) (by omega) (fun b hm' g hb => ?_))
    refine br_f ?_ (h hm' (G_t hs g))
    rw [bI_ne]; exact hb.mpr hM
  · unfold wbM_find_34
    rw [sh_1 (by omega)]
    refine br_f (nI_ge (by omega) (by omega)) (pM_leads hF (RL_G hR hs) hBD hLA hS6 hI2 v1 v2 v3 V D (by omega) (by omega) (fun b hm' g hb => ?_))
    rw [nI_n1, nI_1 V]
    refine br_t ?_ (ih hm' (G_t hs g))
    rw [bI_0]
    cases b
    · rfl
    · exact absurd (hb.mp rfl) (hno V hV)
theorem in_03 {k K : Nat} (hk : k ≤ K) (hK : K ≤ 3) : decide ((0 : Int32) ≤ nI k ∧ nI k ≤ nI K) = true := decide_eq_true ⟨nI_pos' (by omega), nI_le hk (by omega)⟩
theorem pM_find0 {d hm : HI} {n : Nat} {hl hz : HL} {v0 : Nat → Nat} {Φ : Int32 → HI → HL → Prop} (hB : MB d n hz v0) (hR : RL d hm n) (k : Nat) (hk : k ≤ 3) (hno : ∀ D, D ≤ k → ∀ V, V < 2 ^ (tof d (TA d n false) n + (D + 1) * tot d (nI 1) n) → ¬ MTd d n hz v0 D V)
    (h : ∀ hm', G17 (u2 hm 0 25 (-1)) hm' → Φ (-1) hm' hl) : wpM_find (nI k) hm hl Φ := by
  have hF := hB.1
  have hR1 := RL_u hR 25 (-1) (by decide)
  unfold wpM_find wbM_find_0
  rw [pM_in]
  have e3 : (3 : Int32) = nI 3 := rfl
  rw [e3, in_03 hk (by omega)]
  refine br_f (by decide) ?_
  refine loop_0 (fun fu D (s : HI) => wbM_find_19 fu (nI k) (nI D) s hl Φ) (fun D s => G17 (u2 hm 0 25 (-1)) s) (k + 1) (u2 hm 0 25 (-1)) (G_r _) (fun m s hs => ?_) (fun m D s hD hs ih => ?_)
  · unfold wbM_find_19
    exact br_t (nI_lt (by omega) (by omega)) (h s hs)
  · unfold wbM_find_19
    refine br_f (nI_nlt (by omega) (by omega)) (pM_places hF.1 (RL_G hR1 hs) false D ?_)
    exact fi34n hB (RL_G hR1 hs) _ _ D (by omega) (hno D (by omega)) (fun hm' g => ih hm' (G_t hs g))
theorem pM_find1 {d hm : HI} {n : Nat} {hl hz : HL} {v0 : Nat → Nat} {Φ : Int32 → HI → HL → Prop} (hB : MB d n hz v0) (hR : RL d hm n) (k : Nat) (hk : k ≤ 3) (E : Nat) (hE : E ≤ k) (hno : ∀ D, D < E → ∀ V, V < 2 ^ (tof d (TA d n false) n + (D + 1) * tot d (nI 1) n) → ¬ MTd d n hz v0 D V) (W : Nat) (hW : W < 2 ^ (tof d (TA d n false) n + (E + 1) * tot d (nI 1) n)) (hM : MTd d n hz v0 E W) (hnoW : ∀ V, V < W → ¬ MTd d n hz v0 E V)
    (h : ∀ hm', G17 (u2 hm 0 25 (-1)) hm' → Φ (nI E) (u2 (u2 hm' 0 25 (nI E)) 0 26 (nI W)) hl) : wpM_find (nI k) hm hl Φ := by
  have hF := hB.1
  have hR1 := RL_u hR 25 (-1) (by decide)
  unfold wpM_find wbM_find_0
  rw [pM_in]
  have e3 : (3 : Int32) = nI 3 := rfl
  rw [e3, in_03 hk (by omega)]
  refine br_f (by decide) ?_
  refine loop_0 (fun fu D (s : HI) => wbM_find_19 fu (nI k) (nI D) s hl Φ) (fun D s => G17 (u2 hm 0 25 (-1)) s) E (u2 hm 0 25 (-1)) (G_r _) (fun m s hs => ?_) (fun m D s hD hs ih => ?_)
  · unfold wbM_find_19
    refine br_f (nI_nlt (by omega) (by omega)) (pM_places hF.1 (RL_G hR1 hs) false E ?_)
    exact fi34s hB (RL_G hR1 hs) _ _ E (by omega) W hW hM hnoW (fun hm' g => h hm' (G_t hs g))
  · unfold wbM_find_19
    refine br_f (nI_nlt (by omega) (by omega)) (pM_places hF.1 (RL_G hR1 hs) false D ?_)
    exact fi34n hB (RL_G hR1 hs) _ _ D (by omega) (hno D (by omega)) (fun hm' g => ih hm' (G_t hs g))
/-- M's values, and what both keep of a run, have changed -/
theorem Rel_F {hm hm' hx hx' : HI} {hl hl' : HL} {n m : Nat} {run : Bool} (g : ∀ c, c ≠ 17 → c ≠ 18 → c ≠ 20 → c ≠ 0 → hm' c = hm c) (g0 : ∀ s, s ≠ 25 → s ≠ 26 → hm' 0 s = hm 0 s) (x : ∀ c, c ≠ 20 → c ≠ 22 → c ≠ 23 → hx' c = hx c) (hH : XH hl hl') (hA : RelA hm n hx hl) (hT : RelTx hm hx m) (hRn : RelR hm n hm hx run) (hK : KP hm n hm' hx') : Rel hm' hx' hl' := by
  have hF := hA.1
  have hn := hF.1.1
  have hE : EQL hm hm' n := fun c h1 h2 k hk => by rw [g c (by omega) (by omega) (by omega) (by omega)]
  obtain ⟨m1, x3, m40, c1, c2, c3⟩ := hT
  have hA1 : RelA hm n hx' hl' := ⟨hA.1, hA.2.1, hA.2.2.1, RXL_x (fun k _ => x _ (by omega) (by omega) (by omega)) (x 5 (by decide) (by decide) (by decide)) hn hA.2.2.2.1, TBL_x (fun k _ => x _ (by omega) (by omega) (by omega)) (fun k _ => hH _ (by omega)) (hH 7 (by decide)) (hH 8 (by decide)) (hH 9 (by decide)) hn hA.2.2.2.2⟩
  refine ⟨n, m, run, RelA_c hE (g0 6 (by decide) (by decide)) (fun k _ => rfl) rfl hA1, ⟨by rw [g0 1 (by decide) (by decide)]; exact m1, by rw [x 1 (by decide) (by decide) (by decide)]; exact x3, m40, ?_, ?_, ?_⟩, RelR_c hE hF (g0 23 (by decide) (by decide)) (g 19 (by decide) (by decide) (by decide) (by decide)) (x 0 (by decide) (by decide) (by decide)) hRn, KP_c hE hF rfl rfl rfl rfl rfl hK⟩
  · rw [g 1 (by decide) (by decide) (by decide) (by decide), x 2 (by decide) (by decide) (by decide)]; exact c1
  · rw [g 2 (by decide) (by decide) (by decide) (by decide), x 3 (by decide) (by decide) (by decide)]; exact c2
  · rw [g 3 (by decide) (by decide) (by decide) (by decide), x 4 (by decide) (by decide) (by decide)]; exact c3
