/-! X takes the line that M has taken: all stays in step -/
def FXT (hx hx' : HI) : Prop := ∀ c, c < 24 → c ≠ 5 → c ≠ 13 → hx' c = hx c
theorem lanes_b : ∀ p, p ∈ List.range 6 → ∀ σ, σ ∈ List.range 64 → bt (lanesC p) σ = σ.testBit p := by decide +kernel
theorem PLC_n {d d' : HI} {n w κ : Nat} (h : NL d d' n w κ) {hx hx' : HI} (hP : PLC d n hx) (b4 : ∀ k, k < n → hx' (24 + k) 4 = hx (24 + k) 4) (bn : κ = 1 ∨ κ = 2 → hx' (24 + n) 4 = nI (tot d (nI κ) n)) (bf : ∀ k, n < k → k < 20 → hx' (24 + k) = hx (24 + k)) (t1 : tot d' (nI 1) (n + 1) ≤ 2) (t2 : tot d' (nI 2) (n + 1) ≤ 6) : PLC d' (n + 1) hx' := by
  have hE := h.2.2.1
  have hF := h.2.1
  refine ⟨fun k hk e => ?_, fun k h1 h2 => ?_, t1, t2⟩
  · by_cases z : k = n
    · subst z
      have e' : κ = 1 ∨ κ = 2 := e.imp (kof h 1 (by omega)).mp (kof h 2 (by omega)).mp
      rw [bn e']
      unfold pl
      rw [N5 h]
      have : nod (nI κ) := by rcases e' with rfl | rfl <;> exact nod_nI (by omega) (by omega)
      rw [tot_c hE hF.1 _ this k (Nat.le_refl _)]
    · have hk' : k < n := by omega
      rw [hE 5 (by omega) (by omega) k hk'] at e
      have hno : nod (d 5 k) := by rcases e with e | e <;> rw [e] <;> exact ⟨by decide, by decide⟩
      rw [b4 k hk', pl_c hE hF.1 hk' hno]
      exact hP.1 k hk' e
  · rw [bf k (by omega) h2]; exact hP.2.1 k (by omega) h2
/-- all bits of states and inputs with the new line -/
theorem siz_n {d d' : HI} {n w κ : Nat} (h : NL d d' n w κ) {hx : HI} (hP : PLC d n hx) : tot d' (nI 1) (n + 1) ≤ 2 ∧ tot d' (nI 2) (n + 1) ≤ 6 := by
  have hE := h.2.2.1
  have hW := h.2.1.1
  rw [tot_n h 1 (by omega) (by omega), tot_n h 2 (by omega) (by omega)]
  have p1 := hP.2.2.1
  have p2 := hP.2.2.2
  by_cases k1 : κ = 1
  · subst k1
    have ha := (NL_a h).2.2
    rw [CK_1] at ha
    simp only [List.all_cons, List.all_nil, Bool.and_eq_true, id, and_true] at ha
    have z := of_decide_eq_true ha
    have e6 := N6 h (by decide)
    rw [nkn hE hW e6.2 e6.1]
    have := z.2.2
    rw [if_neg (by decide)] at this
    rw [if_pos rfl, if_neg (by decide)]
    exact ⟨this, by omega⟩
  · by_cases k2 : κ = 2
    · subst k2
      have ha := (NL_a h).2.2
      rw [CK_2] at ha
      simp only [List.all_cons, List.all_nil, Bool.and_eq_true, id, and_true] at ha
      have z := of_decide_eq_true ha
      have e6 := N6 h (by decide)
      rw [nkn hE hW e6.2 e6.1]
      have := z.2.2
      rw [if_pos trivial] at this
      rw [if_neg (by decide), if_pos rfl]
      exact ⟨by omega, this⟩
    · rw [if_neg k1, if_neg k2]; exact ⟨by omega, by omega⟩
theorem outW_c {hl : HL} {κ S cnt : Nat} {k s k' s' : Nat → Nat} {t t' : Nat → Bool} {l u i σ : Nat} (h : ∀ m, m < cnt → k m = k' m ∧ s m = s' m ∧ t m = t' m) : outW hl κ S cnt k s t l u i σ = outW hl κ S cnt k' s' t' l u i σ := by
  have n' : ∀ m, nn cnt s m = nn cnt s' m := fun m => by
    unfold nn
    by_cases c : m < cnt
    · rw [if_pos c, if_pos c, (h m c).2.1]
    · rw [if_neg c, if_neg c]
  have l' : ∀ m, lwv hl cnt k s t i σ m = lwv hl cnt k' s' t' i σ m := fun m => by
    unfold lwv
    rw [n' m]
    by_cases c : m < cnt
    · unfold wir; rw [(h m c).1, (h m c).2.2]
    · have : nn cnt s' m = 0 := by unfold nn; rw [if_neg c]
      rw [this]; rfl
  unfold outW oAv oBv oCv
  rw [l' 0, l' 1, l' 2, n' 0, n' 1]
theorem fld_t {d : HI} {y k j : Nat} (hj : j < bts (nk d k)) : (fld d y k).testBit j = y.testBit (pl d k + j) := by
  unfold fld
  rw [Nat.testBit_mod_two_pow, Nat.testBit_div_two_pow, decide_eq_true hj, Bool.true_and, Nat.add_comm]
theorem pl_d {d : HI} {a k : Nat} (ha : d 5 a = 2) (hk : d 5 k = 2) (ne : a ≠ k) : pl d a + bts (nk d a) ≤ pl d k ∨ pl d k + bts (nk d k) ≤ pl d a := by
  have s1 := tot_s (d := d) (k := a) ha
  have s2 := tot_s (d := d) (k := k) hk
  unfold pl
  rw [ha, hk]
  by_cases c : a < k
  · left
    have := tot_m (d := d) (what := 2) (show a + 1 ≤ k by omega)
    omega
  · right
    have := tot_m (d := d) (what := 2) (show k + 1 ≤ a by omega)
    omega
theorem takeN {d d' hx : HI} {hl : HL} {n w κ : Nat} {Φ : HI → HL → Prop} (h : NL d d' n w κ) (hn : n < 20) (hM : WInc d n) (hX : RXL d hx n) (hT : TBL d n hx hl) (hD : DF d n w κ hx) (hΦ : ∀ hx' hl', RXL d' hx' (n + 1) → TBL d' (n + 1) hx' hl' → FXT hx hx' → Φ hx' hl') : wpB_take hx hl Φ := by
  have hκ := h.2.2.2.1
  have hE := h.2.2.1
  have hF := h.2.1
  have hW := hF.1
  obtain ⟨hF', hM'⟩ := wfn h hn hM
  have hA' := hF'.2.1
  obtain ⟨hWi, hLa, hBd, hIn, hPl⟩ := hT
  obtain ⟨DNh, key⟩ := DN_of h hX hD
  have sz := siz_n h hPl
  have t1 := tot_n h 1 (by omega) (by omega)
  have t2 := tot_n h 2 (by omega) (by omega)
  have th := hrd_n h
  let fb : Bool := @decide (¬ (κ = 1 ∨ κ = 2) ∧ ∀ m, m < (nwl κ).length → (! FR d (kX d n w κ m)) = true) (Classical.propDecidable _)
  have hfb : fb = true ↔ (¬ (κ = 1 ∨ κ = 2) ∧ ∀ m, m < (nwl κ).length → (! FR d (kX d n w κ m)) = true) := @decide_eq_true_iff _ (Classical.propDecidable _)
  have hfb2 : (1 ≤ κ ∧ κ ≤ 26) → fb = ! FR d' n := fun kr => by
    have := fr_n h hn hA' kr
    have e : (fb = true) ↔ ((! FR d' n) = true) := hfb.trans this.symm
    cases q : fb <;> cases q2 : (! FR d' n)
    · rfl
    · rw [q, q2] at e; exact absurd (e.mpr rfl) (by decide)
    · rw [q, q2] at e; exact absurd (e.mp rfl) (by decide)
    · rfl
  obtain ⟨r0, r1, r2, r3, r4⟩ := rw_n hx n κ fb
  have yo := fun {c : Nat} (h1 : c ≠ 24 + n) (h2 : c ≠ 5) => rw_o hx n κ fb h1 h2
  have y5 := fun {s : Nat} (hs : s ≠ 2) => rw_5 hx n κ fb hs
  have y52 := rw_52 hx n κ fb
  have fresh := hPl.2.1 n (Nat.le_refl _) hn
  -- the draft's nodes in the new state
  have DNy : ∀ (y : HI), (∀ c, c ≠ 24 + n → c ≠ 5 → y c = hx c) → DN y (nwl κ).length (kX d n w κ) (sX d n w κ) (tX d w κ) := fun y hy => by
    refine ⟨by rw [hy 10 (by omega) (by omega)]; exact DNh.1, DNh.2.1, fun m hm => ?_⟩
    obtain ⟨a1, a2, a3, a4, a5⟩ := DNh.2.2 m hm
    have := (key m hm).1
    exact ⟨by rw [hy 11 (by omega) (by omega)]; exact a1, a2, by rw [hy _ (by omega) (by omega)]; exact a3, a4, by rw [hy 12 (by omega) (by omega)]; exact a5⟩
  have Dy := DNy (rwX hx n κ fb) (fun c h1 h2 => rw_o hx n κ fb h1 h2)
  -- a node's lanes are its value
  have lanes : ∀ σ, σ < 64 → ∀ i, i < 4 → ∀ v, Asg d n v σ i → ∀ m, m < (nwl κ).length → lwv hl (nwl κ).length (kX d n w κ) (sX d n w κ) (tX d w κ) i σ m = wv d n w v ((nwl κ).getD m 0) := fun σ hσ i hi v hA m hm => by
    obtain ⟨k1, k2, k3, k4, _, _⟩ := key m hm
    rw [lwv_gv hWi hσ hi hA hm k1 k2 k3 k4, ← k3]; rfl
  have lane1 : ∀ σ, σ < 64 → ∀ i, i < 4 → ∀ v, Asg d n v σ i → ∀ m, m < (nwl κ).length → ∀ j, j < bts (sX d n w κ m) → bt (wir hl (kX d n w κ) (tX d w κ) i m j) σ = (wv d n w v ((nwl κ).getD m 0)).testBit j := fun σ hσ i hi v hA m hm j hj => by
    rw [← lanes σ hσ i hi v hA m hm]
    unfold lwv
    have en : nn (nwl κ).length (sX d n w κ) m = sX d n w κ m := by unfold nn; rw [if_pos hm]
    rw [en, lvb_tb _ _ _ hj]
  refine pB_take n κ (nwl κ).length (hrd d n) (kX d n w κ) (fun m => ! FR d (kX d n w κ m)) hn hκ hX.1 hX.2.2.2.1 hD.2.1 hD.2.2.2.2.1 DNh.2.1 (fun m hm => ⟨(key m hm).2.2.2.2.1, (key m hm).1, (key m hm).2.2.2.2.2⟩) fb hfb (fun k0 => ?_) (fun k1 => ?_) (fun k2 => ?_) (fun k27 => ?_) (fun k28 => ?_) (fun k29 => ?_) (fun k30 => ?_) (fun g1 g2 => ?_)
  · -- sort
    refine hΦ _ _ (RXLn h hn hX hD fb hfb2 y52 ?_ ?_ ?_ (fun k hk s hs => by rw [yo (by omega) (by omega)]) (c_d h hX (by omega) (by omega) (fun k hk => by rw [yo (by omega) (by omega)]; exact ⟨rfl, rfl⟩)) (fun s hs => rfl) (fun q => by omega)) ⟨WIR_n h hWi (fun _ _ => rfl) (fun σ _ i _ v _ kr => absurd kr (by omega)), LAT_d h hLa rfl (by omega) (by omega), BDA_d h hBd rfl rfl (by omega) (by omega), INI_d h hn hIn (fun k hk => by rw [yo (by omega) (by omega)]) (by omega), PLC_n h hPl (fun k hk => by rw [yo (by omega) (by omega)]) (fun q => by omega) (fun k h1 h2 => yo (by omega) (by omega)) sz.1 sz.2⟩ (fun c h1 h2 h3 => yo (by omega) h2)
    · rw [y5 (by decide), hX.2.1, t1, if_neg (by omega), Nat.add_zero]
    · rw [y5 (by decide), hX.2.2.1, t2, if_neg (by omega), Nat.add_zero]
    · rw [y5 (by decide), hX.2.2.2.1, th, if_neg (by omega), Nat.add_zero]
  · -- input
    subst k1
    obtain ⟨e6, p⟩ := N6 h (by omega)
    have kn := nkn hE hW p e6
    obtain ⟨sc1, sc2, sc3, sc4⟩ := Scx hW w p
    have ys2 : rwX hx n 1 fb (24 + n) 2 = nI (nk d' n) := by rw [r2, hD.2.2.2.1 (by omega) (by omega), sc1, kn]
    rw [if_pos rfl] at t1
    rw [if_neg (by omega)] at t2 th
    refine pB_addInput n (nk d' n) (tot d (nI 1) n) hn ys2 (by omega) (by rw [y5 (by decide)]; exact hX.2.1) (by omega) (fun hl' f1 f2 => ?_)
    have z5 : ∀ c, c ≠ 24 + n → c ≠ 5 → (u2 (u2 (rwX hx n 1 fb) (24 + n) 4 (nI (tot d (nI 1) n))) 5 3 (nI (tot d (nI 1) n + bts (nk d' n)))) c = hx c := fun c h1 h2 => by
      rw [u2_cf _ _ _ h2, u2_cf _ _ _ h1]; exact yo h1 h2
    refine hΦ _ _ (RXLn h hn hX hD fb hfb2 ?_ ?_ ?_ ?_ (fun k hk s hs => by rw [z5 _ (by omega) (by omega)]) (c_d h hX (by omega) (by omega) (fun k hk => by rw [z5 _ (by omega) (by omega)]; exact ⟨rfl, rfl⟩)) (fun s hs => by rw [u2_c _ _ _ _ (by omega), u2_j _ _ _ _ (by omega)]) (fun q => by omega)) ⟨WIR_n h hWi (fun k hk => f1 _ (by omega)) (fun σ hσ i hi v hA _ j hj => ?_), LAT_d h hLa (f1 7 (by omega)) (by omega) (by omega), BDA_d h hBd (f1 8 (by omega)) (f1 9 (by omega)) (by omega) (by omega), INI_d h hn hIn (fun k hk => by rw [z5 _ (by omega) (by omega)]) (by omega), PLC_n h hPl (fun k hk => by rw [z5 _ (by omega) (by omega)]) (fun q => by rw [u2_c _ _ _ _ (by omega), u2_s]) (fun k h1 h2 => z5 _ (by omega) (by omega)) sz.1 sz.2⟩ (fun c h1 h2 h3 => z5 c (by omega) h2)
    · rw [u2_j _ _ _ _ (by decide), u2_c _ _ _ _ (by omega)]; exact y52
    · rw [u2_s, t1]
    · rw [u2_j _ _ _ _ (by decide), u2_c _ _ _ _ (by omega), y5 (by decide), hX.2.2.1, t2, Nat.add_zero]
    · rw [u2_j _ _ _ _ (by decide), u2_c _ _ _ _ (by omega), y5 (by decide), hX.2.2.2.1, th, Nat.add_zero]
    · have hv := (hA.2.2 n (by omega)).2 (N5 h)
      have hp : pl d' n = tot d (nI 1) n := by
        unfold pl; rw [N5 h, tot_c hE hW _ (nod_nI (by omega) (by omega)) n (Nat.le_refl _)]
      rw [f2 j i hj hi, hv, fld_t hj, hp]
      cases i.testBit (tot d (nI 1) n + j)
      · rw [if_neg (by decide), bt_0]
      · rw [if_pos rfl, bt_m1 hσ]
  · -- state
    subst k2
    obtain ⟨e6, p⟩ := N6 h (by omega)
    have kn := nkn hE hW p e6
    obtain ⟨sc1, sc2, sc3, sc4⟩ := Scx hW w p
    have ys2 : rwX hx n 2 fb (24 + n) 2 = nI (nk d' n) := by rw [r2, hD.2.2.2.1 (by omega) (by omega), sc1, kn]
    rw [if_neg (by omega)] at t1 th
    rw [if_pos rfl] at t2
    refine pB_addState n (nk d' n) (tot d (nI 2) n) hn ys2 (by omega) (by rw [y5 (by decide)]; exact hX.2.2.1) (by omega) (fun hl' f1 f2 f3 f4 => ?_)
    have z5 : ∀ c, c ≠ 24 + n → c ≠ 5 → (u2 (u2 (rwX hx n 2 fb) (24 + n) 4 (nI (tot d (nI 2) n))) 5 4 (nI (tot d (nI 2) n + bts (nk d' n)))) c = hx c := fun c h1 h2 => by
      rw [u2_cf _ _ _ h2, u2_cf _ _ _ h1]; exact yo h1 h2
    have hp : pl d' n = tot d (nI 2) n := by
      unfold pl; rw [N5 h, tot_c hE hW _ (nod_nI (by omega) (by omega)) n (Nat.le_refl _)]
    refine hΦ _ _ (RXLn h hn hX hD fb hfb2 ?_ ?_ ?_ ?_ (fun k hk s hs => by rw [z5 _ (by omega) (by omega)]) (c_d h hX (by omega) (by omega) (fun k hk => by rw [z5 _ (by omega) (by omega)]; exact ⟨rfl, rfl⟩)) (fun s hs => by rw [u2_c _ _ _ _ (by omega), u2_j _ _ _ _ (by omega)]) (fun q => ?_)) ⟨WIR_n h hWi (fun k hk => f1 _ (by omega) (by omega)) (fun σ hσ i hi v hA _ j hj => ?_), fun σ hσ i hi v hA k hk e2 j hj => ?_, BDA_d h hBd (f1 8 (by omega) (by omega)) (f1 9 (by omega) (by omega)) (by omega) (by omega), INI_d h hn hIn (fun k hk => by rw [z5 _ (by omega) (by omega)]) (by omega), PLC_n h hPl (fun k hk => by rw [z5 _ (by omega) (by omega)]) (fun q => by rw [u2_c _ _ _ _ (by omega), u2_s]) (fun k h1 h2 => z5 _ (by omega) (by omega)) sz.1 sz.2⟩ (fun c h1 h2 h3 => z5 c (by omega) h2)
    · rw [u2_j _ _ _ _ (by decide), u2_c _ _ _ _ (by omega)]; exact y52
    · rw [u2_j _ _ _ _ (by decide), u2_c _ _ _ _ (by omega), y5 (by decide), hX.2.1, t1, Nat.add_zero]
    · rw [u2_s, t2]
    · rw [u2_j _ _ _ _ (by decide), u2_c _ _ _ _ (by omega), y5 (by decide), hX.2.2.2.1, th, Nat.add_zero]
    · refine ⟨?_, ?_⟩
      · rw [u2_c _ _ _ _ (by omega), u2_j _ _ _ _ (by decide), r4 5 (by omega)]; exact fresh.1
      · rw [u2_c _ _ _ _ (by omega), u2_j _ _ _ _ (by decide), r4 6 (by omega)]; exact fresh.2
    · have hv := (hA.2.2 n (by omega)).1 (N5 h)
      rw [f2 j i hj hi, hv, fld_t hj, hp, lanes_b _ (List.mem_range.mpr (by omega)) _ (List.mem_range.mpr hσ)]
    · by_cases z : k = n
      · subst z
        have hv := (hA.2.2 k (by omega)).1 (N5 h)
        rw [hp, f3 j i hj hi, nx_n h, if_neg (by omega), nx_new hF v (Nat.le_refl _) k (Nat.le_refl _), hv, fld_t hj, hp, lanes_b _ (List.mem_range.mpr (by omega)) _ (List.mem_range.mpr hσ)]
      · have hk' : k < n := by omega
        rw [hE 5 (by omega) (by omega) k hk'] at e2
        have hno := (fre_2 e2).1
        rw [nk_c hE hW hk' hno] at hj
        have hb := pl_b (d := d) hk'
        rw [e2] at hb
        rw [pl_c hE hW hk' hno, f4 _ _ hi (fun y => by have : tot d (nI 2) n = tot d 2 n := rfl; omega), nx_n h, if_neg (by omega)]
        exact hLa σ hσ i hi v (Asg_r hE hF hA) k hk' e2 j hj
  · -- init
    subst k27
    rw [if_neg (by omega)] at t1 t2 th
    have hl2 : (nwl 27).length = 2 := by decide
    have ha := (NL_a h).2.2
    rw [CK_27] at ha
    simp only [List.all_cons, List.all_nil, Bool.and_eq_true, id, and_true] at ha
    obtain ⟨b0, b1, b2⟩ := ha
    have p0 := of_decide_eq_true b0
    have p1 := of_decide_eq_true b1
    have p2 := of_decide_eq_true b2
    obtain ⟨sc1, sc2, sc3, sc4⟩ := Scx hW w p0
    have ka := key 0 (by rw [hl2]; omega)
    have kb := key 1 (by rw [hl2]; omega)
    have s1 : sX d n w 27 1 = sc d (SW d n w 2).toNatClampNeg := p2.2.1
    have ea : d 5 (kX d n w 27 0) = 2 := p1.2.2.1
    obtain ⟨f, hf⟩ := NL_f h
    have e7 : d' 7 n = NW d n w 3 := by
      rw [hf 7 (by omega) (by omega)]
      simp (decide := true) only [FN, FNr, FNs, fA, fB, fC, f2, f1, fI, ↓reduceIte]
    have e8 : d' 8 n = NW d n w 4 := by
      rw [hf 8 (by omega) (by omega)]
      simp (decide := true) only [FN, FNr, FNs, fA, fB, fC, f2, f1, fI, ↓reduceIte]
    have e11 : d' 11 n = bI (TN d w 4) := by
      rw [hf 11 (by omega) (by omega)]
      simp (decide := true) only [FN, FNr, FNs, fA, fB, fC, f2, f1, fI, ↓reduceIte]
    have oB := oprn hE hW (c := 8) p2.1 e8 e11
    have gB := fun v => gvn oB e11 v
    have eo : oix d' n 7 = kX d n w 27 0 := by unfold oix; rw [e7]; rfl
    have e7' : d' 7 n = nI (kX d n w 27 0) := by rw [e7]; exact (nsr hW w 3 p1.1).2.2.2.symm
    rw [hl2] at Dy
    refine pB_setInit Dy (by omega) (sc d (SW d n w 2).toNatClampNeg) (by rw [yo (by omega) (by omega), hD.2.2.2.1 (by omega) (by omega), sc1]) (by omega) ?_
    have z5 : ∀ c, c ≠ 24 + n → c ≠ 5 → c ≠ 24 + kX d n w 27 0 → (u2 (rwX hx n 27 fb) (24 + kX d n w 27 0) 5 (nI (lvb (fun j => bt (wir hl (kX d n w 27) (tX d w 27) 0 1 j) 0) (bts (sc d (SW d n w 2).toNatClampNeg))))) c = hx c := fun c h1 h2 h3 => by
      rw [u2_cf _ _ _ h3]; exact yo h1 h2
    have zk : ∀ k, k < n → ∀ s, s ≠ 5 → (u2 (rwX hx n 27 fb) (24 + kX d n w 27 0) 5 (nI (lvb (fun j => bt (wir hl (kX d n w 27) (tX d w 27) 0 1 j) 0) (bts (sc d (SW d n w 2).toNatClampNeg))))) (24 + k) s = hx (24 + k) s := fun k hk s hs => by
      rw [u2_j _ _ _ _ hs, yo (by omega) (by omega)]
    have zk5 : ∀ k, k < n → k ≠ kX d n w 27 0 → (u2 (rwX hx n 27 fb) (24 + kX d n w 27 0) 5 (nI (lvb (fun j => bt (wir hl (kX d n w 27) (tX d w 27) 0 1 j) 0) (bts (sc d (SW d n w 2).toNatClampNeg))))) (24 + k) 5 = hx (24 + k) 5 := fun k hk hs => by
      rw [u2_c _ _ _ _ (by omega), yo (by omega) (by omega)]
    have ilt : lvb (fun j => bt (wir hl (kX d n w 27) (tX d w 27) 0 1 j) 0) (bts (sc d (SW d n w 2).toNatClampNeg)) < 64 := Nat.lt_of_lt_of_le (lvb_lt _ _) (p2_64 (bts_7 sc3))
    refine hΦ _ _ (RXLn h hn hX hD fb hfb2 ?_ ?_ ?_ ?_ (fun k hk s hs => zk k hk s (by omega)) (fun k hk e2 => ⟨?_, ?_⟩) (fun s hs => by rw [u2_c _ _ _ _ (by omega)]) (fun q => by omega)) ⟨WIR_n h hWi (fun k hk => rfl) (fun σ _ i _ v _ kr => absurd kr (by omega)), LAT_d h hLa rfl (by omega) (by omega), BDA_d h hBd rfl rfl (by omega) (by omega), fun k hk e2 hq v h1 h2 h3 => ?_, PLC_n h hPl (fun k hk => zk k hk 4 (by omega)) (fun q => by omega) (fun k h1 h2 => z5 _ (by omega) (by omega) (by omega)) sz.1 sz.2⟩ (fun c h1 h2 h3 => z5 c (by omega) h2 (by omega))
    · rw [u2_c _ _ _ _ (by omega)]; exact y52
    · rw [u2_c _ _ _ _ (by omega), y5 (by decide), hX.2.1, t1, Nat.add_zero]
    · rw [u2_c _ _ _ _ (by omega), y5 (by decide), hX.2.2.1, t2, Nat.add_zero]
    · rw [u2_c _ _ _ _ (by omega), y5 (by decide), hX.2.2.2.1, th, Nat.add_zero]
    · rw [hsq_n h 27 (by omega)]
      by_cases z : k = kX d n w 27 0
      · subst z
        rw [u2_s, decide_eq_true (And.intro rfl e7'), Bool.or_true]
        constructor
        · intro y
          have : (0 : Int32) ≤ -1 := by rw [← y]; exact nI_pos' (by omega)
          exact absurd this (by decide)
        · intro y; exact absurd y (by decide)
      · rw [zk5 k hk z, decide_eq_false (fun y => z ((nI_eq (by omega) (by omega)).mp (e7'.symm.trans y.2)).symm), Bool.or_false]
        exact ((hX.2.2.2.2 k hk).2.2.2.2.2 e2).1
    · rw [hsq_n h 28 (by omega), decide_eq_false (fun y => by omega), Bool.or_false, zk k hk 6 (by omega)]
      exact ((hX.2.2.2.2 k hk).2.2.2.2.2 e2).2
    · obtain ⟨z1, z2, z3⟩ := zer_r hE hF h1 h2 h3
      rw [hsq_n h 27 (by omega)] at hq
      have hkn : k ≠ n := fun z => by subst z; exact absurd ((kof h 2 (by omega)).mp e2) (by omega)
      have hk' : k < n := by omega
      rw [hE 5 (by omega) (by omega) k hk'] at e2
      rw [ivl_n h, eo]
      by_cases z : k = kX d n w 27 0
      · subst z
        rw [u2_s, if_pos ⟨rfl, rfl⟩, gB v]
        have hA0 : Asg d n v 0 0 := by
          refine ⟨z1, z2, fun k hk => ⟨fun e => ?_, fun e => ?_⟩⟩
          · rw [z3 k hk (fre_2 e)]; unfold fld; rw [Nat.zero_div, Nat.zero_mod]
          · rw [z3 k hk (fre_1 e)]; unfold fld; rw [Nat.zero_div, Nat.zero_mod]
        have := lanes 0 (by omega) 0 (by omega) v hA0 1 (by rw [hl2]; omega)
        have en : nn (nwl 27).length (sX d n w 27) 1 = sc d (SW d n w 2).toNatClampNeg := by unfold nn; rw [hl2, if_pos (by omega), s1]
        unfold lwv at this
        rw [en] at this
        rw [this]; rfl
      · rw [decide_eq_false (fun y => z ((nI_eq (by omega) (by omega)).mp (e7'.symm.trans y.2)).symm), Bool.or_false] at hq
        rw [zk5 k hk' z, if_neg (fun y => z y.2.symm)]
        exact hIn k hk' e2 hq v z1 z2 z3
  · -- next
    subst k28
    rw [if_neg (by omega)] at t1 t2 th
    have hl2 : (nwl 28).length = 2 := by decide
    have ha := (NL_a h).2.2
    rw [CK_28] at ha
    simp only [List.all_cons, List.all_nil, Bool.and_eq_true, id, and_true] at ha
    obtain ⟨b0, b1, b2⟩ := ha
    have p0 := of_decide_eq_true b0
    have p1 := of_decide_eq_true b1
    have p2 := of_decide_eq_true b2
    obtain ⟨sc1, sc2, sc3, sc4⟩ := Scx hW w p0
    have ka := key 0 (by rw [hl2]; omega)
    have kb := key 1 (by rw [hl2]; omega)
    have s1 : sX d n w 28 1 = sc d (SW d n w 2).toNatClampNeg := p2.2.1
    have s0 : nk d (kX d n w 28 0) = sc d (SW d n w 2).toNatClampNeg := by rw [← ka.2.2.1]; exact p1.2.2.2.1
    have ea : d 5 (kX d n w 28 0) = 2 := p1.2.2.1
    obtain ⟨f, hf⟩ := NL_f h
    have e7 : d' 7 n = NW d n w 3 := by
      rw [hf 7 (by omega) (by omega)]
      simp (decide := true) only [FN, FNr, FNs, fA, fB, fC, f2, f1, fI, ↓reduceIte]
    have e8 : d' 8 n = NW d n w 4 := by
      rw [hf 8 (by omega) (by omega)]
      simp (decide := true) only [FN, FNr, FNs, fA, fB, fC, f2, f1, fI, ↓reduceIte]
    have e11 : d' 11 n = bI (TN d w 4) := by
      rw [hf 11 (by omega) (by omega)]
      simp (decide := true) only [FN, FNr, FNs, fA, fB, fC, f2, f1, fI, ↓reduceIte]
    have oB := oprn hE hW (c := 8) p2.1 e8 e11
    have gB := fun v => gvn oB e11 v
    have eo : oix d' n 7 = kX d n w 28 0 := by unfold oix; rw [e7]; rfl
    have e7' : d' 7 n = nI (kX d n w 28 0) := by rw [e7]; exact (nsr hW w 3 p1.1).2.2.2.symm
    have pb := pl_b (d := d) ka.1
    rw [ea, s0] at pb
    have p26 := hPl.2.2.2
    have e22 : tot d (nI 2) n = tot d 2 n := rfl
    rw [hl2] at Dy
    refine pB_setNext Dy (by omega) (sc d (SW d n w 2).toNatClampNeg) (pl d (kX d n w 28 0)) (by rw [yo (by omega) (by omega), hD.2.2.2.1 (by omega) (by omega), sc1]) (by omega) (by rw [yo (by omega) (by omega)]; exact hPl.1 _ ka.1 (Or.inr ea)) (by omega) (fun hl' f1 f2 f3 => ?_)
    have z5 : ∀ c, c ≠ 24 + n → c ≠ 5 → c ≠ 24 + kX d n w 28 0 → (u2 (rwX hx n 28 fb) (24 + kX d n w 28 0) 6 1) c = hx c := fun c h1 h2 h3 => by
      rw [u2_cf _ _ _ h3]; exact yo h1 h2
    have zk : ∀ k, k < n → ∀ s, s ≠ 6 → (u2 (rwX hx n 28 fb) (24 + kX d n w 28 0) 6 1) (24 + k) s = hx (24 + k) s := fun k hk s hs => by
      rw [u2_j _ _ _ _ hs, yo (by omega) (by omega)]
    refine hΦ _ _ (RXLn h hn hX hD fb hfb2 ?_ ?_ ?_ ?_ (fun k hk s hs => zk k hk s (by omega)) (fun k hk e2 => ⟨?_, ?_⟩) (fun s hs => by rw [u2_c _ _ _ _ (by omega)]) (fun q => by omega)) ⟨WIR_n h hWi (fun k hk => f1 _ (by omega)) (fun σ _ i _ v _ kr => absurd kr (by omega)), fun σ hσ i hi v hA k hk e2 j hj => ?_, BDA_d h hBd (f1 8 (by omega)) (f1 9 (by omega)) (by omega) (by omega), INI_d h hn hIn (fun k hk => zk k hk 5 (by omega)) (by omega), PLC_n h hPl (fun k hk => zk k hk 4 (by omega)) (fun q => by omega) (fun k h1 h2 => z5 _ (by omega) (by omega) (by omega)) sz.1 sz.2⟩ (fun c h1 h2 h3 => z5 c (by omega) h2 (by omega))
    · rw [u2_c _ _ _ _ (by omega)]; exact y52
    · rw [u2_c _ _ _ _ (by omega), y5 (by decide), hX.2.1, t1, Nat.add_zero]
    · rw [u2_c _ _ _ _ (by omega), y5 (by decide), hX.2.2.1, t2, Nat.add_zero]
    · rw [u2_c _ _ _ _ (by omega), y5 (by decide), hX.2.2.2.1, th, Nat.add_zero]
    · rw [hsq_n h 27 (by omega), decide_eq_false (fun y => by omega), Bool.or_false, zk k hk 5 (by omega)]
      exact ((hX.2.2.2.2 k hk).2.2.2.2.2 e2).1
    · rw [hsq_n h 28 (by omega)]
      by_cases z : k = kX d n w 28 0
      · subst z
        rw [u2_s, decide_eq_true (And.intro rfl e7'), Bool.or_true]; rfl
      · rw [u2_c _ _ _ _ (by omega), yo (by omega) (by omega), decide_eq_false (fun y => z ((nI_eq (by omega) (by omega)).mp (e7'.symm.trans y.2)).symm), Bool.or_false]
        exact ((hX.2.2.2.2 k hk).2.2.2.2.2 e2).2
    · have hkn : k ≠ n := fun z => by subst z; exact absurd ((kof h 2 (by omega)).mp e2) (by omega)
      have hk' : k < n := by omega
      rw [hE 5 (by omega) (by omega) k hk'] at e2
      have hno := (fre_2 e2).1
      rw [nk_c hE hW hk' hno] at hj
      have hAr := Asg_r hE hF hA
      rw [pl_c hE hW hk' hno, nx_n h, eo]
      by_cases z : k = kX d n w 28 0
      · subst z
        rw [s0] at hj
        rw [if_pos ⟨rfl, rfl⟩, gB v, f2 j i hj hi]
        exact lane1 σ hσ i hi v hAr 1 (by rw [hl2]; omega) j (by rw [s1]; exact hj)
      · have pd := pl_d ea e2 (fun y => z y.symm)
        rw [s0] at pd
        rw [if_neg (fun y => z y.2.symm), f3 _ _ hi (fun y => by omega)]
        exact hLa σ hσ i hi v hAr k hk' e2 j hj
  · -- bad
    subst k29
    rw [if_neg (by omega)] at t1 t2 th
    have hl1 : (nwl 29).length = 1 := by decide
    have ha := (NL_a h).2.2
    rw [CK_29] at ha
    simp only [List.all_cons, List.all_nil, Bool.and_eq_true, id, and_true] at ha
    have p0 := of_decide_eq_true ha
    have s1 : sX d n w 29 0 = 1 := p0.2
    obtain ⟨f, hf⟩ := NL_f h
    have e7 : d' 7 n = NW d n w 2 := by
      rw [hf 7 (by omega) (by omega)]
      simp (decide := true) only [FN, FNr, FNs, fA, fB, fC, f2, f1, fI, ↓reduceIte]
    have e10 : d' 10 n = bI (TN d w 2) := by
      rw [hf 10 (by omega) (by omega)]
      simp (decide := true) only [FN, FNr, FNs, fA, fB, fC, f2, f1, fI, ↓reduceIte]
    have oA := oprn hE hW (c := 7) p0.1 e7 e10
    have gA := fun v => gvn oA e10 v
    rw [hl1] at Dy
    refine pB_addBad Dy (by omega) (fun hl' f1 f2 => ?_)
    refine hΦ _ _ (RXLn h hn hX hD fb hfb2 y52 ?_ ?_ ?_ (fun k hk s hs => by rw [yo (by omega) (by omega)]) (c_d h hX (by omega) (by omega) (fun k hk => by rw [yo (by omega) (by omega)]; exact ⟨rfl, rfl⟩)) (fun s hs => rfl) (fun q => by omega)) ⟨WIR_n h hWi (fun k hk => f1 _ (by omega)) (fun σ _ i _ v _ kr => absurd kr (by omega)), LAT_d h hLa (f1 7 (by omega)) (by omega) (by omega), fun σ hσ i hi v hA => ?_, INI_d h hn hIn (fun k hk => by rw [yo (by omega) (by omega)]) (by omega), PLC_n h hPl (fun k hk => by rw [yo (by omega) (by omega)]) (fun q => by omega) (fun k h1 h2 => yo (by omega) (by omega)) sz.1 sz.2⟩ (fun c h1 h2 h3 => yo (by omega) h2)
    · rw [y5 (by decide), hX.2.1, t1, Nat.add_zero]
    · rw [y5 (by decide), hX.2.2.1, t2, Nat.add_zero]
    · rw [y5 (by decide), hX.2.2.2.1, th, Nat.add_zero]
    · have hAr := Asg_r hE hF hA
      have ob := hBd σ hσ i hi v hAr
      have l1 := lane1 σ hσ i hi v hAr 0 (by rw [hl1]; omega) 0 (by rw [s1]; decide)
      have g2 := gv1 hF' hA.1 (show n < n + 1 by omega) 29 (Or.inl rfl) (N5 h)
      rw [f2 i hi, f1 9 (by omega), bdd_n h, hld_n h, decide_eq_true (Or.inl (by decide)), Bool.and_true, bt_or, ob.1, ob.2, l1]
      refine ⟨?_, rfl⟩
      congr 1
      rw [gA v] at g2 ⊢
      have hx2 : wv d n w v ((nwl 29).getD 0 0) = wv d n w v 2 := rfl
      rw [hx2]
      have : wv d n w v 2 = 0 ∨ wv d n w v 2 = 1 := by omega
      rcases this with z | z <;> rw [z] <;> decide
  · -- constraint
    subst k30
    rw [if_neg (by omega)] at t1 t2 th
    have hl1 : (nwl 30).length = 1 := by decide
    have ha := (NL_a h).2.2
    rw [CK_30] at ha
    simp only [List.all_cons, List.all_nil, Bool.and_eq_true, id, and_true] at ha
    have p0 := of_decide_eq_true ha
    have s1 : sX d n w 30 0 = 1 := p0.2
    obtain ⟨f, hf⟩ := NL_f h
    have e7 : d' 7 n = NW d n w 2 := by
      rw [hf 7 (by omega) (by omega)]
      simp (decide := true) only [FN, FNr, FNs, fA, fB, fC, f2, f1, fI, ↓reduceIte]
    have e10 : d' 10 n = bI (TN d w 2) := by
      rw [hf 10 (by omega) (by omega)]
      simp (decide := true) only [FN, FNr, FNs, fA, fB, fC, f2, f1, fI, ↓reduceIte]
    have oA := oprn hE hW (c := 7) p0.1 e7 e10
    have gA := fun v => gvn oA e10 v
    rw [hl1] at Dy
    refine pB_addConstraint Dy (by omega) (fun hl' f1 f2 => ?_)
    refine hΦ _ _ (RXLn h hn hX hD fb hfb2 y52 ?_ ?_ ?_ (fun k hk s hs => by rw [yo (by omega) (by omega)]) (c_d h hX (by omega) (by omega) (fun k hk => by rw [yo (by omega) (by omega)]; exact ⟨rfl, rfl⟩)) (fun s hs => rfl) (fun q => by omega)) ⟨WIR_n h hWi (fun k hk => f1 _ (by omega)) (fun σ _ i _ v _ kr => absurd kr (by omega)), LAT_d h hLa (f1 7 (by omega)) (by omega) (by omega), fun σ hσ i hi v hA => ?_, INI_d h hn hIn (fun k hk => by rw [yo (by omega) (by omega)]) (by omega), PLC_n h hPl (fun k hk => by rw [yo (by omega) (by omega)]) (fun q => by omega) (fun k h1 h2 => yo (by omega) (by omega)) sz.1 sz.2⟩ (fun c h1 h2 h3 => yo (by omega) h2)
    · rw [y5 (by decide), hX.2.1, t1, Nat.add_zero]
    · rw [y5 (by decide), hX.2.2.1, t2, Nat.add_zero]
    · rw [y5 (by decide), hX.2.2.2.1, th, Nat.add_zero]
    · have hAr := Asg_r hE hF hA
      have ob := hBd σ hσ i hi v hAr
      have l1 := lane1 σ hσ i hi v hAr 0 (by rw [hl1]; omega) 0 (by rw [s1]; decide)
      have g2 := gv1 hF' hA.1 (show n < n + 1 by omega) 30 (Or.inr rfl) (N5 h)
      rw [f2 i hi, f1 8 (by omega), bdd_n h, hld_n h, decide_eq_false (fun y : 30 = 29 ∧ _ => by omega), Bool.or_false, bt_and, ob.1, ob.2, l1]
      refine ⟨rfl, ?_⟩
      congr 1
      rw [gA v] at g2 ⊢
      have hx2 : wv d n w v ((nwl 30).getD 0 0) = wv d n w v 2 := rfl
      rw [hx2]
      have : wv d n w v 2 = 0 ∨ wv d n w v 2 = 1 := by omega
      rcases this with z | z <;> rw [z] <;> decide
  · -- a node with gates
    obtain ⟨cl, cg⟩ := cnx_n ⟨g1, g2⟩
    obtain ⟨oi3, oi21⟩ := oid_n ⟨g1, g2⟩ h
    obtain ⟨e6, p⟩ := N6 h (by omega)
    have kn := nkn hE hW p e6
    obtain ⟨sc1, sc2, sc3, sc4⟩ := Scx hW w p
    rw [if_neg (by omega)] at t1 t2
    have nu : ∀ j, ∃ x, x ≤ 99 ∧ (NU d w j = nI x ∨ NU d w j = -1) := fun j => by
      rcases NU_cases d w j with e | ⟨x, hx', e, _⟩
      · exact ⟨0, by omega, Or.inr e⟩
      · exact ⟨x, hx', Or.inl e⟩
    obtain ⟨u, hu9, hu⟩ := nu 3
    obtain ⟨l, hl9, hl5⟩ := nu 5
    have hu' : κ = 3 → NU d w 3 = nI u := fun q => by
      rcases hu with e | e
      · exact e
      · subst q
        have ha := (NL_a h).2.2
        rw [CK_3] at ha
        simp only [List.all_cons, List.all_nil, Bool.and_eq_true, id, and_true] at ha
        have z := (of_decide_eq_true ha.2).1
        rw [e] at z; exact absurd z (by decide)
    have hl' : κ = 21 → NU d w 5 = nI l := fun q => by
      rcases hl5 with e | e
      · exact e
      · subst q
        have ha := (NL_a h).2.2
        rw [CK_21] at ha
        simp only [List.all_cons, List.all_nil, Bool.and_eq_true, id, and_true] at ha
        have z := (of_decide_eq_true ha.2.2.2).1
        rw [e] at z; exact absurd z (by decide)
    have hu13 : d' 13 n = nI u ∨ ¬ κ = 3 := by
      by_cases q : κ = 3
      · left; rw [oi3 q, hu' q]
      · exact Or.inr q
    have hl14 : d' 14 n = nI l ∨ ¬ κ = 21 := by
      by_cases q : κ = 21
      · left; rw [oi21 q, hl' q]
      · exact Or.inr q
    have hJ := JC_n ⟨g1, g2⟩ h l u hu13 (by omega) hl14 (by omega)
    have zy : ∀ c, c ≠ 24 + n → c ≠ 5 → (u2 (rwX hx n κ fb) 5 5 (nI (hrd d n + if 12 ≤ κ ∧ κ ≤ 14 then 1 else 0))) c = hx c := fun c h1 h2 => by
      rw [u2_cf _ _ _ h2]; exact yo h1 h2
    refine pG_build (DNy _ zy) n κ (nk d' n) l u hn (fun m hm => (key m hm).1) (by rw [u2_c _ _ _ _ (by omega), r2, hD.2.2.2.1 (by omega) (by omega), sc1, kn]) (by omega) (by rw [zy 10 (by omega) (by omega)]; exact hD.2.1) (fun q => by rw [zy 10 (by omega) (by omega), hD.2.2.2.2.2.2.1 q]; exact hu' q) (fun q => by rw [zy 10 (by omega) (by omega), hD.2.2.2.2.2.2.2 q]; exact hl' q) hJ (fun hx' hl'' f1 f2 f3 => ?_)
    have zz : ∀ c, c ≠ 24 + n → c ≠ 5 → c ≠ 13 → hx' c = hx c := fun c h1 h2 h3 => by rw [f1 c h3]; exact zy c h1 h2
    refine hΦ _ _ (RXLn h hn hX hD fb hfb2 ?_ ?_ ?_ ?_ (fun k hk s hs => by rw [zz _ (by omega) (by omega) (by omega)]) (c_d h hX (by omega) (by omega) (fun k hk => by rw [zz _ (by omega) (by omega) (by omega)]; exact ⟨rfl, rfl⟩)) (fun s hs => by rw [f1 _ (by omega), u2_c _ _ _ _ (by omega)]) (fun q => by omega)) ⟨WIR_n h hWi (fun k hk => f2 _ (Or.inr (by omega)) (by omega)) (fun σ hσ i hi v hA _ j hj => ?_), LAT_d h hLa (f2 7 (by omega) (by omega)) (by omega) (by omega), BDA_d h hBd (f2 8 (by omega) (by omega)) (f2 9 (by omega) (by omega)) (by omega) (by omega), INI_d h hn hIn (fun k hk => by rw [zz _ (by omega) (by omega) (by omega)]) (by omega), PLC_n h hPl (fun k hk => by rw [zz _ (by omega) (by omega) (by omega)]) (fun q => by omega) (fun k h1 h2 => zz _ (by omega) (by omega) (by omega)) sz.1 sz.2⟩ (fun c h1 h2 h3 => zz c (by omega) h2 h3)
    · rw [f1 5 (by omega), u2_j _ _ _ _ (by decide)]; exact y52
    · rw [f1 5 (by omega), u2_j _ _ _ _ (by decide), y5 (by decide), hX.2.1, t1, Nat.add_zero]
    · rw [f1 5 (by omega), u2_j _ _ _ _ (by decide), y5 (by decide), hX.2.2.1, t2, Nat.add_zero]
    · rw [f1 5 (by omega), u2_s, th]
    · have hAr := Asg_r hE hF hA
      rw [f3 σ hσ i hi j hj]
      have ec : outW hl κ (nk d' n) (nwl κ).length (kX d n w κ) (sX d n w κ) (tX d w κ) l u i σ = outW hl κ (nk d' n) (cnx κ) (kN d n w) (sN d n w) (tN d w) l u i σ := by
        rw [cl]
        refine outW_c (fun m hm => ?_)
        have := cg m hm
        unfold kX sX tX kN sN tN
        rw [this]; exact ⟨rfl, rfl, rfl⟩
      rw [ec, NN_n ⟨g1, g2⟩ h hl v l u i σ hu13 hl14 (fun m hm => ?_)]
      · have hno : nod (d' 5 n) := by rw [N5 h]; exact nod_nI (by omega) (by omega)
        have hc2 : ¬ d' 5 n ≤ 2 := by
          rw [N5 h]
          intro y
          have := (nI_leI (b := 2) (by omega) (by omega)).mp y
          omega
        rw [← hA.2.1 n (by omega) hno hc2]
        have hv := v_64 hF'.1 hA.1 (show n < n + 1 by omega) hno
        rw [nI_clamp (by omega)]
      · have := lanes σ hσ i hi v hAr m (by rw [cl]; exact hm)
        rw [cg m hm] at this
        rw [← this]
        unfold lwv wir kX sX tX kN sN tN nn
        rw [cl, if_pos hm, if_pos hm]
        simp only [cg m hm]
