/-! X takes a line: its lines against M's -/
def RXL (d hx : HI) (n : Nat) : Prop := hx 5 2 = nI n ∧ hx 5 3 = nI (tot d (nI 1) n) ∧ hx 5 4 = nI (tot d (nI 2) n) ∧ hx 5 5 = nI (hrd d n) ∧ ∀ k, k < n → (∃ κ, κ ≤ 30 ∧ d 5 k = nI κ) ∧ LX d n k hx
theorem RX_L {d hx : HI} {n w : Nat} (h : RX d hx n w) : RXL d hx n := ⟨h.1, h.2.2.2.2.2.1, h.2.2.2.2.2.2.1, h.2.2.2.2.2.2.2.1, h.2.2.2.2.2.2.2.2⟩
theorem rw_o (hx : HI) (n κ : Nat) (fb : Bool) {c : Nat} (h1 : c ≠ 24 + n) (h2 : c ≠ 5) : rwX hx n κ fb c = hx c := by
  unfold rwX; rw [u2_cf _ _ _ h2, u2_cf _ _ _ h1, u2_cf _ _ _ h1, u2_cf _ _ _ h1, u2_cf _ _ _ h1]
theorem rw_5 (hx : HI) (n κ : Nat) (fb : Bool) {s : Nat} (h : s ≠ 2) : rwX hx n κ fb 5 s = hx 5 s := by
  unfold rwX; rw [u2_j _ _ _ _ h, u2_c _ _ _ _ (by omega), u2_c _ _ _ _ (by omega), u2_c _ _ _ _ (by omega), u2_c _ _ _ _ (by omega)]
theorem rw_52 (hx : HI) (n κ : Nat) (fb : Bool) : rwX hx n κ fb 5 2 = nI (n + 1) := by unfold rwX; rw [u2_s]
theorem rw_n (hx : HI) (n κ : Nat) (fb : Bool) : rwX hx n κ fb (24 + n) 0 = hx 10 2 ∧ rwX hx n κ fb (24 + n) 1 = nI κ ∧ rwX hx n κ fb (24 + n) 2 = hx 10 4 ∧ rwX hx n κ fb (24 + n) 3 = bI fb ∧ ∀ s, 4 ≤ s → rwX hx n κ fb (24 + n) s = hx (24 + n) s := by
  unfold rwX
  have ne : (24 + n : Nat) ≠ 5 := by omega
  refine ⟨?_, ?_, ?_, ?_, fun s hs => ?_⟩
  · rw [u2_c _ _ _ _ ne]; simp (decide := true) only [u2_j, u2_s]
  · rw [u2_c _ _ _ _ ne]; simp (decide := true) only [u2_j, u2_s]
  · rw [u2_c _ _ _ _ ne]; simp (decide := true) only [u2_j, u2_s]
  · rw [u2_c _ _ _ _ ne, u2_s]
  · rw [u2_c _ _ _ _ ne, u2_j _ _ _ _ (by omega), u2_j _ _ _ _ (by omega), u2_j _ _ _ _ (by omega), u2_j _ _ _ _ (by omega)]
theorem tot_n {d d' : HI} {n w κ : Nat} (h : NL d d' n w κ) (c : Nat) (h1 : 1 ≤ c) (h2 : c ≤ 26) : tot d' (nI c) (n + 1) = tot d (nI c) n + (if κ = c then bts (nk d' n) else 0) := by
  have e := kof h c (by omega)
  simp only [tot, tot_c h.2.2.1 h.2.1.1 (nI c) (nod_nI h1 h2) n (Nat.le_refl _)]
  by_cases q : κ = c
  · rw [if_pos q, if_pos (e.mpr q)]; rfl
  · rw [if_neg q, if_neg (fun y => q (e.mp y))]
theorem hrd_n {d d' : HI} {n w κ : Nat} (h : NL d d' n w κ) : hrd d' (n + 1) = hrd d n + (if 12 ≤ κ ∧ κ ≤ 14 then 1 else 0) := by
  have hκ := h.2.2.2.1
  simp only [hrd, hrd_c h.2.2.1 n (Nat.le_refl _), N5 h]
  have e1 : ((12 : Int32) ≤ nI κ) ↔ 12 ≤ κ := nI_leI (a := 12) (by omega) (by omega)
  have e2 : (nI κ ≤ (14 : Int32)) ↔ κ ≤ 14 := nI_leI (b := 14) (by omega) (by omega)
  simp only [e1, e2]
/-- the rows behind a line that was taken -/
theorem RXLn {d d' : HI} {n w κ : Nat} (h : NL d d' n w κ) (hn : n < 20) {hx hx' : HI} (hX : RXL d hx n) (hD : DF d n w κ hx) (fb : Bool) (hfb : (1 ≤ κ ∧ κ ≤ 26) → fb = ! FR d' n)
    (a2 : hx' 5 2 = nI (n + 1)) (a3 : hx' 5 3 = nI (tot d' (nI 1) (n + 1))) (a4 : hx' 5 4 = nI (tot d' (nI 2) (n + 1))) (a5 : hx' 5 5 = nI (hrd d' (n + 1)))
    (b : ∀ k, k < n → ∀ s, s < 4 → hx' (24 + k) s = hx (24 + k) s)
    (c : ∀ k, k < n → d 5 k = 2 → ((hx' (24 + k) 5 = -1) ↔ (hsq d' (nI 27) (nI k) (n + 1) = false)) ∧ hx' (24 + k) 6 = bI (hsq d' (nI 28) (nI k) (n + 1)))
    (e0 : ∀ s, s < 4 → hx' (24 + n) s = rwX hx n κ fb (24 + n) s) (e2 : κ = 2 → hx' (24 + n) 5 = -1 ∧ hx' (24 + n) 6 = 0) : RXL d' hx' (n + 1) := by
  have hκ := h.2.2.2.1
  have hE := h.2.2.1
  have hF := h.2.1
  have hW := hF.1
  refine ⟨a2, a3, a4, a5, fun k hk => ?_⟩
  by_cases z : k = n
  · subst z
    obtain ⟨r0, r1, r2, r3, _⟩ := rw_n hx k κ fb
    refine ⟨⟨κ, hκ, N5 h⟩, ?_, ?_, fun q => ?_, fun q => ⟨?_, ?_⟩, fun q => ⟨?_, ?_⟩⟩
    · rw [e0 0 (by omega), r0, hD.1, N4 h]
    · rw [e0 1 (by omega), r1, N5 h]
    · have k0 := (kof h 0 (by omega)).mp q
      subst k0
      rw [e0 2 (by omega), r2]
      exact (N0 h).2 _ (hD.2.2.1 rfl)
    · rw [N5 h] at q
      have kr := (nod_κ hκ).mp q
      obtain ⟨e6, p⟩ := N6 h kr
      rw [e0 2 (by omega), r2, hD.2.2.2.1 kr.1 (by omega), (Scx hW w p).1, ← nkn hE hW p e6]; rfl
    · rw [N5 h] at q
      have kr := (nod_κ hκ).mp q
      rw [e0 3 (by omega), r3, hfb kr]
    · have k2 := (kof h 2 (by omega)).mp q
      have hq := hsq_new (WF_c hE hF) 27 (Or.inl rfl) (Nat.le_refl k) (by omega)
      have : hsq d' (nI 27) (nI k) (k + 1) = false := by
        rw [hsq_n h 27 (by omega), decide_eq_false (fun y => by omega), Bool.or_false]
        exact hsq_new hF 27 (Or.inl rfl) (Nat.le_refl k) (by omega)
      rw [this]; exact ⟨fun _ => rfl, fun _ => (e2 k2).1⟩
    · have k2 := (kof h 2 (by omega)).mp q
      have : hsq d' (nI 28) (nI k) (k + 1) = false := by
        rw [hsq_n h 28 (by omega), decide_eq_false (fun y => by omega), Bool.or_false]
        exact hsq_new hF 28 (Or.inr rfl) (Nat.le_refl k) (by omega)
      rw [this]; exact (e2 k2).2
  · have hk' : k < n := by omega
    obtain ⟨⟨κk, hκk, ek⟩, l0, l1, l2, l3, l4⟩ := hX.2.2.2.2 k hk'
    have e5 := hE 5 (by omega) (by omega) k hk'
    refine ⟨⟨κk, hκk, by rw [e5]; exact ek⟩, ?_, ?_, fun q => ?_, fun q => ⟨?_, ?_⟩, fun q => ?_⟩
    · rw [b k hk' 0 (by omega), l0, hE 4 (by omega) (by omega) k hk']
    · rw [b k hk' 1 (by omega), l1, e5]
    · rw [e5] at q
      rw [b k hk' 2 (by omega), l2 q, sc_c hE hk']
    · rw [e5] at q
      rw [b k hk' 2 (by omega), (l3 q).1]
      have := nk_c hE hW hk' q
      unfold nk at this
      rw [this]
    · rw [e5] at q
      rw [b k hk' 3 (by omega), (l3 q).2, FR_c hE hk']
    · rw [e5] at q
      exact c k hk' q
/-- where no state's init or next is told -/
theorem c_d {d d' : HI} {n w κ : Nat} (h : NL d d' n w κ) {hx hx' : HI} (hX : RXL d hx n) (h27 : κ ≠ 27) (h28 : κ ≠ 28) (b : ∀ k, k < n → hx' (24 + k) 5 = hx (24 + k) 5 ∧ hx' (24 + k) 6 = hx (24 + k) 6) : ∀ k, k < n → d 5 k = 2 → ((hx' (24 + k) 5 = -1) ↔ (hsq d' (nI 27) (nI k) (n + 1) = false)) ∧ hx' (24 + k) 6 = bI (hsq d' (nI 28) (nI k) (n + 1)) := by
  intro k hk e2
  obtain ⟨_, _, _, _, _, l4⟩ := hX.2.2.2.2 k hk
  rw [hsq_n h 27 (by omega), hsq_n h 28 (by omega), decide_eq_false (fun y => h27 y.1), decide_eq_false (fun y => h28 y.1), Bool.or_false, Bool.or_false, (b k hk).1, (b k hk).2]
  exact l4 e2
theorem DN_of {d d' hx : HI} {n w κ : Nat} (h : NL d d' n w κ) (hX : RXL d hx n) (hD : DF d n w κ hx) : DN hx (nwl κ).length (kX d n w κ) (sX d n w κ) (tX d w κ) ∧ (∀ m, m < (nwl κ).length → kX d n w κ m < n ∧ nod (d 5 (kX d n w κ m)) ∧ sX d n w κ m = nk d (kX d n w κ m) ∧ (tX d w κ m = true → nk d (kX d n w κ m) ≤ 4) ∧ hx 11 m = nI (kX d n w κ m) ∧ hx (24 + kX d n w κ m) 3 = bI (! FR d (kX d n w κ m))) := by
  have hκ := h.2.2.2.1
  have hW := h.2.1.1
  have hn := hW.1
  have wn := wn_n h
  have l3 : (nwl κ).length ≤ 3 := by
    unfold nwl
    split; simp
    split; simp
    split; simp
    split; simp
    split; simp
    split; simp
    split; simp
    split; simp
    simp
  have key : ∀ m, m < (nwl κ).length → kX d n w κ m < n ∧ nod (d 5 (kX d n w κ m)) ∧ sX d n w κ m = nk d (kX d n w κ m) ∧ (tX d w κ m = true → nk d (kX d n w κ m) ≤ 4) ∧ hx 11 m = nI (kX d n w κ m) ∧ hx (24 + kX d n w κ m) 3 = bI (! FR d (kX d n w κ m)) := fun m hm => by
    have q := wn m hm
    obtain ⟨e11, e12⟩ := hD.2.2.2.2.2.1 m hm
    rcases NW_full hW w ((nwl κ).getD m 0) with ez | ⟨k, s, hk, hs, ek, hno, e6, e5, ht, en⟩
    · rw [ez] at q; exact absurd q (by decide)
    · have ck : kX d n w κ m = k := by unfold kX; rw [ek]; exact nI_clamp (by omega)
      have nk1 : nk d k = sc d s := by unfold nk; rw [e6, nI_clamp (by omega)]
      rw [ck]
      refine ⟨hk, hno, ?_, fun z => ?_, by rw [e11, ek], ?_⟩
      · unfold sX; rw [en, nk1]
      · rw [nk1]; exact ht z
      · exact ((hX.2.2.2.2 k hk).2.2.2.2.1 hno).2
  refine ⟨⟨hD.2.2.2.2.1, l3, fun m hm => ?_⟩, key⟩
  obtain ⟨k1, k2, k3, k4, k5, k6⟩ := key m hm
  have hs := nkf hW k1 k2
  obtain ⟨_, _, _, _, _, _, r2, _⟩ := hs
  refine ⟨k5, by omega, ?_, by omega, (hD.2.2.2.2.2.1 m hm).2⟩
  rw [k3]
  exact ((hX.2.2.2.2 _ k1).2.2.2.2.1 k2).1
