/-! the first n lines say the same in d and d' -/
def EQL (d d' : HI) (n : Nat) : Prop := ∀ c, 4 ≤ c → c ≤ 16 → ∀ k, k < n → d' c k = d c k
theorem sc_c {d d' : HI} {n : Nat} (h : EQL d d' n) {s : Nat} (hs : s < n) : sc d' s = sc d s := by
  unfold sc; rw [h 15 (by omega) (by omega) s hs, h 16 (by omega) (by omega) s hs]
theorem nk_c {d d' : HI} {n : Nat} (h : EQL d d' n) (hW : WL d n) {k : Nat} (hk : k < n) (hno : nod (d 5 k)) : nk d' k = nk d k := by
  have hn := hW.1
  obtain ⟨s, hs, es, _⟩ := hW.2.1 k hk hno
  unfold nk
  rw [h 6 (by omega) (by omega) k hk, es, nI_clamp (by omega), sc_c h hs]
theorem hsq_c {d d' : HI} {n : Nat} (h : EQL d d' n) (what x : Int32) : ∀ k, k ≤ n → hsq d' what x k = hsq d what x k
  | 0, _ => rfl
  | k + 1, hk => by
    simp only [hsq, hsq_c h what x k (by omega), h 5 (by omega) (by omega) k (by omega), h 7 (by omega) (by omega) k (by omega)]
theorem tot_c {d d' : HI} {n : Nat} (h : EQL d d' n) (hW : WL d n) (what : Int32) (hno : nod what) : ∀ k, k ≤ n → tot d' what k = tot d what k
  | 0, _ => rfl
  | k + 1, hk => by
    simp only [tot, tot_c h hW what hno k (by omega), h 5 (by omega) (by omega) k (by omega)]
    by_cases c : d 5 k = what
    · rw [if_pos c, if_pos c]
      have := nk_c h hW (show k < n by omega) (by rw [c]; exact hno)
      unfold nk at this
      rw [this]
    · rw [if_neg c, if_neg c]
theorem hrd_c {d d' : HI} {n : Nat} (h : EQL d d' n) : ∀ k, k ≤ n → hrd d' k = hrd d k
  | 0, _ => rfl
  | k + 1, hk => by
    simp only [hrd, hrd_c h k (by omega), h 5 (by omega) (by omega) k (by omega)]
theorem frv_c {d d' : HI} {n : Nat} (h : EQL d d' n) : ∀ m, m ≤ n → frv d' m = frv d m
  | 0, _ => rfl
  | m + 1, hm => by
    have ih := frv_c h m (by omega)
    funext i
    simp only [frv, ih]
    have : frs d' (frv d m) m = frs d (frv d m) m := by
      unfold frs
      simp only [h 5 (by omega) (by omega) m (by omega), h 7 (by omega) (by omega) m (by omega), h 8 (by omega) (by omega) m (by omega), h 9 (by omega) (by omega) m (by omega)]
    rw [this]
theorem FR_c {d d' : HI} {n : Nat} (h : EQL d d' n) {k : Nat} (hk : k < n) : FR d' k = FR d k := by
  unfold FR; rw [frv_c h (k + 1) (by omega)]
theorem oix_c {d d' : HI} {n : Nat} (h : EQL d d' n) {k c : Nat} (hk : k < n) (h1 : 4 ≤ c) (h2 : c ≤ 16) : oix d' k c = oix d k c := by
  unfold oix; rw [h c h1 h2 k hk]
theorem opr_c {d d' : HI} {n : Nat} (h : EQL d d' n) (hW : WL d n) {k c : Nat} (hk : k < n) (h1 : 7 ≤ c) (h2 : c ≤ 9) (ho : opr d k c) : opr d' k c ∧ nk d' (oix d' k c) = nk d (oix d k c) := by
  have hn := hW.1
  obtain ⟨i, hi, e, hno, t, et, ht⟩ := ho
  have en := nk_c h hW (show i < n by omega) hno
  refine ⟨⟨i, hi, by rw [h c (by omega) (by omega) k hk]; exact e, by rw [h 5 (by omega) (by omega) i (by omega)]; exact hno, t, by rw [h (c + 3) (by omega) (by omega) k hk]; exact et, fun q => by rw [en]; exact ht q⟩, ?_⟩
  have eo : oix d k c = i := by unfold oix; rw [e, nI_clamp (by omega)]
  rw [oix_c h hk (by omega) (by omega), eo, en]
theorem gv_c {d d' : HI} {n : Nat} (h : EQL d d' n) (hW : WL d n) {k c : Nat} (hk : k < n) (h1 : 7 ≤ c) (h2 : c ≤ 9) (ho : opr d k c) (v : Nat → Nat) : gv d' v k c = gv d v k c := by
  have := (opr_c h hW hk h1 h2 ho).2
  rw [oix_c h hk (by omega) (by omega)] at this
  unfold gv
  rw [h (c + 3) (by omega) (by omega) k hk, oix_c h hk (by omega) (by omega), this]
theorem LK_c {d d' : HI} {n : Nat} (h : EQL d d' n) (hW : WL d n) {k κ : Nat} (hk : k < n) (hκ : κ ≤ 30) (e5 : d 5 k = nI κ) (hL : LK d κ k) : LK d' κ k := by
  have hn := hW.1
  have e : ∀ c, 4 ≤ c → c ≤ 16 → d' c k = d c k := fun c h1 h2 => h c h1 h2 k hk
  have nkk : 1 ≤ κ → κ ≤ 26 → nk d' k = nk d k := fun h1 h2 => nk_c h hW hk (by rw [e5]; exact nod_nI h1 h2)
  have ok := fun c (h1 : 7 ≤ c) (h2 : c ≤ 9) (ho : opr d k c) => opr_c h hW hk h1 h2 ho
  obtain ⟨l1, l3, lA, l8, lB, lC, l45, l6, lbin, l17, l18, l20, l21, l22, l24, l25, l26, l27, l29⟩ := hL
  have kA : 4 ≤ κ → κ ≤ 26 → nk d' (oix d' k 7) = nk d (oix d k 7) := fun a b => (ok 7 (by decide) (by decide) (lA a b)).2
  have kB : (7 ≤ κ ∧ κ ≤ 20 ∨ 24 ≤ κ ∧ κ ≤ 28) → nk d' (oix d' k 8) = nk d (oix d k 8) := fun a => (ok 8 (by decide) (by decide) (lB a)).2
  have kC : (κ = 24 ∨ κ = 26) → nk d' (oix d' k 9) = nk d (oix d k 9) := fun a => (ok 9 (by decide) (by decide) (lC a)).2
  refine ⟨fun q => ?_, fun q => ?_, fun q1 q2 => (ok 7 (by decide) (by decide) (lA q1 q2)).1, fun q => ?_, fun q => (ok 8 (by decide) (by decide) (lB q)).1, fun q => (ok 9 (by decide) (by decide) (lC q)).1, fun q => ?_, fun q => ?_, fun q1 q2 => ?_, fun q => ?_, fun q => ?_, fun q => ?_, fun q => ?_, fun q => ?_, fun q => ?_, fun q => ?_, fun q => ?_, fun q => ?_, fun q => ?_⟩
  · have z := l1 q
    clear l1 l3 lA l8 lB lC l45 l6 lbin l17 l18 l20 l21 l22 l24 l25 l26 l27 l29
    rw [nkk (by omega) (by omega)]; exact z
  · have z := l3 q
    clear l1 l3 lA l8 lB lC l45 l6 lbin l17 l18 l20 l21 l22 l24 l25 l26 l27 l29
    rw [nkk (by omega) (by omega), e 7 (by omega) (by omega), e 8 (by omega) (by omega), e 13 (by omega) (by omega)]; exact z
  · rw [e 8 (by decide) (by decide)]; exact l8 q
  · have z := l45 q
    clear l1 l3 lA l8 lB lC l45 l6 lbin l17 l18 l20 l21 l22 l24 l25 l26 l27 l29
    rw [nkk (by omega) (by omega), kA (by omega) (by omega)]; exact z
  · have z := l6 q
    clear l1 l3 lA l8 lB lC l45 l6 lbin l17 l18 l20 l21 l22 l24 l25 l26 l27 l29
    rw [nkk (by omega) (by omega), kA (by omega) (by omega)]; exact z
  · have z := lbin q1 q2
    clear l1 l3 lA l8 lB lC l45 l6 lbin l17 l18 l20 l21 l22 l24 l25 l26 l27 l29
    rw [nkk (by omega) (by omega), kA (by omega) (by omega), kB (by omega)]; exact z
  · have z := l17 q
    clear l1 l3 lA l8 lB lC l45 l6 lbin l17 l18 l20 l21 l22 l24 l25 l26 l27 l29
    rw [nkk (by omega) (by omega), kA (by omega) (by omega), kB (by omega)]; exact z
  · have z := l18 q
    clear l1 l3 lA l8 lB lC l45 l6 lbin l17 l18 l20 l21 l22 l24 l25 l26 l27 l29
    rw [nkk (by omega) (by omega), kA (by omega) (by omega), kB (by omega)]; exact z
  · have z := l20 q
    clear l1 l3 lA l8 lB lC l45 l6 lbin l17 l18 l20 l21 l22 l24 l25 l26 l27 l29
    rw [nkk (by omega) (by omega), kA (by omega) (by omega), kB (by omega)]; exact z
  · have z := l21 q
    clear l1 l3 lA l8 lB lC l45 l6 lbin l17 l18 l20 l21 l22 l24 l25 l26 l27 l29
    rw [nkk (by omega) (by omega), kA (by omega) (by omega), e 14 (by omega) (by omega)]; exact z
  · have z := l22 q
    clear l1 l3 lA l8 lB lC l45 l6 lbin l17 l18 l20 l21 l22 l24 l25 l26 l27 l29
    rw [nkk (by omega) (by omega), kA (by omega) (by omega)]; exact z
  · have z := l24 q
    clear l1 l3 lA l8 lB lC l45 l6 lbin l17 l18 l20 l21 l22 l24 l25 l26 l27 l29
    rw [nkk (by omega) (by omega), kA (by omega) (by omega), kB (by omega), kC (by omega)]; exact z
  · have z := l25 q
    clear l1 l3 lA l8 lB lC l45 l6 lbin l17 l18 l20 l21 l22 l24 l25 l26 l27 l29
    rw [nkk (by omega) (by omega), kA (by omega) (by omega), kB (by omega)]; exact z
  · have z := l26 q
    clear l1 l3 lA l8 lB lC l45 l6 lbin l17 l18 l20 l21 l22 l24 l25 l26 l27 l29
    rw [nkk (by omega) (by omega), kA (by omega) (by omega), kB (by omega), kC (by omega)]; exact z
  · obtain ⟨⟨a, ha, ea, e2, eh⟩, en, ef⟩ := l27 q
    have ho8 : opr d k 8 := lB (by clear l1 l3 lA l8 lB lC l45 l6 lbin l17 l18 l20 l21 l22 l24 l25 l26 l27 l29; omega)
    clear l1 l3 lA l8 lB lC l45 l6 lbin l17 l18 l20 l21 l22 l24 l25 l26 l27 l29
    have eo : oix d k 7 = a := by unfold oix; rw [ea, nI_clamp (by omega)]
    have na : nk d' a = nk d a := nk_c h hW (by omega) (by rw [e2]; exact ⟨by decide, by decide⟩)
    obtain ⟨i, hi, ei, _⟩ := ho8
    have eo8 : oix d k 8 = i := by unfold oix; rw [ei, nI_clamp (by omega)]
    refine ⟨⟨a, ha, by rw [e 7 (by omega) (by omega)]; exact ea, by rw [h 5 (by omega) (by omega) a (by omega)]; exact e2, by rw [hsq_c h _ _ k (by omega)]; exact eh⟩, ?_, fun z => ?_⟩
    · rw [kB (by omega), oix_c h hk (by omega) (by omega), eo, na, en, eo]
    · rw [oix_c h hk (by omega) (by omega), eo8, FR_c h (by omega), ← eo8]; exact ef z
  · have z := l29 q
    have w := ok 7 (by decide) (by decide) z.1
    exact ⟨w.1, by rw [w.2]; exact z.2⟩
theorem WL_c {d d' : HI} {n : Nat} (h : EQL d d' n) (hW : WL d n) : WL d' n := by
  refine ⟨hW.1, fun k hk hno => ?_, fun k hk h0 => ?_⟩
  · rw [h 5 (by omega) (by omega) k hk] at hno
    obtain ⟨s, hs, es, e5⟩ := hW.2.1 k hk hno
    exact ⟨s, hs, by rw [h 6 (by omega) (by omega) k hk]; exact es, by rw [h 5 (by omega) (by omega) s hs]; exact e5⟩
  · rw [h 5 (by omega) (by omega) k hk] at h0
    rw [h 16 (by omega) (by omega) k hk, h 15 (by omega) (by omega) k hk]
    exact hW.2.2 k hk h0
theorem WA_c {d d' : HI} {n : Nat} (h : EQL d d' n) (hA : WA d n) : WA d' n := fun j hj hno c h1 h2 => by
  rw [h 5 (by omega) (by omega) j hj] at hno
  rw [h c (by omega) (by omega) j hj]
  exact hA j hj hno c h1 h2
theorem WI_c {d d' : HI} {n : Nat} (h : EQL d d' n) (hI : WI d n) : WI d' n := by
  refine ⟨fun k hk => ?_, fun a b ha hb e => ?_⟩
  · rw [h 4 (by omega) (by omega) k hk]; exact hI.1 k hk
  · rw [h 4 (by omega) (by omega) a ha, h 4 (by omega) (by omega) b hb] at e
    exact hI.2 a b ha hb e
theorem WF_c {d d' : HI} {n : Nat} (h : EQL d d' n) (hF : WF d n) : WF d' n := by
  refine ⟨WL_c h hF.1, WA_c h hF.2.1, WI_c h hF.2.2.1, fun k hk => ?_⟩
  obtain ⟨κ, hκ, e5, hL⟩ := hF.2.2.2 k hk
  exact ⟨κ, hκ, by rw [h 5 (by omega) (by omega) k hk]; exact e5, LK_c h hF.1 hk hκ e5 hL⟩
theorem opK_c {d d' : HI} {n : Nat} (h : EQL d d' n) (hW : WL d n) {k κ : Nat} (hk : k < n) (hκ : 3 ≤ κ ∧ κ ≤ 26) (e5 : d 5 k = nI κ) (hL : LK d κ k) (v : Nat → Nat) : opK d' v k = opK d v k := by
  have hn := hW.1
  have eκ : (d 5 k).toNatClampNeg = κ := by rw [e5]; exact nI_clamp (by omega)
  have nkk := nk_c h hW hk (by rw [e5]; exact nod_nI (by omega) (by omega))
  obtain ⟨l1, l3, lA, l8, lB, lC, _⟩ := hL
  unfold opK
  rw [h 5 (by omega) (by omega) k hk, h 14 (by omega) (by omega) k hk, h 13 (by omega) (by omega) k hk, eκ, nkk]
  by_cases kA : 4 ≤ κ
  · have oA := lA kA hκ.2
    rw [gv_c h hW hk (by omega) (by omega) oA v, (opr_c h hW hk (by omega) (by omega) oA).2]
    by_cases kB : 7 ≤ κ ∧ κ ≤ 20 ∨ 24 ≤ κ ∧ κ ≤ 28
    · have oB := lB kB
      rw [gv_c h hW hk (by omega) (by omega) oB v, (opr_c h hW hk (by omega) (by omega) oB).2]
      by_cases kC : κ = 24 ∨ κ = 26
      · rw [gv_c h hW hk (by omega) (by omega) (lC kC) v]
      · have hc : κ = 7 ∨ κ = 8 ∨ κ = 9 ∨ κ = 10 ∨ κ = 11 ∨ κ = 12 ∨ κ = 13 ∨ κ = 14 ∨ κ = 15 ∨ κ = 16 ∨ κ = 17 ∨ κ = 18 ∨ κ = 19 ∨ κ = 20 ∨ κ = 25 := by omega
        rcases hc with rfl | rfl | rfl | rfl | rfl | rfl | rfl | rfl | rfl | rfl | rfl | rfl | rfl | rfl | rfl <;> simp (decide := true) only [opM, ↓reduceIte]
    · have hc : κ = 4 ∨ κ = 5 ∨ κ = 6 ∨ κ = 21 ∨ κ = 22 ∨ κ = 23 := by omega
      rcases hc with rfl | rfl | rfl | rfl | rfl | rfl <;> simp (decide := true) only [opM, ↓reduceIte]
  · have : κ = 3 := by omega
    subst this
    simp (decide := true) only [opM, ↓reduceIte]
theorem VR_c {d d' : HI} {n : Nat} (h : EQL d d' n) (hW : WL d n) {v : Nat → Nat} : VR d' n v ↔ VR d n v := by
  constructor
  · intro hV k hk hno
    have := hV k hk (by rw [h 5 (by omega) (by omega) k hk]; exact hno)
    rwa [nk_c h hW hk hno] at this
  · intro hV k hk hno
    rw [h 5 (by omega) (by omega) k hk] at hno
    rw [nk_c h hW hk hno]; exact hV k hk hno
theorem Sett_c {d d' : HI} {n : Nat} (h : EQL d d' n) (hF : WF d n) {v : Nat → Nat} (hS : Sett d' n v) : Sett d n v := fun k hk hno hc => by
  obtain ⟨κ, hκ, e5, hL⟩ := hF.2.2.2 k hk
  have hkr : 3 ≤ κ ∧ κ ≤ 26 := by
    have a := (nod_κ hκ).mp (e5 ▸ hno)
    have b : ¬ κ ≤ 2 := fun z => hc (by rw [e5]; exact (nI_leI (b := 2) (by omega) (by omega)).mpr z)
    omega
  have e := h 5 (by omega) (by omega) k hk
  rw [hS k hk (by rw [e]; exact hno) (by rw [e]; exact hc), opK_c h hF.1 hk hkr e5 hL]
