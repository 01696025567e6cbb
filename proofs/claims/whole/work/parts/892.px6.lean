/-! X: the lines, kind by kind (printed by wip/whole/pure/forms.py) -/
def OKX (d : HI) (n w : Nat) (hx0 : HI) (κ : Nat) (s : HI) : Prop := RX d s n w ∧ FX hx0 s ∧ s 10 3 = nI κ
theorem OK_s {d : HI} {n w : Nat} {hx0 : HI} {κ : Nat} {s : HI} (h : OKX d n w hx0 κ s) (x : Int32) : OKX d n w hx0 κ (u2 s 10 4 x) :=
  ⟨RX_u h.1 10 _ _ (by omega) (by omega), FX_t h.2.1 (FX_u _ 10 _ _ (by omega) (by omega)), by rw [u2_j _ _ _ _ (by decide)]; exact h.2.2⟩
theorem OK_d {d : HI} {n w : Nat} {hx0 : HI} {κ : Nat} {s : HI} (h : OKX d n w hx0 κ s) (cnt : Nat) (x t : Int32) (c : Nat) : OKX d n w hx0 κ (ndX s cnt x t c) :=
  ⟨RX_nd h.1 _ _ _ _, FX_t h.2.1 (FX_nd _ _ _ _ _), by unfold ndX; simp (decide := true) only [u2_j, u2_c]; exact h.2.2⟩
theorem OK_n {d : HI} {n w : Nat} {hx0 : HI} {κ : Nat} {s : HI} (h : OKX d n w hx0 κ s) (x : Int32) : OKX d n w hx0 κ (nmX s x) :=
  ⟨RX_nm h.1 _, FX_t h.2.1 (FX_nm _ _), by unfold nmX; simp (decide := true) only [u2_j]; exact h.2.2⟩
theorem gs_4 (s : HI) (x : Int32) : u2 s 10 4 x 10 4 = x := u2_s _ _ _ _
theorem gs_7 (s : HI) (x : Int32) : u2 s 10 4 x 10 7 = s 10 7 := u2_j _ _ _ _ (by decide)
theorem gd_4 (s : HI) (cnt : Nat) (x t : Int32) (c : Nat) : ndX s cnt x t c 10 4 = s 10 4 := by unfold ndX; simp (decide := true) only [u2_j, u2_c]
theorem gd_7 (s : HI) (cnt : Nat) (x t : Int32) (c : Nat) : ndX s cnt x t c 10 7 = nI (cnt + 1) := by unfold ndX; simp (decide := true) only [u2_j, u2_s]
theorem gd_8 (s : HI) (cnt : Nat) (x t : Int32) (c : Nat) : ndX s cnt x t c 10 8 = nI c := by unfold ndX; rw [u2_s]
theorem gn_4 (s : HI) (x : Int32) : nmX s x 10 4 = s 10 4 := by unfold nmX; simp (decide := true) only [u2_j]
theorem gn_8 (s : HI) (x : Int32) : nmX s x 10 8 = s 10 8 := by unfold nmX; simp (decide := true) only [u2_j]
theorem gn_9 (s : HI) (x : Int32) : nmX s x 10 9 = x := by unfold nmX; rw [u2_s]
theorem dAnd {a b : Prop} [Decidable a] [Decidable b] [Decidable (a ∧ b)] : decide (a ∧ b) = (decide a && decide b) := by
  by_cases h : a <;> by_cases k : b <;> simp [h, k]
theorem dEq {a b c : Prop} [Decidable a] [Decidable b] [Decidable c] (h : a ↔ (b ∧ c)) : decide a = (decide b && decide c) := by
  by_cases h1 : b <;> by_cases k : c <;> simp [h, h1, k]
theorem nsr {d : HI} {n : Nat} (hW : WL d n) (w j : Nat) (q : 0 ≤ NW d n w j) : 1 ≤ ns d (NW d n w j) ∧ ns d (NW d n w j) ≤ 7 ∧ ns d (NW d n w j) ≠ 4 ∧ nI (NW d n w j).toNatClampNeg = NW d n w j := by
  obtain ⟨k, s', hk, hs', e, hno, e5', ec, ev, ec2, ev2, en, e6, hq⟩ := ndf hW w j q
  have := sc_r hW hs' e5'
  rw [en, ec]
  exact ⟨this.1, this.2.1, this.2.2.1, e.symm⟩
theorem Scx {d : HI} {n : Nat} (hW : WL d n) (w : Nat) (q : 0 ≤ SW d n w 2) : scX d n w 2 = nI (sc d (SW d n w 2).toNatClampNeg) ∧ 1 ≤ sc d (SW d n w 2).toNatClampNeg ∧ sc d (SW d n w 2).toNatClampNeg ≤ 7 ∧ sc d (SW d n w 2).toNatClampNeg ≠ 4 := by
  obtain ⟨s, hs, es, e5, ec, ev⟩ := swf hW w 2 q
  have := sc_r hW hs e5
  refine ⟨by unfold scX; rw [if_pos q], ?_⟩
  rw [ec]; exact ⟨this.1, this.2.1, this.2.2.1⟩
theorem C2_t {d : HI} {n w κ : Nat} (h : C2 d n w κ = true) : 0 ≤ SW d n w 2 ∧ Sok κ (sc d (SW d n w 2).toNatClampNeg) := by
  unfold C2 at h
  rw [Bool.and_eq_true, decide_eq_true_eq] at h
  exact ⟨h.1, @of_decide_eq_true _ (Classical.propDecidable _) h.2⟩
theorem runX1 {d : HI} {n w : Nat} {hl : HL} {Φ : Int32 → HI → HL → Prop} (hw : w ≤ 20) (κ : Nat) (hκ : κ ≤ 30) (ℓ0 : Int32) (b0 : Bool) (s0 s1 : HI) (hlen : 1 = slenN (31 + κ)) (e0 : scharC (31 + κ) 0 = ℓ0) (h0 : StepX d n w hl ℓ0 2 s0 b0 s1) (k0 : OKX d n w s0 κ s0) (k1 : OKX d n w s0 κ s1) (h : ∀ r hx', PX d n w s0 [b0] s1 r hx' → Φ r hx' hl) : ∃ fu, wbD_firstFault_89 fu 0 s0 hl Φ := by
  refine pX_runX hw κ hκ [b0] (fun i => ([s0, s1] : List HI).getD i s0) hlen (by simp) (fun i hi ht => ?_) (fun i hi => ?_) h
  · have hc : i = 0 := by simp at hi; omega
    subst hc
    · show StepX d n w hl (scharC (31 + κ) 0) 2 s0 b0 s1
      rw [e0]; exact h0 
  · have hc : i = 0 ∨ i = 1 := by simp at hi; omega
    rcases hc with rfl | rfl
    · exact k0
    · exact k1
theorem runX2 {d : HI} {n w : Nat} {hl : HL} {Φ : Int32 → HI → HL → Prop} (hw : w ≤ 20) (κ : Nat) (hκ : κ ≤ 30) (ℓ0 ℓ1 : Int32) (b0 b1 : Bool) (s0 s1 s2 : HI) (hlen : 2 = slenN (31 + κ)) (e0 : scharC (31 + κ) 0 = ℓ0) (e1 : scharC (31 + κ) 1 = ℓ1) (h0 : StepX d n w hl ℓ0 2 s0 b0 s1) (h1 : b0 = true → StepX d n w hl ℓ1 3 s1 b1 s2) (k0 : OKX d n w s0 κ s0) (k1 : OKX d n w s0 κ s1) (k2 : OKX d n w s0 κ s2) (h : ∀ r hx', PX d n w s0 [b0, b1] s2 r hx' → Φ r hx' hl) : ∃ fu, wbD_firstFault_89 fu 0 s0 hl Φ := by
  refine pX_runX hw κ hκ [b0, b1] (fun i => ([s0, s1, s2] : List HI).getD i s0) hlen (by simp) (fun i hi ht => ?_) (fun i hi => ?_) h
  · have hc : i = 0 ∨ i = 1 := by simp at hi; omega
    rcases hc with rfl | rfl
    · show StepX d n w hl (scharC (31 + κ) 0) 2 s0 b0 s1
      rw [e0]; exact h0 
    · show StepX d n w hl (scharC (31 + κ) 1) 3 s1 b1 s2
      rw [e1]; exact h1 (ht 0 (by omega))
  · have hc : i = 0 ∨ i = 1 ∨ i = 2 := by simp at hi; omega
    rcases hc with rfl | rfl | rfl
    · exact k0
    · exact k1
    · exact k2
theorem runX3 {d : HI} {n w : Nat} {hl : HL} {Φ : Int32 → HI → HL → Prop} (hw : w ≤ 20) (κ : Nat) (hκ : κ ≤ 30) (ℓ0 ℓ1 ℓ2 : Int32) (b0 b1 b2 : Bool) (s0 s1 s2 s3 : HI) (hlen : 3 = slenN (31 + κ)) (e0 : scharC (31 + κ) 0 = ℓ0) (e1 : scharC (31 + κ) 1 = ℓ1) (e2 : scharC (31 + κ) 2 = ℓ2) (h0 : StepX d n w hl ℓ0 2 s0 b0 s1) (h1 : b0 = true → StepX d n w hl ℓ1 3 s1 b1 s2) (h2 : b0 = true → b1 = true → StepX d n w hl ℓ2 4 s2 b2 s3) (k0 : OKX d n w s0 κ s0) (k1 : OKX d n w s0 κ s1) (k2 : OKX d n w s0 κ s2) (k3 : OKX d n w s0 κ s3) (h : ∀ r hx', PX d n w s0 [b0, b1, b2] s3 r hx' → Φ r hx' hl) : ∃ fu, wbD_firstFault_89 fu 0 s0 hl Φ := by
  refine pX_runX hw κ hκ [b0, b1, b2] (fun i => ([s0, s1, s2, s3] : List HI).getD i s0) hlen (by simp) (fun i hi ht => ?_) (fun i hi => ?_) h
  · have hc : i = 0 ∨ i = 1 ∨ i = 2 := by simp at hi; omega
    rcases hc with rfl | rfl | rfl
    · show StepX d n w hl (scharC (31 + κ) 0) 2 s0 b0 s1
      rw [e0]; exact h0 
    · show StepX d n w hl (scharC (31 + κ) 1) 3 s1 b1 s2
      rw [e1]; exact h1 (ht 0 (by omega))
    · show StepX d n w hl (scharC (31 + κ) 2) 4 s2 b2 s3
      rw [e2]; exact h2 (ht 0 (by omega)) (ht 1 (by omega))
  · have hc : i = 0 ∨ i = 1 ∨ i = 2 ∨ i = 3 := by simp at hi; omega
    rcases hc with rfl | rfl | rfl | rfl
    · exact k0
    · exact k1
    · exact k2
    · exact k3
theorem runX4 {d : HI} {n w : Nat} {hl : HL} {Φ : Int32 → HI → HL → Prop} (hw : w ≤ 20) (κ : Nat) (hκ : κ ≤ 30) (ℓ0 ℓ1 ℓ2 ℓ3 : Int32) (b0 b1 b2 b3 : Bool) (s0 s1 s2 s3 s4 : HI) (hlen : 4 = slenN (31 + κ)) (e0 : scharC (31 + κ) 0 = ℓ0) (e1 : scharC (31 + κ) 1 = ℓ1) (e2 : scharC (31 + κ) 2 = ℓ2) (e3 : scharC (31 + κ) 3 = ℓ3) (h0 : StepX d n w hl ℓ0 2 s0 b0 s1) (h1 : b0 = true → StepX d n w hl ℓ1 3 s1 b1 s2) (h2 : b0 = true → b1 = true → StepX d n w hl ℓ2 4 s2 b2 s3) (h3 : b0 = true → b1 = true → b2 = true → StepX d n w hl ℓ3 5 s3 b3 s4) (k0 : OKX d n w s0 κ s0) (k1 : OKX d n w s0 κ s1) (k2 : OKX d n w s0 κ s2) (k3 : OKX d n w s0 κ s3) (k4 : OKX d n w s0 κ s4) (h : ∀ r hx', PX d n w s0 [b0, b1, b2, b3] s4 r hx' → Φ r hx' hl) : ∃ fu, wbD_firstFault_89 fu 0 s0 hl Φ := by
  refine pX_runX hw κ hκ [b0, b1, b2, b3] (fun i => ([s0, s1, s2, s3, s4] : List HI).getD i s0) hlen (by simp) (fun i hi ht => ?_) (fun i hi => ?_) h
  · have hc : i = 0 ∨ i = 1 ∨ i = 2 ∨ i = 3 := by simp at hi; omega
    rcases hc with rfl | rfl | rfl | rfl
    · show StepX d n w hl (scharC (31 + κ) 0) 2 s0 b0 s1
      rw [e0]; exact h0 
    · show StepX d n w hl (scharC (31 + κ) 1) 3 s1 b1 s2
      rw [e1]; exact h1 (ht 0 (by omega))
    · show StepX d n w hl (scharC (31 + κ) 2) 4 s2 b2 s3
      rw [e2]; exact h2 (ht 0 (by omega)) (ht 1 (by omega))
    · show StepX d n w hl (scharC (31 + κ) 3) 5 s3 b3 s4
      rw [e3]; exact h3 (ht 0 (by omega)) (ht 1 (by omega)) (ht 2 (by omega))
  · have hc : i = 0 ∨ i = 1 ∨ i = 2 ∨ i = 3 ∨ i = 4 := by simp at hi; omega
    rcases hc with rfl | rfl | rfl | rfl | rfl
    · exact k0
    · exact k1
    · exact k2
    · exact k3
    · exact k4
theorem CK_1 (d : HI) (n w : Nat) : CK d n w 1 = [decide (0 ≤ SW d n w 2 ∧ (1 = 2 ∨ sc d (SW d n w 2).toNatClampNeg ≤ 4) ∧ tot d (nI 1) n + bts (sc d (SW d n w 2).toNatClampNeg) ≤ (if 1 = 2 then 6 else 2))] := by
  unfold CK; rw [if_neg (by omega), if_pos (by omega)]; rfl
noncomputable def zX_1 (d : HI) (n w : Nat) (hx : HI) : HI := (u2 hx 10 4 (scX d n w 2))
theorem ffX_1 {d hx : HI} {n w : Nat} {hl : HL} {Φ : Int32 → HI → HL → Prop} (hT : TXw d w) (hW : WL d n) (hI : WI d n) (hR : RX d hx n w) (hk : hx 10 3 = nI 1) (h7 : hx 10 7 = nI 0) (h : ∀ r hx', PX d n w hx (CK d n w 1) (zX_1 d n w hx) r hx' → Φ r hx' hl) : ∃ fu, wbD_firstFault_89 fu 0 hx hl Φ := by
  rw [CK_1] at h
  have k0 : OKX d n w hx 1 hx := ⟨hR, FX_r _, hk⟩
  have k1 : OKX d n w hx 1 (u2 hx 10 4 (scX d n w 2)) := OK_s k0 _
  refine runX1 hT.1 1 (by omega) 73 _ _ _ (by decide) (by decide) ?_ k0 k1 h
  · refine stS hT hW hI hR 73 ((1 = 2 ∨ sc d (SW d n w 2).toNatClampNeg ≤ 4) ∧ tot d (nI 1) n + bts (sc d (SW d n w 2).toNatClampNeg) ≤ (if 1 = 2 then 6 else 2)) inferInstance (Or.inr (Or.inl ⟨rfl, fun q => ?_⟩)) _ dAnd
    simp
theorem CK_2 (d : HI) (n w : Nat) : CK d n w 2 = [decide (0 ≤ SW d n w 2 ∧ (2 = 2 ∨ sc d (SW d n w 2).toNatClampNeg ≤ 4) ∧ tot d (nI 2) n + bts (sc d (SW d n w 2).toNatClampNeg) ≤ (if 2 = 2 then 6 else 2))] := by
  unfold CK; rw [if_neg (by omega), if_pos (by omega)]; rfl
noncomputable def zX_2 (d : HI) (n w : Nat) (hx : HI) : HI := (u2 hx 10 4 (scX d n w 2))
theorem ffX_2 {d hx : HI} {n w : Nat} {hl : HL} {Φ : Int32 → HI → HL → Prop} (hT : TXw d w) (hW : WL d n) (hI : WI d n) (hR : RX d hx n w) (hk : hx 10 3 = nI 2) (h7 : hx 10 7 = nI 0) (h : ∀ r hx', PX d n w hx (CK d n w 2) (zX_2 d n w hx) r hx' → Φ r hx' hl) : ∃ fu, wbD_firstFault_89 fu 0 hx hl Φ := by
  rw [CK_2] at h
  have k0 : OKX d n w hx 2 hx := ⟨hR, FX_r _, hk⟩
  have k1 : OKX d n w hx 2 (u2 hx 10 4 (scX d n w 2)) := OK_s k0 _
  refine runX1 hT.1 2 (by omega) 84 _ _ _ (by decide) (by decide) ?_ k0 k1 h
  · refine stS hT hW hI hR 84 ((2 = 2 ∨ sc d (SW d n w 2).toNatClampNeg ≤ 4) ∧ tot d (nI 2) n + bts (sc d (SW d n w 2).toNatClampNeg) ≤ (if 2 = 2 then 6 else 2)) inferInstance (Or.inr (Or.inr (Or.inr (Or.inr (Or.inl ⟨rfl, fun q => ?_⟩))))) _ dAnd
    simp
theorem CK_3 (d : HI) (n w : Nat) : CK d n w 3 = [C2 d n w 3, decide (0 ≤ NU d w 3 ∧ NU d w 3 < nI (2 ^ (sc d (SW d n w 2).toNatClampNeg)))] := by
  simp (decide := true) only [CK, CKr, CKt, CKi, ↓reduceIte]
noncomputable def zX_3 (d : HI) (n w : Nat) (hx : HI) : HI := (nmX (u2 hx 10 4 (scX d n w 2)) (NU d w 3))
theorem ffX_3 {d hx : HI} {n w : Nat} {hl : HL} {Φ : Int32 → HI → HL → Prop} (hT : TXw d w) (hW : WL d n) (hI : WI d n) (hR : RX d hx n w) (hk : hx 10 3 = nI 3) (h7 : hx 10 7 = nI 0) (h : ∀ r hx', PX d n w hx (CK d n w 3) (zX_3 d n w hx) r hx' → Φ r hx' hl) : ∃ fu, wbD_firstFault_89 fu 0 hx hl Φ := by
  rw [CK_3] at h
  have k0 : OKX d n w hx 3 hx := ⟨hR, FX_r _, hk⟩
  have k1 : OKX d n w hx 3 (u2 hx 10 4 (scX d n w 2)) := OK_s k0 _
  have k2 : OKX d n w hx 3 (nmX (u2 hx 10 4 (scX d n w 2)) (NU d w 3)) := OK_n k1 _
  refine runX2 hT.1 3 (by omega) 66 86 _ _ _ _ _ (by decide) (by decide) (by decide) ?_ ?_ k0 k1 k2 h
  · refine stS hT hW hI hR 66 (Sok 3 (sc d (SW d n w 2).toNatClampNeg)) (Classical.propDecidable _) (Or.inl ⟨rfl, fun q => ?_⟩) _ rfl
    simp (decide := true) only [Sok, ↓reduceIte]
  · intro b0
    have hc2 := C2_t b0
    have hsx := Scx hW w hc2.1
    have hok := hc2.2
    simp (decide := true) only [Sok, ↓reduceIte] at hok
    exact stN hT k1.1 86 3 (by omega) (sc d (SW d n w 2).toNatClampNeg) 0 (by rw [gs_4, hsx.1]) (by omega) (fun q => absurd q (by decide)) _ (Or.inl ⟨rfl, rfl⟩)
theorem CK_4 (d : HI) (n w : Nat) : CK d n w 4 = [C2 d n w 4, AS d n w 3 (sc d (SW d n w 2).toNatClampNeg)] := by
  simp (decide := true) only [CK, CKr, CKt, CKi, ↓reduceIte]
noncomputable def zX_4 (d : HI) (n w : Nat) (hx : HI) : HI := (ndX (u2 hx 10 4 (scX d n w 2)) 0 (NW d n w 3) (bI (TN d w 3)) (ns d (NW d n w 3)))
theorem ffX_4 {d hx : HI} {n w : Nat} {hl : HL} {Φ : Int32 → HI → HL → Prop} (hT : TXw d w) (hW : WL d n) (hI : WI d n) (hR : RX d hx n w) (hk : hx 10 3 = nI 4) (h7 : hx 10 7 = nI 0) (h : ∀ r hx', PX d n w hx (CK d n w 4) (zX_4 d n w hx) r hx' → Φ r hx' hl) : ∃ fu, wbD_firstFault_89 fu 0 hx hl Φ := by
  rw [CK_4] at h
  have k0 : OKX d n w hx 4 hx := ⟨hR, FX_r _, hk⟩
  have k1 : OKX d n w hx 4 (u2 hx 10 4 (scX d n w 2)) := OK_s k0 _
  have k2 : OKX d n w hx 4 (ndX (u2 hx 10 4 (scX d n w 2)) 0 (NW d n w 3) (bI (TN d w 3)) (ns d (NW d n w 3))) := OK_d k1 _ _ _ _
  refine runX2 hT.1 4 (by omega) 66 115 _ _ _ _ _ (by decide) (by decide) (by decide) ?_ ?_ k0 k1 k2 h
  · refine stS hT hW hI hR 66 (Sok 4 (sc d (SW d n w 2).toNatClampNeg)) (Classical.propDecidable _) (Or.inl ⟨rfl, fun q => ?_⟩) _ rfl
    simp (decide := true) only [Sok, ↓reduceIte]
  · intro b0
    have hc2 := C2_t b0
    have hsx := Scx hW w hc2.1
    have hok := hc2.2
    simp (decide := true) only [Sok, ↓reduceIte] at hok
    have hbP : AS d n w 3 (sc d (SW d n w 2).toNatClampNeg) = (decide (0 ≤ NW d n w 3) && decide ((ns d (NW d n w 3)) = (sc d (SW d n w 2).toNatClampNeg))) := by
      exact dAnd
    refine stD hT hW hI k1.1 115 3 (by omega) 0 (sc d (SW d n w 2).toNatClampNeg) 1 (by rw [gs_7]; exact h7) (by omega) (by omega) (by omega) (Or.inl (by rw [gs_4, hsx.1])) (fun q => absurd q (by decide)) _ (decide ((ns d (NW d n w 3)) = (sc d (SW d n w 2).toNatClampNeg))) hbP (fun q => Or.inr (Or.inr (Or.inl ⟨rfl, rfl⟩))) (by decide)
theorem CK_5 (d : HI) (n w : Nat) : CK d n w 5 = [C2 d n w 5, AS d n w 3 (sc d (SW d n w 2).toNatClampNeg)] := by
  simp (decide := true) only [CK, CKr, CKt, CKi, ↓reduceIte]
noncomputable def zX_5 (d : HI) (n w : Nat) (hx : HI) : HI := (ndX (u2 hx 10 4 (scX d n w 2)) 0 (NW d n w 3) (bI (TN d w 3)) (ns d (NW d n w 3)))
theorem ffX_5 {d hx : HI} {n w : Nat} {hl : HL} {Φ : Int32 → HI → HL → Prop} (hT : TXw d w) (hW : WL d n) (hI : WI d n) (hR : RX d hx n w) (hk : hx 10 3 = nI 5) (h7 : hx 10 7 = nI 0) (h : ∀ r hx', PX d n w hx (CK d n w 5) (zX_5 d n w hx) r hx' → Φ r hx' hl) : ∃ fu, wbD_firstFault_89 fu 0 hx hl Φ := by
  rw [CK_5] at h
  have k0 : OKX d n w hx 5 hx := ⟨hR, FX_r _, hk⟩
  have k1 : OKX d n w hx 5 (u2 hx 10 4 (scX d n w 2)) := OK_s k0 _
  have k2 : OKX d n w hx 5 (ndX (u2 hx 10 4 (scX d n w 2)) 0 (NW d n w 3) (bI (TN d w 3)) (ns d (NW d n w 3))) := OK_d k1 _ _ _ _
  refine runX2 hT.1 5 (by omega) 66 115 _ _ _ _ _ (by decide) (by decide) (by decide) ?_ ?_ k0 k1 k2 h
  · refine stS hT hW hI hR 66 (Sok 5 (sc d (SW d n w 2).toNatClampNeg)) (Classical.propDecidable _) (Or.inl ⟨rfl, fun q => ?_⟩) _ rfl
    simp (decide := true) only [Sok, ↓reduceIte]
  · intro b0
    have hc2 := C2_t b0
    have hsx := Scx hW w hc2.1
    have hok := hc2.2
    simp (decide := true) only [Sok, ↓reduceIte] at hok
    have hbP : AS d n w 3 (sc d (SW d n w 2).toNatClampNeg) = (decide (0 ≤ NW d n w 3) && decide ((ns d (NW d n w 3)) = (sc d (SW d n w 2).toNatClampNeg))) := by
      exact dAnd
    refine stD hT hW hI k1.1 115 3 (by omega) 0 (sc d (SW d n w 2).toNatClampNeg) 1 (by rw [gs_7]; exact h7) (by omega) (by omega) (by omega) (Or.inl (by rw [gs_4, hsx.1])) (fun q => absurd q (by decide)) _ (decide ((ns d (NW d n w 3)) = (sc d (SW d n w 2).toNatClampNeg))) hbP (fun q => Or.inr (Or.inr (Or.inl ⟨rfl, rfl⟩))) (by decide)
theorem CK_6 (d : HI) (n w : Nat) : CK d n w 6 = [C2 d n w 6, AB d n w 3] := by
  simp (decide := true) only [CK, CKr, CKt, CKi, ↓reduceIte]
noncomputable def zX_6 (d : HI) (n w : Nat) (hx : HI) : HI := (ndX (u2 hx 10 4 (scX d n w 2)) 0 (NW d n w 3) (bI (TN d w 3)) (ns d (NW d n w 3)))
theorem ffX_6 {d hx : HI} {n w : Nat} {hl : HL} {Φ : Int32 → HI → HL → Prop} (hT : TXw d w) (hW : WL d n) (hI : WI d n) (hR : RX d hx n w) (hk : hx 10 3 = nI 6) (h7 : hx 10 7 = nI 0) (h : ∀ r hx', PX d n w hx (CK d n w 6) (zX_6 d n w hx) r hx' → Φ r hx' hl) : ∃ fu, wbD_firstFault_89 fu 0 hx hl Φ := by
  rw [CK_6] at h
  have k0 : OKX d n w hx 6 hx := ⟨hR, FX_r _, hk⟩
  have k1 : OKX d n w hx 6 (u2 hx 10 4 (scX d n w 2)) := OK_s k0 _
  have k2 : OKX d n w hx 6 (ndX (u2 hx 10 4 (scX d n w 2)) 0 (NW d n w 3) (bI (TN d w 3)) (ns d (NW d n w 3))) := OK_d k1 _ _ _ _
  refine runX2 hT.1 6 (by omega) 79 98 _ _ _ _ _ (by decide) (by decide) (by decide) ?_ ?_ k0 k1 k2 h
  · refine stS hT hW hI hR 79 (Sok 6 (sc d (SW d n w 2).toNatClampNeg)) (Classical.propDecidable _) (Or.inr (Or.inr (Or.inl ⟨rfl, fun q => ?_⟩))) _ rfl
    simp (decide := true) only [Sok, ↓reduceIte]
  · intro b0
    have hc2 := C2_t b0
    have hsx := Scx hW w hc2.1
    have hok := hc2.2
    simp (decide := true) only [Sok, ↓reduceIte] at hok
    have hbP : AB d n w 3 = (decide (0 ≤ NW d n w 3) && decide ((ns d (NW d n w 3)) ≤ 4)) := by
      exact dAnd
    refine stD hT hW hI k1.1 98 3 (by omega) 0 (sc d (SW d n w 2).toNatClampNeg) 1 (by rw [gs_7]; exact h7) (by omega) (by omega) (by omega) (Or.inl (by rw [gs_4, hsx.1])) (fun q => absurd q (by decide)) _ (decide ((ns d (NW d n w 3)) ≤ 4)) hbP (fun q => Or.inl ⟨rfl, rfl⟩) (by decide)
theorem CK_7 (d : HI) (n w : Nat) : CK d n w 7 = [C2 d n w 7, AS d n w 3 (sc d (SW d n w 2).toNatClampNeg), AS d n w 4 (sc d (SW d n w 2).toNatClampNeg)] := by
  simp (decide := true) only [CK, CKr, CKt, CKi, ↓reduceIte]
noncomputable def zX_7 (d : HI) (n w : Nat) (hx : HI) : HI := (ndX (ndX (u2 hx 10 4 (scX d n w 2)) 0 (NW d n w 3) (bI (TN d w 3)) (ns d (NW d n w 3))) 1 (NW d n w 4) (bI (TN d w 4)) (ns d (NW d n w 4)))
theorem ffX_7 {d hx : HI} {n w : Nat} {hl : HL} {Φ : Int32 → HI → HL → Prop} (hT : TXw d w) (hW : WL d n) (hI : WI d n) (hR : RX d hx n w) (hk : hx 10 3 = nI 7) (h7 : hx 10 7 = nI 0) (h : ∀ r hx', PX d n w hx (CK d n w 7) (zX_7 d n w hx) r hx' → Φ r hx' hl) : ∃ fu, wbD_firstFault_89 fu 0 hx hl Φ := by
  rw [CK_7] at h
  have k0 : OKX d n w hx 7 hx := ⟨hR, FX_r _, hk⟩
  have k1 : OKX d n w hx 7 (u2 hx 10 4 (scX d n w 2)) := OK_s k0 _
  have k2 : OKX d n w hx 7 (ndX (u2 hx 10 4 (scX d n w 2)) 0 (NW d n w 3) (bI (TN d w 3)) (ns d (NW d n w 3))) := OK_d k1 _ _ _ _
  have k3 : OKX d n w hx 7 (ndX (ndX (u2 hx 10 4 (scX d n w 2)) 0 (NW d n w 3) (bI (TN d w 3)) (ns d (NW d n w 3))) 1 (NW d n w 4) (bI (TN d w 4)) (ns d (NW d n w 4))) := OK_d k2 _ _ _ _
  refine runX3 hT.1 7 (by omega) 66 115 115 _ _ _ _ _ _ _ (by decide) (by decide) (by decide) (by decide) ?_ ?_ ?_ k0 k1 k2 k3 h
  · refine stS hT hW hI hR 66 (Sok 7 (sc d (SW d n w 2).toNatClampNeg)) (Classical.propDecidable _) (Or.inl ⟨rfl, fun q => ?_⟩) _ rfl
    simp (decide := true) only [Sok, ↓reduceIte]
  · intro b0
    have hc2 := C2_t b0
    have hsx := Scx hW w hc2.1
    have hok := hc2.2
    simp (decide := true) only [Sok, ↓reduceIte] at hok
    have hbP : AS d n w 3 (sc d (SW d n w 2).toNatClampNeg) = (decide (0 ≤ NW d n w 3) && decide ((ns d (NW d n w 3)) = (sc d (SW d n w 2).toNatClampNeg))) := by
      exact dAnd
    refine stD hT hW hI k1.1 115 3 (by omega) 0 (sc d (SW d n w 2).toNatClampNeg) 1 (by rw [gs_7]; exact h7) (by omega) (by omega) (by omega) (Or.inl (by rw [gs_4, hsx.1])) (fun q => absurd q (by decide)) _ (decide ((ns d (NW d n w 3)) = (sc d (SW d n w 2).toNatClampNeg))) hbP (fun q => Or.inr (Or.inr (Or.inl ⟨rfl, rfl⟩))) (by decide)
  · intro b0 b1
    have hc2 := C2_t b0
    have hsx := Scx hW w hc2.1
    have hok := hc2.2
    simp (decide := true) only [Sok, ↓reduceIte] at hok
    have hbP : AS d n w 4 (sc d (SW d n w 2).toNatClampNeg) = (decide (0 ≤ NW d n w 4) && decide ((ns d (NW d n w 4)) = (sc d (SW d n w 2).toNatClampNeg))) := by
      exact dAnd
    refine stD hT hW hI k2.1 115 4 (by omega) 1 (sc d (SW d n w 2).toNatClampNeg) 1 (gd_7 _ _ _ _ _) (by omega) (by omega) (by omega) (Or.inl (by rw [gd_4, gs_4, hsx.1])) (fun q => absurd q (by decide)) _ (decide ((ns d (NW d n w 4)) = (sc d (SW d n w 2).toNatClampNeg))) hbP (fun q => Or.inr (Or.inr (Or.inl ⟨rfl, rfl⟩))) (by decide)
theorem CK_8 (d : HI) (n w : Nat) : CK d n w 8 = [C2 d n w 8, AS d n w 3 (sc d (SW d n w 2).toNatClampNeg), AS d n w 4 (sc d (SW d n w 2).toNatClampNeg)] := by
  simp (decide := true) only [CK, CKr, CKt, CKi, ↓reduceIte]
noncomputable def zX_8 (d : HI) (n w : Nat) (hx : HI) : HI := (ndX (ndX (u2 hx 10 4 (scX d n w 2)) 0 (NW d n w 3) (bI (TN d w 3)) (ns d (NW d n w 3))) 1 (NW d n w 4) (bI (TN d w 4)) (ns d (NW d n w 4)))
theorem ffX_8 {d hx : HI} {n w : Nat} {hl : HL} {Φ : Int32 → HI → HL → Prop} (hT : TXw d w) (hW : WL d n) (hI : WI d n) (hR : RX d hx n w) (hk : hx 10 3 = nI 8) (h7 : hx 10 7 = nI 0) (h : ∀ r hx', PX d n w hx (CK d n w 8) (zX_8 d n w hx) r hx' → Φ r hx' hl) : ∃ fu, wbD_firstFault_89 fu 0 hx hl Φ := by
  rw [CK_8] at h
  have k0 : OKX d n w hx 8 hx := ⟨hR, FX_r _, hk⟩
  have k1 : OKX d n w hx 8 (u2 hx 10 4 (scX d n w 2)) := OK_s k0 _
  have k2 : OKX d n w hx 8 (ndX (u2 hx 10 4 (scX d n w 2)) 0 (NW d n w 3) (bI (TN d w 3)) (ns d (NW d n w 3))) := OK_d k1 _ _ _ _
  have k3 : OKX d n w hx 8 (ndX (ndX (u2 hx 10 4 (scX d n w 2)) 0 (NW d n w 3) (bI (TN d w 3)) (ns d (NW d n w 3))) 1 (NW d n w 4) (bI (TN d w 4)) (ns d (NW d n w 4))) := OK_d k2 _ _ _ _
  refine runX3 hT.1 8 (by omega) 66 115 115 _ _ _ _ _ _ _ (by decide) (by decide) (by decide) (by decide) ?_ ?_ ?_ k0 k1 k2 k3 h
  · refine stS hT hW hI hR 66 (Sok 8 (sc d (SW d n w 2).toNatClampNeg)) (Classical.propDecidable _) (Or.inl ⟨rfl, fun q => ?_⟩) _ rfl
    simp (decide := true) only [Sok, ↓reduceIte]
  · intro b0
    have hc2 := C2_t b0
    have hsx := Scx hW w hc2.1
    have hok := hc2.2
    simp (decide := true) only [Sok, ↓reduceIte] at hok
    have hbP : AS d n w 3 (sc d (SW d n w 2).toNatClampNeg) = (decide (0 ≤ NW d n w 3) && decide ((ns d (NW d n w 3)) = (sc d (SW d n w 2).toNatClampNeg))) := by
      exact dAnd
    refine stD hT hW hI k1.1 115 3 (by omega) 0 (sc d (SW d n w 2).toNatClampNeg) 1 (by rw [gs_7]; exact h7) (by omega) (by omega) (by omega) (Or.inl (by rw [gs_4, hsx.1])) (fun q => absurd q (by decide)) _ (decide ((ns d (NW d n w 3)) = (sc d (SW d n w 2).toNatClampNeg))) hbP (fun q => Or.inr (Or.inr (Or.inl ⟨rfl, rfl⟩))) (by decide)
  · intro b0 b1
    have hc2 := C2_t b0
    have hsx := Scx hW w hc2.1
    have hok := hc2.2
    simp (decide := true) only [Sok, ↓reduceIte] at hok
    have hbP : AS d n w 4 (sc d (SW d n w 2).toNatClampNeg) = (decide (0 ≤ NW d n w 4) && decide ((ns d (NW d n w 4)) = (sc d (SW d n w 2).toNatClampNeg))) := by
      exact dAnd
    refine stD hT hW hI k2.1 115 4 (by omega) 1 (sc d (SW d n w 2).toNatClampNeg) 1 (gd_7 _ _ _ _ _) (by omega) (by omega) (by omega) (Or.inl (by rw [gd_4, gs_4, hsx.1])) (fun q => absurd q (by decide)) _ (decide ((ns d (NW d n w 4)) = (sc d (SW d n w 2).toNatClampNeg))) hbP (fun q => Or.inr (Or.inr (Or.inl ⟨rfl, rfl⟩))) (by decide)
theorem CK_9 (d : HI) (n w : Nat) : CK d n w 9 = [C2 d n w 9, AS d n w 3 (sc d (SW d n w 2).toNatClampNeg), AS d n w 4 (sc d (SW d n w 2).toNatClampNeg)] := by
  simp (decide := true) only [CK, CKr, CKt, CKi, ↓reduceIte]
noncomputable def zX_9 (d : HI) (n w : Nat) (hx : HI) : HI := (ndX (ndX (u2 hx 10 4 (scX d n w 2)) 0 (NW d n w 3) (bI (TN d w 3)) (ns d (NW d n w 3))) 1 (NW d n w 4) (bI (TN d w 4)) (ns d (NW d n w 4)))
theorem ffX_9 {d hx : HI} {n w : Nat} {hl : HL} {Φ : Int32 → HI → HL → Prop} (hT : TXw d w) (hW : WL d n) (hI : WI d n) (hR : RX d hx n w) (hk : hx 10 3 = nI 9) (h7 : hx 10 7 = nI 0) (h : ∀ r hx', PX d n w hx (CK d n w 9) (zX_9 d n w hx) r hx' → Φ r hx' hl) : ∃ fu, wbD_firstFault_89 fu 0 hx hl Φ := by
  rw [CK_9] at h
  have k0 : OKX d n w hx 9 hx := ⟨hR, FX_r _, hk⟩
  have k1 : OKX d n w hx 9 (u2 hx 10 4 (scX d n w 2)) := OK_s k0 _
  have k2 : OKX d n w hx 9 (ndX (u2 hx 10 4 (scX d n w 2)) 0 (NW d n w 3) (bI (TN d w 3)) (ns d (NW d n w 3))) := OK_d k1 _ _ _ _
  have k3 : OKX d n w hx 9 (ndX (ndX (u2 hx 10 4 (scX d n w 2)) 0 (NW d n w 3) (bI (TN d w 3)) (ns d (NW d n w 3))) 1 (NW d n w 4) (bI (TN d w 4)) (ns d (NW d n w 4))) := OK_d k2 _ _ _ _
  refine runX3 hT.1 9 (by omega) 66 115 115 _ _ _ _ _ _ _ (by decide) (by decide) (by decide) (by decide) ?_ ?_ ?_ k0 k1 k2 k3 h
  · refine stS hT hW hI hR 66 (Sok 9 (sc d (SW d n w 2).toNatClampNeg)) (Classical.propDecidable _) (Or.inl ⟨rfl, fun q => ?_⟩) _ rfl
    simp (decide := true) only [Sok, ↓reduceIte]
  · intro b0
    have hc2 := C2_t b0
    have hsx := Scx hW w hc2.1
    have hok := hc2.2
    simp (decide := true) only [Sok, ↓reduceIte] at hok
    have hbP : AS d n w 3 (sc d (SW d n w 2).toNatClampNeg) = (decide (0 ≤ NW d n w 3) && decide ((ns d (NW d n w 3)) = (sc d (SW d n w 2).toNatClampNeg))) := by
      exact dAnd
    refine stD hT hW hI k1.1 115 3 (by omega) 0 (sc d (SW d n w 2).toNatClampNeg) 1 (by rw [gs_7]; exact h7) (by omega) (by omega) (by omega) (Or.inl (by rw [gs_4, hsx.1])) (fun q => absurd q (by decide)) _ (decide ((ns d (NW d n w 3)) = (sc d (SW d n w 2).toNatClampNeg))) hbP (fun q => Or.inr (Or.inr (Or.inl ⟨rfl, rfl⟩))) (by decide)
  · intro b0 b1
    have hc2 := C2_t b0
    have hsx := Scx hW w hc2.1
    have hok := hc2.2
    simp (decide := true) only [Sok, ↓reduceIte] at hok
    have hbP : AS d n w 4 (sc d (SW d n w 2).toNatClampNeg) = (decide (0 ≤ NW d n w 4) && decide ((ns d (NW d n w 4)) = (sc d (SW d n w 2).toNatClampNeg))) := by
      exact dAnd
    refine stD hT hW hI k2.1 115 4 (by omega) 1 (sc d (SW d n w 2).toNatClampNeg) 1 (gd_7 _ _ _ _ _) (by omega) (by omega) (by omega) (Or.inl (by rw [gd_4, gs_4, hsx.1])) (fun q => absurd q (by decide)) _ (decide ((ns d (NW d n w 4)) = (sc d (SW d n w 2).toNatClampNeg))) hbP (fun q => Or.inr (Or.inr (Or.inl ⟨rfl, rfl⟩))) (by decide)
theorem CK_10 (d : HI) (n w : Nat) : CK d n w 10 = [C2 d n w 10, AS d n w 3 (sc d (SW d n w 2).toNatClampNeg), AS d n w 4 (sc d (SW d n w 2).toNatClampNeg)] := by
  simp (decide := true) only [CK, CKr, CKt, CKi, ↓reduceIte]
noncomputable def zX_10 (d : HI) (n w : Nat) (hx : HI) : HI := (ndX (ndX (u2 hx 10 4 (scX d n w 2)) 0 (NW d n w 3) (bI (TN d w 3)) (ns d (NW d n w 3))) 1 (NW d n w 4) (bI (TN d w 4)) (ns d (NW d n w 4)))
theorem ffX_10 {d hx : HI} {n w : Nat} {hl : HL} {Φ : Int32 → HI → HL → Prop} (hT : TXw d w) (hW : WL d n) (hI : WI d n) (hR : RX d hx n w) (hk : hx 10 3 = nI 10) (h7 : hx 10 7 = nI 0) (h : ∀ r hx', PX d n w hx (CK d n w 10) (zX_10 d n w hx) r hx' → Φ r hx' hl) : ∃ fu, wbD_firstFault_89 fu 0 hx hl Φ := by
  rw [CK_10] at h
  have k0 : OKX d n w hx 10 hx := ⟨hR, FX_r _, hk⟩
  have k1 : OKX d n w hx 10 (u2 hx 10 4 (scX d n w 2)) := OK_s k0 _
  have k2 : OKX d n w hx 10 (ndX (u2 hx 10 4 (scX d n w 2)) 0 (NW d n w 3) (bI (TN d w 3)) (ns d (NW d n w 3))) := OK_d k1 _ _ _ _
  have k3 : OKX d n w hx 10 (ndX (ndX (u2 hx 10 4 (scX d n w 2)) 0 (NW d n w 3) (bI (TN d w 3)) (ns d (NW d n w 3))) 1 (NW d n w 4) (bI (TN d w 4)) (ns d (NW d n w 4))) := OK_d k2 _ _ _ _
  refine runX3 hT.1 10 (by omega) 66 115 115 _ _ _ _ _ _ _ (by decide) (by decide) (by decide) (by decide) ?_ ?_ ?_ k0 k1 k2 k3 h
  · refine stS hT hW hI hR 66 (Sok 10 (sc d (SW d n w 2).toNatClampNeg)) (Classical.propDecidable _) (Or.inl ⟨rfl, fun q => ?_⟩) _ rfl
    simp (decide := true) only [Sok, ↓reduceIte]
  · intro b0
    have hc2 := C2_t b0
    have hsx := Scx hW w hc2.1
    have hok := hc2.2
    simp (decide := true) only [Sok, ↓reduceIte] at hok
    have hbP : AS d n w 3 (sc d (SW d n w 2).toNatClampNeg) = (decide (0 ≤ NW d n w 3) && decide ((ns d (NW d n w 3)) = (sc d (SW d n w 2).toNatClampNeg))) := by
      exact dAnd
    refine stD hT hW hI k1.1 115 3 (by omega) 0 (sc d (SW d n w 2).toNatClampNeg) 1 (by rw [gs_7]; exact h7) (by omega) (by omega) (by omega) (Or.inl (by rw [gs_4, hsx.1])) (fun q => absurd q (by decide)) _ (decide ((ns d (NW d n w 3)) = (sc d (SW d n w 2).toNatClampNeg))) hbP (fun q => Or.inr (Or.inr (Or.inl ⟨rfl, rfl⟩))) (by decide)
  · intro b0 b1
    have hc2 := C2_t b0
    have hsx := Scx hW w hc2.1
    have hok := hc2.2
    simp (decide := true) only [Sok, ↓reduceIte] at hok
    have hbP : AS d n w 4 (sc d (SW d n w 2).toNatClampNeg) = (decide (0 ≤ NW d n w 4) && decide ((ns d (NW d n w 4)) = (sc d (SW d n w 2).toNatClampNeg))) := by
      exact dAnd
    refine stD hT hW hI k2.1 115 4 (by omega) 1 (sc d (SW d n w 2).toNatClampNeg) 1 (gd_7 _ _ _ _ _) (by omega) (by omega) (by omega) (Or.inl (by rw [gd_4, gs_4, hsx.1])) (fun q => absurd q (by decide)) _ (decide ((ns d (NW d n w 4)) = (sc d (SW d n w 2).toNatClampNeg))) hbP (fun q => Or.inr (Or.inr (Or.inl ⟨rfl, rfl⟩))) (by decide)
theorem CK_11 (d : HI) (n w : Nat) : CK d n w 11 = [C2 d n w 11, AS d n w 3 (sc d (SW d n w 2).toNatClampNeg), AS d n w 4 (sc d (SW d n w 2).toNatClampNeg)] := by
  simp (decide := true) only [CK, CKr, CKt, CKi, ↓reduceIte]
noncomputable def zX_11 (d : HI) (n w : Nat) (hx : HI) : HI := (ndX (ndX (u2 hx 10 4 (scX d n w 2)) 0 (NW d n w 3) (bI (TN d w 3)) (ns d (NW d n w 3))) 1 (NW d n w 4) (bI (TN d w 4)) (ns d (NW d n w 4)))
theorem ffX_11 {d hx : HI} {n w : Nat} {hl : HL} {Φ : Int32 → HI → HL → Prop} (hT : TXw d w) (hW : WL d n) (hI : WI d n) (hR : RX d hx n w) (hk : hx 10 3 = nI 11) (h7 : hx 10 7 = nI 0) (h : ∀ r hx', PX d n w hx (CK d n w 11) (zX_11 d n w hx) r hx' → Φ r hx' hl) : ∃ fu, wbD_firstFault_89 fu 0 hx hl Φ := by
  rw [CK_11] at h
  have k0 : OKX d n w hx 11 hx := ⟨hR, FX_r _, hk⟩
  have k1 : OKX d n w hx 11 (u2 hx 10 4 (scX d n w 2)) := OK_s k0 _
  have k2 : OKX d n w hx 11 (ndX (u2 hx 10 4 (scX d n w 2)) 0 (NW d n w 3) (bI (TN d w 3)) (ns d (NW d n w 3))) := OK_d k1 _ _ _ _
  have k3 : OKX d n w hx 11 (ndX (ndX (u2 hx 10 4 (scX d n w 2)) 0 (NW d n w 3) (bI (TN d w 3)) (ns d (NW d n w 3))) 1 (NW d n w 4) (bI (TN d w 4)) (ns d (NW d n w 4))) := OK_d k2 _ _ _ _
  refine runX3 hT.1 11 (by omega) 66 115 115 _ _ _ _ _ _ _ (by decide) (by decide) (by decide) (by decide) ?_ ?_ ?_ k0 k1 k2 k3 h
  · refine stS hT hW hI hR 66 (Sok 11 (sc d (SW d n w 2).toNatClampNeg)) (Classical.propDecidable _) (Or.inl ⟨rfl, fun q => ?_⟩) _ rfl
    simp (decide := true) only [Sok, ↓reduceIte]
  · intro b0
    have hc2 := C2_t b0
    have hsx := Scx hW w hc2.1
    have hok := hc2.2
    simp (decide := true) only [Sok, ↓reduceIte] at hok
    have hbP : AS d n w 3 (sc d (SW d n w 2).toNatClampNeg) = (decide (0 ≤ NW d n w 3) && decide ((ns d (NW d n w 3)) = (sc d (SW d n w 2).toNatClampNeg))) := by
      exact dAnd
    refine stD hT hW hI k1.1 115 3 (by omega) 0 (sc d (SW d n w 2).toNatClampNeg) 1 (by rw [gs_7]; exact h7) (by omega) (by omega) (by omega) (Or.inl (by rw [gs_4, hsx.1])) (fun q => absurd q (by decide)) _ (decide ((ns d (NW d n w 3)) = (sc d (SW d n w 2).toNatClampNeg))) hbP (fun q => Or.inr (Or.inr (Or.inl ⟨rfl, rfl⟩))) (by decide)
  · intro b0 b1
    have hc2 := C2_t b0
    have hsx := Scx hW w hc2.1
    have hok := hc2.2
    simp (decide := true) only [Sok, ↓reduceIte] at hok
    have hbP : AS d n w 4 (sc d (SW d n w 2).toNatClampNeg) = (decide (0 ≤ NW d n w 4) && decide ((ns d (NW d n w 4)) = (sc d (SW d n w 2).toNatClampNeg))) := by
      exact dAnd
    refine stD hT hW hI k2.1 115 4 (by omega) 1 (sc d (SW d n w 2).toNatClampNeg) 1 (gd_7 _ _ _ _ _) (by omega) (by omega) (by omega) (Or.inl (by rw [gd_4, gs_4, hsx.1])) (fun q => absurd q (by decide)) _ (decide ((ns d (NW d n w 4)) = (sc d (SW d n w 2).toNatClampNeg))) hbP (fun q => Or.inr (Or.inr (Or.inl ⟨rfl, rfl⟩))) (by decide)
theorem CK_12 (d : HI) (n w : Nat) : CK d n w 12 = [C2 d n w 12, AS d n w 3 (sc d (SW d n w 2).toNatClampNeg), AS d n w 4 (sc d (SW d n w 2).toNatClampNeg)] := by
  simp (decide := true) only [CK, CKr, CKt, CKi, ↓reduceIte]
noncomputable def zX_12 (d : HI) (n w : Nat) (hx : HI) : HI := (ndX (ndX (u2 hx 10 4 (scX d n w 2)) 0 (NW d n w 3) (bI (TN d w 3)) (ns d (NW d n w 3))) 1 (NW d n w 4) (bI (TN d w 4)) (ns d (NW d n w 4)))
theorem ffX_12 {d hx : HI} {n w : Nat} {hl : HL} {Φ : Int32 → HI → HL → Prop} (hT : TXw d w) (hW : WL d n) (hI : WI d n) (hR : RX d hx n w) (hk : hx 10 3 = nI 12) (h7 : hx 10 7 = nI 0) (h : ∀ r hx', PX d n w hx (CK d n w 12) (zX_12 d n w hx) r hx' → Φ r hx' hl) : ∃ fu, wbD_firstFault_89 fu 0 hx hl Φ := by
  rw [CK_12] at h
  have k0 : OKX d n w hx 12 hx := ⟨hR, FX_r _, hk⟩
  have k1 : OKX d n w hx 12 (u2 hx 10 4 (scX d n w 2)) := OK_s k0 _
  have k2 : OKX d n w hx 12 (ndX (u2 hx 10 4 (scX d n w 2)) 0 (NW d n w 3) (bI (TN d w 3)) (ns d (NW d n w 3))) := OK_d k1 _ _ _ _
  have k3 : OKX d n w hx 12 (ndX (ndX (u2 hx 10 4 (scX d n w 2)) 0 (NW d n w 3) (bI (TN d w 3)) (ns d (NW d n w 3))) 1 (NW d n w 4) (bI (TN d w 4)) (ns d (NW d n w 4))) := OK_d k2 _ _ _ _
  refine runX3 hT.1 12 (by omega) 66 115 115 _ _ _ _ _ _ _ (by decide) (by decide) (by decide) (by decide) ?_ ?_ ?_ k0 k1 k2 k3 h
  · refine stS hT hW hI hR 66 (Sok 12 (sc d (SW d n w 2).toNatClampNeg)) (Classical.propDecidable _) (Or.inl ⟨rfl, fun q => ?_⟩) _ rfl
    simp (decide := true) only [Sok, ↓reduceIte]
  · intro b0
    have hc2 := C2_t b0
    have hsx := Scx hW w hc2.1
    have hok := hc2.2
    simp (decide := true) only [Sok, ↓reduceIte] at hok
    have hbP : AS d n w 3 (sc d (SW d n w 2).toNatClampNeg) = (decide (0 ≤ NW d n w 3) && decide ((ns d (NW d n w 3)) = (sc d (SW d n w 2).toNatClampNeg))) := by
      exact dAnd
    refine stD hT hW hI k1.1 115 3 (by omega) 0 (sc d (SW d n w 2).toNatClampNeg) 1 (by rw [gs_7]; exact h7) (by omega) (by omega) (by omega) (Or.inl (by rw [gs_4, hsx.1])) (fun q => absurd q (by decide)) _ (decide ((ns d (NW d n w 3)) = (sc d (SW d n w 2).toNatClampNeg))) hbP (fun q => Or.inr (Or.inr (Or.inl ⟨rfl, rfl⟩))) (by decide)
  · intro b0 b1
    have hc2 := C2_t b0
    have hsx := Scx hW w hc2.1
    have hok := hc2.2
    simp (decide := true) only [Sok, ↓reduceIte] at hok
    have hbP : AS d n w 4 (sc d (SW d n w 2).toNatClampNeg) = (decide (0 ≤ NW d n w 4) && decide ((ns d (NW d n w 4)) = (sc d (SW d n w 2).toNatClampNeg))) := by
      exact dAnd
    refine stD hT hW hI k2.1 115 4 (by omega) 1 (sc d (SW d n w 2).toNatClampNeg) 1 (gd_7 _ _ _ _ _) (by omega) (by omega) (by omega) (Or.inl (by rw [gd_4, gs_4, hsx.1])) (fun q => absurd q (by decide)) _ (decide ((ns d (NW d n w 4)) = (sc d (SW d n w 2).toNatClampNeg))) hbP (fun q => Or.inr (Or.inr (Or.inl ⟨rfl, rfl⟩))) (by decide)
theorem CK_13 (d : HI) (n w : Nat) : CK d n w 13 = [C2 d n w 13, AS d n w 3 (sc d (SW d n w 2).toNatClampNeg), AS d n w 4 (sc d (SW d n w 2).toNatClampNeg)] := by
  simp (decide := true) only [CK, CKr, CKt, CKi, ↓reduceIte]
noncomputable def zX_13 (d : HI) (n w : Nat) (hx : HI) : HI := (ndX (ndX (u2 hx 10 4 (scX d n w 2)) 0 (NW d n w 3) (bI (TN d w 3)) (ns d (NW d n w 3))) 1 (NW d n w 4) (bI (TN d w 4)) (ns d (NW d n w 4)))
theorem ffX_13 {d hx : HI} {n w : Nat} {hl : HL} {Φ : Int32 → HI → HL → Prop} (hT : TXw d w) (hW : WL d n) (hI : WI d n) (hR : RX d hx n w) (hk : hx 10 3 = nI 13) (h7 : hx 10 7 = nI 0) (h : ∀ r hx', PX d n w hx (CK d n w 13) (zX_13 d n w hx) r hx' → Φ r hx' hl) : ∃ fu, wbD_firstFault_89 fu 0 hx hl Φ := by
  rw [CK_13] at h
  have k0 : OKX d n w hx 13 hx := ⟨hR, FX_r _, hk⟩
  have k1 : OKX d n w hx 13 (u2 hx 10 4 (scX d n w 2)) := OK_s k0 _
  have k2 : OKX d n w hx 13 (ndX (u2 hx 10 4 (scX d n w 2)) 0 (NW d n w 3) (bI (TN d w 3)) (ns d (NW d n w 3))) := OK_d k1 _ _ _ _
  have k3 : OKX d n w hx 13 (ndX (ndX (u2 hx 10 4 (scX d n w 2)) 0 (NW d n w 3) (bI (TN d w 3)) (ns d (NW d n w 3))) 1 (NW d n w 4) (bI (TN d w 4)) (ns d (NW d n w 4))) := OK_d k2 _ _ _ _
  refine runX3 hT.1 13 (by omega) 66 115 115 _ _ _ _ _ _ _ (by decide) (by decide) (by decide) (by decide) ?_ ?_ ?_ k0 k1 k2 k3 h
  · refine stS hT hW hI hR 66 (Sok 13 (sc d (SW d n w 2).toNatClampNeg)) (Classical.propDecidable _) (Or.inl ⟨rfl, fun q => ?_⟩) _ rfl
    simp (decide := true) only [Sok, ↓reduceIte]
  · intro b0
    have hc2 := C2_t b0
    have hsx := Scx hW w hc2.1
    have hok := hc2.2
    simp (decide := true) only [Sok, ↓reduceIte] at hok
    have hbP : AS d n w 3 (sc d (SW d n w 2).toNatClampNeg) = (decide (0 ≤ NW d n w 3) && decide ((ns d (NW d n w 3)) = (sc d (SW d n w 2).toNatClampNeg))) := by
      exact dAnd
    refine stD hT hW hI k1.1 115 3 (by omega) 0 (sc d (SW d n w 2).toNatClampNeg) 1 (by rw [gs_7]; exact h7) (by omega) (by omega) (by omega) (Or.inl (by rw [gs_4, hsx.1])) (fun q => absurd q (by decide)) _ (decide ((ns d (NW d n w 3)) = (sc d (SW d n w 2).toNatClampNeg))) hbP (fun q => Or.inr (Or.inr (Or.inl ⟨rfl, rfl⟩))) (by decide)
  · intro b0 b1
    have hc2 := C2_t b0
    have hsx := Scx hW w hc2.1
    have hok := hc2.2
    simp (decide := true) only [Sok, ↓reduceIte] at hok
    have hbP : AS d n w 4 (sc d (SW d n w 2).toNatClampNeg) = (decide (0 ≤ NW d n w 4) && decide ((ns d (NW d n w 4)) = (sc d (SW d n w 2).toNatClampNeg))) := by
      exact dAnd
    refine stD hT hW hI k2.1 115 4 (by omega) 1 (sc d (SW d n w 2).toNatClampNeg) 1 (gd_7 _ _ _ _ _) (by omega) (by omega) (by omega) (Or.inl (by rw [gd_4, gs_4, hsx.1])) (fun q => absurd q (by decide)) _ (decide ((ns d (NW d n w 4)) = (sc d (SW d n w 2).toNatClampNeg))) hbP (fun q => Or.inr (Or.inr (Or.inl ⟨rfl, rfl⟩))) (by decide)
theorem CK_14 (d : HI) (n w : Nat) : CK d n w 14 = [C2 d n w 14, AS d n w 3 (sc d (SW d n w 2).toNatClampNeg), AS d n w 4 (sc d (SW d n w 2).toNatClampNeg)] := by
  simp (decide := true) only [CK, CKr, CKt, CKi, ↓reduceIte]
noncomputable def zX_14 (d : HI) (n w : Nat) (hx : HI) : HI := (ndX (ndX (u2 hx 10 4 (scX d n w 2)) 0 (NW d n w 3) (bI (TN d w 3)) (ns d (NW d n w 3))) 1 (NW d n w 4) (bI (TN d w 4)) (ns d (NW d n w 4)))
theorem ffX_14 {d hx : HI} {n w : Nat} {hl : HL} {Φ : Int32 → HI → HL → Prop} (hT : TXw d w) (hW : WL d n) (hI : WI d n) (hR : RX d hx n w) (hk : hx 10 3 = nI 14) (h7 : hx 10 7 = nI 0) (h : ∀ r hx', PX d n w hx (CK d n w 14) (zX_14 d n w hx) r hx' → Φ r hx' hl) : ∃ fu, wbD_firstFault_89 fu 0 hx hl Φ := by
  rw [CK_14] at h
  have k0 : OKX d n w hx 14 hx := ⟨hR, FX_r _, hk⟩
  have k1 : OKX d n w hx 14 (u2 hx 10 4 (scX d n w 2)) := OK_s k0 _
  have k2 : OKX d n w hx 14 (ndX (u2 hx 10 4 (scX d n w 2)) 0 (NW d n w 3) (bI (TN d w 3)) (ns d (NW d n w 3))) := OK_d k1 _ _ _ _
  have k3 : OKX d n w hx 14 (ndX (ndX (u2 hx 10 4 (scX d n w 2)) 0 (NW d n w 3) (bI (TN d w 3)) (ns d (NW d n w 3))) 1 (NW d n w 4) (bI (TN d w 4)) (ns d (NW d n w 4))) := OK_d k2 _ _ _ _
  refine runX3 hT.1 14 (by omega) 66 115 115 _ _ _ _ _ _ _ (by decide) (by decide) (by decide) (by decide) ?_ ?_ ?_ k0 k1 k2 k3 h
  · refine stS hT hW hI hR 66 (Sok 14 (sc d (SW d n w 2).toNatClampNeg)) (Classical.propDecidable _) (Or.inl ⟨rfl, fun q => ?_⟩) _ rfl
    simp (decide := true) only [Sok, ↓reduceIte]
  · intro b0
    have hc2 := C2_t b0
    have hsx := Scx hW w hc2.1
    have hok := hc2.2
    simp (decide := true) only [Sok, ↓reduceIte] at hok
    have hbP : AS d n w 3 (sc d (SW d n w 2).toNatClampNeg) = (decide (0 ≤ NW d n w 3) && decide ((ns d (NW d n w 3)) = (sc d (SW d n w 2).toNatClampNeg))) := by
      exact dAnd
    refine stD hT hW hI k1.1 115 3 (by omega) 0 (sc d (SW d n w 2).toNatClampNeg) 1 (by rw [gs_7]; exact h7) (by omega) (by omega) (by omega) (Or.inl (by rw [gs_4, hsx.1])) (fun q => absurd q (by decide)) _ (decide ((ns d (NW d n w 3)) = (sc d (SW d n w 2).toNatClampNeg))) hbP (fun q => Or.inr (Or.inr (Or.inl ⟨rfl, rfl⟩))) (by decide)
  · intro b0 b1
    have hc2 := C2_t b0
    have hsx := Scx hW w hc2.1
    have hok := hc2.2
    simp (decide := true) only [Sok, ↓reduceIte] at hok
    have hbP : AS d n w 4 (sc d (SW d n w 2).toNatClampNeg) = (decide (0 ≤ NW d n w 4) && decide ((ns d (NW d n w 4)) = (sc d (SW d n w 2).toNatClampNeg))) := by
      exact dAnd
    refine stD hT hW hI k2.1 115 4 (by omega) 1 (sc d (SW d n w 2).toNatClampNeg) 1 (gd_7 _ _ _ _ _) (by omega) (by omega) (by omega) (Or.inl (by rw [gd_4, gs_4, hsx.1])) (fun q => absurd q (by decide)) _ (decide ((ns d (NW d n w 4)) = (sc d (SW d n w 2).toNatClampNeg))) hbP (fun q => Or.inr (Or.inr (Or.inl ⟨rfl, rfl⟩))) (by decide)
theorem CK_15 (d : HI) (n w : Nat) : CK d n w 15 = [C2 d n w 15, AS d n w 3 (sc d (SW d n w 2).toNatClampNeg), AS d n w 4 (sc d (SW d n w 2).toNatClampNeg)] := by
  simp (decide := true) only [CK, CKr, CKt, CKi, ↓reduceIte]
noncomputable def zX_15 (d : HI) (n w : Nat) (hx : HI) : HI := (ndX (ndX (u2 hx 10 4 (scX d n w 2)) 0 (NW d n w 3) (bI (TN d w 3)) (ns d (NW d n w 3))) 1 (NW d n w 4) (bI (TN d w 4)) (ns d (NW d n w 4)))
theorem ffX_15 {d hx : HI} {n w : Nat} {hl : HL} {Φ : Int32 → HI → HL → Prop} (hT : TXw d w) (hW : WL d n) (hI : WI d n) (hR : RX d hx n w) (hk : hx 10 3 = nI 15) (h7 : hx 10 7 = nI 0) (h : ∀ r hx', PX d n w hx (CK d n w 15) (zX_15 d n w hx) r hx' → Φ r hx' hl) : ∃ fu, wbD_firstFault_89 fu 0 hx hl Φ := by
  rw [CK_15] at h
  have k0 : OKX d n w hx 15 hx := ⟨hR, FX_r _, hk⟩
  have k1 : OKX d n w hx 15 (u2 hx 10 4 (scX d n w 2)) := OK_s k0 _
  have k2 : OKX d n w hx 15 (ndX (u2 hx 10 4 (scX d n w 2)) 0 (NW d n w 3) (bI (TN d w 3)) (ns d (NW d n w 3))) := OK_d k1 _ _ _ _
  have k3 : OKX d n w hx 15 (ndX (ndX (u2 hx 10 4 (scX d n w 2)) 0 (NW d n w 3) (bI (TN d w 3)) (ns d (NW d n w 3))) 1 (NW d n w 4) (bI (TN d w 4)) (ns d (NW d n w 4))) := OK_d k2 _ _ _ _
  refine runX3 hT.1 15 (by omega) 66 115 115 _ _ _ _ _ _ _ (by decide) (by decide) (by decide) (by decide) ?_ ?_ ?_ k0 k1 k2 k3 h
  · refine stS hT hW hI hR 66 (Sok 15 (sc d (SW d n w 2).toNatClampNeg)) (Classical.propDecidable _) (Or.inl ⟨rfl, fun q => ?_⟩) _ rfl
    simp (decide := true) only [Sok, ↓reduceIte]
  · intro b0
    have hc2 := C2_t b0
    have hsx := Scx hW w hc2.1
    have hok := hc2.2
    simp (decide := true) only [Sok, ↓reduceIte] at hok
    have hbP : AS d n w 3 (sc d (SW d n w 2).toNatClampNeg) = (decide (0 ≤ NW d n w 3) && decide ((ns d (NW d n w 3)) = (sc d (SW d n w 2).toNatClampNeg))) := by
      exact dAnd
    refine stD hT hW hI k1.1 115 3 (by omega) 0 (sc d (SW d n w 2).toNatClampNeg) 1 (by rw [gs_7]; exact h7) (by omega) (by omega) (by omega) (Or.inl (by rw [gs_4, hsx.1])) (fun q => absurd q (by decide)) _ (decide ((ns d (NW d n w 3)) = (sc d (SW d n w 2).toNatClampNeg))) hbP (fun q => Or.inr (Or.inr (Or.inl ⟨rfl, rfl⟩))) (by decide)
  · intro b0 b1
    have hc2 := C2_t b0
    have hsx := Scx hW w hc2.1
    have hok := hc2.2
    simp (decide := true) only [Sok, ↓reduceIte] at hok
    have hbP : AS d n w 4 (sc d (SW d n w 2).toNatClampNeg) = (decide (0 ≤ NW d n w 4) && decide ((ns d (NW d n w 4)) = (sc d (SW d n w 2).toNatClampNeg))) := by
      exact dAnd
    refine stD hT hW hI k2.1 115 4 (by omega) 1 (sc d (SW d n w 2).toNatClampNeg) 1 (gd_7 _ _ _ _ _) (by omega) (by omega) (by omega) (Or.inl (by rw [gd_4, gs_4, hsx.1])) (fun q => absurd q (by decide)) _ (decide ((ns d (NW d n w 4)) = (sc d (SW d n w 2).toNatClampNeg))) hbP (fun q => Or.inr (Or.inr (Or.inl ⟨rfl, rfl⟩))) (by decide)
theorem CK_16 (d : HI) (n w : Nat) : CK d n w 16 = [C2 d n w 16, AS d n w 3 (sc d (SW d n w 2).toNatClampNeg), AS d n w 4 (sc d (SW d n w 2).toNatClampNeg)] := by
  simp (decide := true) only [CK, CKr, CKt, CKi, ↓reduceIte]
noncomputable def zX_16 (d : HI) (n w : Nat) (hx : HI) : HI := (ndX (ndX (u2 hx 10 4 (scX d n w 2)) 0 (NW d n w 3) (bI (TN d w 3)) (ns d (NW d n w 3))) 1 (NW d n w 4) (bI (TN d w 4)) (ns d (NW d n w 4)))
theorem ffX_16 {d hx : HI} {n w : Nat} {hl : HL} {Φ : Int32 → HI → HL → Prop} (hT : TXw d w) (hW : WL d n) (hI : WI d n) (hR : RX d hx n w) (hk : hx 10 3 = nI 16) (h7 : hx 10 7 = nI 0) (h : ∀ r hx', PX d n w hx (CK d n w 16) (zX_16 d n w hx) r hx' → Φ r hx' hl) : ∃ fu, wbD_firstFault_89 fu 0 hx hl Φ := by
  rw [CK_16] at h
  have k0 : OKX d n w hx 16 hx := ⟨hR, FX_r _, hk⟩
  have k1 : OKX d n w hx 16 (u2 hx 10 4 (scX d n w 2)) := OK_s k0 _
  have k2 : OKX d n w hx 16 (ndX (u2 hx 10 4 (scX d n w 2)) 0 (NW d n w 3) (bI (TN d w 3)) (ns d (NW d n w 3))) := OK_d k1 _ _ _ _
  have k3 : OKX d n w hx 16 (ndX (ndX (u2 hx 10 4 (scX d n w 2)) 0 (NW d n w 3) (bI (TN d w 3)) (ns d (NW d n w 3))) 1 (NW d n w 4) (bI (TN d w 4)) (ns d (NW d n w 4))) := OK_d k2 _ _ _ _
  refine runX3 hT.1 16 (by omega) 66 115 115 _ _ _ _ _ _ _ (by decide) (by decide) (by decide) (by decide) ?_ ?_ ?_ k0 k1 k2 k3 h
  · refine stS hT hW hI hR 66 (Sok 16 (sc d (SW d n w 2).toNatClampNeg)) (Classical.propDecidable _) (Or.inl ⟨rfl, fun q => ?_⟩) _ rfl
    simp (decide := true) only [Sok, ↓reduceIte]
  · intro b0
    have hc2 := C2_t b0
    have hsx := Scx hW w hc2.1
    have hok := hc2.2
    simp (decide := true) only [Sok, ↓reduceIte] at hok
    have hbP : AS d n w 3 (sc d (SW d n w 2).toNatClampNeg) = (decide (0 ≤ NW d n w 3) && decide ((ns d (NW d n w 3)) = (sc d (SW d n w 2).toNatClampNeg))) := by
      exact dAnd
    refine stD hT hW hI k1.1 115 3 (by omega) 0 (sc d (SW d n w 2).toNatClampNeg) 1 (by rw [gs_7]; exact h7) (by omega) (by omega) (by omega) (Or.inl (by rw [gs_4, hsx.1])) (fun q => absurd q (by decide)) _ (decide ((ns d (NW d n w 3)) = (sc d (SW d n w 2).toNatClampNeg))) hbP (fun q => Or.inr (Or.inr (Or.inl ⟨rfl, rfl⟩))) (by decide)
  · intro b0 b1
    have hc2 := C2_t b0
    have hsx := Scx hW w hc2.1
    have hok := hc2.2
    simp (decide := true) only [Sok, ↓reduceIte] at hok
    have hbP : AS d n w 4 (sc d (SW d n w 2).toNatClampNeg) = (decide (0 ≤ NW d n w 4) && decide ((ns d (NW d n w 4)) = (sc d (SW d n w 2).toNatClampNeg))) := by
      exact dAnd
    refine stD hT hW hI k2.1 115 4 (by omega) 1 (sc d (SW d n w 2).toNatClampNeg) 1 (gd_7 _ _ _ _ _) (by omega) (by omega) (by omega) (Or.inl (by rw [gd_4, gs_4, hsx.1])) (fun q => absurd q (by decide)) _ (decide ((ns d (NW d n w 4)) = (sc d (SW d n w 2).toNatClampNeg))) hbP (fun q => Or.inr (Or.inr (Or.inl ⟨rfl, rfl⟩))) (by decide)
theorem CK_17 (d : HI) (n w : Nat) : CK d n w 17 = [C2 d n w 17, decide (0 ≤ NW d n w 3), AS d n w 4 (ns d (NW d n w 3))] := by
  simp (decide := true) only [CK, CKr, CKt, CKi, ↓reduceIte]
noncomputable def zX_17 (d : HI) (n w : Nat) (hx : HI) : HI := (ndX (ndX (u2 hx 10 4 (scX d n w 2)) 0 (NW d n w 3) (bI (TN d w 3)) (ns d (NW d n w 3))) 1 (NW d n w 4) (bI (TN d w 4)) (ns d (NW d n w 4)))
theorem ffX_17 {d hx : HI} {n w : Nat} {hl : HL} {Φ : Int32 → HI → HL → Prop} (hT : TXw d w) (hW : WL d n) (hI : WI d n) (hR : RX d hx n w) (hk : hx 10 3 = nI 17) (h7 : hx 10 7 = nI 0) (h : ∀ r hx', PX d n w hx (CK d n w 17) (zX_17 d n w hx) r hx' → Φ r hx' hl) : ∃ fu, wbD_firstFault_89 fu 0 hx hl Φ := by
  rw [CK_17] at h
  have k0 : OKX d n w hx 17 hx := ⟨hR, FX_r _, hk⟩
  have k1 : OKX d n w hx 17 (u2 hx 10 4 (scX d n w 2)) := OK_s k0 _
  have k2 : OKX d n w hx 17 (ndX (u2 hx 10 4 (scX d n w 2)) 0 (NW d n w 3) (bI (TN d w 3)) (ns d (NW d n w 3))) := OK_d k1 _ _ _ _
  have k3 : OKX d n w hx 17 (ndX (ndX (u2 hx 10 4 (scX d n w 2)) 0 (NW d n w 3) (bI (TN d w 3)) (ns d (NW d n w 3))) 1 (NW d n w 4) (bI (TN d w 4)) (ns d (NW d n w 4))) := OK_d k2 _ _ _ _
  refine runX3 hT.1 17 (by omega) 79 110 108 _ _ _ _ _ _ _ (by decide) (by decide) (by decide) (by decide) ?_ ?_ ?_ k0 k1 k2 k3 h
  · refine stS hT hW hI hR 79 (Sok 17 (sc d (SW d n w 2).toNatClampNeg)) (Classical.propDecidable _) (Or.inr (Or.inr (Or.inl ⟨rfl, fun q => ?_⟩))) _ rfl
    simp (decide := true) only [Sok, ↓reduceIte]
  · intro b0
    have hc2 := C2_t b0
    have hsx := Scx hW w hc2.1
    have hok := hc2.2
    simp (decide := true) only [Sok, ↓reduceIte] at hok
    have hbP : decide (0 ≤ NW d n w 3) = (decide (0 ≤ NW d n w 3) && decide (True)) := by
      refine dEq ⟨fun q => ?_, fun q => ?_⟩
      · have hr := nsr hW w 3 (by first | exact q | exact q.1)
        try simp only [wdt, hr.2.2.2] at q ⊢
        first | exact ⟨q, trivial⟩ | exact q | (refine ⟨q.1, ?_⟩; omega) | (refine ⟨q.1, ?_⟩; split at q <;> omega) | (refine ⟨q.1, q.2.1, ?_⟩; simpa using q.2.2) | (obtain ⟨q1, q2, q3⟩ := q; refine ⟨q1, ?_⟩; split at q3 <;> split at q3 <;> omega)
      · have hr := nsr hW w 3 q.1
        try simp only [wdt, hr.2.2.2] at q ⊢
        first | exact q.1 | exact q | exact ⟨q.1, q.2, Or.inl trivial⟩ | exact ⟨q.1, q.2, Or.inl rfl⟩ | (refine ⟨q.1, ?_, ?_⟩ <;> omega) | (refine ⟨q.1, q.2.1, ?_⟩; simpa using q.2.2) | (obtain ⟨q1, q2⟩ := q; refine ⟨q1, by omega, ?_⟩; split <;> split <;> omega) | (obtain ⟨q1, q2⟩ := q; refine ⟨q1, by omega, ?_⟩; split <;> omega)
    refine stD hT hW hI k1.1 110 3 (by omega) 0 (sc d (SW d n w 2).toNatClampNeg) 1 (by rw [gs_7]; exact h7) (by omega) (by omega) (by omega) (Or.inl (by rw [gs_4, hsx.1])) (fun q => absurd q (by decide)) _ (decide (True)) hbP (fun q => Or.inr (Or.inr (Or.inr (Or.inr (Or.inr (Or.inr (Or.inr (Or.inr (Or.inl ⟨rfl, by simp⟩))))))))) (by decide)
  · intro b0 b1
    have hc2 := C2_t b0
    have hsx := Scx hW w hc2.1
    have hok := hc2.2
    simp (decide := true) only [Sok, ↓reduceIte] at hok
    have hn3 : 0 ≤ NW d n w 3 := by
      have z := b1
      first | exact of_decide_eq_true z | exact (of_decide_eq_true z).1
    have hbP : AS d n w 4 (ns d (NW d n w 3)) = (decide (0 ≤ NW d n w 4) && decide ((ns d (NW d n w 4)) = (ns d (NW d n w 3)))) := by
      exact dAnd
    refine stD hT hW hI k2.1 108 4 (by omega) 1 (sc d (SW d n w 2).toNatClampNeg) (ns d (NW d n w 3)) (gd_7 _ _ _ _ _) (by omega) (by omega) (by have := (nsr hW w 3 (hn3)).2.1; omega) (Or.inl (by rw [gd_4, gs_4, hsx.1])) (fun _ => gd_8 _ _ _ _ _) _ (decide ((ns d (NW d n w 4)) = (ns d (NW d n w 3)))) hbP (fun q => Or.inr (Or.inr (Or.inr (Or.inl ⟨rfl, rfl⟩)))) (by decide)
theorem CK_18 (d : HI) (n w : Nat) : CK d n w 18 = [C2 d n w 18, AB d n w 3, AS d n w 4 (ns d (NW d n w 3))] := by
  simp (decide := true) only [CK, CKr, CKt, CKi, ↓reduceIte]
noncomputable def zX_18 (d : HI) (n w : Nat) (hx : HI) : HI := (ndX (ndX (u2 hx 10 4 (scX d n w 2)) 0 (NW d n w 3) (bI (TN d w 3)) (ns d (NW d n w 3))) 1 (NW d n w 4) (bI (TN d w 4)) (ns d (NW d n w 4)))
theorem ffX_18 {d hx : HI} {n w : Nat} {hl : HL} {Φ : Int32 → HI → HL → Prop} (hT : TXw d w) (hW : WL d n) (hI : WI d n) (hR : RX d hx n w) (hk : hx 10 3 = nI 18) (h7 : hx 10 7 = nI 0) (h : ∀ r hx', PX d n w hx (CK d n w 18) (zX_18 d n w hx) r hx' → Φ r hx' hl) : ∃ fu, wbD_firstFault_89 fu 0 hx hl Φ := by
  rw [CK_18] at h
  have k0 : OKX d n w hx 18 hx := ⟨hR, FX_r _, hk⟩
  have k1 : OKX d n w hx 18 (u2 hx 10 4 (scX d n w 2)) := OK_s k0 _
  have k2 : OKX d n w hx 18 (ndX (u2 hx 10 4 (scX d n w 2)) 0 (NW d n w 3) (bI (TN d w 3)) (ns d (NW d n w 3))) := OK_d k1 _ _ _ _
  have k3 : OKX d n w hx 18 (ndX (ndX (u2 hx 10 4 (scX d n w 2)) 0 (NW d n w 3) (bI (TN d w 3)) (ns d (NW d n w 3))) 1 (NW d n w 4) (bI (TN d w 4)) (ns d (NW d n w 4))) := OK_d k2 _ _ _ _
  refine runX3 hT.1 18 (by omega) 79 98 108 _ _ _ _ _ _ _ (by decide) (by decide) (by decide) (by decide) ?_ ?_ ?_ k0 k1 k2 k3 h
  · refine stS hT hW hI hR 79 (Sok 18 (sc d (SW d n w 2).toNatClampNeg)) (Classical.propDecidable _) (Or.inr (Or.inr (Or.inl ⟨rfl, fun q => ?_⟩))) _ rfl
    simp (decide := true) only [Sok, ↓reduceIte]
  · intro b0
    have hc2 := C2_t b0
    have hsx := Scx hW w hc2.1
    have hok := hc2.2
    simp (decide := true) only [Sok, ↓reduceIte] at hok
    have hbP : AB d n w 3 = (decide (0 ≤ NW d n w 3) && decide ((ns d (NW d n w 3)) ≤ 4)) := by
      exact dAnd
    refine stD hT hW hI k1.1 98 3 (by omega) 0 (sc d (SW d n w 2).toNatClampNeg) 1 (by rw [gs_7]; exact h7) (by omega) (by omega) (by omega) (Or.inl (by rw [gs_4, hsx.1])) (fun q => absurd q (by decide)) _ (decide ((ns d (NW d n w 3)) ≤ 4)) hbP (fun q => Or.inl ⟨rfl, rfl⟩) (by decide)
  · intro b0 b1
    have hc2 := C2_t b0
    have hsx := Scx hW w hc2.1
    have hok := hc2.2
    simp (decide := true) only [Sok, ↓reduceIte] at hok
    have hn3 : 0 ≤ NW d n w 3 := by
      have z := b1
      first | exact of_decide_eq_true z | exact (of_decide_eq_true z).1
    have hbP : AS d n w 4 (ns d (NW d n w 3)) = (decide (0 ≤ NW d n w 4) && decide ((ns d (NW d n w 4)) = (ns d (NW d n w 3)))) := by
      exact dAnd
    refine stD hT hW hI k2.1 108 4 (by omega) 1 (sc d (SW d n w 2).toNatClampNeg) (ns d (NW d n w 3)) (gd_7 _ _ _ _ _) (by omega) (by omega) (by have := (nsr hW w 3 (hn3)).2.1; omega) (Or.inl (by rw [gd_4, gs_4, hsx.1])) (fun _ => gd_8 _ _ _ _ _) _ (decide ((ns d (NW d n w 4)) = (ns d (NW d n w 3)))) hbP (fun q => Or.inr (Or.inr (Or.inr (Or.inl ⟨rfl, rfl⟩)))) (by decide)
theorem CK_19 (d : HI) (n w : Nat) : CK d n w 19 = [C2 d n w 19, AB d n w 3, AS d n w 4 (ns d (NW d n w 3))] := by
  simp (decide := true) only [CK, CKr, CKt, CKi, ↓reduceIte]
noncomputable def zX_19 (d : HI) (n w : Nat) (hx : HI) : HI := (ndX (ndX (u2 hx 10 4 (scX d n w 2)) 0 (NW d n w 3) (bI (TN d w 3)) (ns d (NW d n w 3))) 1 (NW d n w 4) (bI (TN d w 4)) (ns d (NW d n w 4)))
theorem ffX_19 {d hx : HI} {n w : Nat} {hl : HL} {Φ : Int32 → HI → HL → Prop} (hT : TXw d w) (hW : WL d n) (hI : WI d n) (hR : RX d hx n w) (hk : hx 10 3 = nI 19) (h7 : hx 10 7 = nI 0) (h : ∀ r hx', PX d n w hx (CK d n w 19) (zX_19 d n w hx) r hx' → Φ r hx' hl) : ∃ fu, wbD_firstFault_89 fu 0 hx hl Φ := by
  rw [CK_19] at h
  have k0 : OKX d n w hx 19 hx := ⟨hR, FX_r _, hk⟩
  have k1 : OKX d n w hx 19 (u2 hx 10 4 (scX d n w 2)) := OK_s k0 _
  have k2 : OKX d n w hx 19 (ndX (u2 hx 10 4 (scX d n w 2)) 0 (NW d n w 3) (bI (TN d w 3)) (ns d (NW d n w 3))) := OK_d k1 _ _ _ _
  have k3 : OKX d n w hx 19 (ndX (ndX (u2 hx 10 4 (scX d n w 2)) 0 (NW d n w 3) (bI (TN d w 3)) (ns d (NW d n w 3))) 1 (NW d n w 4) (bI (TN d w 4)) (ns d (NW d n w 4))) := OK_d k2 _ _ _ _
  refine runX3 hT.1 19 (by omega) 79 98 108 _ _ _ _ _ _ _ (by decide) (by decide) (by decide) (by decide) ?_ ?_ ?_ k0 k1 k2 k3 h
  · refine stS hT hW hI hR 79 (Sok 19 (sc d (SW d n w 2).toNatClampNeg)) (Classical.propDecidable _) (Or.inr (Or.inr (Or.inl ⟨rfl, fun q => ?_⟩))) _ rfl
    simp (decide := true) only [Sok, ↓reduceIte]
  · intro b0
    have hc2 := C2_t b0
    have hsx := Scx hW w hc2.1
    have hok := hc2.2
    simp (decide := true) only [Sok, ↓reduceIte] at hok
    have hbP : AB d n w 3 = (decide (0 ≤ NW d n w 3) && decide ((ns d (NW d n w 3)) ≤ 4)) := by
      exact dAnd
    refine stD hT hW hI k1.1 98 3 (by omega) 0 (sc d (SW d n w 2).toNatClampNeg) 1 (by rw [gs_7]; exact h7) (by omega) (by omega) (by omega) (Or.inl (by rw [gs_4, hsx.1])) (fun q => absurd q (by decide)) _ (decide ((ns d (NW d n w 3)) ≤ 4)) hbP (fun q => Or.inl ⟨rfl, rfl⟩) (by decide)
  · intro b0 b1
    have hc2 := C2_t b0
    have hsx := Scx hW w hc2.1
    have hok := hc2.2
    simp (decide := true) only [Sok, ↓reduceIte] at hok
    have hn3 : 0 ≤ NW d n w 3 := by
      have z := b1
      first | exact of_decide_eq_true z | exact (of_decide_eq_true z).1
    have hbP : AS d n w 4 (ns d (NW d n w 3)) = (decide (0 ≤ NW d n w 4) && decide ((ns d (NW d n w 4)) = (ns d (NW d n w 3)))) := by
      exact dAnd
    refine stD hT hW hI k2.1 108 4 (by omega) 1 (sc d (SW d n w 2).toNatClampNeg) (ns d (NW d n w 3)) (gd_7 _ _ _ _ _) (by omega) (by omega) (by have := (nsr hW w 3 (hn3)).2.1; omega) (Or.inl (by rw [gd_4, gs_4, hsx.1])) (fun _ => gd_8 _ _ _ _ _) _ (decide ((ns d (NW d n w 4)) = (ns d (NW d n w 3)))) hbP (fun q => Or.inr (Or.inr (Or.inr (Or.inl ⟨rfl, rfl⟩)))) (by decide)
theorem CK_20 (d : HI) (n w : Nat) : CK d n w 20 = [C2 d n w 20, decide (0 ≤ NW d n w 3 ∧ ns d (NW d n w 3) ≤ 4 ∧ ns d (NW d n w 3) < (sc d (SW d n w 2).toNatClampNeg)), decide (0 ≤ NW d n w 4 ∧ ns d (NW d n w 4) ≤ 4 ∧ ns d (NW d n w 4) = (sc d (SW d n w 2).toNatClampNeg) - ns d (NW d n w 3))] := by
  simp (decide := true) only [CK, CKr, CKt, CKi, ↓reduceIte]
noncomputable def zX_20 (d : HI) (n w : Nat) (hx : HI) : HI := (ndX (ndX (u2 hx 10 4 (scX d n w 2)) 0 (NW d n w 3) (bI (TN d w 3)) (ns d (NW d n w 3))) 1 (NW d n w 4) (bI (TN d w 4)) (ns d (NW d n w 4)))
theorem ffX_20 {d hx : HI} {n w : Nat} {hl : HL} {Φ : Int32 → HI → HL → Prop} (hT : TXw d w) (hW : WL d n) (hI : WI d n) (hR : RX d hx n w) (hk : hx 10 3 = nI 20) (h7 : hx 10 7 = nI 0) (h : ∀ r hx', PX d n w hx (CK d n w 20) (zX_20 d n w hx) r hx' → Φ r hx' hl) : ∃ fu, wbD_firstFault_89 fu 0 hx hl Φ := by
  rw [CK_20] at h
  have k0 : OKX d n w hx 20 hx := ⟨hR, FX_r _, hk⟩
  have k1 : OKX d n w hx 20 (u2 hx 10 4 (scX d n w 2)) := OK_s k0 _
  have k2 : OKX d n w hx 20 (ndX (u2 hx 10 4 (scX d n w 2)) 0 (NW d n w 3) (bI (TN d w 3)) (ns d (NW d n w 3))) := OK_d k1 _ _ _ _
  have k3 : OKX d n w hx 20 (ndX (ndX (u2 hx 10 4 (scX d n w 2)) 0 (NW d n w 3) (bI (TN d w 3)) (ns d (NW d n w 3))) 1 (NW d n w 4) (bI (TN d w 4)) (ns d (NW d n w 4))) := OK_d k2 _ _ _ _
  refine runX3 hT.1 20 (by omega) 66 109 114 _ _ _ _ _ _ _ (by decide) (by decide) (by decide) (by decide) ?_ ?_ ?_ k0 k1 k2 k3 h
  · refine stS hT hW hI hR 66 (Sok 20 (sc d (SW d n w 2).toNatClampNeg)) (Classical.propDecidable _) (Or.inl ⟨rfl, fun q => ?_⟩) _ rfl
    simp (decide := true) only [Sok, ↓reduceIte]
  · intro b0
    have hc2 := C2_t b0
    have hsx := Scx hW w hc2.1
    have hok := hc2.2
    simp (decide := true) only [Sok, ↓reduceIte] at hok
    have hbP : decide (0 ≤ NW d n w 3 ∧ ns d (NW d n w 3) ≤ 4 ∧ ns d (NW d n w 3) < (sc d (SW d n w 2).toNatClampNeg)) = (decide (0 ≤ NW d n w 3) && decide ((ns d (NW d n w 3)) < (sc d (SW d n w 2).toNatClampNeg))) := by
      refine dEq ⟨fun q => ?_, fun q => ?_⟩
      · have hr := nsr hW w 3 (by first | exact q | exact q.1)
        try simp only [wdt, hr.2.2.2] at q ⊢
        first | exact ⟨q, trivial⟩ | exact q | (refine ⟨q.1, ?_⟩; omega) | (refine ⟨q.1, ?_⟩; split at q <;> omega) | (refine ⟨q.1, q.2.1, ?_⟩; simpa using q.2.2) | (obtain ⟨q1, q2, q3⟩ := q; refine ⟨q1, ?_⟩; split at q3 <;> split at q3 <;> omega)
      · have hr := nsr hW w 3 q.1
        try simp only [wdt, hr.2.2.2] at q ⊢
        first | exact q.1 | exact q | exact ⟨q.1, q.2, Or.inl trivial⟩ | exact ⟨q.1, q.2, Or.inl rfl⟩ | (refine ⟨q.1, ?_, ?_⟩ <;> omega) | (refine ⟨q.1, q.2.1, ?_⟩; simpa using q.2.2) | (obtain ⟨q1, q2⟩ := q; refine ⟨q1, by omega, ?_⟩; split <;> split <;> omega) | (obtain ⟨q1, q2⟩ := q; refine ⟨q1, by omega, ?_⟩; split <;> omega)
    refine stD hT hW hI k1.1 109 3 (by omega) 0 (sc d (SW d n w 2).toNatClampNeg) 1 (by rw [gs_7]; exact h7) (by omega) (by omega) (by omega) (Or.inl (by rw [gs_4, hsx.1])) (fun q => absurd q (by decide)) _ (decide ((ns d (NW d n w 3)) < (sc d (SW d n w 2).toNatClampNeg))) hbP (fun q => Or.inr (Or.inr (Or.inr (Or.inr (Or.inl ⟨rfl, rfl⟩))))) (by decide)
  · intro b0 b1
    have hc2 := C2_t b0
    have hsx := Scx hW w hc2.1
    have hok := hc2.2
    simp (decide := true) only [Sok, ↓reduceIte] at hok
    have hn3 : 0 ≤ NW d n w 3 := by
      have z := b1
      first | exact of_decide_eq_true z | exact (of_decide_eq_true z).1
    have hlt : ns d (NW d n w 3) < (sc d (SW d n w 2).toNatClampNeg) := (of_decide_eq_true b1).2.2
    have hbP : decide (0 ≤ NW d n w 4 ∧ ns d (NW d n w 4) ≤ 4 ∧ ns d (NW d n w 4) = (sc d (SW d n w 2).toNatClampNeg) - ns d (NW d n w 3)) = (decide (0 ≤ NW d n w 4) && decide ((ns d (NW d n w 4)) = (sc d (SW d n w 2).toNatClampNeg) - (ns d (NW d n w 3)))) := by
      refine dEq ⟨fun q => ?_, fun q => ?_⟩
      · have hr := nsr hW w 4 (by first | exact q | exact q.1)
        try simp only [wdt, hr.2.2.2] at q ⊢
        first | exact ⟨q, trivial⟩ | exact q | (refine ⟨q.1, ?_⟩; omega) | (refine ⟨q.1, ?_⟩; split at q <;> omega) | (refine ⟨q.1, q.2.1, ?_⟩; simpa using q.2.2) | (obtain ⟨q1, q2, q3⟩ := q; refine ⟨q1, ?_⟩; split at q3 <;> split at q3 <;> omega)
      · have hr := nsr hW w 4 q.1
        try simp only [wdt, hr.2.2.2] at q ⊢
        first | exact q.1 | exact q | exact ⟨q.1, q.2, Or.inl trivial⟩ | exact ⟨q.1, q.2, Or.inl rfl⟩ | (refine ⟨q.1, ?_, ?_⟩ <;> omega) | (refine ⟨q.1, q.2.1, ?_⟩; simpa using q.2.2) | (obtain ⟨q1, q2⟩ := q; refine ⟨q1, by omega, ?_⟩; split <;> split <;> omega) | (obtain ⟨q1, q2⟩ := q; refine ⟨q1, by omega, ?_⟩; split <;> omega)
    refine stD hT hW hI k2.1 114 4 (by omega) 1 (sc d (SW d n w 2).toNatClampNeg) (ns d (NW d n w 3)) (gd_7 _ _ _ _ _) (by omega) (by omega) (by have := (nsr hW w 3 (hn3)).2.1; omega) (Or.inl (by rw [gd_4, gs_4, hsx.1])) (fun _ => gd_8 _ _ _ _ _) _ (decide ((ns d (NW d n w 4)) = (sc d (SW d n w 2).toNatClampNeg) - (ns d (NW d n w 3)))) hbP (fun q => Or.inr (Or.inr (Or.inr (Or.inr (Or.inr (Or.inl ⟨rfl, ?_, rfl⟩)))))) (by decide)
    omega
theorem CK_21 (d : HI) (n w : Nat) : CK d n w 21 = [C2 d n w 21, decide (0 ≤ NW d n w 3 ∧ ns d (NW d n w 3) ≤ 4), decide (0 ≤ NU d w 4 ∧ NU d w 4 < nI (ns d (NW d n w 3))), decide (0 ≤ NU d w 5 ∧ NU d w 4 - NU d w 5 + 1 = nI (sc d (SW d n w 2).toNatClampNeg))] := by
  simp (decide := true) only [CK, CKr, CKt, CKi, ↓reduceIte]
noncomputable def zX_21 (d : HI) (n w : Nat) (hx : HI) : HI := (nmX (nmX (ndX (u2 hx 10 4 (scX d n w 2)) 0 (NW d n w 3) (bI (TN d w 3)) (ns d (NW d n w 3))) (NU d w 4)) (NU d w 5))
theorem ffX_21 {d hx : HI} {n w : Nat} {hl : HL} {Φ : Int32 → HI → HL → Prop} (hT : TXw d w) (hW : WL d n) (hI : WI d n) (hR : RX d hx n w) (hk : hx 10 3 = nI 21) (h7 : hx 10 7 = nI 0) (h : ∀ r hx', PX d n w hx (CK d n w 21) (zX_21 d n w hx) r hx' → Φ r hx' hl) : ∃ fu, wbD_firstFault_89 fu 0 hx hl Φ := by
  rw [CK_21] at h
  have k0 : OKX d n w hx 21 hx := ⟨hR, FX_r _, hk⟩
  have k1 : OKX d n w hx 21 (u2 hx 10 4 (scX d n w 2)) := OK_s k0 _
  have k2 : OKX d n w hx 21 (ndX (u2 hx 10 4 (scX d n w 2)) 0 (NW d n w 3) (bI (TN d w 3)) (ns d (NW d n w 3))) := OK_d k1 _ _ _ _
  have k3 : OKX d n w hx 21 (nmX (ndX (u2 hx 10 4 (scX d n w 2)) 0 (NW d n w 3) (bI (TN d w 3)) (ns d (NW d n w 3))) (NU d w 4)) := OK_n k2 _
  have k4 : OKX d n w hx 21 (nmX (nmX (ndX (u2 hx 10 4 (scX d n w 2)) 0 (NW d n w 3) (bI (TN d w 3)) (ns d (NW d n w 3))) (NU d w 4)) (NU d w 5)) := OK_n k3 _
  refine runX4 hT.1 21 (by omega) 66 98 85 76 _ _ _ _ _ _ _ _ _ (by decide) (by decide) (by decide) (by decide) (by decide) ?_ ?_ ?_ ?_ k0 k1 k2 k3 k4 h
  · refine stS hT hW hI hR 66 (Sok 21 (sc d (SW d n w 2).toNatClampNeg)) (Classical.propDecidable _) (Or.inl ⟨rfl, fun q => ?_⟩) _ rfl
    simp (decide := true) only [Sok, ↓reduceIte]
  · intro b0
    have hc2 := C2_t b0
    have hsx := Scx hW w hc2.1
    have hok := hc2.2
    simp (decide := true) only [Sok, ↓reduceIte] at hok
    have hbP : decide (0 ≤ NW d n w 3 ∧ ns d (NW d n w 3) ≤ 4) = (decide (0 ≤ NW d n w 3) && decide ((ns d (NW d n w 3)) ≤ 4)) := by
      refine dEq ⟨fun q => ?_, fun q => ?_⟩
      · have hr := nsr hW w 3 (by first | exact q | exact q.1)
        try simp only [wdt, hr.2.2.2] at q ⊢
        first | exact ⟨q, trivial⟩ | exact q | (refine ⟨q.1, ?_⟩; omega) | (refine ⟨q.1, ?_⟩; split at q <;> omega) | (refine ⟨q.1, q.2.1, ?_⟩; simpa using q.2.2) | (obtain ⟨q1, q2, q3⟩ := q; refine ⟨q1, ?_⟩; split at q3 <;> split at q3 <;> omega)
      · have hr := nsr hW w 3 q.1
        try simp only [wdt, hr.2.2.2] at q ⊢
        first | exact q.1 | exact q | exact ⟨q.1, q.2, Or.inl trivial⟩ | exact ⟨q.1, q.2, Or.inl rfl⟩ | (refine ⟨q.1, ?_, ?_⟩ <;> omega) | (refine ⟨q.1, q.2.1, ?_⟩; simpa using q.2.2) | (obtain ⟨q1, q2⟩ := q; refine ⟨q1, by omega, ?_⟩; split <;> split <;> omega) | (obtain ⟨q1, q2⟩ := q; refine ⟨q1, by omega, ?_⟩; split <;> omega)
    refine stD hT hW hI k1.1 98 3 (by omega) 0 (sc d (SW d n w 2).toNatClampNeg) 1 (by rw [gs_7]; exact h7) (by omega) (by omega) (by omega) (Or.inl (by rw [gs_4, hsx.1])) (fun q => absurd q (by decide)) _ (decide ((ns d (NW d n w 3)) ≤ 4)) hbP (fun q => Or.inl ⟨rfl, rfl⟩) (by decide)
  · intro b0 b1
    have hc2 := C2_t b0
    have hsx := Scx hW w hc2.1
    have hok := hc2.2
    simp (decide := true) only [Sok, ↓reduceIte] at hok
    exact stN hT k2.1 85 4 (by omega) (sc d (SW d n w 2).toNatClampNeg) (ns d (NW d n w 3)) (by rw [gd_4, gs_4, hsx.1]) (by omega) (fun _ => gd_8 _ _ _ _ _) _ (Or.inr (Or.inl ⟨rfl, rfl⟩))
  · intro b0 b1 b2
    have hc2 := C2_t b0
    have hsx := Scx hW w hc2.1
    have hok := hc2.2
    simp (decide := true) only [Sok, ↓reduceIte] at hok
    exact stN hT k3.1 76 5 (by omega) (sc d (SW d n w 2).toNatClampNeg) (ns d (NW d n w 3)) (by rw [gn_4, gd_4, gs_4, hsx.1]) (by omega) (fun q => absurd q (by decide)) _ (Or.inr (Or.inr (Or.inl ⟨rfl, by rw [gn_9]⟩)))
theorem CK_22 (d : HI) (n w : Nat) : CK d n w 22 = [C2 d n w 22, decide (0 ≤ NW d n w 3 ∧ ns d (NW d n w 3) ≤ 4), decide (0 ≤ NU d w 4 ∧ nI (ns d (NW d n w 3)) + NU d w 4 = nI (sc d (SW d n w 2).toNatClampNeg))] := by
  simp (decide := true) only [CK, CKr, CKt, CKi, ↓reduceIte]
noncomputable def zX_22 (d : HI) (n w : Nat) (hx : HI) : HI := (nmX (ndX (u2 hx 10 4 (scX d n w 2)) 0 (NW d n w 3) (bI (TN d w 3)) (ns d (NW d n w 3))) (NU d w 4))
theorem ffX_22 {d hx : HI} {n w : Nat} {hl : HL} {Φ : Int32 → HI → HL → Prop} (hT : TXw d w) (hW : WL d n) (hI : WI d n) (hR : RX d hx n w) (hk : hx 10 3 = nI 22) (h7 : hx 10 7 = nI 0) (h : ∀ r hx', PX d n w hx (CK d n w 22) (zX_22 d n w hx) r hx' → Φ r hx' hl) : ∃ fu, wbD_firstFault_89 fu 0 hx hl Φ := by
  rw [CK_22] at h
  have k0 : OKX d n w hx 22 hx := ⟨hR, FX_r _, hk⟩
  have k1 : OKX d n w hx 22 (u2 hx 10 4 (scX d n w 2)) := OK_s k0 _
  have k2 : OKX d n w hx 22 (ndX (u2 hx 10 4 (scX d n w 2)) 0 (NW d n w 3) (bI (TN d w 3)) (ns d (NW d n w 3))) := OK_d k1 _ _ _ _
  have k3 : OKX d n w hx 22 (nmX (ndX (u2 hx 10 4 (scX d n w 2)) 0 (NW d n w 3) (bI (TN d w 3)) (ns d (NW d n w 3))) (NU d w 4)) := OK_n k2 _
  refine runX3 hT.1 22 (by omega) 66 98 78 _ _ _ _ _ _ _ (by decide) (by decide) (by decide) (by decide) ?_ ?_ ?_ k0 k1 k2 k3 h
  · refine stS hT hW hI hR 66 (Sok 22 (sc d (SW d n w 2).toNatClampNeg)) (Classical.propDecidable _) (Or.inl ⟨rfl, fun q => ?_⟩) _ rfl
    simp (decide := true) only [Sok, ↓reduceIte]
  · intro b0
    have hc2 := C2_t b0
    have hsx := Scx hW w hc2.1
    have hok := hc2.2
    simp (decide := true) only [Sok, ↓reduceIte] at hok
    have hbP : decide (0 ≤ NW d n w 3 ∧ ns d (NW d n w 3) ≤ 4) = (decide (0 ≤ NW d n w 3) && decide ((ns d (NW d n w 3)) ≤ 4)) := by
      refine dEq ⟨fun q => ?_, fun q => ?_⟩
      · have hr := nsr hW w 3 (by first | exact q | exact q.1)
        try simp only [wdt, hr.2.2.2] at q ⊢
        first | exact ⟨q, trivial⟩ | exact q | (refine ⟨q.1, ?_⟩; omega) | (refine ⟨q.1, ?_⟩; split at q <;> omega) | (refine ⟨q.1, q.2.1, ?_⟩; simpa using q.2.2) | (obtain ⟨q1, q2, q3⟩ := q; refine ⟨q1, ?_⟩; split at q3 <;> split at q3 <;> omega)
      · have hr := nsr hW w 3 q.1
        try simp only [wdt, hr.2.2.2] at q ⊢
        first | exact q.1 | exact q | exact ⟨q.1, q.2, Or.inl trivial⟩ | exact ⟨q.1, q.2, Or.inl rfl⟩ | (refine ⟨q.1, ?_, ?_⟩ <;> omega) | (refine ⟨q.1, q.2.1, ?_⟩; simpa using q.2.2) | (obtain ⟨q1, q2⟩ := q; refine ⟨q1, by omega, ?_⟩; split <;> split <;> omega) | (obtain ⟨q1, q2⟩ := q; refine ⟨q1, by omega, ?_⟩; split <;> omega)
    refine stD hT hW hI k1.1 98 3 (by omega) 0 (sc d (SW d n w 2).toNatClampNeg) 1 (by rw [gs_7]; exact h7) (by omega) (by omega) (by omega) (Or.inl (by rw [gs_4, hsx.1])) (fun q => absurd q (by decide)) _ (decide ((ns d (NW d n w 3)) ≤ 4)) hbP (fun q => Or.inl ⟨rfl, rfl⟩) (by decide)
  · intro b0 b1
    have hc2 := C2_t b0
    have hsx := Scx hW w hc2.1
    have hok := hc2.2
    simp (decide := true) only [Sok, ↓reduceIte] at hok
    exact stN hT k2.1 78 4 (by omega) (sc d (SW d n w 2).toNatClampNeg) (ns d (NW d n w 3)) (by rw [gd_4, gs_4, hsx.1]) (by omega) (fun _ => gd_8 _ _ _ _ _) _ (Or.inr (Or.inr (Or.inr ⟨rfl, rfl⟩)))
theorem CK_23 (d : HI) (n w : Nat) : CK d n w 23 = [C2 d n w 23, decide (0 ≤ NW d n w 3 ∧ ns d (NW d n w 3) ≤ 4), decide (0 ≤ NU d w 4 ∧ nI (ns d (NW d n w 3)) + NU d w 4 = nI (sc d (SW d n w 2).toNatClampNeg))] := by
  simp (decide := true) only [CK, CKr, CKt, CKi, ↓reduceIte]
noncomputable def zX_23 (d : HI) (n w : Nat) (hx : HI) : HI := (nmX (ndX (u2 hx 10 4 (scX d n w 2)) 0 (NW d n w 3) (bI (TN d w 3)) (ns d (NW d n w 3))) (NU d w 4))
theorem ffX_23 {d hx : HI} {n w : Nat} {hl : HL} {Φ : Int32 → HI → HL → Prop} (hT : TXw d w) (hW : WL d n) (hI : WI d n) (hR : RX d hx n w) (hk : hx 10 3 = nI 23) (h7 : hx 10 7 = nI 0) (h : ∀ r hx', PX d n w hx (CK d n w 23) (zX_23 d n w hx) r hx' → Φ r hx' hl) : ∃ fu, wbD_firstFault_89 fu 0 hx hl Φ := by
  rw [CK_23] at h
  have k0 : OKX d n w hx 23 hx := ⟨hR, FX_r _, hk⟩
  have k1 : OKX d n w hx 23 (u2 hx 10 4 (scX d n w 2)) := OK_s k0 _
  have k2 : OKX d n w hx 23 (ndX (u2 hx 10 4 (scX d n w 2)) 0 (NW d n w 3) (bI (TN d w 3)) (ns d (NW d n w 3))) := OK_d k1 _ _ _ _
  have k3 : OKX d n w hx 23 (nmX (ndX (u2 hx 10 4 (scX d n w 2)) 0 (NW d n w 3) (bI (TN d w 3)) (ns d (NW d n w 3))) (NU d w 4)) := OK_n k2 _
  refine runX3 hT.1 23 (by omega) 66 98 78 _ _ _ _ _ _ _ (by decide) (by decide) (by decide) (by decide) ?_ ?_ ?_ k0 k1 k2 k3 h
  · refine stS hT hW hI hR 66 (Sok 23 (sc d (SW d n w 2).toNatClampNeg)) (Classical.propDecidable _) (Or.inl ⟨rfl, fun q => ?_⟩) _ rfl
    simp (decide := true) only [Sok, ↓reduceIte]
  · intro b0
    have hc2 := C2_t b0
    have hsx := Scx hW w hc2.1
    have hok := hc2.2
    simp (decide := true) only [Sok, ↓reduceIte] at hok
    have hbP : decide (0 ≤ NW d n w 3 ∧ ns d (NW d n w 3) ≤ 4) = (decide (0 ≤ NW d n w 3) && decide ((ns d (NW d n w 3)) ≤ 4)) := by
      refine dEq ⟨fun q => ?_, fun q => ?_⟩
      · have hr := nsr hW w 3 (by first | exact q | exact q.1)
        try simp only [wdt, hr.2.2.2] at q ⊢
        first | exact ⟨q, trivial⟩ | exact q | (refine ⟨q.1, ?_⟩; omega) | (refine ⟨q.1, ?_⟩; split at q <;> omega) | (refine ⟨q.1, q.2.1, ?_⟩; simpa using q.2.2) | (obtain ⟨q1, q2, q3⟩ := q; refine ⟨q1, ?_⟩; split at q3 <;> split at q3 <;> omega)
      · have hr := nsr hW w 3 q.1
        try simp only [wdt, hr.2.2.2] at q ⊢
        first | exact q.1 | exact q | exact ⟨q.1, q.2, Or.inl trivial⟩ | exact ⟨q.1, q.2, Or.inl rfl⟩ | (refine ⟨q.1, ?_, ?_⟩ <;> omega) | (refine ⟨q.1, q.2.1, ?_⟩; simpa using q.2.2) | (obtain ⟨q1, q2⟩ := q; refine ⟨q1, by omega, ?_⟩; split <;> split <;> omega) | (obtain ⟨q1, q2⟩ := q; refine ⟨q1, by omega, ?_⟩; split <;> omega)
    refine stD hT hW hI k1.1 98 3 (by omega) 0 (sc d (SW d n w 2).toNatClampNeg) 1 (by rw [gs_7]; exact h7) (by omega) (by omega) (by omega) (Or.inl (by rw [gs_4, hsx.1])) (fun q => absurd q (by decide)) _ (decide ((ns d (NW d n w 3)) ≤ 4)) hbP (fun q => Or.inl ⟨rfl, rfl⟩) (by decide)
  · intro b0 b1
    have hc2 := C2_t b0
    have hsx := Scx hW w hc2.1
    have hok := hc2.2
    simp (decide := true) only [Sok, ↓reduceIte] at hok
    exact stN hT k2.1 78 4 (by omega) (sc d (SW d n w 2).toNatClampNeg) (ns d (NW d n w 3)) (by rw [gd_4, gs_4, hsx.1]) (by omega) (fun _ => gd_8 _ _ _ _ _) _ (Or.inr (Or.inr (Or.inr ⟨rfl, rfl⟩)))
theorem CK_24 (d : HI) (n w : Nat) : CK d n w 24 = [C2 d n w 24, decide (0 ≤ NW d n w 3 ∧ ns d (NW d n w 3) = 1), decide (0 ≤ NW d n w 4 ∧ ns d (NW d n w 4) = (sc d (SW d n w 2).toNatClampNeg)), decide (0 ≤ NW d n w 5 ∧ ns d (NW d n w 5) = (sc d (SW d n w 2).toNatClampNeg))] := by
  simp (decide := true) only [CK, CKr, CKt, CKi, ↓reduceIte]
noncomputable def zX_24 (d : HI) (n w : Nat) (hx : HI) : HI := (ndX (ndX (ndX (u2 hx 10 4 (scX d n w 2)) 0 (NW d n w 3) (bI (TN d w 3)) (ns d (NW d n w 3))) 1 (NW d n w 4) (bI (TN d w 4)) (ns d (NW d n w 4))) 2 (NW d n w 5) (bI (TN d w 5)) (ns d (NW d n w 5)))
theorem ffX_24 {d hx : HI} {n w : Nat} {hl : HL} {Φ : Int32 → HI → HL → Prop} (hT : TXw d w) (hW : WL d n) (hI : WI d n) (hR : RX d hx n w) (hk : hx 10 3 = nI 24) (h7 : hx 10 7 = nI 0) (h : ∀ r hx', PX d n w hx (CK d n w 24) (zX_24 d n w hx) r hx' → Φ r hx' hl) : ∃ fu, wbD_firstFault_89 fu 0 hx hl Φ := by
  rw [CK_24] at h
  have k0 : OKX d n w hx 24 hx := ⟨hR, FX_r _, hk⟩
  have k1 : OKX d n w hx 24 (u2 hx 10 4 (scX d n w 2)) := OK_s k0 _
  have k2 : OKX d n w hx 24 (ndX (u2 hx 10 4 (scX d n w 2)) 0 (NW d n w 3) (bI (TN d w 3)) (ns d (NW d n w 3))) := OK_d k1 _ _ _ _
  have k3 : OKX d n w hx 24 (ndX (ndX (u2 hx 10 4 (scX d n w 2)) 0 (NW d n w 3) (bI (TN d w 3)) (ns d (NW d n w 3))) 1 (NW d n w 4) (bI (TN d w 4)) (ns d (NW d n w 4))) := OK_d k2 _ _ _ _
  have k4 : OKX d n w hx 24 (ndX (ndX (ndX (u2 hx 10 4 (scX d n w 2)) 0 (NW d n w 3) (bI (TN d w 3)) (ns d (NW d n w 3))) 1 (NW d n w 4) (bI (TN d w 4)) (ns d (NW d n w 4))) 2 (NW d n w 5) (bI (TN d w 5)) (ns d (NW d n w 5))) := OK_d k3 _ _ _ _
  refine runX4 hT.1 24 (by omega) 83 111 115 115 _ _ _ _ _ _ _ _ _ (by decide) (by decide) (by decide) (by decide) (by decide) ?_ ?_ ?_ ?_ k0 k1 k2 k3 k4 h
  · refine stS hT hW hI hR 83 (Sok 24 (sc d (SW d n w 2).toNatClampNeg)) (Classical.propDecidable _) (Or.inr (Or.inr (Or.inr (Or.inl ⟨rfl, fun q => ?_⟩)))) _ rfl
    simp (decide := true) only [Sok, ↓reduceIte]
  · intro b0
    have hc2 := C2_t b0
    have hsx := Scx hW w hc2.1
    have hbP : decide (0 ≤ NW d n w 3 ∧ ns d (NW d n w 3) = 1) = (decide (0 ≤ NW d n w 3) && decide ((ns d (NW d n w 3)) = 1)) := by
      refine dEq ⟨fun q => ?_, fun q => ?_⟩
      · have hr := nsr hW w 3 (by first | exact q | exact q.1)
        try simp only [wdt, hr.2.2.2] at q ⊢
        first | exact ⟨q, trivial⟩ | exact q | (refine ⟨q.1, ?_⟩; omega) | (refine ⟨q.1, ?_⟩; split at q <;> omega) | (refine ⟨q.1, q.2.1, ?_⟩; simpa using q.2.2) | (obtain ⟨q1, q2, q3⟩ := q; refine ⟨q1, ?_⟩; split at q3 <;> split at q3 <;> omega)
      · have hr := nsr hW w 3 q.1
        try simp only [wdt, hr.2.2.2] at q ⊢
        first | exact q.1 | exact q | exact ⟨q.1, q.2, Or.inl trivial⟩ | exact ⟨q.1, q.2, Or.inl rfl⟩ | (refine ⟨q.1, ?_, ?_⟩ <;> omega) | (refine ⟨q.1, q.2.1, ?_⟩; simpa using q.2.2) | (obtain ⟨q1, q2⟩ := q; refine ⟨q1, by omega, ?_⟩; split <;> split <;> omega) | (obtain ⟨q1, q2⟩ := q; refine ⟨q1, by omega, ?_⟩; split <;> omega)
    refine stD hT hW hI k1.1 111 3 (by omega) 0 (sc d (SW d n w 2).toNatClampNeg) 1 (by rw [gs_7]; exact h7) (by omega) (by omega) (by omega) (Or.inl (by rw [gs_4, hsx.1])) (fun q => absurd q (by decide)) _ (decide ((ns d (NW d n w 3)) = 1)) hbP (fun q => Or.inr (Or.inl ⟨rfl, rfl⟩)) (by decide)
  · intro b0 b1
    have hc2 := C2_t b0
    have hsx := Scx hW w hc2.1
    have hbP : decide (0 ≤ NW d n w 4 ∧ ns d (NW d n w 4) = (sc d (SW d n w 2).toNatClampNeg)) = (decide (0 ≤ NW d n w 4) && decide ((ns d (NW d n w 4)) = (sc d (SW d n w 2).toNatClampNeg))) := by
      refine dEq ⟨fun q => ?_, fun q => ?_⟩
      · have hr := nsr hW w 4 (by first | exact q | exact q.1)
        try simp only [wdt, hr.2.2.2] at q ⊢
        first | exact ⟨q, trivial⟩ | exact q | (refine ⟨q.1, ?_⟩; omega) | (refine ⟨q.1, ?_⟩; split at q <;> omega) | (refine ⟨q.1, q.2.1, ?_⟩; simpa using q.2.2) | (obtain ⟨q1, q2, q3⟩ := q; refine ⟨q1, ?_⟩; split at q3 <;> split at q3 <;> omega)
      · have hr := nsr hW w 4 q.1
        try simp only [wdt, hr.2.2.2] at q ⊢
        first | exact q.1 | exact q | exact ⟨q.1, q.2, Or.inl trivial⟩ | exact ⟨q.1, q.2, Or.inl rfl⟩ | (refine ⟨q.1, ?_, ?_⟩ <;> omega) | (refine ⟨q.1, q.2.1, ?_⟩; simpa using q.2.2) | (obtain ⟨q1, q2⟩ := q; refine ⟨q1, by omega, ?_⟩; split <;> split <;> omega) | (obtain ⟨q1, q2⟩ := q; refine ⟨q1, by omega, ?_⟩; split <;> omega)
    refine stD hT hW hI k2.1 115 4 (by omega) 1 (sc d (SW d n w 2).toNatClampNeg) 1 (gd_7 _ _ _ _ _) (by omega) (by omega) (by omega) (Or.inl (by rw [gd_4, gs_4, hsx.1])) (fun q => absurd q (by decide)) _ (decide ((ns d (NW d n w 4)) = (sc d (SW d n w 2).toNatClampNeg))) hbP (fun q => Or.inr (Or.inr (Or.inl ⟨rfl, rfl⟩))) (by decide)
  · intro b0 b1 b2
    have hc2 := C2_t b0
    have hsx := Scx hW w hc2.1
    have hbP : decide (0 ≤ NW d n w 5 ∧ ns d (NW d n w 5) = (sc d (SW d n w 2).toNatClampNeg)) = (decide (0 ≤ NW d n w 5) && decide ((ns d (NW d n w 5)) = (sc d (SW d n w 2).toNatClampNeg))) := by
      refine dEq ⟨fun q => ?_, fun q => ?_⟩
      · have hr := nsr hW w 5 (by first | exact q | exact q.1)
        try simp only [wdt, hr.2.2.2] at q ⊢
        first | exact ⟨q, trivial⟩ | exact q | (refine ⟨q.1, ?_⟩; omega) | (refine ⟨q.1, ?_⟩; split at q <;> omega) | (refine ⟨q.1, q.2.1, ?_⟩; simpa using q.2.2) | (obtain ⟨q1, q2, q3⟩ := q; refine ⟨q1, ?_⟩; split at q3 <;> split at q3 <;> omega)
      · have hr := nsr hW w 5 q.1
        try simp only [wdt, hr.2.2.2] at q ⊢
        first | exact q.1 | exact q | exact ⟨q.1, q.2, Or.inl trivial⟩ | exact ⟨q.1, q.2, Or.inl rfl⟩ | (refine ⟨q.1, ?_, ?_⟩ <;> omega) | (refine ⟨q.1, q.2.1, ?_⟩; simpa using q.2.2) | (obtain ⟨q1, q2⟩ := q; refine ⟨q1, by omega, ?_⟩; split <;> split <;> omega) | (obtain ⟨q1, q2⟩ := q; refine ⟨q1, by omega, ?_⟩; split <;> omega)
    refine stD hT hW hI k3.1 115 5 (by omega) 2 (sc d (SW d n w 2).toNatClampNeg) 1 (gd_7 _ _ _ _ _) (by omega) (by omega) (by omega) (Or.inl (by rw [gd_4, gd_4, gs_4, hsx.1])) (fun q => absurd q (by decide)) _ (decide ((ns d (NW d n w 5)) = (sc d (SW d n w 2).toNatClampNeg))) hbP (fun q => Or.inr (Or.inr (Or.inl ⟨rfl, rfl⟩))) (by decide)
theorem CK_25 (d : HI) (n w : Nat) : CK d n w 25 = [C2 d n w 25, decide (0 ≤ NW d n w 3 ∧ ¬ ns d (NW d n w 3) ≤ 4 ∧ wdt (ns d (NW d n w 3)) = wdt (sc d (SW d n w 2).toNatClampNeg)), decide (0 ≤ NW d n w 4 ∧ ns d (NW d n w 4) ≤ 4 ∧ ns d (NW d n w 4) = 1)] := by
  simp (decide := true) only [CK, CKr, CKt, CKi, ↓reduceIte]
noncomputable def zX_25 (d : HI) (n w : Nat) (hx : HI) : HI := (ndX (ndX (u2 hx 10 4 (scX d n w 2)) 0 (NW d n w 3) (bI (TN d w 3)) (ns d (NW d n w 3))) 1 (NW d n w 4) (bI (TN d w 4)) (ns d (NW d n w 4)))
theorem ffX_25 {d hx : HI} {n w : Nat} {hl : HL} {Φ : Int32 → HI → HL → Prop} (hT : TXw d w) (hW : WL d n) (hI : WI d n) (hR : RX d hx n w) (hk : hx 10 3 = nI 25) (h7 : hx 10 7 = nI 0) (h : ∀ r hx', PX d n w hx (CK d n w 25) (zX_25 d n w hx) r hx' → Φ r hx' hl) : ∃ fu, wbD_firstFault_89 fu 0 hx hl Φ := by
  rw [CK_25] at h
  have k0 : OKX d n w hx 25 hx := ⟨hR, FX_r _, hk⟩
  have k1 : OKX d n w hx 25 (u2 hx 10 4 (scX d n w 2)) := OK_s k0 _
  have k2 : OKX d n w hx 25 (ndX (u2 hx 10 4 (scX d n w 2)) 0 (NW d n w 3) (bI (TN d w 3)) (ns d (NW d n w 3))) := OK_d k1 _ _ _ _
  have k3 : OKX d n w hx 25 (ndX (ndX (u2 hx 10 4 (scX d n w 2)) 0 (NW d n w 3) (bI (TN d w 3)) (ns d (NW d n w 3))) 1 (NW d n w 4) (bI (TN d w 4)) (ns d (NW d n w 4))) := OK_d k2 _ _ _ _
  refine runX3 hT.1 25 (by omega) 66 121 111 _ _ _ _ _ _ _ (by decide) (by decide) (by decide) (by decide) ?_ ?_ ?_ k0 k1 k2 k3 h
  · refine stS hT hW hI hR 66 (Sok 25 (sc d (SW d n w 2).toNatClampNeg)) (Classical.propDecidable _) (Or.inl ⟨rfl, fun q => ?_⟩) _ rfl
    simp (decide := true) only [Sok, ↓reduceIte]
  · intro b0
    have hc2 := C2_t b0
    have hsx := Scx hW w hc2.1
    have hok := hc2.2
    simp (decide := true) only [Sok, ↓reduceIte] at hok
    have hbP : decide (0 ≤ NW d n w 3 ∧ ¬ ns d (NW d n w 3) ≤ 4 ∧ wdt (ns d (NW d n w 3)) = wdt (sc d (SW d n w 2).toNatClampNeg)) = (decide (0 ≤ NW d n w 3) && decide ((ns d (NW d n w 3)) = 4 + (sc d (SW d n w 2).toNatClampNeg))) := by
      refine dEq ⟨fun q => ?_, fun q => ?_⟩
      · have hr := nsr hW w 3 (by first | exact q | exact q.1)
        try simp only [wdt, hr.2.2.2] at q ⊢
        first | exact ⟨q, trivial⟩ | exact q | (refine ⟨q.1, ?_⟩; omega) | (refine ⟨q.1, ?_⟩; split at q <;> omega) | (refine ⟨q.1, q.2.1, ?_⟩; simpa using q.2.2) | (obtain ⟨q1, q2, q3⟩ := q; refine ⟨q1, ?_⟩; split at q3 <;> split at q3 <;> omega)
      · have hr := nsr hW w 3 q.1
        try simp only [wdt, hr.2.2.2] at q ⊢
        first | exact q.1 | exact q | exact ⟨q.1, q.2, Or.inl trivial⟩ | exact ⟨q.1, q.2, Or.inl rfl⟩ | (refine ⟨q.1, ?_, ?_⟩ <;> omega) | (refine ⟨q.1, q.2.1, ?_⟩; simpa using q.2.2) | (obtain ⟨q1, q2⟩ := q; refine ⟨q1, by omega, ?_⟩; split <;> split <;> omega) | (obtain ⟨q1, q2⟩ := q; refine ⟨q1, by omega, ?_⟩; split <;> omega)
    refine stD hT hW hI k1.1 121 3 (by omega) 0 (sc d (SW d n w 2).toNatClampNeg) 1 (by rw [gs_7]; exact h7) (by omega) (by omega) (by omega) (Or.inl (by rw [gs_4, hsx.1])) (fun q => absurd q (by decide)) _ (decide ((ns d (NW d n w 3)) = 4 + (sc d (SW d n w 2).toNatClampNeg))) hbP (fun q => Or.inr (Or.inr (Or.inr (Or.inr (Or.inr (Or.inr (Or.inl ⟨rfl, rfl⟩))))))) (by decide)
  · intro b0 b1
    have hc2 := C2_t b0
    have hsx := Scx hW w hc2.1
    have hok := hc2.2
    simp (decide := true) only [Sok, ↓reduceIte] at hok
    have hbP : decide (0 ≤ NW d n w 4 ∧ ns d (NW d n w 4) ≤ 4 ∧ ns d (NW d n w 4) = 1) = (decide (0 ≤ NW d n w 4) && decide ((ns d (NW d n w 4)) = 1)) := by
      refine dEq ⟨fun q => ?_, fun q => ?_⟩
      · have hr := nsr hW w 4 (by first | exact q | exact q.1)
        try simp only [wdt, hr.2.2.2] at q ⊢
        first | exact ⟨q, trivial⟩ | exact q | (refine ⟨q.1, ?_⟩; omega) | (refine ⟨q.1, ?_⟩; split at q <;> omega) | (refine ⟨q.1, q.2.1, ?_⟩; simpa using q.2.2) | (obtain ⟨q1, q2, q3⟩ := q; refine ⟨q1, ?_⟩; split at q3 <;> split at q3 <;> omega)
      · have hr := nsr hW w 4 q.1
        try simp only [wdt, hr.2.2.2] at q ⊢
        first | exact q.1 | exact q | exact ⟨q.1, q.2, Or.inl trivial⟩ | exact ⟨q.1, q.2, Or.inl rfl⟩ | (refine ⟨q.1, ?_, ?_⟩ <;> omega) | (refine ⟨q.1, q.2.1, ?_⟩; simpa using q.2.2) | (obtain ⟨q1, q2⟩ := q; refine ⟨q1, by omega, ?_⟩; split <;> split <;> omega) | (obtain ⟨q1, q2⟩ := q; refine ⟨q1, by omega, ?_⟩; split <;> omega)
    refine stD hT hW hI k2.1 111 4 (by omega) 1 (sc d (SW d n w 2).toNatClampNeg) 1 (gd_7 _ _ _ _ _) (by omega) (by omega) (by omega) (Or.inl (by rw [gd_4, gs_4, hsx.1])) (fun q => absurd q (by decide)) _ (decide ((ns d (NW d n w 4)) = 1)) hbP (fun q => Or.inr (Or.inl ⟨rfl, rfl⟩)) (by decide)
theorem CK_26 (d : HI) (n w : Nat) : CK d n w 26 = [C2 d n w 26, decide (0 ≤ NW d n w 3 ∧ ¬ ns d (NW d n w 3) ≤ 4 ∧ wdt (ns d (NW d n w 3)) = wdt (sc d (SW d n w 2).toNatClampNeg)), decide (0 ≤ NW d n w 4 ∧ ns d (NW d n w 4) ≤ 4 ∧ ns d (NW d n w 4) = 1), decide (0 ≤ NW d n w 5 ∧ ns d (NW d n w 5) ≤ 4 ∧ ns d (NW d n w 5) = wdt (sc d (SW d n w 2).toNatClampNeg))] := by
  simp (decide := true) only [CK, CKr, CKt, CKi, ↓reduceIte]
noncomputable def zX_26 (d : HI) (n w : Nat) (hx : HI) : HI := (ndX (ndX (ndX (u2 hx 10 4 (scX d n w 2)) 0 (NW d n w 3) (bI (TN d w 3)) (ns d (NW d n w 3))) 1 (NW d n w 4) (bI (TN d w 4)) (ns d (NW d n w 4))) 2 (NW d n w 5) (bI (TN d w 5)) (ns d (NW d n w 5)))
theorem ffX_26 {d hx : HI} {n w : Nat} {hl : HL} {Φ : Int32 → HI → HL → Prop} (hT : TXw d w) (hW : WL d n) (hI : WI d n) (hR : RX d hx n w) (hk : hx 10 3 = nI 26) (h7 : hx 10 7 = nI 0) (h : ∀ r hx', PX d n w hx (CK d n w 26) (zX_26 d n w hx) r hx' → Φ r hx' hl) : ∃ fu, wbD_firstFault_89 fu 0 hx hl Φ := by
  rw [CK_26] at h
  have k0 : OKX d n w hx 26 hx := ⟨hR, FX_r _, hk⟩
  have k1 : OKX d n w hx 26 (u2 hx 10 4 (scX d n w 2)) := OK_s k0 _
  have k2 : OKX d n w hx 26 (ndX (u2 hx 10 4 (scX d n w 2)) 0 (NW d n w 3) (bI (TN d w 3)) (ns d (NW d n w 3))) := OK_d k1 _ _ _ _
  have k3 : OKX d n w hx 26 (ndX (ndX (u2 hx 10 4 (scX d n w 2)) 0 (NW d n w 3) (bI (TN d w 3)) (ns d (NW d n w 3))) 1 (NW d n w 4) (bI (TN d w 4)) (ns d (NW d n w 4))) := OK_d k2 _ _ _ _
  have k4 : OKX d n w hx 26 (ndX (ndX (ndX (u2 hx 10 4 (scX d n w 2)) 0 (NW d n w 3) (bI (TN d w 3)) (ns d (NW d n w 3))) 1 (NW d n w 4) (bI (TN d w 4)) (ns d (NW d n w 4))) 2 (NW d n w 5) (bI (TN d w 5)) (ns d (NW d n w 5))) := OK_d k3 _ _ _ _
  refine runX4 hT.1 26 (by omega) 89 115 111 101 _ _ _ _ _ _ _ _ _ (by decide) (by decide) (by decide) (by decide) (by decide) ?_ ?_ ?_ ?_ k0 k1 k2 k3 k4 h
  · refine stS hT hW hI hR 89 (Sok 26 (sc d (SW d n w 2).toNatClampNeg)) (Classical.propDecidable _) (Or.inr (Or.inr (Or.inr (Or.inr (Or.inr ⟨rfl, fun q => ?_⟩))))) _ rfl
    simp (decide := true) only [Sok, ↓reduceIte]
  · intro b0
    have hc2 := C2_t b0
    have hsx := Scx hW w hc2.1
    have hok := hc2.2
    simp (decide := true) only [Sok, ↓reduceIte] at hok
    have hbP : decide (0 ≤ NW d n w 3 ∧ ¬ ns d (NW d n w 3) ≤ 4 ∧ wdt (ns d (NW d n w 3)) = wdt (sc d (SW d n w 2).toNatClampNeg)) = (decide (0 ≤ NW d n w 3) && decide ((ns d (NW d n w 3)) = (sc d (SW d n w 2).toNatClampNeg))) := by
      refine dEq ⟨fun q => ?_, fun q => ?_⟩
      · have hr := nsr hW w 3 (by first | exact q | exact q.1)
        try simp only [wdt, hr.2.2.2] at q ⊢
        first | exact ⟨q, trivial⟩ | exact q | (refine ⟨q.1, ?_⟩; omega) | (refine ⟨q.1, ?_⟩; split at q <;> omega) | (refine ⟨q.1, q.2.1, ?_⟩; simpa using q.2.2) | (obtain ⟨q1, q2, q3⟩ := q; refine ⟨q1, ?_⟩; split at q3 <;> split at q3 <;> omega)
      · have hr := nsr hW w 3 q.1
        try simp only [wdt, hr.2.2.2] at q ⊢
        first | exact q.1 | exact q | exact ⟨q.1, q.2, Or.inl trivial⟩ | exact ⟨q.1, q.2, Or.inl rfl⟩ | (refine ⟨q.1, ?_, ?_⟩ <;> omega) | (refine ⟨q.1, q.2.1, ?_⟩; simpa using q.2.2) | (obtain ⟨q1, q2⟩ := q; refine ⟨q1, by omega, ?_⟩; split <;> split <;> omega) | (obtain ⟨q1, q2⟩ := q; refine ⟨q1, by omega, ?_⟩; split <;> omega)
    refine stD hT hW hI k1.1 115 3 (by omega) 0 (sc d (SW d n w 2).toNatClampNeg) 1 (by rw [gs_7]; exact h7) (by omega) (by omega) (by omega) (Or.inl (by rw [gs_4, hsx.1])) (fun q => absurd q (by decide)) _ (decide ((ns d (NW d n w 3)) = (sc d (SW d n w 2).toNatClampNeg))) hbP (fun q => Or.inr (Or.inr (Or.inl ⟨rfl, rfl⟩))) (by decide)
  · intro b0 b1
    have hc2 := C2_t b0
    have hsx := Scx hW w hc2.1
    have hok := hc2.2
    simp (decide := true) only [Sok, ↓reduceIte] at hok
    have hbP : decide (0 ≤ NW d n w 4 ∧ ns d (NW d n w 4) ≤ 4 ∧ ns d (NW d n w 4) = 1) = (decide (0 ≤ NW d n w 4) && decide ((ns d (NW d n w 4)) = 1)) := by
      refine dEq ⟨fun q => ?_, fun q => ?_⟩
      · have hr := nsr hW w 4 (by first | exact q | exact q.1)
        try simp only [wdt, hr.2.2.2] at q ⊢
        first | exact ⟨q, trivial⟩ | exact q | (refine ⟨q.1, ?_⟩; omega) | (refine ⟨q.1, ?_⟩; split at q <;> omega) | (refine ⟨q.1, q.2.1, ?_⟩; simpa using q.2.2) | (obtain ⟨q1, q2, q3⟩ := q; refine ⟨q1, ?_⟩; split at q3 <;> split at q3 <;> omega)
      · have hr := nsr hW w 4 q.1
        try simp only [wdt, hr.2.2.2] at q ⊢
        first | exact q.1 | exact q | exact ⟨q.1, q.2, Or.inl trivial⟩ | exact ⟨q.1, q.2, Or.inl rfl⟩ | (refine ⟨q.1, ?_, ?_⟩ <;> omega) | (refine ⟨q.1, q.2.1, ?_⟩; simpa using q.2.2) | (obtain ⟨q1, q2⟩ := q; refine ⟨q1, by omega, ?_⟩; split <;> split <;> omega) | (obtain ⟨q1, q2⟩ := q; refine ⟨q1, by omega, ?_⟩; split <;> omega)
    refine stD hT hW hI k2.1 111 4 (by omega) 1 (sc d (SW d n w 2).toNatClampNeg) 1 (gd_7 _ _ _ _ _) (by omega) (by omega) (by omega) (Or.inl (by rw [gd_4, gs_4, hsx.1])) (fun q => absurd q (by decide)) _ (decide ((ns d (NW d n w 4)) = 1)) hbP (fun q => Or.inr (Or.inl ⟨rfl, rfl⟩)) (by decide)
  · intro b0 b1 b2
    have hc2 := C2_t b0
    have hsx := Scx hW w hc2.1
    have hok := hc2.2
    simp (decide := true) only [Sok, ↓reduceIte] at hok
    have hbP : decide (0 ≤ NW d n w 5 ∧ ns d (NW d n w 5) ≤ 4 ∧ ns d (NW d n w 5) = wdt (sc d (SW d n w 2).toNatClampNeg)) = (decide (0 ≤ NW d n w 5) && decide ((ns d (NW d n w 5)) = (sc d (SW d n w 2).toNatClampNeg) - 4)) := by
      refine dEq ⟨fun q => ?_, fun q => ?_⟩
      · have hr := nsr hW w 5 (by first | exact q | exact q.1)
        try simp only [wdt, hr.2.2.2] at q ⊢
        first | exact ⟨q, trivial⟩ | exact q | (refine ⟨q.1, ?_⟩; omega) | (refine ⟨q.1, ?_⟩; split at q <;> omega) | (refine ⟨q.1, q.2.1, ?_⟩; simpa using q.2.2) | (obtain ⟨q1, q2, q3⟩ := q; refine ⟨q1, ?_⟩; split at q3 <;> split at q3 <;> omega)
      · have hr := nsr hW w 5 q.1
        try simp only [wdt, hr.2.2.2] at q ⊢
        first | exact q.1 | exact q | exact ⟨q.1, q.2, Or.inl trivial⟩ | exact ⟨q.1, q.2, Or.inl rfl⟩ | (refine ⟨q.1, ?_, ?_⟩ <;> omega) | (refine ⟨q.1, q.2.1, ?_⟩; simpa using q.2.2) | (obtain ⟨q1, q2⟩ := q; refine ⟨q1, by omega, ?_⟩; split <;> split <;> omega) | (obtain ⟨q1, q2⟩ := q; refine ⟨q1, by omega, ?_⟩; split <;> omega)
    refine stD hT hW hI k3.1 101 5 (by omega) 2 (sc d (SW d n w 2).toNatClampNeg) 1 (gd_7 _ _ _ _ _) (by omega) (by omega) (by omega) (Or.inl (by rw [gd_4, gd_4, gs_4, hsx.1])) (fun q => absurd q (by decide)) _ (decide ((ns d (NW d n w 5)) = (sc d (SW d n w 2).toNatClampNeg) - 4)) hbP (fun q => Or.inr (Or.inr (Or.inr (Or.inr (Or.inr (Or.inr (Or.inr (Or.inl ⟨rfl, ?_, rfl⟩)))))))) (by decide)
    omega
theorem CK_27 (d : HI) (n w : Nat) : CK d n w 27 = [decide (0 ≤ SW d n w 2), decide (0 ≤ NW d n w 3 ∧ TN d w 3 = false ∧ d 5 (NW d n w 3).toNatClampNeg = 2 ∧ ns d (NW d n w 3) = (sc d (SW d n w 2).toNatClampNeg) ∧ hsq d (nI 27) (NW d n w 3) n = false), decide (0 ≤ NW d n w 4 ∧ ns d (NW d n w 4) = (sc d (SW d n w 2).toNatClampNeg) ∧ (27 = 28 ∨ FR d (NW d n w 4).toNatClampNeg = false))] := by
  unfold CK; rw [if_neg (by omega), if_neg (by omega), if_neg (by omega), if_pos (by omega)]; rfl
noncomputable def zX_27 (d : HI) (n w : Nat) (hx : HI) : HI := (ndX (ndX (u2 hx 10 4 (scX d n w 2)) 0 (NW d n w 3) (bI (TN d w 3)) (ns d (NW d n w 3))) 1 (NW d n w 4) (bI (TN d w 4)) (ns d (NW d n w 4)))
theorem ffX_27 {d hx : HI} {n w : Nat} {hl : HL} {Φ : Int32 → HI → HL → Prop} (hT : TXw d w) (hW : WL d n) (hI : WI d n) (hR : RX d hx n w) (hk : hx 10 3 = nI 27) (h7 : hx 10 7 = nI 0) (h : ∀ r hx', PX d n w hx (CK d n w 27) (zX_27 d n w hx) r hx' → Φ r hx' hl) : ∃ fu, wbD_firstFault_89 fu 0 hx hl Φ := by
  rw [CK_27] at h
  have k0 : OKX d n w hx 27 hx := ⟨hR, FX_r _, hk⟩
  have k1 : OKX d n w hx 27 (u2 hx 10 4 (scX d n w 2)) := OK_s k0 _
  have k2 : OKX d n w hx 27 (ndX (u2 hx 10 4 (scX d n w 2)) 0 (NW d n w 3) (bI (TN d w 3)) (ns d (NW d n w 3))) := OK_d k1 _ _ _ _
  have k3 : OKX d n w hx 27 (ndX (ndX (u2 hx 10 4 (scX d n w 2)) 0 (NW d n w 3) (bI (TN d w 3)) (ns d (NW d n w 3))) 1 (NW d n w 4) (bI (TN d w 4)) (ns d (NW d n w 4))) := OK_d k2 _ _ _ _
  refine runX3 hT.1 27 (by omega) 83 105 102 _ _ _ _ _ _ _ (by decide) (by decide) (by decide) (by decide) ?_ ?_ ?_ k0 k1 k2 k3 h
  · refine stS hT hW hI hR 83 True inferInstance (Or.inr (Or.inr (Or.inr (Or.inl ⟨rfl, fun q => ?_⟩)))) _ (by simp)
    exact Iff.rfl
  · intro b0
    have hs2 : 0 ≤ SW d n w 2 := of_decide_eq_true b0
    have hsx := Scx hW w hs2
    have hbP : decide (0 ≤ NW d n w 3 ∧ TN d w 3 = false ∧ d 5 (NW d n w 3).toNatClampNeg = 2 ∧ ns d (NW d n w 3) = (sc d (SW d n w 2).toNatClampNeg) ∧ hsq d (nI 27) (NW d n w 3) n = false) = (decide (0 ≤ NW d n w 3) && decide (TN d w 3 = false ∧ d 5 (NW d n w 3).toNatClampNeg = 2 ∧ (ns d (NW d n w 3)) = (sc d (SW d n w 2).toNatClampNeg) ∧ hsq d (nI 27) (nI (NW d n w 3).toNatClampNeg) n = false)) := by
      refine dEq ⟨fun q => ?_, fun q => ?_⟩
      · have hr := nsr hW w 3 (by first | exact q | exact q.1)
        try simp only [wdt, hr.2.2.2] at q ⊢
        first | exact ⟨q, trivial⟩ | exact q | (refine ⟨q.1, ?_⟩; omega) | (refine ⟨q.1, ?_⟩; split at q <;> omega) | (refine ⟨q.1, q.2.1, ?_⟩; simpa using q.2.2) | (obtain ⟨q1, q2, q3⟩ := q; refine ⟨q1, ?_⟩; split at q3 <;> split at q3 <;> omega)
      · have hr := nsr hW w 3 q.1
        try simp only [wdt, hr.2.2.2] at q ⊢
        first | exact q.1 | exact q | exact ⟨q.1, q.2, Or.inl trivial⟩ | exact ⟨q.1, q.2, Or.inl rfl⟩ | (refine ⟨q.1, ?_, ?_⟩ <;> omega) | (refine ⟨q.1, q.2.1, ?_⟩; simpa using q.2.2) | (obtain ⟨q1, q2⟩ := q; refine ⟨q1, by omega, ?_⟩; split <;> split <;> omega) | (obtain ⟨q1, q2⟩ := q; refine ⟨q1, by omega, ?_⟩; split <;> omega)
    refine stD hT hW hI k1.1 105 3 (by omega) 0 (sc d (SW d n w 2).toNatClampNeg) 1 (by rw [gs_7]; exact h7) (by omega) (by omega) (by omega) (Or.inl (by rw [gs_4, hsx.1])) (fun q => absurd q (by decide)) _ (decide (TN d w 3 = false ∧ d 5 (NW d n w 3).toNatClampNeg = 2 ∧ (ns d (NW d n w 3)) = (sc d (SW d n w 2).toNatClampNeg) ∧ hsq d (nI 27) (nI (NW d n w 3).toNatClampNeg) n = false)) hbP (fun q => Or.inr (Or.inr (Or.inr (Or.inr (Or.inr (Or.inr (Or.inr (Or.inr (Or.inr (Or.inl ⟨rfl, rfl⟩)))))))))) (by decide)
  · intro b0 b1
    have hs2 : 0 ≤ SW d n w 2 := of_decide_eq_true b0
    have hsx := Scx hW w hs2
    have hbP : decide (0 ≤ NW d n w 4 ∧ ns d (NW d n w 4) = (sc d (SW d n w 2).toNatClampNeg) ∧ (27 = 28 ∨ FR d (NW d n w 4).toNatClampNeg = false)) = (decide (0 ≤ NW d n w 4) && decide ((ns d (NW d n w 4)) = (sc d (SW d n w 2).toNatClampNeg) ∧ FR d (NW d n w 4).toNatClampNeg = false)) := by
      refine dEq ⟨fun q => ?_, fun q => ?_⟩
      · have hr := nsr hW w 4 (by first | exact q | exact q.1)
        try simp only [wdt, hr.2.2.2] at q ⊢
        first | exact ⟨q, trivial⟩ | exact q | (refine ⟨q.1, ?_⟩; omega) | (refine ⟨q.1, ?_⟩; split at q <;> omega) | (refine ⟨q.1, q.2.1, ?_⟩; simpa using q.2.2) | (obtain ⟨q1, q2, q3⟩ := q; refine ⟨q1, ?_⟩; split at q3 <;> split at q3 <;> omega)
      · have hr := nsr hW w 4 q.1
        try simp only [wdt, hr.2.2.2] at q ⊢
        first | exact q.1 | exact q | exact ⟨q.1, q.2, Or.inl trivial⟩ | exact ⟨q.1, q.2, Or.inl rfl⟩ | (refine ⟨q.1, ?_, ?_⟩ <;> omega) | (refine ⟨q.1, q.2.1, ?_⟩; simpa using q.2.2) | (obtain ⟨q1, q2⟩ := q; refine ⟨q1, by omega, ?_⟩; split <;> split <;> omega) | (obtain ⟨q1, q2⟩ := q; refine ⟨q1, by omega, ?_⟩; split <;> omega)
    refine stD hT hW hI k2.1 102 4 (by omega) 1 (sc d (SW d n w 2).toNatClampNeg) 1 (gd_7 _ _ _ _ _) (by omega) (by omega) (by omega) (Or.inl (by rw [gd_4, gs_4, hsx.1])) (fun q => absurd q (by decide)) _ (decide ((ns d (NW d n w 4)) = (sc d (SW d n w 2).toNatClampNeg) ∧ FR d (NW d n w 4).toNatClampNeg = false)) hbP (fun q => Or.inr (Or.inr (Or.inr (Or.inr (Or.inr (Or.inr (Or.inr (Or.inr (Or.inr (Or.inr (Or.inr (⟨rfl, rfl⟩)))))))))))) (by decide)
theorem CK_28 (d : HI) (n w : Nat) : CK d n w 28 = [decide (0 ≤ SW d n w 2), decide (0 ≤ NW d n w 3 ∧ TN d w 3 = false ∧ d 5 (NW d n w 3).toNatClampNeg = 2 ∧ ns d (NW d n w 3) = (sc d (SW d n w 2).toNatClampNeg) ∧ hsq d (nI 28) (NW d n w 3) n = false), decide (0 ≤ NW d n w 4 ∧ ns d (NW d n w 4) = (sc d (SW d n w 2).toNatClampNeg) ∧ (28 = 28 ∨ FR d (NW d n w 4).toNatClampNeg = false))] := by
  unfold CK; rw [if_neg (by omega), if_neg (by omega), if_neg (by omega), if_pos (by omega)]; rfl
noncomputable def zX_28 (d : HI) (n w : Nat) (hx : HI) : HI := (ndX (ndX (u2 hx 10 4 (scX d n w 2)) 0 (NW d n w 3) (bI (TN d w 3)) (ns d (NW d n w 3))) 1 (NW d n w 4) (bI (TN d w 4)) (ns d (NW d n w 4)))
theorem ffX_28 {d hx : HI} {n w : Nat} {hl : HL} {Φ : Int32 → HI → HL → Prop} (hT : TXw d w) (hW : WL d n) (hI : WI d n) (hR : RX d hx n w) (hk : hx 10 3 = nI 28) (h7 : hx 10 7 = nI 0) (h : ∀ r hx', PX d n w hx (CK d n w 28) (zX_28 d n w hx) r hx' → Φ r hx' hl) : ∃ fu, wbD_firstFault_89 fu 0 hx hl Φ := by
  rw [CK_28] at h
  have k0 : OKX d n w hx 28 hx := ⟨hR, FX_r _, hk⟩
  have k1 : OKX d n w hx 28 (u2 hx 10 4 (scX d n w 2)) := OK_s k0 _
  have k2 : OKX d n w hx 28 (ndX (u2 hx 10 4 (scX d n w 2)) 0 (NW d n w 3) (bI (TN d w 3)) (ns d (NW d n w 3))) := OK_d k1 _ _ _ _
  have k3 : OKX d n w hx 28 (ndX (ndX (u2 hx 10 4 (scX d n w 2)) 0 (NW d n w 3) (bI (TN d w 3)) (ns d (NW d n w 3))) 1 (NW d n w 4) (bI (TN d w 4)) (ns d (NW d n w 4))) := OK_d k2 _ _ _ _
  refine runX3 hT.1 28 (by omega) 83 120 115 _ _ _ _ _ _ _ (by decide) (by decide) (by decide) (by decide) ?_ ?_ ?_ k0 k1 k2 k3 h
  · refine stS hT hW hI hR 83 True inferInstance (Or.inr (Or.inr (Or.inr (Or.inl ⟨rfl, fun q => ?_⟩)))) _ (by simp)
    exact Iff.rfl
  · intro b0
    have hs2 : 0 ≤ SW d n w 2 := of_decide_eq_true b0
    have hsx := Scx hW w hs2
    have hbP : decide (0 ≤ NW d n w 3 ∧ TN d w 3 = false ∧ d 5 (NW d n w 3).toNatClampNeg = 2 ∧ ns d (NW d n w 3) = (sc d (SW d n w 2).toNatClampNeg) ∧ hsq d (nI 28) (NW d n w 3) n = false) = (decide (0 ≤ NW d n w 3) && decide (TN d w 3 = false ∧ d 5 (NW d n w 3).toNatClampNeg = 2 ∧ (ns d (NW d n w 3)) = (sc d (SW d n w 2).toNatClampNeg) ∧ hsq d (nI 28) (nI (NW d n w 3).toNatClampNeg) n = false)) := by
      refine dEq ⟨fun q => ?_, fun q => ?_⟩
      · have hr := nsr hW w 3 (by first | exact q | exact q.1)
        try simp only [wdt, hr.2.2.2] at q ⊢
        first | exact ⟨q, trivial⟩ | exact q | (refine ⟨q.1, ?_⟩; omega) | (refine ⟨q.1, ?_⟩; split at q <;> omega) | (refine ⟨q.1, q.2.1, ?_⟩; simpa using q.2.2) | (obtain ⟨q1, q2, q3⟩ := q; refine ⟨q1, ?_⟩; split at q3 <;> split at q3 <;> omega)
      · have hr := nsr hW w 3 q.1
        try simp only [wdt, hr.2.2.2] at q ⊢
        first | exact q.1 | exact q | exact ⟨q.1, q.2, Or.inl trivial⟩ | exact ⟨q.1, q.2, Or.inl rfl⟩ | (refine ⟨q.1, ?_, ?_⟩ <;> omega) | (refine ⟨q.1, q.2.1, ?_⟩; simpa using q.2.2) | (obtain ⟨q1, q2⟩ := q; refine ⟨q1, by omega, ?_⟩; split <;> split <;> omega) | (obtain ⟨q1, q2⟩ := q; refine ⟨q1, by omega, ?_⟩; split <;> omega)
    refine stD hT hW hI k1.1 120 3 (by omega) 0 (sc d (SW d n w 2).toNatClampNeg) 1 (by rw [gs_7]; exact h7) (by omega) (by omega) (by omega) (Or.inl (by rw [gs_4, hsx.1])) (fun q => absurd q (by decide)) _ (decide (TN d w 3 = false ∧ d 5 (NW d n w 3).toNatClampNeg = 2 ∧ (ns d (NW d n w 3)) = (sc d (SW d n w 2).toNatClampNeg) ∧ hsq d (nI 28) (nI (NW d n w 3).toNatClampNeg) n = false)) hbP (fun q => Or.inr (Or.inr (Or.inr (Or.inr (Or.inr (Or.inr (Or.inr (Or.inr (Or.inr (Or.inr (Or.inl ⟨rfl, rfl⟩))))))))))) (by decide)
  · intro b0 b1
    have hs2 : 0 ≤ SW d n w 2 := of_decide_eq_true b0
    have hsx := Scx hW w hs2
    have hbP : decide (0 ≤ NW d n w 4 ∧ ns d (NW d n w 4) = (sc d (SW d n w 2).toNatClampNeg) ∧ (28 = 28 ∨ FR d (NW d n w 4).toNatClampNeg = false)) = (decide (0 ≤ NW d n w 4) && decide ((ns d (NW d n w 4)) = (sc d (SW d n w 2).toNatClampNeg))) := by
      refine dEq ⟨fun q => ?_, fun q => ?_⟩
      · have hr := nsr hW w 4 (by first | exact q | exact q.1)
        try simp only [wdt, hr.2.2.2] at q ⊢
        first | exact ⟨q, trivial⟩ | exact q | (refine ⟨q.1, ?_⟩; omega) | (refine ⟨q.1, ?_⟩; split at q <;> omega) | (refine ⟨q.1, q.2.1, ?_⟩; simpa using q.2.2) | (obtain ⟨q1, q2, q3⟩ := q; refine ⟨q1, ?_⟩; split at q3 <;> split at q3 <;> omega)
      · have hr := nsr hW w 4 q.1
        try simp only [wdt, hr.2.2.2] at q ⊢
        first | exact q.1 | exact q | exact ⟨q.1, q.2, Or.inl trivial⟩ | exact ⟨q.1, q.2, Or.inl rfl⟩ | (refine ⟨q.1, ?_, ?_⟩ <;> omega) | (refine ⟨q.1, q.2.1, ?_⟩; simpa using q.2.2) | (obtain ⟨q1, q2⟩ := q; refine ⟨q1, by omega, ?_⟩; split <;> split <;> omega) | (obtain ⟨q1, q2⟩ := q; refine ⟨q1, by omega, ?_⟩; split <;> omega)
    refine stD hT hW hI k2.1 115 4 (by omega) 1 (sc d (SW d n w 2).toNatClampNeg) 1 (gd_7 _ _ _ _ _) (by omega) (by omega) (by omega) (Or.inl (by rw [gd_4, gs_4, hsx.1])) (fun q => absurd q (by decide)) _ (decide ((ns d (NW d n w 4)) = (sc d (SW d n w 2).toNatClampNeg))) hbP (fun q => Or.inr (Or.inr (Or.inl ⟨rfl, rfl⟩))) (by decide)
theorem CK_29 (d : HI) (n w : Nat) : CK d n w 29 = [AS d n w 2 1] := by
  unfold CK; rw [if_neg (by omega), if_neg (by omega), if_neg (by omega), if_neg (by omega)]
noncomputable def zX_29 (d : HI) (n w : Nat) (hx : HI) : HI := (ndX hx 0 (NW d n w 2) (bI (TN d w 2)) (ns d (NW d n w 2)))
theorem ffX_29 {d hx : HI} {n w : Nat} {hl : HL} {Φ : Int32 → HI → HL → Prop} (hT : TXw d w) (hW : WL d n) (hI : WI d n) (hR : RX d hx n w) (hk : hx 10 3 = nI 29) (h7 : hx 10 7 = nI 0) (h : ∀ r hx', PX d n w hx (CK d n w 29) (zX_29 d n w hx) r hx' → Φ r hx' hl) : ∃ fu, wbD_firstFault_89 fu 0 hx hl Φ := by
  rw [CK_29] at h
  have k0 : OKX d n w hx 29 hx := ⟨hR, FX_r _, hk⟩
  have k1 : OKX d n w hx 29 (ndX hx 0 (NW d n w 2) (bI (TN d w 2)) (ns d (NW d n w 2))) := OK_d k0 _ _ _ _
  refine runX1 hT.1 29 (by omega) 111 _ _ _ (by decide) (by decide) ?_ k0 k1 h
  · refine stD hT hW hI hR 111 2 (by omega) 0 1 1 h7 (by omega) (by omega) (by omega) (Or.inr rfl) (fun q => absurd q (by decide)) _ (decide (ns d (NW d n w 2) = 1)) dAnd (fun q => Or.inr (Or.inl ⟨rfl, rfl⟩)) (by decide)
theorem CK_30 (d : HI) (n w : Nat) : CK d n w 30 = [AS d n w 2 1] := by
  unfold CK; rw [if_neg (by omega), if_neg (by omega), if_neg (by omega), if_neg (by omega)]
noncomputable def zX_30 (d : HI) (n w : Nat) (hx : HI) : HI := (ndX hx 0 (NW d n w 2) (bI (TN d w 2)) (ns d (NW d n w 2)))
theorem ffX_30 {d hx : HI} {n w : Nat} {hl : HL} {Φ : Int32 → HI → HL → Prop} (hT : TXw d w) (hW : WL d n) (hI : WI d n) (hR : RX d hx n w) (hk : hx 10 3 = nI 30) (h7 : hx 10 7 = nI 0) (h : ∀ r hx', PX d n w hx (CK d n w 30) (zX_30 d n w hx) r hx' → Φ r hx' hl) : ∃ fu, wbD_firstFault_89 fu 0 hx hl Φ := by
  rw [CK_30] at h
  have k0 : OKX d n w hx 30 hx := ⟨hR, FX_r _, hk⟩
  have k1 : OKX d n w hx 30 (ndX hx 0 (NW d n w 2) (bI (TN d w 2)) (ns d (NW d n w 2))) := OK_d k0 _ _ _ _
  refine runX1 hT.1 30 (by omega) 111 _ _ _ (by decide) (by decide) ?_ k0 k1 h
  · refine stD hT hW hI hR 111 2 (by omega) 0 1 1 h7 (by omega) (by omega) (by omega) (Or.inr rfl) (fun q => absurd q (by decide)) _ (decide (ns d (NW d n w 2) = 1)) dAnd (fun q => Or.inr (Or.inl ⟨rfl, rfl⟩)) (by decide)
