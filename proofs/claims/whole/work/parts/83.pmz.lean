/-! M: a whole line -/
def hrd (d : HI) : Nat → Nat
  | 0 => 0
  | k + 1 => hrd d k + (if (12 ≤ d 5 k ∧ d 5 k ≤ 14) then 1 else 0)
theorem hrd_le (d : HI) : ∀ k, hrd d k ≤ k
  | 0 => Nat.le_refl _
  | k + 1 => by
    have := hrd_le d k
    simp only [hrd]; split <;> omega
theorem kfold_cases (P : Int32 → Prop) (v : Int64) : ∀ (l : List (Int64 × Int32)) (q : Int32), P q → (∀ p, p ∈ l → P p.2) → P (kfold v q l)
  | [], q, h, _ => h
  | p :: l, q, h, hl => by
    rw [kfold_c]
    refine kfold_cases P v l _ ?_ (fun p' hp' => hl p' (List.mem_cons_of_mem _ hp'))
    split
    · exact hl p List.mem_cons_self
    · exact h
noncomputable def KO (d : HI) (w : Nat) : Int32 := kfold (LTR d w 1) (-1) kcs
theorem KO_cases (d : HI) (w : Nat) : KO d w = -1 ∨ ∃ κ, κ ≤ 30 ∧ KO d w = nI κ := by
  unfold KO
  refine kfold_cases (fun x => x = -1 ∨ ∃ κ, κ ≤ 30 ∧ x = nI κ) _ kcs (-1) (Or.inl rfl) (fun p hp => ?_)
  have : ∀ p ∈ kcs, ∃ κ, κ ∈ List.range 31 ∧ p.2 = nI κ := by decide
  obtain ⟨κ, h1, h2⟩ := this p hp
  exact Or.inr ⟨κ, by have := List.mem_range.mp h1; omega, h2⟩
def ask (κ : Nat) : Nat := if κ = 6 ∨ κ = 17 ∨ κ = 18 ∨ κ = 19 then 1 else if κ = 26 then 3 else if κ = 24 then 0 else 2
theorem pM_asked (κ : Nat) (hκ : κ ≤ 30) (hm : HI) (hl : HL) (Φ : Int32 → HI → HL → Prop) (h : Φ (nI (ask κ)) hm hl) : wpM_asked (nI κ) hm hl Φ := by
  unfold wpM_asked wbM_asked_0 wbM_asked_24
  refine pk_eq κ 6 (fun e => ?_) (fun e6 => pk_eq κ 17 (fun e => ?_) (fun e7 => pk_eq κ 18 (fun e => ?_) (fun e8 => pk_eq κ 19 (fun e => ?_) (fun e9 => pk_eq κ 26 (fun e => ?_) (fun e26 => pk_eq κ 24 (fun e => ?_) (fun e24 => ?_))))))
  · subst e; exact h
  · subst e; exact h
  · subst e; exact h
  · subst e; exact h
  · subst e; exact h
  · subst e; exact h
  · have : ask κ = 2 := by unfold ask; rw [if_neg (by omega), if_neg e26, if_neg e24]
    rw [this] at h; exact h
def Sok (κ c : Nat) : Prop := if κ = 24 then True else if κ = 26 then ¬ c ≤ 4 else if κ = 6 ∨ κ = 17 ∨ κ = 18 ∨ κ = 19 then c = 1 else c ≤ 4
noncomputable def SokB (κ c : Nat) : Bool := @decide (Sok κ c) (Classical.propDecidable _)
noncomputable def C2 (d : HI) (n w κ : Nat) : Bool := decide (0 ≤ SW d n w 2) && SokB κ (sc d (SW d n w 2).toNatClampNeg)
noncomputable def CK (d : HI) (n w κ : Nat) : List Bool :=
  if κ = 0 then CKs d n w else if κ ≤ 2 then CKt d n w κ else if κ ≤ 26 then C2 d n w κ :: CKr d n w κ (SW d n w 2).toNatClampNeg else if κ ≤ 28 then CKi d n w κ else [AS d n w 2 1]
noncomputable def FN (d : HI) (n w κ : Nat) (f : Nat → Int32) : Nat → Int32 :=
  if κ = 0 then FNs d n w f else if κ ≤ 2 then f1 f 6 (SW d n w 2) else if κ ≤ 26 then FNr d n w κ (f1 f 6 (SW d n w 2)) else if κ ≤ 28 then fB d n w 4 (f1 f 7 (NW d n w 3)) else fA d n w 2 f
def fI (f : Nat → Int32) : Nat → Int32 := fun c => if 7 ≤ c ∧ c ≤ 9 then -1 else if 10 ≤ c ∧ c ≤ 12 then 0 else f c
theorem FNr_m (d : HI) (n w κ : Nat) {f f' : Nat → Int32} (e : ∀ c, 4 ≤ c → c ≤ 16 → f c = f' c) : ∀ c, 4 ≤ c → c ≤ 16 → FNr d n w κ f c = FNr d n w κ f' c := by
  intro c h1 h2
  unfold FNr fA fB fC
  split
  · exact f1_m _ _ e c h1 h2
  split
  · exact f2_m _ _ _ _ e c h1 h2
  split
  · exact f2_m _ _ _ _ (f2_m _ _ _ _ e) c h1 h2
  split
  · exact f1_m _ _ (f1_m _ _ (f2_m _ _ _ _ e)) c h1 h2
  split
  · exact f2_m _ _ _ _ e c h1 h2
  split
  · exact f2_m _ _ _ _ (f2_m _ _ _ _ (f2_m _ _ _ _ e)) c h1 h2
  split
  · exact f2_m _ _ _ _ (f2_m _ _ _ _ e) c h1 h2
  · exact f2_m _ _ _ _ (f2_m _ _ _ _ (f2_m _ _ _ _ e)) c h1 h2
theorem FN_m (d : HI) (n w κ : Nat) {f f' : Nat → Int32} (e : ∀ c, 4 ≤ c → c ≤ 16 → f c = f' c) : ∀ c, 4 ≤ c → c ≤ 16 → FN d n w κ f c = FN d n w κ f' c := by
  intro c h1 h2
  unfold FN
  split
  · unfold FNs
    split
    · exact f1_m _ _ (f1_m _ _ e) c h1 h2
    · exact f1_m _ _ (f1_m _ _ e) c h1 h2
  split
  · exact f1_m _ _ e c h1 h2
  split
  · exact FNr_m _ _ _ _ (f1_m _ _ e) c h1 h2
  split
  · exact f2_m _ _ _ _ (f1_m _ _ e) c h1 h2
  · exact f2_m _ _ _ _ e c h1 h2
/-- behind the second word -/
theorem pM_rl2 {d hm : HI} {n w : Nat} {hl : HL} {Φ : Int32 → HI → HL → Prop} (hT : TXw d w) (hW : WL d n) (hA : WA d n) (hR : RC d hm n w) (h5 : hm 0 5 = nI 1) (κ : Nat) (hκ : κ ≤ 30)
    (h : ∀ b hm', Po d n w (u2 hm 0 5 (nI 2)) (CK d n w κ) 2 (FN d n w κ (fI (fun c => hm c n))) b hm' → Φ (bI b) hm' hl) : wbM_readLine_152 (nI κ) 1 hm hl Φ := by
  have hn := hW.1
  have hv : vp_in (nI n) 21 := vp_in_nI (by omega) (by omega)
  have hc : (nI n).toNatClampNeg = n := nI_clamp (by omega)
  unfold wbM_readLine_152
  refine on_1 h5 (br_f (by decide) ?_)
  have f6 : hm 0 6 = nI n := hR.1
  simp (decide := true) only [u2_s, u2_c, u2_j, f6, hc, vn_0]
  refine ⟨hv, hv, hv, hv, hv, hv, ?_⟩
  have hR1 : RC d (u2 hm 0 5 (nI 2)) n w := RC_s hR 5 _ (by decide) (by decide)
  have hRZ : RC d (u2 (u2 (u2 (u2 (u2 (u2 (u2 hm 0 5 (nI (1 + 1))) 7 n (-1)) 8 n (-1)) 9 n (-1)) 10 n 0) 11 n 0) 12 n 0) n w := RC_l (RC_l (RC_l (RC_l (RC_l (RC_l hR1 7 n _ (by omega) (Nat.le_refl _)) 8 n _ (by omega) (Nat.le_refl _)) 9 n _ (by omega) (Nat.le_refl _)) 10 n _ (by omega) (Nat.le_refl _)) 11 n _ (by omega) (Nat.le_refl _)) 12 n _ (by omega) (Nat.le_refl _)
  have FZ : Fm (u2 hm 0 5 (nI 2)) (u2 (u2 (u2 (u2 (u2 (u2 (u2 hm 0 5 (nI (1 + 1))) 7 n (-1)) 8 n (-1)) 9 n (-1)) 10 n 0) 11 n 0) 12 n 0) := Fm_t (Fm_t (Fm_t (Fm_t (Fm_t (Fm_c _ 7 n _ (by omega) (by omega)) (Fm_c _ 8 n _ (by omega) (by omega))) (Fm_c _ 9 n _ (by omega) (by omega))) (Fm_c _ 10 n _ (by omega) (by omega))) (Fm_c _ 11 n _ (by omega) (by omega))) (Fm_c _ 12 n _ (by omega) (by omega))
  have g5 : (u2 (u2 (u2 (u2 (u2 (u2 (u2 hm 0 5 (nI (1 + 1))) 7 n (-1)) 8 n (-1)) 9 n (-1)) 10 n 0) 11 n 0) 12 n 0) 0 5 = nI 2 := by
    simp (decide := true) only [u2_s, u2_c]
  have mZ : ∀ c, 4 ≤ c → c ≤ 16 → (u2 (u2 (u2 (u2 (u2 (u2 (u2 hm 0 5 (nI (1 + 1))) 7 n (-1)) 8 n (-1)) 9 n (-1)) 10 n 0) 11 n 0) 12 n 0) c n = fI (fun c => hm c n) c := by
    intro c h1 h2
    unfold fI
    simp only [u2_ap, and_true]
    by_cases c12 : c = 12
    · subst c12; simp
    by_cases c11 : c = 11
    · subst c11; simp
    by_cases c10 : c = 10
    · subst c10; simp
    by_cases c9 : c = 9
    · subst c9; simp
    by_cases c8 : c = 8
    · subst c8; simp
    by_cases c7 : c = 7
    · subst c7; simp
    rw [if_neg c12, if_neg c11, if_neg c10, if_neg c9, if_neg c8, if_neg c7, if_neg (by omega), if_neg (by omega), if_neg (by omega)]
  generalize hZ : (u2 (u2 (u2 (u2 (u2 (u2 (u2 hm 0 5 (nI (1 + 1))) 7 n (-1)) 8 n (-1)) 9 n (-1)) 10 n 0) 11 n 0) 12 n 0) = Z at hRZ FZ g5 mZ ⊢
  have h' : ∀ b hm', Po d n w Z (CK d n w κ) 2 (FN d n w κ (fun c => Z c n)) b hm' → i01 (bI b) ∧ Φ (bI b) hm' hl := fun b hm' hp => by
    refine ⟨bI_01 _, h b hm' ?_⟩
    have := Po_m hp (FN_m d n w κ mZ)
    exact ⟨this.1, this.2.1, this.2.2.1, Fm_t FZ this.2.2.2.1, this.2.2.2.2⟩
  refine pk_eq κ 0 (fun k0 => ?_) (fun k0 => ?_)
  · have e1 : CK d n w κ = CKs d n w := by unfold CK; rw [if_pos k0]
    have e2 : ∀ f, FN d n w κ f = FNs d n w f := fun f => by unfold FN; rw [if_pos k0]
    rw [e1, e2] at h'
    exact pM_readSort hT hW hRZ g5 (fun b hm' hp => ⟨bI_01 _, h' b hm' hp⟩)
  · have rst : (κ = 1 ∨ κ = 2) → wbM_readLine_239 (nI κ) Z hl Φ := fun k => by
      have e1 : CK d n w κ = CKt d n w κ := by unfold CK; rw [if_neg k0, if_pos (by omega)]
      have e2 : ∀ f, FN d n w κ f = f1 f 6 (SW d n w 2) := fun f => by unfold FN; rw [if_neg k0, if_pos (by omega)]
      rw [e1, e2] at h'
      unfold wbM_readLine_239
      exact pM_readState hT hW hRZ g5 κ k (fun b hm' hp => ⟨bI_01 _, h' b hm' hp⟩)
    have rin : (κ = 27 ∨ κ = 28) → wbM_readLine_257 (nI κ) Z hl Φ := fun k => by
      have e1 : CK d n w κ = CKi d n w κ := by unfold CK; rw [if_neg k0, if_neg (by omega), if_neg (by omega), if_pos (by omega)]
      have e2 : ∀ f, FN d n w κ f = fB d n w 4 (f1 f 7 (NW d n w 3)) := fun f => by unfold FN; rw [if_neg k0, if_neg (by omega), if_neg (by omega), if_pos (by omega)]
      rw [e1, e2] at h'
      unfold wbM_readLine_257
      exact pM_readInit hT hW hA hRZ g5 κ k (fun b hm' hp => ⟨bI_01 _, h' b hm' hp⟩)
    refine pk_eq κ 1 (fun k => rst (Or.inl k)) (fun k1 => pk_eq κ 2 (fun k => rst (Or.inr k)) (fun k2 => pk_eq κ 27 (fun k => rin (Or.inl k)) (fun k27 => pk_eq κ 28 (fun k => rin (Or.inr k)) (fun k28 => pk_lt κ 29 (fun k => ?_) (fun k => ?_)))))
    · have kr : 3 ≤ κ ∧ κ ≤ 26 := by omega
      have e1 : CK d n w κ = C2 d n w κ :: CKr d n w κ (SW d n w 2).toNatClampNeg := by unfold CK; rw [if_neg k0, if_neg (by omega), if_pos (by omega)]
      have e2 : ∀ f, FN d n w κ f = FNr d n w κ (f1 f 6 (SW d n w 2)) := fun f => by unfold FN; rw [if_neg k0, if_neg (by omega), if_pos (by omega)]
      rw [e1, e2] at h'
      refine pM_sortWord hT hn hRZ 2 (by omega) g5 ?_
      rw [hRZ.1, hc]
      refine ⟨hv, ?_⟩
      refine pM_asked κ hκ _ _ _ ?_
      have hR6 : RC d (u2 Z 6 n (SW d n w 2)) n w := RC_l hRZ 6 n _ (by omega) (Nat.le_refl _)
      have g5' : u2 Z 6 n (SW d n w 2) 0 5 = nI 2 := by rw [u2_c _ _ _ _ (by decide)]; exact g5
      have no : C2 d n w κ = false → wbM_readLine_357 (nI κ) (SW d n w 2) (u2 Z 6 n (SW d n w 2)) hl Φ := fun q => by
        unfold wbM_readLine_357 wbM_readLine_358 wbM_readLine_383
        rw [q] at h'
        exact on_0 g5' (br_t rfl (h' false _ (Po_f (RC_s hR6 5 _ (by decide) (by decide)) (Fm_t (Fm_c _ _ _ _ (by omega) (by omega)) (Fm_5 _ _)) (u2_s _ _ _ _))))
      refine br_c (fun z => no ?_) (fun z => ?_)
      · have : ¬ 0 ≤ SW d n w 2 := by rw [i32_nle]; exact z
        unfold C2; rw [decide_eq_false this]; rfl
      · obtain ⟨s, hs, es, e5, ec, ev⟩ := swf hW w 2 (nlt0 z)
        have hr := sc_r hW hs e5
        have c2 : C2 d n w κ = SokB κ (sc d s) := by unfold C2; rw [decide_eq_true (nlt0 z), ec]; rfl
        have yes : Sok κ (sc d s) → (κ ≠ 24 → κ ≠ 26 → sc d s ≤ 4) → wbM_readLine_353 (nI κ) (SW d n w 2) (u2 Z 6 n (SW d n w 2)) hl Φ := fun q q4 => by
          unfold wbM_readLine_353 wbM_readLine_358 wbM_readLine_383
          have c2t : C2 d n w κ = true := by rw [c2]; exact @decide_eq_true _ (Classical.propDecidable _) q
          rw [c2t, ec] at h'
          refine on_1 g5' (br_f (by decide) ?_)
          have hR7 : RC d (u2 (u2 Z 6 n (SW d n w 2)) 0 5 (nI (2 + 1))) n w := RC_s hR6 5 _ (by decide) (by decide)
          have eqr : ∀ hm1 hl1 Ψ, wpM_readRest (nI κ) (SW d n w 2) hm1 hl1 Ψ = wpM_readRest (nI κ) (nI s) hm1 hl1 Ψ := fun hm1 hl1 Ψ => by rw [← es]
          rw [eqr]
          refine pM_readRest hT hW hR7 (u2_s _ _ _ _) s hs e5 ?_ κ kr q4 (fun b hm' hp => ?_)
          · rw [u2_c _ _ _ _ (by decide), u2_s, es]
          · have hp' := Po_m hp (FNr_m d n w κ (f' := f1 (fun c => Z c n) 6 (SW d n w 2)) (st_m _ _ _ _ _))
            have := h' b hm' (Po_c (Fm_t (Fm_c _ _ _ _ (by omega) (by omega)) (Fm_5 _ _)) hp')
            refine ⟨bI_01 _, br_c (fun y => ?_) (fun y => ?_)⟩
            · rw [bI_0] at y; rw [y] at this; exact this
            · rw [bI_ne] at y; rw [y] at this; exact this
        have noS : ¬ Sok κ (sc d s) → wbM_readLine_357 (nI κ) (SW d n w 2) (u2 Z 6 n (SW d n w 2)) hl Φ := fun q => no (by rw [c2]; exact @decide_eq_false _ (Classical.propDecidable _) q)
        have r15 : u2 Z 6 n (SW d n w 2) 15 (SW d n w 2).toNatClampNeg = d 15 s := by rw [ec, hR6.2.2.2.2.2 15 (by omega) (by omega) s hs]
        have r16 : u2 Z 6 n (SW d n w 2) 16 (SW d n w 2).toNatClampNeg = nI (wdt (sc d s)) := by rw [ec, hR6.2.2.2.2.2 16 (by omega) (by omega) s hs, sc_w hW hs e5]
        have eqb : ∀ hm1 hl1 Ψ, wpM_isBits (SW d n w 2) hm1 hl1 Ψ = wpM_isBits (nI s) hm1 hl1 Ψ := fun hm1 hl1 Ψ => by rw [← es]
        have a4 : ask κ ≤ 3 := by unfold ask; split; omega; split; omega; split <;> omega
        refine pk_eq (ask κ) 0 (fun a => ?_) (fun a => pk_eq (ask κ) 3 (fun a3 => ⟨ev, ?_⟩) (fun a3 => ?_))
        · have k24 : κ = 24 := by
            unfold ask at a
            split at a
            · omega
            split at a
            · omega
            split at a
            · assumption
            · omega
          refine yes ?_ (fun q _ => absurd k24 q)
          unfold Sok; rw [if_pos k24]; trivial
        · have k26 : κ = 26 := by
            unfold ask at a3
            split at a3
            · omega
            split at a3
            · assumption
            split at a3 <;> omega
          have sk : Sok κ (sc d s) = ¬ sc d s ≤ 4 := by unfold Sok; rw [if_neg (by omega), if_pos k26]
          rw [r15, sc_b hW hs e5]
          refine br_c (fun y => noS ?_) (fun y => yes ?_ (fun _ q => absurd k26 q))
          · rw [sk]; exact fun x => x y
          · rw [sk]; exact y
        · have k4 : κ ≠ 24 ∧ κ ≠ 26 := by
            constructor
            · intro k; subst k; exact a rfl
            · intro k; subst k; exact a3 rfl
          rw [eqb, pM_isBits hW hR6 s hs e5]
          refine br_c (fun y => noS ?_) (fun y => pk_eq (ask κ) 2 (fun a2 => ?_) (fun a2 => ⟨ev, ?_⟩))
          · rw [bI_0, decide_eq_false_iff_not] at y
            unfold Sok; rw [if_neg k4.1, if_neg k4.2]
            split <;> omega
          · rw [bI_ne, decide_eq_true_eq] at y
            refine yes ?_ (fun _ _ => y)
            unfold Sok; rw [if_neg k4.1, if_neg k4.2]
            unfold ask at a2
            split at a2
            · omega
            · rename_i q; rw [if_neg q]; exact y
          · rw [bI_ne, decide_eq_true_eq] at y
            have sk : Sok κ (sc d s) = (sc d s = 1) := by
              unfold Sok; rw [if_neg k4.1, if_neg k4.2]
              unfold ask at a2
              split at a2
              · rename_i q; rw [if_pos q]
              · rw [if_neg k4.2, if_neg k4.1] at a2; exact absurd rfl a2
            have w1 : wdt (sc d s) = sc d s := by unfold wdt; rw [if_pos y]
            rw [r16, w1]
            refine pk_eq (sc d s) 1 (fun x => yes (by rw [sk]; exact x) (fun _ _ => y)) (fun x => noS (by rw [sk]; exact x)) rfl rfl (by omega) (by omega)
    · have e1 : CK d n w κ = [AS d n w 2 1] := by unfold CK; rw [if_neg k0, if_neg (by omega), if_neg (by omega), if_neg (by omega)]
      have e2 : ∀ f, FN d n w κ f = fA d n w 2 f := fun f => by unfold FN; rw [if_neg k0, if_neg (by omega), if_neg (by omega), if_neg (by omega)]
      rw [e1, e2] at h'
      refine pM_bitsA hT hW hRZ 2 (by omega) g5 1 (by omega) (AS d n w 2 1) ?_ (h' _ _ (Po_rd 7 10 (by omega) (by omega) (by omega) (by omega) hRZ))
      unfold AS
      rw [decide_eq_decide]
      constructor
      · exact fun x => ⟨x.1, by omega, Or.inr x.2⟩
      · exact fun x => ⟨x.1, x.2.2.resolve_left (by decide)⟩
