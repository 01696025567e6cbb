/-! the relation between the two states; line -/
def cbs (d : HI) (n : Nat) : Nat := tof d (chs d n) n
def plc (d : HI) (n D : Nat) : Nat := cbs d n + (D + 1) * tot d (nI 1) n
/-- the run that a number means, as far as step D -/
def RunOf (d : HI) (n V D : Nat) (σ ι : Nat → Nat) : Prop :=
  (∀ k, k < n → d 5 k = 2 → ∀ v, VR d n v → Sett d n v → (∀ k, k < n → fre d k → v k = 0) → fld d (σ 0) k = if chs d n k = true then V / 2 ^ (plc d n D - tof d (chs d n) (k + 1)) % 2 ^ bts (nk d k) else ivl d v n k) ∧
  (∀ t, t ≤ D → ∀ k, k < n → d 5 k = 1 → fld d (ι t) k = V / 2 ^ (plc d n D - cbs d n - t * tot d (nI 1) n - tot d (nI 1) (k + 1)) % 2 ^ bts (nk d k)) ∧
  (∀ t, t < D → ∀ v, Asg d n v (σ t) (ι t) → ∀ k, k < n → d 5 k = 2 → fld d (σ (t + 1)) k = nx d v n k) ∧
  ∀ t, t ≤ D → σ t < 2 ^ tot d (nI 2) n ∧ ι t < 2 ^ tot d (nI 1) n
def KP (d : HI) (n : Nat) (hm hx : HI) : Prop := (hm 0 25 = -1 ∧ hx 20 4 = 0) ∨ ∃ D V σ ι, D ≤ 3 ∧ hm 0 25 = nI D ∧ hm 0 26 = nI V ∧ V < 2 ^ 31 ∧ hx 20 4 = nI (D + 1) ∧ (∀ t, t ≤ D → hx 22 t = nI (σ t) ∧ hx 23 t = nI (ι t)) ∧ RunOf d n V D σ ι
def RelR (d : HI) (n : Nat) (hm hx : HI) (run : Bool) : Prop := hm 0 23 = bI run ∧ hx 0 4 = bI run ∧ (run = true → ∃ σ ι, hx 0 5 = nI σ ∧ hx 0 6 = nI ι ∧ σ < 2 ^ tot d (nI 2) n ∧ ι < 2 ^ tot d (nI 1) n ∧ FH d n hm (fun k => if d 5 k = 2 then fld d σ k else fld d ι k))
def RelTx (hm hx : HI) (m : Nat) : Prop := hm 0 1 = nI m ∧ hx 1 3 = nI m ∧ m ≤ 40 ∧ hx 2 = hm 1 ∧ hx 3 = hm 2 ∧ hx 4 = hm 3
def RelA (d : HI) (n : Nat) (hx : HI) (hl : HL) : Prop := WF d n ∧ WInc d n ∧ d 0 6 = nI n ∧ RXL d hx n ∧ TBL d n hx hl
def Rel (hm hx : HI) (hl : HL) : Prop := ∃ n m run, RelA hm n hx hl ∧ RelTx hm hx m ∧ RelR hm n hm hx run ∧ KP hm n hm hx
theorem chs_c {d d' : HI} {n : Nat} (h : EQL d d' n) {k : Nat} (hk : k < n) : chs d' n k = chs d n k := by
  unfold chs; rw [hsq_c h _ _ n (Nat.le_refl _), h 5 (by omega) (by omega) k hk]
theorem tof_c {d d' : HI} {n : Nat} (h : EQL d d' n) (hW : WL d n) : ∀ k, k ≤ n → tof d' (chs d' n) k = tof d (chs d n) k
  | 0, _ => rfl
  | k + 1, hk => by
    simp only [tof, tof_c h hW k (by omega), chs_c h (show k < n by omega)]
    by_cases q : chs d n k = true
    · rw [if_pos q, if_pos q]
      have e2 : d 5 k = 2 := by unfold chs at q; simp at q; exact q.1
      rw [nk_c h hW (by omega) (fre_2 e2).1]
    · rw [if_neg q, if_neg q]
theorem RunOf_c {d d' : HI} {n V D : Nat} {σ ι : Nat → Nat} (h : EQL d d' n) (hF : WF d n) (hR : RunOf d n V D σ ι) : RunOf d' n V D σ ι := by
  have hW := hF.1
  obtain ⟨r1, r2, r3, r4⟩ := hR
  have t1 := tot_c h hW (nI 1) (nod_nI (by omega) (by omega))
  have t2 := tot_c h hW (nI 2) (nod_nI (by omega) (by omega))
  have ecb : cbs d' n = cbs d n := tof_c h hW n (Nat.le_refl _)
  have ep : plc d' n D = plc d n D := by unfold plc; rw [ecb, t1 n (Nat.le_refl _)]
  refine ⟨fun k hk e2 v h1 h2 h3 => ?_, fun t ht k hk e1 => ?_, fun t ht v hA k hk e2 => ?_, fun t ht => ?_⟩
  · rw [h 5 (by omega) (by omega) k hk] at e2
    have hno := (fre_2 e2).1
    rw [fld_c h hW _ hk hno, chs_c h hk, ep, tof_c h hW (k + 1) (by omega), nk_c h hW hk hno, ivl_c h hF v n (Nat.le_refl _)]
    refine r1 k hk e2 v ((VR_c h hW).mp h1) (Sett_c h hF h2) (fun k hk hf => h3 k hk ?_)
    unfold fre; rw [h 5 (by omega) (by omega) k hk]; exact hf
  · rw [h 5 (by omega) (by omega) k hk] at e1
    have hno := (fre_1 e1).1
    rw [fld_c h hW _ hk hno, ep, ecb, t1 n (Nat.le_refl _), t1 (k + 1) (by omega), nk_c h hW hk hno]
    exact r2 t ht k hk e1
  · rw [h 5 (by omega) (by omega) k hk] at e2
    have hno := (fre_2 e2).1
    rw [fld_c h hW _ hk hno, nx_c h hF v n (Nat.le_refl _)]
    exact r3 t ht v (Asg_c h hF hA) k hk e2
  · rw [t1 n (Nat.le_refl _), t2 n (Nat.le_refl _)]; exact r4 t ht
theorem KP_c {d d' hm hm' hx hx' : HI} {n : Nat} (h : EQL d d' n) (hF : WF d n) (e25 : hm' 0 25 = hm 0 25) (e26 : hm' 0 26 = hm 0 26) (x20 : hx' 20 = hx 20) (x22 : hx' 22 = hx 22) (x23 : hx' 23 = hx 23) (hK : KP d n hm hx) : KP d' n hm' hx' := by
  unfold KP
  rw [e25, e26, x20, x22, x23]
  rcases hK with q | ⟨D, V, σ, ι, a1, a2, a3, a4, a5, a6, a7⟩
  · exact Or.inl q
  · exact Or.inr ⟨D, V, σ, ι, a1, a2, a3, a4, a5, a6, RunOf_c h hF a7⟩
theorem RelR_c {d d' hm hm' hx hx' : HI} {n : Nat} {run : Bool} (h : EQL d d' n) (hF : WF d n) (e23 : hm' 0 23 = hm 0 23) (e19 : hm' 19 = hm 19) (x0 : hx' 0 = hx 0) (hR : RelR d n hm hx run) : RelR d' n hm' hx' run := by
  have hW := hF.1
  have t1 := tot_c h hW (nI 1) (nod_nI (by omega) (by omega)) n (Nat.le_refl _)
  have t2 := tot_c h hW (nI 2) (nod_nI (by omega) (by omega)) n (Nat.le_refl _)
  obtain ⟨a1, a2, a3⟩ := hR
  refine ⟨by rw [e23]; exact a1, by rw [x0]; exact a2, fun q => ?_⟩
  obtain ⟨σ, ι, b1, b2, b3, b4, b5⟩ := a3 q
  refine ⟨σ, ι, by rw [x0]; exact b1, by rw [x0]; exact b2, by rw [t2]; exact b3, by rw [t1]; exact b4, fun k hk hf => ?_⟩
  have hf' : fre d k := by unfold fre at hf ⊢; rw [h 5 (by omega) (by omega) k hk] at hf; exact hf
  have := b5 k hk hf'
  dsimp only
  rw [e19, h 5 (by omega) (by omega) k hk, fld_c h hW σ hk hf'.1, fld_c h hW ι hk hf'.1, nk_c h hW hk hf'.1]
  exact this
theorem RelA_c {d d' hx hx' : HI} {hl : HL} {n : Nat} (h : EQL d d' n) (e6 : d' 0 6 = d 0 6) (x1 : ∀ k, k < 20 → hx' (24 + k) = hx (24 + k)) (x5 : hx' 5 = hx 5) (hA : RelA d n hx hl) : RelA d' n hx' hl := by
  obtain ⟨hF, hM, h6, hX, hT⟩ := hA
  have hn := hF.1.1
  exact ⟨WF_c h hF, WInc_c h hM, by rw [e6]; exact h6, RXL_x x1 x5 hn (RXL_c h hF hX), TBL_x x1 (fun _ _ => rfl) rfl rfl rfl hn (TBL_c h hF hT)⟩
theorem type_ok {hm hx : HI} {hl hlm : HL} (x y : Int32) (hR : Rel hm hx hl) : wpC_type x y hx hl (fun r hx' hl' => wpM_type x y hm hlm (fun r' hm' _ => r = r' ∧ Rel hm' hx' hl')) := by
  obtain ⟨n, m, run, hA, hT, hRn, hK⟩ := hR
  obtain ⟨m1, x3, m40, c1, c2, c3⟩ := hT
  refine pX_type x y m x3 m40 (fun q => ?_) (fun N n1 n4 h40 g e => ?_)
  · refine pM_type x y m m1 m40 (fun _ => ⟨rfl, n, m, run, hA, ⟨m1, x3, m40, c1, c2, c3⟩, hRn, hK⟩) (fun N n1 n4 h40 g e => absurd e (q N n1 n4 h40 g))
  · refine pM_type x y m m1 m40 (fun q => absurd e (q N n1 n4 h40 g)) (fun N' n1' n4' h40' g' e' => ?_)
    have : N' = N := (nI_eq (by omega) (by omega)).mp (e'.symm.trans e)
    subst this
    have hF := hA.1
    have hE : EQL hm (stM hm (tyf (hm 1) m N' x N') (m + N')) n := fun c h1 h2 k hk => by
      unfold stM; rw [if_neg (by omega), if_neg (by omega)]
    have s0 : ∀ s, s ≠ 1 → stM hm (tyf (hm 1) m N' x N') (m + N') 0 s = hm 0 s := fun s hs => by simp [stM, hs]
    have sc' : ∀ c, 2 ≤ c → stM hm (tyf (hm 1) m N' x N') (m + N') c = hm c := fun c hc => by
      funext b; unfold stM; rw [if_neg (by omega), if_neg (by omega)]
    have xc : ∀ c, c ≠ 1 → c ≠ 2 → stX hx (tyf (hx 2) m N' x N') (m + N') c = hx c := fun c h1 h2 => by
      funext b; unfold stX; rw [if_neg h2, if_neg (fun z => h1 z.1)]
    refine ⟨rfl, n, m + N', run, RelA_c hE (s0 6 (by decide)) (fun k _ => xc _ (by omega) (by omega)) (xc 5 (by decide) (by decide)) hA, ⟨by simp [stM], by simp [stX], h40, ?_, ?_, ?_⟩, RelR_c hE hF (s0 23 (by decide)) (sc' 19 (by omega)) (xc 0 (by decide) (by decide)) hRn, KP_c hE hF (s0 25 (by decide)) (s0 26 (by decide)) (xc 20 (by decide) (by decide)) (xc 22 (by decide) (by decide)) (xc 23 (by decide) (by decide)) hK⟩
    · funext b; simp [stX, stM, c1]
    · rw [xc 3 (by decide) (by decide), sc' 2 (by omega)]; exact c2
    · rw [xc 4 (by decide) (by decide), sc' 3 (by omega)]; exact c3
theorem lines_ok {hm hx : HI} {hl hlm : HL} (hR : Rel hm hx hl) : wpC_lines hx hl (fun r hx' hl' => wpM_lines hm hlm (fun r' hm' _ => r = r' ∧ Rel hm' hx' hl')) := by
  have hR' := hR
  obtain ⟨n, m, run, hA, hT, hRn, hK⟩ := hR
  unfold wpC_lines wbC_lines_0 wpM_lines wbM_lines_0
  exact ⟨by rw [hA.2.2.2.1.1, hA.2.2.1], hR'⟩
