/-! low bits of an int -/
def LB (r : Int32) (y m : Nat) : Prop := ∀ i, i < m → r.toBitVec.getLsbD i = y.testBit i
theorem LB_0 (r : Int32) (m : Nat) : LB r r.toBitVec.toNat m := fun i _ => (BitVec.testBit_toNat r.toBitVec).symm
theorem sm_k : ∀ b, b ∈ List.range 32 → ((nI b &&& 31 : Int32).toBitVec.smod 32).toNat = b := by decide +kernel
theorem LB_s {r : Int32} {y m : Nat} (h : LB r y m) (hm : m ≤ 32) (b : Nat) (hb : b < 32) (hbm : b ≤ m) : LB (r >>> (nI b &&& 31)) (y / 2 ^ b) (m - b) := by
  intro i hi
  have e : (r >>> (nI b &&& 31)).toBitVec = r.toBitVec.sshiftRight b := by
    show r.toBitVec.sshiftRight ((nI b &&& 31 : Int32).toBitVec.smod 32).toNat = _
    rw [sm_k b (List.mem_range.mpr hb)]
  rw [e, BitVec.getLsbD_sshiftRight, if_pos (by omega), Nat.testBit_div_two_pow, Nat.add_comm i b, ← h (b + i) (by omega)]
  have : (decide (32 ≤ i)) = false := decide_eq_false (by omega)
  rw [this]; rfl
theorem mk_k : ∀ b, b ∈ List.range 31 → ((1 : Int32) <<< (nI b &&& 31) - 1).toBitVec.toNat = 2 ^ b - 1 := by decide +kernel
theorem LB_m {r : Int32} {y m : Nat} (h : LB r y m) (b : Nat) (hb : b < 31) (hbm : b ≤ m) : r &&& ((1 : Int32) <<< (nI b &&& 31) - 1) = nI (y % 2 ^ b) := by
  rw [pk_and r b (mk_k b (List.mem_range.mpr hb))]
  congr 1
  refine Nat.eq_of_testBit_eq (fun i => ?_)
  rw [Nat.testBit_mod_two_pow, Nat.testBit_mod_two_pow]
  by_cases c : i < b
  · rw [BitVec.testBit_toNat, h i (by omega)]
  · simp [c]
/-! M: constraints, bads -/
def hld (d : HI) (v : Nat → Nat) : Nat → Bool
  | 0 => true
  | k + 1 => hld d v k && decide (¬ d 5 k = 30 ∨ gv d v k 7 = 1)
def bdd (d : HI) (v : Nat → Nat) : Nat → Bool
  | 0 => false
  | k + 1 => bdd d v k || decide (d 5 k = 29 ∧ gv d v k 7 = 1)
theorem op29 {d : HI} {n : Nat} (hF : WF d n) {l : Nat} (hl : l < n) (κ : Nat) (hκ : κ = 29 ∨ κ = 30) (e : d 5 l = nI κ) : opr d l 7 ∧ nk d (oix d l 7) = 1 := by
  obtain ⟨hW, hA, hI, hK⟩ := hF
  have hn := hW.1
  obtain ⟨κ', hκ', e', hL⟩ := hK l hl
  have : κ' = κ := (nI_eq (by omega) (by omega)).mp (e'.symm.trans e)
  subst this
  obtain ⟨l1, l3, lA, l8, lB, lC, l45, l6, lbin, l17, l18, l20, l21, l22, l24, l25, l26, l27, l29⟩ := hL
  refine l29 ?_
  clear l1 l3 lA l8 lB lC l45 l6 lbin l17 l18 l20 l21 l22 l24 l25 l26 l27 l29
  omega
theorem gv1 {d : HI} {n : Nat} {v : Nat → Nat} (hF : WF d n) (hV : VR d n v) {l : Nat} (hl : l < n) (κ : Nat) (hκ : κ = 29 ∨ κ = 30) (e : d 5 l = nI κ) : gv d v l 7 < 2 := by
  obtain ⟨ho, h1⟩ := op29 hF hl κ hκ e
  have := gv_lt hF.1 (fun i hi hni => hV i (by omega) hni) (show l ≤ n by omega) ho
  rw [h1] at this
  exact this
theorem pM_holds {d hm : HI} {n : Nat} {hl : HL} {Φ : Int32 → HI → HL → Prop} (hF : WF d n) (hR : RL d hm n) (v : Nat → Nat) (hS : SV d n hm v) (h : Φ (bI (hld d v n)) hm hl) : wpM_holds hm hl Φ := by
  have hW := hF.1
  have hn := hW.1
  unfold wpM_holds wbM_holds_0
  refine loop_f (fun fu i s => wbM_holds_4 fu s (nI i) hm hl Φ) (fun i => bI (hld d v i)) n (fun k => ?_) (fun k i hi ih => ?_)
  · unfold wbM_holds_4
    exact br_t (by rw [hR.1]; exact nI_le (Nat.le_refl _) (by omega)) ⟨bI_01 _, h⟩
  · unfold wbM_holds_4 wbM_holds_47 wbM_holds_51 wbM_holds_52
    have hv : vp_in (nI i) 21 := vp_in_nI (by omega) (by omega)
    rw [nI_clamp (by omega), hR.2 5 (by omega) (by omega) i hi, hR.2 7 (by omega) (by omega) i hi, hR.2 10 (by omega) (by omega) i hi, nI_n1, nI_1]
    refine br_f (by rw [hR.1]; exact nI_ge hi (by omega)) (br_c (fun q => ?_) (fun q => ⟨hv, br_c (fun q2 => ⟨hv, hv, ?_⟩) (fun q2 => ?_)⟩))
    · rw [bI_0] at q
      have : hld d v (i + 1) = false := by simp [hld, q]
      rw [this] at ih; exact ih
    · rw [bI_ne] at q
      obtain ⟨ho, h1⟩ := op29 hF hi 30 (Or.inr rfl) q2
      have g1 := gv1 hF hS.2.1 hi 30 (Or.inr rfl) q2
      refine pM_getO hW hR i 7 (fun k hk hno => hS.1 k (by omega) hno) (fun k hk hno => hS.2.1 k (by omega) hno) (by omega) ho ?_
      refine pk_eq (gv d v i 7) 1 (fun z => ?_) (fun z => ?_)
      · have : hld d v (i + 1) = true := by simp [hld, q, z]
        rw [this] at ih; exact ih
      · have : hld d v (i + 1) = false := by simp [hld, q2, z]
        rw [this] at ih; exact ih
    · rw [bI_ne] at q
      have : hld d v (i + 1) = true := by simp [hld, q, q2]
      rw [this] at ih; exact ih
theorem pM_isBad {d hm : HI} {n : Nat} {hl : HL} {Φ : Int32 → HI → HL → Prop} (hF : WF d n) (hR : RL d hm n) (v : Nat → Nat) (hS : SV d n hm v) (h : Φ (bI (bdd d v n)) hm hl) : wpM_isBad hm hl Φ := by
  have hW := hF.1
  have hn := hW.1
  unfold wpM_isBad wbM_isBad_0
  refine loop_f (fun fu i s => wbM_isBad_4 fu s (nI i) hm hl Φ) (fun i => bI (bdd d v i)) n (fun k => ?_) (fun k i hi ih => ?_)
  · unfold wbM_isBad_4
    exact br_t (by rw [hR.1]; exact nI_le (Nat.le_refl _) (by omega)) ⟨bI_01 _, h⟩
  · unfold wbM_isBad_4 wbM_isBad_47 wbM_isBad_51 wbM_isBad_52
    have hv : vp_in (nI i) 21 := vp_in_nI (by omega) (by omega)
    rw [nI_clamp (by omega), hR.2 5 (by omega) (by omega) i hi, hR.2 7 (by omega) (by omega) i hi, hR.2 10 (by omega) (by omega) i hi, nI_n1, nI_1]
    refine br_f (by rw [hR.1]; exact nI_ge hi (by omega)) (br_c (fun q => ⟨hv, br_c (fun q2 => ⟨hv, hv, ?_⟩) (fun q2 => ?_)⟩) (fun q => ?_))
    · rw [bI_0] at q
      obtain ⟨ho, h1⟩ := op29 hF hi 29 (Or.inl rfl) q2
      have g1 := gv1 hF hS.2.1 hi 29 (Or.inl rfl) q2
      refine pM_getO hW hR i 7 (fun k hk hno => hS.1 k (by omega) hno) (fun k hk hno => hS.2.1 k (by omega) hno) (by omega) ho ?_
      refine pk_eq (gv d v i 7) 1 (fun z => ?_) (fun z => ?_)
      · have : bdd d v (i + 1) = true := by simp [bdd, q2, z]
        rw [this] at ih; exact ih
      · have : bdd d v (i + 1) = false := by simp [bdd, q, z]
        rw [this] at ih; exact ih
    · rw [bI_0] at q
      have : bdd d v (i + 1) = false := by simp [bdd, q, q2]
      rw [this] at ih; exact ih
    · rw [bI_ne] at q
      have : bdd d v (i + 1) = true := by simp [bdd, q]
      rw [this] at ih; exact ih
/-! M: dealing -/
def chs (d : HI) (n k : Nat) : Bool := decide (d 5 k = 2) && ! hsq d (nI 27) (nI k) n
theorem RL_RC {d hm : HI} {n : Nat} (h : RL d hm n) : RC (fun c k => if c = 0 ∨ c = 1 ∨ c = 2 ∨ c = 3 then hm c k else d c k) hm n 0 ∨ True := Or.inr trivial
theorem pM_hasR {d hm : HI} {n : Nat} {hl : HL} {Φ : Int32 → HI → HL → Prop} (hW : WL d n) (hR : RL d hm n) (what x : Int32) (h : Φ (bI (hsq d what x n)) hm hl) : wpM_has what x hm hl Φ := by
  have hn := hW.1
  unfold wpM_has wbM_has_0
  refine loop_f (fun fu i s => wbM_has_5 fu what x s (nI i) hm hl Φ) (fun i => bI (hsq d what x i)) n (fun k => ?_) (fun k i hk ih => ?_)
  · unfold wbM_has_5
    exact br_t (by rw [hR.1]; exact nI_le (Nat.le_refl _) (by omega)) ⟨bI_01 _, h⟩
  · unfold wbM_has_5 wbM_has_40 wbM_has_44 wbM_has_45
    have hv : vp_in (nI i) 21 := vp_in_nI (by omega) (by omega)
    refine br_f (by rw [hR.1]; exact nI_ge hk (by omega)) ?_
    simp only [nI_clamp (show i < 2 ^ 31 by omega), nI_n1, nI_1, hR.2 5 (by omega) (by omega) i hk, hR.2 7 (by omega) (by omega) i hk]
    refine br_c (fun e => ⟨hv, ?_⟩) (fun e => ?_)
    · rw [bI_0] at e
      refine br_c (fun e1 => ⟨hv, br_c (fun e2 => ?_) (fun e2 => ?_)⟩) (fun e1 => ?_)
      · have : hsq d what x (i + 1) = true := by simp [hsq, e1, e2]
        rw [this] at ih; exact ih
      · have : hsq d what x (i + 1) = false := by simp [hsq, e, e2]
        rw [this] at ih; exact ih
      · have : hsq d what x (i + 1) = false := by simp [hsq, e, e1]
        rw [this] at ih; exact ih
    · rw [bI_ne] at e
      have : hsq d what x (i + 1) = true := by simp [hsq, e]
      rw [this] at ih; exact ih
theorem pM_chosen {d hm : HI} {n : Nat} {hl : HL} {Φ : Int32 → HI → HL → Prop} (hW : WL d n) (hR : RL d hm n) (k : Nat) (hk : k < n) (h : Φ (bI (chs d n k)) hm hl) : wpM_chosen (nI k) hm hl Φ := by
  have hn := hW.1
  unfold wpM_chosen wbM_chosen_0 wbM_chosen_24
  rw [nI_clamp (by omega), hR.2 5 (by omega) (by omega) k hk]
  refine ⟨vp_in_nI (by omega) (by omega), br_c (fun q => ?_) (fun q => ⟨i01_0, ?_⟩)⟩
  · refine pM_hasR hW hR 27 (nI k) ?_
    refine br_c (fun z => ⟨i01_1, ?_⟩) (fun z => ⟨i01_0, ?_⟩)
    · rw [bI_0] at z
      have : chs d n k = true := by unfold chs; rw [decide_eq_true q]; show (! hsq d 27 (nI k) n) = true; rw [z]; rfl
      rw [this] at h; exact h
    · rw [bI_ne] at z
      have : chs d n k = false := by unfold chs; rw [decide_eq_true q]; show (! hsq d 27 (nI k) n) = false; rw [z]; rfl
      rw [this] at h; exact h
  · have : chs d n k = false := by unfold chs; rw [decide_eq_false q]; rfl
    rw [this] at h; exact h
theorem pM_bitsR {d hm : HI} {n : Nat} {hl : HL} {Φ : Int32 → HI → HL → Prop} (hW : WL d n) (hR : RL d hm n) (k : Nat) (hk : k < n) (hno : nod (d 5 k)) : wpM_bits (d 6 k) hm hl Φ = Φ (nI (bts (nk d k))) hm hl := by
  have hn := hW.1
  obtain ⟨s, hs, es, e5, e, _⟩ := nkf hW hk hno
  unfold wpM_bits wbM_bits_0
  rw [es, nI_clamp (by omega), hR.2 15 (by omega) (by omega) s hs, hR.2 16 (by omega) (by omega) s hs, e]
  have hv : vp_in (nI s) 21 := vp_in_nI (by omega) (by omega)
  rcases sc_cases hW hs e5 with ⟨a, b, c, e⟩ | ⟨a, b, c, e⟩
  · simp [hv, a, b, bts, show sc d s ≤ 4 by omega]
  · have e2 : (2 : Int32) * nI (sc d s - 4) = nI (2 * (sc d s - 4)) := pk_mul 2 _
    simp [hv, a, b, bts, show ¬ sc d s ≤ 4 by omega, e2]
/-- bits of the lines before k that take -/
def tof (d : HI) (T : Nat → Bool) : Nat → Nat
  | 0 => 0
  | k + 1 => tof d T k + (if T k = true then bts (nk d k) else 0)
theorem tof_le {d : HI} {T : Nat → Bool} : ∀ {a b : Nat}, a ≤ b → tof d T a ≤ tof d T b
  | a, 0, h => by have : a = 0 := by omega
                  subst this; exact Nat.le_refl _
  | a, b + 1, h => by
    by_cases e : a = b + 1
    · subst e; exact Nat.le_refl _
    · have := tof_le (d := d) (T := T) (show a ≤ b by omega)
      simp only [tof]; omega
def dl (d : HI) (T : Nat → Bool) (y : Nat) (v : Nat → Nat) (k : Nat) : Nat := if T k = true then y / 2 ^ tof d T k % 2 ^ bts (nk d k) else v k
theorem pM_deal {d hm : HI} {n : Nat} {hl : HL} {Φ : HI → HL → Prop} (hF : WF d n) (hR : RL d hm n) (st : Bool) (T : Nat → Bool) (hT : T = fun k => if st = true then chs d n k else decide (d 5 k = 1)) (hT6 : tof d T n ≤ 6) (x : Int32) (v : Nat → Nat) (hV : ∀ k, k < n → fre d k → T k = false → hm 17 k = nI (v k) ∧ v k < 2 ^ bts (nk d k))
    (h : ∀ v' hm', G17 hm hm' → SV d n hm' v' → (∀ k, k < n → fre d k → v' k = dl d T x.toBitVec.toNat v k) → Φ hm' hl) : wpM_deal x (bI st) hm hl Φ := by
  have hW := hF.1
  have hn := hW.1
  have hTn : ∀ k, k < n → T k = true → fre d k := fun k hk q => by
    rw [hT] at q
    cases st
    · simp at q; exact fre_1 q
    · simp [chs] at q; exact fre_2 q.1
  unfold wpM_deal wbM_deal_0
  refine loop_0 (fun fu i (s : Int32 × HI) => wbM_deal_5 fu (bI st) s.1 (nI i) s.2 hl Φ) (fun i s => ∃ g, s.2 = s17 hm g ∧ LB s.1 (x.toBitVec.toNat / 2 ^ tof d T i) (32 - tof d T i) ∧ ∀ k, k < n → fre d k → (k < i ∨ T k = false) → g k = nI (dl d T x.toBitVec.toNat v k)) n (x, hm) ⟨hm 17, (s17_s hm).symm, by simp only [tof, Nat.pow_zero, Nat.div_one]; exact LB_0 x _, fun k hk hf hc => ?_⟩ (fun m s hs => ?_) (fun m i s hi hs ih => ?_)
  · have q := hc.resolve_left (by omega)
    unfold dl; rw [q, if_neg (by decide)]; exact (hV k hk hf q).1
  · obtain ⟨g, e, _, hg⟩ := hs
    rw [e]
    have hRg : RL d (s17 hm g) n := RL_17 hR g
    unfold wbM_deal_5
    refine br_t (by rw [hRg.1]; exact nI_le (Nat.le_refl _) (by omega)) ?_
    refine pM_settle' hF hRg (dl d T x.toBitVec.toNat v) (fun k hk hf => ⟨by rw [s17_17]; exact hg k hk hf (Or.inl hk), ?_⟩) (fun v' hm' g1 hS hv => h v' hm' (G_t (G_17 hm g) g1) hS hv)
    unfold dl
    split
    · exact Nat.mod_lt _ (Nat.two_pow_pos _)
    · rename_i q; exact (hV k hk hf (by simpa using q)).2
  · obtain ⟨g, e, hB, hg⟩ := hs
    rw [e]
    have hRg : RL d (s17 hm g) n := RL_17 hR g
    have hv : vp_in (nI i) 21 := vp_in_nI (by omega) (by omega)
    have hci : (nI i).toNatClampNeg = i := nI_clamp (by omega)
    have r43 : ∀ b, b = T i → wbM_deal_43 (fun v2 v3 v4 hi hl => wbM_deal_5 m v2 v3 v4 hi hl Φ) (bI st) s.1 (nI i) (bI b) (s17 hm g) hl Φ := fun b hb => by
      unfold wbM_deal_43 wbM_deal_83
      rw [hci, hRg.2 6 (by omega) (by omega) i hi, nI_n1, nI_1]
      cases b
      · refine br_t rfl (ih (s.1, s17 hm g) ⟨g, rfl, ?_, fun k hk hf hc => hg k hk hf ?_⟩)
        · simp only [tof, ← hb]; exact hB
        · by_cases z : k = i
          · subst z; exact Or.inr hb.symm
          · exact hc.imp (fun y => by omega) id
      · have hf := hTn i hi hb.symm
        have ht := tof_le (d := d) (T := T) (show i + 1 ≤ n by omega)
        have hs1 : tof d T (i + 1) = tof d T i + bts (nk d i) := by simp only [tof, ← hb, if_true]
        rw [pM_bitsR hW hRg i hi hf.1, s17_u]
        refine br_f (by decide) ⟨hv, hv, ih (_, _) ⟨_, rfl, ?_, fun k hk hf' hc => ?_⟩⟩
        · have := LB_s hB (by omega) (bts (nk d i)) (by omega) (by omega)
          rw [hs1]
          rw [Nat.div_div_eq_div_mul, ← Nat.pow_add] at this
          have e2 : 32 - tof d T i - bts (nk d i) = 32 - (tof d T i + bts (nk d i)) := by omega
          rw [e2] at this; exact this
        · by_cases z : k = i
          · subst z
            simp only [if_true]
            rw [LB_m hB _ (by omega) (by omega)]
            unfold dl; rw [← hb, if_pos rfl]
          · simp only [if_neg z]
            exact hg k hk hf' (hc.imp (fun y => by omega) id)
    unfold wbM_deal_5
    rw [hci, hRg.2 5 (by omega) (by omega) i hi]
    refine br_f (by rw [hRg.1]; exact nI_ge hi (by omega)) (br_c (fun q => ⟨hv, ?_⟩) (fun q => ?_))
    · rw [bI_0] at q
      have hTi : T i = decide (d 5 i = 1) := by rw [hT, q]; rfl
      refine br_c (fun z => ?_) (fun z => ?_)
      · exact r43 true (by rw [hTi]; exact (decide_eq_true z).symm)
      · exact r43 false (by rw [hTi]; exact (decide_eq_false z).symm)
    · rw [bI_ne] at q
      have hTi : T i = chs d n i := by rw [hT, q]; rfl
      refine pM_chosen hW hRg i hi ?_
      exact r43 _ hTi.symm
