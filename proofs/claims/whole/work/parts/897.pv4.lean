/-! M: steps of a run -/
/-- nothing but values (and the place for those of the step after) has changed -/
def G17 (hm hm' : HI) : Prop := ∀ c, c ≠ 17 → c ≠ 18 → hm' c = hm c
theorem G_r (hm : HI) : G17 hm hm := fun _ _ _ => rfl
theorem G_t {a b c : HI} (h : G17 a b) (k : G17 b c) : G17 a c := fun x h1 h2 => (k x h1 h2).trans (h x h1 h2)
theorem G_17 (hm : HI) (g : Nat → Int32) : G17 hm (s17 hm g) := fun c h _ => s17_c _ _ h
theorem G_18 (hm : HI) (g : Nat → Int32) : G17 hm (s18 hm g) := fun c _ h => s18_c _ _ h
theorem G_u (hm : HI) (k : Nat) (x : Int32) : G17 hm (u2 hm 17 k x) := fun c h _ => u2_cf _ _ _ h
theorem G_u8 (hm : HI) (k : Nat) (x : Int32) : G17 hm (u2 hm 18 k x) := fun c _ h => u2_cf _ _ _ h
theorem RL_G {d hm hm' : HI} {n : Nat} (h : RL d hm n) (g : G17 hm hm') : RL d hm' n :=
  ⟨by rw [g 0 (by decide) (by decide)]; exact h.1, fun c h1 h2 k hk => by rw [g c (by omega) (by omega)]; exact h.2 c h1 h2 k hk⟩
def fre (d : HI) (k : Nat) : Prop := nod (d 5 k) ∧ d 5 k ≤ 2
def FV (d : HI) (n : Nat) (hm : HI) (v : Nat → Nat) : Prop := ∀ k, k < n → fre d k → hm 17 k = nI (v k) ∧ v k < 2 ^ bts (nk d k)
def SV (d : HI) (n : Nat) (hm : HI) (v : Nat → Nat) : Prop := VL d hm n v ∧ VR d n v ∧ Sett d n v
theorem SV_FV {d : HI} {n : Nat} {hm : HI} {v : Nat → Nat} (h : SV d n hm v) : FV d n hm v := fun k hk hf => ⟨h.1 k hk hf.1, h.2.1 k hk hf.1⟩
theorem pM_settle' {d hm : HI} {n : Nat} {hl : HL} {Φ : HI → HL → Prop} (hF : WF d n) (hR : RL d hm n) (v : Nat → Nat) (hV : FV d n hm v) (h : ∀ v' hm', G17 hm hm' → SV d n hm' v' → (∀ k, k < n → fre d k → v' k = v k) → Φ hm' hl) : wpM_settle hm hl Φ :=
  pM_settle hF hR v (fun k hk hno hc => hV k hk ⟨hno, hc⟩) (fun v' g h1 h2 h3 h4 => h v' _ (G_17 hm g) ⟨fun k hk hno => by rw [s17_17]; exact h3 k hk hno, h1, h2⟩ (fun k hk hf => h4 k hk hf.1 hf.2))
theorem fre_1 {d : HI} {k : Nat} (h : d 5 k = 1) : fre d k := by
  unfold fre; rw [h]; exact ⟨⟨by decide, by decide⟩, by decide⟩
theorem fre_2 {d : HI} {k : Nat} (h : d 5 k = 2) : fre d k := by
  unfold fre; rw [h]; exact ⟨⟨by decide, by decide⟩, by decide⟩
theorem fre_c {d : HI} {k κ : Nat} (hκ : κ ≤ 30) (e : d 5 k = nI κ) (h : fre d k) : d 5 k = 1 ∨ d 5 k = 2 := by
  have a := (nod_κ hκ).mp (e ▸ h.1)
  have b : κ ≤ 2 := by
    have := h.2
    rw [e] at this
    exact (nI_leI (b := 2) (by omega) (by omega)).mp this
  have : κ = 1 ∨ κ = 2 := by omega
  rcases this with z | z <;> subst z
  · exact Or.inl e
  · exact Or.inr e
/-- settled values hang on those of inputs and states alone -/
theorem sett_u {d : HI} {n : Nat} {v v' : Nat → Nat} (hF : WF d n) (hV : VR d n v) (hV' : VR d n v') (hS : Sett d n v) (hS' : Sett d n v') (h : ∀ k, k < n → fre d k → v k = v' k) : ∀ k, k < n → nod (d 5 k) → v k = v' k := by
  obtain ⟨hW, hA, hI, hK⟩ := hF
  have hn := hW.1
  -- values that are no nodes' are taken as 0
  intro k
  induction k using Nat.strongRecOn with
  | ind k ih =>
    intro hk hno
    by_cases c : d 5 k ≤ 2
    · exact h k hk ⟨hno, c⟩
    · obtain ⟨κ, hκ, e5, hL⟩ := hK k hk
      have hkr : 3 ≤ κ ∧ κ ≤ 26 := by
        have a := (nod_κ hκ).mp (e5 ▸ hno)
        have b : ¬ κ ≤ 2 := fun z => c (by rw [e5]; exact (nI_leI (b := 2) (by omega) (by omega)).mpr z)
        omega
      have e : opK d v k = opK d v' k := by
        have cg : ∀ c, opr d k c → gv d v k c = gv d v' k c := fun c ho => by
          obtain ⟨i, hi, ei, hni, _⟩ := ho
          refine gv_congr ?_
          have : oix d k c = i := by unfold oix; rw [ei, nI_clamp (by omega)]
          rw [this]; exact ih i hi (by omega) hni
        exact opK_op (by omega) e5 hkr hL cg
      have a1 := hS k hk hno c
      have a2 := hS' k hk hno c
      rw [e, ← a2] at a1
      exact (nI_eq (by have := v_64 hW hV hk hno; omega) (by have := v_64 hW hV' hk hno; omega)).mp a1
/-- the step after: what a state's next says -/
def nx (d : HI) (v : Nat → Nat) : Nat → Nat → Nat
  | 0, k => v k
  | l + 1, k => if d 5 l = 28 ∧ oix d l 7 = k then gv d v l 8 else nx d v l k
