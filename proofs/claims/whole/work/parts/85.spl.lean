/-! words of what is typed (printed by wip/whole/pure/split.py) -/
def spb (c : Nat → Int32) (k : Nat) : Bool := decide (¬ c k = 32) && (decide (k = 0) || decide (c (k - 1) = 32))
def spw (c : Nat → Int32) : Nat → Nat
  | 0 => 0
  | k + 1 => spw c k + (if spb c k = true then 1 else 0)
def spf (c f0 : Nat → Int32) : Nat → Nat → Int32
  | 0 => f0
  | k + 1 => fun j => if spb c k = true ∧ j = spw c k then nI k else spf c f0 k j
def spt (c t0 : Nat → Int32) : Nat → Nat → Int32
  | 0 => t0
  | k + 1 => fun j => if ¬ c k = 32 ∧ j = spw c (k + 1) - 1 then nI (k + 1) else spt c t0 k j
theorem spI (c f0 t0 : Nat → Int32) : ∀ k, 2 * spw c k ≤ k + 1 ∧ ((k = 0 ∨ c (k - 1) = 32) → 2 * spw c k ≤ k) ∧ (0 < k → ¬ c (k - 1) = 32 → 1 ≤ spw c k) ∧ ∀ j, j < spw c k → ∃ f t : Nat, spf c f0 k j = nI f ∧ spt c t0 k j = nI t ∧ f < t ∧ t ≤ k
  | 0 => ⟨by simp [spw], fun _ => by simp [spw], fun h => absurd h (by omega), fun j h => absurd h (by simp [spw])⟩
  | k + 1 => by
    obtain ⟨i1, i2, i3, i4⟩ := spI c f0 t0 k
    by_cases q : c k = 32
    · have b : spb c k = false := by simp [spb, q]
      have e : spw c (k + 1) = spw c k := by simp [spw, b]
      refine ⟨by omega, fun _ => by omega, fun _ h => absurd q (by simpa using h), fun j hj => ?_⟩
      obtain ⟨f, t, h1, h2, h3, h4⟩ := i4 j (by omega)
      exact ⟨f, t, by simp [spf, b, h1], by simp [spt, q, h2], h3, by omega⟩
    · by_cases s : k = 0 ∨ c (k - 1) = 32
      · have b : spb c k = true := by simp [spb, q]; exact s
        have e : spw c (k + 1) = spw c k + 1 := by simp [spw, b]
        have := i2 s
        refine ⟨by omega, fun h => ?_, fun _ _ => by omega, fun j hj => ?_⟩
        · rcases h with h | h
          · omega
          · exact absurd h (by simpa using q)
        · by_cases z : j = spw c k
          · exact ⟨k, k + 1, by simp [spf, b, z], by simp [spt, q, e, z], by omega, by omega⟩
          · obtain ⟨f, t, h1, h2, h3, h4⟩ := i4 j (by omega)
            exact ⟨f, t, by simp [spf, z, h1], by simp [spt, e, z, h2], h3, by omega⟩
      · have b : spb c k = false := by
          have s1 : ¬ k = 0 := fun x => s (Or.inl x)
          have s2 : ¬ c (k - 1) = 32 := fun x => s (Or.inr x)
          simp [spb, s1, s2]
        have e : spw c (k + 1) = spw c k := by simp [spw, b]
        have w1 := i3 (by omega) (fun x => s (Or.inr x))
        refine ⟨by omega, fun h => ?_, fun _ _ => by omega, fun j hj => ?_⟩
        · rcases h with h | h
          · omega
          · exact absurd h (by simpa using q)
        · obtain ⟨f, t, h1, h2, h3, h4⟩ := i4 j (by omega)
          by_cases z : j = spw c k - 1
          · exact ⟨f, k + 1, by simp [spf, b, h1], by simp [spt, q, e, z], by omega, by omega⟩
          · exact ⟨f, t, by simp [spf, b, h1], by simp [spt, e, z, h2], h3, by omega⟩
/-- the words do not hang on what stood there before -/
theorem sp_ind (c f0 t0 f1 t1 : Nat → Int32) : ∀ k j, j < spw c k → spf c f0 k j = spf c f1 k j ∧ spt c t0 k j = spt c t1 k j
  | 0, j, h => absurd h (by simp [spw])
  | k + 1, j, h => by
    by_cases z : j < spw c k
    · have := sp_ind c f0 t0 f1 t1 k j z
      refine ⟨?_, ?_⟩
      · simp only [spf, this.1]
      · simp only [spt, this.2]
    · have b : spb c k = true := by
        cases b : spb c k
        · simp [spw, b] at h; omega
        · rfl
      have e : spw c (k + 1) = spw c k + 1 := by simp [spw, b]
      have q : ¬ c k = 32 := by
        intro q; simp [spb, q] at b
      have z' : j = spw c k := by omega
      constructor
      · simp [spf, b, z']
      · simp [spt, q, e, z']

def SPM (hm : HI) (w : Nat) (f t : Nat → Int32) : HI := fun a b => if a = 0 ∧ b = 2 then nI w else if a = 2 then f b else if a = 3 then t b else hm a b
theorem SPM_w0 (hm : HI) (w : Nat) (f t : Nat → Int32) : SPM hm w f t 0 2 = nI w := by simp [SPM]
theorem SPM_n0 (hm : HI) (w : Nat) (f t : Nat → Int32) : SPM hm w f t 0 1 = hm 0 1 := by simp [SPM]
theorem SPM_c0 (hm : HI) (w : Nat) (f t : Nat → Int32) : SPM hm w f t 1 = hm 1 := by funext b; simp [SPM]
theorem SPM_f (hm : HI) (w : Nat) (f t : Nat → Int32) (k : Nat) (x : Int32) : u2 (SPM hm w f t) 2 k x = SPM hm w (fun j => if j = k then x else f j) t := by
  funext a b
  by_cases h : a = 2
  · subst h; by_cases h2 : b = k <;> simp [u2, SPM, h2]
  · simp [u2, SPM, h]
theorem SPM_w (hm : HI) (w w' : Nat) (f t : Nat → Int32) : u2 (SPM hm w f t) 0 2 (nI w') = SPM hm w' f t := by
  funext a b
  by_cases h : a = 0 ∧ b = 2
  · simp [u2, SPM, h]
  · simp [u2, SPM, h]
theorem SPM_t (hm : HI) (w : Nat) (f t : Nat → Int32) (k : Nat) (x : Int32) : u2 (SPM hm w f t) 3 k x = SPM hm w f (fun j => if j = k then x else t j) := by
  funext a b
  by_cases h : a = 3
  · subst h; by_cases h2 : b = k <;> simp [u2, SPM, h2]
  · simp [u2, SPM, h]
theorem SPM_0 (hm : HI) : u2 hm 0 2 0 = SPM hm 0 (hm 2) (hm 3) := by
  funext a b
  by_cases h : a = 0 ∧ b = 2
  · simp [u2, SPM, h, nI_0]
  · by_cases h2 : a = 2
    · subst h2; simp [u2, SPM]
    · by_cases h3 : a = 3
      · subst h3; simp [u2, SPM]
      · simp [u2, SPM, h, h2, h3]
theorem pM_split (hm : HI) (hl : HL) (Φ : HI → HL → Prop) (m : Nat) (hn : hm 0 1 = nI m) (hm40 : m ≤ 40) (h : Φ (u2 (SPM hm (spw (hm 1) m) (spf (hm 1) (hm 2) m) (spt (hm 1) (hm 3) m)) 0 1 0) hl) : wpM_split hm hl Φ := by
  unfold wpM_split wbM_split_0
  rw [SPM_0]
  refine loop_f (fun fu i s => wbM_split_7 fu (nI i) s hl Φ) (fun i => SPM hm (spw (hm 1) i) (spf (hm 1) (hm 2) i) (spt (hm 1) (hm 3) i)) m (fun k => ?_) (fun k i hk ih => ?_)
  · unfold wbM_split_7
    refine br_t (by rw [SPM_n0, hn]; exact nI_le (Nat.le_refl _) (by omega)) ?_
    exact h
  · obtain ⟨i1, i2, i3, i4⟩ := spI (hm 1) (hm 2) (hm 3) i
    unfold wbM_split_7 wbM_split_47 wbM_split_43
    rw [SPM_n0, SPM_c0, hn, nI_clamp (show i < 2 ^ 31 by omega)]
    have hv : vp_in (nI i) 40 := vp_in_nI (by omega) (by omega)
    refine br_f (nI_ge hk (by omega)) ⟨hv, ?_⟩
    have e1 : ∀ j, nI (j + 1) - 1 = nI j := fun j => nI_pred j
    by_cases q : hm 1 i = 32
    · refine br_t q ?_
      unfold wbM_split_48
      refine br_t rfl ?_
      unfold wbM_split_73 wbM_split_98
      rw [nI_n1, nI_1, SPM_c0, nI_clamp (by omega)]
      refine ⟨hv, br_t q ?_⟩
      have b : spb (hm 1) i = false := by simp [spb, q]
      have ew : spw (hm 1) (i + 1) = spw (hm 1) i := by simp [spw, b]
      have ef : spf (hm 1) (hm 2) (i + 1) = spf (hm 1) (hm 2) i := by funext j; simp [spf, b]
      have et : spt (hm 1) (hm 3) (i + 1) = spt (hm 1) (hm 3) i := by funext j; simp [spt, q]
      rw [ew, ef, et] at ih; exact ih
    · refine br_f q ?_
      have start : (i = 0 ∨ hm 1 (i - 1) = 32) → wbM_split_48 (fun v1 hi hl => wbM_split_7 k v1 hi hl Φ) (nI i) 1 (SPM hm (spw (hm 1) i) (spf (hm 1) (hm 2) i) (spt (hm 1) (hm 3) i)) hl Φ := fun s => by
        have s2 := i2 s
        have b : spb (hm 1) i = true := by simp [spb, q]; exact s
        have ew : spw (hm 1) (i + 1) = spw (hm 1) i + 1 := by simp [spw, b]
        unfold wbM_split_48
        refine br_f (by decide) ?_
        rw [SPM_w0, SPM_f, SPM_w0, nI_1, SPM_w, nI_clamp (by omega)]
        refine ⟨vp_in_nI (by omega) (by omega), ?_⟩
        unfold wbM_split_73 wbM_split_98
        rw [SPM_c0, nI_clamp (by omega), SPM_w0, e1, SPM_t, nI_clamp (by omega), nI_n1, nI_1]
        refine ⟨hv, br_f q ⟨vp_in_nI (by omega) (by omega), ?_⟩⟩
        have ef : spf (hm 1) (hm 2) (i + 1) = (fun j => if j = spw (hm 1) i then nI i else spf (hm 1) (hm 2) i j) := by funext j; simp [spf, b]
        have et : spt (hm 1) (hm 3) (i + 1) = (fun j => if j = spw (hm 1) i then nI (i + 1) else spt (hm 1) (hm 3) i j) := by funext j; simp [spt, q, ew]
        rw [ew, ef, et] at ih; exact ih
      refine pk_eq i 0 (fun i0 => start (Or.inl i0)) (fun i0 => ?_)
      have e2 : nI i - 1 = nI (i - 1) := by
        have : i = (i - 1) + 1 := by omega
        rw [this, nI_pred]; congr 1
      rw [e2, nI_clamp (show i - 1 < 2 ^ 31 by omega)]
      refine ⟨vp_in_nI (by omega) (by omega), br_c (fun s => start (Or.inr s)) (fun s => ?_)⟩
      unfold wbM_split_48
      refine br_t rfl ?_
      have b : spb (hm 1) i = false := by simp [spb, i0, s]
      have ew : spw (hm 1) (i + 1) = spw (hm 1) i := by simp [spw, b]
      have w1 := i3 (by omega) s
      unfold wbM_split_73 wbM_split_98
      have e3 : nI (spw (hm 1) i) - 1 = nI (spw (hm 1) i - 1) := by
        have : spw (hm 1) i = (spw (hm 1) i - 1) + 1 := by omega
        rw [this, nI_pred]; congr 1
      rw [SPM_c0, nI_clamp (by omega), SPM_w0, e3, SPM_t, nI_clamp (by omega), nI_n1, nI_1]
      refine ⟨hv, br_f q ⟨vp_in_nI (by omega) (by omega), ?_⟩⟩
      have ef : spf (hm 1) (hm 2) (i + 1) = spf (hm 1) (hm 2) i := by funext j; simp [spf, b]
      have et : spt (hm 1) (hm 3) (i + 1) = (fun j => if j = spw (hm 1) i - 1 then nI (i + 1) else spt (hm 1) (hm 3) i j) := by funext j; simp [spt, q, ew]
      rw [ew, ef, et] at ih; exact ih

def SPX (hm : HI) (w : Nat) (f t : Nat → Int32) : HI := fun a b => if a = 1 ∧ b = 4 then nI w else if a = 3 then f b else if a = 4 then t b else hm a b
theorem SPX_w0 (hm : HI) (w : Nat) (f t : Nat → Int32) : SPX hm w f t 1 4 = nI w := by simp [SPX]
theorem SPX_n0 (hm : HI) (w : Nat) (f t : Nat → Int32) : SPX hm w f t 1 3 = hm 1 3 := by simp [SPX]
theorem SPX_c0 (hm : HI) (w : Nat) (f t : Nat → Int32) : SPX hm w f t 2 = hm 2 := by funext b; simp [SPX]
theorem SPX_f (hm : HI) (w : Nat) (f t : Nat → Int32) (k : Nat) (x : Int32) : u2 (SPX hm w f t) 3 k x = SPX hm w (fun j => if j = k then x else f j) t := by
  funext a b
  by_cases h : a = 3
  · subst h; by_cases h2 : b = k <;> simp [u2, SPX, h2]
  · simp [u2, SPX, h]
theorem SPX_w (hm : HI) (w w' : Nat) (f t : Nat → Int32) : u2 (SPX hm w f t) 1 4 (nI w') = SPX hm w' f t := by
  funext a b
  by_cases h : a = 1 ∧ b = 4
  · simp [u2, SPX, h]
  · simp [u2, SPX, h]
theorem SPX_t (hm : HI) (w : Nat) (f t : Nat → Int32) (k : Nat) (x : Int32) : u2 (SPX hm w f t) 4 k x = SPX hm w f (fun j => if j = k then x else t j) := by
  funext a b
  by_cases h : a = 4
  · subst h; by_cases h2 : b = k <;> simp [u2, SPX, h2]
  · simp [u2, SPX, h]
theorem SPX_0 (hm : HI) : u2 hm 1 4 0 = SPX hm 0 (hm 3) (hm 4) := by
  funext a b
  by_cases h : a = 1 ∧ b = 4
  · simp [u2, SPX, h, nI_0]
  · by_cases h2 : a = 3
    · subst h2; simp [u2, SPX]
    · by_cases h3 : a = 4
      · subst h3; simp [u2, SPX]
      · simp [u2, SPX, h, h2, h3]
theorem pX_split (hm : HI) (hl : HL) (Φ : HI → HL → Prop) (m : Nat) (hn : hm 1 3 = nI m) (hm40 : m ≤ 40) (h : Φ (SPX hm (spw (hm 2) m) (spf (hm 2) (hm 3) m) (spt (hm 2) (hm 4) m)) hl) : wpT_split hm hl Φ := by
  unfold wpT_split wbT_split_0
  rw [SPX_0]
  refine loop_f (fun fu i s => wbT_split_7 fu (nI i) s hl Φ) (fun i => SPX hm (spw (hm 2) i) (spf (hm 2) (hm 3) i) (spt (hm 2) (hm 4) i)) m (fun k => ?_) (fun k i hk ih => ?_)
  · unfold wbT_split_7
    refine br_t (by rw [SPX_n0, hn]; exact nI_le (Nat.le_refl _) (by omega)) ?_
    exact h
  · obtain ⟨i1, i2, i3, i4⟩ := spI (hm 2) (hm 3) (hm 4) i
    unfold wbT_split_7 wbT_split_47 wbT_split_43
    rw [SPX_n0, SPX_c0, hn, nI_clamp (show i < 2 ^ 31 by omega)]
    have hv : vp_in (nI i) 40 := vp_in_nI (by omega) (by omega)
    refine br_f (nI_ge hk (by omega)) ⟨hv, ?_⟩
    have e1 : ∀ j, nI (j + 1) - 1 = nI j := fun j => nI_pred j
    by_cases q : hm 2 i = 32
    · refine br_t q ?_
      unfold wbT_split_48
      refine br_t rfl ?_
      unfold wbT_split_82 wbT_split_114
      rw [nI_n1, nI_1, SPX_c0, nI_clamp (by omega)]
      refine ⟨hv, br_t q ?_⟩
      have b : spb (hm 2) i = false := by simp [spb, q]
      have ew : spw (hm 2) (i + 1) = spw (hm 2) i := by simp [spw, b]
      have ef : spf (hm 2) (hm 3) (i + 1) = spf (hm 2) (hm 3) i := by funext j; simp [spf, b]
      have et : spt (hm 2) (hm 4) (i + 1) = spt (hm 2) (hm 4) i := by funext j; simp [spt, q]
      rw [ew, ef, et] at ih; exact ih
    · refine br_f q ?_
      have start : (i = 0 ∨ hm 2 (i - 1) = 32) → wbT_split_48 (fun v1 hi hl => wbT_split_7 k v1 hi hl Φ) (nI i) 1 (SPX hm (spw (hm 2) i) (spf (hm 2) (hm 3) i) (spt (hm 2) (hm 4) i)) hl Φ := fun s => by
        have s2 := i2 s
        have b : spb (hm 2) i = true := by simp [spb, q]; exact s
        have ew : spw (hm 2) (i + 1) = spw (hm 2) i + 1 := by simp [spw, b]
        unfold wbT_split_48
        refine br_f (by decide) ?_
        rw [SPX_w0, SPX_f, SPX_w0, nI_1, SPX_w, nI_clamp (by omega)]
        refine br_f (nI_ge (b := 20) (by omega) (by omega)) ⟨vp_in_nI (by omega) (by omega), ?_⟩
        unfold wbT_split_82 wbT_split_114
        rw [SPX_c0, nI_clamp (by omega), SPX_w0, e1, SPX_t, nI_clamp (by omega), nI_n1, nI_1]
        refine ⟨hv, br_f q (br_f (nI_nle (by omega) (by omega)) ⟨vp_in_nI (by omega) (by omega), ?_⟩)⟩
        have ef : spf (hm 2) (hm 3) (i + 1) = (fun j => if j = spw (hm 2) i then nI i else spf (hm 2) (hm 3) i j) := by funext j; simp [spf, b]
        have et : spt (hm 2) (hm 4) (i + 1) = (fun j => if j = spw (hm 2) i then nI (i + 1) else spt (hm 2) (hm 4) i j) := by funext j; simp [spt, q, ew]
        rw [ew, ef, et] at ih; exact ih
      refine pk_eq i 0 (fun i0 => start (Or.inl i0)) (fun i0 => ?_)
      have e2 : nI i - 1 = nI (i - 1) := by
        have : i = (i - 1) + 1 := by omega
        rw [this, nI_pred]; congr 1
      rw [e2, nI_clamp (show i - 1 < 2 ^ 31 by omega)]
      refine ⟨vp_in_nI (by omega) (by omega), br_c (fun s => start (Or.inr s)) (fun s => ?_)⟩
      unfold wbT_split_48
      refine br_t rfl ?_
      have b : spb (hm 2) i = false := by simp [spb, i0, s]
      have ew : spw (hm 2) (i + 1) = spw (hm 2) i := by simp [spw, b]
      have w1 := i3 (by omega) s
      unfold wbT_split_82 wbT_split_114
      have e3 : nI (spw (hm 2) i) - 1 = nI (spw (hm 2) i - 1) := by
        have : spw (hm 2) i = (spw (hm 2) i - 1) + 1 := by omega
        rw [this, nI_pred]; congr 1
      rw [SPX_c0, nI_clamp (by omega), SPX_w0, e3, SPX_t, nI_clamp (by omega), nI_n1, nI_1]
      refine ⟨hv, br_f q (br_f (nI_nle (by omega) (by omega)) ⟨vp_in_nI (by omega) (by omega), ?_⟩)⟩
      have ef : spf (hm 2) (hm 3) (i + 1) = spf (hm 2) (hm 3) i := by funext j; simp [spf, b]
      have et : spt (hm 2) (hm 4) (i + 1) = (fun j => if j = spw (hm 2) i - 1 then nI (i + 1) else spt (hm 2) (hm 4) i j) := by funext j; simp [spt, q, ew]
      rw [ew, ef, et] at ih; exact ih

