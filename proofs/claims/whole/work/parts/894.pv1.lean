/-! values: what a line's node is worth, as M reckons it -/
def sgn (v w : Int32) : Int32 := if v < (1 : Int32) <<< ((w - 1) &&& 31) then v else v - (1 : Int32) <<< (w &&& 31)
def elm (v i w : Int32) : Int32 := if i = 0 then v &&& ((1 : Int32) <<< (w &&& 31) - 1) else v >>> (w &&& 31)
def opM (κ : Nat) (w wide wb l u x y z : Int32) : Int32 :=
  if κ = 3 then u
  else if κ = 4 then ((1 : Int32) <<< (w &&& 31) - 1) - x
  else if κ = 5 then (-x) &&& ((1 : Int32) <<< (w &&& 31) - 1)
  else if κ = 6 then (if x = 0 then 0 else 1)
  else if κ = 7 then x &&& y
  else if κ = 8 then x ||| y
  else if κ = 9 then x ^^^ y
  else if κ = 10 then (x + y) &&& ((1 : Int32) <<< (w &&& 31) - 1)
  else if κ = 11 then (x - y) &&& ((1 : Int32) <<< (w &&& 31) - 1)
  else if κ = 12 then (x * y) &&& ((1 : Int32) <<< (w &&& 31) - 1)
  else if κ = 13 then (if y = 0 then ((1 : Int32) <<< (w &&& 31) - 1) else x / y)
  else if κ = 14 then (if y = 0 then x else x - x / y * y)
  else if κ = 15 then (x <<< (y &&& 31)) &&& ((1 : Int32) <<< (w &&& 31) - 1)
  else if κ = 16 then x >>> (y &&& 31)
  else if κ = 17 then (if x = y then 1 else 0)
  else if κ = 18 then (if y ≤ x then 0 else 1)
  else if κ = 19 then (if sgn y wide ≤ sgn x wide then 0 else 1)
  else if κ = 20 then (x <<< (wb &&& 31)) + y
  else if κ = 21 then (x >>> (l &&& 31)) &&& ((1 : Int32) <<< (w &&& 31) - 1)
  else if κ = 22 then x
  else if κ = 23 then sgn x wide &&& ((1 : Int32) <<< (w &&& 31) - 1)
  else if κ = 24 then (if z = 1 then x else y)
  else if κ = 25 then elm x y w
  else (if y = 0 then z else elm x 0 w) + ((if y = 1 then z else elm x 1 w) <<< (w &&& 31))
/-- the number of a line's sort -/
def nk (d : HI) (k : Nat) : Nat := sc d (d 6 k).toNatClampNeg
/-- an operand of a line: a node before it -/
def opr (d : HI) (k c : Nat) : Prop := ∃ i, i < k ∧ d c k = nI i ∧ nod (d 5 i) ∧ ∃ t : Bool, d (c + 3) k = bI t ∧ (t = true → nk d i ≤ 4)
def oix (d : HI) (k c : Nat) : Nat := (d c k).toNatClampNeg
/-- what is known of a line of the kind κ -/
def LK (d : HI) (κ k : Nat) : Prop :=
  (κ = 1 → nk d k ≤ 4) ∧
  (κ = 3 → nk d k ≤ 4 ∧ d 7 k = -1 ∧ d 8 k = -1 ∧ ∃ u, u < 2 ^ nk d k ∧ d 13 k = nI u) ∧
  (4 ≤ κ → κ ≤ 26 → opr d k 7) ∧
  (4 ≤ κ ∧ κ ≤ 6 ∨ 21 ≤ κ ∧ κ ≤ 23 → d 8 k = -1) ∧
  (7 ≤ κ ∧ κ ≤ 20 ∨ 24 ≤ κ ∧ κ ≤ 28 → opr d k 8) ∧
  (κ = 24 ∨ κ = 26 → opr d k 9) ∧
  (κ = 4 ∨ κ = 5 → nk d k ≤ 4 ∧ nk d (oix d k 7) = nk d k) ∧
  (κ = 6 → nk d k = 1 ∧ nk d (oix d k 7) ≤ 4) ∧
  (7 ≤ κ → κ ≤ 16 → nk d k ≤ 4 ∧ nk d (oix d k 7) = nk d k ∧ nk d (oix d k 8) = nk d k) ∧
  (κ = 17 → nk d k = 1 ∧ nk d (oix d k 8) = nk d (oix d k 7)) ∧
  (κ = 18 ∨ κ = 19 → nk d k = 1 ∧ nk d (oix d k 7) ≤ 4 ∧ nk d (oix d k 8) = nk d (oix d k 7)) ∧
  (κ = 20 → nk d k ≤ 4 ∧ nk d (oix d k 7) < nk d k ∧ nk d (oix d k 8) = nk d k - nk d (oix d k 7)) ∧
  (κ = 21 → nk d k ≤ 4 ∧ nk d (oix d k 7) ≤ 4 ∧ ∃ U l, d 14 k = nI l ∧ U < nk d (oix d k 7) ∧ U + 1 = nk d k + l) ∧
  (κ = 22 ∨ κ = 23 → nk d k ≤ 4 ∧ nk d (oix d k 7) ≤ nk d k) ∧
  (κ = 24 → nk d (oix d k 9) = 1 ∧ nk d (oix d k 7) = nk d k ∧ nk d (oix d k 8) = nk d k) ∧
  (κ = 25 → nk d k ≤ 4 ∧ nk d (oix d k 7) = 4 + nk d k ∧ nk d (oix d k 8) = 1) ∧
  (κ = 26 → 5 ≤ nk d k ∧ nk d (oix d k 7) = nk d k ∧ nk d (oix d k 8) = 1 ∧ nk d (oix d k 9) = nk d k - 4) ∧
  (κ = 27 ∨ κ = 28 → (∃ a, a < k ∧ d 7 k = nI a ∧ d 5 a = 2 ∧ hsq d (nI κ) (nI a) k = false) ∧ nk d (oix d k 8) = nk d (oix d k 7) ∧ (κ = 27 → FR d (oix d k 8) = false)) ∧
  (29 ≤ κ → opr d k 7 ∧ nk d (oix d k 7) = 1)
def WF (d : HI) (n : Nat) : Prop := WL d n ∧ WA d n ∧ WI d n ∧ ∀ k, k < n → ∃ κ, κ ≤ 30 ∧ d 5 k = nI κ ∧ LK d κ k
/-- values in range -/
def VR (d : HI) (n : Nat) (v : Nat → Nat) : Prop := ∀ k, k < n → nod (d 5 k) → v k < 2 ^ bts (nk d k)
/-- an operand's value, turned over if it has a - -/
def gv (d : HI) (v : Nat → Nat) (k c : Nat) : Nat := if d (c + 3) k = 0 then v (oix d k c) else 2 ^ nk d (oix d k c) - 1 - v (oix d k c)
/-- the value of a node's line, from those of its operands -/
def opK (d : HI) (v : Nat → Nat) (k : Nat) : Int32 := opM (d 5 k).toNatClampNeg (nI (wdt (nk d k))) (nI (wdt (nk d (oix d k 7)))) (nI (wdt (nk d (oix d k 8)))) (d 14 k) (d 13 k) (nI (gv d v k 7)) (nI (gv d v k 8)) (nI (gv d v k 9))
/-- lines of M as they were when d stood -/
def RL (d hm : HI) (n : Nat) : Prop := hm 0 6 = nI n ∧ ∀ c, 4 ≤ c → c ≤ 16 → ∀ k, k < n → hm c k = d c k
def VL (d hm : HI) (n : Nat) (v : Nat → Nat) : Prop := ∀ k, k < n → nod (d 5 k) → hm 17 k = nI (v k)
theorem nkf {d : HI} {n : Nat} (hW : WL d n) {k : Nat} (hk : k < n) (hno : nod (d 5 k)) : ∃ s, s < n ∧ d 6 k = nI s ∧ d 5 s = 0 ∧ nk d k = sc d s ∧ 1 ≤ nk d k ∧ nk d k ≤ 7 ∧ nk d k ≠ 4 ∧ 1 ≤ wdt (nk d k) ∧ wdt (nk d k) ≤ 3 ∧ bts (nk d k) ≤ 6 := by
  have hn := hW.1
  obtain ⟨s, hs, es, e5⟩ := hW.2.1 k hk hno
  have e : nk d k = sc d s := by unfold nk; rw [es, nI_clamp (by omega)]
  have hr := sc_r hW hs e5
  rw [e]
  exact ⟨s, hs, es, e5, rfl, hr.1, hr.2.1, hr.2.2.1, hr.2.2.2.1, hr.2.2.2.2, bts_7 hr.2.1⟩
theorem p2_64 {b : Nat} (h : b ≤ 6) : 2 ^ b ≤ 64 := by
  have : (2 : Nat) ^ b ≤ 2 ^ 6 := Nat.pow_le_pow_right (by omega) h
  omega
theorem v_64 {d : HI} {n : Nat} {v : Nat → Nat} (hW : WL d n) (hV : VR d n v) {k : Nat} (hk : k < n) (hno : nod (d 5 k)) : v k < 64 := by
  obtain ⟨s, hs, es, e5, e, r1, r2, r3, r4, r5, r6⟩ := nkf hW hk hno
  have := hV k hk hno
  have := p2_64 r6
  omega
theorem inv_w : ∀ w, 1 ≤ w → w ≤ 3 → ∀ x, x < 2 ^ w → (1 : Int32) <<< (nI w &&& 31) - 1 - nI x = nI (2 ^ w - 1 - x) := by
  intro w h1 h2 x hx
  rw [sh_w w h1 h2]
  have hp : 1 ≤ 2 ^ w := Nat.one_le_two_pow
  have e1 : nI (2 ^ w) - 1 = nI (2 ^ w - 1) := pk_sub (b := 1) hp
  rw [e1, pk_sub (by omega)]
theorem pM_get {d hm : HI} {n : Nat} {hl : HL} {Φ : Int32 → HI → HL → Prop} {v : Nat → Nat} (hW : WL d n) (hR : RL d hm n) (i : Nat) (hi : i < n) (hno : nod (d 5 i)) (hv : hm 17 i = nI (v i)) (hV : v i < 2 ^ bts (nk d i)) (t : Bool) (ht : t = true → nk d i ≤ 4) (h : Φ (nI (if t = true then 2 ^ nk d i - 1 - v i else v i)) hm hl) : wpM_get (nI i) (bI t) hm hl Φ := by
  have hn := hW.1
  unfold wpM_get wbM_get_0
  have hvi : vp_in (nI i) 21 := vp_in_nI (by omega) (by omega)
  obtain ⟨s, hs, es, e5, e, r1, r2, r3, r4, r5, r6⟩ := nkf hW hi hno
  rw [nI_clamp (by omega), hv, hR.2 6 (by omega) (by omega) i hi, es, nI_clamp (by omega), hR.2 16 (by omega) (by omega) s hs, sc_w hW hs e5]
  cases t
  · exact br_t rfl ⟨hvi, by simpa using h⟩
  · have h4 := ht rfl
    have w1 : wdt (sc d s) = nk d i := by rw [e]; unfold wdt; rw [if_pos (by omega)]
    have hb : bts (nk d i) = nk d i := by unfold bts; rw [if_pos h4]
    have hV' := hV
    rw [hb] at hV'
    refine br_f (by decide) ⟨hvi, vp_in_nI (by omega) (by omega), hvi, ?_⟩
    rw [w1, inv_w _ r1 (by omega) _ hV']
    simpa using h
theorem pM_getO {d hm : HI} {n : Nat} {hl : HL} {Φ : Int32 → HI → HL → Prop} {v : Nat → Nat} (hW : WL d n) (hR : RL d hm n) (k c : Nat) (hv : VL d hm k v) (hV : VR d k v) (hk : k ≤ n) (ho : opr d k c) (h : Φ (nI (gv d v k c)) hm hl) : wpM_get (d c k) (d (c + 3) k) hm hl Φ := by
  have hn := hW.1
  obtain ⟨i, hi, e, hno, t, et, ht⟩ := ho
  have eo : oix d k c = i := by unfold oix; rw [e, nI_clamp (by omega)]
  rw [e, et]
  refine pM_get hW hR i (by omega) hno (hv i hi hno) (hV i hi hno) t ht ?_
  have : gv d v k c = if t = true then 2 ^ nk d i - 1 - v i else v i := by
    unfold gv; rw [eo, et]
    cases t
    · rw [bI_f, if_pos rfl, if_neg (by decide)]
    · rw [bI_t, if_neg (by decide), if_pos rfl]
  rw [← this]; exact h
theorem gv_lt {d : HI} {n : Nat} {v : Nat → Nat} (hW : WL d n) {k c : Nat} (hV : VR d k v) (hk : k ≤ n) (ho : opr d k c) : gv d v k c < 2 ^ bts (nk d (oix d k c)) := by
  have hn := hW.1
  obtain ⟨i, hi, e, hno, t, et, ht⟩ := ho
  have eo : oix d k c = i := by unfold oix; rw [e, nI_clamp (by omega)]
  unfold gv
  rw [eo, et]
  have hV' := hV i hi hno
  cases t
  · rw [bI_f, if_pos rfl]; exact hV'
  · rw [bI_t, if_neg (by decide)]
    have hb : bts (nk d i) = nk d i := by unfold bts; rw [if_pos (ht rfl)]
    rw [hb]
    have hp : 1 ≤ 2 ^ nk d i := Nat.one_le_two_pow
    omega
