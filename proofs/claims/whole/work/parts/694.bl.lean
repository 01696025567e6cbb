/-! the loops of Book's constructor -/
def LnE (w : Nat) : va_E := .inr (6, [.int 0, .null, .int 0, .int 0, .int 0, .int (-1), .int 0, .ref w])
def plN (cJ : ClassId) (aL aW : Nat → Nat) : Nat → va_W
  | 0 => []
  | i + 1 => plN cJ aL aW i ++ [(aL i, LnE (aW i)), (aW i, .inl (cJ, 24, .inr (.inl (fun _ => 0))))]
theorem plN_len {cJ : ClassId} {aL aW : Nat → Nat} {i : Nat} : (plN cJ aL aW i).length = 2 * i := by
  induction i with
  | zero => rfl
  | succ i ih => unfold plN; rw [List.length_append, ih]; simp only [List.length_cons, List.length_nil]; omega
theorem plN_cong {cJ : ClassId} {aL aW bL bW : Nat → Nat} {i : Nat} (h : ∀ j, j < i → aL j = bL j ∧ aW j = bW j) : plN cJ aL aW i = plN cJ bL bW i := by
  induction i with
  | zero => rfl
  | succ i ih =>
    unfold plN
    rw [ih (fun j hj => h j (by omega)), (h i (by omega)).1, (h i (by omega)).2]
def fqN (aL : Nat → Nat) (i : Nat) : Nat → Option Nat := fun j => if j < i then some (aL j) else none
def alN (i : Nat) : Nat → Int64 := fun j => if j < i then -1 else 0
def bkN (cJ cR : ClassId) (x1 x2 g0 g1 g2 g3 g4 g5 x3 x4 x5 : Nat) (f : Nat → Option Nat) (al : Nat → Int64) : va_W := [(x1, .inl (cR, 20, .inr (.inr (.inr (.inr f))))), (x2, .inr (4, [.ref g0, .ref g1, .ref g2, .ref g3, .ref g4, .ref g5, .int 0, .int 0, .int 0])), (g0, .inl (cJ, 6, .inr (.inl (fun _ => 0)))), (g1, .inl (cJ, 6, .inr (.inl (fun _ => 0)))), (g2, .inl (cJ, 6, .inr (.inl (fun _ => 0)))), (g3, .inl (cJ, 6, .inr (.inl (fun _ => 0)))), (g4, .inl (cJ, 6, .inr (.inl (fun _ => 0)))), (g5, .inl (cJ, 6, .inr (.inl (fun _ => 0)))), (x3, .inl (cJ, 24, .inr (.inl (fun _ => 0)))), (x4, .inl (cJ, 4, .inr (.inl (fun _ => 0)))), (x5, .inl (cJ, 4, .inr (.inl al)))]
def bkW (cJ cR : ClassId) (ws : va_W) (k a x1 x2 g0 g1 g2 g3 g4 g5 x3 x4 x5 : Nat) (f : Nat → Option Nat) (al : Nat → Int64) (pl : va_W) : va_W := zw ws k (a, .inr (2, [.ref x1, .ref x2, .int 0, .int 0, .int 0, .int 0, .ref x3, .ref x4, .ref x5])) (bkN cJ cR x1 x2 g0 g1 g2 g3 g4 g5 x3 x4 x5 f al ++ pl)
theorem snoc_at {α : Type} {N : List α} {x : α} {n : Nat} (h : N.length = n) : (N ++ [x])[n]? = some x := by
  subst h; rw [List.getElem?_append_right (Nat.le_refl _), Nat.sub_self]; rfl
theorem snoc_set {α : Type} {N : List α} {x y : α} {n : Nat} (h : N.length = n) : (N ++ [x]).set n y = N ++ [y] := by
  subst h; rw [List.set_append_right _ _ (Nat.le_refl _), Nat.sub_self]; rfl
theorem va_P_upd {D : va_G} {cl : List vw_C} {ws : va_W} {H : Heap} {p b : Nat} {e e' : va_E} (h : va_P D cl ws H) (hp : ws[p]? = some (b, e)) (he : va_at D cl (b, e) H → va_at D cl (b, e') H) : va_P D cl (ws.set p (b, e')) H := by
  intro k q hq
  by_cases hk : k = p
  · subst hk
    rw [List.getElem?_set_self (List.getElem?_eq_some_iff.mp hp).1] at hq
    cases hq
    exact he (h k _ hp)
  · rw [List.getElem?_set_ne (Ne.symm hk)] at hq
    exact h k q hq
theorem va_D_upd {A : Nat → Prop} {ws : va_W} {p b : Nat} {e e' : va_E} (h : va_D A ws) (hp : ws[p]? = some (b, e)) : va_D A (ws.set p (b, e')) := h.set hp
section RB
variable {p : Program} {l : Launch} {e : Env} {R : Room} {s : State} {m : MethodId} {args : Array Value} {below : List Frame} {meth : Method} {c : Code} {H : Heap} {locs : List Loc} {cells slots : Nat} {Q : State → Prop}
variable {cc : ByteArray} {nL : Nat} {own : String} {D : va_G} {cI cJ cC cZ cR : ClassId} {A : Nat → Prop}
variable {pc : Nat} {ls : Array Slot} {st0 rest As : List Value} {ws ns : va_W} {k a : Nat} {x0 : va_E}
theorem z_last (K : Cc p s m args meth c cc nL own D (tys5 cI cJ cC cZ cR) A) (hP : va_P D cls8 (zw ws k (a, x0) ns) H) (hD : va_D A (zw ws k (a, x0) ns)) (hS : va_S A s.heap H locs) (j : Nat) {b n : Nat} {f : Nat → Int64} (hj : ns[j]? = some (b, .inl (cJ, n, .inr (.inl f)))) {i : Int32} {x : Int64} (hin : vp_in i n) (hdg : decode cc pc = .ok (.lastore, 1))
    (kk : ∀ (H1 : Heap) (locs1 : List Loc), va_P D cls8 (zw ws k (a, x0) (ns.set j (b, .inl (cJ, n, .inr (.inl (vp_updL f i.toNatClampNeg x)))))) H1 → va_D A (zw ws k (a, x0) (ns.set j (b, .inl (cJ, n, .inr (.inl (vp_updL f i.toNatClampNeg x)))))) → va_S A s.heap H1 locs1 → W p l e R s m args below meth c H1 locs1 cells slots Q (F0 m (pc + 1) ls rest)) : W p l e R s m args below meth c H locs cells slots Q (F0 m pc ls (.long x :: .int i :: .ref b :: rest)) := by
  refine va_last K.1 K.2.1 K.2.2.2.2.2.2.1 hP hD hS (ws.length + j) 1 (zw_new hj) rfl hin hdg (fun H1 locs1 hP1 hD1 hS1 => kk H1 locs1 ?_ ?_ hS1)
  · rw [zw_setn] at hP1; exact hP1
  · rw [zw_setn] at hD1; exact hD1
theorem z_astq (K : Cc p s m args meth c cc nL own D (tys5 cI cJ cC cZ cR) A) (hP : va_P D cls8 (zw ws k (a, x0) ns) H) (hD : va_D A (zw ws k (a, x0) ns)) (hS : va_S A s.heap H locs) (j j2 : Nat) {b n v : Nat} {vs : List Value} {f : Nat → Option Nat} (hj : ns[j]? = some (b, .inl (cR, n, .inr (.inr (.inr (.inr f)))))) (hv : ns[j2]? = some (v, .inr (6, vs))) {i : Int32} (hin : vp_in i n) (hdg : decode cc pc = .ok (.aastore, 1))
    (kk : ∀ (H1 : Heap) (locs1 : List Loc), va_P D cls8 (zw ws k (a, x0) (ns.set j (b, .inl (cR, n, .inr (.inr (.inr (.inr (va_up f i.toNatClampNeg (some v))))))))) H1 → va_D A (zw ws k (a, x0) (ns.set j (b, .inl (cR, n, .inr (.inr (.inr (.inr (va_up f i.toNatClampNeg (some v))))))))) → va_S A s.heap H1 locs1 → W p l e R s m args below meth c H1 locs1 cells slots Q (F0 m (pc + 1) ls rest)) : W p l e R s m args below meth c H locs cells slots Q (F0 m pc ls (.ref v :: .int i :: .ref b :: rest)) := by
  refine va_astq (r := ("WordChecker$Line", TL, 8)) K.1 K.2.1 K.2.2.2.2.2.2.1 hP hD hS (ws.length + j) 4 (ws.length + j2) 6 (zw_new hj) rfl (zw_new hv) rfl hin hdg (fun H1 locs1 hP1 hD1 hS1 => kk H1 locs1 ?_ ?_ hS1)
  · rw [zw_setn] at hP1; exact hP1
  · rw [zw_setn] at hD1; exact hD1
variable {x1 x2 g0 g1 g2 g3 g4 g5 x3 x4 x5 : Nat}
set_option maxHeartbeats 4000000 in
theorem nB_l1 (K : Cc p s m args meth c cB_new 2 "WordChecker$Book" D (tys5 cI cJ cC cZ cR) A) (hkl : k < ws.length)
    (hkk : ∀ (aL aW : Nat → Nat) (ls : Array Slot) (H : Heap) (locs : List Loc), lv_has ls 2 [(0, .ref a)] → va_P D cls8 (bkW cJ cR ws k a x1 x2 g0 g1 g2 g3 g4 g5 x3 x4 x5 (fqN aL 20) (fun _ => 0) (plN cJ aL aW 20)) H → va_D A (bkW cJ cR ws k a x1 x2 g0 g1 g2 g3 g4 g5 x3 x4 x5 (fqN aL 20) (fun _ => 0) (plN cJ aL aW 20)) → va_S A s.heap H locs → W p l e (rmN 2 32 51 737) s m args below meth c H locs 51 737 Q (F0 m 73 ls [])) :
    ∀ (n i : Nat), i + n = 20 → ∀ (aL aW : Nat → Nat) (ls : Array Slot) (H : Heap) (locs : List Loc) (cells slots : Nat), cells = 11 + 2 * i → slots = 97 + 32 * i → lv_has ls 2 [(0, .ref a), (1, .int (nI i))] → va_P D cls8 (bkW cJ cR ws k a x1 x2 g0 g1 g2 g3 g4 g5 x3 x4 x5 (fqN aL i) (fun _ => 0) (plN cJ aL aW i)) H → va_D A (bkW cJ cR ws k a x1 x2 g0 g1 g2 g3 g4 g5 x3 x4 x5 (fqN aL i) (fun _ => 0) (plN cJ aL aW i)) → va_S A s.heap H locs → W p l e (rmN 2 32 51 737) s m args below meth c H locs cells slots Q (F0 m 48 ls []) := by
  intro n
  induction n with
  | zero =>
    intro i hi aL aW ls H locs cells slots hc hs hL hP hD hS
    have hi : i = 20 := by omega
    subst hi
    subst hc; subst hs
    refine lv_iload_n K.1 K.2.1 dB_new_48 rfl (lv_at hL 1 rfl) ?_
    refine lv_bipush (v := 20) K.1 K.2.1 dB_new_49 (by decide) ?_
    refine lv_icmp_ge (tgt := 73) K.1 K.2.1 dB_new_51 rfl (fun hc => ?_) (fun hc => absurd (by decide) hc)
    exact hkk aL aW ls H locs (lv_sub hL [0] rfl) hP hD hS
  | succ n ih =>
    intro i hi aL aW ls H locs cells slots hc hs hL hP hD hS
    have hlen : (bkN cJ cR x1 x2 g0 g1 g2 g3 g4 g5 x3 x4 x5 (fqN aL i) (fun _ => 0) ++ plN cJ aL aW i).length = 11 + 2 * i := by
      rw [List.length_append, plN_len]; rfl
    have hi20 : i < 20 := by omega
    have hnI : (nI i).toNatClampNeg = i := nI_clamp (by omega)
    unfold bkW at hP hD
    refine lv_iload_n K.1 K.2.1 dB_new_48 rfl (lv_at hL 1 rfl) ?_
    refine lv_bipush (v := 20) K.1 K.2.1 dB_new_49 (by decide) ?_
    refine lv_icmp_ge (tgt := 73) K.1 K.2.1 dB_new_51 rfl (fun hc => absurd (show nI 20 ≤ nI i from hc) (nI_ge hi20 (by decide))) (fun hc => ?_)
    refine lv_aload_n K.1 K.2.1 dB_new_54 rfl (lv_at hL 0 rfl) ?_
    refine z_get (v := .ref x1) K hkl hP hinB (ci := 2) rfl 0 (by decide) flB_11 rfl rfl dB_new_55 ?_
    refine lv_iload_n K.1 K.2.1 dB_new_58 rfl (lv_at hL 1 rfl) ?_
    refine z_new K hP hD hS hinL tyL tyL_ok (ci := 6) rfl klB_9 ibL iiL dfL (show cells + 1 ≤ 51 by omega) (show slots + 8 ≤ 737 by omega) dB_new_59 (fun q H hP hD hS => ?_)
    refine lv_dup K.1 K.2.1 dB_new_62 rfl ?_
    refine z_cIN (As := []) (rest := [.ref q, .int (nI i), .ref x1]) K hP hD hS calL_new (ilB_34 K.2.2.2.2.2.2.2.2.1) (nwL (k := ws.length + (11 + 2 * i)) (zw_new (snoc_at hlen))) ⟨Nat.le_of_ble_eq_true rfl, Nat.le_of_ble_eq_true rfl⟩ rfl hL.1 rfl (Nat.le_of_ble_eq_true rfl) dB_new_63 ⟨show cells + 1 + 1 ≤ 51 by omega, show slots + 8 + 24 ≤ 737 by omega⟩ (fun W1 H locs hq hP hD hS => ?_)
    obtain ⟨w, rfl⟩ := hq
    rw [zw_call, snoc_set hlen, List.append_assoc] at hP hD
    refine z_astq (f := fqN aL i) K hP hD hS 0 (11 + 2 * i) rfl (?_ : _ = some (q, LnE w)) (i := nI i) (n := 20) (nI_in (by omega) (by decide)) dB_new_66 (fun H locs hP hD hS => ?_)
    · rw [List.getElem?_append_right (by rw [hlen]; exact Nat.le_refl _), hlen, Nat.sub_self]; rfl
    have hfq : va_up (fqN aL i) (nI i).toNatClampNeg (some q) = fqN (va_up aL i q) (i + 1) := by
      funext j
      rw [hnI]
      unfold va_up fqN
      dsimp only
      by_cases h1 : j = i
      · rw [if_pos h1, if_pos (by omega), if_pos h1]
      · rw [if_neg h1, if_neg h1]
        by_cases h2 : j < i
        · rw [if_pos h2, if_pos (by omega)]
        · rw [if_neg h2, if_neg (by omega)]
    rw [hfq] at hP hD
    have hpl : plN cJ aL aW i ++ [(q, LnE w), (w, .inl (cJ, 24, .inr (.inl (fun _ => 0))))] = plN cJ (va_up aL i q) (va_up aW i w) (i + 1) := by
      show _ = plN cJ (va_up aL i q) (va_up aW i w) i ++ [(va_up aL i q i, LnE (va_up aW i w i)), (va_up aW i w i, .inl (cJ, 24, .inr (.inl (fun _ => 0))))]
      rw [plN_cong (aL := aL) (aW := aW) (bL := va_up aL i q) (bW := va_up aW i w) (fun j hj => ⟨(if_neg (by omega)).symm, (if_neg (by omega)).symm⟩)]
      simp only [va_up, if_true]
    have hP : va_P D cls8 (bkW cJ cR ws k a x1 x2 g0 g1 g2 g3 g4 g5 x3 x4 x5 (fqN (va_up aL i q) (i + 1)) (fun _ => 0) (plN cJ aL aW i ++ [(q, LnE w), (w, .inl (cJ, 24, .inr (.inl (fun _ => 0))))])) H := by
      rw [List.append_assoc] at hP
      exact hP
    have hD : va_D A (bkW cJ cR ws k a x1 x2 g0 g1 g2 g3 g4 g5 x3 x4 x5 (fqN (va_up aL i q) (i + 1)) (fun _ => 0) (plN cJ aL aW i ++ [(q, LnE w), (w, .inl (cJ, 24, .inr (.inl (fun _ => 0))))])) := by
      rw [List.append_assoc] at hD
      exact hD
    rw [hpl] at hP hD
    refine lv_iinc (k := 1) (v := nI (i + 1)) (lv' := [(1, .int (nI (i + 1))), (0, .ref a)]) K.1 K.2.1 dB_new_67 hL rfl (by rw [show Int32.ofInt 1 = 1 from by decide]; exact nI_1 i) (by decide) rfl (fun ls hL => ?_)
    refine lv_goto (tgt := 48) K.1 K.2.1 dB_new_70 rfl ?_
    exact ih (i + 1) (by omega) (va_up aL i q) (va_up aW i w) ls H locs _ _ (by omega) (by omega) (lv_sub hL [1, 0] rfl) hP hD hS
theorem arrV_cong {cI : ClassId} {N : Nat} {f g : Nat → Value} (h : ∀ j, j < N → f j = g j) : arrV cI N f = arrV cI N g := by
  unfold arrV
  congr 1
  apply Array.ext
  · simp
  · intro i h1 h2
    simp only [Array.getElem_ofFn]
    exact h i (by simpa using h1)
theorem at_q {cl : List vw_C} {b n : Nat} {f g : Nat → Option Nat} (h : ∀ j, j < n → f j = g j) (he : va_at D cl (b, .inl (cR, n, .inr (.inr (.inr (.inr f))))) H) : va_at D cl (b, .inl (cR, n, .inr (.inr (.inr (.inr g))))) H := by
  show H[b]? = some (arrV cR n (fun j => va_rf (g j)))
  rw [← arrV_cong (f := fun j => va_rf (f j)) (fun j hj => by rw [h j hj])]
  exact he
theorem at_l {cl : List vw_C} {b n : Nat} {f g : Nat → Int64} (h : ∀ j, j < n → f j = g j) (he : va_at D cl (b, .inl (cJ, n, .inr (.inl f))) H) : va_at D cl (b, .inl (cJ, n, .inr (.inl g))) H := by
  show H[b]? = some (arrV cJ n (fun j => .long (g j)))
  rw [← arrV_cong (f := fun j => .long (f j)) (fun j hj => by rw [h j hj])]
  exact he
theorem bkW_f {f f' : Nat → Option Nat} {al al' : Nat → Int64} {pl : va_W} (h : ∀ j, j < 20 → f j = f' j) (h2 : ∀ j, j < 4 → al j = al' j) (hP : va_P D cls8 (bkW cJ cR ws k a x1 x2 g0 g1 g2 g3 g4 g5 x3 x4 x5 f al pl) H) : va_P D cls8 (bkW cJ cR ws k a x1 x2 g0 g1 g2 g3 g4 g5 x3 x4 x5 f' al' pl) H := by
  unfold bkW at hP ⊢
  have h1 := va_P_upd (p := ws.length + 0) (b := x1) (e := .inl (cR, 20, .inr (.inr (.inr (.inr f))))) (e' := .inl (cR, 20, .inr (.inr (.inr (.inr f'))))) hP (zw_new rfl) (at_q h)
  rw [zw_setn] at h1
  have h3 := va_P_upd (p := ws.length + 10) (b := x5) (e := .inl (cJ, 4, .inr (.inl al))) (e' := .inl (cJ, 4, .inr (.inl al'))) h1 (zw_new rfl) (at_l h2)
  rw [zw_setn] at h3
  exact h3
theorem bkW_d {f f' : Nat → Option Nat} {al al' : Nat → Int64} {pl : va_W} (hD : va_D A (bkW cJ cR ws k a x1 x2 g0 g1 g2 g3 g4 g5 x3 x4 x5 f al pl)) : va_D A (bkW cJ cR ws k a x1 x2 g0 g1 g2 g3 g4 g5 x3 x4 x5 f' al' pl) := by
  unfold bkW at hD ⊢
  have h1 := va_D.set (p := ws.length + 0) (a := x1) (e0 := .inl (cR, 20, .inr (.inr (.inr (.inr f))))) (e := .inl (cR, 20, .inr (.inr (.inr (.inr f'))))) hD (zw_new rfl)
  rw [zw_setn] at h1
  have h3 := va_D.set (p := ws.length + 10) (a := x5) (e0 := .inl (cJ, 4, .inr (.inl al))) (e := .inl (cJ, 4, .inr (.inl al'))) h1 (zw_new rfl)
  rw [zw_setn] at h3
  exact h3
set_option maxHeartbeats 4000000 in
theorem nB_l2 {post : va_W → Prop} (K : Cc p s m args meth c cB_new 2 "WordChecker$Book" D (tys5 cI cJ cC cZ cR) A) (hr : meth.sig.returnType = none) (hkl : k < ws.length) {f : Nat → Option Nat} {pl : va_W} (f' : Nat → Option Nat) (hf : ∀ j, j < 20 → f j = f' j) (hpost : post (bkW cJ cR ws k a x1 x2 g0 g1 g2 g3 g4 g5 x3 x4 x5 f' (fun _ => -1) pl)) :
    ∀ (n i : Nat), i + n = 4 → ∀ (ls : Array Slot) (H : Heap) (locs : List Loc), lv_has ls 2 [(0, .ref a), (1, .int (nI i))] → va_P D cls8 (bkW cJ cR ws k a x1 x2 g0 g1 g2 g3 g4 g5 x3 x4 x5 f (alN i) pl) H → va_D A (bkW cJ cR ws k a x1 x2 g0 g1 g2 g3 g4 g5 x3 x4 x5 f (alN i) pl) → va_S A s.heap H locs → W p l e (rmN 2 32 51 737) s m args below meth c H locs 51 737 (MQ below (va_Qv post (fun W t => va_P D cls8 W t.heap ∧ va_D A W) A) args s 51 737 A) (F0 m 75 ls []) := by
  intro n
  induction n with
  | zero =>
    intro i hi ls H locs hL hP hD hS
    have hi : i = 4 := by omega
    subst hi
    refine lv_iload_n K.1 K.2.1 dB_new_75 rfl (lv_at hL 1 rfl) ?_
    refine lv_iconst (v := 4) K.1 K.2.1 dB_new_76 (by decide) ?_
    refine lv_icmp_ge (tgt := 95) K.1 K.2.1 dB_new_77 rfl (fun hc => ?_) (fun hc => absurd (by decide) hc)
    exact z_ret K hr (bkW_f hf (fun j hj => if_pos hj) hP) (bkW_d hD) hS hpost dB_new_95
  | succ n ih =>
    intro i hi ls H locs hL hP hD hS
    have hi4 : i < 4 := by omega
    have hnI : (nI i).toNatClampNeg = i := nI_clamp (by omega)
    unfold bkW at hP hD
    refine lv_iload_n K.1 K.2.1 dB_new_75 rfl (lv_at hL 1 rfl) ?_
    refine lv_iconst (v := 4) K.1 K.2.1 dB_new_76 (by decide) ?_
    refine lv_icmp_ge (tgt := 95) K.1 K.2.1 dB_new_77 rfl (fun hc => absurd (show nI 4 ≤ nI i from hc) (nI_ge hi4 (by decide))) (fun hc => ?_)
    refine lv_aload_n K.1 K.2.1 dB_new_80 rfl (lv_at hL 0 rfl) ?_
    refine z_get (v := .ref x5) K hkl hP hinB (ci := 2) rfl 8 (by decide) flB_31 rfl rfl dB_new_81 ?_
    refine lv_iload_n K.1 K.2.1 dB_new_84 rfl (lv_at hL 1 rfl) ?_
    refine lv_ldc2 (v := -1) K.1 K.2.1 K.2.2.2.1 (K.2.2.2.2.1 _ clB_35) dB_new_85 ?_
    refine z_last (f := alN i) K hP hD hS 10 rfl (i := nI i) (n := 4) (nI_in (by omega) (by decide)) dB_new_88 (fun H locs hP hD hS => ?_)
    have hal : vp_updL (alN i) (nI i).toNatClampNeg (-1) = alN (i + 1) := by
      funext j
      rw [hnI]
      unfold vp_updL alN
      by_cases h1 : j = i
      · rw [if_pos h1, if_pos (by omega)]
      · rw [if_neg h1]
        by_cases h2 : j < i
        · rw [if_pos h2, if_pos (by omega)]
        · rw [if_neg h2, if_neg (by omega)]
    rw [hal] at hP hD
    refine lv_iinc (k := 1) (v := nI (i + 1)) (lv' := [(1, .int (nI (i + 1))), (0, .ref a)]) K.1 K.2.1 dB_new_89 hL rfl (by rw [show Int32.ofInt 1 = 1 from by decide]; exact nI_1 i) (by decide) rfl (fun ls hL => ?_)
    refine lv_goto (tgt := 75) K.1 K.2.1 dB_new_92 rfl ?_
    exact ih (i + 1) (by omega) ls H locs (lv_sub hL [1, 0] rfl) hP hD hS
theorem nB_loops {post : va_W → Prop} (K : Cc p s m args meth c cB_new 2 "WordChecker$Book" D (tys5 cI cJ cC cZ cR) A) (hr : meth.sig.returnType = none) (hkl : k < ws.length) (hpost : ∀ aL aW : Nat → Nat, post (bkW cJ cR ws k a x1 x2 g0 g1 g2 g3 g4 g5 x3 x4 x5 (fun i => some (aL i)) (fun _ => -1) (plN cJ aL aW 20)))
    (hL : lv_has ls 2 [(0, .ref a)]) (hP : va_P D cls8 (bkW cJ cR ws k a x1 x2 g0 g1 g2 g3 g4 g5 x3 x4 x5 (fun _ => none) (fun _ => 0) []) H) (hD : va_D A (bkW cJ cR ws k a x1 x2 g0 g1 g2 g3 g4 g5 x3 x4 x5 (fun _ => none) (fun _ => 0) [])) (hS : va_S A s.heap H locs) :
    W p l e (rmN 2 32 51 737) s m args below meth c H locs 11 97 (MQ below (va_Qv post (fun W t => va_P D cls8 W t.heap ∧ va_D A W) A) args s 51 737 A) (F0 m 46 ls []) := by
  refine lv_iconst (v := 0) K.1 K.2.1 dB_new_46 (by decide) ?_
  refine lv_istore_n (lv' := [(1, .int 0), (0, .ref a)]) K.1 K.2.1 dB_new_47 rfl hL (by decide) rfl (fun ls hL => ?_)
  refine nB_l1 K hkl (fun aL aW ls H locs hL hP hD hS => ?_) 20 0 (by omega) (fun _ => 0) (fun _ => 0) ls H locs 11 97 rfl rfl (lv_sub hL [1, 0] rfl) hP hD hS
  refine lv_iconst (v := 0) K.1 K.2.1 dB_new_73 (by decide) ?_
  refine lv_istore_n (lv' := [(1, .int 0), (0, .ref a)]) K.1 K.2.1 dB_new_74 rfl hL (by decide) rfl (fun ls hL => ?_)
  exact nB_l2 K hr hkl (fun i => some (aL i)) (fun j hj => if_pos hj) (hpost aL aW) 4 0 (by omega) ls H locs (lv_sub hL [1, 0] rfl) hP hD hS
end RB
