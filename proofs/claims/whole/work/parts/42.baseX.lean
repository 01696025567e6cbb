def GX (cI cJ cC cZ cR : ClassId) (ad kd : Nat → Nat) : GW := fun k f g => match k with
  | 0 => .inr (0, [.ref (ad 1), .ref (ad 5), .ref (ad 10), .ref (ad 20), .int (f 4), .int (f 5), .int (f 6)])
  | 1 => .inr (1, [.ref (ad 2), .ref (ad 3), .ref (ad 4), .int (f 3), .int (f 4)])
  | 2 => .inl (cC, 40, .inl f)
  | 3 => .inl (cI, 20, .inl f)
  | 4 => .inl (cI, 20, .inl f)
  | 5 => .inr (2, [.ref (ad 6), .ref (ad 13), .int (f 2), .int (f 3), .int (f 4), .int (f 5), .ref (ad 7), .ref (ad 8), .ref (ad 9)])
  | 6 => .inl (cR, 20, .inr (.inr (.inr (.inr (fun i => some (ad (24 + i)))))))
  | 7 => .inl (cJ, 24, .inr (.inl g))
  | 8 => .inl (cJ, 4, .inr (.inl g))
  | 9 => .inl (cJ, 4, .inr (.inl g))
  | 10 => .inr (3, [.ref (ad 1), .ref (ad 5), .int (f 2), va_rf (kOf kd (f 3)), .int (f 4), .ref (ad 11), .ref (ad 12), .int (f 7), .int (f 8), .int (f 9), .int (f 10)])
  | 11 => .inl (cI, 3, .inl f)
  | 12 => .inl (cZ, 3, .inl f)
  | 13 => .inr (4, [.ref (ad 14), .ref (ad 15), .ref (ad 16), .ref (ad 17), .ref (ad 18), .ref (ad 19), .int (f 6), .int (f 7), .int (f 8)])
  | 14 => .inl (cJ, 6, .inr (.inl g))
  | 15 => .inl (cJ, 6, .inr (.inl g))
  | 16 => .inl (cJ, 6, .inr (.inl g))
  | 17 => .inl (cJ, 6, .inr (.inl g))
  | 18 => .inl (cJ, 6, .inr (.inl g))
  | 19 => .inl (cJ, 6, .inr (.inl g))
  | 20 => .inr (5, [.ref (ad 5), .ref (ad 21), .ref (ad 22), .ref (ad 23), .int (f 4)])
  | 21 => .inl (cJ, 4, .inr (.inl g))
  | 22 => .inl (cI, 4, .inl f)
  | 23 => .inl (cI, 4, .inl f)
  | k => if k < 44 then .inr (6, [.int (f 0), va_rf (kOf kd (f 1)), .int (f 2), .int (f 3), .int (f 4), .int (f 5), .int (f 6), .ref (ad (k + 20))]) else .inl (cJ, 24, .inr (.inl g))
theorem GX_line {cI cJ cC cZ cR : ClassId} {ad kd : Nat → Nat} (i : Nat) (h : i < 20) (f : Nat → Int32) (g : Nat → Int64) : GX cI cJ cC cZ cR ad kd (24 + i) f g = .inr (6, [.int (f 0), va_rf (kOf kd (f 1)), .int (f 2), .int (f 3), .int (f 4), .int (f 5), .int (f 6), .ref (ad (44 + i))]) := by
  match i, h with
  | 0, _ => rfl
  | 1, _ => rfl
  | 2, _ => rfl
  | 3, _ => rfl
  | 4, _ => rfl
  | 5, _ => rfl
  | 6, _ => rfl
  | 7, _ => rfl
  | 8, _ => rfl
  | 9, _ => rfl
  | 10, _ => rfl
  | 11, _ => rfl
  | 12, _ => rfl
  | 13, _ => rfl
  | 14, _ => rfl
  | 15, _ => rfl
  | 16, _ => rfl
  | 17, _ => rfl
  | 18, _ => rfl
  | 19, _ => rfl
  | i + 20, h => exact absurd h (by omega)
theorem GX_wires {cI cJ cC cZ cR : ClassId} {ad kd : Nat → Nat} (i : Nat) (h : i < 20) (f : Nat → Int32) (g : Nat → Int64) : GX cI cJ cC cZ cR ad kd (44 + i) f g = .inl (cJ, 24, .inr (.inl g)) := by
  match i, h with
  | 0, _ => rfl
  | 1, _ => rfl
  | 2, _ => rfl
  | 3, _ => rfl
  | 4, _ => rfl
  | 5, _ => rfl
  | 6, _ => rfl
  | 7, _ => rfl
  | 8, _ => rfl
  | 9, _ => rfl
  | 10, _ => rfl
  | 11, _ => rfl
  | 12, _ => rfl
  | 13, _ => rfl
  | 14, _ => rfl
  | 15, _ => rfl
  | 16, _ => rfl
  | 17, _ => rfl
  | 18, _ => rfl
  | 19, _ => rfl
  | i + 20, h => exact absurd h (by omega)
theorem GX_garr {cI cJ cC cZ cR : ClassId} {ad kd : Nat → Nat} (i : Nat) (h : i < 6) (f : Nat → Int32) (g : Nat → Int64) : GX cI cJ cC cZ cR ad kd (14 + i) f g = .inl (cJ, 6, .inr (.inl g)) := by
  match i, h with
  | 0, _ => rfl
  | 1, _ => rfl
  | 2, _ => rfl
  | 3, _ => rfl
  | 4, _ => rfl
  | 5, _ => rfl
  | i + 6, h => exact absurd h (by omega)
theorem wl_setG {N : Nat} {ad : Nat → Nat} {G : GW} {hi : HI} {hl : HL} {k : Nat} (hk : k < N) (g : Nat → Int64) : (wl N ad G hi hl).set k (ad k, G k (hi k) g) = wl N ad G hi (fun c => if c = k then g else hl c) := by
  apply List.ext_getElem?
  intro i
  by_cases h : i = k
  · subst h
    rw [List.getElem?_set_self (by rw [wl_len]; exact hk), wl_at hk]
    simp
  · rw [List.getElem?_set_ne (Ne.symm h)]
    by_cases hN : i < N
    · rw [wl_at hN, wl_at hN]
      simp [h]
    · rw [List.getElem?_eq_none (by rw [wl_len]; omega), List.getElem?_eq_none (by rw [wl_len]; omega)]
theorem lt_l {i : Nat} (h : i < 20) : 24 + i < 64 := by omega
theorem lt_l2 {i : Nat} (h : i < 20) : 44 + i < 64 := by omega
theorem lt_g {i : Nat} (h : i < 6) : 14 + i < 64 := by omega
theorem kOf_nar (kd : Nat → Nat) (x : Int32) {C : String} : narrow (.object C) (va_rf (kOf kd x)) = va_rf (kOf kd x) := by
  cases kOf kd x <;> rfl
theorem kOf_fit (kd : Nat → Nat) (x : Int32) {C : String} : fits (.object C) (va_rf (kOf kd x)) = true := by
  cases kOf kd x <;> rfl
section RB
variable {p : Program} {l : Launch} {e : Env} {R : Room} {s : State} {m : MethodId} {args : Array Value} {below : List Frame} {meth : Method} {c : Code} {H : Heap} {locs : List Loc} {Q : State → Prop}
variable {cc : ByteArray} {nL : Nat} {own : String} {D : va_G} {cl : List vw_C} {tys : List (ClassId × FieldType)} {N : Nat} {ad : Nat → Nat} {A : Nat → Prop} {G : GW} {hi : HI} {hl : HL} {Zs : State → Prop}
variable {pc : Nat} {ls : Array Slot} {st0 rest As : List Value} {kd sd vd : Nat → Nat} {kA lA wA : Nat}
theorem x_gets {Ts : List Cond} (K : Cx p R s m args meth c cc nL own Ts D cl tys N ad A Zs) (hS : va_S A s.heap H locs) {C n d : String} {v : Value} {index : Nat} (hZ : va_Z C n d v A s s.heap) (hlink : Cond.fieldLink own index C n d ∈ Ts) (hdg : decode cc pc = .ok (.getstatic index, 3)) (kk : W p l e R s m args below meth c H locs 0 0 Q (F0 m (pc + 3) ls (v :: rest))) : W p l e R s m args below meth c H locs 0 0 Q (F0 m pc ls rest) :=
  va_gets K.1 K.2.1 hZ hS K.2.2.2.1 (K.2.2.2.2.1 _ hlink) (fun _ h => h) hdg kk
theorem x_getsN {Ts : List Cond} (K : Cx p R s m args meth c cc nL own Ts D cl tys N ad A Zs) (hS : va_S A s.heap H locs) {C n d host : String} {v : Value} {index : Nat} (hZ : va_Z C n d v A s s.heap) (hlink : va_Nw (.fieldLinkNest own index C n d host) s) (hdg : decode cc pc = .ok (.getstatic index, 3)) (kk : W p l e R s m args below meth c H locs 0 0 Q (F0 m (pc + 3) ls (v :: rest))) : W p l e R s m args below meth c H locs 0 0 Q (F0 m pc ls rest) :=
  va_getsN K.1 K.2.1 hZ hS K.2.2.2.1 (va_Nw.use rfl hlink) (fun _ h => h) hdg kk
/-- a field of a constant object -/
theorem x_getON {Ts : List Cond} (K : Cx p R s m args meth c cc nL own Ts D cl tys N ad A Zs) (hS : va_S A s.heap H locs) {o n d host : String} {v : Value} {q index : Nat} (hE : va_OF o n d v q A s s.heap) (hlink : va_Nw (.fieldLinkNest own index o n d host) s) {w : Value} (hw : v = w) (hdg : decode cc pc = .ok (.getfield index, 3)) (kk : W p l e R s m args below meth c H locs 0 0 Q (F0 m (pc + 3) ls (w :: rest))) : W p l e R s m args below meth c H locs 0 0 Q (F0 m pc ls (.ref q :: rest)) := by
  subst hw
  obtain ⟨cf, k, fi, f, cell, h1, h2, h3, h4, h5, h6⟩ := hE.kept hS.2.1
  exact va_Wgetf K.1 K.2.1 K.2.2.2.1 (va_Nw.use rfl hlink) h1 h2 h3 h4 (v := v) h5 rfl rfl hdg kk
theorem x_copy {cI cJ cC cZ cR : ClassId} (K : Cx p R s m args meth c cc nL own gT D cls8 (tys5 cI cJ cC cZ cR) 64 ad A Zs) (hP : va_P D cls8 (wl 64 ad (GX cI cJ cC cZ cR ad kd) hi hl) H) (hS : va_S A s.heap H locs) (a b : Nat) (ha : a < 6) (hb : b < 6) (hab : a ≠ b) {sp dp n : Int32} (g : cpIn sp dp n 6) {index : Nat} (hlink : Cond.methodLink own index arraycopyName ∈ gT) (hR : 1 ≤ R.frames ∧ 60 ≤ R.locals) (hls : ls.size = nL) (hW : (rest.map fun v => v.category).sum ≤ 8) (hdg : decode cc pc = .ok (.invokestatic index, 3)) (kk : ∀ (H1 : Heap) (locs1 : List Loc), va_P D cls8 (wl 64 ad (GX cI cJ cC cZ cR ad kd) hi (cpL hl a sp b dp n)) H1 → va_S A s.heap H1 locs1 → W p l e R s m args below meth c H1 locs1 0 0 Q (F0 m (pc + 3) ls rest)) : W p l e R s m args below meth c H locs 0 0 Q (F0 m pc ls (.int n :: .int dp :: .ref (ad (14 + b)) :: .int sp :: .ref (ad (14 + a)) :: rest)) := by
  obtain ⟨h1, h2, h3, h4, h5⟩ := g
  refine va_copyl K.1 K.2.1 (K.2.2.1.trans hls.symm) K.2.2.2.1 (K.2.2.2.2.1 _ hlink) (K.2.2.2.2.1 _ (show Cond.native arraycopyName ∈ gT from gT_1 (i := 597) (by decide +kernel) rfl)) (K.2.2.2.2.1 _ (show Cond.static arraycopyName ∈ gT from gT_1 (i := 596) (by decide +kernel) rfl)) (K.2.2.2.2.1 _ (show Cond.initialized "java/lang/System" ∈ gT from gT_1 (i := 16) (by decide +kernel) rfl)) K.2.2.2.2.2.2.1 hP K.2.2.2.2.2.2.2.1.D hS (14 + a) (14 + b) 1 1 ((wl_at (lt_g ha)).trans (by rw [GX_garr _ ha])) ((wl_at (lt_g hb)).trans (by rw [GX_garr _ hb])) rfl rfl rfl (Int32.not_lt.mpr h1) (Int32.not_lt.mpr h2) (Int32.not_lt.mpr h3) h4 h5 (fun _ _ => rfl) hR.1 (Nat.le_trans (Nat.add_le_add_right hW _) (Nat.le_trans (Nat.le_of_ble_eq_true rfl) hR.2)) hdg (fun H1 locs1 hP1 _ hS1 => kk H1 locs1 ?_ hS1)
  rw [← GX_garr (cI := cI) (cC := cC) (cZ := cZ) (cR := cR) (ad := ad) (kd := kd) b hb (hi (14 + b)), wl_setG (lt_g hb)] at hP1
  have e : (fun c => if c = 14 + b then va_cpy (hl (14 + a)) (hl (14 + b)) sp.toNatClampNeg dp.toNatClampNeg n.toNatClampNeg else hl c) = cpL hl a sp b dp n := by
    funext c j
    unfold cpL
    by_cases h : c = 14 + b <;> simp [h]
  rw [e] at hP1
  exact hP1
end RB
