/-! worlds of N cells: cell k lies at ad k and holds G k (hi k) (hl k) -/
abbrev GW : Type := Nat → (Nat → Int32) → (Nat → Int64) → va_E
def wl (N : Nat) (ad : Nat → Nat) (G : GW) (hi : HI) (hl : HL) : va_W := (List.range N).map (fun k => (ad k, G k (hi k) (hl k)))
theorem wl_at {N : Nat} {ad : Nat → Nat} {G : GW} {hi : HI} {hl : HL} {k : Nat} (h : k < N) : (wl N ad G hi hl)[k]? = some (ad k, G k (hi k) (hl k)) := by
  unfold wl
  rw [List.getElem?_map, List.getElem?_range h]
  rfl
theorem wl_len {N : Nat} {ad : Nat → Nat} {G : GW} {hi : HI} {hl : HL} : (wl N ad G hi hl).length = N := by
  unfold wl
  simp
theorem u2_rowI (h : HI) (c j : Nat) (v : Int32) : u2 h c j v c = upd (h c) j v := by
  funext b
  simp [u2, upd]
theorem u2_rowL (h : HL) (c j : Nat) (v : Int64) : u2 h c j v c = vp_updL (h c) j v := by
  funext b
  simp [u2, vp_updL]
theorem u2_off {α : Type} (h : Nat → Nat → α) (c j : Nat) (v : α) {k : Nat} (hk : k ≠ c) : u2 h c j v k = h k := by
  funext b
  simp [u2, hk]
theorem wl_setI {N : Nat} {ad : Nat → Nat} {G : GW} {hi : HI} {hl : HL} {k : Nat} (hk : k < N) (j : Nat) (x : Int32) : (wl N ad G hi hl).set k (ad k, G k (upd (hi k) j x) (hl k)) = wl N ad G (u2 hi k j x) hl := by
  apply List.ext_getElem?
  intro i
  by_cases h : i = k
  · subst h
    rw [List.getElem?_set_self (by rw [wl_len]; exact hk), wl_at hk, u2_rowI]
  · rw [List.getElem?_set_ne (Ne.symm h)]
    by_cases hN : i < N
    · rw [wl_at hN, wl_at hN, u2_off _ _ _ _ h]
    · rw [List.getElem?_eq_none (by rw [wl_len]; omega), List.getElem?_eq_none (by rw [wl_len]; omega)]
theorem wl_setL {N : Nat} {ad : Nat → Nat} {G : GW} {hi : HI} {hl : HL} {k : Nat} (hk : k < N) (j : Nat) (x : Int64) : (wl N ad G hi hl).set k (ad k, G k (hi k) (vp_updL (hl k) j x)) = wl N ad G hi (u2 hl k j x) := by
  apply List.ext_getElem?
  intro i
  by_cases h : i = k
  · subst h
    rw [List.getElem?_set_self (by rw [wl_len]; exact hk), wl_at hk, u2_rowL]
  · rw [List.getElem?_set_ne (Ne.symm h)]
    by_cases hN : i < N
    · rw [wl_at hN, wl_at hN, u2_off _ _ _ _ h]
    · rw [List.getElem?_eq_none (by rw [wl_len]; omega), List.getElem?_eq_none (by rw [wl_len]; omega)]
/-- the addresses are apart, and of a kind -/
def wlD (N : Nat) (ad : Nat → Nat) (A : Nat → Prop) : Prop := (∀ i j, i < N → j < N → ad i = ad j → i = j) ∧ ∀ k, k < N → A (ad k)
theorem wl_lt {N : Nat} {ad : Nat → Nat} {G : GW} {hi : HI} {hl : HL} {k : Nat} {q : Nat × va_E} (h : (wl N ad G hi hl)[k]? = some q) : k < N ∧ q = (ad k, G k (hi k) (hl k)) := by
  have hk : k < N := by
    have := (List.getElem?_eq_some_iff.mp h).1
    rw [wl_len] at this
    exact this
  rw [wl_at hk] at h
  exact ⟨hk, (Option.some.inj h).symm⟩
theorem wlD.D {N : Nat} {ad : Nat → Nat} {A : Nat → Prop} (h : wlD N ad A) {G : GW} {hi : HI} {hl : HL} : va_D A (wl N ad G hi hl) := by
  refine ⟨fun i j p q hp hq he => ?_, fun k q hq => ?_⟩
  · obtain ⟨h1, e1⟩ := wl_lt hp
    obtain ⟨h2, e2⟩ := wl_lt hq
    subst e1; subst e2
    exact h.1 i j h1 h2 he
  · obtain ⟨h1, e1⟩ := wl_lt hq
    subst e1
    exact h.2 k h1
/-- what stays the same all through a method's walk -/
def Cx (p : Program) (R : Room) (s : State) (m : MethodId) (args : Array Value) (meth : Method) (c : Code) (cc : ByteArray) (nL : Nat) (own : String) (Ts : List Cond) (D : va_G) (cl : List vw_C) (tys : List (ClassId × FieldType)) (N : Nat) (ad : Nat → Nat) (A : Nat → Prop) (Zs : State → Prop) : Prop :=
  p.tables.exec = Jvm.exec ∧ c.code = cc ∧ c.maxLocals = nL ∧ s.vm.findClass own = some m.cls ∧ (∀ w ∈ Ts, w.before args s = true) ∧ meth.locks = false ∧ va_K D cl tys s ∧ wlD N ad A ∧ Zs s
section RX
variable {p : Program} {l : Launch} {e : Env} {R : Room} {s : State} {m : MethodId} {args : Array Value} {below : List Frame} {meth : Method} {c : Code} {H : Heap} {locs : List Loc} {cells slots : Nat} {Q : State → Prop}
variable {cc : ByteArray} {nL : Nat} {own : String} {Ts : List Cond} {D : va_G} {cl : List vw_C} {tys : List (ClassId × FieldType)} {N : Nat} {ad : Nat → Nat} {A : Nat → Prop} {Zs : State → Prop} {G : GW} {hi : HI} {hl : HL}
variable {pc : Nat} {ls : Array Slot} {rest : List Value}
theorem x_get (K : Cx p R s m args meth c cc nL own Ts D cl tys N ad A Zs) (hP : va_P D cl (wl N ad G hi hl) H) {ref C : String} {T : u_T} {NN ci index : Nat} (hin : ∀ w ∈ u_ws C T NN, w ∈ Ts) (hc : cl[ci]? = some (C, T, NN)) (k : Nat) (hk : k < N) {fs : List Value} (hG : G k (hi k) (hl k) = .inr (ci, fs)) (j : Nat) (hj : j < NN) (hlink : Cond.fieldLink own index ref (T j).2.1 (T j).2.2.1 ∈ Ts) (href : (T j).1 = ref) {v : Value} (hv : fs[j]? = some v) (hdg : decode cc pc = .ok (.getfield index, 3))
    (kk : W p l e R s m args below meth c H locs cells slots Q (F0 m (pc + 3) ls (v :: rest))) : W p l e R s m args below meth c H locs cells slots Q (F0 m pc ls (.ref (ad k) :: rest)) := by
  obtain ⟨hx, hb, hml, hown, hts, hlk, hK, hD, hZ⟩ := K
  exact va_get (ci := ci) (C := C) (T := T) (N := NN) hx hb hts hin hown hK hP k ((wl_at hk).trans (by rw [hG])) hc j hj (hts _ hlink) (fun x9 h9 => href ▸ h9) hv hdg kk
theorem x_getN (K : Cx p R s m args meth c cc nL own Ts D cl tys N ad A Zs) (hP : va_P D cl (wl N ad G hi hl) H) {ref C host : String} {T : u_T} {NN ci index : Nat} (hin : ∀ w ∈ u_ws C T NN, w ∈ Ts) (hc : cl[ci]? = some (C, T, NN)) (k : Nat) (hk : k < N) {fs : List Value} (hG : G k (hi k) (hl k) = .inr (ci, fs)) (j : Nat) (hj : j < NN) (hlink : va_Nw (.fieldLinkNest own index ref (T j).2.1 (T j).2.2.1 host) s) (href : (T j).1 = ref) {v : Value} (hv : fs[j]? = some v) (hdg : decode cc pc = .ok (.getfield index, 3))
    (kk : W p l e R s m args below meth c H locs cells slots Q (F0 m (pc + 3) ls (v :: rest))) : W p l e R s m args below meth c H locs cells slots Q (F0 m pc ls (.ref (ad k) :: rest)) := by
  obtain ⟨hx, hb, hml, hown, hts, hlk, hK, hD, hZ⟩ := K
  exact va_getN (ci := ci) (C := C) (T := T) (N := NN) hx hb hts hin hown hK hP k ((wl_at hk).trans (by rw [hG])) hc j hj (va_Nw.use rfl hlink) (fun x9 h9 => href ▸ h9) hv hdg kk
theorem x_put (K : Cx p R s m args meth c cc nL own Ts D cl tys N ad A Zs) (hP : va_P D cl (wl N ad G hi hl) H) (hS : va_S A s.heap H locs) {ref C : String} {T : u_T} {NN ci index : Nat} (hin : ∀ w ∈ u_ws C T NN, w ∈ Ts) (ty0 : Nat → FieldType) (hty : ∀ k, k < NN → parseFieldDescriptor (T k).2.2.1 = some (ty0 k)) (hnm : ∀ a, a < NN → ∀ b, b < NN → a ≠ b → (T a).2.1 ≠ (T b).2.1) (hc : cl[ci]? = some (C, T, NN)) (k : Nat) (hk : k < N) {fs : List Value} (hG : G k (hi k) (hl k) = .inr (ci, fs)) (j : Nat) (hj : j < NN) (hlink : Cond.fieldLink own index ref (T j).2.1 (T j).2.2.1 ∈ Ts) (href : (T j).1 = ref) (hfin : (T j).2.2.2 = false) (x : Int32) {v : Value} (hG2 : G k (upd (hi k) j x) (hl k) = .inr (ci, fs.set j v)) (hn : narrow (ty0 j) v = v) (hfit : fits (ty0 j) v = true) (hlen : j < fs.length) (hdg : decode cc pc = .ok (.putfield index, 3))
    (kk : ∀ (H1 : Heap) (locs1 : List Loc), va_P D cl (wl N ad G (u2 hi k j x) hl) H1 → va_S A s.heap H1 locs1 → W p l e R s m args below meth c H1 locs1 cells slots Q (F0 m (pc + 3) ls rest)) : W p l e R s m args below meth c H locs cells slots Q (F0 m pc ls (v :: .ref (ad k) :: rest)) := by
  obtain ⟨hx, hb, hml, hown, hts, hlk, hK, hD, hZ⟩ := K
  refine va_put (ci := ci) (C := C) (T := T) (N := NN) hx hb hts hin ty0 hty hnm hown hK hP hD.D hS k ((wl_at hk).trans (by rw [hG])) hc j hj (hts _ hlink) (fun x9 h9 => href ▸ h9) hfin (hty j hj) hn hfit hlen hdg (fun H1 locs1 hP1 _ hS1 => kk H1 locs1 ?_ hS1)
  rw [← hG2, wl_setI hk] at hP1
  exact hP1
theorem x_putN (K : Cx p R s m args meth c cc nL own Ts D cl tys N ad A Zs) (hP : va_P D cl (wl N ad G hi hl) H) (hS : va_S A s.heap H locs) {ref C host : String} {T : u_T} {NN ci index : Nat} (hin : ∀ w ∈ u_ws C T NN, w ∈ Ts) (ty0 : Nat → FieldType) (hty : ∀ k, k < NN → parseFieldDescriptor (T k).2.2.1 = some (ty0 k)) (hnm : ∀ a, a < NN → ∀ b, b < NN → a ≠ b → (T a).2.1 ≠ (T b).2.1) (hc : cl[ci]? = some (C, T, NN)) (k : Nat) (hk : k < N) {fs : List Value} (hG : G k (hi k) (hl k) = .inr (ci, fs)) (j : Nat) (hj : j < NN) (hlink : va_Nw (.fieldLinkNest own index ref (T j).2.1 (T j).2.2.1 host) s) (href : (T j).1 = ref) (hfin : (T j).2.2.2 = false) (x : Int32) {v : Value} (hG2 : G k (upd (hi k) j x) (hl k) = .inr (ci, fs.set j v)) (hn : narrow (ty0 j) v = v) (hfit : fits (ty0 j) v = true) (hlen : j < fs.length) (hdg : decode cc pc = .ok (.putfield index, 3))
    (kk : ∀ (H1 : Heap) (locs1 : List Loc), va_P D cl (wl N ad G (u2 hi k j x) hl) H1 → va_S A s.heap H1 locs1 → W p l e R s m args below meth c H1 locs1 cells slots Q (F0 m (pc + 3) ls rest)) : W p l e R s m args below meth c H locs cells slots Q (F0 m pc ls (v :: .ref (ad k) :: rest)) := by
  obtain ⟨hx, hb, hml, hown, hts, hlk, hK, hD, hZ⟩ := K
  refine va_putN (ci := ci) (C := C) (T := T) (N := NN) hx hb hts hin ty0 hty hnm hown hK hP hD.D hS k ((wl_at hk).trans (by rw [hG])) hc j hj (va_Nw.use rfl hlink) (fun x9 h9 => href ▸ h9) hfin (hty j hj) hn hfit hlen hdg (fun H1 locs1 hP1 _ hS1 => kk H1 locs1 ?_ hS1)
  rw [← hG2, wl_setI hk] at hP1
  exact hP1
theorem x_iald (K : Cx p R s m args meth c cc nL own Ts D cl tys N ad A Zs) (hP : va_P D cl (wl N ad G hi hl) H) (k : Nat) (hk : k < N) (t0 : Nat) {cA : ClassId} {n : Nat} (hG : G k (hi k) (hl k) = .inl (cA, n, .inl (hi k))) (ht : tys[t0]? = some (cA, .int)) {i : Int32} (hin : vp_in i n) (hdg : decode cc pc = .ok (.iaload, 1))
    (kk : W p l e R s m args below meth c H locs cells slots Q (F0 m (pc + 1) ls (.int (hi k i.toNatClampNeg) :: rest))) : W p l e R s m args below meth c H locs cells slots Q (F0 m pc ls (.int i :: .ref (ad k) :: rest)) :=
  va_iald K.1 K.2.1 K.2.2.2.2.2.2.1 hP k t0 ((wl_at hk).trans (by rw [hG])) ht hin hdg kk
theorem x_zald (K : Cx p R s m args meth c cc nL own Ts D cl tys N ad A Zs) (hP : va_P D cl (wl N ad G hi hl) H) (k : Nat) (hk : k < N) (t0 : Nat) {cA : ClassId} {n : Nat} (hG : G k (hi k) (hl k) = .inl (cA, n, .inl (hi k))) (ht : tys[t0]? = some (cA, .boolean)) {i : Int32} (hin : vp_in i n) (hdg : decode cc pc = .ok (.baload, 1))
    (kk : W p l e R s m args below meth c H locs cells slots Q (F0 m (pc + 1) ls (.int (hi k i.toNatClampNeg) :: rest))) : W p l e R s m args below meth c H locs cells slots Q (F0 m pc ls (.int i :: .ref (ad k) :: rest)) :=
  va_zald K.1 K.2.1 K.2.2.2.2.2.2.1 hP k t0 ((wl_at hk).trans (by rw [hG])) ht hin hdg kk
theorem x_cald (K : Cx p R s m args meth c cc nL own Ts D cl tys N ad A Zs) (hP : va_P D cl (wl N ad G hi hl) H) (k : Nat) (hk : k < N) (t0 : Nat) {cA : ClassId} {n : Nat} (hG : G k (hi k) (hl k) = .inl (cA, n, .inl (hi k))) (ht : tys[t0]? = some (cA, .char)) {i : Int32} (hin : vp_in i n) (hdg : decode cc pc = .ok (.caload, 1))
    (kk : W p l e R s m args below meth c H locs cells slots Q (F0 m (pc + 1) ls (.int (hi k i.toNatClampNeg) :: rest))) : W p l e R s m args below meth c H locs cells slots Q (F0 m pc ls (.int i :: .ref (ad k) :: rest)) :=
  va_cald K.1 K.2.1 K.2.2.2.2.2.2.1 hP k t0 ((wl_at hk).trans (by rw [hG])) ht hin hdg kk
theorem x_lald (K : Cx p R s m args meth c cc nL own Ts D cl tys N ad A Zs) (hP : va_P D cl (wl N ad G hi hl) H) (k : Nat) (hk : k < N) (t0 : Nat) {cA : ClassId} {n : Nat} (hG : G k (hi k) (hl k) = .inl (cA, n, .inr (.inl (hl k)))) (ht : tys[t0]? = some (cA, .long)) {i : Int32} (hin : vp_in i n) (hdg : decode cc pc = .ok (.laload, 1))
    (kk : W p l e R s m args below meth c H locs cells slots Q (F0 m (pc + 1) ls (.long (hl k i.toNatClampNeg) :: rest))) : W p l e R s m args below meth c H locs cells slots Q (F0 m pc ls (.int i :: .ref (ad k) :: rest)) :=
  va_lald K.1 K.2.1 K.2.2.2.2.2.2.1 hP k t0 ((wl_at hk).trans (by rw [hG])) ht hin hdg kk
theorem x_aald (K : Cx p R s m args meth c cc nL own Ts D cl tys N ad A Zs) (hP : va_P D cl (wl N ad G hi hl) H) (k : Nat) (hk : k < N) (t0 : Nat) {cA : ClassId} {C : String} {n : Nat} {f : Nat → Option Nat} (hG : G k (hi k) (hl k) = .inl (cA, n, .inr (.inr (.inr (.inr f))))) (ht : tys[t0]? = some (cA, .object C)) {i : Int32} (hin : vp_in i n) {q : Nat} (hf : f i.toNatClampNeg = some q) (hdg : decode cc pc = .ok (.aaload, 1))
    (kk : W p l e R s m args below meth c H locs cells slots Q (F0 m (pc + 1) ls (.ref q :: rest))) : W p l e R s m args below meth c H locs cells slots Q (F0 m pc ls (.int i :: .ref (ad k) :: rest)) :=
  va_aldq K.1 K.2.1 K.2.2.2.2.2.2.1 hP k t0 ((wl_at hk).trans (by rw [hG])) ht hin hdg (by rw [hf]; exact kk)
theorem x_iast (K : Cx p R s m args meth c cc nL own Ts D cl tys N ad A Zs) (hP : va_P D cl (wl N ad G hi hl) H) (hS : va_S A s.heap H locs) (k : Nat) (hk : k < N) (t0 : Nat) {cA : ClassId} {n : Nat} (hG : ∀ f, G k f (hl k) = .inl (cA, n, .inl f)) (ht : tys[t0]? = some (cA, .int)) {i x : Int32} (hin : vp_in i n) (hdg : decode cc pc = .ok (.iastore, 1))
    (kk : ∀ (H1 : Heap) (locs1 : List Loc), va_P D cl (wl N ad G (u2 hi k i.toNatClampNeg x) hl) H1 → va_S A s.heap H1 locs1 → W p l e R s m args below meth c H1 locs1 cells slots Q (F0 m (pc + 1) ls rest)) : W p l e R s m args below meth c H locs cells slots Q (F0 m pc ls (.int x :: .int i :: .ref (ad k) :: rest)) := by
  refine va_iast K.1 K.2.1 K.2.2.2.2.2.2.1 hP K.2.2.2.2.2.2.2.1.D hS k t0 ((wl_at hk).trans (by rw [hG])) ht hin hdg (fun H1 locs1 hP1 _ hS1 => kk H1 locs1 ?_ hS1)
  rw [← hG, wl_setI hk] at hP1
  exact hP1
theorem x_zast (K : Cx p R s m args meth c cc nL own Ts D cl tys N ad A Zs) (hP : va_P D cl (wl N ad G hi hl) H) (hS : va_S A s.heap H locs) (k : Nat) (hk : k < N) (t0 : Nat) {cA : ClassId} {n : Nat} (hG : ∀ f, G k f (hl k) = .inl (cA, n, .inl f)) (ht : tys[t0]? = some (cA, .boolean)) {i x : Int32} (hin : vp_in i n) (hdg : decode cc pc = .ok (.bastore, 1))
    (kk : ∀ (H1 : Heap) (locs1 : List Loc), va_P D cl (wl N ad G (u2 hi k i.toNatClampNeg (vp_nar .boolean x)) hl) H1 → va_S A s.heap H1 locs1 → W p l e R s m args below meth c H1 locs1 cells slots Q (F0 m (pc + 1) ls rest)) : W p l e R s m args below meth c H locs cells slots Q (F0 m pc ls (.int x :: .int i :: .ref (ad k) :: rest)) := by
  refine va_zast K.1 K.2.1 K.2.2.2.2.2.2.1 hP K.2.2.2.2.2.2.2.1.D hS k t0 ((wl_at hk).trans (by rw [hG])) ht hin hdg (fun H1 locs1 hP1 _ hS1 => kk H1 locs1 ?_ hS1)
  rw [← hG, wl_setI hk] at hP1
  exact hP1
theorem x_cast (K : Cx p R s m args meth c cc nL own Ts D cl tys N ad A Zs) (hP : va_P D cl (wl N ad G hi hl) H) (hS : va_S A s.heap H locs) (k : Nat) (hk : k < N) (t0 : Nat) {cA : ClassId} {n : Nat} (hG : ∀ f, G k f (hl k) = .inl (cA, n, .inl f)) (ht : tys[t0]? = some (cA, .char)) {i x : Int32} (hin : vp_in i n) (hdg : decode cc pc = .ok (.castore, 1))
    (kk : ∀ (H1 : Heap) (locs1 : List Loc), va_P D cl (wl N ad G (u2 hi k i.toNatClampNeg (vp_nar .char x)) hl) H1 → va_S A s.heap H1 locs1 → W p l e R s m args below meth c H1 locs1 cells slots Q (F0 m (pc + 1) ls rest)) : W p l e R s m args below meth c H locs cells slots Q (F0 m pc ls (.int x :: .int i :: .ref (ad k) :: rest)) := by
  refine va_cast K.1 K.2.1 K.2.2.2.2.2.2.1 hP K.2.2.2.2.2.2.2.1.D hS k t0 ((wl_at hk).trans (by rw [hG])) ht hin hdg (fun H1 locs1 hP1 _ hS1 => kk H1 locs1 ?_ hS1)
  rw [← hG, wl_setI hk] at hP1
  exact hP1
theorem x_last (K : Cx p R s m args meth c cc nL own Ts D cl tys N ad A Zs) (hP : va_P D cl (wl N ad G hi hl) H) (hS : va_S A s.heap H locs) (k : Nat) (hk : k < N) (t0 : Nat) {cA : ClassId} {n : Nat} (hG : ∀ f, G k (hi k) f = .inl (cA, n, .inr (.inl f))) (ht : tys[t0]? = some (cA, .long)) {i : Int32} {x : Int64} (hin : vp_in i n) (hdg : decode cc pc = .ok (.lastore, 1))
    (kk : ∀ (H1 : Heap) (locs1 : List Loc), va_P D cl (wl N ad G hi (u2 hl k i.toNatClampNeg x)) H1 → va_S A s.heap H1 locs1 → W p l e R s m args below meth c H1 locs1 cells slots Q (F0 m (pc + 1) ls rest)) : W p l e R s m args below meth c H locs cells slots Q (F0 m pc ls (.long x :: .int i :: .ref (ad k) :: rest)) := by
  refine va_last K.1 K.2.1 K.2.2.2.2.2.2.1 hP K.2.2.2.2.2.2.2.1.D hS k t0 ((wl_at hk).trans (by rw [hG])) ht hin hdg (fun H1 locs1 hP1 _ hS1 => kk H1 locs1 ?_ hS1)
  rw [← hG, wl_setL hk] at hP1
  exact hP1
theorem x_alen (K : Cx p R s m args meth c cc nL own Ts D cl tys N ad A Zs) (hP : va_P D cl (wl N ad G hi hl) H) (k : Nat) (hk : k < N) (t0 : Nat) {cA : ClassId} {ty : FieldType} {x : vp_A} (hG : G k (hi k) (hl k) = .inl (cA, x)) (ht : tys[t0]? = some (cA, ty)) {v : Int32} (hv : nI x.1 = v) (hdg : decode cc pc = .ok (.arraylength, 1))
    (kk : W p l e R s m args below meth c H locs cells slots Q (F0 m (pc + 1) ls (.int v :: rest))) : W p l e R s m args below meth c H locs cells slots Q (F0 m pc ls (.ref (ad k) :: rest)) := by
  exact va_alen K.1 K.2.1 K.2.2.2.2.2.2.1 hP k t0 ((wl_at hk).trans (by rw [hG])) ht hv hdg kk
end RX
