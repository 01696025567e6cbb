/-! constructors: rows over a world that grows -/
def Zc (U : State) : Prop := (∀ w ∈ nestW, va_Nw w U) ∧ va_AO "WordChecker$Line" U
theorem Zc_same {s U : State} (hv : s.vm = U.vm) (h : Zc s) : Zc U := ⟨nest_same hv h.1, h.2.moved (hv ▸ Vm.Alike.refl s.vm)⟩
theorem Zc_warm {s U : State} (hW : s.WarmedH U.vm) (h : Zc s) : Zc U := ⟨nest_warm hW h.1, h.2.moved hW.alike⟩
def CtP (D : va_G) (tys : List (ClassId × FieldType)) (A : Nat → Prop) (ws : va_W) (U : State) : Prop := va_P D cls8 ws U.heap ∧ va_K D cls8 tys U ∧ va_D A ws ∧ (∀ q, U.heap.size ≤ q → A q) ∧ Zc U
abbrev rmN (fr lo mc ms : Nat) : Room := { frames := fr, cells := mc, slots := ms, locals := lo }
/-- a constructor's contract: the world behind it is of a form -/
def SpN (l : Launch) (y : MethodName) (bytes : ByteArray) (maxL fr lo mc ms : Nat) (av : List Value) (D : va_G) (tys : List (ClassId × FieldType)) (A : Nat → Prop) (ws : va_W) (post : va_W → Prop) : Prop :=
  Met l y (Cond.code y bytes maxL none :: gT) (rmN fr lo mc ms) (va_Pc av (CtP D tys A ws)) (va_Qv post (fun W t => va_P D cls8 W t.heap ∧ va_D A W) A) mc ms A
def CalI (y : MethodName) (bytes : ByteArray) (maxL n : Nat) : Prop := Cal gT y bytes maxL none n ∧ y.name = "<init>" ∧ Cond.instanceMethod y ∈ gT
def Cc (p : Program) (s : State) (m : MethodId) (args : Array Value) (meth : Method) (c : Code) (cc : ByteArray) (nL : Nat) (own : String) (D : va_G) (tys : List (ClassId × FieldType)) (A : Nat → Prop) : Prop :=
  p.tables.exec = Jvm.exec ∧ c.code = cc ∧ c.maxLocals = nL ∧ s.vm.findClass own = some m.cls ∧ (∀ w ∈ gT, w.before args s = true) ∧ meth.locks = false ∧ va_K D cls8 tys s ∧ (∀ q, s.heap.size ≤ q → A q) ∧ Zc s ∧ meth.name = "<init>"
def zw (ws : va_W) (k : Nat) (x : Nat × va_E) (ns : va_W) : va_W := ws.set k x ++ ns
theorem ws_self {ws : va_W} {k : Nat} {x : Nat × va_E} (h : ws[k]? = some x) : zw ws k x [] = ws := by
  unfold zw
  rw [List.append_nil]
  apply List.ext_getElem?
  intro i
  by_cases e : i = k
  · subst e
    rw [List.getElem?_set_self (List.getElem?_eq_some_iff.mp h).1, h]
  · rw [List.getElem?_set_ne (Ne.symm e)]
theorem zw_at {ws ns : va_W} {k : Nat} {x : Nat × va_E} (hk : k < ws.length) : (zw ws k x ns)[k]? = some x := by
  unfold zw
  rw [List.getElem?_append_left (by rw [List.length_set]; exact hk), List.getElem?_set_self hk]
theorem zw_set {ws ns : va_W} {k : Nat} {x y : Nat × va_E} (hk : k < ws.length) : (zw ws k x ns).set k y = zw ws k y ns := by
  unfold zw
  rw [List.set_append_left _ _ (by rw [List.length_set]; exact hk), List.set_set]
theorem zw_new {ws ns : va_W} {k : Nat} {x : Nat × va_E} {j : Nat} {z : Nat × va_E} (h : ns[j]? = some z) : (zw ws k x ns)[ws.length + j]? = some z := by
  unfold zw
  rw [List.getElem?_append_right (by rw [List.length_set]; omega), List.length_set, Nat.add_sub_cancel_left]; exact h
theorem zw_setn {ws ns : va_W} {k : Nat} {x y : Nat × va_E} {j : Nat} : (zw ws k x ns).set (ws.length + j) y = zw ws k x (ns.set j y) := by
  unfold zw
  rw [List.set_append_right _ _ (by rw [List.length_set]; omega), List.length_set, Nat.add_sub_cancel_left]
theorem zw_app {ws ns ms : va_W} {k : Nat} {x : Nat × va_E} : zw ws k x ns ++ ms = zw ws k x (ns ++ ms) := List.append_assoc _ _ _
theorem zw_call {ws ns ms : va_W} {k : Nat} {x y : Nat × va_E} {j : Nat} : zw (zw ws k x ns) (ws.length + j) y ms = zw ws k x (ns.set j y ++ ms) := by
  show (zw ws k x ns).set (ws.length + j) y ++ ms = _
  rw [zw_setn, zw_app]
section RN
variable {p : Program} {l : Launch} {e : Env} {R : Room} {s : State} {m : MethodId} {args : Array Value} {below : List Frame} {meth : Method} {c : Code} {H : Heap} {locs : List Loc} {cells slots : Nat} {Q : State → Prop}
variable {cc : ByteArray} {nL : Nat} {own : String} {D : va_G} {cI cJ cC cZ cR : ClassId} {A : Nat → Prop}
variable {pc : Nat} {ls : Array Slot} {st0 rest As : List Value} {ws ns : va_W} {k a : Nat} {x0 : va_E}
theorem z_put {tys : List (ClassId × FieldType)} (K : Cc p s m args meth c cc nL own D tys A) (hk : k < ws.length) {ref C : String} {T : u_T} {NN ci index : Nat} {fs : List Value} (hP : va_P D cls8 (zw ws k (a, .inr (ci, fs)) ns) H) (hD : va_D A (zw ws k (a, .inr (ci, fs)) ns)) (hS : va_S A s.heap H locs) (hin : ∀ w ∈ u_ws C T NN, w ∈ gT) (ty0 : Nat → FieldType) (hty : ∀ k, k < NN → parseFieldDescriptor (T k).2.2.1 = some (ty0 k)) (hnm : ∀ a, a < NN → ∀ b, b < NN → a ≠ b → (T a).2.1 ≠ (T b).2.1) (hc : cls8[ci]? = some (C, T, NN)) (j : Nat) (hj : j < NN) (hlink : Cond.fieldLink own index ref (T j).2.1 (T j).2.2.1 ∈ gT) (href : (T j).1 = ref) (hfin : (T j).2.2.2 = false) {v : Value} (hn : narrow (ty0 j) v = v) (hfit : fits (ty0 j) v = true) (hlen : j < fs.length) (hdg : decode cc pc = .ok (.putfield index, 3))
    (kk : ∀ (H1 : Heap) (locs1 : List Loc), va_P D cls8 (zw ws k (a, .inr (ci, fs.set j v)) ns) H1 → va_D A (zw ws k (a, .inr (ci, fs.set j v)) ns) → va_S A s.heap H1 locs1 → W p l e R s m args below meth c H1 locs1 cells slots Q (F0 m (pc + 3) ls rest)) : W p l e R s m args below meth c H locs cells slots Q (F0 m pc ls (v :: .ref a :: rest)) := by
  obtain ⟨hx, hb, hml, hown, hts, hlk, hK, hA, hZ, hnmi⟩ := K
  refine va_put (ci := ci) (C := C) (T := T) (N := NN) hx hb hts hin ty0 hty hnm hown hK hP hD hS k (zw_at hk) hc j hj (hts _ hlink) (fun x9 h9 => href ▸ h9) hfin (hty j hj) hn hfit hlen hdg (fun H1 locs1 hP1 hD1 hS1 => kk H1 locs1 ?_ ?_ hS1)
  · rw [zw_set hk] at hP1; exact hP1
  · rw [zw_set hk] at hD1; exact hD1
theorem z_putF {tys : List (ClassId × FieldType)} (K : Cc p s m args meth c cc nL own D tys A) (hk : k < ws.length) {ref C : String} {T : u_T} {NN ci index : Nat} {fs : List Value} (hP : va_P D cls8 (zw ws k (a, .inr (ci, fs)) ns) H) (hD : va_D A (zw ws k (a, .inr (ci, fs)) ns)) (hS : va_S A s.heap H locs) (hin : ∀ w ∈ u_ws C T NN, w ∈ gT) (ty0 : Nat → FieldType) (hty : ∀ k, k < NN → parseFieldDescriptor (T k).2.2.1 = some (ty0 k)) (hnm : ∀ a, a < NN → ∀ b, b < NN → a ≠ b → (T a).2.1 ≠ (T b).2.1) (hc : cls8[ci]? = some (C, T, NN)) (j : Nat) (hj : j < NN) (hlink : Cond.fieldLink own index ref (T j).2.1 (T j).2.2.1 ∈ gT) (href : (T j).1 = ref) (hfin : (T j).2.2.2 = true) (hdecl : (T j).1 = own) {v : Value} (hn : narrow (ty0 j) v = v) (hfit : fits (ty0 j) v = true) (hlen : j < fs.length) (hdg : decode cc pc = .ok (.putfield index, 3))
    (kk : ∀ (H1 : Heap) (locs1 : List Loc), va_P D cls8 (zw ws k (a, .inr (ci, fs.set j v)) ns) H1 → va_D A (zw ws k (a, .inr (ci, fs.set j v)) ns) → va_S A s.heap H1 locs1 → W p l e R s m args below meth c H1 locs1 cells slots Q (F0 m (pc + 3) ls rest)) : W p l e R s m args below meth c H locs cells slots Q (F0 m pc ls (v :: .ref a :: rest)) := by
  obtain ⟨hx, hb, hml, hown, hts, hlk, hK, hA, hZ, hnmi⟩ := K
  refine va_putF (ci := ci) (C := C) (T := T) (N := NN) hx hb hts hin ty0 hty hnm hown hK hP hD hS k (zw_at hk) hc j hj (hts _ hlink) (fun x9 h9 => href ▸ h9) hfin hnmi hdecl (hty j hj) hn hfit hlen hdg (fun H1 locs1 hP1 hD1 hS1 => kk H1 locs1 ?_ ?_ hS1)
  · rw [zw_set hk] at hP1; exact hP1
  · rw [zw_set hk] at hD1; exact hD1
theorem z_get {tys : List (ClassId × FieldType)} (K : Cc p s m args meth c cc nL own D tys A) (hk : k < ws.length) {ref C : String} {T : u_T} {NN ci index : Nat} {fs : List Value} (hP : va_P D cls8 (zw ws k (a, .inr (ci, fs)) ns) H) (hin : ∀ w ∈ u_ws C T NN, w ∈ gT) (hc : cls8[ci]? = some (C, T, NN)) (j : Nat) (hj : j < NN) (hlink : Cond.fieldLink own index ref (T j).2.1 (T j).2.2.1 ∈ gT) (href : (T j).1 = ref) {v : Value} (hv : fs[j]? = some v) (hdg : decode cc pc = .ok (.getfield index, 3))
    (kk : W p l e R s m args below meth c H locs cells slots Q (F0 m (pc + 3) ls (v :: rest))) : W p l e R s m args below meth c H locs cells slots Q (F0 m pc ls (.ref a :: rest)) := by
  obtain ⟨hx, hb, hml, hown, hts, hlk, hK, hA, hZ, hnmi⟩ := K
  exact va_get (ci := ci) (C := C) (T := T) (N := NN) hx hb hts hin hown hK hP k (zw_at hk) hc j hj (hts _ hlink) (fun x9 h9 => href ▸ h9) hv hdg kk
theorem z_newI (K : Cc p s m args meth c cc nL own D (tys5 cI cJ cC cZ cR) A) (hP : va_P D cls8 (zw ws k (a, x0) ns) H) (hD : va_D A (zw ws k (a, x0) ns)) (hS : va_S A s.heap H locs) {n : Int32} {N' : Nat} (hn : ¬ n < 0) (hN : n.toNatClampNeg = N') (hbytes : N' * componentBytes .int ≤ 536870912) (hcells : cells + 1 ≤ R.cells) (hslots : slots + N' ≤ R.slots) (hdg : decode cc pc = .ok (.newarray .int, 2))
    (kk : ∀ (q : Nat) (H1 : Heap), va_P D cls8 (zw ws k (a, x0) (ns ++ [(q, .inl (cI, N', .inl (fun _ => 0)))])) H1 → va_D A (zw ws k (a, x0) (ns ++ [(q, .inl (cI, N', .inl (fun _ => 0)))])) → va_S A s.heap H1 locs → W p l e R s m args below meth c H1 locs (cells + 1) (slots + N') Q (F0 m (pc + 2) ls (.ref q :: rest))) : W p l e R s m args below meth c H locs cells slots Q (F0 m pc ls (.int n :: rest)) := by
  obtain ⟨hx, hb, hml, hown, hts, hlk, hK, hA, hZ, hnmi⟩ := K
  refine va_newa (atype := .int) (ty := .int) (a0 := (N', .inl (fun _ => 0))) hx hb (hts (.arrayClass .int) (gT_1 (i := 49) (by decide +kernel) rfl)) rfl hK hP hD hS hA (fun _ => rfl) hn hN hbytes hcells hslots hdg (fun q cA H1 hK1 hP1 hD1 hS1 => ?_)
  have e1 : s.vm.findClass ("[" ++ FieldType.toString .int) = some cA := (hK1.2 5 (cA, .int) rfl).2
  have e2 : s.vm.findClass ("[" ++ FieldType.toString .int) = some cI := (hK.2 0 (cI, .int) rfl).2
  have e : cA = cI := Option.some.inj (e1.symm.trans e2)
  subst e
  rw [zw_app] at hP1 hD1
  exact kk q H1 hP1 hD1 hS1
theorem z_newZ (K : Cc p s m args meth c cc nL own D (tys5 cI cJ cC cZ cR) A) (hP : va_P D cls8 (zw ws k (a, x0) ns) H) (hD : va_D A (zw ws k (a, x0) ns)) (hS : va_S A s.heap H locs) {n : Int32} {N' : Nat} (hn : ¬ n < 0) (hN : n.toNatClampNeg = N') (hbytes : N' * componentBytes .boolean ≤ 536870912) (hcells : cells + 1 ≤ R.cells) (hslots : slots + N' ≤ R.slots) (hdg : decode cc pc = .ok (.newarray .boolean, 2))
    (kk : ∀ (q : Nat) (H1 : Heap), va_P D cls8 (zw ws k (a, x0) (ns ++ [(q, .inl (cZ, N', .inl (fun _ => 0)))])) H1 → va_D A (zw ws k (a, x0) (ns ++ [(q, .inl (cZ, N', .inl (fun _ => 0)))])) → va_S A s.heap H1 locs → W p l e R s m args below meth c H1 locs (cells + 1) (slots + N') Q (F0 m (pc + 2) ls (.ref q :: rest))) : W p l e R s m args below meth c H locs cells slots Q (F0 m pc ls (.int n :: rest)) := by
  obtain ⟨hx, hb, hml, hown, hts, hlk, hK, hA, hZ, hnmi⟩ := K
  refine va_newa (atype := .boolean) (ty := .boolean) (a0 := (N', .inl (fun _ => 0))) hx hb (hts (.arrayClass .boolean) (gT_1 (i := 224) (by decide +kernel) rfl)) rfl hK hP hD hS hA (fun _ => rfl) hn hN hbytes hcells hslots hdg (fun q cA H1 hK1 hP1 hD1 hS1 => ?_)
  have e1 : s.vm.findClass ("[" ++ FieldType.toString .boolean) = some cA := (hK1.2 5 (cA, .boolean) rfl).2
  have e2 : s.vm.findClass ("[" ++ FieldType.toString .boolean) = some cZ := (hK.2 3 (cZ, .boolean) rfl).2
  have e : cA = cZ := Option.some.inj (e1.symm.trans e2)
  subst e
  rw [zw_app] at hP1 hD1
  exact kk q H1 hP1 hD1 hS1
theorem z_newC (K : Cc p s m args meth c cc nL own D (tys5 cI cJ cC cZ cR) A) (hP : va_P D cls8 (zw ws k (a, x0) ns) H) (hD : va_D A (zw ws k (a, x0) ns)) (hS : va_S A s.heap H locs) {n : Int32} {N' : Nat} (hn : ¬ n < 0) (hN : n.toNatClampNeg = N') (hbytes : N' * componentBytes .char ≤ 536870912) (hcells : cells + 1 ≤ R.cells) (hslots : slots + N' ≤ R.slots) (hdg : decode cc pc = .ok (.newarray .char, 2))
    (kk : ∀ (q : Nat) (H1 : Heap), va_P D cls8 (zw ws k (a, x0) (ns ++ [(q, .inl (cC, N', .inl (fun _ => 0)))])) H1 → va_D A (zw ws k (a, x0) (ns ++ [(q, .inl (cC, N', .inl (fun _ => 0)))])) → va_S A s.heap H1 locs → W p l e R s m args below meth c H1 locs (cells + 1) (slots + N') Q (F0 m (pc + 2) ls (.ref q :: rest))) : W p l e R s m args below meth c H locs cells slots Q (F0 m pc ls (.int n :: rest)) := by
  obtain ⟨hx, hb, hml, hown, hts, hlk, hK, hA, hZ, hnmi⟩ := K
  refine va_newa (atype := .char) (ty := .char) (a0 := (N', .inl (fun _ => 0))) hx hb (hts (.arrayClass .char) (gT_1 (i := 48) (by decide +kernel) rfl)) rfl hK hP hD hS hA (fun _ => rfl) hn hN hbytes hcells hslots hdg (fun q cA H1 hK1 hP1 hD1 hS1 => ?_)
  have e1 : s.vm.findClass ("[" ++ FieldType.toString .char) = some cA := (hK1.2 5 (cA, .char) rfl).2
  have e2 : s.vm.findClass ("[" ++ FieldType.toString .char) = some cC := (hK.2 2 (cC, .char) rfl).2
  have e : cA = cC := Option.some.inj (e1.symm.trans e2)
  subst e
  rw [zw_app] at hP1 hD1
  exact kk q H1 hP1 hD1 hS1
theorem z_newJ (K : Cc p s m args meth c cc nL own D (tys5 cI cJ cC cZ cR) A) (hP : va_P D cls8 (zw ws k (a, x0) ns) H) (hD : va_D A (zw ws k (a, x0) ns)) (hS : va_S A s.heap H locs) {n : Int32} {N' : Nat} (hn : ¬ n < 0) (hN : n.toNatClampNeg = N') (hbytes : N' * componentBytes .long ≤ 536870912) (hcells : cells + 1 ≤ R.cells) (hslots : slots + N' ≤ R.slots) (hdg : decode cc pc = .ok (.newarray .long, 2))
    (kk : ∀ (q : Nat) (H1 : Heap), va_P D cls8 (zw ws k (a, x0) (ns ++ [(q, .inl (cJ, N', .inr (.inl (fun _ => 0))))])) H1 → va_D A (zw ws k (a, x0) (ns ++ [(q, .inl (cJ, N', .inr (.inl (fun _ => 0))))])) → va_S A s.heap H1 locs → W p l e R s m args below meth c H1 locs (cells + 1) (slots + N') Q (F0 m (pc + 2) ls (.ref q :: rest))) : W p l e R s m args below meth c H locs cells slots Q (F0 m pc ls (.int n :: rest)) := by
  obtain ⟨hx, hb, hml, hown, hts, hlk, hK, hA, hZ, hnmi⟩ := K
  refine va_newa (atype := .long) (ty := .long) (a0 := (N', .inr (.inl (fun _ => 0)))) hx hb (hts (.arrayClass .long) (gT_1 (i := 92) (by decide +kernel) rfl)) rfl hK hP hD hS hA (fun _ => rfl) hn hN hbytes hcells hslots hdg (fun q cA H1 hK1 hP1 hD1 hS1 => ?_)
  have e1 : s.vm.findClass ("[" ++ FieldType.toString .long) = some cA := (hK1.2 5 (cA, .long) rfl).2
  have e2 : s.vm.findClass ("[" ++ FieldType.toString .long) = some cJ := (hK.2 1 (cJ, .long) rfl).2
  have e : cA = cJ := Option.some.inj (e1.symm.trans e2)
  subst e
  rw [zw_app] at hP1 hD1
  exact kk q H1 hP1 hD1 hS1
theorem z_newR (K : Cc p s m args meth c cc nL own D (tys5 cI cJ cC cZ cR) A) (hP : va_P D cls8 (zw ws k (a, x0) ns) H) (hD : va_D A (zw ws k (a, x0) ns)) (hS : va_S A s.heap H locs) {index : Nat} (hclink : Cond.classLink own index "WordChecker$Line" ∈ gT) {n : Int32} {N' : Nat} (hn : ¬ n < 0) (hN : n.toNatClampNeg = N') (hbytes : N' * 4 ≤ 536870912) (hcells : cells + 1 ≤ R.cells) (hslots : slots + N' ≤ R.slots) (hdg : decode cc pc = .ok (.anewarray index, 3))
    (kk : ∀ (q : Nat) (H1 : Heap), va_P D cls8 (zw ws k (a, x0) (ns ++ [(q, .inl (cR, N', .inr (.inr (.inr (.inr (fun _ => none))))))])) H1 → va_D A (zw ws k (a, x0) (ns ++ [(q, .inl (cR, N', .inr (.inr (.inr (.inr (fun _ => none))))))])) → va_S A s.heap H1 locs → W p l e R s m args below meth c H1 locs (cells + 1) (slots + N') Q (F0 m (pc + 3) ls (.ref q :: rest))) : W p l e R s m args below meth c H locs cells slots Q (F0 m pc ls (.int n :: rest)) := by
  obtain ⟨hx, hb, hml, hown, hts, hlk, hK, hA, hZ, hnmi⟩ := K
  refine va_newq hx hb hown (hts _ hclink) hZ.2 hK hP hD hS hA hn hN hbytes hcells hslots hdg (fun q cA H1 hK1 hP1 hD1 hS1 => ?_)
  obtain ⟨_, _, _, _, _, h1⟩ := (hK1.2 5 (cA, .object "WordChecker$Line") rfl).2
  obtain ⟨_, _, _, _, _, h2⟩ := (hK.2 4 (cR, .object "WordChecker$Line") rfl).2
  have e : cA = cR := Option.some.inj (h1.symm.trans h2)
  subst e
  rw [zw_app] at hP1 hD1
  exact kk q H1 hP1 hD1 hS1
theorem z_new {tys : List (ClassId × FieldType)} (K : Cc p s m args meth c cc nL own D tys A) {C : String} {T : u_T} {NN ci index : Nat} (hP : va_P D cls8 (zw ws k (a, x0) ns) H) (hD : va_D A (zw ws k (a, x0) ns)) (hS : va_S A s.heap H locs) (hin : ∀ w ∈ u_ws C T NN, w ∈ gT) (ty0 : Nat → FieldType) (hty : ∀ k, k < NN → parseFieldDescriptor (T k).2.2.1 = some (ty0 k)) (hc : cls8[ci]? = some (C, T, NN)) (hcl : Cond.classLink own index C ∈ gT) (hinst : Cond.instantiable C NN ∈ gT) (hini : Cond.initialized C ∈ gT) {fs : List Value} (hfs : ∀ j, j < NN → defaultValue (ty0 j) = vp_V fs j) (hcells : cells + 1 ≤ R.cells) (hslots : slots + NN ≤ R.slots) (hdg : decode cc pc = .ok (.new index, 3))
    (kk : ∀ (q : Nat) (H1 : Heap), va_P D cls8 (zw ws k (a, x0) (ns ++ [(q, .inr (ci, fs))])) H1 → va_D A (zw ws k (a, x0) (ns ++ [(q, .inr (ci, fs))])) → va_S A s.heap H1 locs → W p l e R s m args below meth c H1 locs (cells + 1) (slots + NN) Q (F0 m (pc + 3) ls (.ref q :: rest))) : W p l e R s m args below meth c H locs cells slots Q (F0 m pc ls rest) := by
  obtain ⟨hx, hb, hml, hown, hts, hlk, hK, hA, hZ, hnmi⟩ := K
  refine va_new (ci := ci) (fs := fs) (C := C) (T := T) (N := NN) hx hb hts hin ty0 hty hown (hts _ hcl) (hts _ hinst) (hts _ hini) hK hP hD hS hA hc hfs hcells hslots hdg (fun q H1 hP1 hD1 hS1 => ?_)
  rw [zw_app] at hP1 hD1
  exact kk q H1 hP1 hD1 hS1
theorem z_obj {tys : List (ClassId × FieldType)} (K : Cc p s m args meth c cc nL own D tys A) {index : Nat} (hlink : Cond.methodLink own index objectInit ∈ gT) (hls : ls.size = nL) {b : Nat} (hfr : 1 ≤ R.frames) (hlo : 12 ≤ R.locals) (hdg : decode cc pc = .ok (.invokespecial index, 3)) (kk : W p l e R s m args below meth c H locs cells slots Q (F0 m (pc + 3) ls [])) : W p l e R s m args below meth c H locs cells slots Q (F0 m pc ls [.ref b]) := by
  obtain ⟨hx, hb, hml, hown, hts, hlk, hK, hA, hZ, hnmi⟩ := K
  exact W.objInit hx hb hown (hts _ hlink) (hts _ (gT_1 (i := 23) (by decide +kernel) rfl)) (hts _ (gT_1 (i := 24) (by decide +kernel) rfl)) rfl (by rw [hml]; exact hls) rfl hdg hfr hlo kk
theorem n_blind {tys : List (ClassId × FieldType)} {av : List Value} : FrameBlind (va_Pc av (CtP D tys A ws)) := fun a U g mk q => by
  obtain ⟨q0, qP, qK, qD, qA, qZ⟩ := q
  exact ⟨q0, qP, va_K.moved (u := U) (U := U.calling g mk a) (Vm.Alike.refl U.vm) qK, qD, qA, Zc_same (s := U) rfl qZ⟩
theorem n_pre {tys : List (ClassId × FieldType)} (K : Cc p s m args meth c cc nL own D tys A) (hP : va_P D cls8 ws H) (hD : va_D A ws) (hS : va_S A s.heap H locs) {av : List Value} : ∀ U : State, U.heap = H → s.WarmedH U.vm → va_Pc av (CtP D tys A ws) av.toArray U := fun U hU hW => by
  obtain ⟨hx, hb, hml, hown, hts, hlk, hK, hA, hZ, hnmi⟩ := K
  exact ⟨rfl, by rw [hU]; exact hP, va_K.moved hW.alike hK, hD, fun q h => hA q (Nat.le_trans hS.1 (by rw [← hU]; exact h)), Zc_warm hW hZ⟩
theorem z_cI {tys : List (ClassId × FieldType)} {y : MethodName} {bytes : ByteArray} {index n maxL fr lo mc ms b : Nat} {post : va_W → Prop} (K : Cc p s m args meth c cc nL own D tys A) (hP : va_P D cls8 ws H) (hD : va_D A ws) (hS : va_S A s.heap H locs) (cy : CalI y bytes maxL n) (hlink : Cond.methodLink own index y ∈ gT) (hM : SpN l y bytes maxL fr lo mc ms (.ref b :: As) D tys A ws post) (hR : fr + 1 ≤ R.frames ∧ 8 + (maxL + 11) + lo ≤ R.locals) (hn : As.length = n) (hls : ls.size = nL) (hst : st0 = As.reverse ++ .ref b :: rest) (hW : (rest.map fun v => v.category).sum ≤ 8) (hdg : decode cc pc = .ok (.invokespecial index, 3)) (hf : cells + mc ≤ R.cells ∧ slots + ms ≤ R.slots)
    (kk : ∀ (W1 : va_W) (H1 : Heap) (locs1 : List Loc), post W1 → va_P D cls8 W1 H1 → va_D A W1 → va_S A s.heap H1 locs1 → W p l e R s m args below meth c H1 locs1 (cells + mc) (slots + ms) Q (F0 m (pc + 3) ls rest)) : W p l e R s m args below meth c H locs cells slots Q (F0 m pc ls st0) := by
  have hts := K.2.2.2.2.1
  refine va_callv (va_runI (As := As) (rest := rest) ⟨K.1, K.2.1, K.2.2.1, K.2.2.2.1, hts⟩ hM ⟨callB_of n hts (gT_good.in cy.1.1) rfl rfl rfl (hts _ cy.1.2.1) (hts _ hlink) cy.1.2.2 hR, cy.2.1, hts _ cy.2.2⟩ ⟨n_blind, n_pre K hP hD hS⟩ rfl hn hls hst (lv_room hW) hdg hf) hS (fun q _ h => h) (fun q h => h) (fun u t H1 locs1 ht hvm hq hB hz hk1 hS1 => kk u H1 locs1 hq (by rw [← ht]; exact hB.1) hB.2 hS1)
theorem z_cIN {tys : List (ClassId × FieldType)} {y : MethodName} {bytes : ByteArray} {host : String} {index n maxL fr lo mc ms b : Nat} {post : va_W → Prop} (K : Cc p s m args meth c cc nL own D tys A) (hP : va_P D cls8 ws H) (hD : va_D A ws) (hS : va_S A s.heap H locs) (cy : CalI y bytes maxL n) (hlink : va_Nw (.methodLinkNest own index y host) s) (hM : SpN l y bytes maxL fr lo mc ms (.ref b :: As) D tys A ws post) (hR : fr + 1 ≤ R.frames ∧ 8 + (maxL + 11) + lo ≤ R.locals) (hn : As.length = n) (hls : ls.size = nL) (hst : st0 = As.reverse ++ .ref b :: rest) (hW : (rest.map fun v => v.category).sum ≤ 8) (hdg : decode cc pc = .ok (.invokespecial index, 3)) (hf : cells + mc ≤ R.cells ∧ slots + ms ≤ R.slots)
    (kk : ∀ (W1 : va_W) (H1 : Heap) (locs1 : List Loc), post W1 → va_P D cls8 W1 H1 → va_D A W1 → va_S A s.heap H1 locs1 → W p l e R s m args below meth c H1 locs1 (cells + mc) (slots + ms) Q (F0 m (pc + 3) ls rest)) : W p l e R s m args below meth c H locs cells slots Q (F0 m pc ls st0) := by
  have hts := K.2.2.2.2.1
  refine va_callv (va_runIN (As := As) (rest := rest) ⟨K.1, K.2.1, K.2.2.1, K.2.2.2.1, hts⟩ hM ⟨va_cnB n hts (gT_good.in cy.1.1) rfl rfl rfl hlink (hts _ cy.1.2.1) cy.1.2.2 hR, cy.2.1, hts _ cy.2.2⟩ ⟨n_blind, n_pre K hP hD hS⟩ rfl hn hls hst (lv_room hW) hdg hf) hS (fun q _ h => h) (fun q h => h) (fun u t H1 locs1 ht hvm hq hB hz hk1 hS1 => kk u H1 locs1 hq (by rw [← ht]; exact hB.1) hB.2 hS1)
theorem z_ret {tys : List (ClassId × FieldType)} {post : va_W → Prop} (K : Cc p s m args meth c cc nL own D tys A) (hr : meth.sig.returnType = none) (hP : va_P D cls8 ws H) (hD : va_D A ws) (hS : va_S A s.heap H locs) (hq : post ws) (hdg : decode cc pc = .ok (.return_, 1)) : W p l e R s m args below meth c H locs cells slots (MQ below (va_Qv post (fun W t => va_P D cls8 W t.heap ∧ va_D A W) A) args s cells slots A) (F0 m pc ls []) :=
  W.vret K.1 K.2.1 hr (fun t ht _ => ⟨⟨ws, rfl, hq, by rw [ht]; exact hP, hD⟩, hS.F ht⟩) hS.2.2 hdg K.2.2.2.2.2.1
end RN
