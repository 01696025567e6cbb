/-! what stands still under the class: links between nest mates, statics, the kinds, the texts -/
def isNest : Cond → Bool
  | .fieldLinkNest .. => true
  | .methodLinkNest .. => true
  | _ => false
def nestW : List Cond := tables_1.filter isNest
theorem nestW_in {i : Nat} {w : Cond} (h : tables_1[i]? = some w) (hg : isNest w = true) : w ∈ nestW := List.mem_filter.mpr ⟨List.mem_of_getElem? h, hg⟩
theorem nest_warm {s U : State} (hW : s.WarmedH U.vm) (h : ∀ w ∈ nestW, va_Nw w s) : ∀ w ∈ nestW, va_Nw w U := fun w hw => by
  have h1 := (List.mem_filter.mp hw).2
  have h2 := h w hw
  cases w <;> first | exact va_Nw.warmF hW h2 | exact va_Nw.warmM hW h2 | (simp [isNest] at h1)
theorem nest_same {s U : State} (hv : s.vm = U.vm) (h : ∀ w ∈ nestW, va_Nw w s) : ∀ w ∈ nestW, va_Nw w U := fun w hw => by
  have h1 := (List.mem_filter.mp hw).2
  have h2 := h w hw
  cases w <;> first | exact va_Nw.same rfl hv h2 | (simp [isNest] at h1)
def kindNm : List String := ["SORT", "INPUT", "STATE", "CONSTD", "NOT", "NEG", "REDOR", "AND", "OR", "XOR", "ADD", "SUB", "MUL", "UDIV", "UREM", "SLL", "SRL", "EQ", "ULT", "SLT", "CONCAT", "SLICE", "UEXT", "SEXT", "ITE", "READ", "WRITE", "INIT", "NEXT", "BAD", "CONSTRAINT"]
/-- constant i of Kind -/
def ZK (A : Nat → Prop) (kd sd : Nat → Nat) (i : Nat) (U : State) (H : Heap) : Prop := va_Z "WordChecker$Kind" (kindNm.getD i "") "LWordChecker$Kind;" (.ref (kd i)) A U H ∧ va_O "WordChecker$Kind" (kd i) A U H ∧ va_OF "java/lang/Enum" "ordinal" "I" (.int (nI i)) (kd i) A U H ∧ va_OF "WordChecker$Kind" "word" "Ljava/lang/String;" (.ref (sd i)) (kd i) A U H ∧ va_OF "WordChecker$Kind" "form" "Ljava/lang/String;" (.ref (sd (31 + i))) (kd i) A U H
/-- text i -/
def ZT (A : Nat → Prop) (sd vd : Nat → Nat) (i : Nat) (U : State) (H : Heap) : Prop := va_O "java/lang/String" (sd i) A U H ∧ va_OF "java/lang/String" "coder" "B" (.int 0) (sd i) A U H ∧ va_OF "java/lang/String" "value" "[B" (.ref (vd i)) (sd i) A U H ∧ va_T .byte (vd i) (slenN i) (fun j => .int (scharC i j)) A U H
def ZS (A : Nat → Prop) (kd : Nat → Nat) (kA lA wA : Nat) (U : State) (H : Heap) : Prop := va_Z "WordChecker" "KINDS" "[LWordChecker$Kind;" (.ref kA) A U H ∧ va_T (.object "WordChecker$Kind") kA 31 (fun j => .ref (kd j)) A U H ∧ va_Z "WordChecker" "LANES" "[J" (.ref lA) A U H ∧ va_T .long lA 6 (fun j => .long (lanesC j)) A U H ∧ va_Z "WordChecker$1" "$SwitchMap$WordChecker$Kind" "[I" (.ref wA) A U H ∧ va_T .int wA 31 (fun j => .int (swC j)) A U H ∧ va_Z "java/lang/String" "COMPACT_STRINGS" "Z" (.int 1) A U H ∧ va_Zq "jdk/internal/util/Preconditions" "SIOOBE_FORMATTER" "Ljava/util/function/BiFunction;" A U H
def ZX (A : Nat → Prop) (kd sd vd : Nat → Nat) (kA lA wA : Nat) (U : State) : Prop := (∀ w ∈ nestW, va_Nw w U) ∧ ZS A kd kA lA wA U U.heap ∧ (∀ i, i < 31 → ZK A kd sd i U U.heap) ∧ (∀ i, i < 64 → ZT A sd vd i U U.heap) ∧ vk_R "WordChecker$Draft" 104 "bitvec" (sd 62) U ∧ vk_R "WordChecker$Draft" 109 "array" (sd 63) U
theorem ZK.mk {A : Nat → Prop} {kd sd : Nat → Nat} {i : Nat} {u U : State} {H H1 : Heap} (hv : u.vm.Alike U.vm) (hq : ∀ a : Nat, a < H.size → ¬ A a → H1[a]? = H[a]?) (h : ZK A kd sd i u H) : ZK A kd sd i U H1 := ⟨(h.1.moved hv).kept hq, (h.2.1.moved hv).kept hq, (h.2.2.1.moved hv).kept hq, (h.2.2.2.1.moved hv).kept hq, (h.2.2.2.2.moved hv).kept hq⟩
theorem ZT.mk {A : Nat → Prop} {sd vd : Nat → Nat} {i : Nat} {u U : State} {H H1 : Heap} (hv : u.vm.Alike U.vm) (hq : ∀ a : Nat, a < H.size → ¬ A a → H1[a]? = H[a]?) (h : ZT A sd vd i u H) : ZT A sd vd i U H1 := ⟨(h.1.moved hv).kept hq, (h.2.1.moved hv).kept hq, (h.2.2.1.moved hv).kept hq, (h.2.2.2.moved hv).kept hq⟩
theorem ZS.mk {A : Nat → Prop} {kd : Nat → Nat} {kA lA wA : Nat} {u U : State} {H H1 : Heap} (hv : u.vm.Alike U.vm) (hq : ∀ a : Nat, a < H.size → ¬ A a → H1[a]? = H[a]?) (h : ZS A kd kA lA wA u H) : ZS A kd kA lA wA U H1 := by
  obtain ⟨h1, h2, h3, h4, h5, h6, h7, h8⟩ := h
  exact ⟨(h1.moved hv).kept hq, (h2.moved hv).kept hq, (h3.moved hv).kept hq, (h4.moved hv).kept hq, (h5.moved hv).kept hq, (h6.moved hv).kept hq, (h7.moved hv).kept hq, (h8.moved hv).kept hq⟩
theorem ZX_ok {A : Nat → Prop} {kd sd vd : Nat → Nat} {kA lA wA : Nat} : ZsOK A (ZX A kd sd vd kA lA wA) := by
  refine ⟨fun u U hv hh h => ?_, fun u U hW hz hq h => ?_⟩
  · obtain ⟨h1, h2, h3, h4, h5, h6⟩ := h
    have al : u.vm.Alike U.vm := hv ▸ Vm.Alike.refl u.vm
    have hq : ∀ a : Nat, a < u.heap.size → ¬ A a → U.heap[a]? = u.heap[a]? := fun a _ _ => by rw [hh]
    exact ⟨nest_same hv h1, h2.mk al hq, fun i hi => (h3 i hi).mk al hq, fun i hi => (h4 i hi).mk al hq, vk_R.same hv.symm h5, vk_R.same hv.symm h6⟩
  · obtain ⟨h1, h2, h3, h4, h5, h6⟩ := h
    exact ⟨nest_warm hW h1, h2.mk hW.alike hq, fun i hi => (h3 i hi).mk hW.alike hq, fun i hi => (h4 i hi).mk hW.alike hq, h5.warm hW, h6.warm hW⟩
/-- the constants differ: their ordinals do -/
theorem kd_inj {A : Nat → Prop} {kd sd : Nat → Nat} {U : State} {H : Heap} (h : ∀ i, i < 31 → ZK A kd sd i U H) {i j : Nat} (hi : i < 31) (hj : j < 31) (he : kd i = kd j) : i = j := by
  obtain ⟨cf, k, n, f, cell, h1, h2, h3, h4, h5, -⟩ := (h i hi).2.2.1
  obtain ⟨cf', k', n', f', cell', g1, g2, g3, g4, g5, -⟩ := (h j hj).2.2.1
  rw [he] at h3
  cases h3.symm.trans g3
  cases h1.symm.trans g1
  have e := Option.some.inj (h5.symm.trans g5)
  exact (nI_eq (by omega) (by omega)).mp (Value.int.inj e)
def kOf (kd : Nat → Nat) (x : Int32) : Option Nat := if x < 0 then none else some (kd x.toNatClampNeg)
theorem kOf_in {kd : Nat → Nat} {x : Int32} (h : vp_in x 31) : kOf kd x = some (kd x.toNatClampNeg) := if_neg fun q => h (Or.inl q)
theorem vp_in_inj {x y : Int32} {n : Nat} (hx : vp_in x n) (hy : vp_in y n) (hn : n < 2 ^ 31) (h : x.toNatClampNeg = y.toNatClampNeg) : x = y := by
  obtain ⟨i, hi, rfl⟩ := vp_in_of hx hn
  obtain ⟨j, hj, rfl⟩ := vp_in_of hy hn
  rw [nI_clamp (by omega), nI_clamp (by omega)] at h
  rw [h]
section RS
variable {p : Program} {l : Launch} {e : Env} {R : Room} {s : State} {m : MethodId} {args : Array Value} {below : List Frame} {meth : Method} {c : Code} {H : Heap} {locs : List Loc} {Q : State → Prop}
variable {cc : ByteArray} {nL : Nat} {own : String} {Ts : List Cond} {D : va_G} {cl : List vw_C} {tys : List (ClassId × FieldType)} {N : Nat} {ad : Nat → Nat} {A : Nat → Prop} {G : GW} {hi : HI} {hl : HL}
variable {pc : Nat} {ls : Array Slot} {st0 rest As : List Value} {kd sd vd : Nat → Nat} {kA lA wA : Nat}
theorem x_acne (K : Cx p R s m args meth c cc nL own Ts D cl tys N ad A (ZX A kd sd vd kA lA wA)) {x y : Int32} (g1 : vp_in x 31) (g2 : vp_in y 31) {off : Int} {tgt : Nat} (hdg : decode cc pc = .ok (.if_acmp .ne off, 3)) (ht : (pc : Int) + off = (tgt : Int)) (kt : ¬ x = y → W p l e R s m args below meth c H locs 0 0 Q (F0 m tgt ls rest)) (kf : x = y → W p l e R s m args below meth c H locs 0 0 Q (F0 m (pc + 3) ls rest)) : W p l e R s m args below meth c H locs 0 0 Q (F0 m pc ls (.ref (kd y.toNatClampNeg) :: .ref (kd x.toNatClampNeg) :: rest)) :=
  lv_acmp_ne (rx := some (kd x.toNatClampNeg)) (ry := some (kd y.toNatClampNeg)) K.1 K.2.1 hdg ht (fun h => kt fun q => h (by rw [q])) (fun h => kf (vp_in_inj g1 g2 (by decide) (kd_inj K.2.2.2.2.2.2.2.2.2.2.1 (Nat.not_le.mp fun q => g1 (Or.inr q)) (Nat.not_le.mp fun q => g2 (Or.inr q)) (Option.some.inj h))))
theorem x_aceq (K : Cx p R s m args meth c cc nL own Ts D cl tys N ad A (ZX A kd sd vd kA lA wA)) {x y : Int32} (g1 : vp_in x 31) (g2 : vp_in y 31) {off : Int} {tgt : Nat} (hdg : decode cc pc = .ok (.if_acmp .eq off, 3)) (ht : (pc : Int) + off = (tgt : Int)) (kt : x = y → W p l e R s m args below meth c H locs 0 0 Q (F0 m tgt ls rest)) (kf : ¬ x = y → W p l e R s m args below meth c H locs 0 0 Q (F0 m (pc + 3) ls rest)) : W p l e R s m args below meth c H locs 0 0 Q (F0 m pc ls (.ref (kd y.toNatClampNeg) :: .ref (kd x.toNatClampNeg) :: rest)) :=
  lv_acmp_eq (rx := some (kd x.toNatClampNeg)) (ry := some (kd y.toNatClampNeg)) K.1 K.2.1 hdg ht (fun h => kt (vp_in_inj g1 g2 (by decide) (kd_inj K.2.2.2.2.2.2.2.2.2.2.1 (Nat.not_le.mp fun q => g1 (Or.inr q)) (Nat.not_le.mp fun q => g2 (Or.inr q)) (Option.some.inj h)))) (fun h => kf fun q => h (by rw [q]))
theorem x_null (K : Cx p R s m args meth c cc nL own Ts D cl tys N ad A (ZX A kd sd vd kA lA wA)) {x : Int32} {off : Int} {tgt : Nat} (hdg : decode cc pc = .ok (.ifnull off, 3)) (ht : (pc : Int) + off = (tgt : Int)) (kt : x < 0 → W p l e R s m args below meth c H locs 0 0 Q (F0 m tgt ls rest)) (kf : ¬ x < 0 → W p l e R s m args below meth c H locs 0 0 Q (F0 m (pc + 3) ls rest)) : W p l e R s m args below meth c H locs 0 0 Q (F0 m pc ls (va_rf (kOf kd x) :: rest)) := by
  by_cases h : x < 0
  · rw [show kOf kd x = none from if_pos h]
    exact lv_ifnullN K.1 K.2.1 hdg ht (kt h)
  · rw [show kOf kd x = some (kd x.toNatClampNeg) from if_neg h]
    exact lv_ifnull K.1 K.2.1 hdg (kf h)
/-- a call on a receiver that the world doesn't hold -/
theorem x_cRI {y : MethodName} {bytes : ByteArray} {ret : Option FieldType} {index n maxL fr lo b : Nat} {Zs : State → Prop} {Φ : Int32 → HI → HL → Prop} (K : Cx p R s m args meth c cc nL own Ts D cl tys N ad A Zs) (hg : AllGood Ts) (hZ : ZsOK A Zs) (hP : va_P D cl (wl N ad G hi hl) H) (hS : va_S A s.heap H locs) (cy : CalV Ts y bytes maxL ret n) (hlink : Cond.methodLink own index y ∈ Ts) (hrec : va_O y.cls b A s s.heap) (hM : SpI l y bytes maxL ret Ts fr lo (.ref b :: As) D cl tys N ad G A Zs hi hl Φ) (hR : fr + 1 ≤ R.frames ∧ 8 + (maxL + 11) + lo ≤ R.locals) (hn : As.length = n) (hls : ls.size = nL) (hst : st0 = As.reverse ++ .ref b :: rest) (hW : (rest.map fun v => v.category).sum ≤ 8) (hdg : decode cc pc = .ok (.invokevirtual index, 3))
    (kk : ∀ (r : Int32) (hi1 : HI) (hl1 : HL) (H1 : Heap) (locs1 : List Loc), Φ r hi1 hl1 → va_P D cl (wl N ad G hi1 hl1) H1 → va_S A s.heap H1 locs1 → W p l e R s m args below meth c H1 locs1 0 0 Q (F0 m (pc + 3) ls (.int r :: rest))) : W p l e R s m args below meth c H locs 0 0 Q (F0 m pc ls st0) := by
  have hts := K.2.2.2.2.1
  obtain ⟨cell, r1, r2, r3, -⟩ := hrec.kept hS.2.1
  refine va_calli (va_runV (C := y.cls) (As := As) (rest := rest) ⟨K.1, K.2.1, K.2.2.1, K.2.2.2.1, hts⟩ hM ⟨x_cb K hg cy.1 hlink hR, hts _ cy.2.1, hts _ cy.2.2⟩ ⟨x_blind hZ, ⟨cell, r1, r2, r3⟩, x_pre K hZ hP hS⟩ rfl hn hls hst (lv_room hW) hdg ⟨Nat.zero_le _, Nat.zero_le _⟩) hS (fun q _ h => h) (fun q h => h) (fun r u t H1 locs1 ht hvm hq hB hz hk1 hS1 => kk r u.1 u.2 H1 locs1 hq (by rw [← ht]; exact hB) hS1)
/-- answers that are kinds, or null -/
def va_Qk (kd : Nat → Nat) {S : Type} (post : Int32 → S → Prop) (B : S → State → Prop) (A : Nat → Prop) : Array Value → State → Outcome → State → Prop := fun _ st oc t => (∃ (r : Int32) (u : S), oc = .returned (some (va_rf (kOf kd r))) ∧ post r u ∧ B u t) ∧ va_F A st t
def SpK (kd : Nat → Nat) (l : Launch) (y : MethodName) (bytes : ByteArray) (maxL : Nat) (ret : Option FieldType) (Ts : List Cond) (fr lo : Nat) (av : List Value) (D : va_G) (cl : List vw_C) (tys : List (ClassId × FieldType)) (N : Nat) (ad : Nat → Nat) (G : GW) (A : Nat → Prop) (Zs : State → Prop) (hi : HI) (hl : HL) (Φ : Int32 → HI → HL → Prop) : Prop :=
  Met l y (Cond.code y bytes maxL ret :: Ts) (rmX fr lo) (va_Pc av (Wd D cl tys N ad G Zs hi hl)) (va_Qk kd (fun r (u : HI × HL) => Φ r u.1 u.2) (fun u t => va_P D cl (wl N ad G u.1 u.2) t.heap) A) 0 0 A
theorem va_callk {kd : Nat → Nat} {S : Type} {post : Int32 → S → Prop} {B : S → State → Prop} {cells slots mc ms : Nat} {A0 A1 : Nat → Prop} {H0 : Heap} {free : Addr → Prop} {a : Array Value} (hr : va_Run p l e R s m args below meth c H locs cells slots mc ms (F0 m pc ls st0) rest (va_Qk kd post B A1 a) free) (hS : va_S A0 H0 H locs) (hA : ∀ q, q < H.size → A1 q → A0 q) (hf : ∀ q, free q → A0 q)
    (kk : ∀ (r : Int32) (u : S) (t : State) (H1 : Heap) (locs1 : List Loc), t.heap = H1 → post r u → B u t → va_S A0 H0 H1 locs1 → W p l e R s m args below meth c H1 locs1 (cells + mc) (slots + ms) Q (F0 m (pc + 3) ls (va_rf (kOf kd r) :: rest))) : W p l e R s m args below meth c H locs cells slots Q (F0 m pc ls st0) := by
  intro T hT X
  obtain ⟨v, st₀, t, T', L, h0, X', hL, e1, e2, ⟨⟨r, u, hv, hp, hb⟩, hz, hk⟩, st⟩ := hr T hT X
  cases hv
  rw [h0] at hz hk
  obtain ⟨t2, a1, b1⟩ := kk r u t T'.heap (locs ++ L) e1.symm hp hb
    ⟨Nat.le_trans hS.1 (by rw [e1]; exact hz), fun q h1 h2 => by rw [e1, hk q (Nat.lt_of_lt_of_le h1 hS.1) (fun z => h2 (hA q (Nat.lt_of_lt_of_le h1 hS.1) z))]; exact hS.2.1 q h1 h2, fun q hq => by
      rcases List.mem_append.mp hq with h | h
      · exact hS.2.2 q h
      · exact hf _ (hL q h)⟩ T' rfl X'
  exact ⟨t2, st t2 a1, b1⟩
theorem x_cVK {y : MethodName} {bytes : ByteArray} {ret : Option FieldType} {index n maxL fr lo : Nat} {Zs : State → Prop} {Φ : Int32 → HI → HL → Prop} (K : Cx p R s m args meth c cc nL own Ts D cl tys N ad A Zs) (hg : AllGood Ts) (hZ : ZsOK A Zs) (hP : va_P D cl (wl N ad G hi hl) H) (hS : va_S A s.heap H locs) (cy : CalV Ts y bytes maxL ret n) (hlink : Cond.methodLink own index y ∈ Ts) (k : Nat) (hk : k < N) {ci NN : Nat} {T : u_T} {fs : List Value} (hG : G k (hi k) (hl k) = .inr (ci, fs)) (hc : cl[ci]? = some (y.cls, T, NN)) (hM : SpK kd l y bytes maxL ret Ts fr lo (.ref (ad k) :: As) D cl tys N ad G A Zs hi hl Φ) (hR : fr + 1 ≤ R.frames ∧ 8 + (maxL + 11) + lo ≤ R.locals) (hn : As.length = n) (hls : ls.size = nL) (hst : st0 = As.reverse ++ .ref (ad k) :: rest) (hW : (rest.map fun v => v.category).sum ≤ 8) (hdg : decode cc pc = .ok (.invokevirtual index, 3))
    (kk : ∀ (r : Int32) (hi1 : HI) (hl1 : HL) (H1 : Heap) (locs1 : List Loc), Φ r hi1 hl1 → va_P D cl (wl N ad G hi1 hl1) H1 → va_S A s.heap H1 locs1 → W p l e R s m args below meth c H1 locs1 0 0 Q (F0 m (pc + 3) ls (va_rf (kOf kd r) :: rest))) : W p l e R s m args below meth c H locs 0 0 Q (F0 m pc ls st0) := by
  have hts := K.2.2.2.2.1
  refine va_callk (va_runV (C := y.cls) (As := As) (rest := rest) ⟨K.1, K.2.1, K.2.2.1, K.2.2.2.1, hts⟩ hM ⟨x_cb K hg cy.1 hlink hR, hts _ cy.2.1, hts _ cy.2.2⟩ ⟨x_blind hZ, va_recv K.2.2.2.2.2.2.1 hP hc ((wl_at hk).trans (by rw [hG])), x_pre K hZ hP hS⟩ rfl hn hls hst (lv_room hW) hdg ⟨Nat.zero_le _, Nat.zero_le _⟩) hS (fun q _ h => h) (fun q h => h) (fun r u t H1 locs1 ht hq hB hS1 => kk r u.1 u.2 H1 locs1 hq (by rw [← ht]; exact hB) hS1)
theorem x_kret {Zs : State → Prop} {Φ : Int32 → HI → HL → Prop} (K : Cx p R s m args meth c cc nL own Ts D cl tys N ad A Zs) {C : String} (hr : meth.sig.returnType = some (.object C)) (hP : va_P D cl (wl N ad G hi hl) H) (hS : va_S A s.heap H locs) {v : Int32} {w : Value} (hw : w = va_rf (kOf kd v)) (hq : Φ v hi hl) (hdg : decode cc pc = .ok (.areturn, 1)) : W p l e R s m args below meth c H locs 0 0 (MQ below (va_Qk kd (fun r (u : HI × HL) => Φ r u.1 u.2) (fun u t => va_P D cl (wl N ad G u.1 u.2) t.heap) A) args s 0 0 A) (F0 m pc ls [w]) := by
  subst hw
  exact W.aret K.1 K.2.1 hr (Or.inl ⟨C, rfl⟩) (va_rf_or _) (fun t ht _ => ⟨⟨v, (hi, hl), rfl, hq, show va_P D cl (wl N ad G hi hl) t.heap from ht.symm ▸ hP⟩, hS.F ht⟩) hS.2.2 hdg K.2.2.2.2.2.1
end RS
