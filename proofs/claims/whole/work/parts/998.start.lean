theorem va_P_nil {D : va_G} {H : Heap} : va_P D cls8 [] H := fun k q hq => by simp at hq
theorem va_D_nil {A : Nat → Prop} : va_D A [] := ⟨fun i j p q hp => by simp at hp, fun k q hq => by simp at hq⟩
theorem va_D_one {A : Nat → Prop} {q : Nat} {e : va_E} (h : A q) : va_D A [(q, e)] := by
  have key : ∀ (k : Nat) (x : Nat × va_E), ([(q, e)] : va_W)[k]? = some x → k = 0 ∧ x = (q, e) := by
    intro k x hx
    cases k with
    | zero => exact ⟨rfl, (Option.some.inj hx).symm⟩
    | succ k => simp at hx
  refine ⟨fun i j x y hx hy _ => ?_, fun k x hx => ?_⟩
  · rw [(key i x hx).1, (key j y hy).1]
  · rw [(key k x hx).2]; exact h
/-- the world ahead, and the cell that came -/
theorem split_new {D : va_G} {N : Nat} {ad : Nat → Nat} {G : GW} {hi : HI} {hl : HL} {q : Nat} {e : va_E} {H : Heap} {A : Nat → Prop} (hP : va_P D cls8 (wl N ad G hi hl ++ [(q, e)]) H) (hD : va_D A (wl N ad G hi hl ++ [(q, e)])) : va_P D cls8 (wl N ad G hi hl) H ∧ va_P D cls8 [(q, e)] H ∧ (∀ i, i < N → ad i ≠ q) ∧ A q := by
  have hN : (wl N ad G hi hl ++ [(q, e)])[N]? = some (q, e) := by rw [List.getElem?_append_right (by rw [wl_len]; exact Nat.le_refl _), wl_len, Nat.sub_self]; rfl
  refine ⟨fun k x hk => hP k x ?_, fun k x hk => ?_, fun i hj he => ?_, hD.2 N _ hN⟩
  · have h1 := (wl_lt hk).1
    rw [List.getElem?_append_left (by rw [wl_len]; exact h1)]; exact hk
  · cases k with
    | zero => cases hk; exact hP N _ hN
    | succ k => simp at hk
  · have h1 : (wl N ad G hi hl ++ [(q, e)])[i]? = some (ad i, G i (hi i) (hl i)) := by rw [List.getElem?_append_left (by rw [wl_len]; exact hj)]; exact wl_at hj
    have := hD.1 i N _ _ h1 hN he
    omega
set_option maxRecDepth 100000 in
set_option maxHeartbeats 4000000 in
theorem whole_start {p : Program} {e : Env} {s : State} {m : MethodId} {below : List Frame} {meth : Method} {c : Code} (l : Launch) {b L : Nat} {xs : Nat → Int32} (hL : L ≤ 1536) (C0 : lw_At p s m meth c b L xs) : W p l e room_1 s m #[Value.ref b] below meth c s.heap [] 0 0 (lw_Z below #[Value.ref b] s) (entryFrame m ([Value.ref b] : List Value).toArray 4) := by
  obtain ⟨hx, hb, hr, hml, hown, hts0, hX, hbl, hlocks, hgv⟩ := C0
  have hts : ∀ w ∈ gT, w.before #[.ref b] s = true := fun w hw => hts0 w (List.mem_filter.mp hw).1
  have htb : ∀ w ∈ tables_1, w.before #[.ref b] s = true := fun w hw => hts0 w (List.mem_append_right _ hw)
  obtain ⟨D, cI, cJ, cC, cZ, cR, hK⟩ := kn_start hts htb
  have hZc := zc_start htb
  have K : Cl p s m #[.ref b] c code 4 "WordCheckerLaw" D (tys5 cI cJ cC cZ cR) := ⟨hx, hb, hml, hown, hts, hK⟩
  obtain ⟨kd, sd, vd, kA, lA, wA, hZ0⟩ := zx_start hgv htb hZc.1
  have hE := lv_entry ([Value.ref b]) (n := 4) (Nat.le_of_ble_eq_true rfl)
  rw [lg_entry_eq]
  generalize (lg_sl ([Value.ref b]) ++ List.replicate (4 - (lg_sl ([Value.ref b])).length) Slot.unset).toArray = ls at hE ⊢
  have hE : lv_has ls 4 [(0, .ref b)] := hE
  have hS : va_S (A0 s) s.heap s.heap [] := va_S.rf
  refine va_new (ci := 0) (fs := [.null, .null, .null, .null, .int 0, .int 0, .int 0]) (C := "WordChecker") (T := TC) (N := 7) hx hb hts hinC tyC tyC_ok K.2.2.2.1 (hts _ lc_7) (hts _ ibC) (hts _ iiC) hK va_P_nil va_D_nil hS (fun q h => h) rfl dfC (Nat.le_of_ble_eq_true rfl) (Nat.le_of_ble_eq_true rfl) dW_0 (fun q H hP hD hS => ?_)
  refine lv_dup hx hb dW_3 rfl ?_
  refine l_cN (A1 := A0 s) (As := []) (rest := [.ref q]) K hZc (fun q h => h) (fun q h => Nat.le_trans hS.1 h) hP hD hS calC_new lk_9 (nwC (k := 0) (a := q) rfl) ⟨(Nat.le_of_ble_eq_true rfl), (Nat.le_of_ble_eq_true rfl)⟩ rfl hE.1 rfl (Nat.le_of_ble_eq_true rfl) dW_4 ⟨(Nat.le_of_ble_eq_true rfl), (Nat.le_of_ble_eq_true rfl)⟩ (fun W1 H locs hq hP hD _ _ hS => ?_)
  obtain ⟨q0, t_t1, t_t2, t_t3, q1, b_x1, b_x2, b_g0, b_g1, b_g2, b_g3, b_g4, b_g5, b_x3, b_x4, b_x5, b_aL, b_aW, q2, d_d1, d_d2, q3, s_s1, s_s2, s_s3, rfl⟩ := hq
  have hP : va_P D cls8 (wX cI cJ cC cZ cR q q0 t_t1 t_t2 t_t3 q1 b_x1 b_x2 b_g0 b_g1 b_g2 b_g3 b_g4 b_g5 b_x3 b_x4 b_x5 q2 d_d1 d_d2 q3 s_s1 s_s2 s_s3 b_aL b_aW) H := hP
  have hD : va_D (A0 s) (wX cI cJ cC cZ cR q q0 t_t1 t_t2 t_t3 q1 b_x1 b_x2 b_g0 b_g1 b_g2 b_g3 b_g4 b_g5 b_x3 b_x4 b_x5 q2 d_d1 d_d2 q3 s_s1 s_s2 s_s3 b_aL b_aW) := hD
  have hPw := wX_P (kd := kd) hP
  have hdX := wX_D hD
  clear hP hD
  have hq0 : q = adX q q0 t_t1 t_t2 t_t3 q1 b_x1 b_x2 b_g0 b_g1 b_g2 b_g3 b_g4 b_g5 b_x3 b_x4 b_x5 q2 d_d1 d_d2 q3 s_s1 s_s2 s_s3 b_aL b_aW 0 := rfl
  generalize adX q q0 t_t1 t_t2 t_t3 q1 b_x1 b_x2 b_g0 b_g1 b_g2 b_g3 b_g4 b_g5 b_x3 b_x4 b_x5 q2 d_d1 d_d2 q3 s_s1 s_s2 s_s3 b_aL b_aW = ax at hPw hdX hq0
  subst hq0
  refine lv_astore_n (lv' := [(1, .ref (ax 0)), (0, .ref b)]) hx hb dW_7 rfl hE (by decide) rfl (fun ls hE => ?_)
  refine va_new (ci := 7) (fs := [.null, .int 0, .int 0, .null, .null, .int 0, .int 0, .null, .null, .null, .null, .null, .null, .null, .null, .null, .null, .null, .null, .null, .int 0, .null, .null, .int 0, .null, .int 0, .int 0, .null]) (C := "WordCheckerModel") (T := TM) (N := 28) hx hb hts hinM tyM tyM_ok K.2.2.2.1 (hts _ lc_10) (hts _ ibM) (hts _ iiM) hK hPw hdX.D hS (fun q h => h) rfl dfM (Nat.le_of_ble_eq_true rfl) (Nat.le_of_ble_eq_true rfl) dW_8 (fun q2 H2 hP2 hD2 hS => ?_)
  obtain ⟨hPX, hPM, hq2, hqA⟩ := split_new hP2 hD2
  refine lv_dup hx hb dW_11 rfl ?_
  have hA1 : ∀ x, (x = q2 ∨ H2.size ≤ x) → A0 s x := fun x h => by
    rcases h with rfl | h
    · exact hqA
    · exact Nat.le_trans hS.1 h
  refine l_cN (A1 := fun x => x = q2 ∨ H2.size ≤ x) (As := []) (rest := [.ref q2]) K hZc hA1 (fun q h => Or.inr h) hPM (va_D_one (Or.inl rfl)) hS calM_new lk_12 (nwM (k := 0) (a := q2) rfl) ⟨(Nat.le_of_ble_eq_true rfl), (Nat.le_of_ble_eq_true rfl)⟩ rfl hE.1 rfl (Nat.le_of_ble_eq_true rfl) dW_12 ⟨(Nat.le_of_ble_eq_true rfl), (Nat.le_of_ble_eq_true rfl)⟩ (fun W1 H3 locs hq hP3 hD3 hz hk1 hS => ?_)
  obtain ⟨m_q0, m_q1, m_q2, m_q3, m_q4, m_q5, m_q6, m_q7, m_q8, m_q9, m_q10, m_q11, m_q12, m_q13, m_q14, m_q15, m_q16, m_q17, m_q18, m_q19, rfl⟩ := hq
  have hP3 : va_P D cls8 (wM cI cZ q2 m_q0 m_q1 m_q2 m_q3 m_q4 m_q5 m_q6 m_q7 m_q8 m_q9 m_q10 m_q11 m_q12 m_q13 m_q14 m_q15 m_q16 m_q17 m_q18 m_q19) H3 := hP3
  have hD3 : va_D (fun x => x = q2 ∨ H2.size ≤ x) (wM cI cZ q2 m_q0 m_q1 m_q2 m_q3 m_q4 m_q5 m_q6 m_q7 m_q8 m_q9 m_q10 m_q11 m_q12 m_q13 m_q14 m_q15 m_q16 m_q17 m_q18 m_q19) := hD3
  rw [wM_eq (hl := fun _ _ => 0)] at hP3 hD3
  have hd1 := wlD_of hD3
  have hq1 : q2 = adM q2 m_q0 m_q1 m_q2 m_q3 m_q4 m_q5 m_q6 m_q7 m_q8 m_q9 m_q10 m_q11 m_q12 m_q13 m_q14 m_q15 m_q16 m_q17 m_q18 m_q19 0 := rfl
  generalize adM q2 m_q0 m_q1 m_q2 m_q3 m_q4 m_q5 m_q6 m_q7 m_q8 m_q9 m_q10 m_q11 m_q12 m_q13 m_q14 m_q15 m_q16 m_q17 m_q18 m_q19 = am at hP3 hd1 hq1
  have hlt : ∀ i, i < 64 → ax i < H2.size := fun i hi => (hPX i _ (wl_at hi)).lt
  have hPX3 := hPX.kept (H1 := H3) (fun k x hk => hk1 x.1 ((hPX k x hk).lt) (fun h => by
    obtain ⟨h1, rfl⟩ := wl_lt hk
    rcases h with h | h
    · exact hq2 k h1 h
    · exact absurd (hlt k h1) (Nat.not_lt.mpr h)))
  have hne : ∀ i j, i < 64 → j < 21 → ax i ≠ am j := fun i j hi hj he => by
    rcases hd1.2 j hj with h | h
    · exact hq2 i hi (he.trans h)
    · exact absurd (hlt i hi) (Nat.not_lt.mpr (he ▸ h))
  have hdM : wlD 21 am (A0 s) := ⟨hd1.1, fun k hk => hA1 _ (hd1.2 k hk)⟩
  refine lv_astore_n (lv' := [(2, .ref q2), (1, .ref (ax 0)), (0, .ref b)]) hx hb dW_15 rfl hE (by decide) rfl (fun ls hE => ?_)
  rw [hq1] at hE
  refine lv_iconst (v := 0) hx hb dW_16 (by decide) ?_
  refine lv_istore_n (lv' := [(3, .int 0), (2, .ref (am 0)), (1, .ref (ax 0)), (0, .ref b)]) hx hb dW_17 rfl hE (by decide) rfl (fun ls hE => ?_)
  refine W.widen (k := 600000) (n := 7302250) (Nat.le_of_ble_eq_true rfl) (Nat.le_of_ble_eq_true rfl) ?_
  have hk : Lk p s m c b L xs D cI cJ cC cZ cR kd sd vd kA lA wA ax am := ⟨K, hX, hbl, hdX, hdM, hne, hZ0 _ (fun q h => by obtain ⟨k, hk, rfl⟩ := h; exact hdX.2 k hk), Nat.lt_of_le_of_lt hL (by decide)⟩
  refine lw_loop hk (fun ls H locs hS => ?_) (L + 1) 0 (by omega) (Nat.zero_le _) ls H3 locs (lv_sub hE [3, 2, 1, 0] rfl) ⟨hmZ, hxZ, hlZ, fun _ _ => 0, hPX3, hP3, hS, rel0⟩
  refine lv_iconst (v := 1) hx hb dW_312 (by decide) ?_
  refine va_forget hS.2.2 ?_
  exact lw_ret hx hb hr hlocks dW_313
