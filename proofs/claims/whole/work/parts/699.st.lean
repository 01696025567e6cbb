/-! what is known of the classes at the start -/
theorem kn_start {s : State} {args : Array Value} (hts : ∀ w ∈ gT, w.before args s = true) (htb : ∀ w ∈ tables_1, w.before args s = true) : ∃ (D : va_G) (cI cJ cC cZ cR : ClassId), va_K D cls8 (tys5 cI cJ cC cZ cR) s := by
  obtain ⟨c0, i0, h0⟩ := u_known (C := "WordChecker") (T := TC) (N := 7) hts hinC (hts _ ibC)
  obtain ⟨c1, i1, h1⟩ := u_known (C := "WordChecker$Text") (T := TT) (N := 5) hts hinT (hts _ ibT)
  obtain ⟨c2, i2, h2⟩ := u_known (C := "WordChecker$Book") (T := TB) (N := 9) hts hinB (hts _ ibB)
  obtain ⟨c3, i3, h3⟩ := u_known (C := "WordChecker$Draft") (T := TD) (N := 11) hts hinD (hts _ ibD)
  obtain ⟨c4, i4, h4⟩ := u_known (C := "WordChecker$Gates") (T := TG) (N := 9) hts hinG (hts _ ibG)
  obtain ⟨c5, i5, h5⟩ := u_known (C := "WordChecker$Search") (T := TS) (N := 5) hts hinS (hts _ ibS)
  obtain ⟨c6, i6, h6⟩ := u_known (C := "WordChecker$Line") (T := TL) (N := 8) hts hinL (hts _ ibL)
  obtain ⟨c7, i7, h7⟩ := u_known (C := "WordCheckerModel") (T := TM) (N := 28) hts hinM (hts _ ibM)
  obtain ⟨cI, kI, pI, aI, bI, dI⟩ := Cond.arrayClass_spec (hts (.arrayClass .int) (gT_1 (i := 49) (by decide +kernel) rfl))
  obtain ⟨cJ, kJ, pJ, aJ, bJ, dJ⟩ := Cond.arrayClass_spec (hts (.arrayClass .long) (gT_1 (i := 92) (by decide +kernel) rfl))
  obtain ⟨cC, kC, pC, aC, bC, dC⟩ := Cond.arrayClass_spec (hts (.arrayClass .char) (gT_1 (i := 48) (by decide +kernel) rfl))
  obtain ⟨cZ, kZ, pZ, aZ, bZ, dZ⟩ := Cond.arrayClass_spec (hts (.arrayClass .boolean) (gT_1 (i := 224) (by decide +kernel) rfl))
  obtain ⟨comp, cR, kR, r1, -, r2, r3, r4⟩ := Cond.arrayOver_spec (htb (.arrayOver (.object "WordChecker$Line")) (List.mem_of_getElem? (i := 57) (by decide +kernel)))
  refine ⟨(fun c => match c with | 0 => c0 | 1 => c1 | 2 => c2 | 3 => c3 | 4 => c4 | 5 => c5 | 6 => c6 | _ => c7, fun c => match c with | 0 => i0 | 1 => i1 | 2 => i2 | 3 => i3 | 4 => i4 | 5 => i5 | 6 => i6 | _ => i7), cI, cJ, cC, cZ, cR, fun c q hq => ?_, fun k q hk => ?_⟩
  · match c, hq with
    | 0, hq => cases hq; exact h0
    | 1, hq => cases hq; exact h1
    | 2, hq => cases hq; exact h2
    | 3, hq => cases hq; exact h3
    | 4, hq => cases hq; exact h4
    | 5, hq => cases hq; exact h5
    | 6, hq => cases hq; exact h6
    | 7, hq => cases hq; exact h7
    | n + 8, hq => cases hq
  · match k, hk with
    | 0, hk => cases hk; exact ⟨fun N z => ⟨fun k h => (by cases h), kI, bI, pI, dI⟩, aI⟩
    | 1, hk => cases hk; exact ⟨fun N z => ⟨fun k h => (by cases h), kJ, bJ, pJ, dJ⟩, aJ⟩
    | 2, hk => cases hk; exact ⟨fun N z => ⟨fun k h => (by cases h), kC, bC, pC, dC⟩, aC⟩
    | 3, hk => cases hk; exact ⟨fun N z => ⟨fun k h => (by cases h), kZ, bZ, pZ, dZ⟩, aZ⟩
    | 4, hk => cases hk; exact ⟨fun N z => ⟨fun k h => (by cases h), kR, r2, comp, r3⟩, kR, comp, r2, r3, r1, r4⟩
    | n + 5, hk => cases hk
theorem zc_start {s : State} {args : Array Value} (htb : ∀ w ∈ tables_1, w.before args s = true) : Zc s := by
  refine ⟨fun w hw => ?_, va_AO.of (A := args) (htb (.arrayOver (.object "WordChecker$Line")) (List.mem_of_getElem? (i := 57) (by decide +kernel)))⟩
  have h1 := (List.mem_filter.mp hw).2
  have h2 := htb w (List.mem_filter.mp hw).1
  exact va_Nw.of (by cases w <;> first | rfl | (simp [isNest] at h1)) h2
