/-! the state behind the two constructors -/
theorem hxZ_5 {k : Nat} (hk : k < 20) : hxZ (24 + k) 5 = -1 ∧ hxZ (24 + k) 6 = 0 := by
  have h1 : Nat.ble 24 (24 + k) = true := Nat.ble_eq.mpr (by omega)
  have h2 : Nat.blt (24 + k) 44 = true := Nat.ble_eq.mpr (by omega)
  have h3 : Nat.beq (24 + k) 10 = false := Bool.eq_false_iff.mpr fun h => by have := Nat.eq_of_beq_eq_true h; omega
  constructor
  · unfold hxZ; rw [h1, h2, h3]; rfl
  · unfold hxZ; rw [h1, h2, h3]; rfl
theorem rel0 : Rel hmZ hxZ hlZ := by
  have n0 : ∀ {k : Nat} {P : Prop}, k < 0 → P := fun h => absurd h (Nat.not_lt_zero _)
  refine ⟨0, 0, false, ⟨⟨⟨by omega, fun k hk => n0 hk, fun k hk => n0 hk⟩, fun j hj => n0 hj, ⟨fun k hk => n0 hk, fun a b ha => n0 ha⟩, fun k hk => n0 hk⟩, fun a b _ hb => n0 hb, nI_0.symm, ⟨nI_0.symm, nI_0.symm, nI_0.symm, nI_0.symm, fun k hk => n0 hk⟩, ⟨?_, ?_, ?_, ?_, ?_⟩⟩, ⟨nI_0.symm, nI_0.symm, by omega, rfl, rfl, rfl⟩, ⟨rfl, rfl, fun h => by cases h⟩, Or.inl ⟨rfl, rfl⟩⟩
  · intro σ _ i _ v _ k hk; exact n0 hk
  · intro σ _ i _ v _ k hk; exact n0 hk
  · intro σ hσ i hi v _; exact ⟨bt_0 σ, bt_m1 hσ⟩
  · intro k hk; exact n0 hk
  · exact ⟨fun k hk => n0 hk, fun k _ hk => hxZ_5 hk, Nat.zero_le _, Nat.zero_le _⟩
