/-! the worlds behind the constructors, by cells -/
def hmZ : HI := fun k j => bif (Nat.beq k 0 && Nat.beq j 25) then -1 else 0
def hxZ : HI := fun k j => bif ((Nat.beq k 10 && Nat.beq j 3) || (Nat.ble 24 k && Nat.blt k 44 && (Nat.beq j 1 || Nat.beq j 5))) then -1 else 0
def hlZ : HL := fun k _ => bif Nat.beq k 9 then -1 else 0
def adX (a q0 t_t1 t_t2 t_t3 q1 b_x1 b_x2 b_g0 b_g1 b_g2 b_g3 b_g4 b_g5 b_x3 b_x4 b_x5 q2 d_d1 d_d2 q3 s_s1 s_s2 s_s3 : Nat) (b_aL b_aW : Nat → Nat) : Nat → Nat := fun k => match k with
  | 0 => a
  | 1 => q0
  | 2 => t_t1
  | 3 => t_t2
  | 4 => t_t3
  | 5 => q1
  | 6 => b_x1
  | 7 => b_x3
  | 8 => b_x4
  | 9 => b_x5
  | 10 => q2
  | 11 => d_d1
  | 12 => d_d2
  | 13 => b_x2
  | 14 => b_g0
  | 15 => b_g1
  | 16 => b_g2
  | 17 => b_g3
  | 18 => b_g4
  | 19 => b_g5
  | 20 => q3
  | 21 => s_s1
  | 22 => s_s2
  | 23 => s_s3
  | k => if k < 44 then b_aL (k - 24) else b_aW (k - 44)
def gX : Nat → Nat := fun k => match k with
  | 0 => 0
  | 1 => 1
  | 2 => 2
  | 3 => 3
  | 4 => 4
  | 5 => 5
  | 6 => 6
  | 7 => 14
  | 8 => 15
  | 9 => 16
  | 10 => 57
  | 11 => 58
  | 12 => 59
  | 13 => 7
  | 14 => 8
  | 15 => 9
  | 16 => 10
  | 17 => 11
  | 18 => 12
  | 19 => 13
  | 20 => 60
  | 21 => 61
  | 22 => 62
  | 23 => 63
  | k => if k < 44 then 2 * k - 31 else 2 * k - 70
def wX (cI cJ cC cZ cR : ClassId) (a q0 t_t1 t_t2 t_t3 q1 b_x1 b_x2 b_g0 b_g1 b_g2 b_g3 b_g4 b_g5 b_x3 b_x4 b_x5 q2 d_d1 d_d2 q3 s_s1 s_s2 s_s3 : Nat) (b_aL b_aW : Nat → Nat) : va_W := [(a, .inr (0, [.ref q0, .ref q1, .ref q2, .ref q3, .int 0, .int 0, .int 0])), (q0, .inr (1, [.ref t_t1, .ref t_t2, .ref t_t3, .int 0, .int 0])), (t_t1, .inl (cC, 40, .inl (fun _ => 0))), (t_t2, .inl (cI, 20, .inl (fun _ => 0))), (t_t3, .inl (cI, 20, .inl (fun _ => 0))), (q1, .inr (2, [.ref b_x1, .ref b_x2, .int 0, .int 0, .int 0, .int 0, .ref b_x3, .ref b_x4, .ref b_x5])), (b_x1, .inl (cR, 20, .inr (.inr (.inr (.inr (fun i => some (b_aL i))))))), (b_x2, .inr (4, [.ref b_g0, .ref b_g1, .ref b_g2, .ref b_g3, .ref b_g4, .ref b_g5, .int 0, .int 0, .int 0])), (b_g0, .inl (cJ, 6, .inr (.inl (fun _ => 0)))), (b_g1, .inl (cJ, 6, .inr (.inl (fun _ => 0)))), (b_g2, .inl (cJ, 6, .inr (.inl (fun _ => 0)))), (b_g3, .inl (cJ, 6, .inr (.inl (fun _ => 0)))), (b_g4, .inl (cJ, 6, .inr (.inl (fun _ => 0)))), (b_g5, .inl (cJ, 6, .inr (.inl (fun _ => 0)))), (b_x3, .inl (cJ, 24, .inr (.inl (fun _ => 0)))), (b_x4, .inl (cJ, 4, .inr (.inl (fun _ => 0)))), (b_x5, .inl (cJ, 4, .inr (.inl (fun _ => -1)))), (b_aL 0, .inr (6, [.int 0, .null, .int 0, .int 0, .int 0, .int (-1), .int 0, .ref (b_aW 0)])), (b_aW 0, .inl (cJ, 24, .inr (.inl (fun _ => 0)))), (b_aL 1, .inr (6, [.int 0, .null, .int 0, .int 0, .int 0, .int (-1), .int 0, .ref (b_aW 1)])), (b_aW 1, .inl (cJ, 24, .inr (.inl (fun _ => 0)))), (b_aL 2, .inr (6, [.int 0, .null, .int 0, .int 0, .int 0, .int (-1), .int 0, .ref (b_aW 2)])), (b_aW 2, .inl (cJ, 24, .inr (.inl (fun _ => 0)))), (b_aL 3, .inr (6, [.int 0, .null, .int 0, .int 0, .int 0, .int (-1), .int 0, .ref (b_aW 3)])), (b_aW 3, .inl (cJ, 24, .inr (.inl (fun _ => 0)))), (b_aL 4, .inr (6, [.int 0, .null, .int 0, .int 0, .int 0, .int (-1), .int 0, .ref (b_aW 4)])), (b_aW 4, .inl (cJ, 24, .inr (.inl (fun _ => 0)))), (b_aL 5, .inr (6, [.int 0, .null, .int 0, .int 0, .int 0, .int (-1), .int 0, .ref (b_aW 5)])), (b_aW 5, .inl (cJ, 24, .inr (.inl (fun _ => 0)))), (b_aL 6, .inr (6, [.int 0, .null, .int 0, .int 0, .int 0, .int (-1), .int 0, .ref (b_aW 6)])), (b_aW 6, .inl (cJ, 24, .inr (.inl (fun _ => 0)))), (b_aL 7, .inr (6, [.int 0, .null, .int 0, .int 0, .int 0, .int (-1), .int 0, .ref (b_aW 7)])), (b_aW 7, .inl (cJ, 24, .inr (.inl (fun _ => 0)))), (b_aL 8, .inr (6, [.int 0, .null, .int 0, .int 0, .int 0, .int (-1), .int 0, .ref (b_aW 8)])), (b_aW 8, .inl (cJ, 24, .inr (.inl (fun _ => 0)))), (b_aL 9, .inr (6, [.int 0, .null, .int 0, .int 0, .int 0, .int (-1), .int 0, .ref (b_aW 9)])), (b_aW 9, .inl (cJ, 24, .inr (.inl (fun _ => 0)))), (b_aL 10, .inr (6, [.int 0, .null, .int 0, .int 0, .int 0, .int (-1), .int 0, .ref (b_aW 10)])), (b_aW 10, .inl (cJ, 24, .inr (.inl (fun _ => 0)))), (b_aL 11, .inr (6, [.int 0, .null, .int 0, .int 0, .int 0, .int (-1), .int 0, .ref (b_aW 11)])), (b_aW 11, .inl (cJ, 24, .inr (.inl (fun _ => 0)))), (b_aL 12, .inr (6, [.int 0, .null, .int 0, .int 0, .int 0, .int (-1), .int 0, .ref (b_aW 12)])), (b_aW 12, .inl (cJ, 24, .inr (.inl (fun _ => 0)))), (b_aL 13, .inr (6, [.int 0, .null, .int 0, .int 0, .int 0, .int (-1), .int 0, .ref (b_aW 13)])), (b_aW 13, .inl (cJ, 24, .inr (.inl (fun _ => 0)))), (b_aL 14, .inr (6, [.int 0, .null, .int 0, .int 0, .int 0, .int (-1), .int 0, .ref (b_aW 14)])), (b_aW 14, .inl (cJ, 24, .inr (.inl (fun _ => 0)))), (b_aL 15, .inr (6, [.int 0, .null, .int 0, .int 0, .int 0, .int (-1), .int 0, .ref (b_aW 15)])), (b_aW 15, .inl (cJ, 24, .inr (.inl (fun _ => 0)))), (b_aL 16, .inr (6, [.int 0, .null, .int 0, .int 0, .int 0, .int (-1), .int 0, .ref (b_aW 16)])), (b_aW 16, .inl (cJ, 24, .inr (.inl (fun _ => 0)))), (b_aL 17, .inr (6, [.int 0, .null, .int 0, .int 0, .int 0, .int (-1), .int 0, .ref (b_aW 17)])), (b_aW 17, .inl (cJ, 24, .inr (.inl (fun _ => 0)))), (b_aL 18, .inr (6, [.int 0, .null, .int 0, .int 0, .int 0, .int (-1), .int 0, .ref (b_aW 18)])), (b_aW 18, .inl (cJ, 24, .inr (.inl (fun _ => 0)))), (b_aL 19, .inr (6, [.int 0, .null, .int 0, .int 0, .int 0, .int (-1), .int 0, .ref (b_aW 19)])), (b_aW 19, .inl (cJ, 24, .inr (.inl (fun _ => 0)))), (q2, .inr (3, [.ref q0, .ref q1, .int 0, .null, .int 0, .ref d_d1, .ref d_d2, .int 0, .int 0, .int 0, .int 0])), (d_d1, .inl (cI, 3, .inl (fun _ => 0))), (d_d2, .inl (cZ, 3, .inl (fun _ => 0))), (q3, .inr (5, [.ref q1, .ref s_s1, .ref s_s2, .ref s_s3, .int 0])), (s_s1, .inl (cJ, 4, .inr (.inl (fun _ => 0)))), (s_s2, .inl (cI, 4, .inl (fun _ => 0))), (s_s3, .inl (cI, 4, .inl (fun _ => 0)))]
theorem kOf_m1 {kd : Nat → Nat} : kOf kd (-1) = none := if_pos (by decide)
theorem gX_inj : ∀ i, i < 64 → ∀ j, j < 64 → gX i = gX j → i = j := by decide +kernel
theorem adX_line {a q0 t_t1 t_t2 t_t3 q1 b_x1 b_x2 b_g0 b_g1 b_g2 b_g3 b_g4 b_g5 b_x3 b_x4 b_x5 q2 d_d1 d_d2 q3 s_s1 s_s2 s_s3 : Nat} {b_aL b_aW : Nat → Nat} {i : Nat} (h : i < 20) : adX a q0 t_t1 t_t2 t_t3 q1 b_x1 b_x2 b_g0 b_g1 b_g2 b_g3 b_g4 b_g5 b_x3 b_x4 b_x5 q2 d_d1 d_d2 q3 s_s1 s_s2 s_s3 b_aL b_aW (24 + i) = b_aL i := by
  match i, h with
  | 0, _ => rfl
  | 1, _ => rfl
  | 2, _ => rfl
  | 3, _ => rfl
  | 4, _ => rfl
  | 5, _ => rfl
  | 6, _ => rfl
  | 7, _ => rfl
  | 8, _ => rfl
  | 9, _ => rfl
  | 10, _ => rfl
  | 11, _ => rfl
  | 12, _ => rfl
  | 13, _ => rfl
  | 14, _ => rfl
  | 15, _ => rfl
  | 16, _ => rfl
  | 17, _ => rfl
  | 18, _ => rfl
  | 19, _ => rfl
  | n + 20, h => exact absurd h (by omega)
set_option maxRecDepth 100000 in
set_option maxHeartbeats 4000000 in
theorem wX_at {D : va_G} {cI cJ cC cZ cR : ClassId} {kd : Nat → Nat} {a q0 t_t1 t_t2 t_t3 q1 b_x1 b_x2 b_g0 b_g1 b_g2 b_g3 b_g4 b_g5 b_x3 b_x4 b_x5 q2 d_d1 d_d2 q3 s_s1 s_s2 s_s3 : Nat} {b_aL b_aW : Nat → Nat} {H : Heap} : ∀ k, k < 64 → ∃ e, (wX cI cJ cC cZ cR a q0 t_t1 t_t2 t_t3 q1 b_x1 b_x2 b_g0 b_g1 b_g2 b_g3 b_g4 b_g5 b_x3 b_x4 b_x5 q2 d_d1 d_d2 q3 s_s1 s_s2 s_s3 b_aL b_aW)[gX k]? = some (adX a q0 t_t1 t_t2 t_t3 q1 b_x1 b_x2 b_g0 b_g1 b_g2 b_g3 b_g4 b_g5 b_x3 b_x4 b_x5 q2 d_d1 d_d2 q3 s_s1 s_s2 s_s3 b_aL b_aW k, e) ∧ (va_at D cls8 (adX a q0 t_t1 t_t2 t_t3 q1 b_x1 b_x2 b_g0 b_g1 b_g2 b_g3 b_g4 b_g5 b_x3 b_x4 b_x5 q2 d_d1 d_d2 q3 s_s1 s_s2 s_s3 b_aL b_aW k, e) H → va_at D cls8 (adX a q0 t_t1 t_t2 t_t3 q1 b_x1 b_x2 b_g0 b_g1 b_g2 b_g3 b_g4 b_g5 b_x3 b_x4 b_x5 q2 d_d1 d_d2 q3 s_s1 s_s2 s_s3 b_aL b_aW k, GX cI cJ cC cZ cR (adX a q0 t_t1 t_t2 t_t3 q1 b_x1 b_x2 b_g0 b_g1 b_g2 b_g3 b_g4 b_g5 b_x3 b_x4 b_x5 q2 d_d1 d_d2 q3 s_s1 s_s2 s_s3 b_aL b_aW) kd k (hxZ k) (hlZ k)) H) := by
  intro k hk
  match k, hk with
  | 0, _ => exact ⟨_, rfl, fun h => h⟩
  | 1, _ => exact ⟨_, rfl, fun h => h⟩
  | 2, _ => exact ⟨_, rfl, fun h => h⟩
  | 3, _ => exact ⟨_, rfl, fun h => h⟩
  | 4, _ => exact ⟨_, rfl, fun h => h⟩
  | 5, _ => exact ⟨_, rfl, fun h => h⟩
  | 6, _ => exact ⟨_, rfl, at_q (fun j hj => by rw [adX_line hj])⟩
  | 7, _ => exact ⟨_, rfl, fun h => h⟩
  | 8, _ => exact ⟨_, rfl, fun h => h⟩
  | 9, _ => exact ⟨_, rfl, fun h => h⟩
  | 10, _ => exact ⟨_, rfl, fun h => by
      show va_at D cls8 (q2, .inr (3, [.ref q0, .ref q1, .int 0, va_rf (kOf kd (-1)), .int 0, .ref d_d1, .ref d_d2, .int 0, .int 0, .int 0, .int 0])) H
      rw [kOf_m1]
      exact h⟩
  | 11, _ => exact ⟨_, rfl, fun h => h⟩
  | 12, _ => exact ⟨_, rfl, fun h => h⟩
  | 13, _ => exact ⟨_, rfl, fun h => h⟩
  | 14, _ => exact ⟨_, rfl, fun h => h⟩
  | 15, _ => exact ⟨_, rfl, fun h => h⟩
  | 16, _ => exact ⟨_, rfl, fun h => h⟩
  | 17, _ => exact ⟨_, rfl, fun h => h⟩
  | 18, _ => exact ⟨_, rfl, fun h => h⟩
  | 19, _ => exact ⟨_, rfl, fun h => h⟩
  | 20, _ => exact ⟨_, rfl, fun h => h⟩
  | 21, _ => exact ⟨_, rfl, fun h => h⟩
  | 22, _ => exact ⟨_, rfl, fun h => h⟩
  | 23, _ => exact ⟨_, rfl, fun h => h⟩
  | 24, _ => exact ⟨_, rfl, fun h => by
      show va_at D cls8 (b_aL 0, .inr (6, [.int 0, va_rf (kOf kd (-1)), .int 0, .int 0, .int 0, .int (-1), .int 0, .ref (b_aW 0)])) H
      rw [kOf_m1]
      exact h⟩
  | 25, _ => exact ⟨_, rfl, fun h => by
      show va_at D cls8 (b_aL 1, .inr (6, [.int 0, va_rf (kOf kd (-1)), .int 0, .int 0, .int 0, .int (-1), .int 0, .ref (b_aW 1)])) H
      rw [kOf_m1]
      exact h⟩
  | 26, _ => exact ⟨_, rfl, fun h => by
      show va_at D cls8 (b_aL 2, .inr (6, [.int 0, va_rf (kOf kd (-1)), .int 0, .int 0, .int 0, .int (-1), .int 0, .ref (b_aW 2)])) H
      rw [kOf_m1]
      exact h⟩
  | 27, _ => exact ⟨_, rfl, fun h => by
      show va_at D cls8 (b_aL 3, .inr (6, [.int 0, va_rf (kOf kd (-1)), .int 0, .int 0, .int 0, .int (-1), .int 0, .ref (b_aW 3)])) H
      rw [kOf_m1]
      exact h⟩
  | 28, _ => exact ⟨_, rfl, fun h => by
      show va_at D cls8 (b_aL 4, .inr (6, [.int 0, va_rf (kOf kd (-1)), .int 0, .int 0, .int 0, .int (-1), .int 0, .ref (b_aW 4)])) H
      rw [kOf_m1]
      exact h⟩
  | 29, _ => exact ⟨_, rfl, fun h => by
      show va_at D cls8 (b_aL 5, .inr (6, [.int 0, va_rf (kOf kd (-1)), .int 0, .int 0, .int 0, .int (-1), .int 0, .ref (b_aW 5)])) H
      rw [kOf_m1]
      exact h⟩
  | 30, _ => exact ⟨_, rfl, fun h => by
      show va_at D cls8 (b_aL 6, .inr (6, [.int 0, va_rf (kOf kd (-1)), .int 0, .int 0, .int 0, .int (-1), .int 0, .ref (b_aW 6)])) H
      rw [kOf_m1]
      exact h⟩
  | 31, _ => exact ⟨_, rfl, fun h => by
      show va_at D cls8 (b_aL 7, .inr (6, [.int 0, va_rf (kOf kd (-1)), .int 0, .int 0, .int 0, .int (-1), .int 0, .ref (b_aW 7)])) H
      rw [kOf_m1]
      exact h⟩
  | 32, _ => exact ⟨_, rfl, fun h => by
      show va_at D cls8 (b_aL 8, .inr (6, [.int 0, va_rf (kOf kd (-1)), .int 0, .int 0, .int 0, .int (-1), .int 0, .ref (b_aW 8)])) H
      rw [kOf_m1]
      exact h⟩
  | 33, _ => exact ⟨_, rfl, fun h => by
      show va_at D cls8 (b_aL 9, .inr (6, [.int 0, va_rf (kOf kd (-1)), .int 0, .int 0, .int 0, .int (-1), .int 0, .ref (b_aW 9)])) H
      rw [kOf_m1]
      exact h⟩
  | 34, _ => exact ⟨_, rfl, fun h => by
      show va_at D cls8 (b_aL 10, .inr (6, [.int 0, va_rf (kOf kd (-1)), .int 0, .int 0, .int 0, .int (-1), .int 0, .ref (b_aW 10)])) H
      rw [kOf_m1]
      exact h⟩
  | 35, _ => exact ⟨_, rfl, fun h => by
      show va_at D cls8 (b_aL 11, .inr (6, [.int 0, va_rf (kOf kd (-1)), .int 0, .int 0, .int 0, .int (-1), .int 0, .ref (b_aW 11)])) H
      rw [kOf_m1]
      exact h⟩
  | 36, _ => exact ⟨_, rfl, fun h => by
      show va_at D cls8 (b_aL 12, .inr (6, [.int 0, va_rf (kOf kd (-1)), .int 0, .int 0, .int 0, .int (-1), .int 0, .ref (b_aW 12)])) H
      rw [kOf_m1]
      exact h⟩
  | 37, _ => exact ⟨_, rfl, fun h => by
      show va_at D cls8 (b_aL 13, .inr (6, [.int 0, va_rf (kOf kd (-1)), .int 0, .int 0, .int 0, .int (-1), .int 0, .ref (b_aW 13)])) H
      rw [kOf_m1]
      exact h⟩
  | 38, _ => exact ⟨_, rfl, fun h => by
      show va_at D cls8 (b_aL 14, .inr (6, [.int 0, va_rf (kOf kd (-1)), .int 0, .int 0, .int 0, .int (-1), .int 0, .ref (b_aW 14)])) H
      rw [kOf_m1]
      exact h⟩
  | 39, _ => exact ⟨_, rfl, fun h => by
      show va_at D cls8 (b_aL 15, .inr (6, [.int 0, va_rf (kOf kd (-1)), .int 0, .int 0, .int 0, .int (-1), .int 0, .ref (b_aW 15)])) H
      rw [kOf_m1]
      exact h⟩
  | 40, _ => exact ⟨_, rfl, fun h => by
      show va_at D cls8 (b_aL 16, .inr (6, [.int 0, va_rf (kOf kd (-1)), .int 0, .int 0, .int 0, .int (-1), .int 0, .ref (b_aW 16)])) H
      rw [kOf_m1]
      exact h⟩
  | 41, _ => exact ⟨_, rfl, fun h => by
      show va_at D cls8 (b_aL 17, .inr (6, [.int 0, va_rf (kOf kd (-1)), .int 0, .int 0, .int 0, .int (-1), .int 0, .ref (b_aW 17)])) H
      rw [kOf_m1]
      exact h⟩
  | 42, _ => exact ⟨_, rfl, fun h => by
      show va_at D cls8 (b_aL 18, .inr (6, [.int 0, va_rf (kOf kd (-1)), .int 0, .int 0, .int 0, .int (-1), .int 0, .ref (b_aW 18)])) H
      rw [kOf_m1]
      exact h⟩
  | 43, _ => exact ⟨_, rfl, fun h => by
      show va_at D cls8 (b_aL 19, .inr (6, [.int 0, va_rf (kOf kd (-1)), .int 0, .int 0, .int 0, .int (-1), .int 0, .ref (b_aW 19)])) H
      rw [kOf_m1]
      exact h⟩
  | 44, _ => exact ⟨_, rfl, fun h => h⟩
  | 45, _ => exact ⟨_, rfl, fun h => h⟩
  | 46, _ => exact ⟨_, rfl, fun h => h⟩
  | 47, _ => exact ⟨_, rfl, fun h => h⟩
  | 48, _ => exact ⟨_, rfl, fun h => h⟩
  | 49, _ => exact ⟨_, rfl, fun h => h⟩
  | 50, _ => exact ⟨_, rfl, fun h => h⟩
  | 51, _ => exact ⟨_, rfl, fun h => h⟩
  | 52, _ => exact ⟨_, rfl, fun h => h⟩
  | 53, _ => exact ⟨_, rfl, fun h => h⟩
  | 54, _ => exact ⟨_, rfl, fun h => h⟩
  | 55, _ => exact ⟨_, rfl, fun h => h⟩
  | 56, _ => exact ⟨_, rfl, fun h => h⟩
  | 57, _ => exact ⟨_, rfl, fun h => h⟩
  | 58, _ => exact ⟨_, rfl, fun h => h⟩
  | 59, _ => exact ⟨_, rfl, fun h => h⟩
  | 60, _ => exact ⟨_, rfl, fun h => h⟩
  | 61, _ => exact ⟨_, rfl, fun h => h⟩
  | 62, _ => exact ⟨_, rfl, fun h => h⟩
  | 63, _ => exact ⟨_, rfl, fun h => h⟩
  | n + 64, h => exact absurd h (by omega)
theorem wX_P {D : va_G} {cI cJ cC cZ cR : ClassId} {kd : Nat → Nat} {a q0 t_t1 t_t2 t_t3 q1 b_x1 b_x2 b_g0 b_g1 b_g2 b_g3 b_g4 b_g5 b_x3 b_x4 b_x5 q2 d_d1 d_d2 q3 s_s1 s_s2 s_s3 : Nat} {b_aL b_aW : Nat → Nat} {H : Heap} (hP : va_P D cls8 (wX cI cJ cC cZ cR a q0 t_t1 t_t2 t_t3 q1 b_x1 b_x2 b_g0 b_g1 b_g2 b_g3 b_g4 b_g5 b_x3 b_x4 b_x5 q2 d_d1 d_d2 q3 s_s1 s_s2 s_s3 b_aL b_aW) H) : va_P D cls8 (wl 64 (adX a q0 t_t1 t_t2 t_t3 q1 b_x1 b_x2 b_g0 b_g1 b_g2 b_g3 b_g4 b_g5 b_x3 b_x4 b_x5 q2 d_d1 d_d2 q3 s_s1 s_s2 s_s3 b_aL b_aW) (GX cI cJ cC cZ cR (adX a q0 t_t1 t_t2 t_t3 q1 b_x1 b_x2 b_g0 b_g1 b_g2 b_g3 b_g4 b_g5 b_x3 b_x4 b_x5 q2 d_d1 d_d2 q3 s_s1 s_s2 s_s3 b_aL b_aW) kd) hxZ hlZ) H := by
  intro k q hq
  obtain ⟨hk, rfl⟩ := wl_lt hq
  obtain ⟨e, h1, h2⟩ := wX_at (D := D) (cI := cI) (cJ := cJ) (cC := cC) (cZ := cZ) (cR := cR) (kd := kd) (H := H) k hk
  exact h2 (hP _ _ h1)
theorem wX_D {cI cJ cC cZ cR : ClassId} {a q0 t_t1 t_t2 t_t3 q1 b_x1 b_x2 b_g0 b_g1 b_g2 b_g3 b_g4 b_g5 b_x3 b_x4 b_x5 q2 d_d1 d_d2 q3 s_s1 s_s2 s_s3 : Nat} {b_aL b_aW : Nat → Nat} {A : Nat → Prop} (hD : va_D A (wX cI cJ cC cZ cR a q0 t_t1 t_t2 t_t3 q1 b_x1 b_x2 b_g0 b_g1 b_g2 b_g3 b_g4 b_g5 b_x3 b_x4 b_x5 q2 d_d1 d_d2 q3 s_s1 s_s2 s_s3 b_aL b_aW)) : wlD 64 (adX a q0 t_t1 t_t2 t_t3 q1 b_x1 b_x2 b_g0 b_g1 b_g2 b_g3 b_g4 b_g5 b_x3 b_x4 b_x5 q2 d_d1 d_d2 q3 s_s1 s_s2 s_s3 b_aL b_aW) A := by
  have h0 := fun k hk => wX_at (D := (fun _ => cI, fun _ _ => 0)) (cI := cI) (cJ := cJ) (cC := cC) (cZ := cZ) (cR := cR) (kd := fun _ => 0) (H := #[]) (a := a) (q0 := q0) (t_t1 := t_t1) (t_t2 := t_t2) (t_t3 := t_t3) (q1 := q1) (b_x1 := b_x1) (b_x2 := b_x2) (b_g0 := b_g0) (b_g1 := b_g1) (b_g2 := b_g2) (b_g3 := b_g3) (b_g4 := b_g4) (b_g5 := b_g5) (b_x3 := b_x3) (b_x4 := b_x4) (b_x5 := b_x5) (q2 := q2) (d_d1 := d_d1) (d_d2 := d_d2) (q3 := q3) (s_s1 := s_s1) (s_s2 := s_s2) (s_s3 := s_s3) (b_aL := b_aL) (b_aW := b_aW) k hk
  refine ⟨fun i j hi hj he => ?_, fun k hk => ?_⟩
  · obtain ⟨e1, h1, -⟩ := h0 i hi
    obtain ⟨e2, h2, -⟩ := h0 j hj
    exact gX_inj i hi j hj (hD.1 _ _ _ _ h1 h2 he)
  · obtain ⟨e1, h1, -⟩ := h0 k hk
    exact hD.2 _ _ h1
def adM (a q0 q1 q2 q3 q4 q5 q6 q7 q8 q9 q10 q11 q12 q13 q14 q15 q16 q17 q18 q19 : Nat) : Nat → Nat := fun k => match k with
  | 0 => a
  | 1 => q0
  | 2 => q1
  | 3 => q2
  | 4 => q3
  | 5 => q4
  | 6 => q5
  | 7 => q6
  | 8 => q7
  | 9 => q8
  | 10 => q9
  | 11 => q10
  | 12 => q11
  | 13 => q12
  | 14 => q13
  | 15 => q14
  | 16 => q15
  | 17 => q16
  | 18 => q17
  | 19 => q18
  | _ => q19
def wM (cI cZ : ClassId) (a q0 q1 q2 q3 q4 q5 q6 q7 q8 q9 q10 q11 q12 q13 q14 q15 q16 q17 q18 q19 : Nat) : va_W := [(a, .inr (7, [.ref q0, .int 0, .int 0, .ref q1, .ref q2, .int 0, .int 0, .ref q3, .ref q4, .ref q5, .ref q6, .ref q7, .ref q8, .ref q9, .ref q10, .ref q11, .ref q12, .ref q13, .ref q14, .ref q15, .int 0, .ref q16, .ref q17, .int 0, .ref q18, .int (-1), .int 0, .ref q19])), (q0, .inl (cI, 40, .inl (fun _ => 0))), (q1, .inl (cI, 20, .inl (fun _ => 0))), (q2, .inl (cI, 20, .inl (fun _ => 0))), (q3, .inl (cI, 21, .inl (fun _ => 0))), (q4, .inl (cI, 21, .inl (fun _ => 0))), (q5, .inl (cI, 21, .inl (fun _ => 0))), (q6, .inl (cI, 21, .inl (fun _ => 0))), (q7, .inl (cI, 21, .inl (fun _ => 0))), (q8, .inl (cI, 21, .inl (fun _ => 0))), (q9, .inl (cZ, 21, .inl (fun _ => 0))), (q10, .inl (cZ, 21, .inl (fun _ => 0))), (q11, .inl (cZ, 21, .inl (fun _ => 0))), (q12, .inl (cI, 21, .inl (fun _ => 0))), (q13, .inl (cI, 21, .inl (fun _ => 0))), (q14, .inl (cZ, 21, .inl (fun _ => 0))), (q15, .inl (cI, 21, .inl (fun _ => 0))), (q16, .inl (cI, 21, .inl (fun _ => 0))), (q17, .inl (cI, 21, .inl (fun _ => 0))), (q18, .inl (cI, 21, .inl (fun _ => 0))), (q19, .inl (cI, 8, .inl (fun _ => 0)))]
set_option maxRecDepth 100000 in
set_option maxHeartbeats 4000000 in
theorem wM_at {cI cZ : ClassId} {a q0 q1 q2 q3 q4 q5 q6 q7 q8 q9 q10 q11 q12 q13 q14 q15 q16 q17 q18 q19 : Nat} {hl : HL} : ∀ k, k < 21 → (wM cI cZ a q0 q1 q2 q3 q4 q5 q6 q7 q8 q9 q10 q11 q12 q13 q14 q15 q16 q17 q18 q19)[k]? = some (adM a q0 q1 q2 q3 q4 q5 q6 q7 q8 q9 q10 q11 q12 q13 q14 q15 q16 q17 q18 q19 k, GM cI cZ (adM a q0 q1 q2 q3 q4 q5 q6 q7 q8 q9 q10 q11 q12 q13 q14 q15 q16 q17 q18 q19) k (hmZ k) (hl k)) := by
  intro k hk
  match k, hk with
  | 0, _ => rfl
  | 1, _ => rfl
  | 2, _ => rfl
  | 3, _ => rfl
  | 4, _ => rfl
  | 5, _ => rfl
  | 6, _ => rfl
  | 7, _ => rfl
  | 8, _ => rfl
  | 9, _ => rfl
  | 10, _ => rfl
  | 11, _ => rfl
  | 12, _ => rfl
  | 13, _ => rfl
  | 14, _ => rfl
  | 15, _ => rfl
  | 16, _ => rfl
  | 17, _ => rfl
  | 18, _ => rfl
  | 19, _ => rfl
  | 20, _ => rfl
  | n + 21, h => exact absurd h (by omega)
theorem wM_eq {cI cZ : ClassId} {a q0 q1 q2 q3 q4 q5 q6 q7 q8 q9 q10 q11 q12 q13 q14 q15 q16 q17 q18 q19 : Nat} {hl : HL} : wM cI cZ a q0 q1 q2 q3 q4 q5 q6 q7 q8 q9 q10 q11 q12 q13 q14 q15 q16 q17 q18 q19 = wl 21 (adM a q0 q1 q2 q3 q4 q5 q6 q7 q8 q9 q10 q11 q12 q13 q14 q15 q16 q17 q18 q19) (GM cI cZ (adM a q0 q1 q2 q3 q4 q5 q6 q7 q8 q9 q10 q11 q12 q13 q14 q15 q16 q17 q18 q19)) hmZ hl := by
  apply List.ext_getElem?
  intro k
  by_cases hk : k < 21
  · rw [wM_at (hl := hl) k hk, wl_at hk]
  · rw [List.getElem?_eq_none (by show 21 ≤ k; omega), List.getElem?_eq_none (by rw [wl_len]; omega)]
