/-! decoding by a look at the bytes: a lemma an opcode -/
theorem rd1 {c : ByteArray} {p : Nat} (h : p < c.size) : (Reader.u1 : Decoder Nat) c p = .ok (c[p].toNat, p + 1) := by
  unfold Reader.u1
  show (dite (p < c.size) _ _ : Decoder Nat) c p = _
  rw [dif_pos h]
  rfl
def at1 (c : ByteArray) (p b : Nat) : Bool := if h : p < c.size then c[p].toNat == b else false
theorem at1.rd {c : ByteArray} {p b : Nat} (h : at1 c p b = true) : (Reader.u1 : Decoder Nat) c p = .ok (b, p + 1) := by
  unfold at1 at h
  by_cases hp : p < c.size
  · rw [dif_pos hp] at h
    rw [rd1 hp, beq_iff_eq.mp h]
  · rw [dif_neg hp] at h
    cases h
def at2 (c : ByteArray) (p a b : Nat) : Bool := at1 c p a && at1 c (p + 1) b
theorem at2.rd {c : ByteArray} {p a b : Nat} (h : at2 c p a b = true) : (Reader.u1 : Decoder Nat) c p = .ok (a, p + 1) ∧ (Reader.u1 : Decoder Nat) c (p + 1) = .ok (b, p + 2) := by
  have h := Bool.and_eq_true_iff.mp h
  exact ⟨at1.rd h.1, at1.rd h.2⟩
def at3 (c : ByteArray) (p x a b : Nat) : Bool := at1 c p x && at2 c (p + 1) a b
theorem at3.rd {c : ByteArray} {p x a b : Nat} (h : at3 c p x a b = true) : (Reader.u1 : Decoder Nat) c p = .ok (x, p + 1) ∧ (Reader.u1 : Decoder Nat) c (p + 1) = .ok (a, p + 2) ∧ (Reader.u1 : Decoder Nat) c (p + 2) = .ok (b, p + 3) := by
  have h := Bool.and_eq_true_iff.mp h
  exact ⟨at1.rd h.1, (at2.rd h.2).1, (at2.rd h.2).2⟩
theorem dq__iconst___1_ {c : ByteArray} {pc : Nat} (h : at1 c pc 2 = true) : decode c pc = .ok (.iconst (-1), 1) := by
  show Except.bind (Except.bind ((Reader.u1 : Decoder Nat) c pc) _) _ = _
  rw [at1.rd h]
  show Except.ok ((.iconst (-1) : Instr), pc + 1 - pc) = _
  rw [Nat.add_sub_cancel_left]
theorem dq__iconst_0 {c : ByteArray} {pc : Nat} (h : at1 c pc 3 = true) : decode c pc = .ok (.iconst 0, 1) := by
  show Except.bind (Except.bind ((Reader.u1 : Decoder Nat) c pc) _) _ = _
  rw [at1.rd h]
  show Except.ok ((.iconst 0 : Instr), pc + 1 - pc) = _
  rw [Nat.add_sub_cancel_left]
theorem dq__iconst_1 {c : ByteArray} {pc : Nat} (h : at1 c pc 4 = true) : decode c pc = .ok (.iconst 1, 1) := by
  show Except.bind (Except.bind ((Reader.u1 : Decoder Nat) c pc) _) _ = _
  rw [at1.rd h]
  show Except.ok ((.iconst 1 : Instr), pc + 1 - pc) = _
  rw [Nat.add_sub_cancel_left]
theorem dq__iconst_2 {c : ByteArray} {pc : Nat} (h : at1 c pc 5 = true) : decode c pc = .ok (.iconst 2, 1) := by
  show Except.bind (Except.bind ((Reader.u1 : Decoder Nat) c pc) _) _ = _
  rw [at1.rd h]
  show Except.ok ((.iconst 2 : Instr), pc + 1 - pc) = _
  rw [Nat.add_sub_cancel_left]
theorem dq__iconst_3 {c : ByteArray} {pc : Nat} (h : at1 c pc 6 = true) : decode c pc = .ok (.iconst 3, 1) := by
  show Except.bind (Except.bind ((Reader.u1 : Decoder Nat) c pc) _) _ = _
  rw [at1.rd h]
  show Except.ok ((.iconst 3 : Instr), pc + 1 - pc) = _
  rw [Nat.add_sub_cancel_left]
theorem dq__iconst_4 {c : ByteArray} {pc : Nat} (h : at1 c pc 7 = true) : decode c pc = .ok (.iconst 4, 1) := by
  show Except.bind (Except.bind ((Reader.u1 : Decoder Nat) c pc) _) _ = _
  rw [at1.rd h]
  show Except.ok ((.iconst 4 : Instr), pc + 1 - pc) = _
  rw [Nat.add_sub_cancel_left]
theorem dq__iconst_5 {c : ByteArray} {pc : Nat} (h : at1 c pc 8 = true) : decode c pc = .ok (.iconst 5, 1) := by
  show Except.bind (Except.bind ((Reader.u1 : Decoder Nat) c pc) _) _ = _
  rw [at1.rd h]
  show Except.ok ((.iconst 5 : Instr), pc + 1 - pc) = _
  rw [Nat.add_sub_cancel_left]
theorem dq__lconst_0 {c : ByteArray} {pc : Nat} (h : at1 c pc 9 = true) : decode c pc = .ok (.lconst 0, 1) := by
  show Except.bind (Except.bind ((Reader.u1 : Decoder Nat) c pc) _) _ = _
  rw [at1.rd h]
  show Except.ok ((.lconst 0 : Instr), pc + 1 - pc) = _
  rw [Nat.add_sub_cancel_left]
theorem dq__lconst_1 {c : ByteArray} {pc : Nat} (h : at1 c pc 10 = true) : decode c pc = .ok (.lconst 1, 1) := by
  show Except.bind (Except.bind ((Reader.u1 : Decoder Nat) c pc) _) _ = _
  rw [at1.rd h]
  show Except.ok ((.lconst 1 : Instr), pc + 1 - pc) = _
  rw [Nat.add_sub_cancel_left]
theorem dq__iload_n_0 {c : ByteArray} {pc : Nat} (h : at1 c pc 26 = true) : decode c pc = .ok (.iload_n 0, 1) := by
  show Except.bind (Except.bind ((Reader.u1 : Decoder Nat) c pc) _) _ = _
  rw [at1.rd h]
  show Except.ok ((.iload_n 0 : Instr), pc + 1 - pc) = _
  rw [Nat.add_sub_cancel_left]
theorem dq__iload_n_1 {c : ByteArray} {pc : Nat} (h : at1 c pc 27 = true) : decode c pc = .ok (.iload_n 1, 1) := by
  show Except.bind (Except.bind ((Reader.u1 : Decoder Nat) c pc) _) _ = _
  rw [at1.rd h]
  show Except.ok ((.iload_n 1 : Instr), pc + 1 - pc) = _
  rw [Nat.add_sub_cancel_left]
theorem dq__iload_n_2 {c : ByteArray} {pc : Nat} (h : at1 c pc 28 = true) : decode c pc = .ok (.iload_n 2, 1) := by
  show Except.bind (Except.bind ((Reader.u1 : Decoder Nat) c pc) _) _ = _
  rw [at1.rd h]
  show Except.ok ((.iload_n 2 : Instr), pc + 1 - pc) = _
  rw [Nat.add_sub_cancel_left]
theorem dq__iload_n_3 {c : ByteArray} {pc : Nat} (h : at1 c pc 29 = true) : decode c pc = .ok (.iload_n 3, 1) := by
  show Except.bind (Except.bind ((Reader.u1 : Decoder Nat) c pc) _) _ = _
  rw [at1.rd h]
  show Except.ok ((.iload_n 3 : Instr), pc + 1 - pc) = _
  rw [Nat.add_sub_cancel_left]
theorem dq__lload_n_0 {c : ByteArray} {pc : Nat} (h : at1 c pc 30 = true) : decode c pc = .ok (.lload_n 0, 1) := by
  show Except.bind (Except.bind ((Reader.u1 : Decoder Nat) c pc) _) _ = _
  rw [at1.rd h]
  show Except.ok ((.lload_n 0 : Instr), pc + 1 - pc) = _
  rw [Nat.add_sub_cancel_left]
theorem dq__lload_n_1 {c : ByteArray} {pc : Nat} (h : at1 c pc 31 = true) : decode c pc = .ok (.lload_n 1, 1) := by
  show Except.bind (Except.bind ((Reader.u1 : Decoder Nat) c pc) _) _ = _
  rw [at1.rd h]
  show Except.ok ((.lload_n 1 : Instr), pc + 1 - pc) = _
  rw [Nat.add_sub_cancel_left]
theorem dq__lload_n_2 {c : ByteArray} {pc : Nat} (h : at1 c pc 32 = true) : decode c pc = .ok (.lload_n 2, 1) := by
  show Except.bind (Except.bind ((Reader.u1 : Decoder Nat) c pc) _) _ = _
  rw [at1.rd h]
  show Except.ok ((.lload_n 2 : Instr), pc + 1 - pc) = _
  rw [Nat.add_sub_cancel_left]
theorem dq__lload_n_3 {c : ByteArray} {pc : Nat} (h : at1 c pc 33 = true) : decode c pc = .ok (.lload_n 3, 1) := by
  show Except.bind (Except.bind ((Reader.u1 : Decoder Nat) c pc) _) _ = _
  rw [at1.rd h]
  show Except.ok ((.lload_n 3 : Instr), pc + 1 - pc) = _
  rw [Nat.add_sub_cancel_left]
theorem dq__aload_n_0 {c : ByteArray} {pc : Nat} (h : at1 c pc 42 = true) : decode c pc = .ok (.aload_n 0, 1) := by
  show Except.bind (Except.bind ((Reader.u1 : Decoder Nat) c pc) _) _ = _
  rw [at1.rd h]
  show Except.ok ((.aload_n 0 : Instr), pc + 1 - pc) = _
  rw [Nat.add_sub_cancel_left]
theorem dq__aload_n_1 {c : ByteArray} {pc : Nat} (h : at1 c pc 43 = true) : decode c pc = .ok (.aload_n 1, 1) := by
  show Except.bind (Except.bind ((Reader.u1 : Decoder Nat) c pc) _) _ = _
  rw [at1.rd h]
  show Except.ok ((.aload_n 1 : Instr), pc + 1 - pc) = _
  rw [Nat.add_sub_cancel_left]
theorem dq__aload_n_2 {c : ByteArray} {pc : Nat} (h : at1 c pc 44 = true) : decode c pc = .ok (.aload_n 2, 1) := by
  show Except.bind (Except.bind ((Reader.u1 : Decoder Nat) c pc) _) _ = _
  rw [at1.rd h]
  show Except.ok ((.aload_n 2 : Instr), pc + 1 - pc) = _
  rw [Nat.add_sub_cancel_left]
theorem dq__aload_n_3 {c : ByteArray} {pc : Nat} (h : at1 c pc 45 = true) : decode c pc = .ok (.aload_n 3, 1) := by
  show Except.bind (Except.bind ((Reader.u1 : Decoder Nat) c pc) _) _ = _
  rw [at1.rd h]
  show Except.ok ((.aload_n 3 : Instr), pc + 1 - pc) = _
  rw [Nat.add_sub_cancel_left]
theorem dq__istore_n_0 {c : ByteArray} {pc : Nat} (h : at1 c pc 59 = true) : decode c pc = .ok (.istore_n 0, 1) := by
  show Except.bind (Except.bind ((Reader.u1 : Decoder Nat) c pc) _) _ = _
  rw [at1.rd h]
  show Except.ok ((.istore_n 0 : Instr), pc + 1 - pc) = _
  rw [Nat.add_sub_cancel_left]
theorem dq__istore_n_1 {c : ByteArray} {pc : Nat} (h : at1 c pc 60 = true) : decode c pc = .ok (.istore_n 1, 1) := by
  show Except.bind (Except.bind ((Reader.u1 : Decoder Nat) c pc) _) _ = _
  rw [at1.rd h]
  show Except.ok ((.istore_n 1 : Instr), pc + 1 - pc) = _
  rw [Nat.add_sub_cancel_left]
theorem dq__istore_n_2 {c : ByteArray} {pc : Nat} (h : at1 c pc 61 = true) : decode c pc = .ok (.istore_n 2, 1) := by
  show Except.bind (Except.bind ((Reader.u1 : Decoder Nat) c pc) _) _ = _
  rw [at1.rd h]
  show Except.ok ((.istore_n 2 : Instr), pc + 1 - pc) = _
  rw [Nat.add_sub_cancel_left]
theorem dq__istore_n_3 {c : ByteArray} {pc : Nat} (h : at1 c pc 62 = true) : decode c pc = .ok (.istore_n 3, 1) := by
  show Except.bind (Except.bind ((Reader.u1 : Decoder Nat) c pc) _) _ = _
  rw [at1.rd h]
  show Except.ok ((.istore_n 3 : Instr), pc + 1 - pc) = _
  rw [Nat.add_sub_cancel_left]
theorem dq__lstore_n_0 {c : ByteArray} {pc : Nat} (h : at1 c pc 63 = true) : decode c pc = .ok (.lstore_n 0, 1) := by
  show Except.bind (Except.bind ((Reader.u1 : Decoder Nat) c pc) _) _ = _
  rw [at1.rd h]
  show Except.ok ((.lstore_n 0 : Instr), pc + 1 - pc) = _
  rw [Nat.add_sub_cancel_left]
theorem dq__lstore_n_1 {c : ByteArray} {pc : Nat} (h : at1 c pc 64 = true) : decode c pc = .ok (.lstore_n 1, 1) := by
  show Except.bind (Except.bind ((Reader.u1 : Decoder Nat) c pc) _) _ = _
  rw [at1.rd h]
  show Except.ok ((.lstore_n 1 : Instr), pc + 1 - pc) = _
  rw [Nat.add_sub_cancel_left]
theorem dq__lstore_n_2 {c : ByteArray} {pc : Nat} (h : at1 c pc 65 = true) : decode c pc = .ok (.lstore_n 2, 1) := by
  show Except.bind (Except.bind ((Reader.u1 : Decoder Nat) c pc) _) _ = _
  rw [at1.rd h]
  show Except.ok ((.lstore_n 2 : Instr), pc + 1 - pc) = _
  rw [Nat.add_sub_cancel_left]
theorem dq__lstore_n_3 {c : ByteArray} {pc : Nat} (h : at1 c pc 66 = true) : decode c pc = .ok (.lstore_n 3, 1) := by
  show Except.bind (Except.bind ((Reader.u1 : Decoder Nat) c pc) _) _ = _
  rw [at1.rd h]
  show Except.ok ((.lstore_n 3 : Instr), pc + 1 - pc) = _
  rw [Nat.add_sub_cancel_left]
theorem dq__astore_n_0 {c : ByteArray} {pc : Nat} (h : at1 c pc 75 = true) : decode c pc = .ok (.astore_n 0, 1) := by
  show Except.bind (Except.bind ((Reader.u1 : Decoder Nat) c pc) _) _ = _
  rw [at1.rd h]
  show Except.ok ((.astore_n 0 : Instr), pc + 1 - pc) = _
  rw [Nat.add_sub_cancel_left]
theorem dq__astore_n_1 {c : ByteArray} {pc : Nat} (h : at1 c pc 76 = true) : decode c pc = .ok (.astore_n 1, 1) := by
  show Except.bind (Except.bind ((Reader.u1 : Decoder Nat) c pc) _) _ = _
  rw [at1.rd h]
  show Except.ok ((.astore_n 1 : Instr), pc + 1 - pc) = _
  rw [Nat.add_sub_cancel_left]
theorem dq__astore_n_2 {c : ByteArray} {pc : Nat} (h : at1 c pc 77 = true) : decode c pc = .ok (.astore_n 2, 1) := by
  show Except.bind (Except.bind ((Reader.u1 : Decoder Nat) c pc) _) _ = _
  rw [at1.rd h]
  show Except.ok ((.astore_n 2 : Instr), pc + 1 - pc) = _
  rw [Nat.add_sub_cancel_left]
theorem dq__astore_n_3 {c : ByteArray} {pc : Nat} (h : at1 c pc 78 = true) : decode c pc = .ok (.astore_n 3, 1) := by
  show Except.bind (Except.bind ((Reader.u1 : Decoder Nat) c pc) _) _ = _
  rw [at1.rd h]
  show Except.ok ((.astore_n 3 : Instr), pc + 1 - pc) = _
  rw [Nat.add_sub_cancel_left]
theorem dq__nop {c : ByteArray} {pc : Nat} (h : at1 c pc 0 = true) : decode c pc = .ok (.nop, 1) := by
  show Except.bind (Except.bind ((Reader.u1 : Decoder Nat) c pc) _) _ = _
  rw [at1.rd h]
  show Except.ok (Instr.nop, pc + 1 - pc) = _
  rw [Nat.add_sub_cancel_left]
theorem dq__aconst_null {c : ByteArray} {pc : Nat} (h : at1 c pc 1 = true) : decode c pc = .ok (.aconst_null, 1) := by
  show Except.bind (Except.bind ((Reader.u1 : Decoder Nat) c pc) _) _ = _
  rw [at1.rd h]
  show Except.ok (Instr.aconst_null, pc + 1 - pc) = _
  rw [Nat.add_sub_cancel_left]
theorem dq__iadd {c : ByteArray} {pc : Nat} (h : at1 c pc 96 = true) : decode c pc = .ok (.iadd, 1) := by
  show Except.bind (Except.bind ((Reader.u1 : Decoder Nat) c pc) _) _ = _
  rw [at1.rd h]
  show Except.ok (Instr.iadd, pc + 1 - pc) = _
  rw [Nat.add_sub_cancel_left]
theorem dq__ladd {c : ByteArray} {pc : Nat} (h : at1 c pc 97 = true) : decode c pc = .ok (.ladd, 1) := by
  show Except.bind (Except.bind ((Reader.u1 : Decoder Nat) c pc) _) _ = _
  rw [at1.rd h]
  show Except.ok (Instr.ladd, pc + 1 - pc) = _
  rw [Nat.add_sub_cancel_left]
theorem dq__isub {c : ByteArray} {pc : Nat} (h : at1 c pc 100 = true) : decode c pc = .ok (.isub, 1) := by
  show Except.bind (Except.bind ((Reader.u1 : Decoder Nat) c pc) _) _ = _
  rw [at1.rd h]
  show Except.ok (Instr.isub, pc + 1 - pc) = _
  rw [Nat.add_sub_cancel_left]
theorem dq__lsub {c : ByteArray} {pc : Nat} (h : at1 c pc 101 = true) : decode c pc = .ok (.lsub, 1) := by
  show Except.bind (Except.bind ((Reader.u1 : Decoder Nat) c pc) _) _ = _
  rw [at1.rd h]
  show Except.ok (Instr.lsub, pc + 1 - pc) = _
  rw [Nat.add_sub_cancel_left]
theorem dq__imul {c : ByteArray} {pc : Nat} (h : at1 c pc 104 = true) : decode c pc = .ok (.imul, 1) := by
  show Except.bind (Except.bind ((Reader.u1 : Decoder Nat) c pc) _) _ = _
  rw [at1.rd h]
  show Except.ok (Instr.imul, pc + 1 - pc) = _
  rw [Nat.add_sub_cancel_left]
theorem dq__lmul {c : ByteArray} {pc : Nat} (h : at1 c pc 105 = true) : decode c pc = .ok (.lmul, 1) := by
  show Except.bind (Except.bind ((Reader.u1 : Decoder Nat) c pc) _) _ = _
  rw [at1.rd h]
  show Except.ok (Instr.lmul, pc + 1 - pc) = _
  rw [Nat.add_sub_cancel_left]
theorem dq__idiv {c : ByteArray} {pc : Nat} (h : at1 c pc 108 = true) : decode c pc = .ok (.idiv, 1) := by
  show Except.bind (Except.bind ((Reader.u1 : Decoder Nat) c pc) _) _ = _
  rw [at1.rd h]
  show Except.ok (Instr.idiv, pc + 1 - pc) = _
  rw [Nat.add_sub_cancel_left]
theorem dq__irem {c : ByteArray} {pc : Nat} (h : at1 c pc 112 = true) : decode c pc = .ok (.irem, 1) := by
  show Except.bind (Except.bind ((Reader.u1 : Decoder Nat) c pc) _) _ = _
  rw [at1.rd h]
  show Except.ok (Instr.irem, pc + 1 - pc) = _
  rw [Nat.add_sub_cancel_left]
theorem dq__ineg {c : ByteArray} {pc : Nat} (h : at1 c pc 116 = true) : decode c pc = .ok (.ineg, 1) := by
  show Except.bind (Except.bind ((Reader.u1 : Decoder Nat) c pc) _) _ = _
  rw [at1.rd h]
  show Except.ok (Instr.ineg, pc + 1 - pc) = _
  rw [Nat.add_sub_cancel_left]
theorem dq__ishl {c : ByteArray} {pc : Nat} (h : at1 c pc 120 = true) : decode c pc = .ok (.ishl, 1) := by
  show Except.bind (Except.bind ((Reader.u1 : Decoder Nat) c pc) _) _ = _
  rw [at1.rd h]
  show Except.ok (Instr.ishl, pc + 1 - pc) = _
  rw [Nat.add_sub_cancel_left]
theorem dq__lshl {c : ByteArray} {pc : Nat} (h : at1 c pc 121 = true) : decode c pc = .ok (.lshl, 1) := by
  show Except.bind (Except.bind ((Reader.u1 : Decoder Nat) c pc) _) _ = _
  rw [at1.rd h]
  show Except.ok (Instr.lshl, pc + 1 - pc) = _
  rw [Nat.add_sub_cancel_left]
theorem dq__ishr {c : ByteArray} {pc : Nat} (h : at1 c pc 122 = true) : decode c pc = .ok (.ishr, 1) := by
  show Except.bind (Except.bind ((Reader.u1 : Decoder Nat) c pc) _) _ = _
  rw [at1.rd h]
  show Except.ok (Instr.ishr, pc + 1 - pc) = _
  rw [Nat.add_sub_cancel_left]
theorem dq__lushr {c : ByteArray} {pc : Nat} (h : at1 c pc 125 = true) : decode c pc = .ok (.lushr, 1) := by
  show Except.bind (Except.bind ((Reader.u1 : Decoder Nat) c pc) _) _ = _
  rw [at1.rd h]
  show Except.ok (Instr.lushr, pc + 1 - pc) = _
  rw [Nat.add_sub_cancel_left]
theorem dq__iushr {c : ByteArray} {pc : Nat} (h : at1 c pc 124 = true) : decode c pc = .ok (.iushr, 1) := by
  show Except.bind (Except.bind ((Reader.u1 : Decoder Nat) c pc) _) _ = _
  rw [at1.rd h]
  show Except.ok (Instr.iushr, pc + 1 - pc) = _
  rw [Nat.add_sub_cancel_left]
theorem dq__iand {c : ByteArray} {pc : Nat} (h : at1 c pc 126 = true) : decode c pc = .ok (.iand, 1) := by
  show Except.bind (Except.bind ((Reader.u1 : Decoder Nat) c pc) _) _ = _
  rw [at1.rd h]
  show Except.ok (Instr.iand, pc + 1 - pc) = _
  rw [Nat.add_sub_cancel_left]
theorem dq__land {c : ByteArray} {pc : Nat} (h : at1 c pc 127 = true) : decode c pc = .ok (.land, 1) := by
  show Except.bind (Except.bind ((Reader.u1 : Decoder Nat) c pc) _) _ = _
  rw [at1.rd h]
  show Except.ok (Instr.land, pc + 1 - pc) = _
  rw [Nat.add_sub_cancel_left]
theorem dq__ior {c : ByteArray} {pc : Nat} (h : at1 c pc 128 = true) : decode c pc = .ok (.ior, 1) := by
  show Except.bind (Except.bind ((Reader.u1 : Decoder Nat) c pc) _) _ = _
  rw [at1.rd h]
  show Except.ok (Instr.ior, pc + 1 - pc) = _
  rw [Nat.add_sub_cancel_left]
theorem dq__lor {c : ByteArray} {pc : Nat} (h : at1 c pc 129 = true) : decode c pc = .ok (.lor, 1) := by
  show Except.bind (Except.bind ((Reader.u1 : Decoder Nat) c pc) _) _ = _
  rw [at1.rd h]
  show Except.ok (Instr.lor, pc + 1 - pc) = _
  rw [Nat.add_sub_cancel_left]
theorem dq__ixor {c : ByteArray} {pc : Nat} (h : at1 c pc 130 = true) : decode c pc = .ok (.ixor, 1) := by
  show Except.bind (Except.bind ((Reader.u1 : Decoder Nat) c pc) _) _ = _
  rw [at1.rd h]
  show Except.ok (Instr.ixor, pc + 1 - pc) = _
  rw [Nat.add_sub_cancel_left]
theorem dq__lxor {c : ByteArray} {pc : Nat} (h : at1 c pc 131 = true) : decode c pc = .ok (.lxor, 1) := by
  show Except.bind (Except.bind ((Reader.u1 : Decoder Nat) c pc) _) _ = _
  rw [at1.rd h]
  show Except.ok (Instr.lxor, pc + 1 - pc) = _
  rw [Nat.add_sub_cancel_left]
theorem dq__i2l {c : ByteArray} {pc : Nat} (h : at1 c pc 133 = true) : decode c pc = .ok (.i2l, 1) := by
  show Except.bind (Except.bind ((Reader.u1 : Decoder Nat) c pc) _) _ = _
  rw [at1.rd h]
  show Except.ok (Instr.i2l, pc + 1 - pc) = _
  rw [Nat.add_sub_cancel_left]
theorem dq__l2i {c : ByteArray} {pc : Nat} (h : at1 c pc 136 = true) : decode c pc = .ok (.l2i, 1) := by
  show Except.bind (Except.bind ((Reader.u1 : Decoder Nat) c pc) _) _ = _
  rw [at1.rd h]
  show Except.ok (Instr.l2i, pc + 1 - pc) = _
  rw [Nat.add_sub_cancel_left]
theorem dq__i2c {c : ByteArray} {pc : Nat} (h : at1 c pc 146 = true) : decode c pc = .ok (.i2c, 1) := by
  show Except.bind (Except.bind ((Reader.u1 : Decoder Nat) c pc) _) _ = _
  rw [at1.rd h]
  show Except.ok (Instr.i2c, pc + 1 - pc) = _
  rw [Nat.add_sub_cancel_left]
theorem dq__lcmp {c : ByteArray} {pc : Nat} (h : at1 c pc 148 = true) : decode c pc = .ok (.lcmp, 1) := by
  show Except.bind (Except.bind ((Reader.u1 : Decoder Nat) c pc) _) _ = _
  rw [at1.rd h]
  show Except.ok (Instr.lcmp, pc + 1 - pc) = _
  rw [Nat.add_sub_cancel_left]
theorem dq__ireturn {c : ByteArray} {pc : Nat} (h : at1 c pc 172 = true) : decode c pc = .ok (.ireturn, 1) := by
  show Except.bind (Except.bind ((Reader.u1 : Decoder Nat) c pc) _) _ = _
  rw [at1.rd h]
  show Except.ok (Instr.ireturn, pc + 1 - pc) = _
  rw [Nat.add_sub_cancel_left]
theorem dq__lreturn {c : ByteArray} {pc : Nat} (h : at1 c pc 173 = true) : decode c pc = .ok (.lreturn, 1) := by
  show Except.bind (Except.bind ((Reader.u1 : Decoder Nat) c pc) _) _ = _
  rw [at1.rd h]
  show Except.ok (Instr.lreturn, pc + 1 - pc) = _
  rw [Nat.add_sub_cancel_left]
theorem dq__areturn {c : ByteArray} {pc : Nat} (h : at1 c pc 176 = true) : decode c pc = .ok (.areturn, 1) := by
  show Except.bind (Except.bind ((Reader.u1 : Decoder Nat) c pc) _) _ = _
  rw [at1.rd h]
  show Except.ok (Instr.areturn, pc + 1 - pc) = _
  rw [Nat.add_sub_cancel_left]
theorem dq__return_ {c : ByteArray} {pc : Nat} (h : at1 c pc 177 = true) : decode c pc = .ok (.return_, 1) := by
  show Except.bind (Except.bind ((Reader.u1 : Decoder Nat) c pc) _) _ = _
  rw [at1.rd h]
  show Except.ok (Instr.return_, pc + 1 - pc) = _
  rw [Nat.add_sub_cancel_left]
theorem dq__arraylength {c : ByteArray} {pc : Nat} (h : at1 c pc 190 = true) : decode c pc = .ok (.arraylength, 1) := by
  show Except.bind (Except.bind ((Reader.u1 : Decoder Nat) c pc) _) _ = _
  rw [at1.rd h]
  show Except.ok (Instr.arraylength, pc + 1 - pc) = _
  rw [Nat.add_sub_cancel_left]
theorem dq__athrow {c : ByteArray} {pc : Nat} (h : at1 c pc 191 = true) : decode c pc = .ok (.athrow, 1) := by
  show Except.bind (Except.bind ((Reader.u1 : Decoder Nat) c pc) _) _ = _
  rw [at1.rd h]
  show Except.ok (Instr.athrow, pc + 1 - pc) = _
  rw [Nat.add_sub_cancel_left]
theorem dq__dup {c : ByteArray} {pc : Nat} (h : at1 c pc 89 = true) : decode c pc = .ok (.dup, 1) := by
  show Except.bind (Except.bind ((Reader.u1 : Decoder Nat) c pc) _) _ = _
  rw [at1.rd h]
  show Except.ok (Instr.dup, pc + 1 - pc) = _
  rw [Nat.add_sub_cancel_left]
theorem dq__dup2 {c : ByteArray} {pc : Nat} (h : at1 c pc 92 = true) : decode c pc = .ok (.dup2, 1) := by
  show Except.bind (Except.bind ((Reader.u1 : Decoder Nat) c pc) _) _ = _
  rw [at1.rd h]
  show Except.ok (Instr.dup2, pc + 1 - pc) = _
  rw [Nat.add_sub_cancel_left]
theorem dq__pop {c : ByteArray} {pc : Nat} (h : at1 c pc 87 = true) : decode c pc = .ok (.pop, 1) := by
  show Except.bind (Except.bind ((Reader.u1 : Decoder Nat) c pc) _) _ = _
  rw [at1.rd h]
  show Except.ok (Instr.pop, pc + 1 - pc) = _
  rw [Nat.add_sub_cancel_left]
theorem dq__iaload {c : ByteArray} {pc : Nat} (h : at1 c pc 46 = true) : decode c pc = .ok (.iaload, 1) := by
  show Except.bind (Except.bind ((Reader.u1 : Decoder Nat) c pc) _) _ = _
  rw [at1.rd h]
  show Except.ok (Instr.iaload, pc + 1 - pc) = _
  rw [Nat.add_sub_cancel_left]
theorem dq__laload {c : ByteArray} {pc : Nat} (h : at1 c pc 47 = true) : decode c pc = .ok (.laload, 1) := by
  show Except.bind (Except.bind ((Reader.u1 : Decoder Nat) c pc) _) _ = _
  rw [at1.rd h]
  show Except.ok (Instr.laload, pc + 1 - pc) = _
  rw [Nat.add_sub_cancel_left]
theorem dq__aaload {c : ByteArray} {pc : Nat} (h : at1 c pc 50 = true) : decode c pc = .ok (.aaload, 1) := by
  show Except.bind (Except.bind ((Reader.u1 : Decoder Nat) c pc) _) _ = _
  rw [at1.rd h]
  show Except.ok (Instr.aaload, pc + 1 - pc) = _
  rw [Nat.add_sub_cancel_left]
theorem dq__baload {c : ByteArray} {pc : Nat} (h : at1 c pc 51 = true) : decode c pc = .ok (.baload, 1) := by
  show Except.bind (Except.bind ((Reader.u1 : Decoder Nat) c pc) _) _ = _
  rw [at1.rd h]
  show Except.ok (Instr.baload, pc + 1 - pc) = _
  rw [Nat.add_sub_cancel_left]
theorem dq__caload {c : ByteArray} {pc : Nat} (h : at1 c pc 52 = true) : decode c pc = .ok (.caload, 1) := by
  show Except.bind (Except.bind ((Reader.u1 : Decoder Nat) c pc) _) _ = _
  rw [at1.rd h]
  show Except.ok (Instr.caload, pc + 1 - pc) = _
  rw [Nat.add_sub_cancel_left]
theorem dq__iastore {c : ByteArray} {pc : Nat} (h : at1 c pc 79 = true) : decode c pc = .ok (.iastore, 1) := by
  show Except.bind (Except.bind ((Reader.u1 : Decoder Nat) c pc) _) _ = _
  rw [at1.rd h]
  show Except.ok (Instr.iastore, pc + 1 - pc) = _
  rw [Nat.add_sub_cancel_left]
theorem dq__lastore {c : ByteArray} {pc : Nat} (h : at1 c pc 80 = true) : decode c pc = .ok (.lastore, 1) := by
  show Except.bind (Except.bind ((Reader.u1 : Decoder Nat) c pc) _) _ = _
  rw [at1.rd h]
  show Except.ok (Instr.lastore, pc + 1 - pc) = _
  rw [Nat.add_sub_cancel_left]
theorem dq__aastore {c : ByteArray} {pc : Nat} (h : at1 c pc 83 = true) : decode c pc = .ok (.aastore, 1) := by
  show Except.bind (Except.bind ((Reader.u1 : Decoder Nat) c pc) _) _ = _
  rw [at1.rd h]
  show Except.ok (Instr.aastore, pc + 1 - pc) = _
  rw [Nat.add_sub_cancel_left]
theorem dq__bastore {c : ByteArray} {pc : Nat} (h : at1 c pc 84 = true) : decode c pc = .ok (.bastore, 1) := by
  show Except.bind (Except.bind ((Reader.u1 : Decoder Nat) c pc) _) _ = _
  rw [at1.rd h]
  show Except.ok (Instr.bastore, pc + 1 - pc) = _
  rw [Nat.add_sub_cancel_left]
theorem dq__castore {c : ByteArray} {pc : Nat} (h : at1 c pc 85 = true) : decode c pc = .ok (.castore, 1) := by
  show Except.bind (Except.bind ((Reader.u1 : Decoder Nat) c pc) _) _ = _
  rw [at1.rd h]
  show Except.ok (Instr.castore, pc + 1 - pc) = _
  rw [Nat.add_sub_cancel_left]
theorem dq__ldc {c : ByteArray} {pc a : Nat} (h : at2 c pc 18 a = true) : decode c pc = .ok (.ldc a, 2) := by
  show Except.bind (Except.bind ((Reader.u1 : Decoder Nat) c pc) _) _ = _
  rw [(at2.rd h).1]
  show Except.bind (Except.bind ((Reader.u1 : Decoder Nat) c (pc + 1)) _) _ = _
  rw [(at2.rd h).2]
  show Except.ok (Instr.ldc a, pc + 2 - pc) = _
  rw [Nat.add_sub_cancel_left]
theorem dq__iload {c : ByteArray} {pc a : Nat} (h : at2 c pc 21 a = true) : decode c pc = .ok (.iload a, 2) := by
  show Except.bind (Except.bind ((Reader.u1 : Decoder Nat) c pc) _) _ = _
  rw [(at2.rd h).1]
  show Except.bind (Except.bind ((Reader.u1 : Decoder Nat) c (pc + 1)) _) _ = _
  rw [(at2.rd h).2]
  show Except.ok (Instr.iload a, pc + 2 - pc) = _
  rw [Nat.add_sub_cancel_left]
theorem dq__lload {c : ByteArray} {pc a : Nat} (h : at2 c pc 22 a = true) : decode c pc = .ok (.lload a, 2) := by
  show Except.bind (Except.bind ((Reader.u1 : Decoder Nat) c pc) _) _ = _
  rw [(at2.rd h).1]
  show Except.bind (Except.bind ((Reader.u1 : Decoder Nat) c (pc + 1)) _) _ = _
  rw [(at2.rd h).2]
  show Except.ok (Instr.lload a, pc + 2 - pc) = _
  rw [Nat.add_sub_cancel_left]
theorem dq__aload {c : ByteArray} {pc a : Nat} (h : at2 c pc 25 a = true) : decode c pc = .ok (.aload a, 2) := by
  show Except.bind (Except.bind ((Reader.u1 : Decoder Nat) c pc) _) _ = _
  rw [(at2.rd h).1]
  show Except.bind (Except.bind ((Reader.u1 : Decoder Nat) c (pc + 1)) _) _ = _
  rw [(at2.rd h).2]
  show Except.ok (Instr.aload a, pc + 2 - pc) = _
  rw [Nat.add_sub_cancel_left]
theorem dq__istore {c : ByteArray} {pc a : Nat} (h : at2 c pc 54 a = true) : decode c pc = .ok (.istore a, 2) := by
  show Except.bind (Except.bind ((Reader.u1 : Decoder Nat) c pc) _) _ = _
  rw [(at2.rd h).1]
  show Except.bind (Except.bind ((Reader.u1 : Decoder Nat) c (pc + 1)) _) _ = _
  rw [(at2.rd h).2]
  show Except.ok (Instr.istore a, pc + 2 - pc) = _
  rw [Nat.add_sub_cancel_left]
theorem dq__lstore {c : ByteArray} {pc a : Nat} (h : at2 c pc 55 a = true) : decode c pc = .ok (.lstore a, 2) := by
  show Except.bind (Except.bind ((Reader.u1 : Decoder Nat) c pc) _) _ = _
  rw [(at2.rd h).1]
  show Except.bind (Except.bind ((Reader.u1 : Decoder Nat) c (pc + 1)) _) _ = _
  rw [(at2.rd h).2]
  show Except.ok (Instr.lstore a, pc + 2 - pc) = _
  rw [Nat.add_sub_cancel_left]
theorem dq__astore {c : ByteArray} {pc a : Nat} (h : at2 c pc 58 a = true) : decode c pc = .ok (.astore a, 2) := by
  show Except.bind (Except.bind ((Reader.u1 : Decoder Nat) c pc) _) _ = _
  rw [(at2.rd h).1]
  show Except.bind (Except.bind ((Reader.u1 : Decoder Nat) c (pc + 1)) _) _ = _
  rw [(at2.rd h).2]
  show Except.ok (Instr.astore a, pc + 2 - pc) = _
  rw [Nat.add_sub_cancel_left]
theorem dq__bipush {c : ByteArray} {pc a : Nat} {v : Int} (h : at2 c pc 16 a = true) (hv : Reader.signed 8 a = v) : decode c pc = .ok (.bipush v, 2) := by
  subst hv
  show Except.bind (Except.bind ((Reader.u1 : Decoder Nat) c pc) _) _ = _
  rw [(at2.rd h).1]
  show Except.bind (Except.bind (Except.map _ ((Reader.u1 : Decoder Nat) c (pc + 1))) _) _ = _
  rw [(at2.rd h).2]
  show Except.ok (Instr.bipush (Reader.signed 8 a), pc + 2 - pc) = _
  rw [Nat.add_sub_cancel_left]
theorem dq__getstatic {c : ByteArray} {pc a b : Nat} (h : at3 c pc 178 a b = true) : decode c pc = .ok (.getstatic (a * 256 + b), 3) := by
  show Except.bind (Except.bind ((Reader.u1 : Decoder Nat) c pc) _) _ = _
  rw [(at3.rd h).1]
  show Except.bind (Except.bind (Except.bind ((Reader.u1 : Decoder Nat) c (pc + 1)) _) _) _ = _
  rw [(at3.rd h).2.1]
  show Except.bind (Except.bind (Except.bind ((Reader.u1 : Decoder Nat) c (pc + 2)) _) _) _ = _
  rw [(at3.rd h).2.2]
  show Except.ok (Instr.getstatic (a * 256 + b), pc + 3 - pc) = _
  rw [Nat.add_sub_cancel_left]
theorem dq__putstatic {c : ByteArray} {pc a b : Nat} (h : at3 c pc 179 a b = true) : decode c pc = .ok (.putstatic (a * 256 + b), 3) := by
  show Except.bind (Except.bind ((Reader.u1 : Decoder Nat) c pc) _) _ = _
  rw [(at3.rd h).1]
  show Except.bind (Except.bind (Except.bind ((Reader.u1 : Decoder Nat) c (pc + 1)) _) _) _ = _
  rw [(at3.rd h).2.1]
  show Except.bind (Except.bind (Except.bind ((Reader.u1 : Decoder Nat) c (pc + 2)) _) _) _ = _
  rw [(at3.rd h).2.2]
  show Except.ok (Instr.putstatic (a * 256 + b), pc + 3 - pc) = _
  rw [Nat.add_sub_cancel_left]
theorem dq__getfield {c : ByteArray} {pc a b : Nat} (h : at3 c pc 180 a b = true) : decode c pc = .ok (.getfield (a * 256 + b), 3) := by
  show Except.bind (Except.bind ((Reader.u1 : Decoder Nat) c pc) _) _ = _
  rw [(at3.rd h).1]
  show Except.bind (Except.bind (Except.bind ((Reader.u1 : Decoder Nat) c (pc + 1)) _) _) _ = _
  rw [(at3.rd h).2.1]
  show Except.bind (Except.bind (Except.bind ((Reader.u1 : Decoder Nat) c (pc + 2)) _) _) _ = _
  rw [(at3.rd h).2.2]
  show Except.ok (Instr.getfield (a * 256 + b), pc + 3 - pc) = _
  rw [Nat.add_sub_cancel_left]
theorem dq__putfield {c : ByteArray} {pc a b : Nat} (h : at3 c pc 181 a b = true) : decode c pc = .ok (.putfield (a * 256 + b), 3) := by
  show Except.bind (Except.bind ((Reader.u1 : Decoder Nat) c pc) _) _ = _
  rw [(at3.rd h).1]
  show Except.bind (Except.bind (Except.bind ((Reader.u1 : Decoder Nat) c (pc + 1)) _) _) _ = _
  rw [(at3.rd h).2.1]
  show Except.bind (Except.bind (Except.bind ((Reader.u1 : Decoder Nat) c (pc + 2)) _) _) _ = _
  rw [(at3.rd h).2.2]
  show Except.ok (Instr.putfield (a * 256 + b), pc + 3 - pc) = _
  rw [Nat.add_sub_cancel_left]
theorem dq__invokevirtual {c : ByteArray} {pc a b : Nat} (h : at3 c pc 182 a b = true) : decode c pc = .ok (.invokevirtual (a * 256 + b), 3) := by
  show Except.bind (Except.bind ((Reader.u1 : Decoder Nat) c pc) _) _ = _
  rw [(at3.rd h).1]
  show Except.bind (Except.bind (Except.bind ((Reader.u1 : Decoder Nat) c (pc + 1)) _) _) _ = _
  rw [(at3.rd h).2.1]
  show Except.bind (Except.bind (Except.bind ((Reader.u1 : Decoder Nat) c (pc + 2)) _) _) _ = _
  rw [(at3.rd h).2.2]
  show Except.ok (Instr.invokevirtual (a * 256 + b), pc + 3 - pc) = _
  rw [Nat.add_sub_cancel_left]
theorem dq__invokespecial {c : ByteArray} {pc a b : Nat} (h : at3 c pc 183 a b = true) : decode c pc = .ok (.invokespecial (a * 256 + b), 3) := by
  show Except.bind (Except.bind ((Reader.u1 : Decoder Nat) c pc) _) _ = _
  rw [(at3.rd h).1]
  show Except.bind (Except.bind (Except.bind ((Reader.u1 : Decoder Nat) c (pc + 1)) _) _) _ = _
  rw [(at3.rd h).2.1]
  show Except.bind (Except.bind (Except.bind ((Reader.u1 : Decoder Nat) c (pc + 2)) _) _) _ = _
  rw [(at3.rd h).2.2]
  show Except.ok (Instr.invokespecial (a * 256 + b), pc + 3 - pc) = _
  rw [Nat.add_sub_cancel_left]
theorem dq__invokestatic {c : ByteArray} {pc a b : Nat} (h : at3 c pc 184 a b = true) : decode c pc = .ok (.invokestatic (a * 256 + b), 3) := by
  show Except.bind (Except.bind ((Reader.u1 : Decoder Nat) c pc) _) _ = _
  rw [(at3.rd h).1]
  show Except.bind (Except.bind (Except.bind ((Reader.u1 : Decoder Nat) c (pc + 1)) _) _) _ = _
  rw [(at3.rd h).2.1]
  show Except.bind (Except.bind (Except.bind ((Reader.u1 : Decoder Nat) c (pc + 2)) _) _) _ = _
  rw [(at3.rd h).2.2]
  show Except.ok (Instr.invokestatic (a * 256 + b), pc + 3 - pc) = _
  rw [Nat.add_sub_cancel_left]
theorem dq__new {c : ByteArray} {pc a b : Nat} (h : at3 c pc 187 a b = true) : decode c pc = .ok (.new (a * 256 + b), 3) := by
  show Except.bind (Except.bind ((Reader.u1 : Decoder Nat) c pc) _) _ = _
  rw [(at3.rd h).1]
  show Except.bind (Except.bind (Except.bind ((Reader.u1 : Decoder Nat) c (pc + 1)) _) _) _ = _
  rw [(at3.rd h).2.1]
  show Except.bind (Except.bind (Except.bind ((Reader.u1 : Decoder Nat) c (pc + 2)) _) _) _ = _
  rw [(at3.rd h).2.2]
  show Except.ok (Instr.new (a * 256 + b), pc + 3 - pc) = _
  rw [Nat.add_sub_cancel_left]
theorem dq__anewarray {c : ByteArray} {pc a b : Nat} (h : at3 c pc 189 a b = true) : decode c pc = .ok (.anewarray (a * 256 + b), 3) := by
  show Except.bind (Except.bind ((Reader.u1 : Decoder Nat) c pc) _) _ = _
  rw [(at3.rd h).1]
  show Except.bind (Except.bind (Except.bind ((Reader.u1 : Decoder Nat) c (pc + 1)) _) _) _ = _
  rw [(at3.rd h).2.1]
  show Except.bind (Except.bind (Except.bind ((Reader.u1 : Decoder Nat) c (pc + 2)) _) _) _ = _
  rw [(at3.rd h).2.2]
  show Except.ok (Instr.anewarray (a * 256 + b), pc + 3 - pc) = _
  rw [Nat.add_sub_cancel_left]
theorem dq__ldc2_w {c : ByteArray} {pc a b : Nat} (h : at3 c pc 20 a b = true) : decode c pc = .ok (.ldc2_w (a * 256 + b), 3) := by
  show Except.bind (Except.bind ((Reader.u1 : Decoder Nat) c pc) _) _ = _
  rw [(at3.rd h).1]
  show Except.bind (Except.bind (Except.bind ((Reader.u1 : Decoder Nat) c (pc + 1)) _) _) _ = _
  rw [(at3.rd h).2.1]
  show Except.bind (Except.bind (Except.bind ((Reader.u1 : Decoder Nat) c (pc + 2)) _) _) _ = _
  rw [(at3.rd h).2.2]
  show Except.ok (Instr.ldc2_w (a * 256 + b), pc + 3 - pc) = _
  rw [Nat.add_sub_cancel_left]
theorem dq__ldc_w {c : ByteArray} {pc a b : Nat} (h : at3 c pc 19 a b = true) : decode c pc = .ok (.ldc_w (a * 256 + b), 3) := by
  show Except.bind (Except.bind ((Reader.u1 : Decoder Nat) c pc) _) _ = _
  rw [(at3.rd h).1]
  show Except.bind (Except.bind (Except.bind ((Reader.u1 : Decoder Nat) c (pc + 1)) _) _) _ = _
  rw [(at3.rd h).2.1]
  show Except.bind (Except.bind (Except.bind ((Reader.u1 : Decoder Nat) c (pc + 2)) _) _) _ = _
  rw [(at3.rd h).2.2]
  show Except.ok (Instr.ldc_w (a * 256 + b), pc + 3 - pc) = _
  rw [Nat.add_sub_cancel_left]
theorem dq__goto {c : ByteArray} {pc a b : Nat} {v : Int} (h : at3 c pc 167 a b = true) (hv : Reader.signed 16 (a * 256 + b) = v) : decode c pc = .ok (.goto v, 3) := by
  subst hv
  show Except.bind (Except.bind ((Reader.u1 : Decoder Nat) c pc) _) _ = _
  rw [(at3.rd h).1]
  show Except.bind (Except.bind (Except.map _ (Except.bind ((Reader.u1 : Decoder Nat) c (pc + 1)) _)) _) _ = _
  rw [(at3.rd h).2.1]
  show Except.bind (Except.bind (Except.map _ (Except.bind ((Reader.u1 : Decoder Nat) c (pc + 2)) _)) _) _ = _
  rw [(at3.rd h).2.2]
  show Except.ok ((.goto (Reader.signed 16 (a * 256 + b)) : Instr), pc + 3 - pc) = _
  rw [Nat.add_sub_cancel_left]
theorem dq__ifnull {c : ByteArray} {pc a b : Nat} {v : Int} (h : at3 c pc 198 a b = true) (hv : Reader.signed 16 (a * 256 + b) = v) : decode c pc = .ok (.ifnull v, 3) := by
  subst hv
  show Except.bind (Except.bind ((Reader.u1 : Decoder Nat) c pc) _) _ = _
  rw [(at3.rd h).1]
  show Except.bind (Except.bind (Except.map _ (Except.bind ((Reader.u1 : Decoder Nat) c (pc + 1)) _)) _) _ = _
  rw [(at3.rd h).2.1]
  show Except.bind (Except.bind (Except.map _ (Except.bind ((Reader.u1 : Decoder Nat) c (pc + 2)) _)) _) _ = _
  rw [(at3.rd h).2.2]
  show Except.ok ((.ifnull (Reader.signed 16 (a * 256 + b)) : Instr), pc + 3 - pc) = _
  rw [Nat.add_sub_cancel_left]
theorem dq__ifnonnull {c : ByteArray} {pc a b : Nat} {v : Int} (h : at3 c pc 199 a b = true) (hv : Reader.signed 16 (a * 256 + b) = v) : decode c pc = .ok (.ifnonnull v, 3) := by
  subst hv
  show Except.bind (Except.bind ((Reader.u1 : Decoder Nat) c pc) _) _ = _
  rw [(at3.rd h).1]
  show Except.bind (Except.bind (Except.map _ (Except.bind ((Reader.u1 : Decoder Nat) c (pc + 1)) _)) _) _ = _
  rw [(at3.rd h).2.1]
  show Except.bind (Except.bind (Except.map _ (Except.bind ((Reader.u1 : Decoder Nat) c (pc + 2)) _)) _) _ = _
  rw [(at3.rd h).2.2]
  show Except.ok ((.ifnonnull (Reader.signed 16 (a * 256 + b)) : Instr), pc + 3 - pc) = _
  rw [Nat.add_sub_cancel_left]
theorem dq__ifCond__eq {c : ByteArray} {pc a b : Nat} {v : Int} (h : at3 c pc 153 a b = true) (hv : Reader.signed 16 (a * 256 + b) = v) : decode c pc = .ok (.ifCond .eq v, 3) := by
  subst hv
  show Except.bind (Except.bind ((Reader.u1 : Decoder Nat) c pc) _) _ = _
  rw [(at3.rd h).1]
  show Except.bind (Except.bind (Except.map _ (Except.bind ((Reader.u1 : Decoder Nat) c (pc + 1)) _)) _) _ = _
  rw [(at3.rd h).2.1]
  show Except.bind (Except.bind (Except.map _ (Except.bind ((Reader.u1 : Decoder Nat) c (pc + 2)) _)) _) _ = _
  rw [(at3.rd h).2.2]
  show Except.ok ((.ifCond .eq (Reader.signed 16 (a * 256 + b)) : Instr), pc + 3 - pc) = _
  rw [Nat.add_sub_cancel_left]
theorem dq__ifCond__ne {c : ByteArray} {pc a b : Nat} {v : Int} (h : at3 c pc 154 a b = true) (hv : Reader.signed 16 (a * 256 + b) = v) : decode c pc = .ok (.ifCond .ne v, 3) := by
  subst hv
  show Except.bind (Except.bind ((Reader.u1 : Decoder Nat) c pc) _) _ = _
  rw [(at3.rd h).1]
  show Except.bind (Except.bind (Except.map _ (Except.bind ((Reader.u1 : Decoder Nat) c (pc + 1)) _)) _) _ = _
  rw [(at3.rd h).2.1]
  show Except.bind (Except.bind (Except.map _ (Except.bind ((Reader.u1 : Decoder Nat) c (pc + 2)) _)) _) _ = _
  rw [(at3.rd h).2.2]
  show Except.ok ((.ifCond .ne (Reader.signed 16 (a * 256 + b)) : Instr), pc + 3 - pc) = _
  rw [Nat.add_sub_cancel_left]
theorem dq__ifCond__lt {c : ByteArray} {pc a b : Nat} {v : Int} (h : at3 c pc 155 a b = true) (hv : Reader.signed 16 (a * 256 + b) = v) : decode c pc = .ok (.ifCond .lt v, 3) := by
  subst hv
  show Except.bind (Except.bind ((Reader.u1 : Decoder Nat) c pc) _) _ = _
  rw [(at3.rd h).1]
  show Except.bind (Except.bind (Except.map _ (Except.bind ((Reader.u1 : Decoder Nat) c (pc + 1)) _)) _) _ = _
  rw [(at3.rd h).2.1]
  show Except.bind (Except.bind (Except.map _ (Except.bind ((Reader.u1 : Decoder Nat) c (pc + 2)) _)) _) _ = _
  rw [(at3.rd h).2.2]
  show Except.ok ((.ifCond .lt (Reader.signed 16 (a * 256 + b)) : Instr), pc + 3 - pc) = _
  rw [Nat.add_sub_cancel_left]
theorem dq__ifCond__ge {c : ByteArray} {pc a b : Nat} {v : Int} (h : at3 c pc 156 a b = true) (hv : Reader.signed 16 (a * 256 + b) = v) : decode c pc = .ok (.ifCond .ge v, 3) := by
  subst hv
  show Except.bind (Except.bind ((Reader.u1 : Decoder Nat) c pc) _) _ = _
  rw [(at3.rd h).1]
  show Except.bind (Except.bind (Except.map _ (Except.bind ((Reader.u1 : Decoder Nat) c (pc + 1)) _)) _) _ = _
  rw [(at3.rd h).2.1]
  show Except.bind (Except.bind (Except.map _ (Except.bind ((Reader.u1 : Decoder Nat) c (pc + 2)) _)) _) _ = _
  rw [(at3.rd h).2.2]
  show Except.ok ((.ifCond .ge (Reader.signed 16 (a * 256 + b)) : Instr), pc + 3 - pc) = _
  rw [Nat.add_sub_cancel_left]
theorem dq__ifCond__gt {c : ByteArray} {pc a b : Nat} {v : Int} (h : at3 c pc 157 a b = true) (hv : Reader.signed 16 (a * 256 + b) = v) : decode c pc = .ok (.ifCond .gt v, 3) := by
  subst hv
  show Except.bind (Except.bind ((Reader.u1 : Decoder Nat) c pc) _) _ = _
  rw [(at3.rd h).1]
  show Except.bind (Except.bind (Except.map _ (Except.bind ((Reader.u1 : Decoder Nat) c (pc + 1)) _)) _) _ = _
  rw [(at3.rd h).2.1]
  show Except.bind (Except.bind (Except.map _ (Except.bind ((Reader.u1 : Decoder Nat) c (pc + 2)) _)) _) _ = _
  rw [(at3.rd h).2.2]
  show Except.ok ((.ifCond .gt (Reader.signed 16 (a * 256 + b)) : Instr), pc + 3 - pc) = _
  rw [Nat.add_sub_cancel_left]
theorem dq__ifCond__le {c : ByteArray} {pc a b : Nat} {v : Int} (h : at3 c pc 158 a b = true) (hv : Reader.signed 16 (a * 256 + b) = v) : decode c pc = .ok (.ifCond .le v, 3) := by
  subst hv
  show Except.bind (Except.bind ((Reader.u1 : Decoder Nat) c pc) _) _ = _
  rw [(at3.rd h).1]
  show Except.bind (Except.bind (Except.map _ (Except.bind ((Reader.u1 : Decoder Nat) c (pc + 1)) _)) _) _ = _
  rw [(at3.rd h).2.1]
  show Except.bind (Except.bind (Except.map _ (Except.bind ((Reader.u1 : Decoder Nat) c (pc + 2)) _)) _) _ = _
  rw [(at3.rd h).2.2]
  show Except.ok ((.ifCond .le (Reader.signed 16 (a * 256 + b)) : Instr), pc + 3 - pc) = _
  rw [Nat.add_sub_cancel_left]
theorem dq__if_icmp__eq {c : ByteArray} {pc a b : Nat} {v : Int} (h : at3 c pc 159 a b = true) (hv : Reader.signed 16 (a * 256 + b) = v) : decode c pc = .ok (.if_icmp .eq v, 3) := by
  subst hv
  show Except.bind (Except.bind ((Reader.u1 : Decoder Nat) c pc) _) _ = _
  rw [(at3.rd h).1]
  show Except.bind (Except.bind (Except.map _ (Except.bind ((Reader.u1 : Decoder Nat) c (pc + 1)) _)) _) _ = _
  rw [(at3.rd h).2.1]
  show Except.bind (Except.bind (Except.map _ (Except.bind ((Reader.u1 : Decoder Nat) c (pc + 2)) _)) _) _ = _
  rw [(at3.rd h).2.2]
  show Except.ok ((.if_icmp .eq (Reader.signed 16 (a * 256 + b)) : Instr), pc + 3 - pc) = _
  rw [Nat.add_sub_cancel_left]
theorem dq__if_icmp__ne {c : ByteArray} {pc a b : Nat} {v : Int} (h : at3 c pc 160 a b = true) (hv : Reader.signed 16 (a * 256 + b) = v) : decode c pc = .ok (.if_icmp .ne v, 3) := by
  subst hv
  show Except.bind (Except.bind ((Reader.u1 : Decoder Nat) c pc) _) _ = _
  rw [(at3.rd h).1]
  show Except.bind (Except.bind (Except.map _ (Except.bind ((Reader.u1 : Decoder Nat) c (pc + 1)) _)) _) _ = _
  rw [(at3.rd h).2.1]
  show Except.bind (Except.bind (Except.map _ (Except.bind ((Reader.u1 : Decoder Nat) c (pc + 2)) _)) _) _ = _
  rw [(at3.rd h).2.2]
  show Except.ok ((.if_icmp .ne (Reader.signed 16 (a * 256 + b)) : Instr), pc + 3 - pc) = _
  rw [Nat.add_sub_cancel_left]
theorem dq__if_icmp__lt {c : ByteArray} {pc a b : Nat} {v : Int} (h : at3 c pc 161 a b = true) (hv : Reader.signed 16 (a * 256 + b) = v) : decode c pc = .ok (.if_icmp .lt v, 3) := by
  subst hv
  show Except.bind (Except.bind ((Reader.u1 : Decoder Nat) c pc) _) _ = _
  rw [(at3.rd h).1]
  show Except.bind (Except.bind (Except.map _ (Except.bind ((Reader.u1 : Decoder Nat) c (pc + 1)) _)) _) _ = _
  rw [(at3.rd h).2.1]
  show Except.bind (Except.bind (Except.map _ (Except.bind ((Reader.u1 : Decoder Nat) c (pc + 2)) _)) _) _ = _
  rw [(at3.rd h).2.2]
  show Except.ok ((.if_icmp .lt (Reader.signed 16 (a * 256 + b)) : Instr), pc + 3 - pc) = _
  rw [Nat.add_sub_cancel_left]
theorem dq__if_icmp__ge {c : ByteArray} {pc a b : Nat} {v : Int} (h : at3 c pc 162 a b = true) (hv : Reader.signed 16 (a * 256 + b) = v) : decode c pc = .ok (.if_icmp .ge v, 3) := by
  subst hv
  show Except.bind (Except.bind ((Reader.u1 : Decoder Nat) c pc) _) _ = _
  rw [(at3.rd h).1]
  show Except.bind (Except.bind (Except.map _ (Except.bind ((Reader.u1 : Decoder Nat) c (pc + 1)) _)) _) _ = _
  rw [(at3.rd h).2.1]
  show Except.bind (Except.bind (Except.map _ (Except.bind ((Reader.u1 : Decoder Nat) c (pc + 2)) _)) _) _ = _
  rw [(at3.rd h).2.2]
  show Except.ok ((.if_icmp .ge (Reader.signed 16 (a * 256 + b)) : Instr), pc + 3 - pc) = _
  rw [Nat.add_sub_cancel_left]
theorem dq__if_icmp__gt {c : ByteArray} {pc a b : Nat} {v : Int} (h : at3 c pc 163 a b = true) (hv : Reader.signed 16 (a * 256 + b) = v) : decode c pc = .ok (.if_icmp .gt v, 3) := by
  subst hv
  show Except.bind (Except.bind ((Reader.u1 : Decoder Nat) c pc) _) _ = _
  rw [(at3.rd h).1]
  show Except.bind (Except.bind (Except.map _ (Except.bind ((Reader.u1 : Decoder Nat) c (pc + 1)) _)) _) _ = _
  rw [(at3.rd h).2.1]
  show Except.bind (Except.bind (Except.map _ (Except.bind ((Reader.u1 : Decoder Nat) c (pc + 2)) _)) _) _ = _
  rw [(at3.rd h).2.2]
  show Except.ok ((.if_icmp .gt (Reader.signed 16 (a * 256 + b)) : Instr), pc + 3 - pc) = _
  rw [Nat.add_sub_cancel_left]
theorem dq__if_icmp__le {c : ByteArray} {pc a b : Nat} {v : Int} (h : at3 c pc 164 a b = true) (hv : Reader.signed 16 (a * 256 + b) = v) : decode c pc = .ok (.if_icmp .le v, 3) := by
  subst hv
  show Except.bind (Except.bind ((Reader.u1 : Decoder Nat) c pc) _) _ = _
  rw [(at3.rd h).1]
  show Except.bind (Except.bind (Except.map _ (Except.bind ((Reader.u1 : Decoder Nat) c (pc + 1)) _)) _) _ = _
  rw [(at3.rd h).2.1]
  show Except.bind (Except.bind (Except.map _ (Except.bind ((Reader.u1 : Decoder Nat) c (pc + 2)) _)) _) _ = _
  rw [(at3.rd h).2.2]
  show Except.ok ((.if_icmp .le (Reader.signed 16 (a * 256 + b)) : Instr), pc + 3 - pc) = _
  rw [Nat.add_sub_cancel_left]
theorem dq__if_acmp__eq {c : ByteArray} {pc a b : Nat} {v : Int} (h : at3 c pc 165 a b = true) (hv : Reader.signed 16 (a * 256 + b) = v) : decode c pc = .ok (.if_acmp .eq v, 3) := by
  subst hv
  show Except.bind (Except.bind ((Reader.u1 : Decoder Nat) c pc) _) _ = _
  rw [(at3.rd h).1]
  show Except.bind (Except.bind (Except.map _ (Except.bind ((Reader.u1 : Decoder Nat) c (pc + 1)) _)) _) _ = _
  rw [(at3.rd h).2.1]
  show Except.bind (Except.bind (Except.map _ (Except.bind ((Reader.u1 : Decoder Nat) c (pc + 2)) _)) _) _ = _
  rw [(at3.rd h).2.2]
  show Except.ok ((.if_acmp .eq (Reader.signed 16 (a * 256 + b)) : Instr), pc + 3 - pc) = _
  rw [Nat.add_sub_cancel_left]
theorem dq__if_acmp__ne {c : ByteArray} {pc a b : Nat} {v : Int} (h : at3 c pc 166 a b = true) (hv : Reader.signed 16 (a * 256 + b) = v) : decode c pc = .ok (.if_acmp .ne v, 3) := by
  subst hv
  show Except.bind (Except.bind ((Reader.u1 : Decoder Nat) c pc) _) _ = _
  rw [(at3.rd h).1]
  show Except.bind (Except.bind (Except.map _ (Except.bind ((Reader.u1 : Decoder Nat) c (pc + 1)) _)) _) _ = _
  rw [(at3.rd h).2.1]
  show Except.bind (Except.bind (Except.map _ (Except.bind ((Reader.u1 : Decoder Nat) c (pc + 2)) _)) _) _ = _
  rw [(at3.rd h).2.2]
  show Except.ok ((.if_acmp .ne (Reader.signed 16 (a * 256 + b)) : Instr), pc + 3 - pc) = _
  rw [Nat.add_sub_cancel_left]
theorem dq__sipush {c : ByteArray} {pc a b : Nat} {v : Int} (h : at3 c pc 17 a b = true) (hv : Reader.signed 16 (a * 256 + b) = v) : decode c pc = .ok (.sipush v, 3) := by
  subst hv
  show Except.bind (Except.bind ((Reader.u1 : Decoder Nat) c pc) _) _ = _
  rw [(at3.rd h).1]
  show Except.bind (Except.bind (Except.map _ (Except.bind ((Reader.u1 : Decoder Nat) c (pc + 1)) _)) _) _ = _
  rw [(at3.rd h).2.1]
  show Except.bind (Except.bind (Except.map _ (Except.bind ((Reader.u1 : Decoder Nat) c (pc + 2)) _)) _) _ = _
  rw [(at3.rd h).2.2]
  show Except.ok ((.sipush (Reader.signed 16 (a * 256 + b)) : Instr), pc + 3 - pc) = _
  rw [Nat.add_sub_cancel_left]
theorem dq__iinc {c : ByteArray} {pc a b : Nat} {v : Int} (h : at3 c pc 132 a b = true) (hv : Reader.signed 8 b = v) : decode c pc = .ok (.iinc a v, 3) := by
  subst hv
  show Except.bind (Except.bind ((Reader.u1 : Decoder Nat) c pc) _) _ = _
  rw [(at3.rd h).1]
  show Except.bind (Except.bind ((Reader.u1 : Decoder Nat) c (pc + 1)) _) _ = _
  rw [(at3.rd h).2.1]
  show Except.bind (Except.bind (Except.map _ ((Reader.u1 : Decoder Nat) c (pc + 2))) _) _ = _
  rw [(at3.rd h).2.2]
  show Except.ok (Instr.iinc a (Reader.signed 8 b), pc + 3 - pc) = _
  rw [Nat.add_sub_cancel_left]
