def TC : u_T := fun k => match k with
  | 0 => ("WordChecker", "text", "LWordChecker$Text;", true)
  | 1 => ("WordChecker", "book", "LWordChecker$Book;", true)
  | 2 => ("WordChecker", "draft", "LWordChecker$Draft;", true)
  | 3 => ("WordChecker", "search", "LWordChecker$Search;", true)
  | 4 => ("WordChecker", "running", "Z", false)
  | 5 => ("WordChecker", "state", "I", false)
  | _ => ("WordChecker", "input", "I", false)
def tyC : Nat → FieldType := fun k => match k with
  | 0 => .object "WordChecker$Text"
  | 1 => .object "WordChecker$Book"
  | 2 => .object "WordChecker$Draft"
  | 3 => .object "WordChecker$Search"
  | 4 => .boolean
  | 5 => .int
  | _ => .int
theorem nmC : ∀ a, a < 7 → ∀ b, b < 7 → a ≠ b → (TC a).2.1 ≠ (TC b).2.1 := by decide +kernel
theorem tyC_ok : ∀ k, k < 7 → parseFieldDescriptor (TC k).2.2.1 = some (tyC k) := by decide +kernel
theorem hinC : ∀ w ∈ u_ws "WordChecker" TC 7, w ∈ gT := by
  intro w hw
  obtain ⟨k, hk, rfl⟩ := List.mem_map.mp hw
  have hk := List.mem_range.mp hk
  match k, hk with
  | 0, _ => exact gT_1 (i := 257) (by decide +kernel) rfl
  | 1, _ => exact gT_1 (i := 259) (by decide +kernel) rfl
  | 2, _ => exact gT_1 (i := 261) (by decide +kernel) rfl
  | 3, _ => exact gT_1 (i := 263) (by decide +kernel) rfl
  | 4, _ => exact gT_1 (i := 265) (by decide +kernel) rfl
  | 5, _ => exact gT_1 (i := 267) (by decide +kernel) rfl
  | 6, _ => exact gT_1 (i := 269) (by decide +kernel) rfl
  | k + 7, h => exact absurd h (by omega)
def TT : u_T := fun k => match k with
  | 0 => ("WordChecker$Text", "typed", "[C", true)
  | 1 => ("WordChecker$Text", "from", "[I", true)
  | 2 => ("WordChecker$Text", "to", "[I", true)
  | 3 => ("WordChecker$Text", "count", "I", false)
  | _ => ("WordChecker$Text", "words", "I", false)
def tyT : Nat → FieldType := fun k => match k with
  | 0 => .array .char
  | 1 => .array .int
  | 2 => .array .int
  | 3 => .int
  | _ => .int
theorem nmT : ∀ a, a < 5 → ∀ b, b < 5 → a ≠ b → (TT a).2.1 ≠ (TT b).2.1 := by decide +kernel
theorem tyT_ok : ∀ k, k < 5 → parseFieldDescriptor (TT k).2.2.1 = some (tyT k) := by decide +kernel
theorem hinT : ∀ w ∈ u_ws "WordChecker$Text" TT 5, w ∈ gT := by
  intro w hw
  obtain ⟨k, hk, rfl⟩ := List.mem_map.mp hw
  have hk := List.mem_range.mp hk
  match k, hk with
  | 0, _ => exact gT_1 (i := 37) (by decide +kernel) rfl
  | 1, _ => exact gT_1 (i := 39) (by decide +kernel) rfl
  | 2, _ => exact gT_1 (i := 41) (by decide +kernel) rfl
  | 3, _ => exact gT_1 (i := 43) (by decide +kernel) rfl
  | 4, _ => exact gT_1 (i := 45) (by decide +kernel) rfl
  | k + 5, h => exact absurd h (by omega)
def TB : u_T := fun k => match k with
  | 0 => ("WordChecker$Book", "rows", "[LWordChecker$Line;", true)
  | 1 => ("WordChecker$Book", "gates", "LWordChecker$Gates;", true)
  | 2 => ("WordChecker$Book", "count", "I", false)
  | 3 => ("WordChecker$Book", "inputBits", "I", false)
  | 4 => ("WordChecker$Book", "stateBits", "I", false)
  | 5 => ("WordChecker$Book", "hardLines", "I", false)
  | 6 => ("WordChecker$Book", "later", "[J", true)
  | 7 => ("WordChecker$Book", "bad", "[J", true)
  | _ => ("WordChecker$Book", "allowed", "[J", true)
def tyB : Nat → FieldType := fun k => match k with
  | 0 => .array (.object "WordChecker$Line")
  | 1 => .object "WordChecker$Gates"
  | 2 => .int
  | 3 => .int
  | 4 => .int
  | 5 => .int
  | 6 => .array .long
  | 7 => .array .long
  | _ => .array .long
theorem nmB : ∀ a, a < 9 → ∀ b, b < 9 → a ≠ b → (TB a).2.1 ≠ (TB b).2.1 := by decide +kernel
theorem tyB_ok : ∀ k, k < 9 → parseFieldDescriptor (TB k).2.2.1 = some (tyB k) := by decide +kernel
theorem hinB : ∀ w ∈ u_ws "WordChecker$Book" TB 9, w ∈ gT := by
  intro w hw
  obtain ⟨k, hk, rfl⟩ := List.mem_map.mp hw
  have hk := List.mem_range.mp hk
  match k, hk with
  | 0, _ => exact gT_1 (i := 153) (by decide +kernel) rfl
  | 1, _ => exact gT_1 (i := 155) (by decide +kernel) rfl
  | 2, _ => exact gT_1 (i := 157) (by decide +kernel) rfl
  | 3, _ => exact gT_1 (i := 159) (by decide +kernel) rfl
  | 4, _ => exact gT_1 (i := 161) (by decide +kernel) rfl
  | 5, _ => exact gT_1 (i := 163) (by decide +kernel) rfl
  | 6, _ => exact gT_1 (i := 165) (by decide +kernel) rfl
  | 7, _ => exact gT_1 (i := 167) (by decide +kernel) rfl
  | 8, _ => exact gT_1 (i := 169) (by decide +kernel) rfl
  | k + 9, h => exact absurd h (by omega)
def TD : u_T := fun k => match k with
  | 0 => ("WordChecker$Draft", "text", "LWordChecker$Text;", true)
  | 1 => ("WordChecker$Draft", "book", "LWordChecker$Book;", true)
  | 2 => ("WordChecker$Draft", "id", "I", false)
  | 3 => ("WordChecker$Draft", "kind", "LWordChecker$Kind;", false)
  | 4 => ("WordChecker$Draft", "sort", "I", false)
  | 5 => ("WordChecker$Draft", "nodes", "[I", true)
  | 6 => ("WordChecker$Draft", "turned", "[Z", true)
  | 7 => ("WordChecker$Draft", "nodeCount", "I", false)
  | 8 => ("WordChecker$Draft", "nodeSort", "I", false)
  | 9 => ("WordChecker$Draft", "number", "I", false)
  | _ => ("WordChecker$Draft", "upper", "I", false)
def tyD : Nat → FieldType := fun k => match k with
  | 0 => .object "WordChecker$Text"
  | 1 => .object "WordChecker$Book"
  | 2 => .int
  | 3 => .object "WordChecker$Kind"
  | 4 => .int
  | 5 => .array .int
  | 6 => .array .boolean
  | 7 => .int
  | 8 => .int
  | 9 => .int
  | _ => .int
theorem nmD : ∀ a, a < 11 → ∀ b, b < 11 → a ≠ b → (TD a).2.1 ≠ (TD b).2.1 := by decide +kernel
theorem tyD_ok : ∀ k, k < 11 → parseFieldDescriptor (TD k).2.2.1 = some (tyD k) := by decide +kernel
theorem hinD : ∀ w ∈ u_ws "WordChecker$Draft" TD 11, w ∈ gT := by
  intro w hw
  obtain ⟨k, hk, rfl⟩ := List.mem_map.mp hw
  have hk := List.mem_range.mp hk
  match k, hk with
  | 0, _ => exact gT_1 (i := 201) (by decide +kernel) rfl
  | 1, _ => exact gT_1 (i := 203) (by decide +kernel) rfl
  | 2, _ => exact gT_1 (i := 205) (by decide +kernel) rfl
  | 3, _ => exact gT_1 (i := 207) (by decide +kernel) rfl
  | 4, _ => exact gT_1 (i := 209) (by decide +kernel) rfl
  | 5, _ => exact gT_1 (i := 211) (by decide +kernel) rfl
  | 6, _ => exact gT_1 (i := 213) (by decide +kernel) rfl
  | 7, _ => exact gT_1 (i := 215) (by decide +kernel) rfl
  | 8, _ => exact gT_1 (i := 217) (by decide +kernel) rfl
  | 9, _ => exact gT_1 (i := 219) (by decide +kernel) rfl
  | 10, _ => exact gT_1 (i := 221) (by decide +kernel) rfl
  | k + 11, h => exact absurd h (by omega)
def TG : u_T := fun k => match k with
  | 0 => ("WordChecker$Gates", "a", "[J", true)
  | 1 => ("WordChecker$Gates", "b", "[J", true)
  | 2 => ("WordChecker$Gates", "c", "[J", true)
  | 3 => ("WordChecker$Gates", "out", "[J", true)
  | 4 => ("WordChecker$Gates", "rest", "[J", true)
  | 5 => ("WordChecker$Gates", "less", "[J", true)
  | 6 => ("WordChecker$Gates", "width", "I", false)
  | 7 => ("WordChecker$Gates", "widthA", "I", false)
  | _ => ("WordChecker$Gates", "widthB", "I", false)
def tyG : Nat → FieldType := fun k => match k with
  | 0 => .array .long
  | 1 => .array .long
  | 2 => .array .long
  | 3 => .array .long
  | 4 => .array .long
  | 5 => .array .long
  | 6 => .int
  | 7 => .int
  | _ => .int
theorem nmG : ∀ a, a < 9 → ∀ b, b < 9 → a ≠ b → (TG a).2.1 ≠ (TG b).2.1 := by decide +kernel
theorem tyG_ok : ∀ k, k < 9 → parseFieldDescriptor (TG k).2.2.1 = some (tyG k) := by decide +kernel
theorem hinG : ∀ w ∈ u_ws "WordChecker$Gates" TG 9, w ∈ gT := by
  intro w hw
  obtain ⟨k, hk, rfl⟩ := List.mem_map.mp hw
  have hk := List.mem_range.mp hk
  match k, hk with
  | 0, _ => exact gT_1 (i := 73) (by decide +kernel) rfl
  | 1, _ => exact gT_1 (i := 75) (by decide +kernel) rfl
  | 2, _ => exact gT_1 (i := 77) (by decide +kernel) rfl
  | 3, _ => exact gT_1 (i := 79) (by decide +kernel) rfl
  | 4, _ => exact gT_1 (i := 81) (by decide +kernel) rfl
  | 5, _ => exact gT_1 (i := 83) (by decide +kernel) rfl
  | 6, _ => exact gT_1 (i := 85) (by decide +kernel) rfl
  | 7, _ => exact gT_1 (i := 87) (by decide +kernel) rfl
  | 8, _ => exact gT_1 (i := 89) (by decide +kernel) rfl
  | k + 9, h => exact absurd h (by omega)
def TS : u_T := fun k => match k with
  | 0 => ("WordChecker$Search", "book", "LWordChecker$Book;", true)
  | 1 => ("WordChecker$Search", "near", "[J", true)
  | 2 => ("WordChecker$Search", "states", "[I", true)
  | 3 => ("WordChecker$Search", "inputs", "[I", true)
  | _ => ("WordChecker$Search", "steps", "I", false)
def tyS : Nat → FieldType := fun k => match k with
  | 0 => .object "WordChecker$Book"
  | 1 => .array .long
  | 2 => .array .int
  | 3 => .array .int
  | _ => .int
theorem nmS : ∀ a, a < 5 → ∀ b, b < 5 → a ≠ b → (TS a).2.1 ≠ (TS b).2.1 := by decide +kernel
theorem tyS_ok : ∀ k, k < 5 → parseFieldDescriptor (TS k).2.2.1 = some (tyS k) := by decide +kernel
theorem hinS : ∀ w ∈ u_ws "WordChecker$Search" TS 5, w ∈ gT := by
  intro w hw
  obtain ⟨k, hk, rfl⟩ := List.mem_map.mp hw
  have hk := List.mem_range.mp hk
  match k, hk with
  | 0, _ => exact gT_1 (i := 239) (by decide +kernel) rfl
  | 1, _ => exact gT_1 (i := 241) (by decide +kernel) rfl
  | 2, _ => exact gT_1 (i := 243) (by decide +kernel) rfl
  | 3, _ => exact gT_1 (i := 245) (by decide +kernel) rfl
  | 4, _ => exact gT_1 (i := 247) (by decide +kernel) rfl
  | k + 5, h => exact absurd h (by omega)
def TL : u_T := fun k => match k with
  | 0 => ("WordChecker$Line", "id", "I", false)
  | 1 => ("WordChecker$Line", "kind", "LWordChecker$Kind;", false)
  | 2 => ("WordChecker$Line", "sort", "I", false)
  | 3 => ("WordChecker$Line", "fixed", "Z", false)
  | 4 => ("WordChecker$Line", "place", "I", false)
  | 5 => ("WordChecker$Line", "init", "I", false)
  | 6 => ("WordChecker$Line", "hasNext", "Z", false)
  | _ => ("WordChecker$Line", "wires", "[J", true)
def tyL : Nat → FieldType := fun k => match k with
  | 0 => .int
  | 1 => .object "WordChecker$Kind"
  | 2 => .int
  | 3 => .boolean
  | 4 => .int
  | 5 => .int
  | 6 => .boolean
  | _ => .array .long
theorem nmL : ∀ a, a < 8 → ∀ b, b < 8 → a ≠ b → (TL a).2.1 ≠ (TL b).2.1 := by decide +kernel
theorem tyL_ok : ∀ k, k < 8 → parseFieldDescriptor (TL k).2.2.1 = some (tyL k) := by decide +kernel
theorem hinL : ∀ w ∈ u_ws "WordChecker$Line" TL 8, w ∈ gT := by
  intro w hw
  obtain ⟨k, hk, rfl⟩ := List.mem_map.mp hw
  have hk := List.mem_range.mp hk
  match k, hk with
  | 0, _ => exact gT_1 (i := 116) (by decide +kernel) rfl
  | 1, _ => exact gT_1 (i := 118) (by decide +kernel) rfl
  | 2, _ => exact gT_1 (i := 120) (by decide +kernel) rfl
  | 3, _ => exact gT_1 (i := 122) (by decide +kernel) rfl
  | 4, _ => exact gT_1 (i := 124) (by decide +kernel) rfl
  | 5, _ => exact gT_1 (i := 126) (by decide +kernel) rfl
  | 6, _ => exact gT_1 (i := 128) (by decide +kernel) rfl
  | 7, _ => exact gT_1 (i := 130) (by decide +kernel) rfl
  | k + 8, h => exact absurd h (by omega)
def TM : u_T := fun k => match k with
  | 0 => ("WordCheckerModel", "typed", "[I", false)
  | 1 => ("WordCheckerModel", "size", "I", false)
  | 2 => ("WordCheckerModel", "words", "I", false)
  | 3 => ("WordCheckerModel", "from", "[I", false)
  | 4 => ("WordCheckerModel", "to", "[I", false)
  | 5 => ("WordCheckerModel", "at", "I", false)
  | 6 => ("WordCheckerModel", "lines", "I", false)
  | 7 => ("WordCheckerModel", "id", "[I", false)
  | 8 => ("WordCheckerModel", "kind", "[I", false)
  | 9 => ("WordCheckerModel", "sort", "[I", false)
  | 10 => ("WordCheckerModel", "a", "[I", false)
  | 11 => ("WordCheckerModel", "b", "[I", false)
  | 12 => ("WordCheckerModel", "c", "[I", false)
  | 13 => ("WordCheckerModel", "turnA", "[Z", false)
  | 14 => ("WordCheckerModel", "turnB", "[Z", false)
  | 15 => ("WordCheckerModel", "turnC", "[Z", false)
  | 16 => ("WordCheckerModel", "u", "[I", false)
  | 17 => ("WordCheckerModel", "l", "[I", false)
  | 18 => ("WordCheckerModel", "array", "[Z", false)
  | 19 => ("WordCheckerModel", "width", "[I", false)
  | 20 => ("WordCheckerModel", "turned", "Z", false)
  | 21 => ("WordCheckerModel", "value", "[I", false)
  | 22 => ("WordCheckerModel", "after", "[I", false)
  | 23 => ("WordCheckerModel", "running", "Z", false)
  | 24 => ("WordCheckerModel", "hand", "[I", false)
  | 25 => ("WordCheckerModel", "keptSteps", "I", false)
  | 26 => ("WordCheckerModel", "keptNumber", "I", false)
  | _ => ("WordCheckerModel", "seen", "[I", false)
def tyM : Nat → FieldType := fun k => match k with
  | 0 => .array .int
  | 1 => .int
  | 2 => .int
  | 3 => .array .int
  | 4 => .array .int
  | 5 => .int
  | 6 => .int
  | 7 => .array .int
  | 8 => .array .int
  | 9 => .array .int
  | 10 => .array .int
  | 11 => .array .int
  | 12 => .array .int
  | 13 => .array .boolean
  | 14 => .array .boolean
  | 15 => .array .boolean
  | 16 => .array .int
  | 17 => .array .int
  | 18 => .array .boolean
  | 19 => .array .int
  | 20 => .boolean
  | 21 => .array .int
  | 22 => .array .int
  | 23 => .boolean
  | 24 => .array .int
  | 25 => .int
  | 26 => .int
  | _ => .array .int
theorem nmM : ∀ a, a < 28 → ∀ b, b < 28 → a ≠ b → (TM a).2.1 ≠ (TM b).2.1 := by decide +kernel
theorem tyM_ok : ∀ k, k < 28 → parseFieldDescriptor (TM k).2.2.1 = some (tyM k) := by decide +kernel
theorem hinM : ∀ w ∈ u_ws "WordCheckerModel" TM 28, w ∈ gT := by
  intro w hw
  obtain ⟨k, hk, rfl⟩ := List.mem_map.mp hw
  have hk := List.mem_range.mp hk
  match k, hk with
  | 0, _ => exact gT_1 (i := 741) (by decide +kernel) rfl
  | 1, _ => exact gT_1 (i := 743) (by decide +kernel) rfl
  | 2, _ => exact gT_1 (i := 745) (by decide +kernel) rfl
  | 3, _ => exact gT_1 (i := 747) (by decide +kernel) rfl
  | 4, _ => exact gT_1 (i := 749) (by decide +kernel) rfl
  | 5, _ => exact gT_1 (i := 751) (by decide +kernel) rfl
  | 6, _ => exact gT_1 (i := 753) (by decide +kernel) rfl
  | 7, _ => exact gT_1 (i := 755) (by decide +kernel) rfl
  | 8, _ => exact gT_1 (i := 757) (by decide +kernel) rfl
  | 9, _ => exact gT_1 (i := 759) (by decide +kernel) rfl
  | 10, _ => exact gT_1 (i := 761) (by decide +kernel) rfl
  | 11, _ => exact gT_1 (i := 763) (by decide +kernel) rfl
  | 12, _ => exact gT_1 (i := 765) (by decide +kernel) rfl
  | 13, _ => exact gT_1 (i := 767) (by decide +kernel) rfl
  | 14, _ => exact gT_1 (i := 769) (by decide +kernel) rfl
  | 15, _ => exact gT_1 (i := 771) (by decide +kernel) rfl
  | 16, _ => exact gT_1 (i := 773) (by decide +kernel) rfl
  | 17, _ => exact gT_1 (i := 775) (by decide +kernel) rfl
  | 18, _ => exact gT_1 (i := 777) (by decide +kernel) rfl
  | 19, _ => exact gT_1 (i := 779) (by decide +kernel) rfl
  | 20, _ => exact gT_1 (i := 781) (by decide +kernel) rfl
  | 21, _ => exact gT_1 (i := 783) (by decide +kernel) rfl
  | 22, _ => exact gT_1 (i := 785) (by decide +kernel) rfl
  | 23, _ => exact gT_1 (i := 787) (by decide +kernel) rfl
  | 24, _ => exact gT_1 (i := 789) (by decide +kernel) rfl
  | 25, _ => exact gT_1 (i := 791) (by decide +kernel) rfl
  | 26, _ => exact gT_1 (i := 793) (by decide +kernel) rfl
  | 27, _ => exact gT_1 (i := 795) (by decide +kernel) rfl
  | k + 28, h => exact absurd h (by omega)
abbrev cls8 : List vw_C := [("WordChecker", TC, 7), ("WordChecker$Text", TT, 5), ("WordChecker$Book", TB, 9), ("WordChecker$Draft", TD, 11), ("WordChecker$Gates", TG, 9), ("WordChecker$Search", TS, 5), ("WordChecker$Line", TL, 8), ("WordCheckerModel", TM, 28)]
abbrev tys5 (cI cJ cC cZ cR : ClassId) : List (ClassId × FieldType) := [(cI, .int), (cJ, .long), (cC, .char), (cZ, .boolean), (cR, .object "WordChecker$Line")]
def GM (cI cZ : ClassId) (ad : Nat → Nat) : GW := fun k f _ => match k with
  | 0 => .inr (7, [.ref (ad 1), .int (f 1), .int (f 2), .ref (ad 2), .ref (ad 3), .int (f 5), .int (f 6), .ref (ad 4), .ref (ad 5), .ref (ad 6), .ref (ad 7), .ref (ad 8), .ref (ad 9), .ref (ad 10), .ref (ad 11), .ref (ad 12), .ref (ad 13), .ref (ad 14), .ref (ad 15), .ref (ad 16), .int (f 20), .ref (ad 17), .ref (ad 18), .int (f 23), .ref (ad 19), .int (f 25), .int (f 26), .ref (ad 20)])
  | 1 => .inl (cI, 40, .inl f)
  | 2 => .inl (cI, 20, .inl f)
  | 3 => .inl (cI, 20, .inl f)
  | 4 => .inl (cI, 21, .inl f)
  | 5 => .inl (cI, 21, .inl f)
  | 6 => .inl (cI, 21, .inl f)
  | 7 => .inl (cI, 21, .inl f)
  | 8 => .inl (cI, 21, .inl f)
  | 9 => .inl (cI, 21, .inl f)
  | 10 => .inl (cZ, 21, .inl f)
  | 11 => .inl (cZ, 21, .inl f)
  | 12 => .inl (cZ, 21, .inl f)
  | 13 => .inl (cI, 21, .inl f)
  | 14 => .inl (cI, 21, .inl f)
  | 15 => .inl (cZ, 21, .inl f)
  | 16 => .inl (cI, 21, .inl f)
  | 17 => .inl (cI, 21, .inl f)
  | 18 => .inl (cI, 21, .inl f)
  | 19 => .inl (cI, 21, .inl f)
  | _ => .inl (cI, 8, .inl f)
theorem i_ne {x v : Int32} {n : Int} (h : ¬ x = v) (hv : v.toInt = n) : x.toInt ≠ n := fun q => h (Int32.toInt_inj.mp (q.trans hv.symm))
theorem i01.nar {x : Int32} (h : i01 x) : narrow .boolean (.int x) = .int x := by rcases h with rfl | rfl <;> rfl
theorem i01.fit {x : Int32} (h : i01 x) : fits .boolean (.int x) = true := by rcases h with rfl | rfl <;> rfl
theorem in_lt {x : Int32} {n : Nat} (h : vp_in x n) : x.toNatClampNeg < n := Nat.not_le.mp fun q => h (Or.inr q)
