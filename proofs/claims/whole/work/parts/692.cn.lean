abbrev cT_new : ByteArray := prog_9_method_1_code
def yT_new : MethodName := ⟨"WordChecker$Text", "<init>", "()V"⟩
set_option maxRecDepth 100000 in
theorem calT_new : CalI yT_new cT_new 1 0 := ⟨⟨gT_1 (i := 29) rfl rfl, gT_1 (i := 2) (by decide +kernel) rfl, by decide +kernel⟩, rfl, gT_1 (i := 28) (by decide +kernel) rfl⟩
theorem dT_new_0 : decode cT_new 0 = .ok (.aload_n 0, 1) := dq__aload_n_0 (by decide +kernel)
theorem dT_new_1 : decode cT_new 1 = .ok (.invokespecial 3, 3) := dq__invokespecial (a := 0) (b := 3) (by decide +kernel)
theorem dT_new_4 : decode cT_new 4 = .ok (.aload_n 0, 1) := dq__aload_n_0 (by decide +kernel)
theorem dT_new_5 : decode cT_new 5 = .ok (.bipush 40, 2) := dq__bipush (a := 40) (by decide +kernel) (by decide)
theorem dT_new_7 : decode cT_new 7 = .ok (.newarray .char, 2) := by decide +kernel
theorem dT_new_9 : decode cT_new 9 = .ok (.putfield 9, 3) := dq__putfield (a := 0) (b := 9) (by decide +kernel)
theorem dT_new_12 : decode cT_new 12 = .ok (.aload_n 0, 1) := dq__aload_n_0 (by decide +kernel)
theorem dT_new_13 : decode cT_new 13 = .ok (.bipush 20, 2) := dq__bipush (a := 20) (by decide +kernel) (by decide)
theorem dT_new_15 : decode cT_new 15 = .ok (.newarray .int, 2) := by decide +kernel
theorem dT_new_17 : decode cT_new 17 = .ok (.putfield 15, 3) := dq__putfield (a := 0) (b := 15) (by decide +kernel)
theorem dT_new_20 : decode cT_new 20 = .ok (.aload_n 0, 1) := dq__aload_n_0 (by decide +kernel)
theorem dT_new_21 : decode cT_new 21 = .ok (.bipush 20, 2) := dq__bipush (a := 20) (by decide +kernel) (by decide)
theorem dT_new_23 : decode cT_new 23 = .ok (.newarray .int, 2) := by decide +kernel
theorem dT_new_25 : decode cT_new 25 = .ok (.putfield 19, 3) := dq__putfield (a := 0) (b := 19) (by decide +kernel)
theorem dT_new_28 : decode cT_new 28 = .ok (.return_, 1) := dq__return_ (by decide +kernel)
theorem dfT : ∀ j, j < 5 → defaultValue (tyT j) = vp_V [.null, .null, .null, .int 0, .int 0] j := fun j hj => match j, hj with
  | 0, _ => rfl
  | 1, _ => rfl
  | 2, _ => rfl
  | 3, _ => rfl
  | 4, _ => rfl
  | n + 5, h => absurd h (by omega)
theorem ilT_3 : Cond.methodLink "WordChecker$Text" 3 objectInit ∈ gT := gT_1 (i := 30) (by decide +kernel) rfl
theorem ibT : Cond.instantiable "WordChecker$Text" 5 ∈ gT := gT_1 (i := 26) (by decide +kernel) rfl
theorem iiT : Cond.initialized "WordChecker$Text" ∈ gT := gT_1 (i := 2) (by decide +kernel) rfl
abbrev cL_new : ByteArray := prog_7_method_1_code
def yL_new : MethodName := ⟨"WordChecker$Line", "<init>", "()V"⟩
set_option maxRecDepth 100000 in
theorem calL_new : CalI yL_new cL_new 1 0 := ⟨⟨gT_1 (i := 96) rfl rfl, gT_1 (i := 5) (by decide +kernel) rfl, by decide +kernel⟩, rfl, gT_1 (i := 95) (by decide +kernel) rfl⟩
theorem dL_new_0 : decode cL_new 0 = .ok (.aload_n 0, 1) := dq__aload_n_0 (by decide +kernel)
theorem dL_new_1 : decode cL_new 1 = .ok (.invokespecial 3, 3) := dq__invokespecial (a := 0) (b := 3) (by decide +kernel)
theorem dL_new_4 : decode cL_new 4 = .ok (.aload_n 0, 1) := dq__aload_n_0 (by decide +kernel)
theorem dL_new_5 : decode cL_new 5 = .ok (.iconst (-1), 1) := dq__iconst___1_ (by decide +kernel)
theorem dL_new_6 : decode cL_new 6 = .ok (.putfield 9, 3) := dq__putfield (a := 0) (b := 9) (by decide +kernel)
theorem dL_new_9 : decode cL_new 9 = .ok (.aload_n 0, 1) := dq__aload_n_0 (by decide +kernel)
theorem dL_new_10 : decode cL_new 10 = .ok (.bipush 24, 2) := dq__bipush (a := 24) (by decide +kernel) (by decide)
theorem dL_new_12 : decode cL_new 12 = .ok (.newarray .long, 2) := by decide +kernel
theorem dL_new_14 : decode cL_new 14 = .ok (.putfield 15, 3) := dq__putfield (a := 0) (b := 15) (by decide +kernel)
theorem dL_new_17 : decode cL_new 17 = .ok (.return_, 1) := dq__return_ (by decide +kernel)
theorem dfL : ∀ j, j < 8 → defaultValue (tyL j) = vp_V [.int 0, .null, .int 0, .int 0, .int 0, .int 0, .int 0, .null] j := fun j hj => match j, hj with
  | 0, _ => rfl
  | 1, _ => rfl
  | 2, _ => rfl
  | 3, _ => rfl
  | 4, _ => rfl
  | 5, _ => rfl
  | 6, _ => rfl
  | 7, _ => rfl
  | n + 8, h => absurd h (by omega)
theorem ilL_3 : Cond.methodLink "WordChecker$Line" 3 objectInit ∈ gT := gT_1 (i := 97) (by decide +kernel) rfl
theorem flL_9 : Cond.fieldLink "WordChecker$Line" 9 "WordChecker$Line" "init" "I" ∈ gT := gT_1 (i := 108) (by decide +kernel) rfl
theorem ibL : Cond.instantiable "WordChecker$Line" 8 ∈ gT := gT_1 (i := 93) (by decide +kernel) rfl
theorem iiL : Cond.initialized "WordChecker$Line" ∈ gT := gT_1 (i := 5) (by decide +kernel) rfl
abbrev cG_new : ByteArray := prog_5_method_1_code
def yG_new : MethodName := ⟨"WordChecker$Gates", "<init>", "()V"⟩
set_option maxRecDepth 100000 in
theorem calG_new : CalI yG_new cG_new 1 0 := ⟨⟨gT_1 (i := 62) rfl rfl, gT_1 (i := 4) (by decide +kernel) rfl, by decide +kernel⟩, rfl, gT_1 (i := 61) (by decide +kernel) rfl⟩
theorem dG_new_0 : decode cG_new 0 = .ok (.aload_n 0, 1) := dq__aload_n_0 (by decide +kernel)
theorem dG_new_1 : decode cG_new 1 = .ok (.invokespecial 3, 3) := dq__invokespecial (a := 0) (b := 3) (by decide +kernel)
theorem dG_new_4 : decode cG_new 4 = .ok (.aload_n 0, 1) := dq__aload_n_0 (by decide +kernel)
theorem dG_new_5 : decode cG_new 5 = .ok (.bipush 6, 2) := dq__bipush (a := 6) (by decide +kernel) (by decide)
theorem dG_new_7 : decode cG_new 7 = .ok (.newarray .long, 2) := by decide +kernel
theorem dG_new_9 : decode cG_new 9 = .ok (.putfield 9, 3) := dq__putfield (a := 0) (b := 9) (by decide +kernel)
theorem dG_new_12 : decode cG_new 12 = .ok (.aload_n 0, 1) := dq__aload_n_0 (by decide +kernel)
theorem dG_new_13 : decode cG_new 13 = .ok (.bipush 6, 2) := dq__bipush (a := 6) (by decide +kernel) (by decide)
theorem dG_new_15 : decode cG_new 15 = .ok (.newarray .long, 2) := by decide +kernel
theorem dG_new_17 : decode cG_new 17 = .ok (.putfield 15, 3) := dq__putfield (a := 0) (b := 15) (by decide +kernel)
theorem dG_new_20 : decode cG_new 20 = .ok (.aload_n 0, 1) := dq__aload_n_0 (by decide +kernel)
theorem dG_new_21 : decode cG_new 21 = .ok (.bipush 6, 2) := dq__bipush (a := 6) (by decide +kernel) (by decide)
theorem dG_new_23 : decode cG_new 23 = .ok (.newarray .long, 2) := by decide +kernel
theorem dG_new_25 : decode cG_new 25 = .ok (.putfield 18, 3) := dq__putfield (a := 0) (b := 18) (by decide +kernel)
theorem dG_new_28 : decode cG_new 28 = .ok (.aload_n 0, 1) := dq__aload_n_0 (by decide +kernel)
theorem dG_new_29 : decode cG_new 29 = .ok (.bipush 6, 2) := dq__bipush (a := 6) (by decide +kernel) (by decide)
theorem dG_new_31 : decode cG_new 31 = .ok (.newarray .long, 2) := by decide +kernel
theorem dG_new_33 : decode cG_new 33 = .ok (.putfield 21, 3) := dq__putfield (a := 0) (b := 21) (by decide +kernel)
theorem dG_new_36 : decode cG_new 36 = .ok (.aload_n 0, 1) := dq__aload_n_0 (by decide +kernel)
theorem dG_new_37 : decode cG_new 37 = .ok (.bipush 6, 2) := dq__bipush (a := 6) (by decide +kernel) (by decide)
theorem dG_new_39 : decode cG_new 39 = .ok (.newarray .long, 2) := by decide +kernel
theorem dG_new_41 : decode cG_new 41 = .ok (.putfield 24, 3) := dq__putfield (a := 0) (b := 24) (by decide +kernel)
theorem dG_new_44 : decode cG_new 44 = .ok (.aload_n 0, 1) := dq__aload_n_0 (by decide +kernel)
theorem dG_new_45 : decode cG_new 45 = .ok (.bipush 6, 2) := dq__bipush (a := 6) (by decide +kernel) (by decide)
theorem dG_new_47 : decode cG_new 47 = .ok (.newarray .long, 2) := by decide +kernel
theorem dG_new_49 : decode cG_new 49 = .ok (.putfield 27, 3) := dq__putfield (a := 0) (b := 27) (by decide +kernel)
theorem dG_new_52 : decode cG_new 52 = .ok (.return_, 1) := dq__return_ (by decide +kernel)
theorem dfG : ∀ j, j < 9 → defaultValue (tyG j) = vp_V [.null, .null, .null, .null, .null, .null, .int 0, .int 0, .int 0] j := fun j hj => match j, hj with
  | 0, _ => rfl
  | 1, _ => rfl
  | 2, _ => rfl
  | 3, _ => rfl
  | 4, _ => rfl
  | 5, _ => rfl
  | 6, _ => rfl
  | 7, _ => rfl
  | 8, _ => rfl
  | n + 9, h => absurd h (by omega)
theorem ilG_3 : Cond.methodLink "WordChecker$Gates" 3 objectInit ∈ gT := gT_1 (i := 63) (by decide +kernel) rfl
theorem ibG : Cond.instantiable "WordChecker$Gates" 9 ∈ gT := gT_1 (i := 59) (by decide +kernel) rfl
theorem iiG : Cond.initialized "WordChecker$Gates" ∈ gT := gT_1 (i := 4) (by decide +kernel) rfl
abbrev cD_new : ByteArray := prog_4_method_1_code
def yD_new : MethodName := ⟨"WordChecker$Draft", "<init>", "(LWordChecker$Text;LWordChecker$Book;)V"⟩
set_option maxRecDepth 100000 in
theorem calD_new : CalI yD_new cD_new 3 2 := ⟨⟨gT_1 (i := 176) rfl rfl, gT_1 (i := 6) (by decide +kernel) rfl, by decide +kernel⟩, rfl, gT_1 (i := 175) (by decide +kernel) rfl⟩
theorem dD_new_0 : decode cD_new 0 = .ok (.aload_n 0, 1) := dq__aload_n_0 (by decide +kernel)
theorem dD_new_1 : decode cD_new 1 = .ok (.invokespecial 3, 3) := dq__invokespecial (a := 0) (b := 3) (by decide +kernel)
theorem dD_new_4 : decode cD_new 4 = .ok (.aload_n 0, 1) := dq__aload_n_0 (by decide +kernel)
theorem dD_new_5 : decode cD_new 5 = .ok (.iconst 3, 1) := dq__iconst_3 (by decide +kernel)
theorem dD_new_6 : decode cD_new 6 = .ok (.newarray .int, 2) := by decide +kernel
theorem dD_new_8 : decode cD_new 8 = .ok (.putfield 9, 3) := dq__putfield (a := 0) (b := 9) (by decide +kernel)
theorem dD_new_11 : decode cD_new 11 = .ok (.aload_n 0, 1) := dq__aload_n_0 (by decide +kernel)
theorem dD_new_12 : decode cD_new 12 = .ok (.iconst 3, 1) := dq__iconst_3 (by decide +kernel)
theorem dD_new_13 : decode cD_new 13 = .ok (.newarray .boolean, 2) := by decide +kernel
theorem dD_new_15 : decode cD_new 15 = .ok (.putfield 15, 3) := dq__putfield (a := 0) (b := 15) (by decide +kernel)
theorem dD_new_18 : decode cD_new 18 = .ok (.aload_n 0, 1) := dq__aload_n_0 (by decide +kernel)
theorem dD_new_19 : decode cD_new 19 = .ok (.aload_n 1, 1) := dq__aload_n_1 (by decide +kernel)
theorem dD_new_20 : decode cD_new 20 = .ok (.putfield 19, 3) := dq__putfield (a := 0) (b := 19) (by decide +kernel)
theorem dD_new_23 : decode cD_new 23 = .ok (.aload_n 0, 1) := dq__aload_n_0 (by decide +kernel)
theorem dD_new_24 : decode cD_new 24 = .ok (.aload_n 2, 1) := dq__aload_n_2 (by decide +kernel)
theorem dD_new_25 : decode cD_new 25 = .ok (.putfield 23, 3) := dq__putfield (a := 0) (b := 23) (by decide +kernel)
theorem dD_new_28 : decode cD_new 28 = .ok (.return_, 1) := dq__return_ (by decide +kernel)
theorem dfD : ∀ j, j < 11 → defaultValue (tyD j) = vp_V [.null, .null, .int 0, .null, .int 0, .null, .null, .int 0, .int 0, .int 0, .int 0] j := fun j hj => match j, hj with
  | 0, _ => rfl
  | 1, _ => rfl
  | 2, _ => rfl
  | 3, _ => rfl
  | 4, _ => rfl
  | 5, _ => rfl
  | 6, _ => rfl
  | 7, _ => rfl
  | 8, _ => rfl
  | 9, _ => rfl
  | 10, _ => rfl
  | n + 11, h => absurd h (by omega)
theorem ilD_3 : Cond.methodLink "WordChecker$Draft" 3 objectInit ∈ gT := gT_1 (i := 177) (by decide +kernel) rfl
theorem ibD : Cond.instantiable "WordChecker$Draft" 11 ∈ gT := gT_1 (i := 173) (by decide +kernel) rfl
theorem iiD : Cond.initialized "WordChecker$Draft" ∈ gT := gT_1 (i := 6) (by decide +kernel) rfl
abbrev cS_new : ByteArray := prog_8_method_1_code
def yS_new : MethodName := ⟨"WordChecker$Search", "<init>", "(LWordChecker$Book;)V"⟩
set_option maxRecDepth 100000 in
theorem calS_new : CalI yS_new cS_new 2 1 := ⟨⟨gT_1 (i := 229) rfl rfl, gT_1 (i := 7) (by decide +kernel) rfl, by decide +kernel⟩, rfl, gT_1 (i := 228) (by decide +kernel) rfl⟩
theorem dS_new_0 : decode cS_new 0 = .ok (.aload_n 0, 1) := dq__aload_n_0 (by decide +kernel)
theorem dS_new_1 : decode cS_new 1 = .ok (.invokespecial 3, 3) := dq__invokespecial (a := 0) (b := 3) (by decide +kernel)
theorem dS_new_4 : decode cS_new 4 = .ok (.aload_n 0, 1) := dq__aload_n_0 (by decide +kernel)
theorem dS_new_5 : decode cS_new 5 = .ok (.iconst 4, 1) := dq__iconst_4 (by decide +kernel)
theorem dS_new_6 : decode cS_new 6 = .ok (.newarray .long, 2) := by decide +kernel
theorem dS_new_8 : decode cS_new 8 = .ok (.putfield 9, 3) := dq__putfield (a := 0) (b := 9) (by decide +kernel)
theorem dS_new_11 : decode cS_new 11 = .ok (.aload_n 0, 1) := dq__aload_n_0 (by decide +kernel)
theorem dS_new_12 : decode cS_new 12 = .ok (.iconst 4, 1) := dq__iconst_4 (by decide +kernel)
theorem dS_new_13 : decode cS_new 13 = .ok (.newarray .int, 2) := by decide +kernel
theorem dS_new_15 : decode cS_new 15 = .ok (.putfield 15, 3) := dq__putfield (a := 0) (b := 15) (by decide +kernel)
theorem dS_new_18 : decode cS_new 18 = .ok (.aload_n 0, 1) := dq__aload_n_0 (by decide +kernel)
theorem dS_new_19 : decode cS_new 19 = .ok (.iconst 4, 1) := dq__iconst_4 (by decide +kernel)
theorem dS_new_20 : decode cS_new 20 = .ok (.newarray .int, 2) := by decide +kernel
theorem dS_new_22 : decode cS_new 22 = .ok (.putfield 19, 3) := dq__putfield (a := 0) (b := 19) (by decide +kernel)
theorem dS_new_25 : decode cS_new 25 = .ok (.aload_n 0, 1) := dq__aload_n_0 (by decide +kernel)
theorem dS_new_26 : decode cS_new 26 = .ok (.aload_n 1, 1) := dq__aload_n_1 (by decide +kernel)
theorem dS_new_27 : decode cS_new 27 = .ok (.putfield 22, 3) := dq__putfield (a := 0) (b := 22) (by decide +kernel)
theorem dS_new_30 : decode cS_new 30 = .ok (.return_, 1) := dq__return_ (by decide +kernel)
theorem dfS : ∀ j, j < 5 → defaultValue (tyS j) = vp_V [.null, .null, .null, .null, .int 0] j := fun j hj => match j, hj with
  | 0, _ => rfl
  | 1, _ => rfl
  | 2, _ => rfl
  | 3, _ => rfl
  | 4, _ => rfl
  | n + 5, h => absurd h (by omega)
theorem ilS_3 : Cond.methodLink "WordChecker$Search" 3 objectInit ∈ gT := gT_1 (i := 230) (by decide +kernel) rfl
theorem ibS : Cond.instantiable "WordChecker$Search" 5 ∈ gT := gT_1 (i := 226) (by decide +kernel) rfl
theorem iiS : Cond.initialized "WordChecker$Search" ∈ gT := gT_1 (i := 7) (by decide +kernel) rfl
abbrev cB_new : ByteArray := prog_3_method_1_code
def yB_new : MethodName := ⟨"WordChecker$Book", "<init>", "()V"⟩
set_option maxRecDepth 100000 in
theorem calB_new : CalI yB_new cB_new 2 0 := ⟨⟨gT_1 (i := 54) rfl rfl, gT_1 (i := 3) (by decide +kernel) rfl, by decide +kernel⟩, rfl, gT_1 (i := 53) (by decide +kernel) rfl⟩
theorem dB_new_0 : decode cB_new 0 = .ok (.aload_n 0, 1) := dq__aload_n_0 (by decide +kernel)
theorem dB_new_1 : decode cB_new 1 = .ok (.invokespecial 3, 3) := dq__invokespecial (a := 0) (b := 3) (by decide +kernel)
theorem dB_new_4 : decode cB_new 4 = .ok (.aload_n 0, 1) := dq__aload_n_0 (by decide +kernel)
theorem dB_new_5 : decode cB_new 5 = .ok (.bipush 20, 2) := dq__bipush (a := 20) (by decide +kernel) (by decide)
theorem dB_new_7 : decode cB_new 7 = .ok (.anewarray 9, 3) := dq__anewarray (a := 0) (b := 9) (by decide +kernel)
theorem dB_new_10 : decode cB_new 10 = .ok (.putfield 11, 3) := dq__putfield (a := 0) (b := 11) (by decide +kernel)
theorem dB_new_13 : decode cB_new 13 = .ok (.aload_n 0, 1) := dq__aload_n_0 (by decide +kernel)
theorem dB_new_14 : decode cB_new 14 = .ok (.new 17, 3) := dq__new (a := 0) (b := 17) (by decide +kernel)
theorem dB_new_17 : decode cB_new 17 = .ok (.dup, 1) := dq__dup (by decide +kernel)
theorem dB_new_18 : decode cB_new 18 = .ok (.invokespecial 19, 3) := dq__invokespecial (a := 0) (b := 19) (by decide +kernel)
theorem dB_new_21 : decode cB_new 21 = .ok (.putfield 20, 3) := dq__putfield (a := 0) (b := 20) (by decide +kernel)
theorem dB_new_24 : decode cB_new 24 = .ok (.aload_n 0, 1) := dq__aload_n_0 (by decide +kernel)
theorem dB_new_25 : decode cB_new 25 = .ok (.bipush 24, 2) := dq__bipush (a := 24) (by decide +kernel) (by decide)
theorem dB_new_27 : decode cB_new 27 = .ok (.newarray .long, 2) := by decide +kernel
theorem dB_new_29 : decode cB_new 29 = .ok (.putfield 24, 3) := dq__putfield (a := 0) (b := 24) (by decide +kernel)
theorem dB_new_32 : decode cB_new 32 = .ok (.aload_n 0, 1) := dq__aload_n_0 (by decide +kernel)
theorem dB_new_33 : decode cB_new 33 = .ok (.iconst 4, 1) := dq__iconst_4 (by decide +kernel)
theorem dB_new_34 : decode cB_new 34 = .ok (.newarray .long, 2) := by decide +kernel
theorem dB_new_36 : decode cB_new 36 = .ok (.putfield 28, 3) := dq__putfield (a := 0) (b := 28) (by decide +kernel)
theorem dB_new_39 : decode cB_new 39 = .ok (.aload_n 0, 1) := dq__aload_n_0 (by decide +kernel)
theorem dB_new_40 : decode cB_new 40 = .ok (.iconst 4, 1) := dq__iconst_4 (by decide +kernel)
theorem dB_new_41 : decode cB_new 41 = .ok (.newarray .long, 2) := by decide +kernel
theorem dB_new_43 : decode cB_new 43 = .ok (.putfield 31, 3) := dq__putfield (a := 0) (b := 31) (by decide +kernel)
theorem dB_new_46 : decode cB_new 46 = .ok (.iconst 0, 1) := dq__iconst_0 (by decide +kernel)
theorem dB_new_47 : decode cB_new 47 = .ok (.istore_n 1, 1) := dq__istore_n_1 (by decide +kernel)
theorem dB_new_48 : decode cB_new 48 = .ok (.iload_n 1, 1) := dq__iload_n_1 (by decide +kernel)
theorem dB_new_49 : decode cB_new 49 = .ok (.bipush 20, 2) := dq__bipush (a := 20) (by decide +kernel) (by decide)
theorem dB_new_51 : decode cB_new 51 = .ok (.if_icmp .ge 22, 3) := dq__if_icmp__ge (a := 0) (b := 22) (by decide +kernel) (by decide)
theorem dB_new_54 : decode cB_new 54 = .ok (.aload_n 0, 1) := dq__aload_n_0 (by decide +kernel)
theorem dB_new_55 : decode cB_new 55 = .ok (.getfield 11, 3) := dq__getfield (a := 0) (b := 11) (by decide +kernel)
theorem dB_new_58 : decode cB_new 58 = .ok (.iload_n 1, 1) := dq__iload_n_1 (by decide +kernel)
theorem dB_new_59 : decode cB_new 59 = .ok (.new 9, 3) := dq__new (a := 0) (b := 9) (by decide +kernel)
theorem dB_new_62 : decode cB_new 62 = .ok (.dup, 1) := dq__dup (by decide +kernel)
theorem dB_new_63 : decode cB_new 63 = .ok (.invokespecial 34, 3) := dq__invokespecial (a := 0) (b := 34) (by decide +kernel)
theorem dB_new_66 : decode cB_new 66 = .ok (.aastore, 1) := dq__aastore (by decide +kernel)
theorem dB_new_67 : decode cB_new 67 = .ok (.iinc 1 1, 3) := dq__iinc (a := 1) (b := 1) (by decide +kernel) (by decide)
theorem dB_new_70 : decode cB_new 70 = .ok (.goto (-22), 3) := dq__goto (a := 255) (b := 234) (by decide +kernel) (by decide)
theorem dB_new_73 : decode cB_new 73 = .ok (.iconst 0, 1) := dq__iconst_0 (by decide +kernel)
theorem dB_new_74 : decode cB_new 74 = .ok (.istore_n 1, 1) := dq__istore_n_1 (by decide +kernel)
theorem dB_new_75 : decode cB_new 75 = .ok (.iload_n 1, 1) := dq__iload_n_1 (by decide +kernel)
theorem dB_new_76 : decode cB_new 76 = .ok (.iconst 4, 1) := dq__iconst_4 (by decide +kernel)
theorem dB_new_77 : decode cB_new 77 = .ok (.if_icmp .ge 18, 3) := dq__if_icmp__ge (a := 0) (b := 18) (by decide +kernel) (by decide)
theorem dB_new_80 : decode cB_new 80 = .ok (.aload_n 0, 1) := dq__aload_n_0 (by decide +kernel)
theorem dB_new_81 : decode cB_new 81 = .ok (.getfield 31, 3) := dq__getfield (a := 0) (b := 31) (by decide +kernel)
theorem dB_new_84 : decode cB_new 84 = .ok (.iload_n 1, 1) := dq__iload_n_1 (by decide +kernel)
theorem dB_new_85 : decode cB_new 85 = .ok (.ldc2_w 35, 3) := dq__ldc2_w (a := 0) (b := 35) (by decide +kernel)
theorem dB_new_88 : decode cB_new 88 = .ok (.lastore, 1) := dq__lastore (by decide +kernel)
theorem dB_new_89 : decode cB_new 89 = .ok (.iinc 1 1, 3) := dq__iinc (a := 1) (b := 1) (by decide +kernel) (by decide)
theorem dB_new_92 : decode cB_new 92 = .ok (.goto (-17), 3) := dq__goto (a := 255) (b := 239) (by decide +kernel) (by decide)
theorem dB_new_95 : decode cB_new 95 = .ok (.return_, 1) := dq__return_ (by decide +kernel)
theorem dfB : ∀ j, j < 9 → defaultValue (tyB j) = vp_V [.null, .null, .int 0, .int 0, .int 0, .int 0, .null, .null, .null] j := fun j hj => match j, hj with
  | 0, _ => rfl
  | 1, _ => rfl
  | 2, _ => rfl
  | 3, _ => rfl
  | 4, _ => rfl
  | 5, _ => rfl
  | 6, _ => rfl
  | 7, _ => rfl
  | 8, _ => rfl
  | n + 9, h => absurd h (by omega)
theorem ilB_3 : Cond.methodLink "WordChecker$Book" 3 objectInit ∈ gT := gT_1 (i := 55) (by decide +kernel) rfl
theorem klB_9 : Cond.classLink "WordChecker$Book" 9 "WordChecker$Line" ∈ gT := gT_1 (i := 56) (by decide +kernel) rfl
theorem klB_17 : Cond.classLink "WordChecker$Book" 17 "WordChecker$Gates" ∈ gT := gT_1 (i := 58) (by decide +kernel) rfl
theorem ilB_19 {s : State} (z : Zc s) : va_Nw (.methodLinkNest "WordChecker$Book" 19 yG_new "WordChecker") s := z.1 _ (nestW_in (i := 60) (by decide +kernel) rfl)
theorem ilB_34 {s : State} (z : Zc s) : va_Nw (.methodLinkNest "WordChecker$Book" 34 yL_new "WordChecker") s := z.1 _ (nestW_in (i := 94) (by decide +kernel) rfl)
theorem ibB : Cond.instantiable "WordChecker$Book" 9 ∈ gT := gT_1 (i := 51) (by decide +kernel) rfl
theorem iiB : Cond.initialized "WordChecker$Book" ∈ gT := gT_1 (i := 3) (by decide +kernel) rfl
abbrev cC_new : ByteArray := prog_1_method_1_code
def yC_new : MethodName := ⟨"WordChecker", "<init>", "()V"⟩
set_option maxRecDepth 100000 in
theorem calC_new : CalI yC_new cC_new 1 0 := ⟨⟨gT_1 (i := 21) rfl rfl, gT_1 (i := 1) (by decide +kernel) rfl, by decide +kernel⟩, rfl, gT_1 (i := 20) (by decide +kernel) rfl⟩
theorem dC_new_0 : decode cC_new 0 = .ok (.aload_n 0, 1) := dq__aload_n_0 (by decide +kernel)
theorem dC_new_1 : decode cC_new 1 = .ok (.invokespecial 3, 3) := dq__invokespecial (a := 0) (b := 3) (by decide +kernel)
theorem dC_new_4 : decode cC_new 4 = .ok (.aload_n 0, 1) := dq__aload_n_0 (by decide +kernel)
theorem dC_new_5 : decode cC_new 5 = .ok (.new 9, 3) := dq__new (a := 0) (b := 9) (by decide +kernel)
theorem dC_new_8 : decode cC_new 8 = .ok (.dup, 1) := dq__dup (by decide +kernel)
theorem dC_new_9 : decode cC_new 9 = .ok (.invokespecial 11, 3) := dq__invokespecial (a := 0) (b := 11) (by decide +kernel)
theorem dC_new_12 : decode cC_new 12 = .ok (.putfield 12, 3) := dq__putfield (a := 0) (b := 12) (by decide +kernel)
theorem dC_new_15 : decode cC_new 15 = .ok (.aload_n 0, 1) := dq__aload_n_0 (by decide +kernel)
theorem dC_new_16 : decode cC_new 16 = .ok (.new 16, 3) := dq__new (a := 0) (b := 16) (by decide +kernel)
theorem dC_new_19 : decode cC_new 19 = .ok (.dup, 1) := dq__dup (by decide +kernel)
theorem dC_new_20 : decode cC_new 20 = .ok (.invokespecial 18, 3) := dq__invokespecial (a := 0) (b := 18) (by decide +kernel)
theorem dC_new_23 : decode cC_new 23 = .ok (.putfield 19, 3) := dq__putfield (a := 0) (b := 19) (by decide +kernel)
theorem dC_new_26 : decode cC_new 26 = .ok (.aload_n 0, 1) := dq__aload_n_0 (by decide +kernel)
theorem dC_new_27 : decode cC_new 27 = .ok (.new 23, 3) := dq__new (a := 0) (b := 23) (by decide +kernel)
theorem dC_new_30 : decode cC_new 30 = .ok (.dup, 1) := dq__dup (by decide +kernel)
theorem dC_new_31 : decode cC_new 31 = .ok (.aload_n 0, 1) := dq__aload_n_0 (by decide +kernel)
theorem dC_new_32 : decode cC_new 32 = .ok (.getfield 12, 3) := dq__getfield (a := 0) (b := 12) (by decide +kernel)
theorem dC_new_35 : decode cC_new 35 = .ok (.aload_n 0, 1) := dq__aload_n_0 (by decide +kernel)
theorem dC_new_36 : decode cC_new 36 = .ok (.getfield 19, 3) := dq__getfield (a := 0) (b := 19) (by decide +kernel)
theorem dC_new_39 : decode cC_new 39 = .ok (.invokespecial 25, 3) := dq__invokespecial (a := 0) (b := 25) (by decide +kernel)
theorem dC_new_42 : decode cC_new 42 = .ok (.putfield 28, 3) := dq__putfield (a := 0) (b := 28) (by decide +kernel)
theorem dC_new_45 : decode cC_new 45 = .ok (.aload_n 0, 1) := dq__aload_n_0 (by decide +kernel)
theorem dC_new_46 : decode cC_new 46 = .ok (.new 32, 3) := dq__new (a := 0) (b := 32) (by decide +kernel)
theorem dC_new_49 : decode cC_new 49 = .ok (.dup, 1) := dq__dup (by decide +kernel)
theorem dC_new_50 : decode cC_new 50 = .ok (.aload_n 0, 1) := dq__aload_n_0 (by decide +kernel)
theorem dC_new_51 : decode cC_new 51 = .ok (.getfield 19, 3) := dq__getfield (a := 0) (b := 19) (by decide +kernel)
theorem dC_new_54 : decode cC_new 54 = .ok (.invokespecial 34, 3) := dq__invokespecial (a := 0) (b := 34) (by decide +kernel)
theorem dC_new_57 : decode cC_new 57 = .ok (.putfield 37, 3) := dq__putfield (a := 0) (b := 37) (by decide +kernel)
theorem dC_new_60 : decode cC_new 60 = .ok (.return_, 1) := dq__return_ (by decide +kernel)
theorem dfC : ∀ j, j < 7 → defaultValue (tyC j) = vp_V [.null, .null, .null, .null, .int 0, .int 0, .int 0] j := fun j hj => match j, hj with
  | 0, _ => rfl
  | 1, _ => rfl
  | 2, _ => rfl
  | 3, _ => rfl
  | 4, _ => rfl
  | 5, _ => rfl
  | 6, _ => rfl
  | n + 7, h => absurd h (by omega)
theorem ilC_3 : Cond.methodLink "WordChecker" 3 objectInit ∈ gT := gT_1 (i := 22) (by decide +kernel) rfl
theorem klC_9 : Cond.classLink "WordChecker" 9 "WordChecker$Text" ∈ gT := gT_1 (i := 25) (by decide +kernel) rfl
theorem ilC_11 {s : State} (z : Zc s) : va_Nw (.methodLinkNest "WordChecker" 11 yT_new "WordChecker") s := z.1 _ (nestW_in (i := 27) (by decide +kernel) rfl)
theorem klC_16 : Cond.classLink "WordChecker" 16 "WordChecker$Book" ∈ gT := gT_1 (i := 50) (by decide +kernel) rfl
theorem ilC_18 : Cond.methodLink "WordChecker" 18 yB_new ∈ gT := gT_1 (i := 52) (by decide +kernel) rfl
theorem klC_23 : Cond.classLink "WordChecker" 23 "WordChecker$Draft" ∈ gT := gT_1 (i := 172) (by decide +kernel) rfl
theorem ilC_25 : Cond.methodLink "WordChecker" 25 yD_new ∈ gT := gT_1 (i := 174) (by decide +kernel) rfl
theorem klC_32 : Cond.classLink "WordChecker" 32 "WordChecker$Search" ∈ gT := gT_1 (i := 225) (by decide +kernel) rfl
theorem ilC_34 : Cond.methodLink "WordChecker" 34 yS_new ∈ gT := gT_1 (i := 227) (by decide +kernel) rfl
theorem ibC : Cond.instantiable "WordChecker" 7 ∈ gT := gT_1 (i := 18) (by decide +kernel) rfl
theorem iiC : Cond.initialized "WordChecker" ∈ gT := gT_1 (i := 1) (by decide +kernel) rfl
abbrev cM_new : ByteArray := prog_11_method_1_code
def yM_new : MethodName := ⟨"WordCheckerModel", "<init>", "()V"⟩
set_option maxRecDepth 100000 in
theorem calM_new : CalI yM_new cM_new 1 0 := ⟨⟨gT_1 (i := 711) rfl rfl, gT_1 (i := 8) (by decide +kernel) rfl, by decide +kernel⟩, rfl, gT_1 (i := 710) (by decide +kernel) rfl⟩
theorem dM_new_0 : decode cM_new 0 = .ok (.aload_n 0, 1) := dq__aload_n_0 (by decide +kernel)
theorem dM_new_1 : decode cM_new 1 = .ok (.invokespecial 1, 3) := dq__invokespecial (a := 0) (b := 1) (by decide +kernel)
theorem dM_new_4 : decode cM_new 4 = .ok (.aload_n 0, 1) := dq__aload_n_0 (by decide +kernel)
theorem dM_new_5 : decode cM_new 5 = .ok (.bipush 40, 2) := dq__bipush (a := 40) (by decide +kernel) (by decide)
theorem dM_new_7 : decode cM_new 7 = .ok (.newarray .int, 2) := by decide +kernel
theorem dM_new_9 : decode cM_new 9 = .ok (.putfield 7, 3) := dq__putfield (a := 0) (b := 7) (by decide +kernel)
theorem dM_new_12 : decode cM_new 12 = .ok (.aload_n 0, 1) := dq__aload_n_0 (by decide +kernel)
theorem dM_new_13 : decode cM_new 13 = .ok (.bipush 20, 2) := dq__bipush (a := 20) (by decide +kernel) (by decide)
theorem dM_new_15 : decode cM_new 15 = .ok (.newarray .int, 2) := by decide +kernel
theorem dM_new_17 : decode cM_new 17 = .ok (.putfield 13, 3) := dq__putfield (a := 0) (b := 13) (by decide +kernel)
theorem dM_new_20 : decode cM_new 20 = .ok (.aload_n 0, 1) := dq__aload_n_0 (by decide +kernel)
theorem dM_new_21 : decode cM_new 21 = .ok (.bipush 20, 2) := dq__bipush (a := 20) (by decide +kernel) (by decide)
theorem dM_new_23 : decode cM_new 23 = .ok (.newarray .int, 2) := by decide +kernel
theorem dM_new_25 : decode cM_new 25 = .ok (.putfield 16, 3) := dq__putfield (a := 0) (b := 16) (by decide +kernel)
theorem dM_new_28 : decode cM_new 28 = .ok (.aload_n 0, 1) := dq__aload_n_0 (by decide +kernel)
theorem dM_new_29 : decode cM_new 29 = .ok (.bipush 21, 2) := dq__bipush (a := 21) (by decide +kernel) (by decide)
theorem dM_new_31 : decode cM_new 31 = .ok (.newarray .int, 2) := by decide +kernel
theorem dM_new_33 : decode cM_new 33 = .ok (.putfield 19, 3) := dq__putfield (a := 0) (b := 19) (by decide +kernel)
theorem dM_new_36 : decode cM_new 36 = .ok (.aload_n 0, 1) := dq__aload_n_0 (by decide +kernel)
theorem dM_new_37 : decode cM_new 37 = .ok (.bipush 21, 2) := dq__bipush (a := 21) (by decide +kernel) (by decide)
theorem dM_new_39 : decode cM_new 39 = .ok (.newarray .int, 2) := by decide +kernel
theorem dM_new_41 : decode cM_new 41 = .ok (.putfield 22, 3) := dq__putfield (a := 0) (b := 22) (by decide +kernel)
theorem dM_new_44 : decode cM_new 44 = .ok (.aload_n 0, 1) := dq__aload_n_0 (by decide +kernel)
theorem dM_new_45 : decode cM_new 45 = .ok (.bipush 21, 2) := dq__bipush (a := 21) (by decide +kernel) (by decide)
theorem dM_new_47 : decode cM_new 47 = .ok (.newarray .int, 2) := by decide +kernel
theorem dM_new_49 : decode cM_new 49 = .ok (.putfield 25, 3) := dq__putfield (a := 0) (b := 25) (by decide +kernel)
theorem dM_new_52 : decode cM_new 52 = .ok (.aload_n 0, 1) := dq__aload_n_0 (by decide +kernel)
theorem dM_new_53 : decode cM_new 53 = .ok (.bipush 21, 2) := dq__bipush (a := 21) (by decide +kernel) (by decide)
theorem dM_new_55 : decode cM_new 55 = .ok (.newarray .int, 2) := by decide +kernel
theorem dM_new_57 : decode cM_new 57 = .ok (.putfield 28, 3) := dq__putfield (a := 0) (b := 28) (by decide +kernel)
theorem dM_new_60 : decode cM_new 60 = .ok (.aload_n 0, 1) := dq__aload_n_0 (by decide +kernel)
theorem dM_new_61 : decode cM_new 61 = .ok (.bipush 21, 2) := dq__bipush (a := 21) (by decide +kernel) (by decide)
theorem dM_new_63 : decode cM_new 63 = .ok (.newarray .int, 2) := by decide +kernel
theorem dM_new_65 : decode cM_new 65 = .ok (.putfield 31, 3) := dq__putfield (a := 0) (b := 31) (by decide +kernel)
theorem dM_new_68 : decode cM_new 68 = .ok (.aload_n 0, 1) := dq__aload_n_0 (by decide +kernel)
theorem dM_new_69 : decode cM_new 69 = .ok (.bipush 21, 2) := dq__bipush (a := 21) (by decide +kernel) (by decide)
theorem dM_new_71 : decode cM_new 71 = .ok (.newarray .int, 2) := by decide +kernel
theorem dM_new_73 : decode cM_new 73 = .ok (.putfield 34, 3) := dq__putfield (a := 0) (b := 34) (by decide +kernel)
theorem dM_new_76 : decode cM_new 76 = .ok (.aload_n 0, 1) := dq__aload_n_0 (by decide +kernel)
theorem dM_new_77 : decode cM_new 77 = .ok (.bipush 21, 2) := dq__bipush (a := 21) (by decide +kernel) (by decide)
theorem dM_new_79 : decode cM_new 79 = .ok (.newarray .boolean, 2) := by decide +kernel
theorem dM_new_81 : decode cM_new 81 = .ok (.putfield 37, 3) := dq__putfield (a := 0) (b := 37) (by decide +kernel)
theorem dM_new_84 : decode cM_new 84 = .ok (.aload_n 0, 1) := dq__aload_n_0 (by decide +kernel)
theorem dM_new_85 : decode cM_new 85 = .ok (.bipush 21, 2) := dq__bipush (a := 21) (by decide +kernel) (by decide)
theorem dM_new_87 : decode cM_new 87 = .ok (.newarray .boolean, 2) := by decide +kernel
theorem dM_new_89 : decode cM_new 89 = .ok (.putfield 41, 3) := dq__putfield (a := 0) (b := 41) (by decide +kernel)
theorem dM_new_92 : decode cM_new 92 = .ok (.aload_n 0, 1) := dq__aload_n_0 (by decide +kernel)
theorem dM_new_93 : decode cM_new 93 = .ok (.bipush 21, 2) := dq__bipush (a := 21) (by decide +kernel) (by decide)
theorem dM_new_95 : decode cM_new 95 = .ok (.newarray .boolean, 2) := by decide +kernel
theorem dM_new_97 : decode cM_new 97 = .ok (.putfield 44, 3) := dq__putfield (a := 0) (b := 44) (by decide +kernel)
theorem dM_new_100 : decode cM_new 100 = .ok (.aload_n 0, 1) := dq__aload_n_0 (by decide +kernel)
theorem dM_new_101 : decode cM_new 101 = .ok (.bipush 21, 2) := dq__bipush (a := 21) (by decide +kernel) (by decide)
theorem dM_new_103 : decode cM_new 103 = .ok (.newarray .int, 2) := by decide +kernel
theorem dM_new_105 : decode cM_new 105 = .ok (.putfield 47, 3) := dq__putfield (a := 0) (b := 47) (by decide +kernel)
theorem dM_new_108 : decode cM_new 108 = .ok (.aload_n 0, 1) := dq__aload_n_0 (by decide +kernel)
theorem dM_new_109 : decode cM_new 109 = .ok (.bipush 21, 2) := dq__bipush (a := 21) (by decide +kernel) (by decide)
theorem dM_new_111 : decode cM_new 111 = .ok (.newarray .int, 2) := by decide +kernel
theorem dM_new_113 : decode cM_new 113 = .ok (.putfield 50, 3) := dq__putfield (a := 0) (b := 50) (by decide +kernel)
theorem dM_new_116 : decode cM_new 116 = .ok (.aload_n 0, 1) := dq__aload_n_0 (by decide +kernel)
theorem dM_new_117 : decode cM_new 117 = .ok (.bipush 21, 2) := dq__bipush (a := 21) (by decide +kernel) (by decide)
theorem dM_new_119 : decode cM_new 119 = .ok (.newarray .boolean, 2) := by decide +kernel
theorem dM_new_121 : decode cM_new 121 = .ok (.putfield 53, 3) := dq__putfield (a := 0) (b := 53) (by decide +kernel)
theorem dM_new_124 : decode cM_new 124 = .ok (.aload_n 0, 1) := dq__aload_n_0 (by decide +kernel)
theorem dM_new_125 : decode cM_new 125 = .ok (.bipush 21, 2) := dq__bipush (a := 21) (by decide +kernel) (by decide)
theorem dM_new_127 : decode cM_new 127 = .ok (.newarray .int, 2) := by decide +kernel
theorem dM_new_129 : decode cM_new 129 = .ok (.putfield 56, 3) := dq__putfield (a := 0) (b := 56) (by decide +kernel)
theorem dM_new_132 : decode cM_new 132 = .ok (.aload_n 0, 1) := dq__aload_n_0 (by decide +kernel)
theorem dM_new_133 : decode cM_new 133 = .ok (.bipush 21, 2) := dq__bipush (a := 21) (by decide +kernel) (by decide)
theorem dM_new_135 : decode cM_new 135 = .ok (.newarray .int, 2) := by decide +kernel
theorem dM_new_137 : decode cM_new 137 = .ok (.putfield 59, 3) := dq__putfield (a := 0) (b := 59) (by decide +kernel)
theorem dM_new_140 : decode cM_new 140 = .ok (.aload_n 0, 1) := dq__aload_n_0 (by decide +kernel)
theorem dM_new_141 : decode cM_new 141 = .ok (.bipush 21, 2) := dq__bipush (a := 21) (by decide +kernel) (by decide)
theorem dM_new_143 : decode cM_new 143 = .ok (.newarray .int, 2) := by decide +kernel
theorem dM_new_145 : decode cM_new 145 = .ok (.putfield 62, 3) := dq__putfield (a := 0) (b := 62) (by decide +kernel)
theorem dM_new_148 : decode cM_new 148 = .ok (.aload_n 0, 1) := dq__aload_n_0 (by decide +kernel)
theorem dM_new_149 : decode cM_new 149 = .ok (.bipush 21, 2) := dq__bipush (a := 21) (by decide +kernel) (by decide)
theorem dM_new_151 : decode cM_new 151 = .ok (.newarray .int, 2) := by decide +kernel
theorem dM_new_153 : decode cM_new 153 = .ok (.putfield 65, 3) := dq__putfield (a := 0) (b := 65) (by decide +kernel)
theorem dM_new_156 : decode cM_new 156 = .ok (.aload_n 0, 1) := dq__aload_n_0 (by decide +kernel)
theorem dM_new_157 : decode cM_new 157 = .ok (.iconst (-1), 1) := dq__iconst___1_ (by decide +kernel)
theorem dM_new_158 : decode cM_new 158 = .ok (.putfield 68, 3) := dq__putfield (a := 0) (b := 68) (by decide +kernel)
theorem dM_new_161 : decode cM_new 161 = .ok (.aload_n 0, 1) := dq__aload_n_0 (by decide +kernel)
theorem dM_new_162 : decode cM_new 162 = .ok (.bipush 8, 2) := dq__bipush (a := 8) (by decide +kernel) (by decide)
theorem dM_new_164 : decode cM_new 164 = .ok (.newarray .int, 2) := by decide +kernel
theorem dM_new_166 : decode cM_new 166 = .ok (.putfield 72, 3) := dq__putfield (a := 0) (b := 72) (by decide +kernel)
theorem dM_new_169 : decode cM_new 169 = .ok (.return_, 1) := dq__return_ (by decide +kernel)
theorem dfM : ∀ j, j < 28 → defaultValue (tyM j) = vp_V [.null, .int 0, .int 0, .null, .null, .int 0, .int 0, .null, .null, .null, .null, .null, .null, .null, .null, .null, .null, .null, .null, .null, .int 0, .null, .null, .int 0, .null, .int 0, .int 0, .null] j := fun j hj => match j, hj with
  | 0, _ => rfl
  | 1, _ => rfl
  | 2, _ => rfl
  | 3, _ => rfl
  | 4, _ => rfl
  | 5, _ => rfl
  | 6, _ => rfl
  | 7, _ => rfl
  | 8, _ => rfl
  | 9, _ => rfl
  | 10, _ => rfl
  | 11, _ => rfl
  | 12, _ => rfl
  | 13, _ => rfl
  | 14, _ => rfl
  | 15, _ => rfl
  | 16, _ => rfl
  | 17, _ => rfl
  | 18, _ => rfl
  | 19, _ => rfl
  | 20, _ => rfl
  | 21, _ => rfl
  | 22, _ => rfl
  | 23, _ => rfl
  | 24, _ => rfl
  | 25, _ => rfl
  | 26, _ => rfl
  | 27, _ => rfl
  | n + 28, h => absurd h (by omega)
theorem ilM_1 : Cond.methodLink "WordCheckerModel" 1 objectInit ∈ gT := gT_1 (i := 712) (by decide +kernel) rfl
theorem ibM : Cond.instantiable "WordCheckerModel" 28 ∈ gT := gT_1 (i := 708) (by decide +kernel) rfl
theorem iiM : Cond.initialized "WordCheckerModel" ∈ gT := gT_1 (i := 8) (by decide +kernel) rfl
