-- ===== PART A: goes FIRST, ahead of the names: the tables' words, and 'selects' of the private methods out of them =====
/-- a private method of a class that the tables say can be made, by its rows of tables_1 -/
def lw_okq (q : MethodName × Nat) : Prop := (q.1.cls ≠ "java/lang/invoke/MethodHandle" ∧ q.1.cls ≠ "java/lang/invoke/VarHandle") ∧ Cond.instantiable q.1.cls q.2 ∈ tables_1 ∧ Cond.privateMethod q.1 ∈ tables_1 ∧ Cond.instanceMethod q.1 ∈ tables_1
theorem lw_p0 : lw_okq (⟨"RowAligner$Search", "fill", "()V"⟩, 8) := ⟨⟨by decide +kernel, by decide +kernel⟩, List.mem_of_getElem? (i := 111) (by decide +kernel), List.mem_of_getElem? (i := 293) (by decide +kernel), List.mem_of_getElem? (i := 294) (by decide +kernel)⟩
theorem lw_p1 : lw_okq (⟨"RowAligner$Search", "startAtFirstBest", "()V"⟩, 8) := ⟨⟨by decide +kernel, by decide +kernel⟩, List.mem_of_getElem? (i := 111) (by decide +kernel), List.mem_of_getElem? (i := 325) (by decide +kernel), List.mem_of_getElem? (i := 326) (by decide +kernel)⟩
theorem lw_p2 : lw_okq (⟨"RowAligner$Search", "startAt", "(II)V"⟩, 8) := ⟨⟨by decide +kernel, by decide +kernel⟩, List.mem_of_getElem? (i := 111) (by decide +kernel), List.mem_of_getElem? (i := 329) (by decide +kernel), List.mem_of_getElem? (i := 330) (by decide +kernel)⟩
theorem lw_p3 : lw_okq (⟨"RowAligner$Search", "worthFrom", "(II)I"⟩, 8) := ⟨⟨by decide +kernel, by decide +kernel⟩, List.mem_of_getElem? (i := 111) (by decide +kernel), List.mem_of_getElem? (i := 333) (by decide +kernel), List.mem_of_getElem? (i := 334) (by decide +kernel)⟩
theorem lw_p4 : lw_okq (⟨"RowAligner", "keepBest", "()I"⟩, 10) := ⟨⟨by decide +kernel, by decide +kernel⟩, List.mem_of_getElem? (i := 19) (by decide +kernel), List.mem_of_getElem? (i := 337) (by decide +kernel), List.mem_of_getElem? (i := 338) (by decide +kernel)⟩
theorem lw_p5 : lw_okq (⟨"RowAligner", "existingRow", "(I)LRowAligner$Row;"⟩, 10) := ⟨⟨by decide +kernel, by decide +kernel⟩, List.mem_of_getElem? (i := 19) (by decide +kernel), List.mem_of_getElem? (i := 375) (by decide +kernel), List.mem_of_getElem? (i := 376) (by decide +kernel)⟩
theorem lw_p6 : lw_okq (⟨"java/lang/Throwable", "fillInStackTrace", "(I)Ljava/lang/Throwable;"⟩, 6) := ⟨⟨by decide +kernel, by decide +kernel⟩, List.mem_of_getElem? (i := 420) (by decide +kernel), List.mem_of_getElem? (i := 418) (by decide +kernel), List.mem_of_getElem? (i := 419) (by decide +kernel)⟩
theorem lw_p7 : lw_okq (⟨"RowAligner", "refuseUnlaid", "()V"⟩, 10) := ⟨⟨by decide +kernel, by decide +kernel⟩, List.mem_of_getElem? (i := 19) (by decide +kernel), List.mem_of_getElem? (i := 564) (by decide +kernel), List.mem_of_getElem? (i := 565) (by decide +kernel)⟩
theorem lw_p8 : lw_okq (⟨"RowAligner$Laying", "beginsRun", "(I)Z"⟩, 6) := ⟨⟨by decide +kernel, by decide +kernel⟩, List.mem_of_getElem? (i := 183) (by decide +kernel), List.mem_of_getElem? (i := 593) (by decide +kernel), List.mem_of_getElem? (i := 594) (by decide +kernel)⟩
theorem lw_p9 : lw_okq (⟨"RowAligner$WayCounter", "countFrom", "(LRowAligner$Outlook;III)J"⟩, 1) := ⟨⟨by decide +kernel, by decide +kernel⟩, List.mem_of_getElem? (i := 214) (by decide +kernel), List.mem_of_getElem? (i := 637) (by decide +kernel), List.mem_of_getElem? (i := 638) (by decide +kernel)⟩
theorem lw_p10 : lw_okq (⟨"RowAligner$CrossingFinder", "clearPlacesOf", "(I)V"⟩, 2) := ⟨⟨by decide +kernel, by decide +kernel⟩, List.mem_of_getElem? (i := 225) (by decide +kernel), List.mem_of_getElem? (i := 661) (by decide +kernel), List.mem_of_getElem? (i := 662) (by decide +kernel)⟩
theorem lw_p11 : lw_okq (⟨"RowAligner$CrossingFinder", "isReached", "(II)Z"⟩, 2) := ⟨⟨by decide +kernel, by decide +kernel⟩, List.mem_of_getElem? (i := 225) (by decide +kernel), List.mem_of_getElem? (i := 666) (by decide +kernel), List.mem_of_getElem? (i := 667) (by decide +kernel)⟩
theorem lw_p12 : lw_okq (⟨"RowAligner$CrossingFinder", "goOnFrom", "(LRowAligner$Search;II)V"⟩, 2) := ⟨⟨by decide +kernel, by decide +kernel⟩, List.mem_of_getElem? (i := 225) (by decide +kernel), List.mem_of_getElem? (i := 670) (by decide +kernel), List.mem_of_getElem? (i := 671) (by decide +kernel)⟩
theorem lw_p13 : lw_okq (⟨"RowAligner$CrossingFinder", "goOnBehind", "(LRowAligner$Outlook;III)V"⟩, 2) := ⟨⟨by decide +kernel, by decide +kernel⟩, List.mem_of_getElem? (i := 225) (by decide +kernel), List.mem_of_getElem? (i := 675) (by decide +kernel), List.mem_of_getElem? (i := 676) (by decide +kernel)⟩
theorem lw_p14 : lw_okq (⟨"RowAlignerModel", "setScores", "(II)V"⟩, 18) := ⟨⟨by decide +kernel, by decide +kernel⟩, List.mem_of_getElem? (i := 715) (by decide +kernel), List.mem_of_getElem? (i := 721) (by decide +kernel), List.mem_of_getElem? (i := 722) (by decide +kernel)⟩
theorem lw_p15 : lw_okq (⟨"RowAlignerModel", "noRow", "(I)Z"⟩, 18) := ⟨⟨by decide +kernel, by decide +kernel⟩, List.mem_of_getElem? (i := 715) (by decide +kernel), List.mem_of_getElem? (i := 788) (by decide +kernel), List.mem_of_getElem? (i := 789) (by decide +kernel)⟩
def lw_privs_1 : List (MethodName × Nat) := [(⟨"RowAligner$Search", "fill", "()V"⟩, 8), (⟨"RowAligner$Search", "startAtFirstBest", "()V"⟩, 8), (⟨"RowAligner$Search", "startAt", "(II)V"⟩, 8), (⟨"RowAligner$Search", "worthFrom", "(II)I"⟩, 8), (⟨"RowAligner", "keepBest", "()I"⟩, 10), (⟨"RowAligner", "existingRow", "(I)LRowAligner$Row;"⟩, 10), (⟨"java/lang/Throwable", "fillInStackTrace", "(I)Ljava/lang/Throwable;"⟩, 6), (⟨"RowAligner", "refuseUnlaid", "()V"⟩, 10), (⟨"RowAligner$Laying", "beginsRun", "(I)Z"⟩, 6), (⟨"RowAligner$WayCounter", "countFrom", "(LRowAligner$Outlook;III)J"⟩, 1), (⟨"RowAligner$CrossingFinder", "clearPlacesOf", "(I)V"⟩, 2), (⟨"RowAligner$CrossingFinder", "isReached", "(II)Z"⟩, 2), (⟨"RowAligner$CrossingFinder", "goOnFrom", "(LRowAligner$Search;II)V"⟩, 2), (⟨"RowAligner$CrossingFinder", "goOnBehind", "(LRowAligner$Outlook;III)V"⟩, 2), (⟨"RowAlignerModel", "setScores", "(II)V"⟩, 18), (⟨"RowAlignerModel", "noRow", "(I)Z"⟩, 18)]
theorem lw_r1 : ∀ q ∈ lw_privs_1, lw_okq q := List.forall_mem_cons.mpr ⟨lw_p0, List.forall_mem_cons.mpr ⟨lw_p1, List.forall_mem_cons.mpr ⟨lw_p2, List.forall_mem_cons.mpr ⟨lw_p3, List.forall_mem_cons.mpr ⟨lw_p4, List.forall_mem_cons.mpr ⟨lw_p5, List.forall_mem_cons.mpr ⟨lw_p6, List.forall_mem_cons.mpr ⟨lw_p7, List.forall_mem_cons.mpr ⟨lw_p8, List.forall_mem_cons.mpr ⟨lw_p9, List.forall_mem_cons.mpr ⟨lw_p10, List.forall_mem_cons.mpr ⟨lw_p11, List.forall_mem_cons.mpr ⟨lw_p12, List.forall_mem_cons.mpr ⟨lw_p13, List.forall_mem_cons.mpr ⟨lw_p14, List.forall_mem_cons.mpr ⟨lw_p15, fun _ h => absurd h List.not_mem_nil⟩⟩⟩⟩⟩⟩⟩⟩⟩⟩⟩⟩⟩⟩⟩⟩
theorem lw_p16 : lw_okq (⟨"RowAlignerModel", "reckonAll", "()V"⟩, 18) := ⟨⟨by decide +kernel, by decide +kernel⟩, List.mem_of_getElem? (i := 715) (by decide +kernel), List.mem_of_getElem? (i := 828) (by decide +kernel), List.mem_of_getElem? (i := 829) (by decide +kernel)⟩
theorem lw_p17 : lw_okq (⟨"RowAlignerModel", "reckon", "(III)V"⟩, 18) := ⟨⟨by decide +kernel, by decide +kernel⟩, List.mem_of_getElem? (i := 715) (by decide +kernel), List.mem_of_getElem? (i := 832) (by decide +kernel), List.mem_of_getElem? (i := 833) (by decide +kernel)⟩
theorem lw_p18 : lw_okq (⟨"RowAlignerModel", "scoreAt", "(II)I"⟩, 18) := ⟨⟨by decide +kernel, by decide +kernel⟩, List.mem_of_getElem? (i := 715) (by decide +kernel), List.mem_of_getElem? (i := 840) (by decide +kernel), List.mem_of_getElem? (i := 841) (by decide +kernel)⟩
theorem lw_p19 : lw_okq (⟨"RowAlignerModel", "offer", "(III)V"⟩, 18) := ⟨⟨by decide +kernel, by decide +kernel⟩, List.mem_of_getElem? (i := 715) (by decide +kernel), List.mem_of_getElem? (i := 844) (by decide +kernel), List.mem_of_getElem? (i := 845) (by decide +kernel)⟩
theorem lw_p20 : lw_okq (⟨"RowAlignerModel", "gap", "(ZIII)I"⟩, 18) := ⟨⟨by decide +kernel, by decide +kernel⟩, List.mem_of_getElem? (i := 715) (by decide +kernel), List.mem_of_getElem? (i := 848) (by decide +kernel), List.mem_of_getElem? (i := 849) (by decide +kernel)⟩
theorem lw_p21 : lw_okq (⟨"RowAlignerModel", "follow", "(II)V"⟩, 18) := ⟨⟨by decide +kernel, by decide +kernel⟩, List.mem_of_getElem? (i := 715) (by decide +kernel), List.mem_of_getElem? (i := 852) (by decide +kernel), List.mem_of_getElem? (i := 853) (by decide +kernel)⟩
theorem lw_p22 : lw_okq (⟨"RowAlignerModel", "isGoal", "(III)Z"⟩, 18) := ⟨⟨by decide +kernel, by decide +kernel⟩, List.mem_of_getElem? (i := 715) (by decide +kernel), List.mem_of_getElem? (i := 856) (by decide +kernel), List.mem_of_getElem? (i := 857) (by decide +kernel)⟩
theorem lw_p23 : lw_okq (⟨"RowAlignerModel", "put", "(II)V"⟩, 18) := ⟨⟨by decide +kernel, by decide +kernel⟩, List.mem_of_getElem? (i := 715) (by decide +kernel), List.mem_of_getElem? (i := 860) (by decide +kernel), List.mem_of_getElem? (i := 861) (by decide +kernel)⟩
theorem lw_p24 : lw_okq (⟨"RowAlignerModel", "gapOfOne", "(III)I"⟩, 18) := ⟨⟨by decide +kernel, by decide +kernel⟩, List.mem_of_getElem? (i := 715) (by decide +kernel), List.mem_of_getElem? (i := 864) (by decide +kernel), List.mem_of_getElem? (i := 865) (by decide +kernel)⟩
theorem lw_p25 : lw_okq (⟨"RowAlignerModel", "gapHere", "(ZIII)I"⟩, 18) := ⟨⟨by decide +kernel, by decide +kernel⟩, List.mem_of_getElem? (i := 715) (by decide +kernel), List.mem_of_getElem? (i := 868) (by decide +kernel), List.mem_of_getElem? (i := 869) (by decide +kernel)⟩
theorem lw_p26 : lw_okq (⟨"RowAlignerModel", "runsNow", "()I"⟩, 18) := ⟨⟨by decide +kernel, by decide +kernel⟩, List.mem_of_getElem? (i := 715) (by decide +kernel), List.mem_of_getElem? (i := 892) (by decide +kernel), List.mem_of_getElem? (i := 893) (by decide +kernel)⟩
theorem lw_p27 : lw_okq (⟨"RowAlignerModel", "samePairs", "()I"⟩, 18) := ⟨⟨by decide +kernel, by decide +kernel⟩, List.mem_of_getElem? (i := 715) (by decide +kernel), List.mem_of_getElem? (i := 896) (by decide +kernel), List.mem_of_getElem? (i := 897) (by decide +kernel)⟩
theorem lw_p28 : lw_okq (⟨"RowAlignerModel", "gapsNow", "()I"⟩, 18) := ⟨⟨by decide +kernel, by decide +kernel⟩, List.mem_of_getElem? (i := 715) (by decide +kernel), List.mem_of_getElem? (i := 900) (by decide +kernel), List.mem_of_getElem? (i := 901) (by decide +kernel)⟩
theorem lw_p29 : lw_okq (⟨"RowAlignerModel", "lettersInGaps", "()I"⟩, 18) := ⟨⟨by decide +kernel, by decide +kernel⟩, List.mem_of_getElem? (i := 715) (by decide +kernel), List.mem_of_getElem? (i := 904) (by decide +kernel), List.mem_of_getElem? (i := 905) (by decide +kernel)⟩
theorem lw_p30 : lw_okq (⟨"RowAlignerModel", "leadFrom", "(III)V"⟩, 18) := ⟨⟨by decide +kernel, by decide +kernel⟩, List.mem_of_getElem? (i := 715) (by decide +kernel), List.mem_of_getElem? (i := 921) (by decide +kernel), List.mem_of_getElem? (i := 922) (by decide +kernel)⟩
theorem lw_p31 : lw_okq (⟨"RowAlignerModel", "lead", "(IIII)V"⟩, 18) := ⟨⟨by decide +kernel, by decide +kernel⟩, List.mem_of_getElem? (i := 715) (by decide +kernel), List.mem_of_getElem? (i := 925) (by decide +kernel), List.mem_of_getElem? (i := 926) (by decide +kernel)⟩
def lw_privs_2 : List (MethodName × Nat) := [(⟨"RowAlignerModel", "reckonAll", "()V"⟩, 18), (⟨"RowAlignerModel", "reckon", "(III)V"⟩, 18), (⟨"RowAlignerModel", "scoreAt", "(II)I"⟩, 18), (⟨"RowAlignerModel", "offer", "(III)V"⟩, 18), (⟨"RowAlignerModel", "gap", "(ZIII)I"⟩, 18), (⟨"RowAlignerModel", "follow", "(II)V"⟩, 18), (⟨"RowAlignerModel", "isGoal", "(III)Z"⟩, 18), (⟨"RowAlignerModel", "put", "(II)V"⟩, 18), (⟨"RowAlignerModel", "gapOfOne", "(III)I"⟩, 18), (⟨"RowAlignerModel", "gapHere", "(ZIII)I"⟩, 18), (⟨"RowAlignerModel", "runsNow", "()I"⟩, 18), (⟨"RowAlignerModel", "samePairs", "()I"⟩, 18), (⟨"RowAlignerModel", "gapsNow", "()I"⟩, 18), (⟨"RowAlignerModel", "lettersInGaps", "()I"⟩, 18), (⟨"RowAlignerModel", "leadFrom", "(III)V"⟩, 18), (⟨"RowAlignerModel", "lead", "(IIII)V"⟩, 18)]
theorem lw_r2 : ∀ q ∈ lw_privs_2, lw_okq q := List.forall_mem_cons.mpr ⟨lw_p16, List.forall_mem_cons.mpr ⟨lw_p17, List.forall_mem_cons.mpr ⟨lw_p18, List.forall_mem_cons.mpr ⟨lw_p19, List.forall_mem_cons.mpr ⟨lw_p20, List.forall_mem_cons.mpr ⟨lw_p21, List.forall_mem_cons.mpr ⟨lw_p22, List.forall_mem_cons.mpr ⟨lw_p23, List.forall_mem_cons.mpr ⟨lw_p24, List.forall_mem_cons.mpr ⟨lw_p25, List.forall_mem_cons.mpr ⟨lw_p26, List.forall_mem_cons.mpr ⟨lw_p27, List.forall_mem_cons.mpr ⟨lw_p28, List.forall_mem_cons.mpr ⟨lw_p29, List.forall_mem_cons.mpr ⟨lw_p30, List.forall_mem_cons.mpr ⟨lw_p31, fun _ h => absurd h List.not_mem_nil⟩⟩⟩⟩⟩⟩⟩⟩⟩⟩⟩⟩⟩⟩⟩⟩
theorem lw_p32 : lw_okq (⟨"RowAlignerModel", "crosses", "(III)Z"⟩, 18) := ⟨⟨by decide +kernel, by decide +kernel⟩, List.mem_of_getElem? (i := 715) (by decide +kernel), List.mem_of_getElem? (i := 929) (by decide +kernel), List.mem_of_getElem? (i := 930) (by decide +kernel)⟩
theorem lw_p33 : lw_okq (⟨"RowAlignerModel", "crossesGap", "(IIIZ)Z"⟩, 18) := ⟨⟨by decide +kernel, by decide +kernel⟩, List.mem_of_getElem? (i := 715) (by decide +kernel), List.mem_of_getElem? (i := 933) (by decide +kernel), List.mem_of_getElem? (i := 934) (by decide +kernel)⟩
def lw_privs_3 : List (MethodName × Nat) := [(⟨"RowAlignerModel", "crosses", "(III)Z"⟩, 18), (⟨"RowAlignerModel", "crossesGap", "(IIIZ)Z"⟩, 18)]
theorem lw_r3 : ∀ q ∈ lw_privs_3, lw_okq q := List.forall_mem_cons.mpr ⟨lw_p32, List.forall_mem_cons.mpr ⟨lw_p33, fun _ h => absurd h List.not_mem_nil⟩⟩
def lw_privs : List (MethodName × Nat) := lw_privs_1 ++ (lw_privs_2 ++ (lw_privs_3))
def lw_tbl : List Cond := k2_sels lw_privs ++ tables_1
theorem lw_privs_ok : ∀ q ∈ lw_privs, lw_okq q := by
  show ∀ q ∈ lw_privs_1 ++ (lw_privs_2 ++ (lw_privs_3)), lw_okq q
  exact List.forall_mem_append.mpr ⟨lw_r1, List.forall_mem_append.mpr ⟨lw_r2, lw_r3⟩⟩

abbrev R_Ra : String := "RowAligner"
def F_Ra : u_T := fun k => match k with
  | 0 => ("RowAligner", "ground", "LRowAligner$Ground;", true)
  | 1 => ("RowAligner", "search", "LRowAligner$Search;", true)
  | 2 => ("RowAligner", "laying", "LRowAligner$Laying;", true)
  | 3 => ("RowAligner", "wayCounter", "LRowAligner$WayCounter;", true)
  | 4 => ("RowAligner", "crossingFinder", "LRowAligner$CrossingFinder;", true)
  | 5 => ("RowAligner", "draft", "LRowAligner$Draft;", true)
  | 6 => ("RowAligner", "laid", "Z", false)
  | 7 => ("RowAligner", "waysAreCounted", "Z", false)
  | 8 => ("RowAligner", "crossingsAreFound", "Z", false)
  | _ => ("RowAligner", "countedWays", "J", false)
def t_Ra : Nat → FieldType := fun k => match k with
  | 0 => .object "RowAligner$Ground"
  | 1 => .object "RowAligner$Search"
  | 2 => .object "RowAligner$Laying"
  | 3 => .object "RowAligner$WayCounter"
  | 4 => .object "RowAligner$CrossingFinder"
  | 5 => .object "RowAligner$Draft"
  | 6 => .boolean
  | 7 => .boolean
  | 8 => .boolean
  | _ => .long
theorem n_Ra : ∀ a, a < 10 → ∀ b, b < 10 → a ≠ b → (F_Ra a).2.1 ≠ (F_Ra b).2.1 := by decide +kernel
theorem t_Ra_ok : ∀ k, k < 10 → parseFieldDescriptor (F_Ra k).2.2.1 = some (t_Ra k) := by decide +kernel
abbrev R_Gr : String := "RowAligner$Ground"
def F_Gr : u_T := fun k => match k with
  | 0 => ("RowAligner$Ground", "a", "LRowAligner$Row;", true)
  | 1 => ("RowAligner$Ground", "b", "LRowAligner$Row;", true)
  | _ => ("RowAligner$Ground", "prices", "LRowAligner$Prices;", true)
def t_Gr : Nat → FieldType := fun k => match k with
  | 0 => .object "RowAligner$Row"
  | 1 => .object "RowAligner$Row"
  | _ => .object "RowAligner$Prices"
theorem n_Gr : ∀ a, a < 3 → ∀ b, b < 3 → a ≠ b → (F_Gr a).2.1 ≠ (F_Gr b).2.1 := by decide +kernel
theorem t_Gr_ok : ∀ k, k < 3 → parseFieldDescriptor (F_Gr k).2.2.1 = some (t_Gr k) := by decide +kernel
abbrev R_Ro : String := "RowAligner$Row"
def F_Ro : u_T := fun k => match k with
  | 0 => ("RowAligner$Row", "letters", "[I", true)
  | _ => ("RowAligner$Row", "length", "I", false)
def t_Ro : Nat → FieldType := fun k => match k with
  | 0 => .array .int
  | _ => .int
theorem n_Ro : ∀ a, a < 2 → ∀ b, b < 2 → a ≠ b → (F_Ro a).2.1 ≠ (F_Ro b).2.1 := by decide +kernel
theorem t_Ro_ok : ∀ k, k < 2 → parseFieldDescriptor (F_Ro k).2.2.1 = some (t_Ro k) := by decide +kernel
abbrev R_Pr : String := "RowAligner$Prices"
def F_Pr : u_T := fun k => match k with
  | 0 => ("RowAligner$Prices", "pairs", "[I", true)
  | 1 => ("RowAligner$Prices", "open", "I", false)
  | _ => ("RowAligner$Prices", "more", "I", false)
def t_Pr : Nat → FieldType := fun k => match k with
  | 0 => .array .int
  | 1 => .int
  | _ => .int
theorem n_Pr : ∀ a, a < 3 → ∀ b, b < 3 → a ≠ b → (F_Pr a).2.1 ≠ (F_Pr b).2.1 := by decide +kernel
theorem t_Pr_ok : ∀ k, k < 3 → parseFieldDescriptor (F_Pr k).2.2.1 = some (t_Pr k) := by decide +kernel
abbrev R_Se : String := "RowAligner$Search"
def F_Se : u_T := fun k => match k with
  | 0 => ("RowAligner$Search", "ground", "LRowAligner$Ground;", true)
  | 1 => ("RowAligner$Search", "outlook", "LRowAligner$Outlook;", true)
  | 2 => ("RowAligner$Search", "rest", "[I", true)
  | 3 => ("RowAligner$Search", "free", "I", false)
  | 4 => ("RowAligner$Search", "ofParts", "Z", false)
  | 5 => ("RowAligner$Search", "best", "I", false)
  | 6 => ("RowAligner$Search", "startInA", "I", false)
  | _ => ("RowAligner$Search", "startInB", "I", false)
def t_Se : Nat → FieldType := fun k => match k with
  | 0 => .object "RowAligner$Ground"
  | 1 => .object "RowAligner$Outlook"
  | 2 => .array .int
  | 3 => .int
  | 4 => .boolean
  | 5 => .int
  | 6 => .int
  | _ => .int
theorem n_Se : ∀ a, a < 8 → ∀ b, b < 8 → a ≠ b → (F_Se a).2.1 ≠ (F_Se b).2.1 := by decide +kernel
theorem t_Se_ok : ∀ k, k < 8 → parseFieldDescriptor (F_Se k).2.2.1 = some (t_Se k) := by decide +kernel
abbrev R_Ou : String := "RowAligner$Outlook"
def F_Ou : u_T := fun k => match k with
  | 0 => ("RowAligner$Outlook", "end", "I", false)
  | 1 => ("RowAligner$Outlook", "pair", "I", false)
  | 2 => ("RowAligner$Outlook", "one", "I", false)
  | 3 => ("RowAligner$Outlook", "other", "I", false)
  | 4 => ("RowAligner$Outlook", "openOne", "I", false)
  | _ => ("RowAligner$Outlook", "openOther", "I", false)
def t_Ou : Nat → FieldType := fun k => match k with
  | 0 => .int
  | 1 => .int
  | 2 => .int
  | 3 => .int
  | 4 => .int
  | _ => .int
theorem n_Ou : ∀ a, a < 6 → ∀ b, b < 6 → a ≠ b → (F_Ou a).2.1 ≠ (F_Ou b).2.1 := by decide +kernel
theorem t_Ou_ok : ∀ k, k < 6 → parseFieldDescriptor (F_Ou k).2.2.1 = some (t_Ou k) := by decide +kernel
abbrev R_La : String := "RowAligner$Laying"
def F_La : u_T := fun k => match k with
  | 0 => ("RowAligner$Laying", "steps", "[I", true)
  | 1 => ("RowAligner$Laying", "length", "I", false)
  | 2 => ("RowAligner$Laying", "startInA", "I", false)
  | 3 => ("RowAligner$Laying", "startInB", "I", false)
  | 4 => ("RowAligner$Laying", "endInA", "I", false)
  | _ => ("RowAligner$Laying", "endInB", "I", false)
def t_La : Nat → FieldType := fun k => match k with
  | 0 => .array .int
  | 1 => .int
  | 2 => .int
  | 3 => .int
  | 4 => .int
  | _ => .int
theorem n_La : ∀ a, a < 6 → ∀ b, b < 6 → a ≠ b → (F_La a).2.1 ≠ (F_La b).2.1 := by decide +kernel
theorem t_La_ok : ∀ k, k < 6 → parseFieldDescriptor (F_La k).2.2.1 = some (t_La k) := by decide +kernel
abbrev R_Wc : String := "RowAligner$WayCounter"
def F_Wc : u_T := fun k => match k with
  | _ => ("RowAligner$WayCounter", "counts", "[J", true)
def t_Wc : Nat → FieldType := fun k => match k with
  | _ => .array .long
theorem n_Wc : ∀ a, a < 1 → ∀ b, b < 1 → a ≠ b → (F_Wc a).2.1 ≠ (F_Wc b).2.1 := by decide +kernel
theorem t_Wc_ok : ∀ k, k < 1 → parseFieldDescriptor (F_Wc k).2.2.1 = some (t_Wc k) := by decide +kernel
abbrev R_Cf : String := "RowAligner$CrossingFinder"
def F_Cf : u_T := fun k => match k with
  | 0 => ("RowAligner$CrossingFinder", "least", "[I", true)
  | _ => ("RowAligner$CrossingFinder", "reached", "[Z", true)
def t_Cf : Nat → FieldType := fun k => match k with
  | 0 => .array .int
  | _ => .array .boolean
theorem n_Cf : ∀ a, a < 2 → ∀ b, b < 2 → a ≠ b → (F_Cf a).2.1 ≠ (F_Cf b).2.1 := by decide +kernel
theorem t_Cf_ok : ∀ k, k < 2 → parseFieldDescriptor (F_Cf k).2.2.1 = some (t_Cf k) := by decide +kernel
abbrev R_Dr : String := "RowAligner$Draft"
def F_Dr : u_T := fun k => match k with
  | 0 => ("RowAligner$Draft", "drawn", "[I", true)
  | _ => ("RowAligner$Draft", "length", "I", false)
def t_Dr : Nat → FieldType := fun k => match k with
  | 0 => .array .int
  | _ => .int
theorem n_Dr : ∀ a, a < 2 → ∀ b, b < 2 → a ≠ b → (F_Dr a).2.1 ≠ (F_Dr b).2.1 := by decide +kernel
theorem t_Dr_ok : ∀ k, k < 2 → parseFieldDescriptor (F_Dr k).2.2.1 = some (t_Dr k) := by decide +kernel
abbrev R_Mo : String := "RowAlignerModel"
def F_Mo : u_T := fun k => match k with
  | 0 => ("RowAlignerModel", "code", "I", false)
  | 1 => ("RowAlignerModel", "letters", "[I", true)
  | 2 => ("RowAlignerModel", "sizes", "[I", true)
  | 3 => ("RowAlignerModel", "scores", "[I", true)
  | 4 => ("RowAlignerModel", "open", "I", false)
  | 5 => ("RowAlignerModel", "more", "I", false)
  | 6 => ("RowAlignerModel", "laid", "Z", false)
  | 7 => ("RowAlignerModel", "ofParts", "Z", false)
  | 8 => ("RowAlignerModel", "freeEnds", "I", false)
  | 9 => ("RowAlignerModel", "steps", "[I", true)
  | 10 => ("RowAlignerModel", "stepCount", "I", false)
  | 11 => ("RowAlignerModel", "begins", "[I", true)
  | 12 => ("RowAlignerModel", "ends", "[I", true)
  | 13 => ("RowAlignerModel", "best", "[I", true)
  | 14 => ("RowAlignerModel", "ways", "[J", true)
  | 15 => ("RowAlignerModel", "led", "[I", true)
  | 16 => ("RowAlignerModel", "draft", "[I", true)
  | _ => ("RowAlignerModel", "drawn", "I", false)
def t_Mo : Nat → FieldType := fun k => match k with
  | 0 => .int
  | 1 => .array .int
  | 2 => .array .int
  | 3 => .array .int
  | 4 => .int
  | 5 => .int
  | 6 => .boolean
  | 7 => .boolean
  | 8 => .int
  | 9 => .array .int
  | 10 => .int
  | 11 => .array .int
  | 12 => .array .int
  | 13 => .array .int
  | 14 => .array .long
  | 15 => .array .int
  | 16 => .array .int
  | _ => .int
theorem n_Mo : ∀ a, a < 18 → ∀ b, b < 18 → a ≠ b → (F_Mo a).2.1 ≠ (F_Mo b).2.1 := by decide +kernel
theorem t_Mo_ok : ∀ k, k < 18 → parseFieldDescriptor (F_Mo k).2.2.1 = some (t_Mo k) := by decide +kernel
abbrev vwCl : List vw_C := [("RowAligner", F_Ra, 10), ("RowAligner$Ground", F_Gr, 3), ("RowAligner$Row", F_Ro, 2), ("RowAligner$Prices", F_Pr, 3), ("RowAligner$Search", F_Se, 8), ("RowAligner$Outlook", F_Ou, 6), ("RowAligner$Laying", F_La, 6), ("RowAligner$WayCounter", F_Wc, 1), ("RowAligner$CrossingFinder", F_Cf, 2), ("RowAligner$Draft", F_Dr, 2), ("RowAlignerModel", F_Mo, 18)]
abbrev y_Ra_init : MethodName := ⟨"RowAligner", "<init>", "()V"⟩
abbrev y_Gr_init : MethodName := ⟨"RowAligner$Ground", "<init>", "()V"⟩
abbrev y_Ro_init : MethodName := ⟨"RowAligner$Row", "<init>", "()V"⟩
abbrev y_Pr_init : MethodName := ⟨"RowAligner$Prices", "<init>", "()V"⟩
abbrev y_Pr_setAllPairs : MethodName := ⟨"RowAligner$Prices", "setAllPairs", "(II)V"⟩
abbrev y_Pr_setPair : MethodName := ⟨"RowAligner$Prices", "setPair", "(III)V"⟩
abbrev y_Se_init : MethodName := ⟨"RowAligner$Search", "<init>", "(LRowAligner$Ground;)V"⟩
abbrev y_Ou_init : MethodName := ⟨"RowAligner$Outlook", "<init>", "()V"⟩
abbrev y_La_init : MethodName := ⟨"RowAligner$Laying", "<init>", "()V"⟩
abbrev y_Wc_init : MethodName := ⟨"RowAligner$WayCounter", "<init>", "()V"⟩
abbrev y_Cf_init : MethodName := ⟨"RowAligner$CrossingFinder", "<init>", "()V"⟩
abbrev y_Dr_init : MethodName := ⟨"RowAligner$Draft", "<init>", "()V"⟩
abbrev y_Ra_parts : MethodName := ⟨"RowAligner", "parts", "()I"⟩
abbrev y_Se_searchParts : MethodName := ⟨"RowAligner$Search", "searchParts", "()V"⟩
abbrev y_Se_fill : MethodName := ⟨"RowAligner$Search", "fill", "()V"⟩
abbrev y_Se_lookFrom : MethodName := ⟨"RowAligner$Search", "lookFrom", "(II)V"⟩
abbrev y_Gr_pairScore : MethodName := ⟨"RowAligner$Ground", "pairScore", "(II)I"⟩
abbrev y_Pr_ofPair : MethodName := ⟨"RowAligner$Prices", "ofPair", "(II)I"⟩
abbrev y_Ra_cell : MethodName := ⟨"RowAligner", "cell", "(III)I"⟩
abbrev y_Gr_isOneFree : MethodName := ⟨"RowAligner$Ground", "isOneFree", "(II)Z"⟩
abbrev y_Gr_isOtherFree : MethodName := ⟨"RowAligner$Ground", "isOtherFree", "(II)Z"⟩
abbrev y_Ou_greatestWorth : MethodName := ⟨"RowAligner$Outlook", "greatestWorth", "(I)I"⟩
abbrev y_Se_startAtFirstBest : MethodName := ⟨"RowAligner$Search", "startAtFirstBest", "()V"⟩
abbrev y_Se_startAt : MethodName := ⟨"RowAligner$Search", "startAt", "(II)V"⟩
abbrev y_Se_worthFrom : MethodName := ⟨"RowAligner$Search", "worthFrom", "(II)I"⟩
abbrev y_Ra_keepBest : MethodName := ⟨"RowAligner", "keepBest", "()I"⟩
abbrev y_La_follow : MethodName := ⟨"RowAligner$Laying", "follow", "(LRowAligner$Search;)V"⟩
abbrev y_Ou_firstBestStep : MethodName := ⟨"RowAligner$Outlook", "firstBestStep", "(I)I"⟩
abbrev y_Ou_worthThrough : MethodName := ⟨"RowAligner$Outlook", "worthThrough", "(II)I"⟩
abbrev y_Ra_lettersOfA : MethodName := ⟨"RowAligner", "lettersOfA", "(I)I"⟩
abbrev y_Ra_lettersOfB : MethodName := ⟨"RowAligner", "lettersOfB", "(I)I"⟩
abbrev y_Ra_wipe : MethodName := ⟨"RowAligner", "wipe", "()I"⟩
abbrev y_Lw_type : MethodName := ⟨"RowAlignerLaw", "type", "(LRowAligner;IJI[J)I"⟩
abbrev y_Ra_type : MethodName := ⟨"RowAligner", "type", "(IJI)I"⟩
abbrev y_Ra_existingRow : MethodName := ⟨"RowAligner", "existingRow", "(I)LRowAligner$Row;"⟩
abbrev y_Ra_refuseOtherRows : MethodName := ⟨"RowAligner", "refuseOtherRows", "(I)V"⟩
abbrev y_Ra_areCharacters : MethodName := ⟨"RowAligner", "areCharacters", "(JI)Z"⟩
abbrev y_Ra_characterAt : MethodName := ⟨"RowAligner", "characterAt", "(JI)I"⟩
abbrev y_Ro_append : MethodName := ⟨"RowAligner$Row", "append", "(I)V"⟩
abbrev y_Lw_cut : MethodName := ⟨"RowAlignerLaw", "cut", "(LRowAligner;II)I"⟩
abbrev y_Ra_cut : MethodName := ⟨"RowAligner", "cut", "(II)V"⟩
abbrev y_Lw_turn : MethodName := ⟨"RowAlignerLaw", "turn", "(LRowAligner;I)I"⟩
abbrev y_Ra_turn : MethodName := ⟨"RowAligner", "turn", "(I)V"⟩
abbrev y_Ro_reverse : MethodName := ⟨"RowAligner$Row", "reverse", "()V"⟩
abbrev y_Lw_letter : MethodName := ⟨"RowAlignerLaw", "letter", "(LRowAligner;II[J)I"⟩
abbrev y_Ra_letter : MethodName := ⟨"RowAligner", "letter", "(II)I"⟩
abbrev y_Lw_size : MethodName := ⟨"RowAlignerLaw", "size", "(LRowAligner;I[J)I"⟩
abbrev y_Ra_size : MethodName := ⟨"RowAligner", "size", "(I)I"⟩
abbrev y_Lw_score : MethodName := ⟨"RowAlignerLaw", "score", "(LRowAligner;III)I"⟩
abbrev y_Ra_score : MethodName := ⟨"RowAligner", "score", "(III)V"⟩
abbrev y_Ra_refusePriceBelow : MethodName := ⟨"RowAligner", "refusePriceBelow", "(II)V"⟩
abbrev y_Lw_scores : MethodName := ⟨"RowAlignerLaw", "scores", "(LRowAligner;II)I"⟩
abbrev y_Ra_scores : MethodName := ⟨"RowAligner", "scores", "(II)V"⟩
abbrev y_Lw_costs : MethodName := ⟨"RowAlignerLaw", "costs", "(LRowAligner;II)I"⟩
abbrev y_Ra_costs : MethodName := ⟨"RowAligner", "costs", "(II)V"⟩
abbrev y_Lw_whole : MethodName := ⟨"RowAlignerLaw", "whole", "(LRowAligner;I[J)I"⟩
abbrev y_Ra_whole : MethodName := ⟨"RowAligner", "whole", "(I)I"⟩
abbrev y_Ra_refuseOtherEnds : MethodName := ⟨"RowAligner", "refuseOtherEnds", "(I)V"⟩
abbrev y_Se_searchWhole : MethodName := ⟨"RowAligner$Search", "searchWhole", "(I)V"⟩
abbrev y_Lw_steps : MethodName := ⟨"RowAlignerLaw", "steps", "(LRowAligner;[J)I"⟩
abbrev y_Ra_steps : MethodName := ⟨"RowAligner", "steps", "()I"⟩
abbrev y_Ra_refuseUnlaid : MethodName := ⟨"RowAligner", "refuseUnlaid", "()V"⟩
abbrev y_Lw_step : MethodName := ⟨"RowAlignerLaw", "step", "(LRowAligner;I[J)I"⟩
abbrev y_Ra_step : MethodName := ⟨"RowAligner", "step", "(I)I"⟩
abbrev y_Lw_place : MethodName := ⟨"RowAlignerLaw", "place", "(LRowAligner;IZ[J)I"⟩
abbrev y_Ra_place : MethodName := ⟨"RowAligner", "place", "(IZ)I"⟩
abbrev y_Lw_count : MethodName := ⟨"RowAlignerLaw", "count", "(LRowAligner;I[J)I"⟩
abbrev y_Ra_count : MethodName := ⟨"RowAligner", "count", "(I)I"⟩
abbrev y_La_countRuns : MethodName := ⟨"RowAligner$Laying", "countRuns", "()I"⟩
abbrev y_La_beginsRun : MethodName := ⟨"RowAligner$Laying", "beginsRun", "(I)Z"⟩
abbrev y_La_countSamePairs : MethodName := ⟨"RowAligner$Laying", "countSamePairs", "(LRowAligner$Ground;)I"⟩
abbrev y_La_countGaps : MethodName := ⟨"RowAligner$Laying", "countGaps", "()I"⟩
abbrev y_La_countGapLetters : MethodName := ⟨"RowAligner$Laying", "countGapLetters", "()I"⟩
abbrev y_Lw_run : MethodName := ⟨"RowAlignerLaw", "run", "(LRowAligner;II[J)I"⟩
abbrev y_Ra_run : MethodName := ⟨"RowAligner", "run", "(II)I"⟩
abbrev y_La_startOfRun : MethodName := ⟨"RowAligner$Laying", "startOfRun", "(I)I"⟩
abbrev y_La_lengthOfRunAt : MethodName := ⟨"RowAligner$Laying", "lengthOfRunAt", "(I)I"⟩
abbrev y_Lw_ways : MethodName := ⟨"RowAlignerLaw", "ways", "(LRowAligner;[J)I"⟩
abbrev y_Ra_ways : MethodName := ⟨"RowAligner", "ways", "()J"⟩
abbrev y_Wc_countBest : MethodName := ⟨"RowAligner$WayCounter", "countBest", "(LRowAligner$Search;)J"⟩
abbrev y_Wc_countFrom : MethodName := ⟨"RowAligner$WayCounter", "countFrom", "(LRowAligner$Outlook;III)J"⟩
abbrev y_Se_canStartBestAt : MethodName := ⟨"RowAligner$Search", "canStartBestAt", "(II)Z"⟩
abbrev y_Lw_crossing : MethodName := ⟨"RowAlignerLaw", "crossing", "(LRowAligner;I[J)I"⟩
abbrev y_Ra_crossing : MethodName := ⟨"RowAligner", "crossing", "(I)I"⟩
abbrev y_Cf_findAll : MethodName := ⟨"RowAligner$CrossingFinder", "findAll", "(LRowAligner$Search;)V"⟩
abbrev y_Cf_clearPlacesOf : MethodName := ⟨"RowAligner$CrossingFinder", "clearPlacesOf", "(I)V"⟩
abbrev y_Cf_isReached : MethodName := ⟨"RowAligner$CrossingFinder", "isReached", "(II)Z"⟩
abbrev y_Cf_goOnFrom : MethodName := ⟨"RowAligner$CrossingFinder", "goOnFrom", "(LRowAligner$Search;II)V"⟩
abbrev y_Cf_goOnBehind : MethodName := ⟨"RowAligner$CrossingFinder", "goOnBehind", "(LRowAligner$Outlook;III)V"⟩
abbrev y_Lw_draw : MethodName := ⟨"RowAlignerLaw", "draw", "(LRowAligner;I[J)I"⟩
abbrev y_Ra_draw : MethodName := ⟨"RowAligner", "draw", "(I)I"⟩
abbrev y_Dr_append : MethodName := ⟨"RowAligner$Draft", "append", "(I)V"⟩
abbrev y_Lw_worth : MethodName := ⟨"RowAlignerLaw", "worth", "(LRowAligner;I[J)I"⟩
abbrev y_Ra_worth : MethodName := ⟨"RowAligner", "worth", "(I)I"⟩
abbrev y_Dr_isWholeLaying : MethodName := ⟨"RowAligner$Draft", "isWholeLaying", "(LRowAligner$Ground;)Z"⟩
abbrev y_Dr_sumUp : MethodName := ⟨"RowAligner$Draft", "sumUp", "(LRowAligner$Ground;I)I"⟩
abbrev y_Mo_init : MethodName := ⟨"RowAlignerModel", "<init>", "()V"⟩
abbrev y_Mo_setScores : MethodName := ⟨"RowAlignerModel", "setScores", "(II)V"⟩
abbrev y_Mo_thrown : MethodName := ⟨"RowAlignerModel", "thrown", "()I"⟩
abbrev y_Mo_type : MethodName := ⟨"RowAlignerModel", "type", "(IJI)I"⟩
abbrev y_Mo_noRow : MethodName := ⟨"RowAlignerModel", "noRow", "(I)Z"⟩
abbrev y_Mo_cut : MethodName := ⟨"RowAlignerModel", "cut", "(II)V"⟩
abbrev y_Mo_turn : MethodName := ⟨"RowAlignerModel", "turn", "(I)V"⟩
abbrev y_Mo_letter : MethodName := ⟨"RowAlignerModel", "letter", "(II)I"⟩
abbrev y_Mo_size : MethodName := ⟨"RowAlignerModel", "size", "(I)I"⟩
abbrev y_Mo_score : MethodName := ⟨"RowAlignerModel", "score", "(III)V"⟩
abbrev y_Mo_isIn : MethodName := ⟨"RowAlignerModel", "isIn", "(III)Z"⟩
abbrev y_Mo_scores : MethodName := ⟨"RowAlignerModel", "scores", "(II)V"⟩
abbrev y_Mo_costs : MethodName := ⟨"RowAlignerModel", "costs", "(II)V"⟩
abbrev y_Mo_whole : MethodName := ⟨"RowAlignerModel", "whole", "(I)I"⟩
abbrev y_Mo_reckonAll : MethodName := ⟨"RowAlignerModel", "reckonAll", "()V"⟩
abbrev y_Mo_reckon : MethodName := ⟨"RowAlignerModel", "reckon", "(III)V"⟩
abbrev y_Mo_at : MethodName := ⟨"RowAlignerModel", "at", "(III)I"⟩
abbrev y_Mo_scoreAt : MethodName := ⟨"RowAlignerModel", "scoreAt", "(II)I"⟩
abbrev y_Mo_offer : MethodName := ⟨"RowAlignerModel", "offer", "(III)V"⟩
abbrev y_Mo_gap : MethodName := ⟨"RowAlignerModel", "gap", "(ZIII)I"⟩
abbrev y_Mo_follow : MethodName := ⟨"RowAlignerModel", "follow", "(II)V"⟩
abbrev y_Mo_isGoal : MethodName := ⟨"RowAlignerModel", "isGoal", "(III)Z"⟩
abbrev y_Mo_put : MethodName := ⟨"RowAlignerModel", "put", "(II)V"⟩
abbrev y_Mo_gapOfOne : MethodName := ⟨"RowAlignerModel", "gapOfOne", "(III)I"⟩
abbrev y_Mo_gapHere : MethodName := ⟨"RowAlignerModel", "gapHere", "(ZIII)I"⟩
abbrev y_Mo_parts : MethodName := ⟨"RowAlignerModel", "parts", "()I"⟩
abbrev y_Mo_steps : MethodName := ⟨"RowAlignerModel", "steps", "()I"⟩
abbrev y_Mo_step : MethodName := ⟨"RowAlignerModel", "step", "(I)I"⟩
abbrev y_Mo_place : MethodName := ⟨"RowAlignerModel", "place", "(IZ)I"⟩
abbrev y_Mo_count : MethodName := ⟨"RowAlignerModel", "count", "(I)I"⟩
abbrev y_Mo_runsNow : MethodName := ⟨"RowAlignerModel", "runsNow", "()I"⟩
abbrev y_Mo_samePairs : MethodName := ⟨"RowAlignerModel", "samePairs", "()I"⟩
abbrev y_Mo_gapsNow : MethodName := ⟨"RowAlignerModel", "gapsNow", "()I"⟩
abbrev y_Mo_lettersInGaps : MethodName := ⟨"RowAlignerModel", "lettersInGaps", "()I"⟩
abbrev y_Mo_run : MethodName := ⟨"RowAlignerModel", "run", "(II)I"⟩
abbrev y_Mo_ways : MethodName := ⟨"RowAlignerModel", "ways", "()J"⟩
abbrev y_Mo_crossing : MethodName := ⟨"RowAlignerModel", "crossing", "(I)I"⟩
abbrev y_Mo_leadFrom : MethodName := ⟨"RowAlignerModel", "leadFrom", "(III)V"⟩
abbrev y_Mo_lead : MethodName := ⟨"RowAlignerModel", "lead", "(IIII)V"⟩
abbrev y_Mo_crosses : MethodName := ⟨"RowAlignerModel", "crosses", "(III)Z"⟩
abbrev y_Mo_crossesGap : MethodName := ⟨"RowAlignerModel", "crossesGap", "(IIIZ)Z"⟩
abbrev y_Mo_draw : MethodName := ⟨"RowAlignerModel", "draw", "(I)I"⟩
abbrev y_Mo_wipe : MethodName := ⟨"RowAlignerModel", "wipe", "()I"⟩
abbrev y_Mo_worth : MethodName := ⟨"RowAlignerModel", "worth", "(I)I"⟩
