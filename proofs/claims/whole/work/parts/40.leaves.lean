abbrev rm_Ra_cell : Room := { frames := 0, cells := 0, slots := 0, locals := 0 }
set_option maxHeartbeats 4000000 in
set_option maxRecDepth 100000 in
theorem c_Ra_cell (l : Launch) (D : va_G) (tI tJ tZ : ClassId) (bb : Nat) (i : Nat) (j : Nat) : rCi l y_Ra_cell prog_1_method_32_code 3 .int rm_Ra_cell D (tysA tI tJ tZ) [.int (iI ((bb : Nat) : Int)), .int (iI ((i : Nat) : Int)), .int (iI ((j : Nat) : Int))] [] (fun zz (_ : Unit) => zz = iI ((((i * 3 + bb) * 97 + j : Nat) : Int))) (fun (_ : Unit) => []) := by
  intro sz
  refine r_met (by decide) (Nat.le_of_ble_eq_true rfl) ?_
  intro F p e s m args below meth c Q A hX hT hAe hsz hin
  subst hAe
  replace hX : rOK F p l e rm_Ra_cell s m args below meth c Q prog_1_method_32_code 3 "RowAligner" D (tysA tI tJ tZ) _ := hX
  show F 0 [(0, .int (iI ((bb : Nat) : Int))), (1, .int (iI ((i : Nat) : Int))), (2, .int (iI ((j : Nat) : Int)))] [] [] 0 0
  refine r_iload_n hX 1 d_Ra_cell_0 rfl ?_
  refine r_iconstN hX 3 d_Ra_cell_1 rfl ?_
  refine r_imulN hX d_Ra_cell_2 ?_
  refine r_iload_n hX 0 d_Ra_cell_3 rfl ?_
  refine r_iaddN hX d_Ra_cell_4 ?_
  refine r_bipushN hX 97 d_Ra_cell_5 rfl (by decide) ?_
  refine r_imulN hX d_Ra_cell_7 ?_
  refine r_iload_n hX 2 d_Ra_cell_8 rfl ?_
  refine r_iaddN hX d_Ra_cell_9 ?_
  exact r_iret hX hT () rfl rfl (by decide) (by decide) d_Ra_cell_10

abbrev rm_Ra_lettersOfA : Room := { frames := 0, cells := 0, slots := 0, locals := 0 }
set_option maxHeartbeats 4000000 in
set_option maxRecDepth 100000 in
theorem c_Ra_lettersOfA (l : Launch) (D : va_G) (tI tJ tZ : ClassId) (st : Nat) (hs : st < 3) : rCi l y_Ra_lettersOfA prog_1_method_30_code 1 .int rm_Ra_lettersOfA D (tysA tI tJ tZ) [.int (iI ((st : Nat) : Int))] [] (fun zz (_ : Unit) => zz = iI (((ra_da st : Nat) : Int))) (fun (_ : Unit) => []) := by
  intro sz
  refine r_met (by decide) (Nat.le_of_ble_eq_true rfl) ?_
  intro F p e s m args below meth c Q A hX hT hAe hsz hin
  subst hAe
  replace hX : rOK F p l e rm_Ra_lettersOfA s m args below meth c Q prog_1_method_30_code 1 "RowAligner" D (tysA tI tJ tZ) _ := hX
  show F 0 [(0, .int (iI ((st : Nat) : Int)))] [] [] 0 0
  refine r_iload_n hX 0 d_Ra_lettersOfA_0 rfl ?_
  refine r_iconstN hX 2 d_Ra_lettersOfA_1 rfl ?_
  have J10 : F 10 [(0, .int (iI ((st : Nat) : Int)))] [.int (iI ((ra_da st : Nat) : Int))] [] 0 0 := by
    exact r_iret hX hT () rfl rfl (by decide) (by decide) d_Ra_lettersOfA_10
  refine r_icmp_ne hX 9 d_Ra_lettersOfA_2 (by decide) (by unfold iR; omega) (by unfold iR; omega) (fun h2 => ?_) (fun h2 => ?_)
  · refine r_iconstN hX 1 d_Ra_lettersOfA_9 rfl ?_
    exact rj_e (by unfold ra_da; split <;> omega) J10
  · refine r_iconstN hX 0 d_Ra_lettersOfA_5 rfl ?_
    refine r_goto hX 10 d_Ra_lettersOfA_6 (by decide) ?_
    exact rj_e (by unfold ra_da; split <;> omega) J10

abbrev rm_Ra_lettersOfB : Room := { frames := 0, cells := 0, slots := 0, locals := 0 }
set_option maxHeartbeats 4000000 in
set_option maxRecDepth 100000 in
theorem c_Ra_lettersOfB (l : Launch) (D : va_G) (tI tJ tZ : ClassId) (st : Nat) (hs : st < 3) : rCi l y_Ra_lettersOfB prog_1_method_31_code 1 .int rm_Ra_lettersOfB D (tysA tI tJ tZ) [.int (iI ((st : Nat) : Int))] [] (fun zz (_ : Unit) => zz = iI (((ra_db st : Nat) : Int))) (fun (_ : Unit) => []) := by
  intro sz
  refine r_met (by decide) (Nat.le_of_ble_eq_true rfl) ?_
  intro F p e s m args below meth c Q A hX hT hAe hsz hin
  subst hAe
  replace hX : rOK F p l e rm_Ra_lettersOfB s m args below meth c Q prog_1_method_31_code 1 "RowAligner" D (tysA tI tJ tZ) _ := hX
  show F 0 [(0, .int (iI ((st : Nat) : Int)))] [] [] 0 0
  refine r_iload_n hX 0 d_Ra_lettersOfB_0 rfl ?_
  refine r_iconstN hX 1 d_Ra_lettersOfB_1 rfl ?_
  have J10 : F 10 [(0, .int (iI ((st : Nat) : Int)))] [.int (iI ((ra_db st : Nat) : Int))] [] 0 0 := by
    exact r_iret hX hT () rfl rfl (by decide) (by decide) d_Ra_lettersOfB_10
  refine r_icmp_ne hX 9 d_Ra_lettersOfB_2 (by decide) (by unfold iR; omega) (by unfold iR; omega) (fun h2 => ?_) (fun h2 => ?_)
  · refine r_iconstN hX 1 d_Ra_lettersOfB_9 rfl ?_
    exact rj_e (by unfold ra_db; split <;> omega) J10
  · refine r_iconstN hX 0 d_Ra_lettersOfB_5 rfl ?_
    refine r_goto hX 10 d_Ra_lettersOfB_6 (by decide) ?_
    exact rj_e (by unfold ra_db; split <;> omega) J10

abbrev rm_Ro_append : Room := { frames := 0, cells := 0, slots := 0, locals := 0 }
set_option maxHeartbeats 4000000 in
set_option maxRecDepth 100000 in
theorem c_Ro_append (l : Launch) (D : va_G) (tI tJ tZ : ClassId) (h0 : Nat) (q1 : Nat) (f : Nat → Nat) (len : Nat) (v : Nat) (hl : len < 96) : rCv l y_Ro_append prog_8_method_2_code 2 rm_Ro_append D (tysA tI tJ tZ) [.ref h0, .int (iI ((v : Nat) : Int))] [(h0, .inr (2, [.ref q1, .int (iI ((len : Nat) : Int))])), (q1, .inl (tI, 96, .inl (iA (iN f))))] (fun (_ : Unit) => True) (fun (_ : Unit) => [(h0, .inr (2, [.ref q1, .int (iI ((len + 1 : Nat) : Int))])), (q1, .inl (tI, 96, .inl (iA (iN (iU f len v)))))]) := by
  intro sz
  refine r_met (by decide) (Nat.le_of_ble_eq_true rfl) ?_
  intro F p e s m args below meth c Q A hX hT hAe hsz hin
  subst hAe
  replace hX : rOK F p l e rm_Ro_append s m args below meth c Q prog_8_method_2_code 2 "RowAligner$Row" D (tysA tI tJ tZ) _ := hX
  show F 0 [(0, .ref h0), (1, .int (iI ((v : Nat) : Int)))] [] [(h0, .inr (2, [.ref q1, .int (iI ((len : Nat) : Int))])), (q1, .inl (tI, 96, .inl (iA (iN f))))] 0 0
  refine r_aload_n hX 0 d_Ro_append_0 rfl ?_
  refine r_get hX cf_Ro 0 rfl 0 (by decide) fl_Ro_9 rfl d_Ro_append_1 ?_
  refine r_aload_n hX 0 d_Ro_append_4 rfl ?_
  refine r_get hX cf_Ro 0 rfl 1 (by decide) fl_Ro_15 rfl d_Ro_append_5 ?_
  refine r_iload_n hX 1 d_Ro_append_8 rfl ?_
  refine r_iastN hX (ws' := [(h0, .inr (2, [.ref q1, .int (iI ((len : Nat) : Int))])), (q1, .inl (tI, 96, .inl (iA (iN (iU f len v)))))]) 1 0 rfl rfl (len) rfl (by omega) (by decide) rfl d_Ro_append_9 ?_
  refine r_aload_n hX 0 d_Ro_append_10 rfl ?_
  refine r_dup hX d_Ro_append_11 rfl ?_
  refine r_get hX cf_Ro 0 rfl 1 (by decide) fl_Ro_15 rfl d_Ro_append_12 ?_
  refine r_iconstN hX 1 d_Ro_append_15 rfl ?_
  refine r_iaddN hX d_Ro_append_16 ?_
  refine r_put hX (ws' := [(h0, .inr (2, [.ref q1, .int (iI ((len + 1 : Nat) : Int))])), (q1, .inl (tI, 96, .inl (iA (iN (iU f len v)))))]) cf_Ro 0 rfl 1 (by decide) fl_Ro_15 rfl rfl rfl (Nat.le_of_ble_eq_true rfl) rfl d_Ro_append_17 ?_
  exact r_vret hX hT () trivial rfl (by decide) (by decide) d_Ro_append_20

abbrev rm_Pr_setPair : Room := { frames := 0, cells := 0, slots := 0, locals := 0 }
set_option maxHeartbeats 4000000 in
set_option maxRecDepth 100000 in
theorem c_Pr_setPair (l : Launch) (D : va_G) (tI tJ tZ : ClassId) (h0 : Nat) (q1 : Nat) (f : Nat → Int) (op : Int) (mo : Int) (x : Nat) (y : Nat) (v : Int) (hx : x < 26) (hy : y < 26) : rCv l y_Pr_setPair prog_7_method_3_code 4 rm_Pr_setPair D (tysA tI tJ tZ) [.ref h0, .int (iI ((x : Nat) : Int)), .int (iI ((y : Nat) : Int)), .int (iI v)] [(h0, .inr (3, [.ref q1, .int (iI op), .int (iI mo)])), (q1, .inl (tI, 676, .inl (iA f)))] (fun (_ : Unit) => True) (fun (_ : Unit) => [(h0, .inr (3, [.ref q1, .int (iI op), .int (iI mo)])), (q1, .inl (tI, 676, .inl (iA (iU f (x * 26 + y) v))))]) := by
  intro sz
  refine r_met (by decide) (Nat.le_of_ble_eq_true rfl) ?_
  intro F p e s m args below meth c Q A hX hT hAe hsz hin
  subst hAe
  replace hX : rOK F p l e rm_Pr_setPair s m args below meth c Q prog_7_method_3_code 4 "RowAligner$Prices" D (tysA tI tJ tZ) _ := hX
  show F 0 [(0, .ref h0), (1, .int (iI ((x : Nat) : Int))), (2, .int (iI ((y : Nat) : Int))), (3, .int (iI v))] [] [(h0, .inr (3, [.ref q1, .int (iI op), .int (iI mo)])), (q1, .inl (tI, 676, .inl (iA f)))] 0 0
  refine r_aload_n hX 0 d_Pr_setPair_0 rfl ?_
  refine r_get hX cf_Pr 0 rfl 0 (by decide) fl_Pr_9 rfl d_Pr_setPair_1 ?_
  refine r_iload_n hX 1 d_Pr_setPair_4 rfl ?_
  refine r_bipushN hX 26 d_Pr_setPair_5 rfl (by decide) ?_
  refine r_imulN hX d_Pr_setPair_7 ?_
  refine r_iload_n hX 2 d_Pr_setPair_8 rfl ?_
  refine r_iaddN hX d_Pr_setPair_9 ?_
  refine r_iload_n hX 3 d_Pr_setPair_10 rfl ?_
  refine r_iast hX (ws' := [(h0, .inr (3, [.ref q1, .int (iI op), .int (iI mo)])), (q1, .inl (tI, 676, .inl (iA (iU f (x * 26 + y) ((v))))))]) 1 0 rfl rfl (x * 26 + y) rfl (by omega) (by decide) rfl d_Pr_setPair_11 ?_
  exact r_vret hX hT () trivial rfl (by decide) (by decide) d_Pr_setPair_12

abbrev rm_Pr_ofPair : Room := { frames := 0, cells := 0, slots := 0, locals := 0 }
set_option maxHeartbeats 4000000 in
set_option maxRecDepth 100000 in
theorem c_Pr_ofPair (l : Launch) (D : va_G) (tI tJ tZ : ClassId) (h0 : Nat) (q1 : Nat) (f : Nat → Int) (op : Int) (mo : Int) (x : Nat) (y : Nat) (hx : x < 26) (hy : y < 26) : rCi l y_Pr_ofPair prog_7_method_4_code 3 .int rm_Pr_ofPair D (tysA tI tJ tZ) [.ref h0, .int (iI ((x : Nat) : Int)), .int (iI ((y : Nat) : Int))] [(h0, .inr (3, [.ref q1, .int (iI op), .int (iI mo)])), (q1, .inl (tI, 676, .inl (iA f)))] (fun zz (_ : Unit) => zz = iI ((f (x * 26 + y)))) (fun (_ : Unit) => [(h0, .inr (3, [.ref q1, .int (iI op), .int (iI mo)])), (q1, .inl (tI, 676, .inl (iA f)))]) := by
  intro sz
  refine r_met (by decide) (Nat.le_of_ble_eq_true rfl) ?_
  intro F p e s m args below meth c Q A hX hT hAe hsz hin
  subst hAe
  replace hX : rOK F p l e rm_Pr_ofPair s m args below meth c Q prog_7_method_4_code 3 "RowAligner$Prices" D (tysA tI tJ tZ) _ := hX
  show F 0 [(0, .ref h0), (1, .int (iI ((x : Nat) : Int))), (2, .int (iI ((y : Nat) : Int)))] [] [(h0, .inr (3, [.ref q1, .int (iI op), .int (iI mo)])), (q1, .inl (tI, 676, .inl (iA f)))] 0 0
  refine r_aload_n hX 0 d_Pr_ofPair_0 rfl ?_
  refine r_get hX cf_Pr 0 rfl 0 (by decide) fl_Pr_9 rfl d_Pr_ofPair_1 ?_
  refine r_iload_n hX 1 d_Pr_ofPair_4 rfl ?_
  refine r_bipushN hX 26 d_Pr_ofPair_5 rfl (by decide) ?_
  refine r_imulN hX d_Pr_ofPair_7 ?_
  refine r_iload_n hX 2 d_Pr_ofPair_8 rfl ?_
  refine r_iaddN hX d_Pr_ofPair_9 ?_
  refine r_iald hX 1 0 rfl rfl (x * 26 + y) rfl (by omega) (by decide) d_Pr_ofPair_10 ?_
  exact r_iret hX hT () rfl rfl (by decide) (by decide) d_Pr_ofPair_11
