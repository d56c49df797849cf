abbrev rmw_Lw_letter_r : Room := { frames := 9, cells := 1, slots := 6, locals := 154 }
set_option maxHeartbeats 4000000 in
set_option maxRecDepth 100000 in
theorem w_Lw_letter_r (l : Launch) (hstk : l.stackTraces = false) (D : va_G) (tI tJ tZ : ClassId) (rz : Nat) (gr : Nat) (se : Nat) (ly : Nat) (wc : Nat) (cf : Nat) (dr : Nat) (ld : Bool) (wn : Bool) (xf : Bool) (cw : Int64) (x : Int) (y : Int) (ot : Nat) (hx : iR x) (hr : x < 0 ∨ 1 < x) : wCi l y_Lw_letter method_6_code 5 [(0, 10, 13, 13)] rmw_Lw_letter_r D (tysA tI tJ tZ) [.ref rz, .int (iI x), .int (iI y), .ref ot] [(rz, .inr (0, [.ref gr, .ref se, .ref ly, .ref wc, .ref cf, .ref dr, .int (iI (bI (ld = true))), .int (iI (bI (wn = true))), .int (iI (bI (xf = true))), .long cw]))] (fun zz (_ : Unit) => zz = iI (((1 : Nat) : Int))) (fun (_ : Unit) => [(rz, .inr (0, [.ref gr, .ref se, .ref ly, .ref wc, .ref cf, .ref dr, .int (iI (bI (ld = true))), .int (iI (bI (wn = true))), .int (iI (bI (xf = true))), .long cw]))]) := by
  intro sz
  refine w_met (by decide) (Nat.le_of_ble_eq_true rfl) ?_
  intro F p e s m args below meth c Q A hX hT hAe hw9
  subst hAe
  replace hX : rOK F p l e rmw_Lw_letter_r s m args below meth c Q method_6_code 5 "RowAlignerLaw" D (tysA tI tJ tZ) _ := hX
  show F 0 [(0, .ref rz), (1, .int (iI x)), (2, .int (iI y)), (3, .ref ot)] [] [(rz, .inr (0, [.ref gr, .ref se, .ref ly, .ref wc, .ref cf, .ref dr, .int (iI (bI (ld = true))), .int (iI (bI (wn = true))), .int (iI (bI (xf = true))), .long cw]))] 0 0
  refine r_aload_n hX 3 d_Lw_letter_0 rfl ?_
  refine r_iconstN hX 0 d_Lw_letter_1 rfl ?_
  refine r_aload_n hX 0 d_Lw_letter_2 rfl ?_
  refine r_iload_n hX 1 d_Lw_letter_3 rfl ?_
  refine r_iload_n hX 2 d_Lw_letter_4 rfl ?_
  refine r_invV_t (st := [.int (iI ((0 : Nat) : Int)), .ref ot]) (As := [.int (iI x), .int (iI y)]) hX hw9 (t_Ra_letter_r l hstk D tI tJ tZ rz gr se ly wc cf dr ld wn xf cw x y hx hr) "RowAligner" 0 0 cf_Ra rfl yn_Ra_letter ml_Lw_27 im_Ra_letter se_Ra_letter co_Ra_letter in_Ra (Nat.le_of_ble_eq_true rfl) (Nat.le_of_ble_eq_true rfl) (Nat.le_of_ble_eq_true rfl) (Nat.le_of_ble_eq_true rfl) [0] rfl rfl rfl rfl rfl (Nat.le_of_ble_eq_true rfl) d_Lw_letter_5 [] (0, 10, 13, 13) [] rfl (by decide) (by decide) cl_Lw_13 (fun _ h => absurd h List.not_mem_nil) (fun z5 => ?_)
  show F 13 [(0, .ref rz), (1, .int (iI x)), (2, .int (iI y)), (3, .ref ot)] [.ref z5] [(rz, .inr (0, [.ref gr, .ref se, .ref ly, .ref wc, .ref cf, .ref dr, .int (iI (bI (ld = true))), .int (iI (bI (wn = true))), .int (iI (bI (xf = true))), .long cw]))] 1 6
  refine r_astore hX (lv' := [(4, .ref z5), (0, .ref rz), (1, .int (iI x)), (2, .int (iI y)), (3, .ref ot)]) d_Lw_letter_13 (by decide) rfl ?_
  refine r_iconstN hX 1 d_Lw_letter_15 rfl ?_
  exact r_iret hX hT () rfl rfl (by decide) (by decide) d_Lw_letter_16

abbrev rmw_Lw_size_r : Room := { frames := 9, cells := 1, slots := 6, locals := 152 }
set_option maxHeartbeats 4000000 in
set_option maxRecDepth 100000 in
theorem w_Lw_size_r (l : Launch) (hstk : l.stackTraces = false) (D : va_G) (tI tJ tZ : ClassId) (rz : Nat) (gr : Nat) (se : Nat) (ly : Nat) (wc : Nat) (cf : Nat) (dr : Nat) (ld : Bool) (wn : Bool) (xf : Bool) (cw : Int64) (x : Int) (ot : Nat) (hx : iR x) (hr : x < 0 ∨ 1 < x) : wCi l y_Lw_size method_7_code 4 [(0, 9, 12, 13)] rmw_Lw_size_r D (tysA tI tJ tZ) [.ref rz, .int (iI x), .ref ot] [(rz, .inr (0, [.ref gr, .ref se, .ref ly, .ref wc, .ref cf, .ref dr, .int (iI (bI (ld = true))), .int (iI (bI (wn = true))), .int (iI (bI (xf = true))), .long cw]))] (fun zz (_ : Unit) => zz = iI (((1 : Nat) : Int))) (fun (_ : Unit) => [(rz, .inr (0, [.ref gr, .ref se, .ref ly, .ref wc, .ref cf, .ref dr, .int (iI (bI (ld = true))), .int (iI (bI (wn = true))), .int (iI (bI (xf = true))), .long cw]))]) := by
  intro sz
  refine w_met (by decide) (Nat.le_of_ble_eq_true rfl) ?_
  intro F p e s m args below meth c Q A hX hT hAe hw9
  subst hAe
  replace hX : rOK F p l e rmw_Lw_size_r s m args below meth c Q method_7_code 4 "RowAlignerLaw" D (tysA tI tJ tZ) _ := hX
  show F 0 [(0, .ref rz), (1, .int (iI x)), (2, .ref ot)] [] [(rz, .inr (0, [.ref gr, .ref se, .ref ly, .ref wc, .ref cf, .ref dr, .int (iI (bI (ld = true))), .int (iI (bI (wn = true))), .int (iI (bI (xf = true))), .long cw]))] 0 0
  refine r_aload_n hX 2 d_Lw_size_0 rfl ?_
  refine r_iconstN hX 0 d_Lw_size_1 rfl ?_
  refine r_aload_n hX 0 d_Lw_size_2 rfl ?_
  refine r_iload_n hX 1 d_Lw_size_3 rfl ?_
  refine r_invV_t (st := [.int (iI ((0 : Nat) : Int)), .ref ot]) (As := [.int (iI x)]) hX hw9 (t_Ra_size_r l hstk D tI tJ tZ rz gr se ly wc cf dr ld wn xf cw x hx hr) "RowAligner" 0 0 cf_Ra rfl yn_Ra_size ml_Lw_31 im_Ra_size se_Ra_size co_Ra_size in_Ra (Nat.le_of_ble_eq_true rfl) (Nat.le_of_ble_eq_true rfl) (Nat.le_of_ble_eq_true rfl) (Nat.le_of_ble_eq_true rfl) [0] rfl rfl rfl rfl rfl (Nat.le_of_ble_eq_true rfl) d_Lw_size_4 [] (0, 9, 12, 13) [] rfl (by decide) (by decide) cl_Lw_13 (fun _ h => absurd h List.not_mem_nil) (fun z4 => ?_)
  show F 12 [(0, .ref rz), (1, .int (iI x)), (2, .ref ot)] [.ref z4] [(rz, .inr (0, [.ref gr, .ref se, .ref ly, .ref wc, .ref cf, .ref dr, .int (iI (bI (ld = true))), .int (iI (bI (wn = true))), .int (iI (bI (xf = true))), .long cw]))] 1 6
  refine r_astore_n hX (lv' := [(3, .ref z4), (0, .ref rz), (1, .int (iI x)), (2, .ref ot)]) d_Lw_size_12 rfl (by decide) rfl ?_
  refine r_iconstN hX 1 d_Lw_size_13 rfl ?_
  exact r_iret hX hT () rfl rfl (by decide) (by decide) d_Lw_size_14

abbrev rmw_Lw_type_n_0 : Room := { frames := 7, cells := 1, slots := 6, locals := 116 }
set_option maxHeartbeats 4000000 in
set_option maxRecDepth 100000 in
theorem w_Lw_type_n_0 (l : Launch) (hstk : l.stackTraces = false) (D : va_G) (tI tJ tZ : ClassId) (rz : Nat) (gr : Nat) (se : Nat) (ly : Nat) (wc : Nat) (cf : Nat) (dr : Nat) (ld : Bool) (wn : Bool) (xf : Bool) (cw : Int64) (ra : Nat) (rb : Nat) (pr : Nat) (w : Int64) (y : Int) (ot : Nat) (hy : iR y) (hn : y < 1 ∨ 8 < y) : wCi l y_Lw_type method_3_code 7 [(0, 13, 16, 13), (0, 13, 20, 15), (0, 13, 24, 17)] rmw_Lw_type_n_0 D (tysA tI tJ tZ) [.ref rz, .int (iI ((0 : Nat) : Int)), .long w, .int (iI y), .ref ot] [(rz, .inr (0, [.ref gr, .ref se, .ref ly, .ref wc, .ref cf, .ref dr, .int (iI (bI (ld = true))), .int (iI (bI (wn = true))), .int (iI (bI (xf = true))), .long cw])), (gr, .inr (1, [.ref ra, .ref rb, .ref pr]))] (fun zz (_ : Unit) => zz = iI (((2 : Nat) : Int))) (fun (_ : Unit) => [(rz, .inr (0, [.ref gr, .ref se, .ref ly, .ref wc, .ref cf, .ref dr, .int (iI (bI (ld = true))), .int (iI (bI (wn = true))), .int (iI (bI (xf = true))), .long cw])), (gr, .inr (1, [.ref ra, .ref rb, .ref pr]))]) := by
  intro sz
  refine w_met (by decide) (Nat.le_of_ble_eq_true rfl) ?_
  intro F p e s m args below meth c Q A hX hT hAe hw9
  subst hAe
  replace hX : rOK F p l e rmw_Lw_type_n_0 s m args below meth c Q method_3_code 7 "RowAlignerLaw" D (tysA tI tJ tZ) _ := hX
  show F 0 [(0, .ref rz), (1, .int (iI ((0 : Nat) : Int))), (2, .long w), (4, .int (iI y)), (5, .ref ot)] [] [(rz, .inr (0, [.ref gr, .ref se, .ref ly, .ref wc, .ref cf, .ref dr, .int (iI (bI (ld = true))), .int (iI (bI (wn = true))), .int (iI (bI (xf = true))), .long cw])), (gr, .inr (1, [.ref ra, .ref rb, .ref pr]))] 0 0
  refine r_aload hX 4 d_Lw_type_0 rfl ?_
  refine r_iconstN hX 0 d_Lw_type_2 rfl ?_
  refine r_aload_n hX 0 d_Lw_type_3 rfl ?_
  refine r_iload_n hX 1 d_Lw_type_4 rfl ?_
  refine r_lload_n hX 2 d_Lw_type_5 rfl ?_
  refine r_iload hX 3 d_Lw_type_6 rfl ?_
  refine r_invV_t (st := [.int (iI ((0 : Nat) : Int)), .ref ot]) (As := [.int (iI ((0 : Nat) : Int)), .long w, .int (iI y)]) hX hw9 (t_Ra_type_n_0 l hstk D tI tJ tZ rz gr se ly wc cf dr ld wn xf cw ra rb pr w y hy hn) "RowAligner" 0 0 cf_Ra rfl yn_Ra_type ml_Lw_7 im_Ra_type se_Ra_type co_Ra_type in_Ra (Nat.le_of_ble_eq_true rfl) (Nat.le_of_ble_eq_true rfl) (Nat.le_of_ble_eq_true rfl) (Nat.le_of_ble_eq_true rfl) [0, 1] rfl rfl rfl rfl rfl (Nat.le_of_ble_eq_true rfl) d_Lw_type_8 [(0, 13, 16, 13)] (0, 13, 20, 15) [(0, 13, 24, 17)] rfl (by decide) (by decide) cl_Lw_15 (List.forall_mem_cons.mpr ⟨⟨"java/lang/IndexOutOfBoundsException", (by decide), (by decide), cl_Lw_13, nc_IllegalArgumentException_IndexOutOfBoundsException⟩, (fun _ h => absurd h List.not_mem_nil)⟩) (fun z8 => ?_)
  show F 20 [(0, .ref rz), (1, .int (iI ((0 : Nat) : Int))), (2, .long w), (4, .int (iI y)), (5, .ref ot)] [.ref z8] [(rz, .inr (0, [.ref gr, .ref se, .ref ly, .ref wc, .ref cf, .ref dr, .int (iI (bI (ld = true))), .int (iI (bI (wn = true))), .int (iI (bI (xf = true))), .long cw])), (gr, .inr (1, [.ref ra, .ref rb, .ref pr]))] 1 6
  refine r_astore hX (lv' := [(6, .ref z8), (0, .ref rz), (1, .int (iI ((0 : Nat) : Int))), (2, .long w), (4, .int (iI y)), (5, .ref ot)]) d_Lw_type_20 (by decide) rfl ?_
  refine r_iconstN hX 2 d_Lw_type_22 rfl ?_
  exact r_iret hX hT () rfl rfl (by decide) (by decide) d_Lw_type_23

abbrev rmw_Lw_type_c_0 : Room := { frames := 7, cells := 1, slots := 6, locals := 116 }
set_option maxHeartbeats 4000000 in
set_option maxRecDepth 100000 in
theorem w_Lw_type_c_0 (l : Launch) (hstk : l.stackTraces = false) (D : va_G) (tI tJ tZ : ClassId) (rz : Nat) (gr : Nat) (se : Nat) (ly : Nat) (wc : Nat) (cf : Nat) (dr : Nat) (ld : Bool) (wn : Bool) (xf : Bool) (cw : Int64) (ra : Nat) (rb : Nat) (pr : Nat) (w : Int64) (nn : Nat) (ot : Nat) (hn : 1 ≤ nn ∧ nn ≤ 8) (hac : ¬ ra_ac w nn) : wCi l y_Lw_type method_3_code 7 [(0, 13, 16, 13), (0, 13, 20, 15), (0, 13, 24, 17)] rmw_Lw_type_c_0 D (tysA tI tJ tZ) [.ref rz, .int (iI ((0 : Nat) : Int)), .long w, .int (iI ((nn : Nat) : Int)), .ref ot] [(rz, .inr (0, [.ref gr, .ref se, .ref ly, .ref wc, .ref cf, .ref dr, .int (iI (bI (ld = true))), .int (iI (bI (wn = true))), .int (iI (bI (xf = true))), .long cw])), (gr, .inr (1, [.ref ra, .ref rb, .ref pr]))] (fun zz (_ : Unit) => zz = iI (((2 : Nat) : Int))) (fun (_ : Unit) => [(rz, .inr (0, [.ref gr, .ref se, .ref ly, .ref wc, .ref cf, .ref dr, .int (iI (bI (ld = true))), .int (iI (bI (wn = true))), .int (iI (bI (xf = true))), .long cw])), (gr, .inr (1, [.ref ra, .ref rb, .ref pr]))]) := by
  intro sz
  refine w_met (by decide) (Nat.le_of_ble_eq_true rfl) ?_
  intro F p e s m args below meth c Q A hX hT hAe hw9
  subst hAe
  replace hX : rOK F p l e rmw_Lw_type_c_0 s m args below meth c Q method_3_code 7 "RowAlignerLaw" D (tysA tI tJ tZ) _ := hX
  show F 0 [(0, .ref rz), (1, .int (iI ((0 : Nat) : Int))), (2, .long w), (4, .int (iI ((nn : Nat) : Int))), (5, .ref ot)] [] [(rz, .inr (0, [.ref gr, .ref se, .ref ly, .ref wc, .ref cf, .ref dr, .int (iI (bI (ld = true))), .int (iI (bI (wn = true))), .int (iI (bI (xf = true))), .long cw])), (gr, .inr (1, [.ref ra, .ref rb, .ref pr]))] 0 0
  refine r_aload hX 4 d_Lw_type_0 rfl ?_
  refine r_iconstN hX 0 d_Lw_type_2 rfl ?_
  refine r_aload_n hX 0 d_Lw_type_3 rfl ?_
  refine r_iload_n hX 1 d_Lw_type_4 rfl ?_
  refine r_lload_n hX 2 d_Lw_type_5 rfl ?_
  refine r_iload hX 3 d_Lw_type_6 rfl ?_
  refine r_invV_t (st := [.int (iI ((0 : Nat) : Int)), .ref ot]) (As := [.int (iI ((0 : Nat) : Int)), .long w, .int (iI ((nn : Nat) : Int))]) hX hw9 (t_Ra_type_c_0 l hstk D tI tJ tZ rz gr se ly wc cf dr ld wn xf cw ra rb pr w nn hn hac) "RowAligner" 0 0 cf_Ra rfl yn_Ra_type ml_Lw_7 im_Ra_type se_Ra_type co_Ra_type in_Ra (Nat.le_of_ble_eq_true rfl) (Nat.le_of_ble_eq_true rfl) (Nat.le_of_ble_eq_true rfl) (Nat.le_of_ble_eq_true rfl) [0, 1] rfl rfl rfl rfl rfl (Nat.le_of_ble_eq_true rfl) d_Lw_type_8 [(0, 13, 16, 13)] (0, 13, 20, 15) [(0, 13, 24, 17)] rfl (by decide) (by decide) cl_Lw_15 (List.forall_mem_cons.mpr ⟨⟨"java/lang/IndexOutOfBoundsException", (by decide), (by decide), cl_Lw_13, nc_IllegalArgumentException_IndexOutOfBoundsException⟩, (fun _ h => absurd h List.not_mem_nil)⟩) (fun z8 => ?_)
  show F 20 [(0, .ref rz), (1, .int (iI ((0 : Nat) : Int))), (2, .long w), (4, .int (iI ((nn : Nat) : Int))), (5, .ref ot)] [.ref z8] [(rz, .inr (0, [.ref gr, .ref se, .ref ly, .ref wc, .ref cf, .ref dr, .int (iI (bI (ld = true))), .int (iI (bI (wn = true))), .int (iI (bI (xf = true))), .long cw])), (gr, .inr (1, [.ref ra, .ref rb, .ref pr]))] 1 6
  refine r_astore hX (lv' := [(6, .ref z8), (0, .ref rz), (1, .int (iI ((0 : Nat) : Int))), (2, .long w), (4, .int (iI ((nn : Nat) : Int))), (5, .ref ot)]) d_Lw_type_20 (by decide) rfl ?_
  refine r_iconstN hX 2 d_Lw_type_22 rfl ?_
  exact r_iret hX hT () rfl rfl (by decide) (by decide) d_Lw_type_23

abbrev rmw_Lw_type_l_0 : Room := { frames := 7, cells := 1, slots := 6, locals := 116 }
set_option maxHeartbeats 4000000 in
set_option maxRecDepth 100000 in
theorem w_Lw_type_l_0 (l : Launch) (hstk : l.stackTraces = false) (D : va_G) (tI tJ tZ : ClassId) (rz : Nat) (gr : Nat) (se : Nat) (ly : Nat) (wc : Nat) (cf : Nat) (dr : Nat) (ld : Bool) (wn : Bool) (xf : Bool) (cw : Int64) (ra : Nat) (rb : Nat) (pr : Nat) (qa : Nat) (la : Nat) (w : Int64) (nn : Nat) (ot : Nat) (hn : 1 ≤ nn ∧ nn ≤ 8) (hac : ra_ac w nn) (hla : la ≤ 96) (hlen : 96 < la + nn) : wCi l y_Lw_type method_3_code 7 [(0, 13, 16, 13), (0, 13, 20, 15), (0, 13, 24, 17)] rmw_Lw_type_l_0 D (tysA tI tJ tZ) [.ref rz, .int (iI ((0 : Nat) : Int)), .long w, .int (iI ((nn : Nat) : Int)), .ref ot] [(rz, .inr (0, [.ref gr, .ref se, .ref ly, .ref wc, .ref cf, .ref dr, .int (iI (bI (ld = true))), .int (iI (bI (wn = true))), .int (iI (bI (xf = true))), .long cw])), (gr, .inr (1, [.ref ra, .ref rb, .ref pr])), (ra, .inr (2, [.ref qa, .int (iI ((la : Nat) : Int))]))] (fun zz (_ : Unit) => zz = iI (((3 : Nat) : Int))) (fun (_ : Unit) => [(rz, .inr (0, [.ref gr, .ref se, .ref ly, .ref wc, .ref cf, .ref dr, .int (iI (bI (ld = true))), .int (iI (bI (wn = true))), .int (iI (bI (xf = true))), .long cw])), (gr, .inr (1, [.ref ra, .ref rb, .ref pr])), (ra, .inr (2, [.ref qa, .int (iI ((la : Nat) : Int))]))]) := by
  intro sz
  refine w_met (by decide) (Nat.le_of_ble_eq_true rfl) ?_
  intro F p e s m args below meth c Q A hX hT hAe hw9
  subst hAe
  replace hX : rOK F p l e rmw_Lw_type_l_0 s m args below meth c Q method_3_code 7 "RowAlignerLaw" D (tysA tI tJ tZ) _ := hX
  show F 0 [(0, .ref rz), (1, .int (iI ((0 : Nat) : Int))), (2, .long w), (4, .int (iI ((nn : Nat) : Int))), (5, .ref ot)] [] [(rz, .inr (0, [.ref gr, .ref se, .ref ly, .ref wc, .ref cf, .ref dr, .int (iI (bI (ld = true))), .int (iI (bI (wn = true))), .int (iI (bI (xf = true))), .long cw])), (gr, .inr (1, [.ref ra, .ref rb, .ref pr])), (ra, .inr (2, [.ref qa, .int (iI ((la : Nat) : Int))]))] 0 0
  refine r_aload hX 4 d_Lw_type_0 rfl ?_
  refine r_iconstN hX 0 d_Lw_type_2 rfl ?_
  refine r_aload_n hX 0 d_Lw_type_3 rfl ?_
  refine r_iload_n hX 1 d_Lw_type_4 rfl ?_
  refine r_lload_n hX 2 d_Lw_type_5 rfl ?_
  refine r_iload hX 3 d_Lw_type_6 rfl ?_
  refine r_invV_t (st := [.int (iI ((0 : Nat) : Int)), .ref ot]) (As := [.int (iI ((0 : Nat) : Int)), .long w, .int (iI ((nn : Nat) : Int))]) hX hw9 (t_Ra_type_l_0 l hstk D tI tJ tZ rz gr se ly wc cf dr ld wn xf cw ra rb pr qa la w nn hn hac hla hlen) "RowAligner" 0 0 cf_Ra rfl yn_Ra_type ml_Lw_7 im_Ra_type se_Ra_type co_Ra_type in_Ra (Nat.le_of_ble_eq_true rfl) (Nat.le_of_ble_eq_true rfl) (Nat.le_of_ble_eq_true rfl) (Nat.le_of_ble_eq_true rfl) [0, 1, 2] rfl rfl rfl rfl rfl (Nat.le_of_ble_eq_true rfl) d_Lw_type_8 [(0, 13, 16, 13), (0, 13, 20, 15)] (0, 13, 24, 17) [] rfl (by decide) (by decide) cl_Lw_17 (List.forall_mem_cons.mpr ⟨⟨"java/lang/IndexOutOfBoundsException", (by decide), (by decide), cl_Lw_13, nc_IllegalStateException_IndexOutOfBoundsException⟩, (List.forall_mem_cons.mpr ⟨⟨"java/lang/IllegalArgumentException", (by decide), (by decide), cl_Lw_15, nc_IllegalStateException_IllegalArgumentException⟩, (fun _ h => absurd h List.not_mem_nil)⟩)⟩) (fun z8 => ?_)
  show F 24 [(0, .ref rz), (1, .int (iI ((0 : Nat) : Int))), (2, .long w), (4, .int (iI ((nn : Nat) : Int))), (5, .ref ot)] [.ref z8] [(rz, .inr (0, [.ref gr, .ref se, .ref ly, .ref wc, .ref cf, .ref dr, .int (iI (bI (ld = true))), .int (iI (bI (wn = true))), .int (iI (bI (xf = true))), .long cw])), (gr, .inr (1, [.ref ra, .ref rb, .ref pr])), (ra, .inr (2, [.ref qa, .int (iI ((la : Nat) : Int))]))] 1 6
  refine r_astore hX (lv' := [(6, .ref z8), (0, .ref rz), (1, .int (iI ((0 : Nat) : Int))), (2, .long w), (4, .int (iI ((nn : Nat) : Int))), (5, .ref ot)]) d_Lw_type_24 (by decide) rfl ?_
  refine r_iconstN hX 3 d_Lw_type_26 rfl ?_
  exact r_iret hX hT () rfl rfl (by decide) (by decide) d_Lw_type_27

abbrev rmw_Lw_cut_n_0 : Room := { frames := 7, cells := 1, slots := 6, locals := 113 }
set_option maxHeartbeats 4000000 in
set_option maxRecDepth 100000 in
theorem w_Lw_cut_n_0 (l : Launch) (hstk : l.stackTraces = false) (D : va_G) (tI tJ tZ : ClassId) (rz : Nat) (gr : Nat) (se : Nat) (ly : Nat) (wc : Nat) (cf : Nat) (dr : Nat) (ld : Bool) (wn : Bool) (xf : Bool) (cw : Int64) (ra : Nat) (rb : Nat) (pr : Nat) (qa : Nat) (la : Nat) (y : Int) (hla : la ≤ 96) (hy : iR y) (hn : y < 0 ∨ ((la : Nat) : Int) < y) : wCi l y_Lw_cut method_4_code 4 [(0, 6, 9, 13), (0, 6, 12, 15)] rmw_Lw_cut_n_0 D (tysA tI tJ tZ) [.ref rz, .int (iI ((0 : Nat) : Int)), .int (iI y)] [(rz, .inr (0, [.ref gr, .ref se, .ref ly, .ref wc, .ref cf, .ref dr, .int (iI (bI (ld = true))), .int (iI (bI (wn = true))), .int (iI (bI (xf = true))), .long cw])), (gr, .inr (1, [.ref ra, .ref rb, .ref pr])), (ra, .inr (2, [.ref qa, .int (iI ((la : Nat) : Int))]))] (fun zz (_ : Unit) => zz = iI (((2 : Nat) : Int))) (fun (_ : Unit) => [(rz, .inr (0, [.ref gr, .ref se, .ref ly, .ref wc, .ref cf, .ref dr, .int (iI (bI (ld = true))), .int (iI (bI (wn = true))), .int (iI (bI (xf = true))), .long cw])), (gr, .inr (1, [.ref ra, .ref rb, .ref pr])), (ra, .inr (2, [.ref qa, .int (iI ((la : Nat) : Int))]))]) := by
  intro sz
  refine w_met (by decide) (Nat.le_of_ble_eq_true rfl) ?_
  intro F p e s m args below meth c Q A hX hT hAe hw9
  subst hAe
  replace hX : rOK F p l e rmw_Lw_cut_n_0 s m args below meth c Q method_4_code 4 "RowAlignerLaw" D (tysA tI tJ tZ) _ := hX
  show F 0 [(0, .ref rz), (1, .int (iI ((0 : Nat) : Int))), (2, .int (iI y))] [] [(rz, .inr (0, [.ref gr, .ref se, .ref ly, .ref wc, .ref cf, .ref dr, .int (iI (bI (ld = true))), .int (iI (bI (wn = true))), .int (iI (bI (xf = true))), .long cw])), (gr, .inr (1, [.ref ra, .ref rb, .ref pr])), (ra, .inr (2, [.ref qa, .int (iI ((la : Nat) : Int))]))] 0 0
  refine r_aload_n hX 0 d_Lw_cut_0 rfl ?_
  refine r_iload_n hX 1 d_Lw_cut_1 rfl ?_
  refine r_iload_n hX 2 d_Lw_cut_2 rfl ?_
  refine r_invV_t (st := []) (As := [.int (iI ((0 : Nat) : Int)), .int (iI y)]) hX hw9 (t_Ra_cut_n_0 l hstk D tI tJ tZ rz gr se ly wc cf dr ld wn xf cw ra rb pr qa la y hla hy hn) "RowAligner" 0 0 cf_Ra rfl yn_Ra_cut ml_Lw_19 im_Ra_cut se_Ra_cut co_Ra_cut in_Ra (Nat.le_of_ble_eq_true rfl) (Nat.le_of_ble_eq_true rfl) (Nat.le_of_ble_eq_true rfl) (Nat.le_of_ble_eq_true rfl) [0, 1, 2] rfl rfl rfl rfl rfl (Nat.le_of_ble_eq_true rfl) d_Lw_cut_3 [(0, 6, 9, 13)] (0, 6, 12, 15) [] rfl (by decide) (by decide) cl_Lw_15 (List.forall_mem_cons.mpr ⟨⟨"java/lang/IndexOutOfBoundsException", (by decide), (by decide), cl_Lw_13, nc_IllegalArgumentException_IndexOutOfBoundsException⟩, (fun _ h => absurd h List.not_mem_nil)⟩) (fun z3 => ?_)
  show F 12 [(0, .ref rz), (1, .int (iI ((0 : Nat) : Int))), (2, .int (iI y))] [.ref z3] [(rz, .inr (0, [.ref gr, .ref se, .ref ly, .ref wc, .ref cf, .ref dr, .int (iI (bI (ld = true))), .int (iI (bI (wn = true))), .int (iI (bI (xf = true))), .long cw])), (gr, .inr (1, [.ref ra, .ref rb, .ref pr])), (ra, .inr (2, [.ref qa, .int (iI ((la : Nat) : Int))]))] 1 6
  refine r_astore_n hX (lv' := [(3, .ref z3), (0, .ref rz), (1, .int (iI ((0 : Nat) : Int))), (2, .int (iI y))]) d_Lw_cut_12 rfl (by decide) rfl ?_
  refine r_iconstN hX 2 d_Lw_cut_13 rfl ?_
  exact r_iret hX hT () rfl rfl (by decide) (by decide) d_Lw_cut_14

abbrev rmw_Lw_letter_n_0 : Room := { frames := 7, cells := 1, slots := 6, locals := 113 }
set_option maxHeartbeats 4000000 in
set_option maxRecDepth 100000 in
theorem w_Lw_letter_n_0 (l : Launch) (hstk : l.stackTraces = false) (D : va_G) (tI tJ tZ : ClassId) (rz : Nat) (gr : Nat) (se : Nat) (ly : Nat) (wc : Nat) (cf : Nat) (dr : Nat) (ld : Bool) (wn : Bool) (xf : Bool) (cw : Int64) (ra : Nat) (rb : Nat) (pr : Nat) (qa : Nat) (la : Nat) (y : Int) (ot : Nat) (hla : la ≤ 96) (hy : iR y) (hn : y < 0 ∨ ((la : Nat) : Int) ≤ y) : wCi l y_Lw_letter method_6_code 5 [(0, 10, 13, 13)] rmw_Lw_letter_n_0 D (tysA tI tJ tZ) [.ref rz, .int (iI ((0 : Nat) : Int)), .int (iI y), .ref ot] [(rz, .inr (0, [.ref gr, .ref se, .ref ly, .ref wc, .ref cf, .ref dr, .int (iI (bI (ld = true))), .int (iI (bI (wn = true))), .int (iI (bI (xf = true))), .long cw])), (gr, .inr (1, [.ref ra, .ref rb, .ref pr])), (ra, .inr (2, [.ref qa, .int (iI ((la : Nat) : Int))]))] (fun zz (_ : Unit) => zz = iI (((1 : Nat) : Int))) (fun (_ : Unit) => [(rz, .inr (0, [.ref gr, .ref se, .ref ly, .ref wc, .ref cf, .ref dr, .int (iI (bI (ld = true))), .int (iI (bI (wn = true))), .int (iI (bI (xf = true))), .long cw])), (gr, .inr (1, [.ref ra, .ref rb, .ref pr])), (ra, .inr (2, [.ref qa, .int (iI ((la : Nat) : Int))]))]) := by
  intro sz
  refine w_met (by decide) (Nat.le_of_ble_eq_true rfl) ?_
  intro F p e s m args below meth c Q A hX hT hAe hw9
  subst hAe
  replace hX : rOK F p l e rmw_Lw_letter_n_0 s m args below meth c Q method_6_code 5 "RowAlignerLaw" D (tysA tI tJ tZ) _ := hX
  show F 0 [(0, .ref rz), (1, .int (iI ((0 : Nat) : Int))), (2, .int (iI y)), (3, .ref ot)] [] [(rz, .inr (0, [.ref gr, .ref se, .ref ly, .ref wc, .ref cf, .ref dr, .int (iI (bI (ld = true))), .int (iI (bI (wn = true))), .int (iI (bI (xf = true))), .long cw])), (gr, .inr (1, [.ref ra, .ref rb, .ref pr])), (ra, .inr (2, [.ref qa, .int (iI ((la : Nat) : Int))]))] 0 0
  refine r_aload_n hX 3 d_Lw_letter_0 rfl ?_
  refine r_iconstN hX 0 d_Lw_letter_1 rfl ?_
  refine r_aload_n hX 0 d_Lw_letter_2 rfl ?_
  refine r_iload_n hX 1 d_Lw_letter_3 rfl ?_
  refine r_iload_n hX 2 d_Lw_letter_4 rfl ?_
  refine r_invV_t (st := [.int (iI ((0 : Nat) : Int)), .ref ot]) (As := [.int (iI ((0 : Nat) : Int)), .int (iI y)]) hX hw9 (t_Ra_letter_n_0 l hstk D tI tJ tZ rz gr se ly wc cf dr ld wn xf cw ra rb pr qa la y hla hy hn) "RowAligner" 0 0 cf_Ra rfl yn_Ra_letter ml_Lw_27 im_Ra_letter se_Ra_letter co_Ra_letter in_Ra (Nat.le_of_ble_eq_true rfl) (Nat.le_of_ble_eq_true rfl) (Nat.le_of_ble_eq_true rfl) (Nat.le_of_ble_eq_true rfl) [0, 1, 2] rfl rfl rfl rfl rfl (Nat.le_of_ble_eq_true rfl) d_Lw_letter_5 [] (0, 10, 13, 13) [] rfl (by decide) (by decide) cl_Lw_13 (fun _ h => absurd h List.not_mem_nil) (fun z5 => ?_)
  show F 13 [(0, .ref rz), (1, .int (iI ((0 : Nat) : Int))), (2, .int (iI y)), (3, .ref ot)] [.ref z5] [(rz, .inr (0, [.ref gr, .ref se, .ref ly, .ref wc, .ref cf, .ref dr, .int (iI (bI (ld = true))), .int (iI (bI (wn = true))), .int (iI (bI (xf = true))), .long cw])), (gr, .inr (1, [.ref ra, .ref rb, .ref pr])), (ra, .inr (2, [.ref qa, .int (iI ((la : Nat) : Int))]))] 1 6
  refine r_astore hX (lv' := [(4, .ref z5), (0, .ref rz), (1, .int (iI ((0 : Nat) : Int))), (2, .int (iI y)), (3, .ref ot)]) d_Lw_letter_13 (by decide) rfl ?_
  refine r_iconstN hX 1 d_Lw_letter_15 rfl ?_
  exact r_iret hX hT () rfl rfl (by decide) (by decide) d_Lw_letter_16

abbrev rmw_Lw_type_n_1 : Room := { frames := 7, cells := 1, slots := 6, locals := 116 }
set_option maxHeartbeats 4000000 in
set_option maxRecDepth 100000 in
theorem w_Lw_type_n_1 (l : Launch) (hstk : l.stackTraces = false) (D : va_G) (tI tJ tZ : ClassId) (rz : Nat) (gr : Nat) (se : Nat) (ly : Nat) (wc : Nat) (cf : Nat) (dr : Nat) (ld : Bool) (wn : Bool) (xf : Bool) (cw : Int64) (ra : Nat) (rb : Nat) (pr : Nat) (w : Int64) (y : Int) (ot : Nat) (hy : iR y) (hn : y < 1 ∨ 8 < y) : wCi l y_Lw_type method_3_code 7 [(0, 13, 16, 13), (0, 13, 20, 15), (0, 13, 24, 17)] rmw_Lw_type_n_1 D (tysA tI tJ tZ) [.ref rz, .int (iI ((1 : Nat) : Int)), .long w, .int (iI y), .ref ot] [(rz, .inr (0, [.ref gr, .ref se, .ref ly, .ref wc, .ref cf, .ref dr, .int (iI (bI (ld = true))), .int (iI (bI (wn = true))), .int (iI (bI (xf = true))), .long cw])), (gr, .inr (1, [.ref ra, .ref rb, .ref pr]))] (fun zz (_ : Unit) => zz = iI (((2 : Nat) : Int))) (fun (_ : Unit) => [(rz, .inr (0, [.ref gr, .ref se, .ref ly, .ref wc, .ref cf, .ref dr, .int (iI (bI (ld = true))), .int (iI (bI (wn = true))), .int (iI (bI (xf = true))), .long cw])), (gr, .inr (1, [.ref ra, .ref rb, .ref pr]))]) := by
  intro sz
  refine w_met (by decide) (Nat.le_of_ble_eq_true rfl) ?_
  intro F p e s m args below meth c Q A hX hT hAe hw9
  subst hAe
  replace hX : rOK F p l e rmw_Lw_type_n_1 s m args below meth c Q method_3_code 7 "RowAlignerLaw" D (tysA tI tJ tZ) _ := hX
  show F 0 [(0, .ref rz), (1, .int (iI ((1 : Nat) : Int))), (2, .long w), (4, .int (iI y)), (5, .ref ot)] [] [(rz, .inr (0, [.ref gr, .ref se, .ref ly, .ref wc, .ref cf, .ref dr, .int (iI (bI (ld = true))), .int (iI (bI (wn = true))), .int (iI (bI (xf = true))), .long cw])), (gr, .inr (1, [.ref ra, .ref rb, .ref pr]))] 0 0
  refine r_aload hX 4 d_Lw_type_0 rfl ?_
  refine r_iconstN hX 0 d_Lw_type_2 rfl ?_
  refine r_aload_n hX 0 d_Lw_type_3 rfl ?_
  refine r_iload_n hX 1 d_Lw_type_4 rfl ?_
  refine r_lload_n hX 2 d_Lw_type_5 rfl ?_
  refine r_iload hX 3 d_Lw_type_6 rfl ?_
  refine r_invV_t (st := [.int (iI ((0 : Nat) : Int)), .ref ot]) (As := [.int (iI ((1 : Nat) : Int)), .long w, .int (iI y)]) hX hw9 (t_Ra_type_n_1 l hstk D tI tJ tZ rz gr se ly wc cf dr ld wn xf cw ra rb pr w y hy hn) "RowAligner" 0 0 cf_Ra rfl yn_Ra_type ml_Lw_7 im_Ra_type se_Ra_type co_Ra_type in_Ra (Nat.le_of_ble_eq_true rfl) (Nat.le_of_ble_eq_true rfl) (Nat.le_of_ble_eq_true rfl) (Nat.le_of_ble_eq_true rfl) [0, 1] rfl rfl rfl rfl rfl (Nat.le_of_ble_eq_true rfl) d_Lw_type_8 [(0, 13, 16, 13)] (0, 13, 20, 15) [(0, 13, 24, 17)] rfl (by decide) (by decide) cl_Lw_15 (List.forall_mem_cons.mpr ⟨⟨"java/lang/IndexOutOfBoundsException", (by decide), (by decide), cl_Lw_13, nc_IllegalArgumentException_IndexOutOfBoundsException⟩, (fun _ h => absurd h List.not_mem_nil)⟩) (fun z8 => ?_)
  show F 20 [(0, .ref rz), (1, .int (iI ((1 : Nat) : Int))), (2, .long w), (4, .int (iI y)), (5, .ref ot)] [.ref z8] [(rz, .inr (0, [.ref gr, .ref se, .ref ly, .ref wc, .ref cf, .ref dr, .int (iI (bI (ld = true))), .int (iI (bI (wn = true))), .int (iI (bI (xf = true))), .long cw])), (gr, .inr (1, [.ref ra, .ref rb, .ref pr]))] 1 6
  refine r_astore hX (lv' := [(6, .ref z8), (0, .ref rz), (1, .int (iI ((1 : Nat) : Int))), (2, .long w), (4, .int (iI y)), (5, .ref ot)]) d_Lw_type_20 (by decide) rfl ?_
  refine r_iconstN hX 2 d_Lw_type_22 rfl ?_
  exact r_iret hX hT () rfl rfl (by decide) (by decide) d_Lw_type_23

abbrev rmw_Lw_type_c_1 : Room := { frames := 7, cells := 1, slots := 6, locals := 116 }
set_option maxHeartbeats 4000000 in
set_option maxRecDepth 100000 in
theorem w_Lw_type_c_1 (l : Launch) (hstk : l.stackTraces = false) (D : va_G) (tI tJ tZ : ClassId) (rz : Nat) (gr : Nat) (se : Nat) (ly : Nat) (wc : Nat) (cf : Nat) (dr : Nat) (ld : Bool) (wn : Bool) (xf : Bool) (cw : Int64) (ra : Nat) (rb : Nat) (pr : Nat) (w : Int64) (nn : Nat) (ot : Nat) (hn : 1 ≤ nn ∧ nn ≤ 8) (hac : ¬ ra_ac w nn) : wCi l y_Lw_type method_3_code 7 [(0, 13, 16, 13), (0, 13, 20, 15), (0, 13, 24, 17)] rmw_Lw_type_c_1 D (tysA tI tJ tZ) [.ref rz, .int (iI ((1 : Nat) : Int)), .long w, .int (iI ((nn : Nat) : Int)), .ref ot] [(rz, .inr (0, [.ref gr, .ref se, .ref ly, .ref wc, .ref cf, .ref dr, .int (iI (bI (ld = true))), .int (iI (bI (wn = true))), .int (iI (bI (xf = true))), .long cw])), (gr, .inr (1, [.ref ra, .ref rb, .ref pr]))] (fun zz (_ : Unit) => zz = iI (((2 : Nat) : Int))) (fun (_ : Unit) => [(rz, .inr (0, [.ref gr, .ref se, .ref ly, .ref wc, .ref cf, .ref dr, .int (iI (bI (ld = true))), .int (iI (bI (wn = true))), .int (iI (bI (xf = true))), .long cw])), (gr, .inr (1, [.ref ra, .ref rb, .ref pr]))]) := by
  intro sz
  refine w_met (by decide) (Nat.le_of_ble_eq_true rfl) ?_
  intro F p e s m args below meth c Q A hX hT hAe hw9
  subst hAe
  replace hX : rOK F p l e rmw_Lw_type_c_1 s m args below meth c Q method_3_code 7 "RowAlignerLaw" D (tysA tI tJ tZ) _ := hX
  show F 0 [(0, .ref rz), (1, .int (iI ((1 : Nat) : Int))), (2, .long w), (4, .int (iI ((nn : Nat) : Int))), (5, .ref ot)] [] [(rz, .inr (0, [.ref gr, .ref se, .ref ly, .ref wc, .ref cf, .ref dr, .int (iI (bI (ld = true))), .int (iI (bI (wn = true))), .int (iI (bI (xf = true))), .long cw])), (gr, .inr (1, [.ref ra, .ref rb, .ref pr]))] 0 0
  refine r_aload hX 4 d_Lw_type_0 rfl ?_
  refine r_iconstN hX 0 d_Lw_type_2 rfl ?_
  refine r_aload_n hX 0 d_Lw_type_3 rfl ?_
  refine r_iload_n hX 1 d_Lw_type_4 rfl ?_
  refine r_lload_n hX 2 d_Lw_type_5 rfl ?_
  refine r_iload hX 3 d_Lw_type_6 rfl ?_
  refine r_invV_t (st := [.int (iI ((0 : Nat) : Int)), .ref ot]) (As := [.int (iI ((1 : Nat) : Int)), .long w, .int (iI ((nn : Nat) : Int))]) hX hw9 (t_Ra_type_c_1 l hstk D tI tJ tZ rz gr se ly wc cf dr ld wn xf cw ra rb pr w nn hn hac) "RowAligner" 0 0 cf_Ra rfl yn_Ra_type ml_Lw_7 im_Ra_type se_Ra_type co_Ra_type in_Ra (Nat.le_of_ble_eq_true rfl) (Nat.le_of_ble_eq_true rfl) (Nat.le_of_ble_eq_true rfl) (Nat.le_of_ble_eq_true rfl) [0, 1] rfl rfl rfl rfl rfl (Nat.le_of_ble_eq_true rfl) d_Lw_type_8 [(0, 13, 16, 13)] (0, 13, 20, 15) [(0, 13, 24, 17)] rfl (by decide) (by decide) cl_Lw_15 (List.forall_mem_cons.mpr ⟨⟨"java/lang/IndexOutOfBoundsException", (by decide), (by decide), cl_Lw_13, nc_IllegalArgumentException_IndexOutOfBoundsException⟩, (fun _ h => absurd h List.not_mem_nil)⟩) (fun z8 => ?_)
  show F 20 [(0, .ref rz), (1, .int (iI ((1 : Nat) : Int))), (2, .long w), (4, .int (iI ((nn : Nat) : Int))), (5, .ref ot)] [.ref z8] [(rz, .inr (0, [.ref gr, .ref se, .ref ly, .ref wc, .ref cf, .ref dr, .int (iI (bI (ld = true))), .int (iI (bI (wn = true))), .int (iI (bI (xf = true))), .long cw])), (gr, .inr (1, [.ref ra, .ref rb, .ref pr]))] 1 6
  refine r_astore hX (lv' := [(6, .ref z8), (0, .ref rz), (1, .int (iI ((1 : Nat) : Int))), (2, .long w), (4, .int (iI ((nn : Nat) : Int))), (5, .ref ot)]) d_Lw_type_20 (by decide) rfl ?_
  refine r_iconstN hX 2 d_Lw_type_22 rfl ?_
  exact r_iret hX hT () rfl rfl (by decide) (by decide) d_Lw_type_23

abbrev rmw_Lw_type_l_1 : Room := { frames := 7, cells := 1, slots := 6, locals := 116 }
set_option maxHeartbeats 4000000 in
set_option maxRecDepth 100000 in
theorem w_Lw_type_l_1 (l : Launch) (hstk : l.stackTraces = false) (D : va_G) (tI tJ tZ : ClassId) (rz : Nat) (gr : Nat) (se : Nat) (ly : Nat) (wc : Nat) (cf : Nat) (dr : Nat) (ld : Bool) (wn : Bool) (xf : Bool) (cw : Int64) (ra : Nat) (rb : Nat) (pr : Nat) (qa : Nat) (la : Nat) (w : Int64) (nn : Nat) (ot : Nat) (hn : 1 ≤ nn ∧ nn ≤ 8) (hac : ra_ac w nn) (hla : la ≤ 96) (hlen : 96 < la + nn) : wCi l y_Lw_type method_3_code 7 [(0, 13, 16, 13), (0, 13, 20, 15), (0, 13, 24, 17)] rmw_Lw_type_l_1 D (tysA tI tJ tZ) [.ref rz, .int (iI ((1 : Nat) : Int)), .long w, .int (iI ((nn : Nat) : Int)), .ref ot] [(rz, .inr (0, [.ref gr, .ref se, .ref ly, .ref wc, .ref cf, .ref dr, .int (iI (bI (ld = true))), .int (iI (bI (wn = true))), .int (iI (bI (xf = true))), .long cw])), (gr, .inr (1, [.ref ra, .ref rb, .ref pr])), (rb, .inr (2, [.ref qa, .int (iI ((la : Nat) : Int))]))] (fun zz (_ : Unit) => zz = iI (((3 : Nat) : Int))) (fun (_ : Unit) => [(rz, .inr (0, [.ref gr, .ref se, .ref ly, .ref wc, .ref cf, .ref dr, .int (iI (bI (ld = true))), .int (iI (bI (wn = true))), .int (iI (bI (xf = true))), .long cw])), (gr, .inr (1, [.ref ra, .ref rb, .ref pr])), (rb, .inr (2, [.ref qa, .int (iI ((la : Nat) : Int))]))]) := by
  intro sz
  refine w_met (by decide) (Nat.le_of_ble_eq_true rfl) ?_
  intro F p e s m args below meth c Q A hX hT hAe hw9
  subst hAe
  replace hX : rOK F p l e rmw_Lw_type_l_1 s m args below meth c Q method_3_code 7 "RowAlignerLaw" D (tysA tI tJ tZ) _ := hX
  show F 0 [(0, .ref rz), (1, .int (iI ((1 : Nat) : Int))), (2, .long w), (4, .int (iI ((nn : Nat) : Int))), (5, .ref ot)] [] [(rz, .inr (0, [.ref gr, .ref se, .ref ly, .ref wc, .ref cf, .ref dr, .int (iI (bI (ld = true))), .int (iI (bI (wn = true))), .int (iI (bI (xf = true))), .long cw])), (gr, .inr (1, [.ref ra, .ref rb, .ref pr])), (rb, .inr (2, [.ref qa, .int (iI ((la : Nat) : Int))]))] 0 0
  refine r_aload hX 4 d_Lw_type_0 rfl ?_
  refine r_iconstN hX 0 d_Lw_type_2 rfl ?_
  refine r_aload_n hX 0 d_Lw_type_3 rfl ?_
  refine r_iload_n hX 1 d_Lw_type_4 rfl ?_
  refine r_lload_n hX 2 d_Lw_type_5 rfl ?_
  refine r_iload hX 3 d_Lw_type_6 rfl ?_
  refine r_invV_t (st := [.int (iI ((0 : Nat) : Int)), .ref ot]) (As := [.int (iI ((1 : Nat) : Int)), .long w, .int (iI ((nn : Nat) : Int))]) hX hw9 (t_Ra_type_l_1 l hstk D tI tJ tZ rz gr se ly wc cf dr ld wn xf cw ra rb pr qa la w nn hn hac hla hlen) "RowAligner" 0 0 cf_Ra rfl yn_Ra_type ml_Lw_7 im_Ra_type se_Ra_type co_Ra_type in_Ra (Nat.le_of_ble_eq_true rfl) (Nat.le_of_ble_eq_true rfl) (Nat.le_of_ble_eq_true rfl) (Nat.le_of_ble_eq_true rfl) [0, 1, 2] rfl rfl rfl rfl rfl (Nat.le_of_ble_eq_true rfl) d_Lw_type_8 [(0, 13, 16, 13), (0, 13, 20, 15)] (0, 13, 24, 17) [] rfl (by decide) (by decide) cl_Lw_17 (List.forall_mem_cons.mpr ⟨⟨"java/lang/IndexOutOfBoundsException", (by decide), (by decide), cl_Lw_13, nc_IllegalStateException_IndexOutOfBoundsException⟩, (List.forall_mem_cons.mpr ⟨⟨"java/lang/IllegalArgumentException", (by decide), (by decide), cl_Lw_15, nc_IllegalStateException_IllegalArgumentException⟩, (fun _ h => absurd h List.not_mem_nil)⟩)⟩) (fun z8 => ?_)
  show F 24 [(0, .ref rz), (1, .int (iI ((1 : Nat) : Int))), (2, .long w), (4, .int (iI ((nn : Nat) : Int))), (5, .ref ot)] [.ref z8] [(rz, .inr (0, [.ref gr, .ref se, .ref ly, .ref wc, .ref cf, .ref dr, .int (iI (bI (ld = true))), .int (iI (bI (wn = true))), .int (iI (bI (xf = true))), .long cw])), (gr, .inr (1, [.ref ra, .ref rb, .ref pr])), (rb, .inr (2, [.ref qa, .int (iI ((la : Nat) : Int))]))] 1 6
  refine r_astore hX (lv' := [(6, .ref z8), (0, .ref rz), (1, .int (iI ((1 : Nat) : Int))), (2, .long w), (4, .int (iI ((nn : Nat) : Int))), (5, .ref ot)]) d_Lw_type_24 (by decide) rfl ?_
  refine r_iconstN hX 3 d_Lw_type_26 rfl ?_
  exact r_iret hX hT () rfl rfl (by decide) (by decide) d_Lw_type_27

abbrev rmw_Lw_cut_n_1 : Room := { frames := 7, cells := 1, slots := 6, locals := 113 }
set_option maxHeartbeats 4000000 in
set_option maxRecDepth 100000 in
theorem w_Lw_cut_n_1 (l : Launch) (hstk : l.stackTraces = false) (D : va_G) (tI tJ tZ : ClassId) (rz : Nat) (gr : Nat) (se : Nat) (ly : Nat) (wc : Nat) (cf : Nat) (dr : Nat) (ld : Bool) (wn : Bool) (xf : Bool) (cw : Int64) (ra : Nat) (rb : Nat) (pr : Nat) (qa : Nat) (la : Nat) (y : Int) (hla : la ≤ 96) (hy : iR y) (hn : y < 0 ∨ ((la : Nat) : Int) < y) : wCi l y_Lw_cut method_4_code 4 [(0, 6, 9, 13), (0, 6, 12, 15)] rmw_Lw_cut_n_1 D (tysA tI tJ tZ) [.ref rz, .int (iI ((1 : Nat) : Int)), .int (iI y)] [(rz, .inr (0, [.ref gr, .ref se, .ref ly, .ref wc, .ref cf, .ref dr, .int (iI (bI (ld = true))), .int (iI (bI (wn = true))), .int (iI (bI (xf = true))), .long cw])), (gr, .inr (1, [.ref ra, .ref rb, .ref pr])), (rb, .inr (2, [.ref qa, .int (iI ((la : Nat) : Int))]))] (fun zz (_ : Unit) => zz = iI (((2 : Nat) : Int))) (fun (_ : Unit) => [(rz, .inr (0, [.ref gr, .ref se, .ref ly, .ref wc, .ref cf, .ref dr, .int (iI (bI (ld = true))), .int (iI (bI (wn = true))), .int (iI (bI (xf = true))), .long cw])), (gr, .inr (1, [.ref ra, .ref rb, .ref pr])), (rb, .inr (2, [.ref qa, .int (iI ((la : Nat) : Int))]))]) := by
  intro sz
  refine w_met (by decide) (Nat.le_of_ble_eq_true rfl) ?_
  intro F p e s m args below meth c Q A hX hT hAe hw9
  subst hAe
  replace hX : rOK F p l e rmw_Lw_cut_n_1 s m args below meth c Q method_4_code 4 "RowAlignerLaw" D (tysA tI tJ tZ) _ := hX
  show F 0 [(0, .ref rz), (1, .int (iI ((1 : Nat) : Int))), (2, .int (iI y))] [] [(rz, .inr (0, [.ref gr, .ref se, .ref ly, .ref wc, .ref cf, .ref dr, .int (iI (bI (ld = true))), .int (iI (bI (wn = true))), .int (iI (bI (xf = true))), .long cw])), (gr, .inr (1, [.ref ra, .ref rb, .ref pr])), (rb, .inr (2, [.ref qa, .int (iI ((la : Nat) : Int))]))] 0 0
  refine r_aload_n hX 0 d_Lw_cut_0 rfl ?_
  refine r_iload_n hX 1 d_Lw_cut_1 rfl ?_
  refine r_iload_n hX 2 d_Lw_cut_2 rfl ?_
  refine r_invV_t (st := []) (As := [.int (iI ((1 : Nat) : Int)), .int (iI y)]) hX hw9 (t_Ra_cut_n_1 l hstk D tI tJ tZ rz gr se ly wc cf dr ld wn xf cw ra rb pr qa la y hla hy hn) "RowAligner" 0 0 cf_Ra rfl yn_Ra_cut ml_Lw_19 im_Ra_cut se_Ra_cut co_Ra_cut in_Ra (Nat.le_of_ble_eq_true rfl) (Nat.le_of_ble_eq_true rfl) (Nat.le_of_ble_eq_true rfl) (Nat.le_of_ble_eq_true rfl) [0, 1, 2] rfl rfl rfl rfl rfl (Nat.le_of_ble_eq_true rfl) d_Lw_cut_3 [(0, 6, 9, 13)] (0, 6, 12, 15) [] rfl (by decide) (by decide) cl_Lw_15 (List.forall_mem_cons.mpr ⟨⟨"java/lang/IndexOutOfBoundsException", (by decide), (by decide), cl_Lw_13, nc_IllegalArgumentException_IndexOutOfBoundsException⟩, (fun _ h => absurd h List.not_mem_nil)⟩) (fun z3 => ?_)
  show F 12 [(0, .ref rz), (1, .int (iI ((1 : Nat) : Int))), (2, .int (iI y))] [.ref z3] [(rz, .inr (0, [.ref gr, .ref se, .ref ly, .ref wc, .ref cf, .ref dr, .int (iI (bI (ld = true))), .int (iI (bI (wn = true))), .int (iI (bI (xf = true))), .long cw])), (gr, .inr (1, [.ref ra, .ref rb, .ref pr])), (rb, .inr (2, [.ref qa, .int (iI ((la : Nat) : Int))]))] 1 6
  refine r_astore_n hX (lv' := [(3, .ref z3), (0, .ref rz), (1, .int (iI ((1 : Nat) : Int))), (2, .int (iI y))]) d_Lw_cut_12 rfl (by decide) rfl ?_
  refine r_iconstN hX 2 d_Lw_cut_13 rfl ?_
  exact r_iret hX hT () rfl rfl (by decide) (by decide) d_Lw_cut_14

abbrev rmw_Lw_letter_n_1 : Room := { frames := 7, cells := 1, slots := 6, locals := 113 }
set_option maxHeartbeats 4000000 in
set_option maxRecDepth 100000 in
theorem w_Lw_letter_n_1 (l : Launch) (hstk : l.stackTraces = false) (D : va_G) (tI tJ tZ : ClassId) (rz : Nat) (gr : Nat) (se : Nat) (ly : Nat) (wc : Nat) (cf : Nat) (dr : Nat) (ld : Bool) (wn : Bool) (xf : Bool) (cw : Int64) (ra : Nat) (rb : Nat) (pr : Nat) (qa : Nat) (la : Nat) (y : Int) (ot : Nat) (hla : la ≤ 96) (hy : iR y) (hn : y < 0 ∨ ((la : Nat) : Int) ≤ y) : wCi l y_Lw_letter method_6_code 5 [(0, 10, 13, 13)] rmw_Lw_letter_n_1 D (tysA tI tJ tZ) [.ref rz, .int (iI ((1 : Nat) : Int)), .int (iI y), .ref ot] [(rz, .inr (0, [.ref gr, .ref se, .ref ly, .ref wc, .ref cf, .ref dr, .int (iI (bI (ld = true))), .int (iI (bI (wn = true))), .int (iI (bI (xf = true))), .long cw])), (gr, .inr (1, [.ref ra, .ref rb, .ref pr])), (rb, .inr (2, [.ref qa, .int (iI ((la : Nat) : Int))]))] (fun zz (_ : Unit) => zz = iI (((1 : Nat) : Int))) (fun (_ : Unit) => [(rz, .inr (0, [.ref gr, .ref se, .ref ly, .ref wc, .ref cf, .ref dr, .int (iI (bI (ld = true))), .int (iI (bI (wn = true))), .int (iI (bI (xf = true))), .long cw])), (gr, .inr (1, [.ref ra, .ref rb, .ref pr])), (rb, .inr (2, [.ref qa, .int (iI ((la : Nat) : Int))]))]) := by
  intro sz
  refine w_met (by decide) (Nat.le_of_ble_eq_true rfl) ?_
  intro F p e s m args below meth c Q A hX hT hAe hw9
  subst hAe
  replace hX : rOK F p l e rmw_Lw_letter_n_1 s m args below meth c Q method_6_code 5 "RowAlignerLaw" D (tysA tI tJ tZ) _ := hX
  show F 0 [(0, .ref rz), (1, .int (iI ((1 : Nat) : Int))), (2, .int (iI y)), (3, .ref ot)] [] [(rz, .inr (0, [.ref gr, .ref se, .ref ly, .ref wc, .ref cf, .ref dr, .int (iI (bI (ld = true))), .int (iI (bI (wn = true))), .int (iI (bI (xf = true))), .long cw])), (gr, .inr (1, [.ref ra, .ref rb, .ref pr])), (rb, .inr (2, [.ref qa, .int (iI ((la : Nat) : Int))]))] 0 0
  refine r_aload_n hX 3 d_Lw_letter_0 rfl ?_
  refine r_iconstN hX 0 d_Lw_letter_1 rfl ?_
  refine r_aload_n hX 0 d_Lw_letter_2 rfl ?_
  refine r_iload_n hX 1 d_Lw_letter_3 rfl ?_
  refine r_iload_n hX 2 d_Lw_letter_4 rfl ?_
  refine r_invV_t (st := [.int (iI ((0 : Nat) : Int)), .ref ot]) (As := [.int (iI ((1 : Nat) : Int)), .int (iI y)]) hX hw9 (t_Ra_letter_n_1 l hstk D tI tJ tZ rz gr se ly wc cf dr ld wn xf cw ra rb pr qa la y hla hy hn) "RowAligner" 0 0 cf_Ra rfl yn_Ra_letter ml_Lw_27 im_Ra_letter se_Ra_letter co_Ra_letter in_Ra (Nat.le_of_ble_eq_true rfl) (Nat.le_of_ble_eq_true rfl) (Nat.le_of_ble_eq_true rfl) (Nat.le_of_ble_eq_true rfl) [0, 1, 2] rfl rfl rfl rfl rfl (Nat.le_of_ble_eq_true rfl) d_Lw_letter_5 [] (0, 10, 13, 13) [] rfl (by decide) (by decide) cl_Lw_13 (fun _ h => absurd h List.not_mem_nil) (fun z5 => ?_)
  show F 13 [(0, .ref rz), (1, .int (iI ((1 : Nat) : Int))), (2, .int (iI y)), (3, .ref ot)] [.ref z5] [(rz, .inr (0, [.ref gr, .ref se, .ref ly, .ref wc, .ref cf, .ref dr, .int (iI (bI (ld = true))), .int (iI (bI (wn = true))), .int (iI (bI (xf = true))), .long cw])), (gr, .inr (1, [.ref ra, .ref rb, .ref pr])), (rb, .inr (2, [.ref qa, .int (iI ((la : Nat) : Int))]))] 1 6
  refine r_astore hX (lv' := [(4, .ref z5), (0, .ref rz), (1, .int (iI ((1 : Nat) : Int))), (2, .int (iI y)), (3, .ref ot)]) d_Lw_letter_13 (by decide) rfl ?_
  refine r_iconstN hX 1 d_Lw_letter_15 rfl ?_
  exact r_iret hX hT () rfl rfl (by decide) (by decide) d_Lw_letter_16

abbrev rmw_Lw_score_r : Room := { frames := 7, cells := 1, slots := 6, locals := 113 }
set_option maxHeartbeats 4000000 in
set_option maxRecDepth 100000 in
theorem w_Lw_score_r (l : Launch) (hstk : l.stackTraces = false) (D : va_G) (tI tJ tZ : ClassId) (rz : Nat) (gr : Nat) (se : Nat) (ly : Nat) (wc : Nat) (cf : Nat) (dr : Nat) (ld : Bool) (wn : Bool) (xf : Bool) (cw : Int64) (x : Int) (y : Int) (v : Int) (hx : iR x) (hy : iR y) (hr : x < 0 ∨ 26 ≤ x ∨ y < 0 ∨ 26 ≤ y) : wCi l y_Lw_score method_8_code 5 [(0, 7, 10, 13), (0, 7, 14, 15)] rmw_Lw_score_r D (tysA tI tJ tZ) [.ref rz, .int (iI x), .int (iI y), .int (iI v)] [(rz, .inr (0, [.ref gr, .ref se, .ref ly, .ref wc, .ref cf, .ref dr, .int (iI (bI (ld = true))), .int (iI (bI (wn = true))), .int (iI (bI (xf = true))), .long cw]))] (fun zz (_ : Unit) => zz = iI (((1 : Nat) : Int))) (fun (_ : Unit) => [(rz, .inr (0, [.ref gr, .ref se, .ref ly, .ref wc, .ref cf, .ref dr, .int (iI (bI (ld = true))), .int (iI (bI (wn = true))), .int (iI (bI (xf = true))), .long cw]))]) := by
  intro sz
  refine w_met (by decide) (Nat.le_of_ble_eq_true rfl) ?_
  intro F p e s m args below meth c Q A hX hT hAe hw9
  subst hAe
  replace hX : rOK F p l e rmw_Lw_score_r s m args below meth c Q method_8_code 5 "RowAlignerLaw" D (tysA tI tJ tZ) _ := hX
  show F 0 [(0, .ref rz), (1, .int (iI x)), (2, .int (iI y)), (3, .int (iI v))] [] [(rz, .inr (0, [.ref gr, .ref se, .ref ly, .ref wc, .ref cf, .ref dr, .int (iI (bI (ld = true))), .int (iI (bI (wn = true))), .int (iI (bI (xf = true))), .long cw]))] 0 0
  refine r_aload_n hX 0 d_Lw_score_0 rfl ?_
  refine r_iload_n hX 1 d_Lw_score_1 rfl ?_
  refine r_iload_n hX 2 d_Lw_score_2 rfl ?_
  refine r_iload_n hX 3 d_Lw_score_3 rfl ?_
  refine r_invV_t (st := []) (As := [.int (iI x), .int (iI y), .int (iI v)]) hX hw9 (t_Ra_score_r l hstk D tI tJ tZ rz gr se ly wc cf dr ld wn xf cw x y v hx hy hr) "RowAligner" 0 0 cf_Ra rfl yn_Ra_score ml_Lw_35 im_Ra_score se_Ra_score co_Ra_score in_Ra (Nat.le_of_ble_eq_true rfl) (Nat.le_of_ble_eq_true rfl) (Nat.le_of_ble_eq_true rfl) (Nat.le_of_ble_eq_true rfl) [0] rfl rfl rfl rfl rfl (Nat.le_of_ble_eq_true rfl) d_Lw_score_4 [] (0, 7, 10, 13) [(0, 7, 14, 15)] rfl (by decide) (by decide) cl_Lw_13 (fun _ h => absurd h List.not_mem_nil) (fun z4 => ?_)
  show F 10 [(0, .ref rz), (1, .int (iI x)), (2, .int (iI y)), (3, .int (iI v))] [.ref z4] [(rz, .inr (0, [.ref gr, .ref se, .ref ly, .ref wc, .ref cf, .ref dr, .int (iI (bI (ld = true))), .int (iI (bI (wn = true))), .int (iI (bI (xf = true))), .long cw]))] 1 6
  refine r_astore hX (lv' := [(4, .ref z4), (0, .ref rz), (1, .int (iI x)), (2, .int (iI y)), (3, .int (iI v))]) d_Lw_score_10 (by decide) rfl ?_
  refine r_iconstN hX 1 d_Lw_score_12 rfl ?_
  exact r_iret hX hT () rfl rfl (by decide) (by decide) d_Lw_score_13

abbrev rmw_Lw_score_n : Room := { frames := 8, cells := 1, slots := 6, locals := 134 }
set_option maxHeartbeats 4000000 in
set_option maxRecDepth 100000 in
theorem w_Lw_score_n (l : Launch) (hstk : l.stackTraces = false) (D : va_G) (tI tJ tZ : ClassId) (rz : Nat) (gr : Nat) (se : Nat) (ly : Nat) (wc : Nat) (cf : Nat) (dr : Nat) (ld : Bool) (wn : Bool) (xf : Bool) (cw : Int64) (x : Nat) (y : Nat) (v : Int) (hx : x < 26) (hy : y < 26) (hv : iR v) (hr : v < -512 ∨ 512 < v) : wCi l y_Lw_score method_8_code 5 [(0, 7, 10, 13), (0, 7, 14, 15)] rmw_Lw_score_n D (tysA tI tJ tZ) [.ref rz, .int (iI ((x : Nat) : Int)), .int (iI ((y : Nat) : Int)), .int (iI v)] [(rz, .inr (0, [.ref gr, .ref se, .ref ly, .ref wc, .ref cf, .ref dr, .int (iI (bI (ld = true))), .int (iI (bI (wn = true))), .int (iI (bI (xf = true))), .long cw]))] (fun zz (_ : Unit) => zz = iI (((2 : Nat) : Int))) (fun (_ : Unit) => [(rz, .inr (0, [.ref gr, .ref se, .ref ly, .ref wc, .ref cf, .ref dr, .int (iI (bI (ld = true))), .int (iI (bI (wn = true))), .int (iI (bI (xf = true))), .long cw]))]) := by
  intro sz
  refine w_met (by decide) (Nat.le_of_ble_eq_true rfl) ?_
  intro F p e s m args below meth c Q A hX hT hAe hw9
  subst hAe
  replace hX : rOK F p l e rmw_Lw_score_n s m args below meth c Q method_8_code 5 "RowAlignerLaw" D (tysA tI tJ tZ) _ := hX
  show F 0 [(0, .ref rz), (1, .int (iI ((x : Nat) : Int))), (2, .int (iI ((y : Nat) : Int))), (3, .int (iI v))] [] [(rz, .inr (0, [.ref gr, .ref se, .ref ly, .ref wc, .ref cf, .ref dr, .int (iI (bI (ld = true))), .int (iI (bI (wn = true))), .int (iI (bI (xf = true))), .long cw]))] 0 0
  refine r_aload_n hX 0 d_Lw_score_0 rfl ?_
  refine r_iload_n hX 1 d_Lw_score_1 rfl ?_
  refine r_iload_n hX 2 d_Lw_score_2 rfl ?_
  refine r_iload_n hX 3 d_Lw_score_3 rfl ?_
  refine r_invV_t (st := []) (As := [.int (iI ((x : Nat) : Int)), .int (iI ((y : Nat) : Int)), .int (iI v)]) hX hw9 (t_Ra_score_n l hstk D tI tJ tZ rz gr se ly wc cf dr ld wn xf cw x y v hx hy hv hr) "RowAligner" 0 0 cf_Ra rfl yn_Ra_score ml_Lw_35 im_Ra_score se_Ra_score co_Ra_score in_Ra (Nat.le_of_ble_eq_true rfl) (Nat.le_of_ble_eq_true rfl) (Nat.le_of_ble_eq_true rfl) (Nat.le_of_ble_eq_true rfl) [0] rfl rfl rfl rfl rfl (Nat.le_of_ble_eq_true rfl) d_Lw_score_4 [(0, 7, 10, 13)] (0, 7, 14, 15) [] rfl (by decide) (by decide) cl_Lw_15 (List.forall_mem_cons.mpr ⟨⟨"java/lang/IndexOutOfBoundsException", (by decide), (by decide), cl_Lw_13, nc_IllegalArgumentException_IndexOutOfBoundsException⟩, (fun _ h => absurd h List.not_mem_nil)⟩) (fun z4 => ?_)
  show F 14 [(0, .ref rz), (1, .int (iI ((x : Nat) : Int))), (2, .int (iI ((y : Nat) : Int))), (3, .int (iI v))] [.ref z4] [(rz, .inr (0, [.ref gr, .ref se, .ref ly, .ref wc, .ref cf, .ref dr, .int (iI (bI (ld = true))), .int (iI (bI (wn = true))), .int (iI (bI (xf = true))), .long cw]))] 1 6
  refine r_astore hX (lv' := [(4, .ref z4), (0, .ref rz), (1, .int (iI ((x : Nat) : Int))), (2, .int (iI ((y : Nat) : Int))), (3, .int (iI v))]) d_Lw_score_14 (by decide) rfl ?_
  refine r_iconstN hX 2 d_Lw_score_16 rfl ?_
  exact r_iret hX hT () rfl rfl (by decide) (by decide) d_Lw_score_17

abbrev rmw_Lw_scores_a : Room := { frames := 8, cells := 1, slots := 6, locals := 133 }
set_option maxHeartbeats 4000000 in
set_option maxRecDepth 100000 in
theorem w_Lw_scores_a (l : Launch) (hstk : l.stackTraces = false) (D : va_G) (tI tJ tZ : ClassId) (rz : Nat) (gr : Nat) (se : Nat) (ly : Nat) (wc : Nat) (cf : Nat) (dr : Nat) (ld : Bool) (wn : Bool) (xf : Bool) (cw : Int64) (x : Int) (y : Int) (hx : iR x) (hr : x < -512 ∨ 512 < x) : wCi l y_Lw_scores method_9_code 4 [(0, 6, 9, 15)] rmw_Lw_scores_a D (tysA tI tJ tZ) [.ref rz, .int (iI x), .int (iI y)] [(rz, .inr (0, [.ref gr, .ref se, .ref ly, .ref wc, .ref cf, .ref dr, .int (iI (bI (ld = true))), .int (iI (bI (wn = true))), .int (iI (bI (xf = true))), .long cw]))] (fun zz (_ : Unit) => zz = iI (((1 : Nat) : Int))) (fun (_ : Unit) => [(rz, .inr (0, [.ref gr, .ref se, .ref ly, .ref wc, .ref cf, .ref dr, .int (iI (bI (ld = true))), .int (iI (bI (wn = true))), .int (iI (bI (xf = true))), .long cw]))]) := by
  intro sz
  refine w_met (by decide) (Nat.le_of_ble_eq_true rfl) ?_
  intro F p e s m args below meth c Q A hX hT hAe hw9
  subst hAe
  replace hX : rOK F p l e rmw_Lw_scores_a s m args below meth c Q method_9_code 4 "RowAlignerLaw" D (tysA tI tJ tZ) _ := hX
  show F 0 [(0, .ref rz), (1, .int (iI x)), (2, .int (iI y))] [] [(rz, .inr (0, [.ref gr, .ref se, .ref ly, .ref wc, .ref cf, .ref dr, .int (iI (bI (ld = true))), .int (iI (bI (wn = true))), .int (iI (bI (xf = true))), .long cw]))] 0 0
  refine r_aload_n hX 0 d_Lw_scores_0 rfl ?_
  refine r_iload_n hX 1 d_Lw_scores_1 rfl ?_
  refine r_iload_n hX 2 d_Lw_scores_2 rfl ?_
  refine r_invV_t (st := []) (As := [.int (iI x), .int (iI y)]) hX hw9 (t_Ra_scores_a l hstk D tI tJ tZ rz gr se ly wc cf dr ld wn xf cw x y hx hr) "RowAligner" 0 0 cf_Ra rfl yn_Ra_scores ml_Lw_39 im_Ra_scores se_Ra_scores co_Ra_scores in_Ra (Nat.le_of_ble_eq_true rfl) (Nat.le_of_ble_eq_true rfl) (Nat.le_of_ble_eq_true rfl) (Nat.le_of_ble_eq_true rfl) [0] rfl rfl rfl rfl rfl (Nat.le_of_ble_eq_true rfl) d_Lw_scores_3 [] (0, 6, 9, 15) [] rfl (by decide) (by decide) cl_Lw_15 (fun _ h => absurd h List.not_mem_nil) (fun z3 => ?_)
  show F 9 [(0, .ref rz), (1, .int (iI x)), (2, .int (iI y))] [.ref z3] [(rz, .inr (0, [.ref gr, .ref se, .ref ly, .ref wc, .ref cf, .ref dr, .int (iI (bI (ld = true))), .int (iI (bI (wn = true))), .int (iI (bI (xf = true))), .long cw]))] 1 6
  refine r_astore_n hX (lv' := [(3, .ref z3), (0, .ref rz), (1, .int (iI x)), (2, .int (iI y))]) d_Lw_scores_9 rfl (by decide) rfl ?_
  refine r_iconstN hX 1 d_Lw_scores_10 rfl ?_
  exact r_iret hX hT () rfl rfl (by decide) (by decide) d_Lw_scores_11

abbrev rmw_Lw_scores_b : Room := { frames := 8, cells := 1, slots := 6, locals := 133 }
set_option maxHeartbeats 4000000 in
set_option maxRecDepth 100000 in
theorem w_Lw_scores_b (l : Launch) (hstk : l.stackTraces = false) (D : va_G) (tI tJ tZ : ClassId) (rz : Nat) (gr : Nat) (se : Nat) (ly : Nat) (wc : Nat) (cf : Nat) (dr : Nat) (ld : Bool) (wn : Bool) (xf : Bool) (cw : Int64) (x : Int) (y : Int) (hx : -512 ≤ x ∧ x ≤ 512) (hy : iR y) (hr : y < -512 ∨ 512 < y) : wCi l y_Lw_scores method_9_code 4 [(0, 6, 9, 15)] rmw_Lw_scores_b D (tysA tI tJ tZ) [.ref rz, .int (iI x), .int (iI y)] [(rz, .inr (0, [.ref gr, .ref se, .ref ly, .ref wc, .ref cf, .ref dr, .int (iI (bI (ld = true))), .int (iI (bI (wn = true))), .int (iI (bI (xf = true))), .long cw]))] (fun zz (_ : Unit) => zz = iI (((1 : Nat) : Int))) (fun (_ : Unit) => [(rz, .inr (0, [.ref gr, .ref se, .ref ly, .ref wc, .ref cf, .ref dr, .int (iI (bI (ld = true))), .int (iI (bI (wn = true))), .int (iI (bI (xf = true))), .long cw]))]) := by
  intro sz
  refine w_met (by decide) (Nat.le_of_ble_eq_true rfl) ?_
  intro F p e s m args below meth c Q A hX hT hAe hw9
  subst hAe
  replace hX : rOK F p l e rmw_Lw_scores_b s m args below meth c Q method_9_code 4 "RowAlignerLaw" D (tysA tI tJ tZ) _ := hX
  show F 0 [(0, .ref rz), (1, .int (iI x)), (2, .int (iI y))] [] [(rz, .inr (0, [.ref gr, .ref se, .ref ly, .ref wc, .ref cf, .ref dr, .int (iI (bI (ld = true))), .int (iI (bI (wn = true))), .int (iI (bI (xf = true))), .long cw]))] 0 0
  refine r_aload_n hX 0 d_Lw_scores_0 rfl ?_
  refine r_iload_n hX 1 d_Lw_scores_1 rfl ?_
  refine r_iload_n hX 2 d_Lw_scores_2 rfl ?_
  refine r_invV_t (st := []) (As := [.int (iI x), .int (iI y)]) hX hw9 (t_Ra_scores_b l hstk D tI tJ tZ rz gr se ly wc cf dr ld wn xf cw x y hx hy hr) "RowAligner" 0 0 cf_Ra rfl yn_Ra_scores ml_Lw_39 im_Ra_scores se_Ra_scores co_Ra_scores in_Ra (Nat.le_of_ble_eq_true rfl) (Nat.le_of_ble_eq_true rfl) (Nat.le_of_ble_eq_true rfl) (Nat.le_of_ble_eq_true rfl) [0] rfl rfl rfl rfl rfl (Nat.le_of_ble_eq_true rfl) d_Lw_scores_3 [] (0, 6, 9, 15) [] rfl (by decide) (by decide) cl_Lw_15 (fun _ h => absurd h List.not_mem_nil) (fun z3 => ?_)
  show F 9 [(0, .ref rz), (1, .int (iI x)), (2, .int (iI y))] [.ref z3] [(rz, .inr (0, [.ref gr, .ref se, .ref ly, .ref wc, .ref cf, .ref dr, .int (iI (bI (ld = true))), .int (iI (bI (wn = true))), .int (iI (bI (xf = true))), .long cw]))] 1 6
  refine r_astore_n hX (lv' := [(3, .ref z3), (0, .ref rz), (1, .int (iI x)), (2, .int (iI y))]) d_Lw_scores_9 rfl (by decide) rfl ?_
  refine r_iconstN hX 1 d_Lw_scores_10 rfl ?_
  exact r_iret hX hT () rfl rfl (by decide) (by decide) d_Lw_scores_11

abbrev rmw_Lw_costs_a : Room := { frames := 8, cells := 1, slots := 6, locals := 133 }
set_option maxHeartbeats 4000000 in
set_option maxRecDepth 100000 in
theorem w_Lw_costs_a (l : Launch) (hstk : l.stackTraces = false) (D : va_G) (tI tJ tZ : ClassId) (rz : Nat) (gr : Nat) (se : Nat) (ly : Nat) (wc : Nat) (cf : Nat) (dr : Nat) (ld : Bool) (wn : Bool) (xf : Bool) (cw : Int64) (x : Int) (y : Int) (hx : iR x) (hr : x < 0 ∨ 512 < x) : wCi l y_Lw_costs method_10_code 4 [(0, 6, 9, 15)] rmw_Lw_costs_a D (tysA tI tJ tZ) [.ref rz, .int (iI x), .int (iI y)] [(rz, .inr (0, [.ref gr, .ref se, .ref ly, .ref wc, .ref cf, .ref dr, .int (iI (bI (ld = true))), .int (iI (bI (wn = true))), .int (iI (bI (xf = true))), .long cw]))] (fun zz (_ : Unit) => zz = iI (((1 : Nat) : Int))) (fun (_ : Unit) => [(rz, .inr (0, [.ref gr, .ref se, .ref ly, .ref wc, .ref cf, .ref dr, .int (iI (bI (ld = true))), .int (iI (bI (wn = true))), .int (iI (bI (xf = true))), .long cw]))]) := by
  intro sz
  refine w_met (by decide) (Nat.le_of_ble_eq_true rfl) ?_
  intro F p e s m args below meth c Q A hX hT hAe hw9
  subst hAe
  replace hX : rOK F p l e rmw_Lw_costs_a s m args below meth c Q method_10_code 4 "RowAlignerLaw" D (tysA tI tJ tZ) _ := hX
  show F 0 [(0, .ref rz), (1, .int (iI x)), (2, .int (iI y))] [] [(rz, .inr (0, [.ref gr, .ref se, .ref ly, .ref wc, .ref cf, .ref dr, .int (iI (bI (ld = true))), .int (iI (bI (wn = true))), .int (iI (bI (xf = true))), .long cw]))] 0 0
  refine r_aload_n hX 0 d_Lw_costs_0 rfl ?_
  refine r_iload_n hX 1 d_Lw_costs_1 rfl ?_
  refine r_iload_n hX 2 d_Lw_costs_2 rfl ?_
  refine r_invV_t (st := []) (As := [.int (iI x), .int (iI y)]) hX hw9 (t_Ra_costs_a l hstk D tI tJ tZ rz gr se ly wc cf dr ld wn xf cw x y hx hr) "RowAligner" 0 0 cf_Ra rfl yn_Ra_costs ml_Lw_42 im_Ra_costs se_Ra_costs co_Ra_costs in_Ra (Nat.le_of_ble_eq_true rfl) (Nat.le_of_ble_eq_true rfl) (Nat.le_of_ble_eq_true rfl) (Nat.le_of_ble_eq_true rfl) [0] rfl rfl rfl rfl rfl (Nat.le_of_ble_eq_true rfl) d_Lw_costs_3 [] (0, 6, 9, 15) [] rfl (by decide) (by decide) cl_Lw_15 (fun _ h => absurd h List.not_mem_nil) (fun z3 => ?_)
  show F 9 [(0, .ref rz), (1, .int (iI x)), (2, .int (iI y))] [.ref z3] [(rz, .inr (0, [.ref gr, .ref se, .ref ly, .ref wc, .ref cf, .ref dr, .int (iI (bI (ld = true))), .int (iI (bI (wn = true))), .int (iI (bI (xf = true))), .long cw]))] 1 6
  refine r_astore_n hX (lv' := [(3, .ref z3), (0, .ref rz), (1, .int (iI x)), (2, .int (iI y))]) d_Lw_costs_9 rfl (by decide) rfl ?_
  refine r_iconstN hX 1 d_Lw_costs_10 rfl ?_
  exact r_iret hX hT () rfl rfl (by decide) (by decide) d_Lw_costs_11

abbrev rmw_Lw_costs_b : Room := { frames := 8, cells := 1, slots := 6, locals := 133 }
set_option maxHeartbeats 4000000 in
set_option maxRecDepth 100000 in
theorem w_Lw_costs_b (l : Launch) (hstk : l.stackTraces = false) (D : va_G) (tI tJ tZ : ClassId) (rz : Nat) (gr : Nat) (se : Nat) (ly : Nat) (wc : Nat) (cf : Nat) (dr : Nat) (ld : Bool) (wn : Bool) (xf : Bool) (cw : Int64) (x : Int) (y : Int) (hx : 0 ≤ x ∧ x ≤ 512) (hy : iR y) (hr : y < 0 ∨ 512 < y) : wCi l y_Lw_costs method_10_code 4 [(0, 6, 9, 15)] rmw_Lw_costs_b D (tysA tI tJ tZ) [.ref rz, .int (iI x), .int (iI y)] [(rz, .inr (0, [.ref gr, .ref se, .ref ly, .ref wc, .ref cf, .ref dr, .int (iI (bI (ld = true))), .int (iI (bI (wn = true))), .int (iI (bI (xf = true))), .long cw]))] (fun zz (_ : Unit) => zz = iI (((1 : Nat) : Int))) (fun (_ : Unit) => [(rz, .inr (0, [.ref gr, .ref se, .ref ly, .ref wc, .ref cf, .ref dr, .int (iI (bI (ld = true))), .int (iI (bI (wn = true))), .int (iI (bI (xf = true))), .long cw]))]) := by
  intro sz
  refine w_met (by decide) (Nat.le_of_ble_eq_true rfl) ?_
  intro F p e s m args below meth c Q A hX hT hAe hw9
  subst hAe
  replace hX : rOK F p l e rmw_Lw_costs_b s m args below meth c Q method_10_code 4 "RowAlignerLaw" D (tysA tI tJ tZ) _ := hX
  show F 0 [(0, .ref rz), (1, .int (iI x)), (2, .int (iI y))] [] [(rz, .inr (0, [.ref gr, .ref se, .ref ly, .ref wc, .ref cf, .ref dr, .int (iI (bI (ld = true))), .int (iI (bI (wn = true))), .int (iI (bI (xf = true))), .long cw]))] 0 0
  refine r_aload_n hX 0 d_Lw_costs_0 rfl ?_
  refine r_iload_n hX 1 d_Lw_costs_1 rfl ?_
  refine r_iload_n hX 2 d_Lw_costs_2 rfl ?_
  refine r_invV_t (st := []) (As := [.int (iI x), .int (iI y)]) hX hw9 (t_Ra_costs_b l hstk D tI tJ tZ rz gr se ly wc cf dr ld wn xf cw x y hx hy hr) "RowAligner" 0 0 cf_Ra rfl yn_Ra_costs ml_Lw_42 im_Ra_costs se_Ra_costs co_Ra_costs in_Ra (Nat.le_of_ble_eq_true rfl) (Nat.le_of_ble_eq_true rfl) (Nat.le_of_ble_eq_true rfl) (Nat.le_of_ble_eq_true rfl) [0] rfl rfl rfl rfl rfl (Nat.le_of_ble_eq_true rfl) d_Lw_costs_3 [] (0, 6, 9, 15) [] rfl (by decide) (by decide) cl_Lw_15 (fun _ h => absurd h List.not_mem_nil) (fun z3 => ?_)
  show F 9 [(0, .ref rz), (1, .int (iI x)), (2, .int (iI y))] [.ref z3] [(rz, .inr (0, [.ref gr, .ref se, .ref ly, .ref wc, .ref cf, .ref dr, .int (iI (bI (ld = true))), .int (iI (bI (wn = true))), .int (iI (bI (xf = true))), .long cw]))] 1 6
  refine r_astore_n hX (lv' := [(3, .ref z3), (0, .ref rz), (1, .int (iI x)), (2, .int (iI y))]) d_Lw_costs_9 rfl (by decide) rfl ?_
  refine r_iconstN hX 1 d_Lw_costs_10 rfl ?_
  exact r_iret hX hT () rfl rfl (by decide) (by decide) d_Lw_costs_11

abbrev rmw_Lw_whole_r : Room := { frames := 8, cells := 1, slots := 6, locals := 131 }
set_option maxHeartbeats 4000000 in
set_option maxRecDepth 100000 in
theorem w_Lw_whole_r (l : Launch) (hstk : l.stackTraces = false) (D : va_G) (tI tJ tZ : ClassId) (rz : Nat) (gr : Nat) (se : Nat) (ly : Nat) (wc : Nat) (cf : Nat) (dr : Nat) (ld : Bool) (wn : Bool) (xf : Bool) (cw : Int64) (x : Int) (ot : Nat) (hx : iR x) (hr : x < 0 ∨ 15 < x) : wCi l y_Lw_whole method_11_code 4 [(0, 9, 12, 15)] rmw_Lw_whole_r D (tysA tI tJ tZ) [.ref rz, .int (iI x), .ref ot] [(rz, .inr (0, [.ref gr, .ref se, .ref ly, .ref wc, .ref cf, .ref dr, .int (iI (bI (ld = true))), .int (iI (bI (wn = true))), .int (iI (bI (xf = true))), .long cw]))] (fun zz (_ : Unit) => zz = iI (((1 : Nat) : Int))) (fun (_ : Unit) => [(rz, .inr (0, [.ref gr, .ref se, .ref ly, .ref wc, .ref cf, .ref dr, .int (iI (bI (ld = true))), .int (iI (bI (wn = true))), .int (iI (bI (xf = true))), .long cw]))]) := by
  intro sz
  refine w_met (by decide) (Nat.le_of_ble_eq_true rfl) ?_
  intro F p e s m args below meth c Q A hX hT hAe hw9
  subst hAe
  replace hX : rOK F p l e rmw_Lw_whole_r s m args below meth c Q method_11_code 4 "RowAlignerLaw" D (tysA tI tJ tZ) _ := hX
  show F 0 [(0, .ref rz), (1, .int (iI x)), (2, .ref ot)] [] [(rz, .inr (0, [.ref gr, .ref se, .ref ly, .ref wc, .ref cf, .ref dr, .int (iI (bI (ld = true))), .int (iI (bI (wn = true))), .int (iI (bI (xf = true))), .long cw]))] 0 0
  refine r_aload_n hX 2 d_Lw_whole_0 rfl ?_
  refine r_iconstN hX 0 d_Lw_whole_1 rfl ?_
  refine r_aload_n hX 0 d_Lw_whole_2 rfl ?_
  refine r_iload_n hX 1 d_Lw_whole_3 rfl ?_
  refine r_invV_t (st := [.int (iI ((0 : Nat) : Int)), .ref ot]) (As := [.int (iI x)]) hX hw9 (t_Ra_whole_r l hstk D tI tJ tZ rz gr se ly wc cf dr ld wn xf cw x hx hr) "RowAligner" 0 0 cf_Ra rfl yn_Ra_whole ml_Lw_45 im_Ra_whole se_Ra_whole co_Ra_whole in_Ra (Nat.le_of_ble_eq_true rfl) (Nat.le_of_ble_eq_true rfl) (Nat.le_of_ble_eq_true rfl) (Nat.le_of_ble_eq_true rfl) [0] rfl rfl rfl rfl rfl (Nat.le_of_ble_eq_true rfl) d_Lw_whole_4 [] (0, 9, 12, 15) [] rfl (by decide) (by decide) cl_Lw_15 (fun _ h => absurd h List.not_mem_nil) (fun z4 => ?_)
  show F 12 [(0, .ref rz), (1, .int (iI x)), (2, .ref ot)] [.ref z4] [(rz, .inr (0, [.ref gr, .ref se, .ref ly, .ref wc, .ref cf, .ref dr, .int (iI (bI (ld = true))), .int (iI (bI (wn = true))), .int (iI (bI (xf = true))), .long cw]))] 1 6
  refine r_astore_n hX (lv' := [(3, .ref z4), (0, .ref rz), (1, .int (iI x)), (2, .ref ot)]) d_Lw_whole_12 rfl (by decide) rfl ?_
  refine r_iconstN hX 1 d_Lw_whole_13 rfl ?_
  exact r_iret hX hT () rfl rfl (by decide) (by decide) d_Lw_whole_14

abbrev rmw_Lw_worth_r : Room := { frames := 8, cells := 1, slots := 6, locals := 131 }
set_option maxHeartbeats 4000000 in
set_option maxRecDepth 100000 in
theorem w_Lw_worth_r (l : Launch) (hstk : l.stackTraces = false) (D : va_G) (tI tJ tZ : ClassId) (rz : Nat) (gr : Nat) (se : Nat) (ly : Nat) (wc : Nat) (cf : Nat) (dr : Nat) (ld : Bool) (wn : Bool) (xf : Bool) (cw : Int64) (x : Int) (ot : Nat) (hx : iR x) (hr : x < 0 ∨ 15 < x) : wCi l y_Lw_worth method_20_code 4 [(0, 9, 12, 15)] rmw_Lw_worth_r D (tysA tI tJ tZ) [.ref rz, .int (iI x), .ref ot] [(rz, .inr (0, [.ref gr, .ref se, .ref ly, .ref wc, .ref cf, .ref dr, .int (iI (bI (ld = true))), .int (iI (bI (wn = true))), .int (iI (bI (xf = true))), .long cw]))] (fun zz (_ : Unit) => zz = iI (((1 : Nat) : Int))) (fun (_ : Unit) => [(rz, .inr (0, [.ref gr, .ref se, .ref ly, .ref wc, .ref cf, .ref dr, .int (iI (bI (ld = true))), .int (iI (bI (wn = true))), .int (iI (bI (xf = true))), .long cw]))]) := by
  intro sz
  refine w_met (by decide) (Nat.le_of_ble_eq_true rfl) ?_
  intro F p e s m args below meth c Q A hX hT hAe hw9
  subst hAe
  replace hX : rOK F p l e rmw_Lw_worth_r s m args below meth c Q method_20_code 4 "RowAlignerLaw" D (tysA tI tJ tZ) _ := hX
  show F 0 [(0, .ref rz), (1, .int (iI x)), (2, .ref ot)] [] [(rz, .inr (0, [.ref gr, .ref se, .ref ly, .ref wc, .ref cf, .ref dr, .int (iI (bI (ld = true))), .int (iI (bI (wn = true))), .int (iI (bI (xf = true))), .long cw]))] 0 0
  refine r_aload_n hX 2 d_Lw_worth_0 rfl ?_
  refine r_iconstN hX 0 d_Lw_worth_1 rfl ?_
  refine r_aload_n hX 0 d_Lw_worth_2 rfl ?_
  refine r_iload_n hX 1 d_Lw_worth_3 rfl ?_
  refine r_invV_t (st := [.int (iI ((0 : Nat) : Int)), .ref ot]) (As := [.int (iI x)]) hX hw9 (t_Ra_worth_r l hstk D tI tJ tZ rz gr se ly wc cf dr ld wn xf cw x hx hr) "RowAligner" 0 0 cf_Ra rfl yn_Ra_worth ml_Lw_75 im_Ra_worth se_Ra_worth co_Ra_worth in_Ra (Nat.le_of_ble_eq_true rfl) (Nat.le_of_ble_eq_true rfl) (Nat.le_of_ble_eq_true rfl) (Nat.le_of_ble_eq_true rfl) [0] rfl rfl rfl rfl rfl (Nat.le_of_ble_eq_true rfl) d_Lw_worth_4 [] (0, 9, 12, 15) [] rfl (by decide) (by decide) cl_Lw_15 (fun _ h => absurd h List.not_mem_nil) (fun z4 => ?_)
  show F 12 [(0, .ref rz), (1, .int (iI x)), (2, .ref ot)] [.ref z4] [(rz, .inr (0, [.ref gr, .ref se, .ref ly, .ref wc, .ref cf, .ref dr, .int (iI (bI (ld = true))), .int (iI (bI (wn = true))), .int (iI (bI (xf = true))), .long cw]))] 1 6
  refine r_astore_n hX (lv' := [(3, .ref z4), (0, .ref rz), (1, .int (iI x)), (2, .ref ot)]) d_Lw_worth_12 rfl (by decide) rfl ?_
  refine r_iconstN hX 1 d_Lw_worth_13 rfl ?_
  exact r_iret hX hT () rfl rfl (by decide) (by decide) d_Lw_worth_14

abbrev rmw_Lw_steps_n : Room := { frames := 8, cells := 1, slots := 6, locals := 130 }
set_option maxHeartbeats 4000000 in
set_option maxRecDepth 100000 in
theorem w_Lw_steps_n (l : Launch) (hstk : l.stackTraces = false) (D : va_G) (tI tJ tZ : ClassId) (rz : Nat) (gr : Nat) (se : Nat) (ly : Nat) (wc : Nat) (cf : Nat) (dr : Nat) (ld : Bool) (wn : Bool) (xf : Bool) (cw : Int64) (ot : Nat) (hl : ¬ ld = true) : wCi l y_Lw_steps method_12_code 3 [(0, 8, 11, 17)] rmw_Lw_steps_n D (tysA tI tJ tZ) [.ref rz, .ref ot] [(rz, .inr (0, [.ref gr, .ref se, .ref ly, .ref wc, .ref cf, .ref dr, .int (iI (bI (ld = true))), .int (iI (bI (wn = true))), .int (iI (bI (xf = true))), .long cw]))] (fun zz (_ : Unit) => zz = iI (((1 : Nat) : Int))) (fun (_ : Unit) => [(rz, .inr (0, [.ref gr, .ref se, .ref ly, .ref wc, .ref cf, .ref dr, .int (iI (bI (ld = true))), .int (iI (bI (wn = true))), .int (iI (bI (xf = true))), .long cw]))]) := by
  intro sz
  refine w_met (by decide) (Nat.le_of_ble_eq_true rfl) ?_
  intro F p e s m args below meth c Q A hX hT hAe hw9
  subst hAe
  replace hX : rOK F p l e rmw_Lw_steps_n s m args below meth c Q method_12_code 3 "RowAlignerLaw" D (tysA tI tJ tZ) _ := hX
  show F 0 [(0, .ref rz), (1, .ref ot)] [] [(rz, .inr (0, [.ref gr, .ref se, .ref ly, .ref wc, .ref cf, .ref dr, .int (iI (bI (ld = true))), .int (iI (bI (wn = true))), .int (iI (bI (xf = true))), .long cw]))] 0 0
  refine r_aload_n hX 1 d_Lw_steps_0 rfl ?_
  refine r_iconstN hX 0 d_Lw_steps_1 rfl ?_
  refine r_aload_n hX 0 d_Lw_steps_2 rfl ?_
  refine r_invV_t (st := [.int (iI ((0 : Nat) : Int)), .ref ot]) (As := []) hX hw9 (t_Ra_steps_n l hstk D tI tJ tZ rz gr se ly wc cf dr ld wn xf cw hl) "RowAligner" 0 0 cf_Ra rfl yn_Ra_steps ml_Lw_48 im_Ra_steps se_Ra_steps co_Ra_steps in_Ra (Nat.le_of_ble_eq_true rfl) (Nat.le_of_ble_eq_true rfl) (Nat.le_of_ble_eq_true rfl) (Nat.le_of_ble_eq_true rfl) [0] rfl rfl rfl rfl rfl (Nat.le_of_ble_eq_true rfl) d_Lw_steps_3 [] (0, 8, 11, 17) [] rfl (by decide) (by decide) cl_Lw_17 (fun _ h => absurd h List.not_mem_nil) (fun z3 => ?_)
  show F 11 [(0, .ref rz), (1, .ref ot)] [.ref z3] [(rz, .inr (0, [.ref gr, .ref se, .ref ly, .ref wc, .ref cf, .ref dr, .int (iI (bI (ld = true))), .int (iI (bI (wn = true))), .int (iI (bI (xf = true))), .long cw]))] 1 6
  refine r_astore_n hX (lv' := [(2, .ref z3), (0, .ref rz), (1, .ref ot)]) d_Lw_steps_11 rfl (by decide) rfl ?_
  refine r_iconstN hX 1 d_Lw_steps_12 rfl ?_
  exact r_iret hX hT () rfl rfl (by decide) (by decide) d_Lw_steps_13

abbrev rmw_Lw_step_n : Room := { frames := 8, cells := 1, slots := 6, locals := 131 }
set_option maxHeartbeats 4000000 in
set_option maxRecDepth 100000 in
theorem w_Lw_step_n (l : Launch) (hstk : l.stackTraces = false) (D : va_G) (tI tJ tZ : ClassId) (rz : Nat) (gr : Nat) (se : Nat) (ly : Nat) (wc : Nat) (cf : Nat) (dr : Nat) (ld : Bool) (wn : Bool) (xf : Bool) (cw : Int64) (x : Int) (ot : Nat) (hl : ¬ ld = true) : wCi l y_Lw_step method_13_code 4 [(0, 9, 12, 17), (0, 9, 15, 13)] rmw_Lw_step_n D (tysA tI tJ tZ) [.ref rz, .int (iI x), .ref ot] [(rz, .inr (0, [.ref gr, .ref se, .ref ly, .ref wc, .ref cf, .ref dr, .int (iI (bI (ld = true))), .int (iI (bI (wn = true))), .int (iI (bI (xf = true))), .long cw]))] (fun zz (_ : Unit) => zz = iI (((1 : Nat) : Int))) (fun (_ : Unit) => [(rz, .inr (0, [.ref gr, .ref se, .ref ly, .ref wc, .ref cf, .ref dr, .int (iI (bI (ld = true))), .int (iI (bI (wn = true))), .int (iI (bI (xf = true))), .long cw]))]) := by
  intro sz
  refine w_met (by decide) (Nat.le_of_ble_eq_true rfl) ?_
  intro F p e s m args below meth c Q A hX hT hAe hw9
  subst hAe
  replace hX : rOK F p l e rmw_Lw_step_n s m args below meth c Q method_13_code 4 "RowAlignerLaw" D (tysA tI tJ tZ) _ := hX
  show F 0 [(0, .ref rz), (1, .int (iI x)), (2, .ref ot)] [] [(rz, .inr (0, [.ref gr, .ref se, .ref ly, .ref wc, .ref cf, .ref dr, .int (iI (bI (ld = true))), .int (iI (bI (wn = true))), .int (iI (bI (xf = true))), .long cw]))] 0 0
  refine r_aload_n hX 2 d_Lw_step_0 rfl ?_
  refine r_iconstN hX 0 d_Lw_step_1 rfl ?_
  refine r_aload_n hX 0 d_Lw_step_2 rfl ?_
  refine r_iload_n hX 1 d_Lw_step_3 rfl ?_
  refine r_invV_t (st := [.int (iI ((0 : Nat) : Int)), .ref ot]) (As := [.int (iI x)]) hX hw9 (t_Ra_step_n l hstk D tI tJ tZ rz gr se ly wc cf dr ld wn xf cw x hl) "RowAligner" 0 0 cf_Ra rfl yn_Ra_step ml_Lw_52 im_Ra_step se_Ra_step co_Ra_step in_Ra (Nat.le_of_ble_eq_true rfl) (Nat.le_of_ble_eq_true rfl) (Nat.le_of_ble_eq_true rfl) (Nat.le_of_ble_eq_true rfl) [0] rfl rfl rfl rfl rfl (Nat.le_of_ble_eq_true rfl) d_Lw_step_4 [] (0, 9, 12, 17) [(0, 9, 15, 13)] rfl (by decide) (by decide) cl_Lw_17 (fun _ h => absurd h List.not_mem_nil) (fun z4 => ?_)
  show F 12 [(0, .ref rz), (1, .int (iI x)), (2, .ref ot)] [.ref z4] [(rz, .inr (0, [.ref gr, .ref se, .ref ly, .ref wc, .ref cf, .ref dr, .int (iI (bI (ld = true))), .int (iI (bI (wn = true))), .int (iI (bI (xf = true))), .long cw]))] 1 6
  refine r_astore_n hX (lv' := [(3, .ref z4), (0, .ref rz), (1, .int (iI x)), (2, .ref ot)]) d_Lw_step_12 rfl (by decide) rfl ?_
  refine r_iconstN hX 1 d_Lw_step_13 rfl ?_
  exact r_iret hX hT () rfl rfl (by decide) (by decide) d_Lw_step_14

abbrev rmw_Lw_step_i : Room := { frames := 7, cells := 1, slots := 6, locals := 111 }
set_option maxHeartbeats 4000000 in
set_option maxRecDepth 100000 in
theorem w_Lw_step_i (l : Launch) (hstk : l.stackTraces = false) (D : va_G) (tI tJ tZ : ClassId) (rz : Nat) (gr : Nat) (se : Nat) (ly : Nat) (wc : Nat) (cf : Nat) (dr : Nat) (ld : Bool) (wn : Bool) (xf : Bool) (cw : Int64) (st9 : Nat) (ln : Nat) (sa : Nat) (sb : Nat) (ea : Nat) (eb : Nat) (d : Nat → Nat) (x : Int) (ot : Nat) (hl : ld = true) (hx : iR x) (hs : ln ≤ 192) (hn : x < 0 ∨ ((ln : Nat) : Int) ≤ x) : wCi l y_Lw_step method_13_code 4 [(0, 9, 12, 17), (0, 9, 15, 13)] rmw_Lw_step_i D (tysA tI tJ tZ) [.ref rz, .int (iI x), .ref ot] [(rz, .inr (0, [.ref gr, .ref se, .ref ly, .ref wc, .ref cf, .ref dr, .int (iI (bI (ld = true))), .int (iI (bI (wn = true))), .int (iI (bI (xf = true))), .long cw])), (ly, .inr (6, [.ref st9, .int (iI ((ln : Nat) : Int)), .int (iI ((sa : Nat) : Int)), .int (iI ((sb : Nat) : Int)), .int (iI ((ea : Nat) : Int)), .int (iI ((eb : Nat) : Int))])), (st9, .inl (tI, 192, .inl (iA (iN d))))] (fun zz (_ : Unit) => zz = iI (((2 : Nat) : Int))) (fun (_ : Unit) => [(rz, .inr (0, [.ref gr, .ref se, .ref ly, .ref wc, .ref cf, .ref dr, .int (iI (bI (ld = true))), .int (iI (bI (wn = true))), .int (iI (bI (xf = true))), .long cw])), (ly, .inr (6, [.ref st9, .int (iI ((ln : Nat) : Int)), .int (iI ((sa : Nat) : Int)), .int (iI ((sb : Nat) : Int)), .int (iI ((ea : Nat) : Int)), .int (iI ((eb : Nat) : Int))])), (st9, .inl (tI, 192, .inl (iA (iN d))))]) := by
  intro sz
  refine w_met (by decide) (Nat.le_of_ble_eq_true rfl) ?_
  intro F p e s m args below meth c Q A hX hT hAe hw9
  subst hAe
  replace hX : rOK F p l e rmw_Lw_step_i s m args below meth c Q method_13_code 4 "RowAlignerLaw" D (tysA tI tJ tZ) _ := hX
  show F 0 [(0, .ref rz), (1, .int (iI x)), (2, .ref ot)] [] [(rz, .inr (0, [.ref gr, .ref se, .ref ly, .ref wc, .ref cf, .ref dr, .int (iI (bI (ld = true))), .int (iI (bI (wn = true))), .int (iI (bI (xf = true))), .long cw])), (ly, .inr (6, [.ref st9, .int (iI ((ln : Nat) : Int)), .int (iI ((sa : Nat) : Int)), .int (iI ((sb : Nat) : Int)), .int (iI ((ea : Nat) : Int)), .int (iI ((eb : Nat) : Int))])), (st9, .inl (tI, 192, .inl (iA (iN d))))] 0 0
  refine r_aload_n hX 2 d_Lw_step_0 rfl ?_
  refine r_iconstN hX 0 d_Lw_step_1 rfl ?_
  refine r_aload_n hX 0 d_Lw_step_2 rfl ?_
  refine r_iload_n hX 1 d_Lw_step_3 rfl ?_
  refine r_invV_t (st := [.int (iI ((0 : Nat) : Int)), .ref ot]) (As := [.int (iI x)]) hX hw9 (t_Ra_step_i l hstk D tI tJ tZ rz gr se ly wc cf dr ld wn xf cw st9 ln sa sb ea eb d x hl hx hs hn) "RowAligner" 0 0 cf_Ra rfl yn_Ra_step ml_Lw_52 im_Ra_step se_Ra_step co_Ra_step in_Ra (Nat.le_of_ble_eq_true rfl) (Nat.le_of_ble_eq_true rfl) (Nat.le_of_ble_eq_true rfl) (Nat.le_of_ble_eq_true rfl) [0, 1, 2] rfl rfl rfl rfl rfl (Nat.le_of_ble_eq_true rfl) d_Lw_step_4 [(0, 9, 12, 17)] (0, 9, 15, 13) [] rfl (by decide) (by decide) cl_Lw_13 (List.forall_mem_cons.mpr ⟨⟨"java/lang/IllegalStateException", (by decide), (by decide), cl_Lw_17, nc_IndexOutOfBoundsException_IllegalStateException⟩, (fun _ h => absurd h List.not_mem_nil)⟩) (fun z4 => ?_)
  show F 15 [(0, .ref rz), (1, .int (iI x)), (2, .ref ot)] [.ref z4] [(rz, .inr (0, [.ref gr, .ref se, .ref ly, .ref wc, .ref cf, .ref dr, .int (iI (bI (ld = true))), .int (iI (bI (wn = true))), .int (iI (bI (xf = true))), .long cw])), (ly, .inr (6, [.ref st9, .int (iI ((ln : Nat) : Int)), .int (iI ((sa : Nat) : Int)), .int (iI ((sb : Nat) : Int)), .int (iI ((ea : Nat) : Int)), .int (iI ((eb : Nat) : Int))])), (st9, .inl (tI, 192, .inl (iA (iN d))))] 1 6
  refine r_astore_n hX (lv' := [(3, .ref z4), (0, .ref rz), (1, .int (iI x)), (2, .ref ot)]) d_Lw_step_15 rfl (by decide) rfl ?_
  refine r_iconstN hX 2 d_Lw_step_16 rfl ?_
  exact r_iret hX hT () rfl rfl (by decide) (by decide) d_Lw_step_17

abbrev rmw_Lw_place_r : Room := { frames := 8, cells := 1, slots := 6, locals := 132 }
set_option maxHeartbeats 4000000 in
set_option maxRecDepth 100000 in
theorem w_Lw_place_r (l : Launch) (hstk : l.stackTraces = false) (D : va_G) (tI tJ tZ : ClassId) (rz : Nat) (gr : Nat) (se : Nat) (ly : Nat) (wc : Nat) (cf : Nat) (dr : Nat) (ld : Bool) (wn : Bool) (xf : Bool) (cw : Int64) (x : Int) (ex : Bool) (ot : Nat) (hx : iR x) (hr : x < 0 ∨ 1 < x) : wCi l y_Lw_place method_14_code 5 [(0, 10, 13, 13), (0, 10, 17, 17)] rmw_Lw_place_r D (tysA tI tJ tZ) [.ref rz, .int (iI x), .int (iI (bI (ex = true))), .ref ot] [(rz, .inr (0, [.ref gr, .ref se, .ref ly, .ref wc, .ref cf, .ref dr, .int (iI (bI (ld = true))), .int (iI (bI (wn = true))), .int (iI (bI (xf = true))), .long cw]))] (fun zz (_ : Unit) => zz = iI (((1 : Nat) : Int))) (fun (_ : Unit) => [(rz, .inr (0, [.ref gr, .ref se, .ref ly, .ref wc, .ref cf, .ref dr, .int (iI (bI (ld = true))), .int (iI (bI (wn = true))), .int (iI (bI (xf = true))), .long cw]))]) := by
  intro sz
  refine w_met (by decide) (Nat.le_of_ble_eq_true rfl) ?_
  intro F p e s m args below meth c Q A hX hT hAe hw9
  subst hAe
  replace hX : rOK F p l e rmw_Lw_place_r s m args below meth c Q method_14_code 5 "RowAlignerLaw" D (tysA tI tJ tZ) _ := hX
  show F 0 [(0, .ref rz), (1, .int (iI x)), (2, .int (iI (bI (ex = true)))), (3, .ref ot)] [] [(rz, .inr (0, [.ref gr, .ref se, .ref ly, .ref wc, .ref cf, .ref dr, .int (iI (bI (ld = true))), .int (iI (bI (wn = true))), .int (iI (bI (xf = true))), .long cw]))] 0 0
  refine r_aload_n hX 3 d_Lw_place_0 rfl ?_
  refine r_iconstN hX 0 d_Lw_place_1 rfl ?_
  refine r_aload_n hX 0 d_Lw_place_2 rfl ?_
  refine r_iload_n hX 1 d_Lw_place_3 rfl ?_
  refine r_iload_n hX 2 d_Lw_place_4 rfl ?_
  refine r_invV_t (st := [.int (iI ((0 : Nat) : Int)), .ref ot]) (As := [.int (iI x), .int (iI (bI (ex = true)))]) hX hw9 (t_Ra_place_r l hstk D tI tJ tZ rz gr se ly wc cf dr ld wn xf cw x ex hx hr) "RowAligner" 0 0 cf_Ra rfl yn_Ra_place ml_Lw_55 im_Ra_place se_Ra_place co_Ra_place in_Ra (Nat.le_of_ble_eq_true rfl) (Nat.le_of_ble_eq_true rfl) (Nat.le_of_ble_eq_true rfl) (Nat.le_of_ble_eq_true rfl) [0] rfl rfl rfl rfl rfl (Nat.le_of_ble_eq_true rfl) d_Lw_place_5 [] (0, 10, 13, 13) [(0, 10, 17, 17)] rfl (by decide) (by decide) cl_Lw_13 (fun _ h => absurd h List.not_mem_nil) (fun z5 => ?_)
  show F 13 [(0, .ref rz), (1, .int (iI x)), (2, .int (iI (bI (ex = true)))), (3, .ref ot)] [.ref z5] [(rz, .inr (0, [.ref gr, .ref se, .ref ly, .ref wc, .ref cf, .ref dr, .int (iI (bI (ld = true))), .int (iI (bI (wn = true))), .int (iI (bI (xf = true))), .long cw]))] 1 6
  refine r_astore hX (lv' := [(4, .ref z5), (0, .ref rz), (1, .int (iI x)), (2, .int (iI (bI (ex = true)))), (3, .ref ot)]) d_Lw_place_13 (by decide) rfl ?_
  refine r_iconstN hX 1 d_Lw_place_15 rfl ?_
  exact r_iret hX hT () rfl rfl (by decide) (by decide) d_Lw_place_16

abbrev rmw_Lw_place_n : Room := { frames := 8, cells := 1, slots := 6, locals := 132 }
set_option maxHeartbeats 4000000 in
set_option maxRecDepth 100000 in
theorem w_Lw_place_n (l : Launch) (hstk : l.stackTraces = false) (D : va_G) (tI tJ tZ : ClassId) (rz : Nat) (gr : Nat) (se : Nat) (ly : Nat) (wc : Nat) (cf : Nat) (dr : Nat) (ld : Bool) (wn : Bool) (xf : Bool) (cw : Int64) (x : Nat) (ex : Bool) (ot : Nat) (hl : ¬ ld = true) (hr : x ≤ 1) : wCi l y_Lw_place method_14_code 5 [(0, 10, 13, 13), (0, 10, 17, 17)] rmw_Lw_place_n D (tysA tI tJ tZ) [.ref rz, .int (iI ((x : Nat) : Int)), .int (iI (bI (ex = true))), .ref ot] [(rz, .inr (0, [.ref gr, .ref se, .ref ly, .ref wc, .ref cf, .ref dr, .int (iI (bI (ld = true))), .int (iI (bI (wn = true))), .int (iI (bI (xf = true))), .long cw]))] (fun zz (_ : Unit) => zz = iI (((2 : Nat) : Int))) (fun (_ : Unit) => [(rz, .inr (0, [.ref gr, .ref se, .ref ly, .ref wc, .ref cf, .ref dr, .int (iI (bI (ld = true))), .int (iI (bI (wn = true))), .int (iI (bI (xf = true))), .long cw]))]) := by
  intro sz
  refine w_met (by decide) (Nat.le_of_ble_eq_true rfl) ?_
  intro F p e s m args below meth c Q A hX hT hAe hw9
  subst hAe
  replace hX : rOK F p l e rmw_Lw_place_n s m args below meth c Q method_14_code 5 "RowAlignerLaw" D (tysA tI tJ tZ) _ := hX
  show F 0 [(0, .ref rz), (1, .int (iI ((x : Nat) : Int))), (2, .int (iI (bI (ex = true)))), (3, .ref ot)] [] [(rz, .inr (0, [.ref gr, .ref se, .ref ly, .ref wc, .ref cf, .ref dr, .int (iI (bI (ld = true))), .int (iI (bI (wn = true))), .int (iI (bI (xf = true))), .long cw]))] 0 0
  refine r_aload_n hX 3 d_Lw_place_0 rfl ?_
  refine r_iconstN hX 0 d_Lw_place_1 rfl ?_
  refine r_aload_n hX 0 d_Lw_place_2 rfl ?_
  refine r_iload_n hX 1 d_Lw_place_3 rfl ?_
  refine r_iload_n hX 2 d_Lw_place_4 rfl ?_
  refine r_invV_t (st := [.int (iI ((0 : Nat) : Int)), .ref ot]) (As := [.int (iI ((x : Nat) : Int)), .int (iI (bI (ex = true)))]) hX hw9 (t_Ra_place_n l hstk D tI tJ tZ rz gr se ly wc cf dr ld wn xf cw x ex hl hr) "RowAligner" 0 0 cf_Ra rfl yn_Ra_place ml_Lw_55 im_Ra_place se_Ra_place co_Ra_place in_Ra (Nat.le_of_ble_eq_true rfl) (Nat.le_of_ble_eq_true rfl) (Nat.le_of_ble_eq_true rfl) (Nat.le_of_ble_eq_true rfl) [0] rfl rfl rfl rfl rfl (Nat.le_of_ble_eq_true rfl) d_Lw_place_5 [(0, 10, 13, 13)] (0, 10, 17, 17) [] rfl (by decide) (by decide) cl_Lw_17 (List.forall_mem_cons.mpr ⟨⟨"java/lang/IndexOutOfBoundsException", (by decide), (by decide), cl_Lw_13, nc_IllegalStateException_IndexOutOfBoundsException⟩, (fun _ h => absurd h List.not_mem_nil)⟩) (fun z5 => ?_)
  show F 17 [(0, .ref rz), (1, .int (iI ((x : Nat) : Int))), (2, .int (iI (bI (ex = true)))), (3, .ref ot)] [.ref z5] [(rz, .inr (0, [.ref gr, .ref se, .ref ly, .ref wc, .ref cf, .ref dr, .int (iI (bI (ld = true))), .int (iI (bI (wn = true))), .int (iI (bI (xf = true))), .long cw]))] 1 6
  refine r_astore hX (lv' := [(4, .ref z5), (0, .ref rz), (1, .int (iI ((x : Nat) : Int))), (2, .int (iI (bI (ex = true)))), (3, .ref ot)]) d_Lw_place_17 (by decide) rfl ?_
  refine r_iconstN hX 2 d_Lw_place_19 rfl ?_
  exact r_iret hX hT () rfl rfl (by decide) (by decide) d_Lw_place_20

abbrev rmw_Lw_count_r : Room := { frames := 7, cells := 1, slots := 6, locals := 111 }
set_option maxHeartbeats 4000000 in
set_option maxRecDepth 100000 in
theorem w_Lw_count_r (l : Launch) (hstk : l.stackTraces = false) (D : va_G) (tI tJ tZ : ClassId) (rz : Nat) (gr : Nat) (se : Nat) (ly : Nat) (wc : Nat) (cf : Nat) (dr : Nat) (ld : Bool) (wn : Bool) (xf : Bool) (cw : Int64) (x : Int) (ot : Nat) (hx : iR x) (hr : x < 0 ∨ 3 < x) : wCi l y_Lw_count method_15_code 4 [(0, 9, 12, 15), (0, 9, 15, 17)] rmw_Lw_count_r D (tysA tI tJ tZ) [.ref rz, .int (iI x), .ref ot] [(rz, .inr (0, [.ref gr, .ref se, .ref ly, .ref wc, .ref cf, .ref dr, .int (iI (bI (ld = true))), .int (iI (bI (wn = true))), .int (iI (bI (xf = true))), .long cw]))] (fun zz (_ : Unit) => zz = iI (((1 : Nat) : Int))) (fun (_ : Unit) => [(rz, .inr (0, [.ref gr, .ref se, .ref ly, .ref wc, .ref cf, .ref dr, .int (iI (bI (ld = true))), .int (iI (bI (wn = true))), .int (iI (bI (xf = true))), .long cw]))]) := by
  intro sz
  refine w_met (by decide) (Nat.le_of_ble_eq_true rfl) ?_
  intro F p e s m args below meth c Q A hX hT hAe hw9
  subst hAe
  replace hX : rOK F p l e rmw_Lw_count_r s m args below meth c Q method_15_code 4 "RowAlignerLaw" D (tysA tI tJ tZ) _ := hX
  show F 0 [(0, .ref rz), (1, .int (iI x)), (2, .ref ot)] [] [(rz, .inr (0, [.ref gr, .ref se, .ref ly, .ref wc, .ref cf, .ref dr, .int (iI (bI (ld = true))), .int (iI (bI (wn = true))), .int (iI (bI (xf = true))), .long cw]))] 0 0
  refine r_aload_n hX 2 d_Lw_count_0 rfl ?_
  refine r_iconstN hX 0 d_Lw_count_1 rfl ?_
  refine r_aload_n hX 0 d_Lw_count_2 rfl ?_
  refine r_iload_n hX 1 d_Lw_count_3 rfl ?_
  refine r_invV_t (st := [.int (iI ((0 : Nat) : Int)), .ref ot]) (As := [.int (iI x)]) hX hw9 (t_Ra_count_r l hstk D tI tJ tZ rz gr se ly wc cf dr ld wn xf cw x hx hr) "RowAligner" 0 0 cf_Ra rfl yn_Ra_count ml_Lw_59 im_Ra_count se_Ra_count co_Ra_count in_Ra (Nat.le_of_ble_eq_true rfl) (Nat.le_of_ble_eq_true rfl) (Nat.le_of_ble_eq_true rfl) (Nat.le_of_ble_eq_true rfl) [0] rfl rfl rfl rfl rfl (Nat.le_of_ble_eq_true rfl) d_Lw_count_4 [] (0, 9, 12, 15) [(0, 9, 15, 17)] rfl (by decide) (by decide) cl_Lw_15 (fun _ h => absurd h List.not_mem_nil) (fun z4 => ?_)
  show F 12 [(0, .ref rz), (1, .int (iI x)), (2, .ref ot)] [.ref z4] [(rz, .inr (0, [.ref gr, .ref se, .ref ly, .ref wc, .ref cf, .ref dr, .int (iI (bI (ld = true))), .int (iI (bI (wn = true))), .int (iI (bI (xf = true))), .long cw]))] 1 6
  refine r_astore_n hX (lv' := [(3, .ref z4), (0, .ref rz), (1, .int (iI x)), (2, .ref ot)]) d_Lw_count_12 rfl (by decide) rfl ?_
  refine r_iconstN hX 1 d_Lw_count_13 rfl ?_
  exact r_iret hX hT () rfl rfl (by decide) (by decide) d_Lw_count_14

abbrev rmw_Lw_count_n : Room := { frames := 8, cells := 1, slots := 6, locals := 131 }
set_option maxHeartbeats 4000000 in
set_option maxRecDepth 100000 in
theorem w_Lw_count_n (l : Launch) (hstk : l.stackTraces = false) (D : va_G) (tI tJ tZ : ClassId) (rz : Nat) (gr : Nat) (se : Nat) (ly : Nat) (wc : Nat) (cf : Nat) (dr : Nat) (ld : Bool) (wn : Bool) (xf : Bool) (cw : Int64) (x : Nat) (ot : Nat) (hr : x < 4) (hl : ¬ ld = true) : wCi l y_Lw_count method_15_code 4 [(0, 9, 12, 15), (0, 9, 15, 17)] rmw_Lw_count_n D (tysA tI tJ tZ) [.ref rz, .int (iI ((x : Nat) : Int)), .ref ot] [(rz, .inr (0, [.ref gr, .ref se, .ref ly, .ref wc, .ref cf, .ref dr, .int (iI (bI (ld = true))), .int (iI (bI (wn = true))), .int (iI (bI (xf = true))), .long cw]))] (fun zz (_ : Unit) => zz = iI (((2 : Nat) : Int))) (fun (_ : Unit) => [(rz, .inr (0, [.ref gr, .ref se, .ref ly, .ref wc, .ref cf, .ref dr, .int (iI (bI (ld = true))), .int (iI (bI (wn = true))), .int (iI (bI (xf = true))), .long cw]))]) := by
  intro sz
  refine w_met (by decide) (Nat.le_of_ble_eq_true rfl) ?_
  intro F p e s m args below meth c Q A hX hT hAe hw9
  subst hAe
  replace hX : rOK F p l e rmw_Lw_count_n s m args below meth c Q method_15_code 4 "RowAlignerLaw" D (tysA tI tJ tZ) _ := hX
  show F 0 [(0, .ref rz), (1, .int (iI ((x : Nat) : Int))), (2, .ref ot)] [] [(rz, .inr (0, [.ref gr, .ref se, .ref ly, .ref wc, .ref cf, .ref dr, .int (iI (bI (ld = true))), .int (iI (bI (wn = true))), .int (iI (bI (xf = true))), .long cw]))] 0 0
  refine r_aload_n hX 2 d_Lw_count_0 rfl ?_
  refine r_iconstN hX 0 d_Lw_count_1 rfl ?_
  refine r_aload_n hX 0 d_Lw_count_2 rfl ?_
  refine r_iload_n hX 1 d_Lw_count_3 rfl ?_
  refine r_invV_t (st := [.int (iI ((0 : Nat) : Int)), .ref ot]) (As := [.int (iI ((x : Nat) : Int))]) hX hw9 (t_Ra_count_n l hstk D tI tJ tZ rz gr se ly wc cf dr ld wn xf cw x hr hl) "RowAligner" 0 0 cf_Ra rfl yn_Ra_count ml_Lw_59 im_Ra_count se_Ra_count co_Ra_count in_Ra (Nat.le_of_ble_eq_true rfl) (Nat.le_of_ble_eq_true rfl) (Nat.le_of_ble_eq_true rfl) (Nat.le_of_ble_eq_true rfl) [0] rfl rfl rfl rfl rfl (Nat.le_of_ble_eq_true rfl) d_Lw_count_4 [(0, 9, 12, 15)] (0, 9, 15, 17) [] rfl (by decide) (by decide) cl_Lw_17 (List.forall_mem_cons.mpr ⟨⟨"java/lang/IllegalArgumentException", (by decide), (by decide), cl_Lw_15, nc_IllegalStateException_IllegalArgumentException⟩, (fun _ h => absurd h List.not_mem_nil)⟩) (fun z4 => ?_)
  show F 15 [(0, .ref rz), (1, .int (iI ((x : Nat) : Int))), (2, .ref ot)] [.ref z4] [(rz, .inr (0, [.ref gr, .ref se, .ref ly, .ref wc, .ref cf, .ref dr, .int (iI (bI (ld = true))), .int (iI (bI (wn = true))), .int (iI (bI (xf = true))), .long cw]))] 1 6
  refine r_astore_n hX (lv' := [(3, .ref z4), (0, .ref rz), (1, .int (iI ((x : Nat) : Int))), (2, .ref ot)]) d_Lw_count_15 rfl (by decide) rfl ?_
  refine r_iconstN hX 2 d_Lw_count_16 rfl ?_
  exact r_iret hX hT () rfl rfl (by decide) (by decide) d_Lw_count_17

abbrev rmw_Lw_run_r : Room := { frames := 7, cells := 1, slots := 6, locals := 113 }
set_option maxHeartbeats 4000000 in
set_option maxRecDepth 100000 in
theorem w_Lw_run_r (l : Launch) (hstk : l.stackTraces = false) (D : va_G) (tI tJ tZ : ClassId) (rz : Nat) (gr : Nat) (se : Nat) (ly : Nat) (wc : Nat) (cf : Nat) (dr : Nat) (ld : Bool) (wn : Bool) (xf : Bool) (cw : Int64) (x : Int) (y : Int) (ot : Nat) (hy : iR y) (hr : y < 0 ∨ 1 < y) : wCi l y_Lw_run method_16_code 5 [(0, 10, 13, 15), (0, 10, 17, 17), (0, 10, 21, 13)] rmw_Lw_run_r D (tysA tI tJ tZ) [.ref rz, .int (iI x), .int (iI y), .ref ot] [(rz, .inr (0, [.ref gr, .ref se, .ref ly, .ref wc, .ref cf, .ref dr, .int (iI (bI (ld = true))), .int (iI (bI (wn = true))), .int (iI (bI (xf = true))), .long cw]))] (fun zz (_ : Unit) => zz = iI (((1 : Nat) : Int))) (fun (_ : Unit) => [(rz, .inr (0, [.ref gr, .ref se, .ref ly, .ref wc, .ref cf, .ref dr, .int (iI (bI (ld = true))), .int (iI (bI (wn = true))), .int (iI (bI (xf = true))), .long cw]))]) := by
  intro sz
  refine w_met (by decide) (Nat.le_of_ble_eq_true rfl) ?_
  intro F p e s m args below meth c Q A hX hT hAe hw9
  subst hAe
  replace hX : rOK F p l e rmw_Lw_run_r s m args below meth c Q method_16_code 5 "RowAlignerLaw" D (tysA tI tJ tZ) _ := hX
  show F 0 [(0, .ref rz), (1, .int (iI x)), (2, .int (iI y)), (3, .ref ot)] [] [(rz, .inr (0, [.ref gr, .ref se, .ref ly, .ref wc, .ref cf, .ref dr, .int (iI (bI (ld = true))), .int (iI (bI (wn = true))), .int (iI (bI (xf = true))), .long cw]))] 0 0
  refine r_aload_n hX 3 d_Lw_run_0 rfl ?_
  refine r_iconstN hX 0 d_Lw_run_1 rfl ?_
  refine r_aload_n hX 0 d_Lw_run_2 rfl ?_
  refine r_iload_n hX 1 d_Lw_run_3 rfl ?_
  refine r_iload_n hX 2 d_Lw_run_4 rfl ?_
  refine r_invV_t (st := [.int (iI ((0 : Nat) : Int)), .ref ot]) (As := [.int (iI x), .int (iI y)]) hX hw9 (t_Ra_run_r l hstk D tI tJ tZ rz gr se ly wc cf dr ld wn xf cw x y hy hr) "RowAligner" 0 0 cf_Ra rfl yn_Ra_run ml_Lw_62 im_Ra_run se_Ra_run co_Ra_run in_Ra (Nat.le_of_ble_eq_true rfl) (Nat.le_of_ble_eq_true rfl) (Nat.le_of_ble_eq_true rfl) (Nat.le_of_ble_eq_true rfl) [0] rfl rfl rfl rfl rfl (Nat.le_of_ble_eq_true rfl) d_Lw_run_5 [] (0, 10, 13, 15) [(0, 10, 17, 17), (0, 10, 21, 13)] rfl (by decide) (by decide) cl_Lw_15 (fun _ h => absurd h List.not_mem_nil) (fun z5 => ?_)
  show F 13 [(0, .ref rz), (1, .int (iI x)), (2, .int (iI y)), (3, .ref ot)] [.ref z5] [(rz, .inr (0, [.ref gr, .ref se, .ref ly, .ref wc, .ref cf, .ref dr, .int (iI (bI (ld = true))), .int (iI (bI (wn = true))), .int (iI (bI (xf = true))), .long cw]))] 1 6
  refine r_astore hX (lv' := [(4, .ref z5), (0, .ref rz), (1, .int (iI x)), (2, .int (iI y)), (3, .ref ot)]) d_Lw_run_13 (by decide) rfl ?_
  refine r_iconstN hX 1 d_Lw_run_15 rfl ?_
  exact r_iret hX hT () rfl rfl (by decide) (by decide) d_Lw_run_16

abbrev rmw_Lw_run_n : Room := { frames := 8, cells := 1, slots := 6, locals := 133 }
set_option maxHeartbeats 4000000 in
set_option maxRecDepth 100000 in
theorem w_Lw_run_n (l : Launch) (hstk : l.stackTraces = false) (D : va_G) (tI tJ tZ : ClassId) (rz : Nat) (gr : Nat) (se : Nat) (ly : Nat) (wc : Nat) (cf : Nat) (dr : Nat) (ld : Bool) (wn : Bool) (xf : Bool) (cw : Int64) (x : Int) (y : Nat) (ot : Nat) (hr : y < 2) (hl : ¬ ld = true) : wCi l y_Lw_run method_16_code 5 [(0, 10, 13, 15), (0, 10, 17, 17), (0, 10, 21, 13)] rmw_Lw_run_n D (tysA tI tJ tZ) [.ref rz, .int (iI x), .int (iI ((y : Nat) : Int)), .ref ot] [(rz, .inr (0, [.ref gr, .ref se, .ref ly, .ref wc, .ref cf, .ref dr, .int (iI (bI (ld = true))), .int (iI (bI (wn = true))), .int (iI (bI (xf = true))), .long cw]))] (fun zz (_ : Unit) => zz = iI (((2 : Nat) : Int))) (fun (_ : Unit) => [(rz, .inr (0, [.ref gr, .ref se, .ref ly, .ref wc, .ref cf, .ref dr, .int (iI (bI (ld = true))), .int (iI (bI (wn = true))), .int (iI (bI (xf = true))), .long cw]))]) := by
  intro sz
  refine w_met (by decide) (Nat.le_of_ble_eq_true rfl) ?_
  intro F p e s m args below meth c Q A hX hT hAe hw9
  subst hAe
  replace hX : rOK F p l e rmw_Lw_run_n s m args below meth c Q method_16_code 5 "RowAlignerLaw" D (tysA tI tJ tZ) _ := hX
  show F 0 [(0, .ref rz), (1, .int (iI x)), (2, .int (iI ((y : Nat) : Int))), (3, .ref ot)] [] [(rz, .inr (0, [.ref gr, .ref se, .ref ly, .ref wc, .ref cf, .ref dr, .int (iI (bI (ld = true))), .int (iI (bI (wn = true))), .int (iI (bI (xf = true))), .long cw]))] 0 0
  refine r_aload_n hX 3 d_Lw_run_0 rfl ?_
  refine r_iconstN hX 0 d_Lw_run_1 rfl ?_
  refine r_aload_n hX 0 d_Lw_run_2 rfl ?_
  refine r_iload_n hX 1 d_Lw_run_3 rfl ?_
  refine r_iload_n hX 2 d_Lw_run_4 rfl ?_
  refine r_invV_t (st := [.int (iI ((0 : Nat) : Int)), .ref ot]) (As := [.int (iI x), .int (iI ((y : Nat) : Int))]) hX hw9 (t_Ra_run_n l hstk D tI tJ tZ rz gr se ly wc cf dr ld wn xf cw x y hr hl) "RowAligner" 0 0 cf_Ra rfl yn_Ra_run ml_Lw_62 im_Ra_run se_Ra_run co_Ra_run in_Ra (Nat.le_of_ble_eq_true rfl) (Nat.le_of_ble_eq_true rfl) (Nat.le_of_ble_eq_true rfl) (Nat.le_of_ble_eq_true rfl) [0] rfl rfl rfl rfl rfl (Nat.le_of_ble_eq_true rfl) d_Lw_run_5 [(0, 10, 13, 15)] (0, 10, 17, 17) [(0, 10, 21, 13)] rfl (by decide) (by decide) cl_Lw_17 (List.forall_mem_cons.mpr ⟨⟨"java/lang/IllegalArgumentException", (by decide), (by decide), cl_Lw_15, nc_IllegalStateException_IllegalArgumentException⟩, (fun _ h => absurd h List.not_mem_nil)⟩) (fun z5 => ?_)
  show F 17 [(0, .ref rz), (1, .int (iI x)), (2, .int (iI ((y : Nat) : Int))), (3, .ref ot)] [.ref z5] [(rz, .inr (0, [.ref gr, .ref se, .ref ly, .ref wc, .ref cf, .ref dr, .int (iI (bI (ld = true))), .int (iI (bI (wn = true))), .int (iI (bI (xf = true))), .long cw]))] 1 6
  refine r_astore hX (lv' := [(4, .ref z5), (0, .ref rz), (1, .int (iI x)), (2, .int (iI ((y : Nat) : Int))), (3, .ref ot)]) d_Lw_run_17 (by decide) rfl ?_
  refine r_iconstN hX 2 d_Lw_run_19 rfl ?_
  exact r_iret hX hT () rfl rfl (by decide) (by decide) d_Lw_run_20

abbrev rmw_Lw_run_i : Room := { frames := 7, cells := 1, slots := 6, locals := 113 }
set_option maxHeartbeats 4000000 in
set_option maxRecDepth 100000 in
theorem w_Lw_run_i (l : Launch) (hstk : l.stackTraces = false) (D : va_G) (tI tJ tZ : ClassId) (rz : Nat) (gr : Nat) (se : Nat) (ly : Nat) (wc : Nat) (cf : Nat) (dr : Nat) (ld : Bool) (wn : Bool) (xf : Bool) (cw : Int64) (st9 : Nat) (ln : Nat) (sa : Nat) (sb : Nat) (ea : Nat) (eb : Nat) (d : Nat → Nat) (x : Int) (y : Nat) (ot : Nat) (hx : iR x) (hr : y < 2) (hl : ld = true) (hs : ln ≤ 192) (hd : ∀ t, d t < 3) (hn : x < 0 ∨ ((ra_cr d ln : Nat) : Int) ≤ x) : wCi l y_Lw_run method_16_code 5 [(0, 10, 13, 15), (0, 10, 17, 17), (0, 10, 21, 13)] rmw_Lw_run_i D (tysA tI tJ tZ) [.ref rz, .int (iI x), .int (iI ((y : Nat) : Int)), .ref ot] [(rz, .inr (0, [.ref gr, .ref se, .ref ly, .ref wc, .ref cf, .ref dr, .int (iI (bI (ld = true))), .int (iI (bI (wn = true))), .int (iI (bI (xf = true))), .long cw])), (ly, .inr (6, [.ref st9, .int (iI ((ln : Nat) : Int)), .int (iI ((sa : Nat) : Int)), .int (iI ((sb : Nat) : Int)), .int (iI ((ea : Nat) : Int)), .int (iI ((eb : Nat) : Int))])), (st9, .inl (tI, 192, .inl (iA (iN d))))] (fun zz (_ : Unit) => zz = iI (((3 : Nat) : Int))) (fun (_ : Unit) => [(rz, .inr (0, [.ref gr, .ref se, .ref ly, .ref wc, .ref cf, .ref dr, .int (iI (bI (ld = true))), .int (iI (bI (wn = true))), .int (iI (bI (xf = true))), .long cw])), (ly, .inr (6, [.ref st9, .int (iI ((ln : Nat) : Int)), .int (iI ((sa : Nat) : Int)), .int (iI ((sb : Nat) : Int)), .int (iI ((ea : Nat) : Int)), .int (iI ((eb : Nat) : Int))])), (st9, .inl (tI, 192, .inl (iA (iN d))))]) := by
  intro sz
  refine w_met (by decide) (Nat.le_of_ble_eq_true rfl) ?_
  intro F p e s m args below meth c Q A hX hT hAe hw9
  subst hAe
  replace hX : rOK F p l e rmw_Lw_run_i s m args below meth c Q method_16_code 5 "RowAlignerLaw" D (tysA tI tJ tZ) _ := hX
  show F 0 [(0, .ref rz), (1, .int (iI x)), (2, .int (iI ((y : Nat) : Int))), (3, .ref ot)] [] [(rz, .inr (0, [.ref gr, .ref se, .ref ly, .ref wc, .ref cf, .ref dr, .int (iI (bI (ld = true))), .int (iI (bI (wn = true))), .int (iI (bI (xf = true))), .long cw])), (ly, .inr (6, [.ref st9, .int (iI ((ln : Nat) : Int)), .int (iI ((sa : Nat) : Int)), .int (iI ((sb : Nat) : Int)), .int (iI ((ea : Nat) : Int)), .int (iI ((eb : Nat) : Int))])), (st9, .inl (tI, 192, .inl (iA (iN d))))] 0 0
  refine r_aload_n hX 3 d_Lw_run_0 rfl ?_
  refine r_iconstN hX 0 d_Lw_run_1 rfl ?_
  refine r_aload_n hX 0 d_Lw_run_2 rfl ?_
  refine r_iload_n hX 1 d_Lw_run_3 rfl ?_
  refine r_iload_n hX 2 d_Lw_run_4 rfl ?_
  refine r_invV_t (st := [.int (iI ((0 : Nat) : Int)), .ref ot]) (As := [.int (iI x), .int (iI ((y : Nat) : Int))]) hX hw9 (t_Ra_run_i l hstk D tI tJ tZ rz gr se ly wc cf dr ld wn xf cw st9 ln sa sb ea eb d x y hx hr hl hs hd hn) "RowAligner" 0 0 cf_Ra rfl yn_Ra_run ml_Lw_62 im_Ra_run se_Ra_run co_Ra_run in_Ra (Nat.le_of_ble_eq_true rfl) (Nat.le_of_ble_eq_true rfl) (Nat.le_of_ble_eq_true rfl) (Nat.le_of_ble_eq_true rfl) [0, 1, 2] rfl rfl rfl rfl rfl (Nat.le_of_ble_eq_true rfl) d_Lw_run_5 [(0, 10, 13, 15), (0, 10, 17, 17)] (0, 10, 21, 13) [] rfl (by decide) (by decide) cl_Lw_13 (List.forall_mem_cons.mpr ⟨⟨"java/lang/IllegalArgumentException", (by decide), (by decide), cl_Lw_15, nc_IndexOutOfBoundsException_IllegalArgumentException⟩, (List.forall_mem_cons.mpr ⟨⟨"java/lang/IllegalStateException", (by decide), (by decide), cl_Lw_17, nc_IndexOutOfBoundsException_IllegalStateException⟩, (fun _ h => absurd h List.not_mem_nil)⟩)⟩) (fun z5 => ?_)
  show F 21 [(0, .ref rz), (1, .int (iI x)), (2, .int (iI ((y : Nat) : Int))), (3, .ref ot)] [.ref z5] [(rz, .inr (0, [.ref gr, .ref se, .ref ly, .ref wc, .ref cf, .ref dr, .int (iI (bI (ld = true))), .int (iI (bI (wn = true))), .int (iI (bI (xf = true))), .long cw])), (ly, .inr (6, [.ref st9, .int (iI ((ln : Nat) : Int)), .int (iI ((sa : Nat) : Int)), .int (iI ((sb : Nat) : Int)), .int (iI ((ea : Nat) : Int)), .int (iI ((eb : Nat) : Int))])), (st9, .inl (tI, 192, .inl (iA (iN d))))] 1 6
  refine r_astore hX (lv' := [(4, .ref z5), (0, .ref rz), (1, .int (iI x)), (2, .int (iI ((y : Nat) : Int))), (3, .ref ot)]) d_Lw_run_21 (by decide) rfl ?_
  refine r_iconstN hX 3 d_Lw_run_23 rfl ?_
  exact r_iret hX hT () rfl rfl (by decide) (by decide) d_Lw_run_24

abbrev rmw_Lw_ways_r : Room := { frames := 8, cells := 1, slots := 6, locals := 130 }
set_option maxHeartbeats 4000000 in
set_option maxRecDepth 100000 in
theorem w_Lw_ways_r (l : Launch) (hstk : l.stackTraces = false) (D : va_G) (tI tJ tZ : ClassId) (rz : Nat) (gr : Nat) (se : Nat) (ly : Nat) (wc : Nat) (cf : Nat) (dr : Nat) (ld : Bool) (wn : Bool) (xf : Bool) (cw : Int64) (ot : Nat) (hl : ¬ ld = true) : wCi l y_Lw_ways method_17_code 3 [(0, 7, 10, 17)] rmw_Lw_ways_r D (tysA tI tJ tZ) [.ref rz, .ref ot] [(rz, .inr (0, [.ref gr, .ref se, .ref ly, .ref wc, .ref cf, .ref dr, .int (iI (bI (ld = true))), .int (iI (bI (wn = true))), .int (iI (bI (xf = true))), .long cw]))] (fun zz (_ : Unit) => zz = iI (((1 : Nat) : Int))) (fun (_ : Unit) => [(rz, .inr (0, [.ref gr, .ref se, .ref ly, .ref wc, .ref cf, .ref dr, .int (iI (bI (ld = true))), .int (iI (bI (wn = true))), .int (iI (bI (xf = true))), .long cw]))]) := by
  intro sz
  refine w_met (by decide) (Nat.le_of_ble_eq_true rfl) ?_
  intro F p e s m args below meth c Q A hX hT hAe hw9
  subst hAe
  replace hX : rOK F p l e rmw_Lw_ways_r s m args below meth c Q method_17_code 3 "RowAlignerLaw" D (tysA tI tJ tZ) _ := hX
  show F 0 [(0, .ref rz), (1, .ref ot)] [] [(rz, .inr (0, [.ref gr, .ref se, .ref ly, .ref wc, .ref cf, .ref dr, .int (iI (bI (ld = true))), .int (iI (bI (wn = true))), .int (iI (bI (xf = true))), .long cw]))] 0 0
  refine r_aload_n hX 1 d_Lw_ways_0 rfl ?_
  refine r_iconstN hX 0 d_Lw_ways_1 rfl ?_
  refine r_aload_n hX 0 d_Lw_ways_2 rfl ?_
  refine r_invV_t (st := [.int (iI ((0 : Nat) : Int)), .ref ot]) (As := []) hX hw9 (t_Ra_ways_r l hstk D tI tJ tZ rz gr se ly wc cf dr ld wn xf cw hl) "RowAligner" 0 0 cf_Ra rfl yn_Ra_ways ml_Lw_65 im_Ra_ways se_Ra_ways co_Ra_ways in_Ra (Nat.le_of_ble_eq_true rfl) (Nat.le_of_ble_eq_true rfl) (Nat.le_of_ble_eq_true rfl) (Nat.le_of_ble_eq_true rfl) [0] rfl rfl rfl rfl rfl (Nat.le_of_ble_eq_true rfl) d_Lw_ways_3 [] (0, 7, 10, 17) [] rfl (by decide) (by decide) cl_Lw_17 (fun _ h => absurd h List.not_mem_nil) (fun z3 => ?_)
  show F 10 [(0, .ref rz), (1, .ref ot)] [.ref z3] [(rz, .inr (0, [.ref gr, .ref se, .ref ly, .ref wc, .ref cf, .ref dr, .int (iI (bI (ld = true))), .int (iI (bI (wn = true))), .int (iI (bI (xf = true))), .long cw]))] 1 6
  refine r_astore_n hX (lv' := [(2, .ref z3), (0, .ref rz), (1, .ref ot)]) d_Lw_ways_10 rfl (by decide) rfl ?_
  refine r_iconstN hX 1 d_Lw_ways_11 rfl ?_
  exact r_iret hX hT () rfl rfl (by decide) (by decide) d_Lw_ways_12

abbrev rmw_Lw_crossing_r : Room := { frames := 8, cells := 1, slots := 6, locals := 131 }
set_option maxHeartbeats 4000000 in
set_option maxRecDepth 100000 in
theorem w_Lw_crossing_r (l : Launch) (hstk : l.stackTraces = false) (D : va_G) (tI tJ tZ : ClassId) (rz : Nat) (gr : Nat) (se : Nat) (ly : Nat) (wc : Nat) (cf : Nat) (dr : Nat) (ld : Bool) (wn : Bool) (xf : Bool) (cw : Int64) (x : Int) (ot : Nat) (hl : ¬ ld = true) : wCi l y_Lw_crossing method_18_code 4 [(0, 9, 12, 17), (0, 9, 15, 13)] rmw_Lw_crossing_r D (tysA tI tJ tZ) [.ref rz, .int (iI x), .ref ot] [(rz, .inr (0, [.ref gr, .ref se, .ref ly, .ref wc, .ref cf, .ref dr, .int (iI (bI (ld = true))), .int (iI (bI (wn = true))), .int (iI (bI (xf = true))), .long cw]))] (fun zz (_ : Unit) => zz = iI (((1 : Nat) : Int))) (fun (_ : Unit) => [(rz, .inr (0, [.ref gr, .ref se, .ref ly, .ref wc, .ref cf, .ref dr, .int (iI (bI (ld = true))), .int (iI (bI (wn = true))), .int (iI (bI (xf = true))), .long cw]))]) := by
  intro sz
  refine w_met (by decide) (Nat.le_of_ble_eq_true rfl) ?_
  intro F p e s m args below meth c Q A hX hT hAe hw9
  subst hAe
  replace hX : rOK F p l e rmw_Lw_crossing_r s m args below meth c Q method_18_code 4 "RowAlignerLaw" D (tysA tI tJ tZ) _ := hX
  show F 0 [(0, .ref rz), (1, .int (iI x)), (2, .ref ot)] [] [(rz, .inr (0, [.ref gr, .ref se, .ref ly, .ref wc, .ref cf, .ref dr, .int (iI (bI (ld = true))), .int (iI (bI (wn = true))), .int (iI (bI (xf = true))), .long cw]))] 0 0
  refine r_aload_n hX 2 d_Lw_crossing_0 rfl ?_
  refine r_iconstN hX 0 d_Lw_crossing_1 rfl ?_
  refine r_aload_n hX 0 d_Lw_crossing_2 rfl ?_
  refine r_iload_n hX 1 d_Lw_crossing_3 rfl ?_
  refine r_invV_t (st := [.int (iI ((0 : Nat) : Int)), .ref ot]) (As := [.int (iI x)]) hX hw9 (t_Ra_crossing_r l hstk D tI tJ tZ rz gr se ly wc cf dr ld wn xf cw x hl) "RowAligner" 0 0 cf_Ra rfl yn_Ra_crossing ml_Lw_69 im_Ra_crossing se_Ra_crossing co_Ra_crossing in_Ra (Nat.le_of_ble_eq_true rfl) (Nat.le_of_ble_eq_true rfl) (Nat.le_of_ble_eq_true rfl) (Nat.le_of_ble_eq_true rfl) [0] rfl rfl rfl rfl rfl (Nat.le_of_ble_eq_true rfl) d_Lw_crossing_4 [] (0, 9, 12, 17) [(0, 9, 15, 13)] rfl (by decide) (by decide) cl_Lw_17 (fun _ h => absurd h List.not_mem_nil) (fun z4 => ?_)
  show F 12 [(0, .ref rz), (1, .int (iI x)), (2, .ref ot)] [.ref z4] [(rz, .inr (0, [.ref gr, .ref se, .ref ly, .ref wc, .ref cf, .ref dr, .int (iI (bI (ld = true))), .int (iI (bI (wn = true))), .int (iI (bI (xf = true))), .long cw]))] 1 6
  refine r_astore_n hX (lv' := [(3, .ref z4), (0, .ref rz), (1, .int (iI x)), (2, .ref ot)]) d_Lw_crossing_12 rfl (by decide) rfl ?_
  refine r_iconstN hX 1 d_Lw_crossing_13 rfl ?_
  exact r_iret hX hT () rfl rfl (by decide) (by decide) d_Lw_crossing_14

abbrev rmw_Lw_crossing_i : Room := { frames := 7, cells := 1, slots := 6, locals := 111 }
set_option maxHeartbeats 4000000 in
set_option maxRecDepth 100000 in
theorem w_Lw_crossing_i (l : Launch) (hstk : l.stackTraces = false) (D : va_G) (tI tJ tZ : ClassId) (rz : Nat) (gr : Nat) (se : Nat) (ly : Nat) (wc : Nat) (cf : Nat) (dr : Nat) (ld : Bool) (wn : Bool) (xf : Bool) (cw : Int64) (ra : Nat) (rb : Nat) (pr : Nat) (qa : Nat) (la : Nat) (x : Int) (ot : Nat) (hl : ld = true) (hx : iR x) (hla : la ≤ 96) (hn : x < 0 ∨ ((la : Nat) : Int) < x) : wCi l y_Lw_crossing method_18_code 4 [(0, 9, 12, 17), (0, 9, 15, 13)] rmw_Lw_crossing_i D (tysA tI tJ tZ) [.ref rz, .int (iI x), .ref ot] [(rz, .inr (0, [.ref gr, .ref se, .ref ly, .ref wc, .ref cf, .ref dr, .int (iI (bI (ld = true))), .int (iI (bI (wn = true))), .int (iI (bI (xf = true))), .long cw])), (gr, .inr (1, [.ref ra, .ref rb, .ref pr])), (ra, .inr (2, [.ref qa, .int (iI ((la : Nat) : Int))]))] (fun zz (_ : Unit) => zz = iI (((2 : Nat) : Int))) (fun (_ : Unit) => [(rz, .inr (0, [.ref gr, .ref se, .ref ly, .ref wc, .ref cf, .ref dr, .int (iI (bI (ld = true))), .int (iI (bI (wn = true))), .int (iI (bI (xf = true))), .long cw])), (gr, .inr (1, [.ref ra, .ref rb, .ref pr])), (ra, .inr (2, [.ref qa, .int (iI ((la : Nat) : Int))]))]) := by
  intro sz
  refine w_met (by decide) (Nat.le_of_ble_eq_true rfl) ?_
  intro F p e s m args below meth c Q A hX hT hAe hw9
  subst hAe
  replace hX : rOK F p l e rmw_Lw_crossing_i s m args below meth c Q method_18_code 4 "RowAlignerLaw" D (tysA tI tJ tZ) _ := hX
  show F 0 [(0, .ref rz), (1, .int (iI x)), (2, .ref ot)] [] [(rz, .inr (0, [.ref gr, .ref se, .ref ly, .ref wc, .ref cf, .ref dr, .int (iI (bI (ld = true))), .int (iI (bI (wn = true))), .int (iI (bI (xf = true))), .long cw])), (gr, .inr (1, [.ref ra, .ref rb, .ref pr])), (ra, .inr (2, [.ref qa, .int (iI ((la : Nat) : Int))]))] 0 0
  refine r_aload_n hX 2 d_Lw_crossing_0 rfl ?_
  refine r_iconstN hX 0 d_Lw_crossing_1 rfl ?_
  refine r_aload_n hX 0 d_Lw_crossing_2 rfl ?_
  refine r_iload_n hX 1 d_Lw_crossing_3 rfl ?_
  refine r_invV_t (st := [.int (iI ((0 : Nat) : Int)), .ref ot]) (As := [.int (iI x)]) hX hw9 (t_Ra_crossing_i l hstk D tI tJ tZ rz gr se ly wc cf dr ld wn xf cw ra rb pr qa la x hl hx hla hn) "RowAligner" 0 0 cf_Ra rfl yn_Ra_crossing ml_Lw_69 im_Ra_crossing se_Ra_crossing co_Ra_crossing in_Ra (Nat.le_of_ble_eq_true rfl) (Nat.le_of_ble_eq_true rfl) (Nat.le_of_ble_eq_true rfl) (Nat.le_of_ble_eq_true rfl) [0, 1, 2] rfl rfl rfl rfl rfl (Nat.le_of_ble_eq_true rfl) d_Lw_crossing_4 [(0, 9, 12, 17)] (0, 9, 15, 13) [] rfl (by decide) (by decide) cl_Lw_13 (List.forall_mem_cons.mpr ⟨⟨"java/lang/IllegalStateException", (by decide), (by decide), cl_Lw_17, nc_IndexOutOfBoundsException_IllegalStateException⟩, (fun _ h => absurd h List.not_mem_nil)⟩) (fun z4 => ?_)
  show F 15 [(0, .ref rz), (1, .int (iI x)), (2, .ref ot)] [.ref z4] [(rz, .inr (0, [.ref gr, .ref se, .ref ly, .ref wc, .ref cf, .ref dr, .int (iI (bI (ld = true))), .int (iI (bI (wn = true))), .int (iI (bI (xf = true))), .long cw])), (gr, .inr (1, [.ref ra, .ref rb, .ref pr])), (ra, .inr (2, [.ref qa, .int (iI ((la : Nat) : Int))]))] 1 6
  refine r_astore_n hX (lv' := [(3, .ref z4), (0, .ref rz), (1, .int (iI x)), (2, .ref ot)]) d_Lw_crossing_15 rfl (by decide) rfl ?_
  refine r_iconstN hX 2 d_Lw_crossing_16 rfl ?_
  exact r_iret hX hT () rfl rfl (by decide) (by decide) d_Lw_crossing_17

abbrev rmw_Lw_draw_r : Room := { frames := 7, cells := 1, slots := 6, locals := 111 }
set_option maxHeartbeats 4000000 in
set_option maxRecDepth 100000 in
theorem w_Lw_draw_r (l : Launch) (hstk : l.stackTraces = false) (D : va_G) (tI tJ tZ : ClassId) (rz : Nat) (gr : Nat) (se : Nat) (ly : Nat) (wc : Nat) (cf : Nat) (dr : Nat) (ld : Bool) (wn : Bool) (xf : Bool) (cw : Int64) (x : Int) (ot : Nat) (hx : iR x) (hr : x < 0 ∨ 3 ≤ x) : wCi l y_Lw_draw method_19_code 4 [(0, 9, 12, 15), (0, 9, 15, 17)] rmw_Lw_draw_r D (tysA tI tJ tZ) [.ref rz, .int (iI x), .ref ot] [(rz, .inr (0, [.ref gr, .ref se, .ref ly, .ref wc, .ref cf, .ref dr, .int (iI (bI (ld = true))), .int (iI (bI (wn = true))), .int (iI (bI (xf = true))), .long cw]))] (fun zz (_ : Unit) => zz = iI (((1 : Nat) : Int))) (fun (_ : Unit) => [(rz, .inr (0, [.ref gr, .ref se, .ref ly, .ref wc, .ref cf, .ref dr, .int (iI (bI (ld = true))), .int (iI (bI (wn = true))), .int (iI (bI (xf = true))), .long cw]))]) := by
  intro sz
  refine w_met (by decide) (Nat.le_of_ble_eq_true rfl) ?_
  intro F p e s m args below meth c Q A hX hT hAe hw9
  subst hAe
  replace hX : rOK F p l e rmw_Lw_draw_r s m args below meth c Q method_19_code 4 "RowAlignerLaw" D (tysA tI tJ tZ) _ := hX
  show F 0 [(0, .ref rz), (1, .int (iI x)), (2, .ref ot)] [] [(rz, .inr (0, [.ref gr, .ref se, .ref ly, .ref wc, .ref cf, .ref dr, .int (iI (bI (ld = true))), .int (iI (bI (wn = true))), .int (iI (bI (xf = true))), .long cw]))] 0 0
  refine r_aload_n hX 2 d_Lw_draw_0 rfl ?_
  refine r_iconstN hX 0 d_Lw_draw_1 rfl ?_
  refine r_aload_n hX 0 d_Lw_draw_2 rfl ?_
  refine r_iload_n hX 1 d_Lw_draw_3 rfl ?_
  refine r_invV_t (st := [.int (iI ((0 : Nat) : Int)), .ref ot]) (As := [.int (iI x)]) hX hw9 (t_Ra_draw_r l hstk D tI tJ tZ rz gr se ly wc cf dr ld wn xf cw x hx hr) "RowAligner" 0 0 cf_Ra rfl yn_Ra_draw ml_Lw_72 im_Ra_draw se_Ra_draw co_Ra_draw in_Ra (Nat.le_of_ble_eq_true rfl) (Nat.le_of_ble_eq_true rfl) (Nat.le_of_ble_eq_true rfl) (Nat.le_of_ble_eq_true rfl) [0] rfl rfl rfl rfl rfl (Nat.le_of_ble_eq_true rfl) d_Lw_draw_4 [] (0, 9, 12, 15) [(0, 9, 15, 17)] rfl (by decide) (by decide) cl_Lw_15 (fun _ h => absurd h List.not_mem_nil) (fun z4 => ?_)
  show F 12 [(0, .ref rz), (1, .int (iI x)), (2, .ref ot)] [.ref z4] [(rz, .inr (0, [.ref gr, .ref se, .ref ly, .ref wc, .ref cf, .ref dr, .int (iI (bI (ld = true))), .int (iI (bI (wn = true))), .int (iI (bI (xf = true))), .long cw]))] 1 6
  refine r_astore_n hX (lv' := [(3, .ref z4), (0, .ref rz), (1, .int (iI x)), (2, .ref ot)]) d_Lw_draw_12 rfl (by decide) rfl ?_
  refine r_iconstN hX 1 d_Lw_draw_13 rfl ?_
  exact r_iret hX hT () rfl rfl (by decide) (by decide) d_Lw_draw_14

abbrev rmw_Lw_draw_n : Room := { frames := 7, cells := 1, slots := 6, locals := 111 }
set_option maxHeartbeats 4000000 in
set_option maxRecDepth 100000 in
theorem w_Lw_draw_n (l : Launch) (hstk : l.stackTraces = false) (D : va_G) (tI tJ tZ : ClassId) (rz : Nat) (gr : Nat) (se : Nat) (ly : Nat) (wc : Nat) (cf : Nat) (dr : Nat) (ld : Bool) (wn : Bool) (xf : Bool) (cw : Int64) (da : Nat) (dn : Nat) (d : Nat → Nat) (x : Nat) (ot : Nat) (hx : x < 3) (hn : 200 ≤ dn) (hn2 : dn ≤ 200) : wCi l y_Lw_draw method_19_code 4 [(0, 9, 12, 15), (0, 9, 15, 17)] rmw_Lw_draw_n D (tysA tI tJ tZ) [.ref rz, .int (iI ((x : Nat) : Int)), .ref ot] [(rz, .inr (0, [.ref gr, .ref se, .ref ly, .ref wc, .ref cf, .ref dr, .int (iI (bI (ld = true))), .int (iI (bI (wn = true))), .int (iI (bI (xf = true))), .long cw])), (dr, .inr (9, [.ref da, .int (iI ((dn : Nat) : Int))])), (da, .inl (tI, 200, .inl (iA (iN d))))] (fun zz (_ : Unit) => zz = iI (((2 : Nat) : Int))) (fun (_ : Unit) => [(rz, .inr (0, [.ref gr, .ref se, .ref ly, .ref wc, .ref cf, .ref dr, .int (iI (bI (ld = true))), .int (iI (bI (wn = true))), .int (iI (bI (xf = true))), .long cw])), (dr, .inr (9, [.ref da, .int (iI ((dn : Nat) : Int))])), (da, .inl (tI, 200, .inl (iA (iN d))))]) := by
  intro sz
  refine w_met (by decide) (Nat.le_of_ble_eq_true rfl) ?_
  intro F p e s m args below meth c Q A hX hT hAe hw9
  subst hAe
  replace hX : rOK F p l e rmw_Lw_draw_n s m args below meth c Q method_19_code 4 "RowAlignerLaw" D (tysA tI tJ tZ) _ := hX
  show F 0 [(0, .ref rz), (1, .int (iI ((x : Nat) : Int))), (2, .ref ot)] [] [(rz, .inr (0, [.ref gr, .ref se, .ref ly, .ref wc, .ref cf, .ref dr, .int (iI (bI (ld = true))), .int (iI (bI (wn = true))), .int (iI (bI (xf = true))), .long cw])), (dr, .inr (9, [.ref da, .int (iI ((dn : Nat) : Int))])), (da, .inl (tI, 200, .inl (iA (iN d))))] 0 0
  refine r_aload_n hX 2 d_Lw_draw_0 rfl ?_
  refine r_iconstN hX 0 d_Lw_draw_1 rfl ?_
  refine r_aload_n hX 0 d_Lw_draw_2 rfl ?_
  refine r_iload_n hX 1 d_Lw_draw_3 rfl ?_
  refine r_invV_t (st := [.int (iI ((0 : Nat) : Int)), .ref ot]) (As := [.int (iI ((x : Nat) : Int))]) hX hw9 (t_Ra_draw_n l hstk D tI tJ tZ rz gr se ly wc cf dr ld wn xf cw da dn d x hx hn hn2) "RowAligner" 0 0 cf_Ra rfl yn_Ra_draw ml_Lw_72 im_Ra_draw se_Ra_draw co_Ra_draw in_Ra (Nat.le_of_ble_eq_true rfl) (Nat.le_of_ble_eq_true rfl) (Nat.le_of_ble_eq_true rfl) (Nat.le_of_ble_eq_true rfl) [0, 1, 2] rfl rfl rfl rfl rfl (Nat.le_of_ble_eq_true rfl) d_Lw_draw_4 [(0, 9, 12, 15)] (0, 9, 15, 17) [] rfl (by decide) (by decide) cl_Lw_17 (List.forall_mem_cons.mpr ⟨⟨"java/lang/IllegalArgumentException", (by decide), (by decide), cl_Lw_15, nc_IllegalStateException_IllegalArgumentException⟩, (fun _ h => absurd h List.not_mem_nil)⟩) (fun z4 => ?_)
  show F 15 [(0, .ref rz), (1, .int (iI ((x : Nat) : Int))), (2, .ref ot)] [.ref z4] [(rz, .inr (0, [.ref gr, .ref se, .ref ly, .ref wc, .ref cf, .ref dr, .int (iI (bI (ld = true))), .int (iI (bI (wn = true))), .int (iI (bI (xf = true))), .long cw])), (dr, .inr (9, [.ref da, .int (iI ((dn : Nat) : Int))])), (da, .inl (tI, 200, .inl (iA (iN d))))] 1 6
  refine r_astore_n hX (lv' := [(3, .ref z4), (0, .ref rz), (1, .int (iI ((x : Nat) : Int))), (2, .ref ot)]) d_Lw_draw_15 rfl (by decide) rfl ?_
  refine r_iconstN hX 2 d_Lw_draw_16 rfl ?_
  exact r_iret hX hT () rfl rfl (by decide) (by decide) d_Lw_draw_17
