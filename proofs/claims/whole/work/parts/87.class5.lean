abbrev rm_Ra_existingRow_0 : Room := { frames := 1, cells := 0, slots := 0, locals := 20 }
set_option maxHeartbeats 4000000 in
set_option maxRecDepth 100000 in
theorem c_Ra_existingRow_0 (l : Launch) (D : va_G) (tI tJ tZ : ClassId) (rz : Nat) (gr : Nat) (se : Nat) (ly : Nat) (wc : Nat) (cf : Nat) (dr : Nat) (ld : Bool) (wn : Bool) (xf : Bool) (cw : Int64) (ra : Nat) (rb : Nat) (pr : Nat) : rCr l y_Ra_existingRow prog_1_method_23_code 2 (.object "RowAligner$Row") rm_Ra_existingRow_0 D (tysA tI tJ tZ) [.ref rz, .int (iI ((0 : Nat) : Int))] [(rz, .inr (0, [.ref gr, .ref se, .ref ly, .ref wc, .ref cf, .ref dr, .int (iI (bI (ld = true))), .int (iI (bI (wn = true))), .int (iI (bI (xf = true))), .long cw])), (gr, .inr (1, [.ref ra, .ref rb, .ref pr]))] ra [(rz, .inr (0, [.ref gr, .ref se, .ref ly, .ref wc, .ref cf, .ref dr, .int (iI (bI (ld = true))), .int (iI (bI (wn = true))), .int (iI (bI (xf = true))), .long cw])), (gr, .inr (1, [.ref ra, .ref rb, .ref pr]))] := by
  intro sz
  refine r_met (by decide) (Nat.le_of_ble_eq_true rfl) ?_
  intro F p e s m args below meth c Q A hX hT hAe hsz hin
  subst hAe
  replace hX : rOK F p l e rm_Ra_existingRow_0 s m args below meth c Q prog_1_method_23_code 2 "RowAligner" D (tysA tI tJ tZ) _ := hX
  show F 0 [(0, .ref rz), (1, .int (iI ((0 : Nat) : Int)))] [] [(rz, .inr (0, [.ref gr, .ref se, .ref ly, .ref wc, .ref cf, .ref dr, .int (iI (bI (ld = true))), .int (iI (bI (wn = true))), .int (iI (bI (xf = true))), .long cw])), (gr, .inr (1, [.ref ra, .ref rb, .ref pr]))] 0 0
  refine r_iload_n hX 1 d_Ra_existingRow_0 rfl ?_
  refine r_invS_v0 (st := []) (As := [.int (iI ((0 : Nat) : Int))]) (wr := [(rz, .inr (0, [.ref gr, .ref se, .ref ly, .ref wc, .ref cf, .ref dr, .int (iI (bI (ld = true))), .int (iI (bI (wn = true))), .int (iI (bI (xf = true))), .long cw])), (gr, .inr (1, [.ref ra, .ref rb, .ref pr]))]) hX (c_Ra_refuseOtherRows l D tI tJ tZ 0 (by omega)) yn_Ra_refuseOtherRows ml_Ra_138 st_Ra_refuseOtherRows co_Ra_refuseOtherRows in_Ra (by decide) (by decide) (by decide) [] [0, 1] rfl rfl rfl rfl rfl (by decide) rfl rfl (Nat.le_of_ble_eq_true rfl) d_Ra_existingRow_1 [0, 1] rfl (w2 := fun _ => [(rz, .inr (0, [.ref gr, .ref se, .ref ly, .ref wc, .ref cf, .ref dr, .int (iI (bI (ld = true))), .int (iI (bI (wn = true))), .int (iI (bI (xf = true))), .long cw])), (gr, .inr (1, [.ref ra, .ref rb, .ref pr]))]) (fun _ => rfl) (fun _ _ => ?_)
  refine r_iload_n hX 1 d_Ra_existingRow_4 rfl ?_
  refine r_if_ne hX 18 d_Ra_existingRow_5 (by decide) (by unfold iR; omega) (fun h5 => by exfalso; omega) (fun h5 => ?_)
  refine r_aload_n hX 0 d_Ra_existingRow_8 rfl ?_
  refine r_get hX cf_Ra 0 rfl 0 (by decide) fl_Ra_12 rfl d_Ra_existingRow_9 ?_
  refine r_get hX cf_Gr 1 rfl 0 (by decide) fl_Ra_184 rfl d_Ra_existingRow_12 ?_
  refine r_goto hX 25 d_Ra_existingRow_15 (by decide) ?_
  exact r_aret hX hT rfl (by decide) (by decide) d_Ra_existingRow_25

abbrev rm_Ra_size_0 : Room := { frames := 2, cells := 0, slots := 0, locals := 41 }
set_option maxHeartbeats 4000000 in
set_option maxRecDepth 100000 in
theorem c_Ra_size_0 (l : Launch) (D : va_G) (tI tJ tZ : ClassId) (rz : Nat) (gr : Nat) (se : Nat) (ly : Nat) (wc : Nat) (cf : Nat) (dr : Nat) (ld : Bool) (wn : Bool) (xf : Bool) (cw : Int64) (ra : Nat) (rb : Nat) (pr : Nat) (qa : Nat) (la : Nat) : rCi l y_Ra_size prog_1_method_6_code 2 .int rm_Ra_size_0 D (tysA tI tJ tZ) [.ref rz, .int (iI ((0 : Nat) : Int))] [(rz, .inr (0, [.ref gr, .ref se, .ref ly, .ref wc, .ref cf, .ref dr, .int (iI (bI (ld = true))), .int (iI (bI (wn = true))), .int (iI (bI (xf = true))), .long cw])), (gr, .inr (1, [.ref ra, .ref rb, .ref pr])), (ra, .inr (2, [.ref qa, .int (iI ((la : Nat) : Int))]))] (fun zz (_ : Unit) => zz = iI (((la : Nat) : Int))) (fun (_ : Unit) => [(rz, .inr (0, [.ref gr, .ref se, .ref ly, .ref wc, .ref cf, .ref dr, .int (iI (bI (ld = true))), .int (iI (bI (wn = true))), .int (iI (bI (xf = true))), .long cw])), (gr, .inr (1, [.ref ra, .ref rb, .ref pr])), (ra, .inr (2, [.ref qa, .int (iI ((la : Nat) : Int))]))]) := by
  intro sz
  refine r_met (by decide) (Nat.le_of_ble_eq_true rfl) ?_
  intro F p e s m args below meth c Q A hX hT hAe hsz hin
  subst hAe
  replace hX : rOK F p l e rm_Ra_size_0 s m args below meth c Q prog_1_method_6_code 2 "RowAligner" D (tysA tI tJ tZ) _ := hX
  show F 0 [(0, .ref rz), (1, .int (iI ((0 : Nat) : Int)))] [] [(rz, .inr (0, [.ref gr, .ref se, .ref ly, .ref wc, .ref cf, .ref dr, .int (iI (bI (ld = true))), .int (iI (bI (wn = true))), .int (iI (bI (xf = true))), .long cw])), (gr, .inr (1, [.ref ra, .ref rb, .ref pr])), (ra, .inr (2, [.ref qa, .int (iI ((la : Nat) : Int))]))] 0 0
  refine r_aload_n hX 0 d_Ra_size_0 rfl ?_
  refine r_iload_n hX 1 d_Ra_size_1 rfl ?_
  refine r_invV_r0 (st := []) (As := [.int (iI ((0 : Nat) : Int))]) (wr := [(ra, .inr (2, [.ref qa, .int (iI ((la : Nat) : Int))]))]) hX (c_Ra_existingRow_0 l D tI tJ tZ rz gr se ly wc cf dr ld wn xf cw ra rb pr) "RowAligner" 0 0 cf_Ra rfl yn_Ra_existingRow ml_Ra_53 im_Ra_existingRow se_Ra_existingRow co_Ra_existingRow in_Ra (by decide) (by decide) (by decide) [0, 1] [2] rfl rfl rfl rfl rfl (by decide) rfl rfl (Nat.le_of_ble_eq_true rfl) d_Ra_size_2 [1, 2, 0] rfl (w2 := [(rz, .inr (0, [.ref gr, .ref se, .ref ly, .ref wc, .ref cf, .ref dr, .int (iI (bI (ld = true))), .int (iI (bI (wn = true))), .int (iI (bI (xf = true))), .long cw])), (gr, .inr (1, [.ref ra, .ref rb, .ref pr])), (ra, .inr (2, [.ref qa, .int (iI ((la : Nat) : Int))]))]) rfl ?_
  refine r_get hX cf_Ro 2 rfl 1 (by decide) fl_Ra_64 rfl d_Ra_size_5 ?_
  exact r_iret hX hT () rfl rfl (by decide) (by decide) d_Ra_size_8

abbrev rm_Ra_cut_0 : Room := { frames := 2, cells := 0, slots := 0, locals := 41 }
set_option maxHeartbeats 4000000 in
set_option maxRecDepth 100000 in
theorem c_Ra_cut_0 (l : Launch) (D : va_G) (tI tJ tZ : ClassId) (rz : Nat) (gr : Nat) (se : Nat) (ly : Nat) (wc : Nat) (cf : Nat) (dr : Nat) (ld : Bool) (wn : Bool) (xf : Bool) (cw : Int64) (ra : Nat) (rb : Nat) (pr : Nat) (qa : Nat) (la : Nat) (y : Nat) (hla : la ≤ 96) (hy : y ≤ la) : rCv l y_Ra_cut prog_1_method_3_code 4 rm_Ra_cut_0 D (tysA tI tJ tZ) [.ref rz, .int (iI ((0 : Nat) : Int)), .int (iI ((y : Nat) : Int))] [(rz, .inr (0, [.ref gr, .ref se, .ref ly, .ref wc, .ref cf, .ref dr, .int (iI (bI (ld = true))), .int (iI (bI (wn = true))), .int (iI (bI (xf = true))), .long cw])), (gr, .inr (1, [.ref ra, .ref rb, .ref pr])), (ra, .inr (2, [.ref qa, .int (iI ((la : Nat) : Int))]))] (fun (_ : Unit) => True) (fun (_ : Unit) => [(rz, .inr (0, [.ref gr, .ref se, .ref ly, .ref wc, .ref cf, .ref dr, .int (iI (bI (false = true))), .int (iI (bI (wn = true))), .int (iI (bI (xf = true))), .long cw])), (gr, .inr (1, [.ref ra, .ref rb, .ref pr])), (ra, .inr (2, [.ref qa, .int (iI ((y : Nat) : Int))]))]) := by
  intro sz
  refine r_met (by decide) (Nat.le_of_ble_eq_true rfl) ?_
  intro F p e s m args below meth c Q A hX hT hAe hsz hin
  subst hAe
  replace hX : rOK F p l e rm_Ra_cut_0 s m args below meth c Q prog_1_method_3_code 4 "RowAligner" D (tysA tI tJ tZ) _ := hX
  show F 0 [(0, .ref rz), (1, .int (iI ((0 : Nat) : Int))), (2, .int (iI ((y : Nat) : Int)))] [] [(rz, .inr (0, [.ref gr, .ref se, .ref ly, .ref wc, .ref cf, .ref dr, .int (iI (bI (ld = true))), .int (iI (bI (wn = true))), .int (iI (bI (xf = true))), .long cw])), (gr, .inr (1, [.ref ra, .ref rb, .ref pr])), (ra, .inr (2, [.ref qa, .int (iI ((la : Nat) : Int))]))] 0 0
  refine r_aload_n hX 0 d_Ra_cut_0 rfl ?_
  refine r_iload_n hX 1 d_Ra_cut_1 rfl ?_
  refine r_invV_r0 (st := []) (As := [.int (iI ((0 : Nat) : Int))]) (wr := [(ra, .inr (2, [.ref qa, .int (iI ((la : Nat) : Int))]))]) hX (c_Ra_existingRow_0 l D tI tJ tZ rz gr se ly wc cf dr ld wn xf cw ra rb pr) "RowAligner" 0 0 cf_Ra rfl yn_Ra_existingRow ml_Ra_53 im_Ra_existingRow se_Ra_existingRow co_Ra_existingRow in_Ra (by decide) (by decide) (by decide) [0, 1] [2] rfl rfl rfl rfl rfl (by decide) rfl rfl (Nat.le_of_ble_eq_true rfl) d_Ra_cut_2 [1, 2, 0] rfl (w2 := [(rz, .inr (0, [.ref gr, .ref se, .ref ly, .ref wc, .ref cf, .ref dr, .int (iI (bI (ld = true))), .int (iI (bI (wn = true))), .int (iI (bI (xf = true))), .long cw])), (gr, .inr (1, [.ref ra, .ref rb, .ref pr])), (ra, .inr (2, [.ref qa, .int (iI ((la : Nat) : Int))]))]) rfl ?_
  refine r_astore_n hX (lv' := [(3, .ref ra), (0, .ref rz), (1, .int (iI ((0 : Nat) : Int))), (2, .int (iI ((y : Nat) : Int)))]) d_Ra_cut_5 rfl (by decide) rfl ?_
  refine r_iload_n hX 3 d_Ra_cut_6 rfl ?_
  refine r_if_lt hX 18 d_Ra_cut_7 (by decide) (by unfold iR; omega) (fun h7 => by exfalso; omega) (fun h7 => ?_)
  refine r_iload_n hX 3 d_Ra_cut_10 rfl ?_
  refine r_aload_n hX 0 d_Ra_cut_11 rfl ?_
  refine r_get hX cf_Ro 2 rfl 1 (by decide) fl_Ra_64 rfl d_Ra_cut_12 ?_
  refine r_icmp_le hX 26 d_Ra_cut_15 (by decide) (by unfold iR; omega) (by unfold iR; omega) (fun h15 => ?_) (fun h15 => by exfalso; omega)
  refine r_aload_n hX 0 d_Ra_cut_26 rfl ?_
  refine r_iload_n hX 3 d_Ra_cut_27 rfl ?_
  refine r_put hX (ws' := [(rz, .inr (0, [.ref gr, .ref se, .ref ly, .ref wc, .ref cf, .ref dr, .int (iI (bI (ld = true))), .int (iI (bI (wn = true))), .int (iI (bI (xf = true))), .long cw])), (gr, .inr (1, [.ref ra, .ref rb, .ref pr])), (ra, .inr (2, [.ref qa, .int (iI ((y : Nat) : Int))]))]) cf_Ro 2 rfl 1 (by decide) fl_Ra_64 rfl rfl rfl (Nat.le_of_ble_eq_true rfl) rfl d_Ra_cut_28 ?_
  refine r_aload_n hX 1 d_Ra_cut_31 rfl ?_
  refine r_iconstN hX 0 d_Ra_cut_32 rfl ?_
  refine r_put hX (ws' := [(rz, .inr (0, [.ref gr, .ref se, .ref ly, .ref wc, .ref cf, .ref dr, .int (iI ((0 : Nat) : Int)), .int (iI (bI (wn = true))), .int (iI (bI (xf = true))), .long cw])), (gr, .inr (1, [.ref ra, .ref rb, .ref pr])), (ra, .inr (2, [.ref qa, .int (iI ((y : Nat) : Int))]))]) cf_Ra 0 rfl 6 (by decide) fl_Ra_81 rfl (by decide +kernel) (by decide +kernel) (Nat.le_of_ble_eq_true rfl) rfl d_Ra_cut_33 ?_
  exact r_vret hX hT () trivial rfl (by decide) (by decide) d_Ra_cut_36

abbrev rm_Ra_turn_0 : Room := { frames := 2, cells := 0, slots := 0, locals := 41 }
set_option maxHeartbeats 4000000 in
set_option maxRecDepth 100000 in
theorem c_Ra_turn_0 (l : Launch) (D : va_G) (tI tJ tZ : ClassId) (rz : Nat) (gr : Nat) (se : Nat) (ly : Nat) (wc : Nat) (cf : Nat) (dr : Nat) (ld : Bool) (wn : Bool) (xf : Bool) (cw : Int64) (ra : Nat) (rb : Nat) (pr : Nat) (qa : Nat) (la : Nat) (LA : Nat → Nat) (hla : la ≤ 96) : rCv l y_Ra_turn prog_1_method_4_code 2 rm_Ra_turn_0 D (tysA tI tJ tZ) [.ref rz, .int (iI ((0 : Nat) : Int))] [(rz, .inr (0, [.ref gr, .ref se, .ref ly, .ref wc, .ref cf, .ref dr, .int (iI (bI (ld = true))), .int (iI (bI (wn = true))), .int (iI (bI (xf = true))), .long cw])), (gr, .inr (1, [.ref ra, .ref rb, .ref pr])), (ra, .inr (2, [.ref qa, .int (iI ((la : Nat) : Int))])), (qa, .inl (tI, 96, .inl (iA (iN LA))))] (fun (_ : Unit) => True) (fun (_ : Unit) => [(rz, .inr (0, [.ref gr, .ref se, .ref ly, .ref wc, .ref cf, .ref dr, .int (iI (bI (false = true))), .int (iI (bI (wn = true))), .int (iI (bI (xf = true))), .long cw])), (gr, .inr (1, [.ref ra, .ref rb, .ref pr])), (ra, .inr (2, [.ref qa, .int (iI ((la : Nat) : Int))])), (qa, .inl (tI, 96, .inl (iA (iN (ra_rv LA la (la / 2))))))]) := by
  intro sz
  refine r_met (by decide) (Nat.le_of_ble_eq_true rfl) ?_
  intro F p e s m args below meth c Q A hX hT hAe hsz hin
  subst hAe
  replace hX : rOK F p l e rm_Ra_turn_0 s m args below meth c Q prog_1_method_4_code 2 "RowAligner" D (tysA tI tJ tZ) _ := hX
  show F 0 [(0, .ref rz), (1, .int (iI ((0 : Nat) : Int)))] [] [(rz, .inr (0, [.ref gr, .ref se, .ref ly, .ref wc, .ref cf, .ref dr, .int (iI (bI (ld = true))), .int (iI (bI (wn = true))), .int (iI (bI (xf = true))), .long cw])), (gr, .inr (1, [.ref ra, .ref rb, .ref pr])), (ra, .inr (2, [.ref qa, .int (iI ((la : Nat) : Int))])), (qa, .inl (tI, 96, .inl (iA (iN LA))))] 0 0
  refine r_aload_n hX 0 d_Ra_turn_0 rfl ?_
  refine r_iload_n hX 1 d_Ra_turn_1 rfl ?_
  refine r_invV_r0 (st := []) (As := [.int (iI ((0 : Nat) : Int))]) (wr := [(ra, .inr (2, [.ref qa, .int (iI ((la : Nat) : Int))])), (qa, .inl (tI, 96, .inl (iA (iN LA))))]) hX (c_Ra_existingRow_0 l D tI tJ tZ rz gr se ly wc cf dr ld wn xf cw ra rb pr) "RowAligner" 0 0 cf_Ra rfl yn_Ra_existingRow ml_Ra_53 im_Ra_existingRow se_Ra_existingRow co_Ra_existingRow in_Ra (by decide) (by decide) (by decide) [0, 1] [2, 3] rfl rfl rfl rfl rfl (by decide) rfl rfl (Nat.le_of_ble_eq_true rfl) d_Ra_turn_2 [2, 3, 0, 1] rfl (w2 := [(rz, .inr (0, [.ref gr, .ref se, .ref ly, .ref wc, .ref cf, .ref dr, .int (iI (bI (ld = true))), .int (iI (bI (wn = true))), .int (iI (bI (xf = true))), .long cw])), (gr, .inr (1, [.ref ra, .ref rb, .ref pr])), (ra, .inr (2, [.ref qa, .int (iI ((la : Nat) : Int))])), (qa, .inl (tI, 96, .inl (iA (iN LA))))]) rfl ?_
  refine r_invV_v0 (st := []) (As := []) (wr := [(rz, .inr (0, [.ref gr, .ref se, .ref ly, .ref wc, .ref cf, .ref dr, .int (iI (bI (ld = true))), .int (iI (bI (wn = true))), .int (iI (bI (xf = true))), .long cw])), (gr, .inr (1, [.ref ra, .ref rb, .ref pr]))]) hX (c_Ro_reverse l D tI tJ tZ ra qa LA la hla) "RowAligner$Row" 2 2 cf_Ro rfl yn_Ro_reverse ml_Ra_85 im_Ro_reverse se_Ro_reverse co_Ro_reverse in_Ro (by decide) (by decide) (by decide) [2, 3] [0, 1] rfl rfl rfl rfl rfl (by decide) rfl rfl (Nat.le_of_ble_eq_true rfl) d_Ra_turn_5 [0, 1, 2, 3] rfl (w2 := fun _ => [(rz, .inr (0, [.ref gr, .ref se, .ref ly, .ref wc, .ref cf, .ref dr, .int (iI (bI (ld = true))), .int (iI (bI (wn = true))), .int (iI (bI (xf = true))), .long cw])), (gr, .inr (1, [.ref ra, .ref rb, .ref pr])), (ra, .inr (2, [.ref qa, .int (iI ((la : Nat) : Int))])), (qa, .inl (tI, 96, .inl (iA (iN (ra_rv LA la (la / 2))))))]) (fun _ => rfl) (fun _ _ => ?_)
  refine r_aload_n hX 0 d_Ra_turn_8 rfl ?_
  refine r_iconstN hX 0 d_Ra_turn_9 rfl ?_
  refine r_put hX (ws' := [(rz, .inr (0, [.ref gr, .ref se, .ref ly, .ref wc, .ref cf, .ref dr, .int (iI ((0 : Nat) : Int)), .int (iI (bI (wn = true))), .int (iI (bI (xf = true))), .long cw])), (gr, .inr (1, [.ref ra, .ref rb, .ref pr])), (ra, .inr (2, [.ref qa, .int (iI ((la : Nat) : Int))])), (qa, .inl (tI, 96, .inl (iA (iN (ra_rv LA la (la / 2))))))]) cf_Ra 0 rfl 6 (by decide) fl_Ra_81 rfl (by decide +kernel) (by decide +kernel) (Nat.le_of_ble_eq_true rfl) rfl d_Ra_turn_10 ?_
  exact r_vret hX hT () trivial rfl (by decide) (by decide) d_Ra_turn_13

abbrev rm_Ra_letter_0 : Room := { frames := 2, cells := 0, slots := 0, locals := 41 }
set_option maxHeartbeats 4000000 in
set_option maxRecDepth 100000 in
theorem c_Ra_letter_0 (l : Launch) (D : va_G) (tI tJ tZ : ClassId) (rz : Nat) (gr : Nat) (se : Nat) (ly : Nat) (wc : Nat) (cf : Nat) (dr : Nat) (ld : Bool) (wn : Bool) (xf : Bool) (cw : Int64) (ra : Nat) (rb : Nat) (pr : Nat) (qa : Nat) (la : Nat) (LA : Nat → Nat) (y : Nat) (hla : la ≤ 96) (hy : y < la) : rCi l y_Ra_letter prog_1_method_5_code 4 .int rm_Ra_letter_0 D (tysA tI tJ tZ) [.ref rz, .int (iI ((0 : Nat) : Int)), .int (iI ((y : Nat) : Int))] [(rz, .inr (0, [.ref gr, .ref se, .ref ly, .ref wc, .ref cf, .ref dr, .int (iI (bI (ld = true))), .int (iI (bI (wn = true))), .int (iI (bI (xf = true))), .long cw])), (gr, .inr (1, [.ref ra, .ref rb, .ref pr])), (ra, .inr (2, [.ref qa, .int (iI ((la : Nat) : Int))])), (qa, .inl (tI, 96, .inl (iA (iN LA))))] (fun zz (_ : Unit) => zz = iI (((LA y : Nat) : Int))) (fun (_ : Unit) => [(rz, .inr (0, [.ref gr, .ref se, .ref ly, .ref wc, .ref cf, .ref dr, .int (iI (bI (ld = true))), .int (iI (bI (wn = true))), .int (iI (bI (xf = true))), .long cw])), (gr, .inr (1, [.ref ra, .ref rb, .ref pr])), (ra, .inr (2, [.ref qa, .int (iI ((la : Nat) : Int))])), (qa, .inl (tI, 96, .inl (iA (iN LA))))]) := by
  intro sz
  refine r_met (by decide) (Nat.le_of_ble_eq_true rfl) ?_
  intro F p e s m args below meth c Q A hX hT hAe hsz hin
  subst hAe
  replace hX : rOK F p l e rm_Ra_letter_0 s m args below meth c Q prog_1_method_5_code 4 "RowAligner" D (tysA tI tJ tZ) _ := hX
  show F 0 [(0, .ref rz), (1, .int (iI ((0 : Nat) : Int))), (2, .int (iI ((y : Nat) : Int)))] [] [(rz, .inr (0, [.ref gr, .ref se, .ref ly, .ref wc, .ref cf, .ref dr, .int (iI (bI (ld = true))), .int (iI (bI (wn = true))), .int (iI (bI (xf = true))), .long cw])), (gr, .inr (1, [.ref ra, .ref rb, .ref pr])), (ra, .inr (2, [.ref qa, .int (iI ((la : Nat) : Int))])), (qa, .inl (tI, 96, .inl (iA (iN LA))))] 0 0
  refine r_aload_n hX 0 d_Ra_letter_0 rfl ?_
  refine r_iload_n hX 1 d_Ra_letter_1 rfl ?_
  refine r_invV_r0 (st := []) (As := [.int (iI ((0 : Nat) : Int))]) (wr := [(ra, .inr (2, [.ref qa, .int (iI ((la : Nat) : Int))])), (qa, .inl (tI, 96, .inl (iA (iN LA))))]) hX (c_Ra_existingRow_0 l D tI tJ tZ rz gr se ly wc cf dr ld wn xf cw ra rb pr) "RowAligner" 0 0 cf_Ra rfl yn_Ra_existingRow ml_Ra_53 im_Ra_existingRow se_Ra_existingRow co_Ra_existingRow in_Ra (by decide) (by decide) (by decide) [0, 1] [2, 3] rfl rfl rfl rfl rfl (by decide) rfl rfl (Nat.le_of_ble_eq_true rfl) d_Ra_letter_2 [2, 3, 0, 1] rfl (w2 := [(rz, .inr (0, [.ref gr, .ref se, .ref ly, .ref wc, .ref cf, .ref dr, .int (iI (bI (ld = true))), .int (iI (bI (wn = true))), .int (iI (bI (xf = true))), .long cw])), (gr, .inr (1, [.ref ra, .ref rb, .ref pr])), (ra, .inr (2, [.ref qa, .int (iI ((la : Nat) : Int))])), (qa, .inl (tI, 96, .inl (iA (iN LA))))]) rfl ?_
  refine r_astore_n hX (lv' := [(3, .ref ra), (0, .ref rz), (1, .int (iI ((0 : Nat) : Int))), (2, .int (iI ((y : Nat) : Int)))]) d_Ra_letter_5 rfl (by decide) rfl ?_
  refine r_iload_n hX 3 d_Ra_letter_6 rfl ?_
  refine r_if_lt hX 18 d_Ra_letter_7 (by decide) (by unfold iR; omega) (fun h7 => by exfalso; omega) (fun h7 => ?_)
  refine r_iload_n hX 3 d_Ra_letter_10 rfl ?_
  refine r_aload_n hX 0 d_Ra_letter_11 rfl ?_
  refine r_get hX cf_Ro 2 rfl 1 (by decide) fl_Ra_64 rfl d_Ra_letter_12 ?_
  refine r_icmp_lt hX 26 d_Ra_letter_15 (by decide) (by unfold iR; omega) (by unfold iR; omega) (fun h15 => ?_) (fun h15 => by exfalso; omega)
  refine r_aload_n hX 0 d_Ra_letter_26 rfl ?_
  refine r_get hX cf_Ro 2 rfl 0 (by decide) fl_Ra_91 rfl d_Ra_letter_27 ?_
  refine r_iload_n hX 3 d_Ra_letter_30 rfl ?_
  refine r_ialdN hX 3 0 rfl rfl (y) rfl (by omega) (by decide) d_Ra_letter_31 ?_
  exact r_iret hX hT () rfl rfl (by decide) (by decide) d_Ra_letter_32

abbrev rm_Ra_existingRow_1 : Room := { frames := 1, cells := 0, slots := 0, locals := 20 }
set_option maxHeartbeats 4000000 in
set_option maxRecDepth 100000 in
theorem c_Ra_existingRow_1 (l : Launch) (D : va_G) (tI tJ tZ : ClassId) (rz : Nat) (gr : Nat) (se : Nat) (ly : Nat) (wc : Nat) (cf : Nat) (dr : Nat) (ld : Bool) (wn : Bool) (xf : Bool) (cw : Int64) (ra : Nat) (rb : Nat) (pr : Nat) : rCr l y_Ra_existingRow prog_1_method_23_code 2 (.object "RowAligner$Row") rm_Ra_existingRow_1 D (tysA tI tJ tZ) [.ref rz, .int (iI ((1 : Nat) : Int))] [(rz, .inr (0, [.ref gr, .ref se, .ref ly, .ref wc, .ref cf, .ref dr, .int (iI (bI (ld = true))), .int (iI (bI (wn = true))), .int (iI (bI (xf = true))), .long cw])), (gr, .inr (1, [.ref ra, .ref rb, .ref pr]))] rb [(rz, .inr (0, [.ref gr, .ref se, .ref ly, .ref wc, .ref cf, .ref dr, .int (iI (bI (ld = true))), .int (iI (bI (wn = true))), .int (iI (bI (xf = true))), .long cw])), (gr, .inr (1, [.ref ra, .ref rb, .ref pr]))] := by
  intro sz
  refine r_met (by decide) (Nat.le_of_ble_eq_true rfl) ?_
  intro F p e s m args below meth c Q A hX hT hAe hsz hin
  subst hAe
  replace hX : rOK F p l e rm_Ra_existingRow_1 s m args below meth c Q prog_1_method_23_code 2 "RowAligner" D (tysA tI tJ tZ) _ := hX
  show F 0 [(0, .ref rz), (1, .int (iI ((1 : Nat) : Int)))] [] [(rz, .inr (0, [.ref gr, .ref se, .ref ly, .ref wc, .ref cf, .ref dr, .int (iI (bI (ld = true))), .int (iI (bI (wn = true))), .int (iI (bI (xf = true))), .long cw])), (gr, .inr (1, [.ref ra, .ref rb, .ref pr]))] 0 0
  refine r_iload_n hX 1 d_Ra_existingRow_0 rfl ?_
  refine r_invS_v0 (st := []) (As := [.int (iI ((1 : Nat) : Int))]) (wr := [(rz, .inr (0, [.ref gr, .ref se, .ref ly, .ref wc, .ref cf, .ref dr, .int (iI (bI (ld = true))), .int (iI (bI (wn = true))), .int (iI (bI (xf = true))), .long cw])), (gr, .inr (1, [.ref ra, .ref rb, .ref pr]))]) hX (c_Ra_refuseOtherRows l D tI tJ tZ 1 (by omega)) yn_Ra_refuseOtherRows ml_Ra_138 st_Ra_refuseOtherRows co_Ra_refuseOtherRows in_Ra (by decide) (by decide) (by decide) [] [0, 1] rfl rfl rfl rfl rfl (by decide) rfl rfl (Nat.le_of_ble_eq_true rfl) d_Ra_existingRow_1 [0, 1] rfl (w2 := fun _ => [(rz, .inr (0, [.ref gr, .ref se, .ref ly, .ref wc, .ref cf, .ref dr, .int (iI (bI (ld = true))), .int (iI (bI (wn = true))), .int (iI (bI (xf = true))), .long cw])), (gr, .inr (1, [.ref ra, .ref rb, .ref pr]))]) (fun _ => rfl) (fun _ _ => ?_)
  refine r_iload_n hX 1 d_Ra_existingRow_4 rfl ?_
  refine r_if_ne hX 18 d_Ra_existingRow_5 (by decide) (by unfold iR; omega) (fun h5 => ?_) (fun h5 => by exfalso; omega)
  refine r_aload_n hX 0 d_Ra_existingRow_18 rfl ?_
  refine r_get hX cf_Ra 0 rfl 0 (by decide) fl_Ra_12 rfl d_Ra_existingRow_19 ?_
  refine r_get hX cf_Gr 1 rfl 1 (by decide) fl_Ra_218 rfl d_Ra_existingRow_22 ?_
  exact r_aret hX hT rfl (by decide) (by decide) d_Ra_existingRow_25

abbrev rm_Ra_size_1 : Room := { frames := 2, cells := 0, slots := 0, locals := 41 }
set_option maxHeartbeats 4000000 in
set_option maxRecDepth 100000 in
theorem c_Ra_size_1 (l : Launch) (D : va_G) (tI tJ tZ : ClassId) (rz : Nat) (gr : Nat) (se : Nat) (ly : Nat) (wc : Nat) (cf : Nat) (dr : Nat) (ld : Bool) (wn : Bool) (xf : Bool) (cw : Int64) (ra : Nat) (rb : Nat) (pr : Nat) (qa : Nat) (la : Nat) : rCi l y_Ra_size prog_1_method_6_code 2 .int rm_Ra_size_1 D (tysA tI tJ tZ) [.ref rz, .int (iI ((1 : Nat) : Int))] [(rz, .inr (0, [.ref gr, .ref se, .ref ly, .ref wc, .ref cf, .ref dr, .int (iI (bI (ld = true))), .int (iI (bI (wn = true))), .int (iI (bI (xf = true))), .long cw])), (gr, .inr (1, [.ref ra, .ref rb, .ref pr])), (rb, .inr (2, [.ref qa, .int (iI ((la : Nat) : Int))]))] (fun zz (_ : Unit) => zz = iI (((la : Nat) : Int))) (fun (_ : Unit) => [(rz, .inr (0, [.ref gr, .ref se, .ref ly, .ref wc, .ref cf, .ref dr, .int (iI (bI (ld = true))), .int (iI (bI (wn = true))), .int (iI (bI (xf = true))), .long cw])), (gr, .inr (1, [.ref ra, .ref rb, .ref pr])), (rb, .inr (2, [.ref qa, .int (iI ((la : Nat) : Int))]))]) := by
  intro sz
  refine r_met (by decide) (Nat.le_of_ble_eq_true rfl) ?_
  intro F p e s m args below meth c Q A hX hT hAe hsz hin
  subst hAe
  replace hX : rOK F p l e rm_Ra_size_1 s m args below meth c Q prog_1_method_6_code 2 "RowAligner" D (tysA tI tJ tZ) _ := hX
  show F 0 [(0, .ref rz), (1, .int (iI ((1 : Nat) : Int)))] [] [(rz, .inr (0, [.ref gr, .ref se, .ref ly, .ref wc, .ref cf, .ref dr, .int (iI (bI (ld = true))), .int (iI (bI (wn = true))), .int (iI (bI (xf = true))), .long cw])), (gr, .inr (1, [.ref ra, .ref rb, .ref pr])), (rb, .inr (2, [.ref qa, .int (iI ((la : Nat) : Int))]))] 0 0
  refine r_aload_n hX 0 d_Ra_size_0 rfl ?_
  refine r_iload_n hX 1 d_Ra_size_1 rfl ?_
  refine r_invV_r0 (st := []) (As := [.int (iI ((1 : Nat) : Int))]) (wr := [(rb, .inr (2, [.ref qa, .int (iI ((la : Nat) : Int))]))]) hX (c_Ra_existingRow_1 l D tI tJ tZ rz gr se ly wc cf dr ld wn xf cw ra rb pr) "RowAligner" 0 0 cf_Ra rfl yn_Ra_existingRow ml_Ra_53 im_Ra_existingRow se_Ra_existingRow co_Ra_existingRow in_Ra (by decide) (by decide) (by decide) [0, 1] [2] rfl rfl rfl rfl rfl (by decide) rfl rfl (Nat.le_of_ble_eq_true rfl) d_Ra_size_2 [1, 2, 0] rfl (w2 := [(rz, .inr (0, [.ref gr, .ref se, .ref ly, .ref wc, .ref cf, .ref dr, .int (iI (bI (ld = true))), .int (iI (bI (wn = true))), .int (iI (bI (xf = true))), .long cw])), (gr, .inr (1, [.ref ra, .ref rb, .ref pr])), (rb, .inr (2, [.ref qa, .int (iI ((la : Nat) : Int))]))]) rfl ?_
  refine r_get hX cf_Ro 2 rfl 1 (by decide) fl_Ra_64 rfl d_Ra_size_5 ?_
  exact r_iret hX hT () rfl rfl (by decide) (by decide) d_Ra_size_8

abbrev rm_Ra_cut_1 : Room := { frames := 2, cells := 0, slots := 0, locals := 41 }
set_option maxHeartbeats 4000000 in
set_option maxRecDepth 100000 in
theorem c_Ra_cut_1 (l : Launch) (D : va_G) (tI tJ tZ : ClassId) (rz : Nat) (gr : Nat) (se : Nat) (ly : Nat) (wc : Nat) (cf : Nat) (dr : Nat) (ld : Bool) (wn : Bool) (xf : Bool) (cw : Int64) (ra : Nat) (rb : Nat) (pr : Nat) (qa : Nat) (la : Nat) (y : Nat) (hla : la ≤ 96) (hy : y ≤ la) : rCv l y_Ra_cut prog_1_method_3_code 4 rm_Ra_cut_1 D (tysA tI tJ tZ) [.ref rz, .int (iI ((1 : Nat) : Int)), .int (iI ((y : Nat) : Int))] [(rz, .inr (0, [.ref gr, .ref se, .ref ly, .ref wc, .ref cf, .ref dr, .int (iI (bI (ld = true))), .int (iI (bI (wn = true))), .int (iI (bI (xf = true))), .long cw])), (gr, .inr (1, [.ref ra, .ref rb, .ref pr])), (rb, .inr (2, [.ref qa, .int (iI ((la : Nat) : Int))]))] (fun (_ : Unit) => True) (fun (_ : Unit) => [(rz, .inr (0, [.ref gr, .ref se, .ref ly, .ref wc, .ref cf, .ref dr, .int (iI (bI (false = true))), .int (iI (bI (wn = true))), .int (iI (bI (xf = true))), .long cw])), (gr, .inr (1, [.ref ra, .ref rb, .ref pr])), (rb, .inr (2, [.ref qa, .int (iI ((y : Nat) : Int))]))]) := by
  intro sz
  refine r_met (by decide) (Nat.le_of_ble_eq_true rfl) ?_
  intro F p e s m args below meth c Q A hX hT hAe hsz hin
  subst hAe
  replace hX : rOK F p l e rm_Ra_cut_1 s m args below meth c Q prog_1_method_3_code 4 "RowAligner" D (tysA tI tJ tZ) _ := hX
  show F 0 [(0, .ref rz), (1, .int (iI ((1 : Nat) : Int))), (2, .int (iI ((y : Nat) : Int)))] [] [(rz, .inr (0, [.ref gr, .ref se, .ref ly, .ref wc, .ref cf, .ref dr, .int (iI (bI (ld = true))), .int (iI (bI (wn = true))), .int (iI (bI (xf = true))), .long cw])), (gr, .inr (1, [.ref ra, .ref rb, .ref pr])), (rb, .inr (2, [.ref qa, .int (iI ((la : Nat) : Int))]))] 0 0
  refine r_aload_n hX 0 d_Ra_cut_0 rfl ?_
  refine r_iload_n hX 1 d_Ra_cut_1 rfl ?_
  refine r_invV_r0 (st := []) (As := [.int (iI ((1 : Nat) : Int))]) (wr := [(rb, .inr (2, [.ref qa, .int (iI ((la : Nat) : Int))]))]) hX (c_Ra_existingRow_1 l D tI tJ tZ rz gr se ly wc cf dr ld wn xf cw ra rb pr) "RowAligner" 0 0 cf_Ra rfl yn_Ra_existingRow ml_Ra_53 im_Ra_existingRow se_Ra_existingRow co_Ra_existingRow in_Ra (by decide) (by decide) (by decide) [0, 1] [2] rfl rfl rfl rfl rfl (by decide) rfl rfl (Nat.le_of_ble_eq_true rfl) d_Ra_cut_2 [1, 2, 0] rfl (w2 := [(rz, .inr (0, [.ref gr, .ref se, .ref ly, .ref wc, .ref cf, .ref dr, .int (iI (bI (ld = true))), .int (iI (bI (wn = true))), .int (iI (bI (xf = true))), .long cw])), (gr, .inr (1, [.ref ra, .ref rb, .ref pr])), (rb, .inr (2, [.ref qa, .int (iI ((la : Nat) : Int))]))]) rfl ?_
  refine r_astore_n hX (lv' := [(3, .ref rb), (0, .ref rz), (1, .int (iI ((1 : Nat) : Int))), (2, .int (iI ((y : Nat) : Int)))]) d_Ra_cut_5 rfl (by decide) rfl ?_
  refine r_iload_n hX 3 d_Ra_cut_6 rfl ?_
  refine r_if_lt hX 18 d_Ra_cut_7 (by decide) (by unfold iR; omega) (fun h7 => by exfalso; omega) (fun h7 => ?_)
  refine r_iload_n hX 3 d_Ra_cut_10 rfl ?_
  refine r_aload_n hX 0 d_Ra_cut_11 rfl ?_
  refine r_get hX cf_Ro 2 rfl 1 (by decide) fl_Ra_64 rfl d_Ra_cut_12 ?_
  refine r_icmp_le hX 26 d_Ra_cut_15 (by decide) (by unfold iR; omega) (by unfold iR; omega) (fun h15 => ?_) (fun h15 => by exfalso; omega)
  refine r_aload_n hX 0 d_Ra_cut_26 rfl ?_
  refine r_iload_n hX 3 d_Ra_cut_27 rfl ?_
  refine r_put hX (ws' := [(rz, .inr (0, [.ref gr, .ref se, .ref ly, .ref wc, .ref cf, .ref dr, .int (iI (bI (ld = true))), .int (iI (bI (wn = true))), .int (iI (bI (xf = true))), .long cw])), (gr, .inr (1, [.ref ra, .ref rb, .ref pr])), (rb, .inr (2, [.ref qa, .int (iI ((y : Nat) : Int))]))]) cf_Ro 2 rfl 1 (by decide) fl_Ra_64 rfl rfl rfl (Nat.le_of_ble_eq_true rfl) rfl d_Ra_cut_28 ?_
  refine r_aload_n hX 1 d_Ra_cut_31 rfl ?_
  refine r_iconstN hX 0 d_Ra_cut_32 rfl ?_
  refine r_put hX (ws' := [(rz, .inr (0, [.ref gr, .ref se, .ref ly, .ref wc, .ref cf, .ref dr, .int (iI ((0 : Nat) : Int)), .int (iI (bI (wn = true))), .int (iI (bI (xf = true))), .long cw])), (gr, .inr (1, [.ref ra, .ref rb, .ref pr])), (rb, .inr (2, [.ref qa, .int (iI ((y : Nat) : Int))]))]) cf_Ra 0 rfl 6 (by decide) fl_Ra_81 rfl (by decide +kernel) (by decide +kernel) (Nat.le_of_ble_eq_true rfl) rfl d_Ra_cut_33 ?_
  exact r_vret hX hT () trivial rfl (by decide) (by decide) d_Ra_cut_36

abbrev rm_Ra_turn_1 : Room := { frames := 2, cells := 0, slots := 0, locals := 41 }
set_option maxHeartbeats 4000000 in
set_option maxRecDepth 100000 in
theorem c_Ra_turn_1 (l : Launch) (D : va_G) (tI tJ tZ : ClassId) (rz : Nat) (gr : Nat) (se : Nat) (ly : Nat) (wc : Nat) (cf : Nat) (dr : Nat) (ld : Bool) (wn : Bool) (xf : Bool) (cw : Int64) (ra : Nat) (rb : Nat) (pr : Nat) (qa : Nat) (la : Nat) (LA : Nat → Nat) (hla : la ≤ 96) : rCv l y_Ra_turn prog_1_method_4_code 2 rm_Ra_turn_1 D (tysA tI tJ tZ) [.ref rz, .int (iI ((1 : Nat) : Int))] [(rz, .inr (0, [.ref gr, .ref se, .ref ly, .ref wc, .ref cf, .ref dr, .int (iI (bI (ld = true))), .int (iI (bI (wn = true))), .int (iI (bI (xf = true))), .long cw])), (gr, .inr (1, [.ref ra, .ref rb, .ref pr])), (rb, .inr (2, [.ref qa, .int (iI ((la : Nat) : Int))])), (qa, .inl (tI, 96, .inl (iA (iN LA))))] (fun (_ : Unit) => True) (fun (_ : Unit) => [(rz, .inr (0, [.ref gr, .ref se, .ref ly, .ref wc, .ref cf, .ref dr, .int (iI (bI (false = true))), .int (iI (bI (wn = true))), .int (iI (bI (xf = true))), .long cw])), (gr, .inr (1, [.ref ra, .ref rb, .ref pr])), (rb, .inr (2, [.ref qa, .int (iI ((la : Nat) : Int))])), (qa, .inl (tI, 96, .inl (iA (iN (ra_rv LA la (la / 2))))))]) := by
  intro sz
  refine r_met (by decide) (Nat.le_of_ble_eq_true rfl) ?_
  intro F p e s m args below meth c Q A hX hT hAe hsz hin
  subst hAe
  replace hX : rOK F p l e rm_Ra_turn_1 s m args below meth c Q prog_1_method_4_code 2 "RowAligner" D (tysA tI tJ tZ) _ := hX
  show F 0 [(0, .ref rz), (1, .int (iI ((1 : Nat) : Int)))] [] [(rz, .inr (0, [.ref gr, .ref se, .ref ly, .ref wc, .ref cf, .ref dr, .int (iI (bI (ld = true))), .int (iI (bI (wn = true))), .int (iI (bI (xf = true))), .long cw])), (gr, .inr (1, [.ref ra, .ref rb, .ref pr])), (rb, .inr (2, [.ref qa, .int (iI ((la : Nat) : Int))])), (qa, .inl (tI, 96, .inl (iA (iN LA))))] 0 0
  refine r_aload_n hX 0 d_Ra_turn_0 rfl ?_
  refine r_iload_n hX 1 d_Ra_turn_1 rfl ?_
  refine r_invV_r0 (st := []) (As := [.int (iI ((1 : Nat) : Int))]) (wr := [(rb, .inr (2, [.ref qa, .int (iI ((la : Nat) : Int))])), (qa, .inl (tI, 96, .inl (iA (iN LA))))]) hX (c_Ra_existingRow_1 l D tI tJ tZ rz gr se ly wc cf dr ld wn xf cw ra rb pr) "RowAligner" 0 0 cf_Ra rfl yn_Ra_existingRow ml_Ra_53 im_Ra_existingRow se_Ra_existingRow co_Ra_existingRow in_Ra (by decide) (by decide) (by decide) [0, 1] [2, 3] rfl rfl rfl rfl rfl (by decide) rfl rfl (Nat.le_of_ble_eq_true rfl) d_Ra_turn_2 [2, 3, 0, 1] rfl (w2 := [(rz, .inr (0, [.ref gr, .ref se, .ref ly, .ref wc, .ref cf, .ref dr, .int (iI (bI (ld = true))), .int (iI (bI (wn = true))), .int (iI (bI (xf = true))), .long cw])), (gr, .inr (1, [.ref ra, .ref rb, .ref pr])), (rb, .inr (2, [.ref qa, .int (iI ((la : Nat) : Int))])), (qa, .inl (tI, 96, .inl (iA (iN LA))))]) rfl ?_
  refine r_invV_v0 (st := []) (As := []) (wr := [(rz, .inr (0, [.ref gr, .ref se, .ref ly, .ref wc, .ref cf, .ref dr, .int (iI (bI (ld = true))), .int (iI (bI (wn = true))), .int (iI (bI (xf = true))), .long cw])), (gr, .inr (1, [.ref ra, .ref rb, .ref pr]))]) hX (c_Ro_reverse l D tI tJ tZ rb qa LA la hla) "RowAligner$Row" 2 2 cf_Ro rfl yn_Ro_reverse ml_Ra_85 im_Ro_reverse se_Ro_reverse co_Ro_reverse in_Ro (by decide) (by decide) (by decide) [2, 3] [0, 1] rfl rfl rfl rfl rfl (by decide) rfl rfl (Nat.le_of_ble_eq_true rfl) d_Ra_turn_5 [0, 1, 2, 3] rfl (w2 := fun _ => [(rz, .inr (0, [.ref gr, .ref se, .ref ly, .ref wc, .ref cf, .ref dr, .int (iI (bI (ld = true))), .int (iI (bI (wn = true))), .int (iI (bI (xf = true))), .long cw])), (gr, .inr (1, [.ref ra, .ref rb, .ref pr])), (rb, .inr (2, [.ref qa, .int (iI ((la : Nat) : Int))])), (qa, .inl (tI, 96, .inl (iA (iN (ra_rv LA la (la / 2))))))]) (fun _ => rfl) (fun _ _ => ?_)
  refine r_aload_n hX 0 d_Ra_turn_8 rfl ?_
  refine r_iconstN hX 0 d_Ra_turn_9 rfl ?_
  refine r_put hX (ws' := [(rz, .inr (0, [.ref gr, .ref se, .ref ly, .ref wc, .ref cf, .ref dr, .int (iI ((0 : Nat) : Int)), .int (iI (bI (wn = true))), .int (iI (bI (xf = true))), .long cw])), (gr, .inr (1, [.ref ra, .ref rb, .ref pr])), (rb, .inr (2, [.ref qa, .int (iI ((la : Nat) : Int))])), (qa, .inl (tI, 96, .inl (iA (iN (ra_rv LA la (la / 2))))))]) cf_Ra 0 rfl 6 (by decide) fl_Ra_81 rfl (by decide +kernel) (by decide +kernel) (Nat.le_of_ble_eq_true rfl) rfl d_Ra_turn_10 ?_
  exact r_vret hX hT () trivial rfl (by decide) (by decide) d_Ra_turn_13

abbrev rm_Ra_letter_1 : Room := { frames := 2, cells := 0, slots := 0, locals := 41 }
set_option maxHeartbeats 4000000 in
set_option maxRecDepth 100000 in
theorem c_Ra_letter_1 (l : Launch) (D : va_G) (tI tJ tZ : ClassId) (rz : Nat) (gr : Nat) (se : Nat) (ly : Nat) (wc : Nat) (cf : Nat) (dr : Nat) (ld : Bool) (wn : Bool) (xf : Bool) (cw : Int64) (ra : Nat) (rb : Nat) (pr : Nat) (qa : Nat) (la : Nat) (LA : Nat → Nat) (y : Nat) (hla : la ≤ 96) (hy : y < la) : rCi l y_Ra_letter prog_1_method_5_code 4 .int rm_Ra_letter_1 D (tysA tI tJ tZ) [.ref rz, .int (iI ((1 : Nat) : Int)), .int (iI ((y : Nat) : Int))] [(rz, .inr (0, [.ref gr, .ref se, .ref ly, .ref wc, .ref cf, .ref dr, .int (iI (bI (ld = true))), .int (iI (bI (wn = true))), .int (iI (bI (xf = true))), .long cw])), (gr, .inr (1, [.ref ra, .ref rb, .ref pr])), (rb, .inr (2, [.ref qa, .int (iI ((la : Nat) : Int))])), (qa, .inl (tI, 96, .inl (iA (iN LA))))] (fun zz (_ : Unit) => zz = iI (((LA y : Nat) : Int))) (fun (_ : Unit) => [(rz, .inr (0, [.ref gr, .ref se, .ref ly, .ref wc, .ref cf, .ref dr, .int (iI (bI (ld = true))), .int (iI (bI (wn = true))), .int (iI (bI (xf = true))), .long cw])), (gr, .inr (1, [.ref ra, .ref rb, .ref pr])), (rb, .inr (2, [.ref qa, .int (iI ((la : Nat) : Int))])), (qa, .inl (tI, 96, .inl (iA (iN LA))))]) := by
  intro sz
  refine r_met (by decide) (Nat.le_of_ble_eq_true rfl) ?_
  intro F p e s m args below meth c Q A hX hT hAe hsz hin
  subst hAe
  replace hX : rOK F p l e rm_Ra_letter_1 s m args below meth c Q prog_1_method_5_code 4 "RowAligner" D (tysA tI tJ tZ) _ := hX
  show F 0 [(0, .ref rz), (1, .int (iI ((1 : Nat) : Int))), (2, .int (iI ((y : Nat) : Int)))] [] [(rz, .inr (0, [.ref gr, .ref se, .ref ly, .ref wc, .ref cf, .ref dr, .int (iI (bI (ld = true))), .int (iI (bI (wn = true))), .int (iI (bI (xf = true))), .long cw])), (gr, .inr (1, [.ref ra, .ref rb, .ref pr])), (rb, .inr (2, [.ref qa, .int (iI ((la : Nat) : Int))])), (qa, .inl (tI, 96, .inl (iA (iN LA))))] 0 0
  refine r_aload_n hX 0 d_Ra_letter_0 rfl ?_
  refine r_iload_n hX 1 d_Ra_letter_1 rfl ?_
  refine r_invV_r0 (st := []) (As := [.int (iI ((1 : Nat) : Int))]) (wr := [(rb, .inr (2, [.ref qa, .int (iI ((la : Nat) : Int))])), (qa, .inl (tI, 96, .inl (iA (iN LA))))]) hX (c_Ra_existingRow_1 l D tI tJ tZ rz gr se ly wc cf dr ld wn xf cw ra rb pr) "RowAligner" 0 0 cf_Ra rfl yn_Ra_existingRow ml_Ra_53 im_Ra_existingRow se_Ra_existingRow co_Ra_existingRow in_Ra (by decide) (by decide) (by decide) [0, 1] [2, 3] rfl rfl rfl rfl rfl (by decide) rfl rfl (Nat.le_of_ble_eq_true rfl) d_Ra_letter_2 [2, 3, 0, 1] rfl (w2 := [(rz, .inr (0, [.ref gr, .ref se, .ref ly, .ref wc, .ref cf, .ref dr, .int (iI (bI (ld = true))), .int (iI (bI (wn = true))), .int (iI (bI (xf = true))), .long cw])), (gr, .inr (1, [.ref ra, .ref rb, .ref pr])), (rb, .inr (2, [.ref qa, .int (iI ((la : Nat) : Int))])), (qa, .inl (tI, 96, .inl (iA (iN LA))))]) rfl ?_
  refine r_astore_n hX (lv' := [(3, .ref rb), (0, .ref rz), (1, .int (iI ((1 : Nat) : Int))), (2, .int (iI ((y : Nat) : Int)))]) d_Ra_letter_5 rfl (by decide) rfl ?_
  refine r_iload_n hX 3 d_Ra_letter_6 rfl ?_
  refine r_if_lt hX 18 d_Ra_letter_7 (by decide) (by unfold iR; omega) (fun h7 => by exfalso; omega) (fun h7 => ?_)
  refine r_iload_n hX 3 d_Ra_letter_10 rfl ?_
  refine r_aload_n hX 0 d_Ra_letter_11 rfl ?_
  refine r_get hX cf_Ro 2 rfl 1 (by decide) fl_Ra_64 rfl d_Ra_letter_12 ?_
  refine r_icmp_lt hX 26 d_Ra_letter_15 (by decide) (by unfold iR; omega) (by unfold iR; omega) (fun h15 => ?_) (fun h15 => by exfalso; omega)
  refine r_aload_n hX 0 d_Ra_letter_26 rfl ?_
  refine r_get hX cf_Ro 2 rfl 0 (by decide) fl_Ra_91 rfl d_Ra_letter_27 ?_
  refine r_iload_n hX 3 d_Ra_letter_30 rfl ?_
  refine r_ialdN hX 3 0 rfl rfl (y) rfl (by omega) (by decide) d_Ra_letter_31 ?_
  exact r_iret hX hT () rfl rfl (by decide) (by decide) d_Ra_letter_32
