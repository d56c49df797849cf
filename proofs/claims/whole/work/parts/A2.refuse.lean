abbrev rmt_Ra_refuseOtherRows : Room := { frames := 6, cells := 1, slots := 6, locals := 90 }
set_option maxHeartbeats 4000000 in
set_option maxRecDepth 100000 in
theorem t_Ra_refuseOtherRows (l : Launch) (hstk : l.stackTraces = false) (D : va_G) (tI tJ tZ : ClassId) (x : Int) (hx : iR x) (hr : x < 0 ∨ 1 < x) : tC l y_Ra_refuseOtherRows prog_1_method_24_code 1 none rmt_Ra_refuseOtherRows D (tysA tI tJ tZ) [.int (iI x)] [] "java/lang/IndexOutOfBoundsException" := by
  intro sz
  refine t_met (by decide) (Nat.le_of_ble_eq_true rfl) ?_
  intro F p e s m args below meth c Q A hX hT
  replace hX : qOK F p l e rmt_Ra_refuseOtherRows s m args below meth c Q prog_1_method_24_code 1 "RowAligner" D (tysA tI tJ tZ) _ := hX
  unfold iR at hx
  show F 0 [(0, .int (iI x))] [] [] 0 0
  refine q_iload_n hX 0 d_Ra_refuseOtherRows_0 rfl ?_
  refine q_if_eq hX 17 d_Ra_refuseOtherRows_1 (by decide) (by unfold iR; omega) (fun h1 => by exfalso; omega) (fun h1 => ?_)
  refine q_iload_n hX 0 d_Ra_refuseOtherRows_4 rfl ?_
  refine q_iconstN hX 1 d_Ra_refuseOtherRows_5 rfl ?_
  refine q_icmp_eq hX 17 d_Ra_refuseOtherRows_6 (by decide) (by unfold iR; omega) (by unfold iR; omega) (fun h6 => by exfalso; omega) (fun h6 => ?_)
  exact q_throw hX hT hstk tw_Ra_88 (Nat.le_of_ble_eq_true rfl) (Nat.le_of_ble_eq_true rfl) (Nat.le_of_ble_eq_true rfl) (Nat.le_of_ble_eq_true rfl) (Nat.le_of_ble_eq_true rfl) (Nat.le_of_ble_eq_true rfl) (Nat.le_of_ble_eq_true rfl) d_Ra_refuseOtherRows_9 d_Ra_refuseOtherRows_12 d_Ra_refuseOtherRows_13 d_Ra_refuseOtherRows_16

abbrev rmt_Ra_refusePriceBelow : Room := { frames := 6, cells := 1, slots := 6, locals := 90 }
set_option maxHeartbeats 4000000 in
set_option maxRecDepth 100000 in
theorem t_Ra_refusePriceBelow (l : Launch) (hstk : l.stackTraces = false) (D : va_G) (tI tJ tZ : ClassId) (lo : Int) (v : Int) (hlo : iR lo) (hv : iR v) (hr : v < lo ∨ 512 < v) : tC l y_Ra_refusePriceBelow prog_1_method_25_code 2 none rmt_Ra_refusePriceBelow D (tysA tI tJ tZ) [.int (iI lo), .int (iI v)] [] "java/lang/IllegalArgumentException" := by
  intro sz
  refine t_met (by decide) (Nat.le_of_ble_eq_true rfl) ?_
  intro F p e s m args below meth c Q A hX hT
  replace hX : qOK F p l e rmt_Ra_refusePriceBelow s m args below meth c Q prog_1_method_25_code 2 "RowAligner" D (tysA tI tJ tZ) _ := hX
  unfold iR at hlo hv
  show F 0 [(0, .int (iI lo)), (1, .int (iI v))] [] [] 0 0
  refine q_iload_n hX 1 d_Ra_refusePriceBelow_0 rfl ?_
  refine q_iload_n hX 0 d_Ra_refusePriceBelow_1 rfl ?_
  refine q_icmp_lt hX 12 d_Ra_refusePriceBelow_2 (by decide) (by unfold iR; omega) (by unfold iR; omega) (fun h2 => ?_) (fun h2 => ?_)
  · exact q_throw hX hT hstk tw_Ra_61 (Nat.le_of_ble_eq_true rfl) (Nat.le_of_ble_eq_true rfl) (Nat.le_of_ble_eq_true rfl) (Nat.le_of_ble_eq_true rfl) (Nat.le_of_ble_eq_true rfl) (Nat.le_of_ble_eq_true rfl) (Nat.le_of_ble_eq_true rfl) d_Ra_refusePriceBelow_12 d_Ra_refusePriceBelow_15 d_Ra_refusePriceBelow_16 d_Ra_refusePriceBelow_19
  · refine q_iload_n hX 1 d_Ra_refusePriceBelow_5 rfl ?_
    refine q_sipushN hX 512 d_Ra_refusePriceBelow_6 rfl (by decide) ?_
    refine q_icmp_le hX 20 d_Ra_refusePriceBelow_9 (by decide) (by unfold iR; omega) (by unfold iR; omega) (fun h9 => by exfalso; omega) (fun h9 => ?_)
    exact q_throw hX hT hstk tw_Ra_61 (Nat.le_of_ble_eq_true rfl) (Nat.le_of_ble_eq_true rfl) (Nat.le_of_ble_eq_true rfl) (Nat.le_of_ble_eq_true rfl) (Nat.le_of_ble_eq_true rfl) (Nat.le_of_ble_eq_true rfl) (Nat.le_of_ble_eq_true rfl) d_Ra_refusePriceBelow_12 d_Ra_refusePriceBelow_15 d_Ra_refusePriceBelow_16 d_Ra_refusePriceBelow_19

abbrev rmt_Ra_refuseOtherEnds : Room := { frames := 6, cells := 1, slots := 6, locals := 90 }
set_option maxHeartbeats 4000000 in
set_option maxRecDepth 100000 in
theorem t_Ra_refuseOtherEnds (l : Launch) (hstk : l.stackTraces = false) (D : va_G) (tI tJ tZ : ClassId) (x : Int) (hx : iR x) (hr : x < 0 ∨ 15 < x) : tC l y_Ra_refuseOtherEnds prog_1_method_26_code 1 none rmt_Ra_refuseOtherEnds D (tysA tI tJ tZ) [.int (iI x)] [] "java/lang/IllegalArgumentException" := by
  intro sz
  refine t_met (by decide) (Nat.le_of_ble_eq_true rfl) ?_
  intro F p e s m args below meth c Q A hX hT
  replace hX : qOK F p l e rmt_Ra_refuseOtherEnds s m args below meth c Q prog_1_method_26_code 1 "RowAligner" D (tysA tI tJ tZ) _ := hX
  unfold iR at hx
  show F 0 [(0, .int (iI x))] [] [] 0 0
  refine q_iload_n hX 0 d_Ra_refuseOtherEnds_0 rfl ?_
  refine q_if_lt hX 10 d_Ra_refuseOtherEnds_1 (by decide) (by unfold iR; omega) (fun h1 => ?_) (fun h1 => ?_)
  · exact q_throw hX hT hstk tw_Ra_61 (Nat.le_of_ble_eq_true rfl) (Nat.le_of_ble_eq_true rfl) (Nat.le_of_ble_eq_true rfl) (Nat.le_of_ble_eq_true rfl) (Nat.le_of_ble_eq_true rfl) (Nat.le_of_ble_eq_true rfl) (Nat.le_of_ble_eq_true rfl) d_Ra_refuseOtherEnds_10 d_Ra_refuseOtherEnds_13 d_Ra_refuseOtherEnds_14 d_Ra_refuseOtherEnds_17
  · refine q_iload_n hX 0 d_Ra_refuseOtherEnds_4 rfl ?_
    refine q_bipushN hX 15 d_Ra_refuseOtherEnds_5 rfl (by decide) ?_
    refine q_icmp_le hX 18 d_Ra_refuseOtherEnds_7 (by decide) (by unfold iR; omega) (by unfold iR; omega) (fun h7 => by exfalso; omega) (fun h7 => ?_)
    exact q_throw hX hT hstk tw_Ra_61 (Nat.le_of_ble_eq_true rfl) (Nat.le_of_ble_eq_true rfl) (Nat.le_of_ble_eq_true rfl) (Nat.le_of_ble_eq_true rfl) (Nat.le_of_ble_eq_true rfl) (Nat.le_of_ble_eq_true rfl) (Nat.le_of_ble_eq_true rfl) d_Ra_refuseOtherEnds_10 d_Ra_refuseOtherEnds_13 d_Ra_refuseOtherEnds_14 d_Ra_refuseOtherEnds_17

abbrev rmt_Ra_refuseUnlaid : Room := { frames := 6, cells := 1, slots := 6, locals := 90 }
set_option maxHeartbeats 4000000 in
set_option maxRecDepth 100000 in
theorem t_Ra_refuseUnlaid (l : Launch) (hstk : l.stackTraces = false) (D : va_G) (tI tJ tZ : ClassId) (rz : Nat) (gr : Nat) (se : Nat) (ly : Nat) (wc : Nat) (cf : Nat) (dr : Nat) (ld : Bool) (wn : Bool) (xf : Bool) (cw : Int64) (hl : ¬ ld = true) : tC l y_Ra_refuseUnlaid prog_1_method_27_code 1 none rmt_Ra_refuseUnlaid D (tysA tI tJ tZ) [.ref rz] [(rz, .inr (0, [.ref gr, .ref se, .ref ly, .ref wc, .ref cf, .ref dr, .int (iI (bI (ld = true))), .int (iI (bI (wn = true))), .int (iI (bI (xf = true))), .long cw]))] "java/lang/IllegalStateException" := by
  intro sz
  refine t_met (by decide) (Nat.le_of_ble_eq_true rfl) ?_
  intro F p e s m args below meth c Q A hX hT
  replace hX : qOK F p l e rmt_Ra_refuseUnlaid s m args below meth c Q prog_1_method_27_code 1 "RowAligner" D (tysA tI tJ tZ) _ := hX
  show F 0 [(0, .ref rz)] [] [(rz, .inr (0, [.ref gr, .ref se, .ref ly, .ref wc, .ref cf, .ref dr, .int (iI (bI (ld = true))), .int (iI (bI (wn = true))), .int (iI (bI (xf = true))), .long cw]))] 0 0
  refine q_aload_n hX 0 d_Ra_refuseUnlaid_0 rfl ?_
  refine q_get hX cf_Ra 0 rfl 6 (by decide) fl_Ra_81 rfl d_Ra_refuseUnlaid_1 ?_
  refine qb_if_ne hX 15 d_Ra_refuseUnlaid_4 (by decide) (fun h4 => by exfalso; exact hl h4) (fun h4 => ?_)
  exact q_throw hX hT hstk tw_Ra_70 (Nat.le_of_ble_eq_true rfl) (Nat.le_of_ble_eq_true rfl) (Nat.le_of_ble_eq_true rfl) (Nat.le_of_ble_eq_true rfl) (Nat.le_of_ble_eq_true rfl) (Nat.le_of_ble_eq_true rfl) (Nat.le_of_ble_eq_true rfl) d_Ra_refuseUnlaid_7 d_Ra_refuseUnlaid_10 d_Ra_refuseUnlaid_11 d_Ra_refuseUnlaid_14

abbrev rmt_Ra_existingRow : Room := { frames := 7, cells := 1, slots := 6, locals := 110 }
set_option maxHeartbeats 4000000 in
set_option maxRecDepth 100000 in
theorem t_Ra_existingRow (l : Launch) (hstk : l.stackTraces = false) (D : va_G) (tI tJ tZ : ClassId) (rz : Nat) (gr : Nat) (se : Nat) (ly : Nat) (wc : Nat) (cf : Nat) (dr : Nat) (ld : Bool) (wn : Bool) (xf : Bool) (cw : Int64) (x : Int) (hx : iR x) (hr : x < 0 ∨ 1 < x) : tC l y_Ra_existingRow prog_1_method_23_code 2 (some (.object "RowAligner$Row")) rmt_Ra_existingRow D (tysA tI tJ tZ) [.ref rz, .int (iI x)] [(rz, .inr (0, [.ref gr, .ref se, .ref ly, .ref wc, .ref cf, .ref dr, .int (iI (bI (ld = true))), .int (iI (bI (wn = true))), .int (iI (bI (xf = true))), .long cw]))] "java/lang/IndexOutOfBoundsException" := by
  intro sz
  refine t_met (by decide) (Nat.le_of_ble_eq_true rfl) ?_
  intro F p e s m args below meth c Q A hX hT
  replace hX : qOK F p l e rmt_Ra_existingRow s m args below meth c Q prog_1_method_23_code 2 "RowAligner" D (tysA tI tJ tZ) _ := hX
  show F 0 [(0, .ref rz), (1, .int (iI x))] [] [(rz, .inr (0, [.ref gr, .ref se, .ref ly, .ref wc, .ref cf, .ref dr, .int (iI (bI (ld = true))), .int (iI (bI (wn = true))), .int (iI (bI (xf = true))), .long cw]))] 0 0
  refine q_iload_n hX 1 d_Ra_existingRow_0 rfl ?_
  exact q_invS_t (st := []) (As := [.int (iI x)]) hX hT (t_Ra_refuseOtherRows l hstk D tI tJ tZ x hx hr) yn_Ra_refuseOtherRows ml_Ra_138 st_Ra_refuseOtherRows co_Ra_refuseOtherRows in_Ra (Nat.le_of_ble_eq_true rfl) (Nat.le_of_ble_eq_true rfl) (Nat.le_of_ble_eq_true rfl) (Nat.le_of_ble_eq_true rfl) (Nat.le_of_ble_eq_true rfl) (Nat.le_of_ble_eq_true rfl) [] rfl rfl rfl rfl rfl (Nat.le_of_ble_eq_true rfl) d_Ra_existingRow_1

abbrev rmt_Ra_type_r : Room := { frames := 8, cells := 1, slots := 6, locals := 131 }
set_option maxHeartbeats 4000000 in
set_option maxRecDepth 100000 in
theorem t_Ra_type_r (l : Launch) (hstk : l.stackTraces = false) (D : va_G) (tI tJ tZ : ClassId) (rz : Nat) (gr : Nat) (se : Nat) (ly : Nat) (wc : Nat) (cf : Nat) (dr : Nat) (ld : Bool) (wn : Bool) (xf : Bool) (cw : Int64) (x : Int) (w : Int64) (y : Int) (hx : iR x) (hr : x < 0 ∨ 1 < x) : tC l y_Ra_type prog_1_method_2_code 7 (some .int) rmt_Ra_type_r D (tysA tI tJ tZ) [.ref rz, .int (iI x), .long w, .int (iI y)] [(rz, .inr (0, [.ref gr, .ref se, .ref ly, .ref wc, .ref cf, .ref dr, .int (iI (bI (ld = true))), .int (iI (bI (wn = true))), .int (iI (bI (xf = true))), .long cw]))] "java/lang/IndexOutOfBoundsException" := by
  intro sz
  refine t_met (by decide) (Nat.le_of_ble_eq_true rfl) ?_
  intro F p e s m args below meth c Q A hX hT
  replace hX : qOK F p l e rmt_Ra_type_r s m args below meth c Q prog_1_method_2_code 7 "RowAligner" D (tysA tI tJ tZ) _ := hX
  show F 0 [(0, .ref rz), (1, .int (iI x)), (2, .long w), (4, .int (iI y))] [] [(rz, .inr (0, [.ref gr, .ref se, .ref ly, .ref wc, .ref cf, .ref dr, .int (iI (bI (ld = true))), .int (iI (bI (wn = true))), .int (iI (bI (xf = true))), .long cw]))] 0 0
  refine q_aload_n hX 0 d_Ra_type_0 rfl ?_
  refine q_iload_n hX 1 d_Ra_type_1 rfl ?_
  exact q_invV_t (st := []) (As := [.int (iI x)]) hX hT (t_Ra_existingRow l hstk D tI tJ tZ rz gr se ly wc cf dr ld wn xf cw x hx hr) "RowAligner" 0 0 cf_Ra rfl yn_Ra_existingRow ml_Ra_53 im_Ra_existingRow se_Ra_existingRow co_Ra_existingRow in_Ra (Nat.le_of_ble_eq_true rfl) (Nat.le_of_ble_eq_true rfl) (Nat.le_of_ble_eq_true rfl) (Nat.le_of_ble_eq_true rfl) (Nat.le_of_ble_eq_true rfl) (Nat.le_of_ble_eq_true rfl) [0] rfl rfl rfl rfl rfl (Nat.le_of_ble_eq_true rfl) d_Ra_type_2

abbrev rmt_Ra_cut_r : Room := { frames := 8, cells := 1, slots := 6, locals := 131 }
set_option maxHeartbeats 4000000 in
set_option maxRecDepth 100000 in
theorem t_Ra_cut_r (l : Launch) (hstk : l.stackTraces = false) (D : va_G) (tI tJ tZ : ClassId) (rz : Nat) (gr : Nat) (se : Nat) (ly : Nat) (wc : Nat) (cf : Nat) (dr : Nat) (ld : Bool) (wn : Bool) (xf : Bool) (cw : Int64) (x : Int) (y : Int) (hx : iR x) (hr : x < 0 ∨ 1 < x) : tC l y_Ra_cut prog_1_method_3_code 4 none rmt_Ra_cut_r D (tysA tI tJ tZ) [.ref rz, .int (iI x), .int (iI y)] [(rz, .inr (0, [.ref gr, .ref se, .ref ly, .ref wc, .ref cf, .ref dr, .int (iI (bI (ld = true))), .int (iI (bI (wn = true))), .int (iI (bI (xf = true))), .long cw]))] "java/lang/IndexOutOfBoundsException" := by
  intro sz
  refine t_met (by decide) (Nat.le_of_ble_eq_true rfl) ?_
  intro F p e s m args below meth c Q A hX hT
  replace hX : qOK F p l e rmt_Ra_cut_r s m args below meth c Q prog_1_method_3_code 4 "RowAligner" D (tysA tI tJ tZ) _ := hX
  show F 0 [(0, .ref rz), (1, .int (iI x)), (2, .int (iI y))] [] [(rz, .inr (0, [.ref gr, .ref se, .ref ly, .ref wc, .ref cf, .ref dr, .int (iI (bI (ld = true))), .int (iI (bI (wn = true))), .int (iI (bI (xf = true))), .long cw]))] 0 0
  refine q_aload_n hX 0 d_Ra_cut_0 rfl ?_
  refine q_iload_n hX 1 d_Ra_cut_1 rfl ?_
  exact q_invV_t (st := []) (As := [.int (iI x)]) hX hT (t_Ra_existingRow l hstk D tI tJ tZ rz gr se ly wc cf dr ld wn xf cw x hx hr) "RowAligner" 0 0 cf_Ra rfl yn_Ra_existingRow ml_Ra_53 im_Ra_existingRow se_Ra_existingRow co_Ra_existingRow in_Ra (Nat.le_of_ble_eq_true rfl) (Nat.le_of_ble_eq_true rfl) (Nat.le_of_ble_eq_true rfl) (Nat.le_of_ble_eq_true rfl) (Nat.le_of_ble_eq_true rfl) (Nat.le_of_ble_eq_true rfl) [0] rfl rfl rfl rfl rfl (Nat.le_of_ble_eq_true rfl) d_Ra_cut_2

abbrev rmt_Ra_turn_r : Room := { frames := 8, cells := 1, slots := 6, locals := 131 }
set_option maxHeartbeats 4000000 in
set_option maxRecDepth 100000 in
theorem t_Ra_turn_r (l : Launch) (hstk : l.stackTraces = false) (D : va_G) (tI tJ tZ : ClassId) (rz : Nat) (gr : Nat) (se : Nat) (ly : Nat) (wc : Nat) (cf : Nat) (dr : Nat) (ld : Bool) (wn : Bool) (xf : Bool) (cw : Int64) (x : Int) (hx : iR x) (hr : x < 0 ∨ 1 < x) : tC l y_Ra_turn prog_1_method_4_code 2 none rmt_Ra_turn_r D (tysA tI tJ tZ) [.ref rz, .int (iI x)] [(rz, .inr (0, [.ref gr, .ref se, .ref ly, .ref wc, .ref cf, .ref dr, .int (iI (bI (ld = true))), .int (iI (bI (wn = true))), .int (iI (bI (xf = true))), .long cw]))] "java/lang/IndexOutOfBoundsException" := by
  intro sz
  refine t_met (by decide) (Nat.le_of_ble_eq_true rfl) ?_
  intro F p e s m args below meth c Q A hX hT
  replace hX : qOK F p l e rmt_Ra_turn_r s m args below meth c Q prog_1_method_4_code 2 "RowAligner" D (tysA tI tJ tZ) _ := hX
  show F 0 [(0, .ref rz), (1, .int (iI x))] [] [(rz, .inr (0, [.ref gr, .ref se, .ref ly, .ref wc, .ref cf, .ref dr, .int (iI (bI (ld = true))), .int (iI (bI (wn = true))), .int (iI (bI (xf = true))), .long cw]))] 0 0
  refine q_aload_n hX 0 d_Ra_turn_0 rfl ?_
  refine q_iload_n hX 1 d_Ra_turn_1 rfl ?_
  exact q_invV_t (st := []) (As := [.int (iI x)]) hX hT (t_Ra_existingRow l hstk D tI tJ tZ rz gr se ly wc cf dr ld wn xf cw x hx hr) "RowAligner" 0 0 cf_Ra rfl yn_Ra_existingRow ml_Ra_53 im_Ra_existingRow se_Ra_existingRow co_Ra_existingRow in_Ra (Nat.le_of_ble_eq_true rfl) (Nat.le_of_ble_eq_true rfl) (Nat.le_of_ble_eq_true rfl) (Nat.le_of_ble_eq_true rfl) (Nat.le_of_ble_eq_true rfl) (Nat.le_of_ble_eq_true rfl) [0] rfl rfl rfl rfl rfl (Nat.le_of_ble_eq_true rfl) d_Ra_turn_2

abbrev rmt_Ra_letter_r : Room := { frames := 8, cells := 1, slots := 6, locals := 131 }
set_option maxHeartbeats 4000000 in
set_option maxRecDepth 100000 in
theorem t_Ra_letter_r (l : Launch) (hstk : l.stackTraces = false) (D : va_G) (tI tJ tZ : ClassId) (rz : Nat) (gr : Nat) (se : Nat) (ly : Nat) (wc : Nat) (cf : Nat) (dr : Nat) (ld : Bool) (wn : Bool) (xf : Bool) (cw : Int64) (x : Int) (y : Int) (hx : iR x) (hr : x < 0 ∨ 1 < x) : tC l y_Ra_letter prog_1_method_5_code 4 (some .int) rmt_Ra_letter_r D (tysA tI tJ tZ) [.ref rz, .int (iI x), .int (iI y)] [(rz, .inr (0, [.ref gr, .ref se, .ref ly, .ref wc, .ref cf, .ref dr, .int (iI (bI (ld = true))), .int (iI (bI (wn = true))), .int (iI (bI (xf = true))), .long cw]))] "java/lang/IndexOutOfBoundsException" := by
  intro sz
  refine t_met (by decide) (Nat.le_of_ble_eq_true rfl) ?_
  intro F p e s m args below meth c Q A hX hT
  replace hX : qOK F p l e rmt_Ra_letter_r s m args below meth c Q prog_1_method_5_code 4 "RowAligner" D (tysA tI tJ tZ) _ := hX
  show F 0 [(0, .ref rz), (1, .int (iI x)), (2, .int (iI y))] [] [(rz, .inr (0, [.ref gr, .ref se, .ref ly, .ref wc, .ref cf, .ref dr, .int (iI (bI (ld = true))), .int (iI (bI (wn = true))), .int (iI (bI (xf = true))), .long cw]))] 0 0
  refine q_aload_n hX 0 d_Ra_letter_0 rfl ?_
  refine q_iload_n hX 1 d_Ra_letter_1 rfl ?_
  exact q_invV_t (st := []) (As := [.int (iI x)]) hX hT (t_Ra_existingRow l hstk D tI tJ tZ rz gr se ly wc cf dr ld wn xf cw x hx hr) "RowAligner" 0 0 cf_Ra rfl yn_Ra_existingRow ml_Ra_53 im_Ra_existingRow se_Ra_existingRow co_Ra_existingRow in_Ra (Nat.le_of_ble_eq_true rfl) (Nat.le_of_ble_eq_true rfl) (Nat.le_of_ble_eq_true rfl) (Nat.le_of_ble_eq_true rfl) (Nat.le_of_ble_eq_true rfl) (Nat.le_of_ble_eq_true rfl) [0] rfl rfl rfl rfl rfl (Nat.le_of_ble_eq_true rfl) d_Ra_letter_2

abbrev rmt_Ra_size_r : Room := { frames := 8, cells := 1, slots := 6, locals := 131 }
set_option maxHeartbeats 4000000 in
set_option maxRecDepth 100000 in
theorem t_Ra_size_r (l : Launch) (hstk : l.stackTraces = false) (D : va_G) (tI tJ tZ : ClassId) (rz : Nat) (gr : Nat) (se : Nat) (ly : Nat) (wc : Nat) (cf : Nat) (dr : Nat) (ld : Bool) (wn : Bool) (xf : Bool) (cw : Int64) (x : Int) (hx : iR x) (hr : x < 0 ∨ 1 < x) : tC l y_Ra_size prog_1_method_6_code 2 (some .int) rmt_Ra_size_r D (tysA tI tJ tZ) [.ref rz, .int (iI x)] [(rz, .inr (0, [.ref gr, .ref se, .ref ly, .ref wc, .ref cf, .ref dr, .int (iI (bI (ld = true))), .int (iI (bI (wn = true))), .int (iI (bI (xf = true))), .long cw]))] "java/lang/IndexOutOfBoundsException" := by
  intro sz
  refine t_met (by decide) (Nat.le_of_ble_eq_true rfl) ?_
  intro F p e s m args below meth c Q A hX hT
  replace hX : qOK F p l e rmt_Ra_size_r s m args below meth c Q prog_1_method_6_code 2 "RowAligner" D (tysA tI tJ tZ) _ := hX
  show F 0 [(0, .ref rz), (1, .int (iI x))] [] [(rz, .inr (0, [.ref gr, .ref se, .ref ly, .ref wc, .ref cf, .ref dr, .int (iI (bI (ld = true))), .int (iI (bI (wn = true))), .int (iI (bI (xf = true))), .long cw]))] 0 0
  refine q_aload_n hX 0 d_Ra_size_0 rfl ?_
  refine q_iload_n hX 1 d_Ra_size_1 rfl ?_
  exact q_invV_t (st := []) (As := [.int (iI x)]) hX hT (t_Ra_existingRow l hstk D tI tJ tZ rz gr se ly wc cf dr ld wn xf cw x hx hr) "RowAligner" 0 0 cf_Ra rfl yn_Ra_existingRow ml_Ra_53 im_Ra_existingRow se_Ra_existingRow co_Ra_existingRow in_Ra (Nat.le_of_ble_eq_true rfl) (Nat.le_of_ble_eq_true rfl) (Nat.le_of_ble_eq_true rfl) (Nat.le_of_ble_eq_true rfl) (Nat.le_of_ble_eq_true rfl) (Nat.le_of_ble_eq_true rfl) [0] rfl rfl rfl rfl rfl (Nat.le_of_ble_eq_true rfl) d_Ra_size_2

abbrev rmt_Ra_type_n_0 : Room := { frames := 6, cells := 1, slots := 6, locals := 90 }
set_option maxHeartbeats 4000000 in
set_option maxRecDepth 100000 in
theorem t_Ra_type_n_0 (l : Launch) (hstk : l.stackTraces = false) (D : va_G) (tI tJ tZ : ClassId) (rz : Nat) (gr : Nat) (se : Nat) (ly : Nat) (wc : Nat) (cf : Nat) (dr : Nat) (ld : Bool) (wn : Bool) (xf : Bool) (cw : Int64) (ra : Nat) (rb : Nat) (pr : Nat) (w : Int64) (y : Int) (hy : iR y) (hn : y < 1 ∨ 8 < y) : tC l y_Ra_type prog_1_method_2_code 7 (some .int) rmt_Ra_type_n_0 D (tysA tI tJ tZ) [.ref rz, .int (iI ((0 : Nat) : Int)), .long w, .int (iI y)] [(rz, .inr (0, [.ref gr, .ref se, .ref ly, .ref wc, .ref cf, .ref dr, .int (iI (bI (ld = true))), .int (iI (bI (wn = true))), .int (iI (bI (xf = true))), .long cw])), (gr, .inr (1, [.ref ra, .ref rb, .ref pr]))] "java/lang/IllegalArgumentException" := by
  intro sz
  refine t_met (by decide) (Nat.le_of_ble_eq_true rfl) ?_
  intro F p e s m args below meth c Q A hX hT
  replace hX : qOK F p l e rmt_Ra_type_n_0 s m args below meth c Q prog_1_method_2_code 7 "RowAligner" D (tysA tI tJ tZ) _ := hX
  unfold iR at hy
  show F 0 [(0, .ref rz), (1, .int (iI ((0 : Nat) : Int))), (2, .long w), (4, .int (iI y))] [] [(rz, .inr (0, [.ref gr, .ref se, .ref ly, .ref wc, .ref cf, .ref dr, .int (iI (bI (ld = true))), .int (iI (bI (wn = true))), .int (iI (bI (xf = true))), .long cw])), (gr, .inr (1, [.ref ra, .ref rb, .ref pr]))] 0 0
  refine q_aload_n hX 0 d_Ra_type_0 rfl ?_
  refine q_iload_n hX 1 d_Ra_type_1 rfl ?_
  refine q_invV_r0 (st := []) (As := [.int (iI ((0 : Nat) : Int))]) hX (x_Ra_existingRow_0 l D tI tJ tZ rz gr se ly wc cf dr ld wn xf cw ra rb pr) "RowAligner" 0 0 cf_Ra rfl yn_Ra_existingRow ml_Ra_53 im_Ra_existingRow se_Ra_existingRow co_Ra_existingRow in_Ra (by decide) (by decide) (by decide) [0, 1] rfl rfl rfl rfl rfl (Nat.le_of_ble_eq_true rfl) d_Ra_type_2 ?_
  refine q_astore hX (lv' := [(5, .ref ra), (0, .ref rz), (1, .int (iI ((0 : Nat) : Int))), (2, .long w), (4, .int (iI y))]) d_Ra_type_5 (by decide) rfl ?_
  refine q_iload hX 4 d_Ra_type_7 rfl ?_
  refine q_iconstN hX 1 d_Ra_type_9 rfl ?_
  refine q_icmp_lt hX 29 d_Ra_type_10 (by decide) (by unfold iR; omega) (by unfold iR; omega) (fun h10 => ?_) (fun h10 => ?_)
  · exact q_throw hX hT hstk tw_Ra_61 (Nat.le_of_ble_eq_true rfl) (Nat.le_of_ble_eq_true rfl) (Nat.le_of_ble_eq_true rfl) (Nat.le_of_ble_eq_true rfl) (Nat.le_of_ble_eq_true rfl) (Nat.le_of_ble_eq_true rfl) (Nat.le_of_ble_eq_true rfl) d_Ra_type_29 d_Ra_type_32 d_Ra_type_33 d_Ra_type_36
  · refine q_iload hX 4 d_Ra_type_13 rfl ?_
    refine q_bipushN hX 8 d_Ra_type_15 rfl (by decide) ?_
    refine q_icmp_gt hX 29 d_Ra_type_17 (by decide) (by unfold iR; omega) (by unfold iR; omega) (fun h17 => ?_) (fun h17 => by exfalso; omega)
    exact q_throw hX hT hstk tw_Ra_61 (Nat.le_of_ble_eq_true rfl) (Nat.le_of_ble_eq_true rfl) (Nat.le_of_ble_eq_true rfl) (Nat.le_of_ble_eq_true rfl) (Nat.le_of_ble_eq_true rfl) (Nat.le_of_ble_eq_true rfl) (Nat.le_of_ble_eq_true rfl) d_Ra_type_29 d_Ra_type_32 d_Ra_type_33 d_Ra_type_36

abbrev rmt_Ra_type_c_0 : Room := { frames := 6, cells := 1, slots := 6, locals := 90 }
set_option maxHeartbeats 4000000 in
set_option maxRecDepth 100000 in
theorem t_Ra_type_c_0 (l : Launch) (hstk : l.stackTraces = false) (D : va_G) (tI tJ tZ : ClassId) (rz : Nat) (gr : Nat) (se : Nat) (ly : Nat) (wc : Nat) (cf : Nat) (dr : Nat) (ld : Bool) (wn : Bool) (xf : Bool) (cw : Int64) (ra : Nat) (rb : Nat) (pr : Nat) (w : Int64) (nn : Nat) (hn : 1 ≤ nn ∧ nn ≤ 8) (hac : ¬ ra_ac w nn) : tC l y_Ra_type prog_1_method_2_code 7 (some .int) rmt_Ra_type_c_0 D (tysA tI tJ tZ) [.ref rz, .int (iI ((0 : Nat) : Int)), .long w, .int (iI ((nn : Nat) : Int))] [(rz, .inr (0, [.ref gr, .ref se, .ref ly, .ref wc, .ref cf, .ref dr, .int (iI (bI (ld = true))), .int (iI (bI (wn = true))), .int (iI (bI (xf = true))), .long cw])), (gr, .inr (1, [.ref ra, .ref rb, .ref pr]))] "java/lang/IllegalArgumentException" := by
  intro sz
  refine t_met (by decide) (Nat.le_of_ble_eq_true rfl) ?_
  intro F p e s m args below meth c Q A hX hT
  replace hX : qOK F p l e rmt_Ra_type_c_0 s m args below meth c Q prog_1_method_2_code 7 "RowAligner" D (tysA tI tJ tZ) _ := hX
  show F 0 [(0, .ref rz), (1, .int (iI ((0 : Nat) : Int))), (2, .long w), (4, .int (iI ((nn : Nat) : Int)))] [] [(rz, .inr (0, [.ref gr, .ref se, .ref ly, .ref wc, .ref cf, .ref dr, .int (iI (bI (ld = true))), .int (iI (bI (wn = true))), .int (iI (bI (xf = true))), .long cw])), (gr, .inr (1, [.ref ra, .ref rb, .ref pr]))] 0 0
  refine q_aload_n hX 0 d_Ra_type_0 rfl ?_
  refine q_iload_n hX 1 d_Ra_type_1 rfl ?_
  refine q_invV_r0 (st := []) (As := [.int (iI ((0 : Nat) : Int))]) hX (x_Ra_existingRow_0 l D tI tJ tZ rz gr se ly wc cf dr ld wn xf cw ra rb pr) "RowAligner" 0 0 cf_Ra rfl yn_Ra_existingRow ml_Ra_53 im_Ra_existingRow se_Ra_existingRow co_Ra_existingRow in_Ra (by decide) (by decide) (by decide) [0, 1] rfl rfl rfl rfl rfl (Nat.le_of_ble_eq_true rfl) d_Ra_type_2 ?_
  refine q_astore hX (lv' := [(5, .ref ra), (0, .ref rz), (1, .int (iI ((0 : Nat) : Int))), (2, .long w), (4, .int (iI ((nn : Nat) : Int)))]) d_Ra_type_5 (by decide) rfl ?_
  refine q_iload hX 4 d_Ra_type_7 rfl ?_
  refine q_iconstN hX 1 d_Ra_type_9 rfl ?_
  refine q_icmp_lt hX 29 d_Ra_type_10 (by decide) (by unfold iR; omega) (by unfold iR; omega) (fun h10 => by exfalso; omega) (fun h10 => ?_)
  refine q_iload hX 4 d_Ra_type_13 rfl ?_
  refine q_bipushN hX 8 d_Ra_type_15 rfl (by decide) ?_
  refine q_icmp_gt hX 29 d_Ra_type_17 (by decide) (by unfold iR; omega) (by unfold iR; omega) (fun h17 => by exfalso; omega) (fun h17 => ?_)
  refine q_lload_n hX 3 d_Ra_type_20 rfl ?_
  refine q_iload hX 4 d_Ra_type_21 rfl ?_
  refine q_invS_i0 (st := []) (As := [.long w, .int (iI ((nn : Nat) : Int))]) hX (q_of_ri (c_Ra_areCharacters l D tI tJ tZ w nn hn.2)) yn_Ra_areCharacters ml_Ra_57 st_Ra_areCharacters co_Ra_areCharacters in_Ra (by decide) (by decide) (by decide) [] rfl rfl rfl rfl rfl (Nat.le_of_ble_eq_true rfl) d_Ra_type_23 (fun r23 _ e23 => ?_)
  subst e23
  refine qb_if_ne hX 37 d_Ra_type_26 (by decide) (fun h26 => by exfalso; exact hac (ra_tv_iff.1 h26)) (fun h26 => ?_)
  exact q_throw hX hT hstk tw_Ra_61 (Nat.le_of_ble_eq_true rfl) (Nat.le_of_ble_eq_true rfl) (Nat.le_of_ble_eq_true rfl) (Nat.le_of_ble_eq_true rfl) (Nat.le_of_ble_eq_true rfl) (Nat.le_of_ble_eq_true rfl) (Nat.le_of_ble_eq_true rfl) d_Ra_type_29 d_Ra_type_32 d_Ra_type_33 d_Ra_type_36

abbrev rmt_Ra_type_l_0 : Room := { frames := 6, cells := 1, slots := 6, locals := 90 }
set_option maxHeartbeats 4000000 in
set_option maxRecDepth 100000 in
theorem t_Ra_type_l_0 (l : Launch) (hstk : l.stackTraces = false) (D : va_G) (tI tJ tZ : ClassId) (rz : Nat) (gr : Nat) (se : Nat) (ly : Nat) (wc : Nat) (cf : Nat) (dr : Nat) (ld : Bool) (wn : Bool) (xf : Bool) (cw : Int64) (ra : Nat) (rb : Nat) (pr : Nat) (qa : Nat) (la : Nat) (w : Int64) (nn : Nat) (hn : 1 ≤ nn ∧ nn ≤ 8) (hac : ra_ac w nn) (hla : la ≤ 96) (hlen : 96 < la + nn) : tC l y_Ra_type prog_1_method_2_code 7 (some .int) rmt_Ra_type_l_0 D (tysA tI tJ tZ) [.ref rz, .int (iI ((0 : Nat) : Int)), .long w, .int (iI ((nn : Nat) : Int))] [(rz, .inr (0, [.ref gr, .ref se, .ref ly, .ref wc, .ref cf, .ref dr, .int (iI (bI (ld = true))), .int (iI (bI (wn = true))), .int (iI (bI (xf = true))), .long cw])), (gr, .inr (1, [.ref ra, .ref rb, .ref pr])), (ra, .inr (2, [.ref qa, .int (iI ((la : Nat) : Int))]))] "java/lang/IllegalStateException" := by
  intro sz
  refine t_met (by decide) (Nat.le_of_ble_eq_true rfl) ?_
  intro F p e s m args below meth c Q A hX hT
  replace hX : qOK F p l e rmt_Ra_type_l_0 s m args below meth c Q prog_1_method_2_code 7 "RowAligner" D (tysA tI tJ tZ) _ := hX
  show F 0 [(0, .ref rz), (1, .int (iI ((0 : Nat) : Int))), (2, .long w), (4, .int (iI ((nn : Nat) : Int)))] [] [(rz, .inr (0, [.ref gr, .ref se, .ref ly, .ref wc, .ref cf, .ref dr, .int (iI (bI (ld = true))), .int (iI (bI (wn = true))), .int (iI (bI (xf = true))), .long cw])), (gr, .inr (1, [.ref ra, .ref rb, .ref pr])), (ra, .inr (2, [.ref qa, .int (iI ((la : Nat) : Int))]))] 0 0
  refine q_aload_n hX 0 d_Ra_type_0 rfl ?_
  refine q_iload_n hX 1 d_Ra_type_1 rfl ?_
  refine q_invV_r0 (st := []) (As := [.int (iI ((0 : Nat) : Int))]) hX (x_Ra_existingRow_0 l D tI tJ tZ rz gr se ly wc cf dr ld wn xf cw ra rb pr) "RowAligner" 0 0 cf_Ra rfl yn_Ra_existingRow ml_Ra_53 im_Ra_existingRow se_Ra_existingRow co_Ra_existingRow in_Ra (by decide) (by decide) (by decide) [0, 1] rfl rfl rfl rfl rfl (Nat.le_of_ble_eq_true rfl) d_Ra_type_2 ?_
  refine q_astore hX (lv' := [(5, .ref ra), (0, .ref rz), (1, .int (iI ((0 : Nat) : Int))), (2, .long w), (4, .int (iI ((nn : Nat) : Int)))]) d_Ra_type_5 (by decide) rfl ?_
  refine q_iload hX 4 d_Ra_type_7 rfl ?_
  refine q_iconstN hX 1 d_Ra_type_9 rfl ?_
  refine q_icmp_lt hX 29 d_Ra_type_10 (by decide) (by unfold iR; omega) (by unfold iR; omega) (fun h10 => by exfalso; omega) (fun h10 => ?_)
  refine q_iload hX 4 d_Ra_type_13 rfl ?_
  refine q_bipushN hX 8 d_Ra_type_15 rfl (by decide) ?_
  refine q_icmp_gt hX 29 d_Ra_type_17 (by decide) (by unfold iR; omega) (by unfold iR; omega) (fun h17 => by exfalso; omega) (fun h17 => ?_)
  refine q_lload_n hX 3 d_Ra_type_20 rfl ?_
  refine q_iload hX 4 d_Ra_type_21 rfl ?_
  refine q_invS_i0 (st := []) (As := [.long w, .int (iI ((nn : Nat) : Int))]) hX (q_of_ri (c_Ra_areCharacters l D tI tJ tZ w nn hn.2)) yn_Ra_areCharacters ml_Ra_57 st_Ra_areCharacters co_Ra_areCharacters in_Ra (by decide) (by decide) (by decide) [] rfl rfl rfl rfl rfl (Nat.le_of_ble_eq_true rfl) d_Ra_type_23 (fun r23 _ e23 => ?_)
  subst e23
  refine qb_if_ne hX 37 d_Ra_type_26 (by decide) (fun h26 => ?_) (fun h26 => by exfalso; exact h26 (ra_tv_iff.2 hac))
  refine q_aload hX 0 d_Ra_type_37 rfl ?_
  refine q_get hX cf_Ro 2 rfl 1 (by decide) fl_Ra_64 rfl d_Ra_type_39 ?_
  refine q_iload hX 4 d_Ra_type_42 rfl ?_
  refine q_iaddN hX d_Ra_type_44 ?_
  refine q_bipushN hX 96 d_Ra_type_45 rfl (by decide) ?_
  refine q_icmp_le hX 58 d_Ra_type_47 (by decide) (by unfold iR; omega) (by unfold iR; omega) (fun h47 => by exfalso; omega) (fun h47 => ?_)
  exact q_throw hX hT hstk tw_Ra_70 (Nat.le_of_ble_eq_true rfl) (Nat.le_of_ble_eq_true rfl) (Nat.le_of_ble_eq_true rfl) (Nat.le_of_ble_eq_true rfl) (Nat.le_of_ble_eq_true rfl) (Nat.le_of_ble_eq_true rfl) (Nat.le_of_ble_eq_true rfl) d_Ra_type_50 d_Ra_type_53 d_Ra_type_54 d_Ra_type_57

abbrev rmt_Ra_cut_n_0 : Room := { frames := 6, cells := 1, slots := 6, locals := 90 }
set_option maxHeartbeats 4000000 in
set_option maxRecDepth 100000 in
theorem t_Ra_cut_n_0 (l : Launch) (hstk : l.stackTraces = false) (D : va_G) (tI tJ tZ : ClassId) (rz : Nat) (gr : Nat) (se : Nat) (ly : Nat) (wc : Nat) (cf : Nat) (dr : Nat) (ld : Bool) (wn : Bool) (xf : Bool) (cw : Int64) (ra : Nat) (rb : Nat) (pr : Nat) (qa : Nat) (la : Nat) (y : Int) (hla : la ≤ 96) (hy : iR y) (hn : y < 0 ∨ ((la : Nat) : Int) < y) : tC l y_Ra_cut prog_1_method_3_code 4 none rmt_Ra_cut_n_0 D (tysA tI tJ tZ) [.ref rz, .int (iI ((0 : Nat) : Int)), .int (iI y)] [(rz, .inr (0, [.ref gr, .ref se, .ref ly, .ref wc, .ref cf, .ref dr, .int (iI (bI (ld = true))), .int (iI (bI (wn = true))), .int (iI (bI (xf = true))), .long cw])), (gr, .inr (1, [.ref ra, .ref rb, .ref pr])), (ra, .inr (2, [.ref qa, .int (iI ((la : Nat) : Int))]))] "java/lang/IllegalArgumentException" := by
  intro sz
  refine t_met (by decide) (Nat.le_of_ble_eq_true rfl) ?_
  intro F p e s m args below meth c Q A hX hT
  replace hX : qOK F p l e rmt_Ra_cut_n_0 s m args below meth c Q prog_1_method_3_code 4 "RowAligner" D (tysA tI tJ tZ) _ := hX
  unfold iR at hy
  show F 0 [(0, .ref rz), (1, .int (iI ((0 : Nat) : Int))), (2, .int (iI y))] [] [(rz, .inr (0, [.ref gr, .ref se, .ref ly, .ref wc, .ref cf, .ref dr, .int (iI (bI (ld = true))), .int (iI (bI (wn = true))), .int (iI (bI (xf = true))), .long cw])), (gr, .inr (1, [.ref ra, .ref rb, .ref pr])), (ra, .inr (2, [.ref qa, .int (iI ((la : Nat) : Int))]))] 0 0
  refine q_aload_n hX 0 d_Ra_cut_0 rfl ?_
  refine q_iload_n hX 1 d_Ra_cut_1 rfl ?_
  refine q_invV_r0 (st := []) (As := [.int (iI ((0 : Nat) : Int))]) hX (x_Ra_existingRow_0 l D tI tJ tZ rz gr se ly wc cf dr ld wn xf cw ra rb pr) "RowAligner" 0 0 cf_Ra rfl yn_Ra_existingRow ml_Ra_53 im_Ra_existingRow se_Ra_existingRow co_Ra_existingRow in_Ra (by decide) (by decide) (by decide) [0, 1] rfl rfl rfl rfl rfl (Nat.le_of_ble_eq_true rfl) d_Ra_cut_2 ?_
  refine q_astore_n hX (lv' := [(3, .ref ra), (0, .ref rz), (1, .int (iI ((0 : Nat) : Int))), (2, .int (iI y))]) d_Ra_cut_5 rfl (by decide) rfl ?_
  refine q_iload_n hX 3 d_Ra_cut_6 rfl ?_
  refine q_if_lt hX 18 d_Ra_cut_7 (by decide) (by unfold iR; omega) (fun h7 => ?_) (fun h7 => ?_)
  · exact q_throw hX hT hstk tw_Ra_61 (Nat.le_of_ble_eq_true rfl) (Nat.le_of_ble_eq_true rfl) (Nat.le_of_ble_eq_true rfl) (Nat.le_of_ble_eq_true rfl) (Nat.le_of_ble_eq_true rfl) (Nat.le_of_ble_eq_true rfl) (Nat.le_of_ble_eq_true rfl) d_Ra_cut_18 d_Ra_cut_21 d_Ra_cut_22 d_Ra_cut_25
  · refine q_iload_n hX 3 d_Ra_cut_10 rfl ?_
    refine q_aload_n hX 0 d_Ra_cut_11 rfl ?_
    refine q_get hX cf_Ro 2 rfl 1 (by decide) fl_Ra_64 rfl d_Ra_cut_12 ?_
    refine q_icmp_le hX 26 d_Ra_cut_15 (by decide) (by unfold iR; omega) (by unfold iR; omega) (fun h15 => by exfalso; omega) (fun h15 => ?_)
    exact q_throw hX hT hstk tw_Ra_61 (Nat.le_of_ble_eq_true rfl) (Nat.le_of_ble_eq_true rfl) (Nat.le_of_ble_eq_true rfl) (Nat.le_of_ble_eq_true rfl) (Nat.le_of_ble_eq_true rfl) (Nat.le_of_ble_eq_true rfl) (Nat.le_of_ble_eq_true rfl) d_Ra_cut_18 d_Ra_cut_21 d_Ra_cut_22 d_Ra_cut_25

abbrev rmt_Ra_letter_n_0 : Room := { frames := 6, cells := 1, slots := 6, locals := 90 }
set_option maxHeartbeats 4000000 in
set_option maxRecDepth 100000 in
theorem t_Ra_letter_n_0 (l : Launch) (hstk : l.stackTraces = false) (D : va_G) (tI tJ tZ : ClassId) (rz : Nat) (gr : Nat) (se : Nat) (ly : Nat) (wc : Nat) (cf : Nat) (dr : Nat) (ld : Bool) (wn : Bool) (xf : Bool) (cw : Int64) (ra : Nat) (rb : Nat) (pr : Nat) (qa : Nat) (la : Nat) (y : Int) (hla : la ≤ 96) (hy : iR y) (hn : y < 0 ∨ ((la : Nat) : Int) ≤ y) : tC l y_Ra_letter prog_1_method_5_code 4 (some .int) rmt_Ra_letter_n_0 D (tysA tI tJ tZ) [.ref rz, .int (iI ((0 : Nat) : Int)), .int (iI y)] [(rz, .inr (0, [.ref gr, .ref se, .ref ly, .ref wc, .ref cf, .ref dr, .int (iI (bI (ld = true))), .int (iI (bI (wn = true))), .int (iI (bI (xf = true))), .long cw])), (gr, .inr (1, [.ref ra, .ref rb, .ref pr])), (ra, .inr (2, [.ref qa, .int (iI ((la : Nat) : Int))]))] "java/lang/IndexOutOfBoundsException" := by
  intro sz
  refine t_met (by decide) (Nat.le_of_ble_eq_true rfl) ?_
  intro F p e s m args below meth c Q A hX hT
  replace hX : qOK F p l e rmt_Ra_letter_n_0 s m args below meth c Q prog_1_method_5_code 4 "RowAligner" D (tysA tI tJ tZ) _ := hX
  unfold iR at hy
  show F 0 [(0, .ref rz), (1, .int (iI ((0 : Nat) : Int))), (2, .int (iI y))] [] [(rz, .inr (0, [.ref gr, .ref se, .ref ly, .ref wc, .ref cf, .ref dr, .int (iI (bI (ld = true))), .int (iI (bI (wn = true))), .int (iI (bI (xf = true))), .long cw])), (gr, .inr (1, [.ref ra, .ref rb, .ref pr])), (ra, .inr (2, [.ref qa, .int (iI ((la : Nat) : Int))]))] 0 0
  refine q_aload_n hX 0 d_Ra_letter_0 rfl ?_
  refine q_iload_n hX 1 d_Ra_letter_1 rfl ?_
  refine q_invV_r0 (st := []) (As := [.int (iI ((0 : Nat) : Int))]) hX (x_Ra_existingRow_0 l D tI tJ tZ rz gr se ly wc cf dr ld wn xf cw ra rb pr) "RowAligner" 0 0 cf_Ra rfl yn_Ra_existingRow ml_Ra_53 im_Ra_existingRow se_Ra_existingRow co_Ra_existingRow in_Ra (by decide) (by decide) (by decide) [0, 1] rfl rfl rfl rfl rfl (Nat.le_of_ble_eq_true rfl) d_Ra_letter_2 ?_
  refine q_astore_n hX (lv' := [(3, .ref ra), (0, .ref rz), (1, .int (iI ((0 : Nat) : Int))), (2, .int (iI y))]) d_Ra_letter_5 rfl (by decide) rfl ?_
  refine q_iload_n hX 3 d_Ra_letter_6 rfl ?_
  refine q_if_lt hX 18 d_Ra_letter_7 (by decide) (by unfold iR; omega) (fun h7 => ?_) (fun h7 => ?_)
  · exact q_throw hX hT hstk tw_Ra_88 (Nat.le_of_ble_eq_true rfl) (Nat.le_of_ble_eq_true rfl) (Nat.le_of_ble_eq_true rfl) (Nat.le_of_ble_eq_true rfl) (Nat.le_of_ble_eq_true rfl) (Nat.le_of_ble_eq_true rfl) (Nat.le_of_ble_eq_true rfl) d_Ra_letter_18 d_Ra_letter_21 d_Ra_letter_22 d_Ra_letter_25
  · refine q_iload_n hX 3 d_Ra_letter_10 rfl ?_
    refine q_aload_n hX 0 d_Ra_letter_11 rfl ?_
    refine q_get hX cf_Ro 2 rfl 1 (by decide) fl_Ra_64 rfl d_Ra_letter_12 ?_
    refine q_icmp_lt hX 26 d_Ra_letter_15 (by decide) (by unfold iR; omega) (by unfold iR; omega) (fun h15 => by exfalso; omega) (fun h15 => ?_)
    exact q_throw hX hT hstk tw_Ra_88 (Nat.le_of_ble_eq_true rfl) (Nat.le_of_ble_eq_true rfl) (Nat.le_of_ble_eq_true rfl) (Nat.le_of_ble_eq_true rfl) (Nat.le_of_ble_eq_true rfl) (Nat.le_of_ble_eq_true rfl) (Nat.le_of_ble_eq_true rfl) d_Ra_letter_18 d_Ra_letter_21 d_Ra_letter_22 d_Ra_letter_25

abbrev rmt_Ra_type_n_1 : Room := { frames := 6, cells := 1, slots := 6, locals := 90 }
set_option maxHeartbeats 4000000 in
set_option maxRecDepth 100000 in
theorem t_Ra_type_n_1 (l : Launch) (hstk : l.stackTraces = false) (D : va_G) (tI tJ tZ : ClassId) (rz : Nat) (gr : Nat) (se : Nat) (ly : Nat) (wc : Nat) (cf : Nat) (dr : Nat) (ld : Bool) (wn : Bool) (xf : Bool) (cw : Int64) (ra : Nat) (rb : Nat) (pr : Nat) (w : Int64) (y : Int) (hy : iR y) (hn : y < 1 ∨ 8 < y) : tC l y_Ra_type prog_1_method_2_code 7 (some .int) rmt_Ra_type_n_1 D (tysA tI tJ tZ) [.ref rz, .int (iI ((1 : Nat) : Int)), .long w, .int (iI y)] [(rz, .inr (0, [.ref gr, .ref se, .ref ly, .ref wc, .ref cf, .ref dr, .int (iI (bI (ld = true))), .int (iI (bI (wn = true))), .int (iI (bI (xf = true))), .long cw])), (gr, .inr (1, [.ref ra, .ref rb, .ref pr]))] "java/lang/IllegalArgumentException" := by
  intro sz
  refine t_met (by decide) (Nat.le_of_ble_eq_true rfl) ?_
  intro F p e s m args below meth c Q A hX hT
  replace hX : qOK F p l e rmt_Ra_type_n_1 s m args below meth c Q prog_1_method_2_code 7 "RowAligner" D (tysA tI tJ tZ) _ := hX
  unfold iR at hy
  show F 0 [(0, .ref rz), (1, .int (iI ((1 : Nat) : Int))), (2, .long w), (4, .int (iI y))] [] [(rz, .inr (0, [.ref gr, .ref se, .ref ly, .ref wc, .ref cf, .ref dr, .int (iI (bI (ld = true))), .int (iI (bI (wn = true))), .int (iI (bI (xf = true))), .long cw])), (gr, .inr (1, [.ref ra, .ref rb, .ref pr]))] 0 0
  refine q_aload_n hX 0 d_Ra_type_0 rfl ?_
  refine q_iload_n hX 1 d_Ra_type_1 rfl ?_
  refine q_invV_r0 (st := []) (As := [.int (iI ((1 : Nat) : Int))]) hX (x_Ra_existingRow_1 l D tI tJ tZ rz gr se ly wc cf dr ld wn xf cw ra rb pr) "RowAligner" 0 0 cf_Ra rfl yn_Ra_existingRow ml_Ra_53 im_Ra_existingRow se_Ra_existingRow co_Ra_existingRow in_Ra (by decide) (by decide) (by decide) [0, 1] rfl rfl rfl rfl rfl (Nat.le_of_ble_eq_true rfl) d_Ra_type_2 ?_
  refine q_astore hX (lv' := [(5, .ref rb), (0, .ref rz), (1, .int (iI ((1 : Nat) : Int))), (2, .long w), (4, .int (iI y))]) d_Ra_type_5 (by decide) rfl ?_
  refine q_iload hX 4 d_Ra_type_7 rfl ?_
  refine q_iconstN hX 1 d_Ra_type_9 rfl ?_
  refine q_icmp_lt hX 29 d_Ra_type_10 (by decide) (by unfold iR; omega) (by unfold iR; omega) (fun h10 => ?_) (fun h10 => ?_)
  · exact q_throw hX hT hstk tw_Ra_61 (Nat.le_of_ble_eq_true rfl) (Nat.le_of_ble_eq_true rfl) (Nat.le_of_ble_eq_true rfl) (Nat.le_of_ble_eq_true rfl) (Nat.le_of_ble_eq_true rfl) (Nat.le_of_ble_eq_true rfl) (Nat.le_of_ble_eq_true rfl) d_Ra_type_29 d_Ra_type_32 d_Ra_type_33 d_Ra_type_36
  · refine q_iload hX 4 d_Ra_type_13 rfl ?_
    refine q_bipushN hX 8 d_Ra_type_15 rfl (by decide) ?_
    refine q_icmp_gt hX 29 d_Ra_type_17 (by decide) (by unfold iR; omega) (by unfold iR; omega) (fun h17 => ?_) (fun h17 => by exfalso; omega)
    exact q_throw hX hT hstk tw_Ra_61 (Nat.le_of_ble_eq_true rfl) (Nat.le_of_ble_eq_true rfl) (Nat.le_of_ble_eq_true rfl) (Nat.le_of_ble_eq_true rfl) (Nat.le_of_ble_eq_true rfl) (Nat.le_of_ble_eq_true rfl) (Nat.le_of_ble_eq_true rfl) d_Ra_type_29 d_Ra_type_32 d_Ra_type_33 d_Ra_type_36

abbrev rmt_Ra_type_c_1 : Room := { frames := 6, cells := 1, slots := 6, locals := 90 }
set_option maxHeartbeats 4000000 in
set_option maxRecDepth 100000 in
theorem t_Ra_type_c_1 (l : Launch) (hstk : l.stackTraces = false) (D : va_G) (tI tJ tZ : ClassId) (rz : Nat) (gr : Nat) (se : Nat) (ly : Nat) (wc : Nat) (cf : Nat) (dr : Nat) (ld : Bool) (wn : Bool) (xf : Bool) (cw : Int64) (ra : Nat) (rb : Nat) (pr : Nat) (w : Int64) (nn : Nat) (hn : 1 ≤ nn ∧ nn ≤ 8) (hac : ¬ ra_ac w nn) : tC l y_Ra_type prog_1_method_2_code 7 (some .int) rmt_Ra_type_c_1 D (tysA tI tJ tZ) [.ref rz, .int (iI ((1 : Nat) : Int)), .long w, .int (iI ((nn : Nat) : Int))] [(rz, .inr (0, [.ref gr, .ref se, .ref ly, .ref wc, .ref cf, .ref dr, .int (iI (bI (ld = true))), .int (iI (bI (wn = true))), .int (iI (bI (xf = true))), .long cw])), (gr, .inr (1, [.ref ra, .ref rb, .ref pr]))] "java/lang/IllegalArgumentException" := by
  intro sz
  refine t_met (by decide) (Nat.le_of_ble_eq_true rfl) ?_
  intro F p e s m args below meth c Q A hX hT
  replace hX : qOK F p l e rmt_Ra_type_c_1 s m args below meth c Q prog_1_method_2_code 7 "RowAligner" D (tysA tI tJ tZ) _ := hX
  show F 0 [(0, .ref rz), (1, .int (iI ((1 : Nat) : Int))), (2, .long w), (4, .int (iI ((nn : Nat) : Int)))] [] [(rz, .inr (0, [.ref gr, .ref se, .ref ly, .ref wc, .ref cf, .ref dr, .int (iI (bI (ld = true))), .int (iI (bI (wn = true))), .int (iI (bI (xf = true))), .long cw])), (gr, .inr (1, [.ref ra, .ref rb, .ref pr]))] 0 0
  refine q_aload_n hX 0 d_Ra_type_0 rfl ?_
  refine q_iload_n hX 1 d_Ra_type_1 rfl ?_
  refine q_invV_r0 (st := []) (As := [.int (iI ((1 : Nat) : Int))]) hX (x_Ra_existingRow_1 l D tI tJ tZ rz gr se ly wc cf dr ld wn xf cw ra rb pr) "RowAligner" 0 0 cf_Ra rfl yn_Ra_existingRow ml_Ra_53 im_Ra_existingRow se_Ra_existingRow co_Ra_existingRow in_Ra (by decide) (by decide) (by decide) [0, 1] rfl rfl rfl rfl rfl (Nat.le_of_ble_eq_true rfl) d_Ra_type_2 ?_
  refine q_astore hX (lv' := [(5, .ref rb), (0, .ref rz), (1, .int (iI ((1 : Nat) : Int))), (2, .long w), (4, .int (iI ((nn : Nat) : Int)))]) d_Ra_type_5 (by decide) rfl ?_
  refine q_iload hX 4 d_Ra_type_7 rfl ?_
  refine q_iconstN hX 1 d_Ra_type_9 rfl ?_
  refine q_icmp_lt hX 29 d_Ra_type_10 (by decide) (by unfold iR; omega) (by unfold iR; omega) (fun h10 => by exfalso; omega) (fun h10 => ?_)
  refine q_iload hX 4 d_Ra_type_13 rfl ?_
  refine q_bipushN hX 8 d_Ra_type_15 rfl (by decide) ?_
  refine q_icmp_gt hX 29 d_Ra_type_17 (by decide) (by unfold iR; omega) (by unfold iR; omega) (fun h17 => by exfalso; omega) (fun h17 => ?_)
  refine q_lload_n hX 3 d_Ra_type_20 rfl ?_
  refine q_iload hX 4 d_Ra_type_21 rfl ?_
  refine q_invS_i0 (st := []) (As := [.long w, .int (iI ((nn : Nat) : Int))]) hX (q_of_ri (c_Ra_areCharacters l D tI tJ tZ w nn hn.2)) yn_Ra_areCharacters ml_Ra_57 st_Ra_areCharacters co_Ra_areCharacters in_Ra (by decide) (by decide) (by decide) [] rfl rfl rfl rfl rfl (Nat.le_of_ble_eq_true rfl) d_Ra_type_23 (fun r23 _ e23 => ?_)
  subst e23
  refine qb_if_ne hX 37 d_Ra_type_26 (by decide) (fun h26 => by exfalso; exact hac (ra_tv_iff.1 h26)) (fun h26 => ?_)
  exact q_throw hX hT hstk tw_Ra_61 (Nat.le_of_ble_eq_true rfl) (Nat.le_of_ble_eq_true rfl) (Nat.le_of_ble_eq_true rfl) (Nat.le_of_ble_eq_true rfl) (Nat.le_of_ble_eq_true rfl) (Nat.le_of_ble_eq_true rfl) (Nat.le_of_ble_eq_true rfl) d_Ra_type_29 d_Ra_type_32 d_Ra_type_33 d_Ra_type_36

abbrev rmt_Ra_type_l_1 : Room := { frames := 6, cells := 1, slots := 6, locals := 90 }
set_option maxHeartbeats 4000000 in
set_option maxRecDepth 100000 in
theorem t_Ra_type_l_1 (l : Launch) (hstk : l.stackTraces = false) (D : va_G) (tI tJ tZ : ClassId) (rz : Nat) (gr : Nat) (se : Nat) (ly : Nat) (wc : Nat) (cf : Nat) (dr : Nat) (ld : Bool) (wn : Bool) (xf : Bool) (cw : Int64) (ra : Nat) (rb : Nat) (pr : Nat) (qa : Nat) (la : Nat) (w : Int64) (nn : Nat) (hn : 1 ≤ nn ∧ nn ≤ 8) (hac : ra_ac w nn) (hla : la ≤ 96) (hlen : 96 < la + nn) : tC l y_Ra_type prog_1_method_2_code 7 (some .int) rmt_Ra_type_l_1 D (tysA tI tJ tZ) [.ref rz, .int (iI ((1 : Nat) : Int)), .long w, .int (iI ((nn : Nat) : Int))] [(rz, .inr (0, [.ref gr, .ref se, .ref ly, .ref wc, .ref cf, .ref dr, .int (iI (bI (ld = true))), .int (iI (bI (wn = true))), .int (iI (bI (xf = true))), .long cw])), (gr, .inr (1, [.ref ra, .ref rb, .ref pr])), (rb, .inr (2, [.ref qa, .int (iI ((la : Nat) : Int))]))] "java/lang/IllegalStateException" := by
  intro sz
  refine t_met (by decide) (Nat.le_of_ble_eq_true rfl) ?_
  intro F p e s m args below meth c Q A hX hT
  replace hX : qOK F p l e rmt_Ra_type_l_1 s m args below meth c Q prog_1_method_2_code 7 "RowAligner" D (tysA tI tJ tZ) _ := hX
  show F 0 [(0, .ref rz), (1, .int (iI ((1 : Nat) : Int))), (2, .long w), (4, .int (iI ((nn : Nat) : Int)))] [] [(rz, .inr (0, [.ref gr, .ref se, .ref ly, .ref wc, .ref cf, .ref dr, .int (iI (bI (ld = true))), .int (iI (bI (wn = true))), .int (iI (bI (xf = true))), .long cw])), (gr, .inr (1, [.ref ra, .ref rb, .ref pr])), (rb, .inr (2, [.ref qa, .int (iI ((la : Nat) : Int))]))] 0 0
  refine q_aload_n hX 0 d_Ra_type_0 rfl ?_
  refine q_iload_n hX 1 d_Ra_type_1 rfl ?_
  refine q_invV_r0 (st := []) (As := [.int (iI ((1 : Nat) : Int))]) hX (x_Ra_existingRow_1 l D tI tJ tZ rz gr se ly wc cf dr ld wn xf cw ra rb pr) "RowAligner" 0 0 cf_Ra rfl yn_Ra_existingRow ml_Ra_53 im_Ra_existingRow se_Ra_existingRow co_Ra_existingRow in_Ra (by decide) (by decide) (by decide) [0, 1] rfl rfl rfl rfl rfl (Nat.le_of_ble_eq_true rfl) d_Ra_type_2 ?_
  refine q_astore hX (lv' := [(5, .ref rb), (0, .ref rz), (1, .int (iI ((1 : Nat) : Int))), (2, .long w), (4, .int (iI ((nn : Nat) : Int)))]) d_Ra_type_5 (by decide) rfl ?_
  refine q_iload hX 4 d_Ra_type_7 rfl ?_
  refine q_iconstN hX 1 d_Ra_type_9 rfl ?_
  refine q_icmp_lt hX 29 d_Ra_type_10 (by decide) (by unfold iR; omega) (by unfold iR; omega) (fun h10 => by exfalso; omega) (fun h10 => ?_)
  refine q_iload hX 4 d_Ra_type_13 rfl ?_
  refine q_bipushN hX 8 d_Ra_type_15 rfl (by decide) ?_
  refine q_icmp_gt hX 29 d_Ra_type_17 (by decide) (by unfold iR; omega) (by unfold iR; omega) (fun h17 => by exfalso; omega) (fun h17 => ?_)
  refine q_lload_n hX 3 d_Ra_type_20 rfl ?_
  refine q_iload hX 4 d_Ra_type_21 rfl ?_
  refine q_invS_i0 (st := []) (As := [.long w, .int (iI ((nn : Nat) : Int))]) hX (q_of_ri (c_Ra_areCharacters l D tI tJ tZ w nn hn.2)) yn_Ra_areCharacters ml_Ra_57 st_Ra_areCharacters co_Ra_areCharacters in_Ra (by decide) (by decide) (by decide) [] rfl rfl rfl rfl rfl (Nat.le_of_ble_eq_true rfl) d_Ra_type_23 (fun r23 _ e23 => ?_)
  subst e23
  refine qb_if_ne hX 37 d_Ra_type_26 (by decide) (fun h26 => ?_) (fun h26 => by exfalso; exact h26 (ra_tv_iff.2 hac))
  refine q_aload hX 0 d_Ra_type_37 rfl ?_
  refine q_get hX cf_Ro 2 rfl 1 (by decide) fl_Ra_64 rfl d_Ra_type_39 ?_
  refine q_iload hX 4 d_Ra_type_42 rfl ?_
  refine q_iaddN hX d_Ra_type_44 ?_
  refine q_bipushN hX 96 d_Ra_type_45 rfl (by decide) ?_
  refine q_icmp_le hX 58 d_Ra_type_47 (by decide) (by unfold iR; omega) (by unfold iR; omega) (fun h47 => by exfalso; omega) (fun h47 => ?_)
  exact q_throw hX hT hstk tw_Ra_70 (Nat.le_of_ble_eq_true rfl) (Nat.le_of_ble_eq_true rfl) (Nat.le_of_ble_eq_true rfl) (Nat.le_of_ble_eq_true rfl) (Nat.le_of_ble_eq_true rfl) (Nat.le_of_ble_eq_true rfl) (Nat.le_of_ble_eq_true rfl) d_Ra_type_50 d_Ra_type_53 d_Ra_type_54 d_Ra_type_57

abbrev rmt_Ra_cut_n_1 : Room := { frames := 6, cells := 1, slots := 6, locals := 90 }
set_option maxHeartbeats 4000000 in
set_option maxRecDepth 100000 in
theorem t_Ra_cut_n_1 (l : Launch) (hstk : l.stackTraces = false) (D : va_G) (tI tJ tZ : ClassId) (rz : Nat) (gr : Nat) (se : Nat) (ly : Nat) (wc : Nat) (cf : Nat) (dr : Nat) (ld : Bool) (wn : Bool) (xf : Bool) (cw : Int64) (ra : Nat) (rb : Nat) (pr : Nat) (qa : Nat) (la : Nat) (y : Int) (hla : la ≤ 96) (hy : iR y) (hn : y < 0 ∨ ((la : Nat) : Int) < y) : tC l y_Ra_cut prog_1_method_3_code 4 none rmt_Ra_cut_n_1 D (tysA tI tJ tZ) [.ref rz, .int (iI ((1 : Nat) : Int)), .int (iI y)] [(rz, .inr (0, [.ref gr, .ref se, .ref ly, .ref wc, .ref cf, .ref dr, .int (iI (bI (ld = true))), .int (iI (bI (wn = true))), .int (iI (bI (xf = true))), .long cw])), (gr, .inr (1, [.ref ra, .ref rb, .ref pr])), (rb, .inr (2, [.ref qa, .int (iI ((la : Nat) : Int))]))] "java/lang/IllegalArgumentException" := by
  intro sz
  refine t_met (by decide) (Nat.le_of_ble_eq_true rfl) ?_
  intro F p e s m args below meth c Q A hX hT
  replace hX : qOK F p l e rmt_Ra_cut_n_1 s m args below meth c Q prog_1_method_3_code 4 "RowAligner" D (tysA tI tJ tZ) _ := hX
  unfold iR at hy
  show F 0 [(0, .ref rz), (1, .int (iI ((1 : Nat) : Int))), (2, .int (iI y))] [] [(rz, .inr (0, [.ref gr, .ref se, .ref ly, .ref wc, .ref cf, .ref dr, .int (iI (bI (ld = true))), .int (iI (bI (wn = true))), .int (iI (bI (xf = true))), .long cw])), (gr, .inr (1, [.ref ra, .ref rb, .ref pr])), (rb, .inr (2, [.ref qa, .int (iI ((la : Nat) : Int))]))] 0 0
  refine q_aload_n hX 0 d_Ra_cut_0 rfl ?_
  refine q_iload_n hX 1 d_Ra_cut_1 rfl ?_
  refine q_invV_r0 (st := []) (As := [.int (iI ((1 : Nat) : Int))]) hX (x_Ra_existingRow_1 l D tI tJ tZ rz gr se ly wc cf dr ld wn xf cw ra rb pr) "RowAligner" 0 0 cf_Ra rfl yn_Ra_existingRow ml_Ra_53 im_Ra_existingRow se_Ra_existingRow co_Ra_existingRow in_Ra (by decide) (by decide) (by decide) [0, 1] rfl rfl rfl rfl rfl (Nat.le_of_ble_eq_true rfl) d_Ra_cut_2 ?_
  refine q_astore_n hX (lv' := [(3, .ref rb), (0, .ref rz), (1, .int (iI ((1 : Nat) : Int))), (2, .int (iI y))]) d_Ra_cut_5 rfl (by decide) rfl ?_
  refine q_iload_n hX 3 d_Ra_cut_6 rfl ?_
  refine q_if_lt hX 18 d_Ra_cut_7 (by decide) (by unfold iR; omega) (fun h7 => ?_) (fun h7 => ?_)
  · exact q_throw hX hT hstk tw_Ra_61 (Nat.le_of_ble_eq_true rfl) (Nat.le_of_ble_eq_true rfl) (Nat.le_of_ble_eq_true rfl) (Nat.le_of_ble_eq_true rfl) (Nat.le_of_ble_eq_true rfl) (Nat.le_of_ble_eq_true rfl) (Nat.le_of_ble_eq_true rfl) d_Ra_cut_18 d_Ra_cut_21 d_Ra_cut_22 d_Ra_cut_25
  · refine q_iload_n hX 3 d_Ra_cut_10 rfl ?_
    refine q_aload_n hX 0 d_Ra_cut_11 rfl ?_
    refine q_get hX cf_Ro 2 rfl 1 (by decide) fl_Ra_64 rfl d_Ra_cut_12 ?_
    refine q_icmp_le hX 26 d_Ra_cut_15 (by decide) (by unfold iR; omega) (by unfold iR; omega) (fun h15 => by exfalso; omega) (fun h15 => ?_)
    exact q_throw hX hT hstk tw_Ra_61 (Nat.le_of_ble_eq_true rfl) (Nat.le_of_ble_eq_true rfl) (Nat.le_of_ble_eq_true rfl) (Nat.le_of_ble_eq_true rfl) (Nat.le_of_ble_eq_true rfl) (Nat.le_of_ble_eq_true rfl) (Nat.le_of_ble_eq_true rfl) d_Ra_cut_18 d_Ra_cut_21 d_Ra_cut_22 d_Ra_cut_25

abbrev rmt_Ra_letter_n_1 : Room := { frames := 6, cells := 1, slots := 6, locals := 90 }
set_option maxHeartbeats 4000000 in
set_option maxRecDepth 100000 in
theorem t_Ra_letter_n_1 (l : Launch) (hstk : l.stackTraces = false) (D : va_G) (tI tJ tZ : ClassId) (rz : Nat) (gr : Nat) (se : Nat) (ly : Nat) (wc : Nat) (cf : Nat) (dr : Nat) (ld : Bool) (wn : Bool) (xf : Bool) (cw : Int64) (ra : Nat) (rb : Nat) (pr : Nat) (qa : Nat) (la : Nat) (y : Int) (hla : la ≤ 96) (hy : iR y) (hn : y < 0 ∨ ((la : Nat) : Int) ≤ y) : tC l y_Ra_letter prog_1_method_5_code 4 (some .int) rmt_Ra_letter_n_1 D (tysA tI tJ tZ) [.ref rz, .int (iI ((1 : Nat) : Int)), .int (iI y)] [(rz, .inr (0, [.ref gr, .ref se, .ref ly, .ref wc, .ref cf, .ref dr, .int (iI (bI (ld = true))), .int (iI (bI (wn = true))), .int (iI (bI (xf = true))), .long cw])), (gr, .inr (1, [.ref ra, .ref rb, .ref pr])), (rb, .inr (2, [.ref qa, .int (iI ((la : Nat) : Int))]))] "java/lang/IndexOutOfBoundsException" := by
  intro sz
  refine t_met (by decide) (Nat.le_of_ble_eq_true rfl) ?_
  intro F p e s m args below meth c Q A hX hT
  replace hX : qOK F p l e rmt_Ra_letter_n_1 s m args below meth c Q prog_1_method_5_code 4 "RowAligner" D (tysA tI tJ tZ) _ := hX
  unfold iR at hy
  show F 0 [(0, .ref rz), (1, .int (iI ((1 : Nat) : Int))), (2, .int (iI y))] [] [(rz, .inr (0, [.ref gr, .ref se, .ref ly, .ref wc, .ref cf, .ref dr, .int (iI (bI (ld = true))), .int (iI (bI (wn = true))), .int (iI (bI (xf = true))), .long cw])), (gr, .inr (1, [.ref ra, .ref rb, .ref pr])), (rb, .inr (2, [.ref qa, .int (iI ((la : Nat) : Int))]))] 0 0
  refine q_aload_n hX 0 d_Ra_letter_0 rfl ?_
  refine q_iload_n hX 1 d_Ra_letter_1 rfl ?_
  refine q_invV_r0 (st := []) (As := [.int (iI ((1 : Nat) : Int))]) hX (x_Ra_existingRow_1 l D tI tJ tZ rz gr se ly wc cf dr ld wn xf cw ra rb pr) "RowAligner" 0 0 cf_Ra rfl yn_Ra_existingRow ml_Ra_53 im_Ra_existingRow se_Ra_existingRow co_Ra_existingRow in_Ra (by decide) (by decide) (by decide) [0, 1] rfl rfl rfl rfl rfl (Nat.le_of_ble_eq_true rfl) d_Ra_letter_2 ?_
  refine q_astore_n hX (lv' := [(3, .ref rb), (0, .ref rz), (1, .int (iI ((1 : Nat) : Int))), (2, .int (iI y))]) d_Ra_letter_5 rfl (by decide) rfl ?_
  refine q_iload_n hX 3 d_Ra_letter_6 rfl ?_
  refine q_if_lt hX 18 d_Ra_letter_7 (by decide) (by unfold iR; omega) (fun h7 => ?_) (fun h7 => ?_)
  · exact q_throw hX hT hstk tw_Ra_88 (Nat.le_of_ble_eq_true rfl) (Nat.le_of_ble_eq_true rfl) (Nat.le_of_ble_eq_true rfl) (Nat.le_of_ble_eq_true rfl) (Nat.le_of_ble_eq_true rfl) (Nat.le_of_ble_eq_true rfl) (Nat.le_of_ble_eq_true rfl) d_Ra_letter_18 d_Ra_letter_21 d_Ra_letter_22 d_Ra_letter_25
  · refine q_iload_n hX 3 d_Ra_letter_10 rfl ?_
    refine q_aload_n hX 0 d_Ra_letter_11 rfl ?_
    refine q_get hX cf_Ro 2 rfl 1 (by decide) fl_Ra_64 rfl d_Ra_letter_12 ?_
    refine q_icmp_lt hX 26 d_Ra_letter_15 (by decide) (by unfold iR; omega) (by unfold iR; omega) (fun h15 => by exfalso; omega) (fun h15 => ?_)
    exact q_throw hX hT hstk tw_Ra_88 (Nat.le_of_ble_eq_true rfl) (Nat.le_of_ble_eq_true rfl) (Nat.le_of_ble_eq_true rfl) (Nat.le_of_ble_eq_true rfl) (Nat.le_of_ble_eq_true rfl) (Nat.le_of_ble_eq_true rfl) (Nat.le_of_ble_eq_true rfl) d_Ra_letter_18 d_Ra_letter_21 d_Ra_letter_22 d_Ra_letter_25

abbrev rmt_Ra_score_r : Room := { frames := 6, cells := 1, slots := 6, locals := 90 }
set_option maxHeartbeats 4000000 in
set_option maxRecDepth 100000 in
theorem t_Ra_score_r (l : Launch) (hstk : l.stackTraces = false) (D : va_G) (tI tJ tZ : ClassId) (rz : Nat) (gr : Nat) (se : Nat) (ly : Nat) (wc : Nat) (cf : Nat) (dr : Nat) (ld : Bool) (wn : Bool) (xf : Bool) (cw : Int64) (x : Int) (y : Int) (v : Int) (hx : iR x) (hy : iR y) (hr : x < 0 ∨ 26 ≤ x ∨ y < 0 ∨ 26 ≤ y) : tC l y_Ra_score prog_1_method_7_code 4 none rmt_Ra_score_r D (tysA tI tJ tZ) [.ref rz, .int (iI x), .int (iI y), .int (iI v)] [(rz, .inr (0, [.ref gr, .ref se, .ref ly, .ref wc, .ref cf, .ref dr, .int (iI (bI (ld = true))), .int (iI (bI (wn = true))), .int (iI (bI (xf = true))), .long cw]))] "java/lang/IndexOutOfBoundsException" := by
  intro sz
  refine t_met (by decide) (Nat.le_of_ble_eq_true rfl) ?_
  intro F p e s m args below meth c Q A hX hT
  replace hX : qOK F p l e rmt_Ra_score_r s m args below meth c Q prog_1_method_7_code 4 "RowAligner" D (tysA tI tJ tZ) _ := hX
  unfold iR at hx hy
  show F 0 [(0, .ref rz), (1, .int (iI x)), (2, .int (iI y)), (3, .int (iI v))] [] [(rz, .inr (0, [.ref gr, .ref se, .ref ly, .ref wc, .ref cf, .ref dr, .int (iI (bI (ld = true))), .int (iI (bI (wn = true))), .int (iI (bI (xf = true))), .long cw]))] 0 0
  refine q_iload_n hX 1 d_Ra_score_0 rfl ?_
  refine q_if_lt hX 20 d_Ra_score_1 (by decide) (by unfold iR; omega) (fun h1 => ?_) (fun h1 => ?_)
  · exact q_throw hX hT hstk tw_Ra_88 (Nat.le_of_ble_eq_true rfl) (Nat.le_of_ble_eq_true rfl) (Nat.le_of_ble_eq_true rfl) (Nat.le_of_ble_eq_true rfl) (Nat.le_of_ble_eq_true rfl) (Nat.le_of_ble_eq_true rfl) (Nat.le_of_ble_eq_true rfl) d_Ra_score_20 d_Ra_score_23 d_Ra_score_24 d_Ra_score_27
  · refine q_iload_n hX 1 d_Ra_score_4 rfl ?_
    refine q_bipushN hX 26 d_Ra_score_5 rfl (by decide) ?_
    refine q_icmp_ge hX 20 d_Ra_score_7 (by decide) (by unfold iR; omega) (by unfold iR; omega) (fun h7 => ?_) (fun h7 => ?_)
    · exact q_throw hX hT hstk tw_Ra_88 (Nat.le_of_ble_eq_true rfl) (Nat.le_of_ble_eq_true rfl) (Nat.le_of_ble_eq_true rfl) (Nat.le_of_ble_eq_true rfl) (Nat.le_of_ble_eq_true rfl) (Nat.le_of_ble_eq_true rfl) (Nat.le_of_ble_eq_true rfl) d_Ra_score_20 d_Ra_score_23 d_Ra_score_24 d_Ra_score_27
    · refine q_iload_n hX 2 d_Ra_score_10 rfl ?_
      refine q_if_lt hX 20 d_Ra_score_11 (by decide) (by unfold iR; omega) (fun h11 => ?_) (fun h11 => ?_)
      · exact q_throw hX hT hstk tw_Ra_88 (Nat.le_of_ble_eq_true rfl) (Nat.le_of_ble_eq_true rfl) (Nat.le_of_ble_eq_true rfl) (Nat.le_of_ble_eq_true rfl) (Nat.le_of_ble_eq_true rfl) (Nat.le_of_ble_eq_true rfl) (Nat.le_of_ble_eq_true rfl) d_Ra_score_20 d_Ra_score_23 d_Ra_score_24 d_Ra_score_27
      · refine q_iload_n hX 2 d_Ra_score_14 rfl ?_
        refine q_bipushN hX 26 d_Ra_score_15 rfl (by decide) ?_
        refine q_icmp_lt hX 28 d_Ra_score_17 (by decide) (by unfold iR; omega) (by unfold iR; omega) (fun h17 => by exfalso; omega) (fun h17 => ?_)
        exact q_throw hX hT hstk tw_Ra_88 (Nat.le_of_ble_eq_true rfl) (Nat.le_of_ble_eq_true rfl) (Nat.le_of_ble_eq_true rfl) (Nat.le_of_ble_eq_true rfl) (Nat.le_of_ble_eq_true rfl) (Nat.le_of_ble_eq_true rfl) (Nat.le_of_ble_eq_true rfl) d_Ra_score_20 d_Ra_score_23 d_Ra_score_24 d_Ra_score_27

abbrev rmt_Ra_score_n : Room := { frames := 7, cells := 1, slots := 6, locals := 111 }
set_option maxHeartbeats 4000000 in
set_option maxRecDepth 100000 in
theorem t_Ra_score_n (l : Launch) (hstk : l.stackTraces = false) (D : va_G) (tI tJ tZ : ClassId) (rz : Nat) (gr : Nat) (se : Nat) (ly : Nat) (wc : Nat) (cf : Nat) (dr : Nat) (ld : Bool) (wn : Bool) (xf : Bool) (cw : Int64) (x : Nat) (y : Nat) (v : Int) (hx : x < 26) (hy : y < 26) (hv : iR v) (hr : v < -512 ∨ 512 < v) : tC l y_Ra_score prog_1_method_7_code 4 none rmt_Ra_score_n D (tysA tI tJ tZ) [.ref rz, .int (iI ((x : Nat) : Int)), .int (iI ((y : Nat) : Int)), .int (iI v)] [(rz, .inr (0, [.ref gr, .ref se, .ref ly, .ref wc, .ref cf, .ref dr, .int (iI (bI (ld = true))), .int (iI (bI (wn = true))), .int (iI (bI (xf = true))), .long cw]))] "java/lang/IllegalArgumentException" := by
  intro sz
  refine t_met (by decide) (Nat.le_of_ble_eq_true rfl) ?_
  intro F p e s m args below meth c Q A hX hT
  replace hX : qOK F p l e rmt_Ra_score_n s m args below meth c Q prog_1_method_7_code 4 "RowAligner" D (tysA tI tJ tZ) _ := hX
  show F 0 [(0, .ref rz), (1, .int (iI ((x : Nat) : Int))), (2, .int (iI ((y : Nat) : Int))), (3, .int (iI v))] [] [(rz, .inr (0, [.ref gr, .ref se, .ref ly, .ref wc, .ref cf, .ref dr, .int (iI (bI (ld = true))), .int (iI (bI (wn = true))), .int (iI (bI (xf = true))), .long cw]))] 0 0
  refine q_iload_n hX 1 d_Ra_score_0 rfl ?_
  refine q_if_lt hX 20 d_Ra_score_1 (by decide) (by unfold iR; omega) (fun h1 => by exfalso; omega) (fun h1 => ?_)
  refine q_iload_n hX 1 d_Ra_score_4 rfl ?_
  refine q_bipushN hX 26 d_Ra_score_5 rfl (by decide) ?_
  refine q_icmp_ge hX 20 d_Ra_score_7 (by decide) (by unfold iR; omega) (by unfold iR; omega) (fun h7 => by exfalso; omega) (fun h7 => ?_)
  refine q_iload_n hX 2 d_Ra_score_10 rfl ?_
  refine q_if_lt hX 20 d_Ra_score_11 (by decide) (by unfold iR; omega) (fun h11 => by exfalso; omega) (fun h11 => ?_)
  refine q_iload_n hX 2 d_Ra_score_14 rfl ?_
  refine q_bipushN hX 26 d_Ra_score_15 rfl (by decide) ?_
  refine q_icmp_lt hX 28 d_Ra_score_17 (by decide) (by unfold iR; omega) (by unfold iR; omega) (fun h17 => ?_) (fun h17 => by exfalso; omega)
  refine q_sipush hX d_Ra_score_28 (by decide) ?_
  refine q_iload_n hX 3 d_Ra_score_31 rfl ?_
  exact q_invS_t (st := []) (As := [.int (iI (-512)), .int (iI v)]) hX hT (t_Ra_refusePriceBelow l hstk D tI tJ tZ (-512) v (by unfold iR; omega) hv hr) yn_Ra_refusePriceBelow ml_Ra_95 st_Ra_refusePriceBelow co_Ra_refusePriceBelow in_Ra (Nat.le_of_ble_eq_true rfl) (Nat.le_of_ble_eq_true rfl) (Nat.le_of_ble_eq_true rfl) (Nat.le_of_ble_eq_true rfl) (Nat.le_of_ble_eq_true rfl) (Nat.le_of_ble_eq_true rfl) [] rfl rfl rfl rfl rfl (Nat.le_of_ble_eq_true rfl) d_Ra_score_32

abbrev rmt_Ra_scores_a : Room := { frames := 7, cells := 1, slots := 6, locals := 111 }
set_option maxHeartbeats 4000000 in
set_option maxRecDepth 100000 in
theorem t_Ra_scores_a (l : Launch) (hstk : l.stackTraces = false) (D : va_G) (tI tJ tZ : ClassId) (rz : Nat) (gr : Nat) (se : Nat) (ly : Nat) (wc : Nat) (cf : Nat) (dr : Nat) (ld : Bool) (wn : Bool) (xf : Bool) (cw : Int64) (x : Int) (y : Int) (hx : iR x) (hr : x < -512 ∨ 512 < x) : tC l y_Ra_scores prog_1_method_8_code 3 none rmt_Ra_scores_a D (tysA tI tJ tZ) [.ref rz, .int (iI x), .int (iI y)] [(rz, .inr (0, [.ref gr, .ref se, .ref ly, .ref wc, .ref cf, .ref dr, .int (iI (bI (ld = true))), .int (iI (bI (wn = true))), .int (iI (bI (xf = true))), .long cw]))] "java/lang/IllegalArgumentException" := by
  intro sz
  refine t_met (by decide) (Nat.le_of_ble_eq_true rfl) ?_
  intro F p e s m args below meth c Q A hX hT
  replace hX : qOK F p l e rmt_Ra_scores_a s m args below meth c Q prog_1_method_8_code 3 "RowAligner" D (tysA tI tJ tZ) _ := hX
  show F 0 [(0, .ref rz), (1, .int (iI x)), (2, .int (iI y))] [] [(rz, .inr (0, [.ref gr, .ref se, .ref ly, .ref wc, .ref cf, .ref dr, .int (iI (bI (ld = true))), .int (iI (bI (wn = true))), .int (iI (bI (xf = true))), .long cw]))] 0 0
  refine q_sipush hX d_Ra_scores_0 (by decide) ?_
  refine q_iload_n hX 1 d_Ra_scores_3 rfl ?_
  exact q_invS_t (st := []) (As := [.int (iI (-512)), .int (iI x)]) hX hT (t_Ra_refusePriceBelow l hstk D tI tJ tZ (-512) x (by unfold iR; omega) hx hr) yn_Ra_refusePriceBelow ml_Ra_95 st_Ra_refusePriceBelow co_Ra_refusePriceBelow in_Ra (Nat.le_of_ble_eq_true rfl) (Nat.le_of_ble_eq_true rfl) (Nat.le_of_ble_eq_true rfl) (Nat.le_of_ble_eq_true rfl) (Nat.le_of_ble_eq_true rfl) (Nat.le_of_ble_eq_true rfl) [] rfl rfl rfl rfl rfl (Nat.le_of_ble_eq_true rfl) d_Ra_scores_4

abbrev rmt_Ra_scores_b : Room := { frames := 7, cells := 1, slots := 6, locals := 111 }
set_option maxHeartbeats 4000000 in
set_option maxRecDepth 100000 in
theorem t_Ra_scores_b (l : Launch) (hstk : l.stackTraces = false) (D : va_G) (tI tJ tZ : ClassId) (rz : Nat) (gr : Nat) (se : Nat) (ly : Nat) (wc : Nat) (cf : Nat) (dr : Nat) (ld : Bool) (wn : Bool) (xf : Bool) (cw : Int64) (x : Int) (y : Int) (hx : -512 ≤ x ∧ x ≤ 512) (hy : iR y) (hr : y < -512 ∨ 512 < y) : tC l y_Ra_scores prog_1_method_8_code 3 none rmt_Ra_scores_b D (tysA tI tJ tZ) [.ref rz, .int (iI x), .int (iI y)] [(rz, .inr (0, [.ref gr, .ref se, .ref ly, .ref wc, .ref cf, .ref dr, .int (iI (bI (ld = true))), .int (iI (bI (wn = true))), .int (iI (bI (xf = true))), .long cw]))] "java/lang/IllegalArgumentException" := by
  intro sz
  refine t_met (by decide) (Nat.le_of_ble_eq_true rfl) ?_
  intro F p e s m args below meth c Q A hX hT
  replace hX : qOK F p l e rmt_Ra_scores_b s m args below meth c Q prog_1_method_8_code 3 "RowAligner" D (tysA tI tJ tZ) _ := hX
  show F 0 [(0, .ref rz), (1, .int (iI x)), (2, .int (iI y))] [] [(rz, .inr (0, [.ref gr, .ref se, .ref ly, .ref wc, .ref cf, .ref dr, .int (iI (bI (ld = true))), .int (iI (bI (wn = true))), .int (iI (bI (xf = true))), .long cw]))] 0 0
  refine q_sipush hX d_Ra_scores_0 (by decide) ?_
  refine q_iload_n hX 1 d_Ra_scores_3 rfl ?_
  refine q_invS_v0 (st := []) (As := [.int (iI (-512)), .int (iI x)]) hX (q_of_rv (c_Ra_refusePriceBelow l D tI tJ tZ (-512) x (by unfold iR; omega) hx)) yn_Ra_refusePriceBelow ml_Ra_95 st_Ra_refusePriceBelow co_Ra_refusePriceBelow in_Ra (by decide) (by decide) (by decide) [] rfl rfl rfl rfl rfl (Nat.le_of_ble_eq_true rfl) d_Ra_scores_4 (fun _ _ => ?_)
  refine q_sipush hX d_Ra_scores_7 (by decide) ?_
  refine q_iload_n hX 2 d_Ra_scores_10 rfl ?_
  exact q_invS_t (st := []) (As := [.int (iI (-512)), .int (iI y)]) hX hT (t_Ra_refusePriceBelow l hstk D tI tJ tZ (-512) y (by unfold iR; omega) hy hr) yn_Ra_refusePriceBelow ml_Ra_95 st_Ra_refusePriceBelow co_Ra_refusePriceBelow in_Ra (Nat.le_of_ble_eq_true rfl) (Nat.le_of_ble_eq_true rfl) (Nat.le_of_ble_eq_true rfl) (Nat.le_of_ble_eq_true rfl) (Nat.le_of_ble_eq_true rfl) (Nat.le_of_ble_eq_true rfl) [] rfl rfl rfl rfl rfl (Nat.le_of_ble_eq_true rfl) d_Ra_scores_11

abbrev rmt_Ra_costs_a : Room := { frames := 7, cells := 1, slots := 6, locals := 111 }
set_option maxHeartbeats 4000000 in
set_option maxRecDepth 100000 in
theorem t_Ra_costs_a (l : Launch) (hstk : l.stackTraces = false) (D : va_G) (tI tJ tZ : ClassId) (rz : Nat) (gr : Nat) (se : Nat) (ly : Nat) (wc : Nat) (cf : Nat) (dr : Nat) (ld : Bool) (wn : Bool) (xf : Bool) (cw : Int64) (x : Int) (y : Int) (hx : iR x) (hr : x < 0 ∨ 512 < x) : tC l y_Ra_costs prog_1_method_9_code 3 none rmt_Ra_costs_a D (tysA tI tJ tZ) [.ref rz, .int (iI x), .int (iI y)] [(rz, .inr (0, [.ref gr, .ref se, .ref ly, .ref wc, .ref cf, .ref dr, .int (iI (bI (ld = true))), .int (iI (bI (wn = true))), .int (iI (bI (xf = true))), .long cw]))] "java/lang/IllegalArgumentException" := by
  intro sz
  refine t_met (by decide) (Nat.le_of_ble_eq_true rfl) ?_
  intro F p e s m args below meth c Q A hX hT
  replace hX : qOK F p l e rmt_Ra_costs_a s m args below meth c Q prog_1_method_9_code 3 "RowAligner" D (tysA tI tJ tZ) _ := hX
  show F 0 [(0, .ref rz), (1, .int (iI x)), (2, .int (iI y))] [] [(rz, .inr (0, [.ref gr, .ref se, .ref ly, .ref wc, .ref cf, .ref dr, .int (iI (bI (ld = true))), .int (iI (bI (wn = true))), .int (iI (bI (xf = true))), .long cw]))] 0 0
  refine q_iconstN hX 0 d_Ra_costs_0 rfl ?_
  refine q_iload_n hX 1 d_Ra_costs_1 rfl ?_
  exact q_invS_t (st := []) (As := [.int (iI ((0 : Nat) : Int)), .int (iI x)]) hX hT (t_Ra_refusePriceBelow l hstk D tI tJ tZ (((0 : Nat) : Int)) x (by unfold iR; omega) hx hr) yn_Ra_refusePriceBelow ml_Ra_95 st_Ra_refusePriceBelow co_Ra_refusePriceBelow in_Ra (Nat.le_of_ble_eq_true rfl) (Nat.le_of_ble_eq_true rfl) (Nat.le_of_ble_eq_true rfl) (Nat.le_of_ble_eq_true rfl) (Nat.le_of_ble_eq_true rfl) (Nat.le_of_ble_eq_true rfl) [] rfl rfl rfl rfl rfl (Nat.le_of_ble_eq_true rfl) d_Ra_costs_2

abbrev rmt_Ra_costs_b : Room := { frames := 7, cells := 1, slots := 6, locals := 111 }
set_option maxHeartbeats 4000000 in
set_option maxRecDepth 100000 in
theorem t_Ra_costs_b (l : Launch) (hstk : l.stackTraces = false) (D : va_G) (tI tJ tZ : ClassId) (rz : Nat) (gr : Nat) (se : Nat) (ly : Nat) (wc : Nat) (cf : Nat) (dr : Nat) (ld : Bool) (wn : Bool) (xf : Bool) (cw : Int64) (x : Int) (y : Int) (hx : 0 ≤ x ∧ x ≤ 512) (hy : iR y) (hr : y < 0 ∨ 512 < y) : tC l y_Ra_costs prog_1_method_9_code 3 none rmt_Ra_costs_b D (tysA tI tJ tZ) [.ref rz, .int (iI x), .int (iI y)] [(rz, .inr (0, [.ref gr, .ref se, .ref ly, .ref wc, .ref cf, .ref dr, .int (iI (bI (ld = true))), .int (iI (bI (wn = true))), .int (iI (bI (xf = true))), .long cw]))] "java/lang/IllegalArgumentException" := by
  intro sz
  refine t_met (by decide) (Nat.le_of_ble_eq_true rfl) ?_
  intro F p e s m args below meth c Q A hX hT
  replace hX : qOK F p l e rmt_Ra_costs_b s m args below meth c Q prog_1_method_9_code 3 "RowAligner" D (tysA tI tJ tZ) _ := hX
  show F 0 [(0, .ref rz), (1, .int (iI x)), (2, .int (iI y))] [] [(rz, .inr (0, [.ref gr, .ref se, .ref ly, .ref wc, .ref cf, .ref dr, .int (iI (bI (ld = true))), .int (iI (bI (wn = true))), .int (iI (bI (xf = true))), .long cw]))] 0 0
  refine q_iconstN hX 0 d_Ra_costs_0 rfl ?_
  refine q_iload_n hX 1 d_Ra_costs_1 rfl ?_
  refine q_invS_v0 (st := []) (As := [.int (iI ((0 : Nat) : Int)), .int (iI x)]) hX (q_of_rv (c_Ra_refusePriceBelow l D tI tJ tZ (((0 : Nat) : Int)) x (by unfold iR; omega) hx)) yn_Ra_refusePriceBelow ml_Ra_95 st_Ra_refusePriceBelow co_Ra_refusePriceBelow in_Ra (by decide) (by decide) (by decide) [] rfl rfl rfl rfl rfl (Nat.le_of_ble_eq_true rfl) d_Ra_costs_2 (fun _ _ => ?_)
  refine q_iconstN hX 0 d_Ra_costs_5 rfl ?_
  refine q_iload_n hX 2 d_Ra_costs_6 rfl ?_
  exact q_invS_t (st := []) (As := [.int (iI ((0 : Nat) : Int)), .int (iI y)]) hX hT (t_Ra_refusePriceBelow l hstk D tI tJ tZ (((0 : Nat) : Int)) y (by unfold iR; omega) hy hr) yn_Ra_refusePriceBelow ml_Ra_95 st_Ra_refusePriceBelow co_Ra_refusePriceBelow in_Ra (Nat.le_of_ble_eq_true rfl) (Nat.le_of_ble_eq_true rfl) (Nat.le_of_ble_eq_true rfl) (Nat.le_of_ble_eq_true rfl) (Nat.le_of_ble_eq_true rfl) (Nat.le_of_ble_eq_true rfl) [] rfl rfl rfl rfl rfl (Nat.le_of_ble_eq_true rfl) d_Ra_costs_7

abbrev rmt_Ra_whole_r : Room := { frames := 7, cells := 1, slots := 6, locals := 110 }
set_option maxHeartbeats 4000000 in
set_option maxRecDepth 100000 in
theorem t_Ra_whole_r (l : Launch) (hstk : l.stackTraces = false) (D : va_G) (tI tJ tZ : ClassId) (rz : Nat) (gr : Nat) (se : Nat) (ly : Nat) (wc : Nat) (cf : Nat) (dr : Nat) (ld : Bool) (wn : Bool) (xf : Bool) (cw : Int64) (x : Int) (hx : iR x) (hr : x < 0 ∨ 15 < x) : tC l y_Ra_whole prog_1_method_10_code 2 (some .int) rmt_Ra_whole_r D (tysA tI tJ tZ) [.ref rz, .int (iI x)] [(rz, .inr (0, [.ref gr, .ref se, .ref ly, .ref wc, .ref cf, .ref dr, .int (iI (bI (ld = true))), .int (iI (bI (wn = true))), .int (iI (bI (xf = true))), .long cw]))] "java/lang/IllegalArgumentException" := by
  intro sz
  refine t_met (by decide) (Nat.le_of_ble_eq_true rfl) ?_
  intro F p e s m args below meth c Q A hX hT
  replace hX : qOK F p l e rmt_Ra_whole_r s m args below meth c Q prog_1_method_10_code 2 "RowAligner" D (tysA tI tJ tZ) _ := hX
  show F 0 [(0, .ref rz), (1, .int (iI x))] [] [(rz, .inr (0, [.ref gr, .ref se, .ref ly, .ref wc, .ref cf, .ref dr, .int (iI (bI (ld = true))), .int (iI (bI (wn = true))), .int (iI (bI (xf = true))), .long cw]))] 0 0
  refine q_iload_n hX 1 d_Ra_whole_0 rfl ?_
  exact q_invS_t (st := []) (As := [.int (iI x)]) hX hT (t_Ra_refuseOtherEnds l hstk D tI tJ tZ x hx hr) yn_Ra_refuseOtherEnds ml_Ra_118 st_Ra_refuseOtherEnds co_Ra_refuseOtherEnds in_Ra (Nat.le_of_ble_eq_true rfl) (Nat.le_of_ble_eq_true rfl) (Nat.le_of_ble_eq_true rfl) (Nat.le_of_ble_eq_true rfl) (Nat.le_of_ble_eq_true rfl) (Nat.le_of_ble_eq_true rfl) [] rfl rfl rfl rfl rfl (Nat.le_of_ble_eq_true rfl) d_Ra_whole_1

abbrev rmt_Ra_worth_r : Room := { frames := 7, cells := 1, slots := 6, locals := 110 }
set_option maxHeartbeats 4000000 in
set_option maxRecDepth 100000 in
theorem t_Ra_worth_r (l : Launch) (hstk : l.stackTraces = false) (D : va_G) (tI tJ tZ : ClassId) (rz : Nat) (gr : Nat) (se : Nat) (ly : Nat) (wc : Nat) (cf : Nat) (dr : Nat) (ld : Bool) (wn : Bool) (xf : Bool) (cw : Int64) (x : Int) (hx : iR x) (hr : x < 0 ∨ 15 < x) : tC l y_Ra_worth prog_1_method_21_code 2 (some .int) rmt_Ra_worth_r D (tysA tI tJ tZ) [.ref rz, .int (iI x)] [(rz, .inr (0, [.ref gr, .ref se, .ref ly, .ref wc, .ref cf, .ref dr, .int (iI (bI (ld = true))), .int (iI (bI (wn = true))), .int (iI (bI (xf = true))), .long cw]))] "java/lang/IllegalArgumentException" := by
  intro sz
  refine t_met (by decide) (Nat.le_of_ble_eq_true rfl) ?_
  intro F p e s m args below meth c Q A hX hT
  replace hX : qOK F p l e rmt_Ra_worth_r s m args below meth c Q prog_1_method_21_code 2 "RowAligner" D (tysA tI tJ tZ) _ := hX
  show F 0 [(0, .ref rz), (1, .int (iI x))] [] [(rz, .inr (0, [.ref gr, .ref se, .ref ly, .ref wc, .ref cf, .ref dr, .int (iI (bI (ld = true))), .int (iI (bI (wn = true))), .int (iI (bI (xf = true))), .long cw]))] 0 0
  refine q_iload_n hX 1 d_Ra_worth_0 rfl ?_
  exact q_invS_t (st := []) (As := [.int (iI x)]) hX hT (t_Ra_refuseOtherEnds l hstk D tI tJ tZ x hx hr) yn_Ra_refuseOtherEnds ml_Ra_118 st_Ra_refuseOtherEnds co_Ra_refuseOtherEnds in_Ra (Nat.le_of_ble_eq_true rfl) (Nat.le_of_ble_eq_true rfl) (Nat.le_of_ble_eq_true rfl) (Nat.le_of_ble_eq_true rfl) (Nat.le_of_ble_eq_true rfl) (Nat.le_of_ble_eq_true rfl) [] rfl rfl rfl rfl rfl (Nat.le_of_ble_eq_true rfl) d_Ra_worth_1

abbrev rmt_Ra_steps_n : Room := { frames := 7, cells := 1, slots := 6, locals := 110 }
set_option maxHeartbeats 4000000 in
set_option maxRecDepth 100000 in
theorem t_Ra_steps_n (l : Launch) (hstk : l.stackTraces = false) (D : va_G) (tI tJ tZ : ClassId) (rz : Nat) (gr : Nat) (se : Nat) (ly : Nat) (wc : Nat) (cf : Nat) (dr : Nat) (ld : Bool) (wn : Bool) (xf : Bool) (cw : Int64) (hl : ¬ ld = true) : tC l y_Ra_steps prog_1_method_12_code 1 (some .int) rmt_Ra_steps_n D (tysA tI tJ tZ) [.ref rz] [(rz, .inr (0, [.ref gr, .ref se, .ref ly, .ref wc, .ref cf, .ref dr, .int (iI (bI (ld = true))), .int (iI (bI (wn = true))), .int (iI (bI (xf = true))), .long cw]))] "java/lang/IllegalStateException" := by
  intro sz
  refine t_met (by decide) (Nat.le_of_ble_eq_true rfl) ?_
  intro F p e s m args below meth c Q A hX hT
  replace hX : qOK F p l e rmt_Ra_steps_n s m args below meth c Q prog_1_method_12_code 1 "RowAligner" D (tysA tI tJ tZ) _ := hX
  show F 0 [(0, .ref rz)] [] [(rz, .inr (0, [.ref gr, .ref se, .ref ly, .ref wc, .ref cf, .ref dr, .int (iI (bI (ld = true))), .int (iI (bI (wn = true))), .int (iI (bI (xf = true))), .long cw]))] 0 0
  refine q_aload_n hX 0 d_Ra_steps_0 rfl ?_
  exact q_invV_t (st := []) (As := []) hX hT (t_Ra_refuseUnlaid l hstk D tI tJ tZ rz gr se ly wc cf dr ld wn xf cw hl) "RowAligner" 0 0 cf_Ra rfl yn_Ra_refuseUnlaid ml_Ra_131 im_Ra_refuseUnlaid se_Ra_refuseUnlaid co_Ra_refuseUnlaid in_Ra (Nat.le_of_ble_eq_true rfl) (Nat.le_of_ble_eq_true rfl) (Nat.le_of_ble_eq_true rfl) (Nat.le_of_ble_eq_true rfl) (Nat.le_of_ble_eq_true rfl) (Nat.le_of_ble_eq_true rfl) [0] rfl rfl rfl rfl rfl (Nat.le_of_ble_eq_true rfl) d_Ra_steps_1

abbrev rmt_Ra_step_n : Room := { frames := 7, cells := 1, slots := 6, locals := 110 }
set_option maxHeartbeats 4000000 in
set_option maxRecDepth 100000 in
theorem t_Ra_step_n (l : Launch) (hstk : l.stackTraces = false) (D : va_G) (tI tJ tZ : ClassId) (rz : Nat) (gr : Nat) (se : Nat) (ly : Nat) (wc : Nat) (cf : Nat) (dr : Nat) (ld : Bool) (wn : Bool) (xf : Bool) (cw : Int64) (x : Int) (hl : ¬ ld = true) : tC l y_Ra_step prog_1_method_13_code 2 (some .int) rmt_Ra_step_n D (tysA tI tJ tZ) [.ref rz, .int (iI x)] [(rz, .inr (0, [.ref gr, .ref se, .ref ly, .ref wc, .ref cf, .ref dr, .int (iI (bI (ld = true))), .int (iI (bI (wn = true))), .int (iI (bI (xf = true))), .long cw]))] "java/lang/IllegalStateException" := by
  intro sz
  refine t_met (by decide) (Nat.le_of_ble_eq_true rfl) ?_
  intro F p e s m args below meth c Q A hX hT
  replace hX : qOK F p l e rmt_Ra_step_n s m args below meth c Q prog_1_method_13_code 2 "RowAligner" D (tysA tI tJ tZ) _ := hX
  show F 0 [(0, .ref rz), (1, .int (iI x))] [] [(rz, .inr (0, [.ref gr, .ref se, .ref ly, .ref wc, .ref cf, .ref dr, .int (iI (bI (ld = true))), .int (iI (bI (wn = true))), .int (iI (bI (xf = true))), .long cw]))] 0 0
  refine q_aload_n hX 0 d_Ra_step_0 rfl ?_
  exact q_invV_t (st := []) (As := []) hX hT (t_Ra_refuseUnlaid l hstk D tI tJ tZ rz gr se ly wc cf dr ld wn xf cw hl) "RowAligner" 0 0 cf_Ra rfl yn_Ra_refuseUnlaid ml_Ra_131 im_Ra_refuseUnlaid se_Ra_refuseUnlaid co_Ra_refuseUnlaid in_Ra (Nat.le_of_ble_eq_true rfl) (Nat.le_of_ble_eq_true rfl) (Nat.le_of_ble_eq_true rfl) (Nat.le_of_ble_eq_true rfl) (Nat.le_of_ble_eq_true rfl) (Nat.le_of_ble_eq_true rfl) [0] rfl rfl rfl rfl rfl (Nat.le_of_ble_eq_true rfl) d_Ra_step_1

abbrev rmt_Ra_step_i : Room := { frames := 6, cells := 1, slots := 6, locals := 90 }
set_option maxHeartbeats 4000000 in
set_option maxRecDepth 100000 in
theorem t_Ra_step_i (l : Launch) (hstk : l.stackTraces = false) (D : va_G) (tI tJ tZ : ClassId) (rz : Nat) (gr : Nat) (se : Nat) (ly : Nat) (wc : Nat) (cf : Nat) (dr : Nat) (ld : Bool) (wn : Bool) (xf : Bool) (cw : Int64) (st9 : Nat) (ln : Nat) (sa : Nat) (sb : Nat) (ea : Nat) (eb : Nat) (d : Nat → Nat) (x : Int) (hl : ld = true) (hx : iR x) (hs : ln ≤ 192) (hn : x < 0 ∨ ((ln : Nat) : Int) ≤ x) : tC l y_Ra_step prog_1_method_13_code 2 (some .int) rmt_Ra_step_i D (tysA tI tJ tZ) [.ref rz, .int (iI x)] [(rz, .inr (0, [.ref gr, .ref se, .ref ly, .ref wc, .ref cf, .ref dr, .int (iI (bI (ld = true))), .int (iI (bI (wn = true))), .int (iI (bI (xf = true))), .long cw])), (ly, .inr (6, [.ref st9, .int (iI ((ln : Nat) : Int)), .int (iI ((sa : Nat) : Int)), .int (iI ((sb : Nat) : Int)), .int (iI ((ea : Nat) : Int)), .int (iI ((eb : Nat) : Int))])), (st9, .inl (tI, 192, .inl (iA (iN d))))] "java/lang/IndexOutOfBoundsException" := by
  intro sz
  refine t_met (by decide) (Nat.le_of_ble_eq_true rfl) ?_
  intro F p e s m args below meth c Q A hX hT
  replace hX : qOK F p l e rmt_Ra_step_i s m args below meth c Q prog_1_method_13_code 2 "RowAligner" D (tysA tI tJ tZ) _ := hX
  unfold iR at hx
  show F 0 [(0, .ref rz), (1, .int (iI x))] [] [(rz, .inr (0, [.ref gr, .ref se, .ref ly, .ref wc, .ref cf, .ref dr, .int (iI (bI (ld = true))), .int (iI (bI (wn = true))), .int (iI (bI (xf = true))), .long cw])), (ly, .inr (6, [.ref st9, .int (iI ((ln : Nat) : Int)), .int (iI ((sa : Nat) : Int)), .int (iI ((sb : Nat) : Int)), .int (iI ((ea : Nat) : Int)), .int (iI ((eb : Nat) : Int))])), (st9, .inl (tI, 192, .inl (iA (iN d))))] 0 0
  refine q_aload_n hX 0 d_Ra_step_0 rfl ?_
  refine q_invV_v0 (st := []) (As := []) hX (x_Ra_refuseUnlaid l D tI tJ tZ rz gr se ly wc cf dr ld wn xf cw hl) "RowAligner" 0 0 cf_Ra rfl yn_Ra_refuseUnlaid ml_Ra_131 im_Ra_refuseUnlaid se_Ra_refuseUnlaid co_Ra_refuseUnlaid in_Ra (by decide) (by decide) (by decide) [0] rfl rfl rfl rfl rfl (Nat.le_of_ble_eq_true rfl) d_Ra_step_1 (fun _ _ => ?_)
  refine q_iload_n hX 1 d_Ra_step_4 rfl ?_
  refine q_if_lt hX 19 d_Ra_step_5 (by decide) (by unfold iR; omega) (fun h5 => ?_) (fun h5 => ?_)
  · exact q_throw hX hT hstk tw_Ra_88 (Nat.le_of_ble_eq_true rfl) (Nat.le_of_ble_eq_true rfl) (Nat.le_of_ble_eq_true rfl) (Nat.le_of_ble_eq_true rfl) (Nat.le_of_ble_eq_true rfl) (Nat.le_of_ble_eq_true rfl) (Nat.le_of_ble_eq_true rfl) d_Ra_step_19 d_Ra_step_22 d_Ra_step_23 d_Ra_step_26
  · refine q_iload_n hX 1 d_Ra_step_8 rfl ?_
    refine q_aload_n hX 0 d_Ra_step_9 rfl ?_
    refine q_get hX cf_Ra 0 rfl 2 (by decide) fl_Ra_28 rfl d_Ra_step_10 ?_
    refine q_get hX cf_La 1 rfl 1 (by decide) fl_Ra_134 rfl d_Ra_step_13 ?_
    refine q_icmp_lt hX 27 d_Ra_step_16 (by decide) (by unfold iR; omega) (by unfold iR; omega) (fun h16 => by exfalso; omega) (fun h16 => ?_)
    exact q_throw hX hT hstk tw_Ra_88 (Nat.le_of_ble_eq_true rfl) (Nat.le_of_ble_eq_true rfl) (Nat.le_of_ble_eq_true rfl) (Nat.le_of_ble_eq_true rfl) (Nat.le_of_ble_eq_true rfl) (Nat.le_of_ble_eq_true rfl) (Nat.le_of_ble_eq_true rfl) d_Ra_step_19 d_Ra_step_22 d_Ra_step_23 d_Ra_step_26

abbrev rmt_Ra_place_r : Room := { frames := 7, cells := 1, slots := 6, locals := 110 }
set_option maxHeartbeats 4000000 in
set_option maxRecDepth 100000 in
theorem t_Ra_place_r (l : Launch) (hstk : l.stackTraces = false) (D : va_G) (tI tJ tZ : ClassId) (rz : Nat) (gr : Nat) (se : Nat) (ly : Nat) (wc : Nat) (cf : Nat) (dr : Nat) (ld : Bool) (wn : Bool) (xf : Bool) (cw : Int64) (x : Int) (ex : Bool) (hx : iR x) (hr : x < 0 ∨ 1 < x) : tC l y_Ra_place prog_1_method_14_code 3 (some .int) rmt_Ra_place_r D (tysA tI tJ tZ) [.ref rz, .int (iI x), .int (iI (bI (ex = true)))] [(rz, .inr (0, [.ref gr, .ref se, .ref ly, .ref wc, .ref cf, .ref dr, .int (iI (bI (ld = true))), .int (iI (bI (wn = true))), .int (iI (bI (xf = true))), .long cw]))] "java/lang/IndexOutOfBoundsException" := by
  intro sz
  refine t_met (by decide) (Nat.le_of_ble_eq_true rfl) ?_
  intro F p e s m args below meth c Q A hX hT
  replace hX : qOK F p l e rmt_Ra_place_r s m args below meth c Q prog_1_method_14_code 3 "RowAligner" D (tysA tI tJ tZ) _ := hX
  show F 0 [(0, .ref rz), (1, .int (iI x)), (2, .int (iI (bI (ex = true))))] [] [(rz, .inr (0, [.ref gr, .ref se, .ref ly, .ref wc, .ref cf, .ref dr, .int (iI (bI (ld = true))), .int (iI (bI (wn = true))), .int (iI (bI (xf = true))), .long cw]))] 0 0
  refine q_iload_n hX 1 d_Ra_place_0 rfl ?_
  exact q_invS_t (st := []) (As := [.int (iI x)]) hX hT (t_Ra_refuseOtherRows l hstk D tI tJ tZ x hx hr) yn_Ra_refuseOtherRows ml_Ra_138 st_Ra_refuseOtherRows co_Ra_refuseOtherRows in_Ra (Nat.le_of_ble_eq_true rfl) (Nat.le_of_ble_eq_true rfl) (Nat.le_of_ble_eq_true rfl) (Nat.le_of_ble_eq_true rfl) (Nat.le_of_ble_eq_true rfl) (Nat.le_of_ble_eq_true rfl) [] rfl rfl rfl rfl rfl (Nat.le_of_ble_eq_true rfl) d_Ra_place_1

abbrev rmt_Ra_place_n : Room := { frames := 7, cells := 1, slots := 6, locals := 110 }
set_option maxHeartbeats 4000000 in
set_option maxRecDepth 100000 in
theorem t_Ra_place_n (l : Launch) (hstk : l.stackTraces = false) (D : va_G) (tI tJ tZ : ClassId) (rz : Nat) (gr : Nat) (se : Nat) (ly : Nat) (wc : Nat) (cf : Nat) (dr : Nat) (ld : Bool) (wn : Bool) (xf : Bool) (cw : Int64) (x : Nat) (ex : Bool) (hl : ¬ ld = true) (hr : x ≤ 1) : tC l y_Ra_place prog_1_method_14_code 3 (some .int) rmt_Ra_place_n D (tysA tI tJ tZ) [.ref rz, .int (iI ((x : Nat) : Int)), .int (iI (bI (ex = true)))] [(rz, .inr (0, [.ref gr, .ref se, .ref ly, .ref wc, .ref cf, .ref dr, .int (iI (bI (ld = true))), .int (iI (bI (wn = true))), .int (iI (bI (xf = true))), .long cw]))] "java/lang/IllegalStateException" := by
  intro sz
  refine t_met (by decide) (Nat.le_of_ble_eq_true rfl) ?_
  intro F p e s m args below meth c Q A hX hT
  replace hX : qOK F p l e rmt_Ra_place_n s m args below meth c Q prog_1_method_14_code 3 "RowAligner" D (tysA tI tJ tZ) _ := hX
  show F 0 [(0, .ref rz), (1, .int (iI ((x : Nat) : Int))), (2, .int (iI (bI (ex = true))))] [] [(rz, .inr (0, [.ref gr, .ref se, .ref ly, .ref wc, .ref cf, .ref dr, .int (iI (bI (ld = true))), .int (iI (bI (wn = true))), .int (iI (bI (xf = true))), .long cw]))] 0 0
  refine q_iload_n hX 1 d_Ra_place_0 rfl ?_
  refine q_invS_v0 (st := []) (As := [.int (iI ((x : Nat) : Int))]) hX (q_of_rv (c_Ra_refuseOtherRows l D tI tJ tZ x hr)) yn_Ra_refuseOtherRows ml_Ra_138 st_Ra_refuseOtherRows co_Ra_refuseOtherRows in_Ra (by decide) (by decide) (by decide) [] rfl rfl rfl rfl rfl (Nat.le_of_ble_eq_true rfl) d_Ra_place_1 (fun _ _ => ?_)
  refine q_aload_n hX 0 d_Ra_place_4 rfl ?_
  exact q_invV_t (st := []) (As := []) hX hT (t_Ra_refuseUnlaid l hstk D tI tJ tZ rz gr se ly wc cf dr ld wn xf cw hl) "RowAligner" 0 0 cf_Ra rfl yn_Ra_refuseUnlaid ml_Ra_131 im_Ra_refuseUnlaid se_Ra_refuseUnlaid co_Ra_refuseUnlaid in_Ra (Nat.le_of_ble_eq_true rfl) (Nat.le_of_ble_eq_true rfl) (Nat.le_of_ble_eq_true rfl) (Nat.le_of_ble_eq_true rfl) (Nat.le_of_ble_eq_true rfl) (Nat.le_of_ble_eq_true rfl) [0] rfl rfl rfl rfl rfl (Nat.le_of_ble_eq_true rfl) d_Ra_place_5

abbrev rmt_Ra_count_r : Room := { frames := 6, cells := 1, slots := 6, locals := 90 }
set_option maxHeartbeats 4000000 in
set_option maxRecDepth 100000 in
theorem t_Ra_count_r (l : Launch) (hstk : l.stackTraces = false) (D : va_G) (tI tJ tZ : ClassId) (rz : Nat) (gr : Nat) (se : Nat) (ly : Nat) (wc : Nat) (cf : Nat) (dr : Nat) (ld : Bool) (wn : Bool) (xf : Bool) (cw : Int64) (x : Int) (hx : iR x) (hr : x < 0 ∨ 3 < x) : tC l y_Ra_count prog_1_method_15_code 2 (some .int) rmt_Ra_count_r D (tysA tI tJ tZ) [.ref rz, .int (iI x)] [(rz, .inr (0, [.ref gr, .ref se, .ref ly, .ref wc, .ref cf, .ref dr, .int (iI (bI (ld = true))), .int (iI (bI (wn = true))), .int (iI (bI (xf = true))), .long cw]))] "java/lang/IllegalArgumentException" := by
  intro sz
  refine t_met (by decide) (Nat.le_of_ble_eq_true rfl) ?_
  intro F p e s m args below meth c Q A hX hT
  replace hX : qOK F p l e rmt_Ra_count_r s m args below meth c Q prog_1_method_15_code 2 "RowAligner" D (tysA tI tJ tZ) _ := hX
  unfold iR at hx
  show F 0 [(0, .ref rz), (1, .int (iI x))] [] [(rz, .inr (0, [.ref gr, .ref se, .ref ly, .ref wc, .ref cf, .ref dr, .int (iI (bI (ld = true))), .int (iI (bI (wn = true))), .int (iI (bI (xf = true))), .long cw]))] 0 0
  refine q_iload_n hX 1 d_Ra_count_0 rfl ?_
  refine q_if_lt hX 9 d_Ra_count_1 (by decide) (by unfold iR; omega) (fun h1 => ?_) (fun h1 => ?_)
  · exact q_throw hX hT hstk tw_Ra_61 (Nat.le_of_ble_eq_true rfl) (Nat.le_of_ble_eq_true rfl) (Nat.le_of_ble_eq_true rfl) (Nat.le_of_ble_eq_true rfl) (Nat.le_of_ble_eq_true rfl) (Nat.le_of_ble_eq_true rfl) (Nat.le_of_ble_eq_true rfl) d_Ra_count_9 d_Ra_count_12 d_Ra_count_13 d_Ra_count_16
  · refine q_iload_n hX 1 d_Ra_count_4 rfl ?_
    refine q_iconstN hX 3 d_Ra_count_5 rfl ?_
    refine q_icmp_le hX 17 d_Ra_count_6 (by decide) (by unfold iR; omega) (by unfold iR; omega) (fun h6 => by exfalso; omega) (fun h6 => ?_)
    exact q_throw hX hT hstk tw_Ra_61 (Nat.le_of_ble_eq_true rfl) (Nat.le_of_ble_eq_true rfl) (Nat.le_of_ble_eq_true rfl) (Nat.le_of_ble_eq_true rfl) (Nat.le_of_ble_eq_true rfl) (Nat.le_of_ble_eq_true rfl) (Nat.le_of_ble_eq_true rfl) d_Ra_count_9 d_Ra_count_12 d_Ra_count_13 d_Ra_count_16

abbrev rmt_Ra_count_n : Room := { frames := 7, cells := 1, slots := 6, locals := 110 }
set_option maxHeartbeats 4000000 in
set_option maxRecDepth 100000 in
theorem t_Ra_count_n (l : Launch) (hstk : l.stackTraces = false) (D : va_G) (tI tJ tZ : ClassId) (rz : Nat) (gr : Nat) (se : Nat) (ly : Nat) (wc : Nat) (cf : Nat) (dr : Nat) (ld : Bool) (wn : Bool) (xf : Bool) (cw : Int64) (x : Nat) (hr : x < 4) (hl : ¬ ld = true) : tC l y_Ra_count prog_1_method_15_code 2 (some .int) rmt_Ra_count_n D (tysA tI tJ tZ) [.ref rz, .int (iI ((x : Nat) : Int))] [(rz, .inr (0, [.ref gr, .ref se, .ref ly, .ref wc, .ref cf, .ref dr, .int (iI (bI (ld = true))), .int (iI (bI (wn = true))), .int (iI (bI (xf = true))), .long cw]))] "java/lang/IllegalStateException" := by
  intro sz
  refine t_met (by decide) (Nat.le_of_ble_eq_true rfl) ?_
  intro F p e s m args below meth c Q A hX hT
  replace hX : qOK F p l e rmt_Ra_count_n s m args below meth c Q prog_1_method_15_code 2 "RowAligner" D (tysA tI tJ tZ) _ := hX
  show F 0 [(0, .ref rz), (1, .int (iI ((x : Nat) : Int)))] [] [(rz, .inr (0, [.ref gr, .ref se, .ref ly, .ref wc, .ref cf, .ref dr, .int (iI (bI (ld = true))), .int (iI (bI (wn = true))), .int (iI (bI (xf = true))), .long cw]))] 0 0
  refine q_iload_n hX 1 d_Ra_count_0 rfl ?_
  refine q_if_lt hX 9 d_Ra_count_1 (by decide) (by unfold iR; omega) (fun h1 => by exfalso; omega) (fun h1 => ?_)
  refine q_iload_n hX 1 d_Ra_count_4 rfl ?_
  refine q_iconstN hX 3 d_Ra_count_5 rfl ?_
  refine q_icmp_le hX 17 d_Ra_count_6 (by decide) (by unfold iR; omega) (by unfold iR; omega) (fun h6 => ?_) (fun h6 => by exfalso; omega)
  refine q_aload_n hX 0 d_Ra_count_17 rfl ?_
  exact q_invV_t (st := []) (As := []) hX hT (t_Ra_refuseUnlaid l hstk D tI tJ tZ rz gr se ly wc cf dr ld wn xf cw hl) "RowAligner" 0 0 cf_Ra rfl yn_Ra_refuseUnlaid ml_Ra_131 im_Ra_refuseUnlaid se_Ra_refuseUnlaid co_Ra_refuseUnlaid in_Ra (Nat.le_of_ble_eq_true rfl) (Nat.le_of_ble_eq_true rfl) (Nat.le_of_ble_eq_true rfl) (Nat.le_of_ble_eq_true rfl) (Nat.le_of_ble_eq_true rfl) (Nat.le_of_ble_eq_true rfl) [0] rfl rfl rfl rfl rfl (Nat.le_of_ble_eq_true rfl) d_Ra_count_18

abbrev rmt_Ra_run_r : Room := { frames := 6, cells := 1, slots := 6, locals := 90 }
set_option maxHeartbeats 4000000 in
set_option maxRecDepth 100000 in
theorem t_Ra_run_r (l : Launch) (hstk : l.stackTraces = false) (D : va_G) (tI tJ tZ : ClassId) (rz : Nat) (gr : Nat) (se : Nat) (ly : Nat) (wc : Nat) (cf : Nat) (dr : Nat) (ld : Bool) (wn : Bool) (xf : Bool) (cw : Int64) (x : Int) (y : Int) (hy : iR y) (hr : y < 0 ∨ 1 < y) : tC l y_Ra_run prog_1_method_16_code 4 (some .int) rmt_Ra_run_r D (tysA tI tJ tZ) [.ref rz, .int (iI x), .int (iI y)] [(rz, .inr (0, [.ref gr, .ref se, .ref ly, .ref wc, .ref cf, .ref dr, .int (iI (bI (ld = true))), .int (iI (bI (wn = true))), .int (iI (bI (xf = true))), .long cw]))] "java/lang/IllegalArgumentException" := by
  intro sz
  refine t_met (by decide) (Nat.le_of_ble_eq_true rfl) ?_
  intro F p e s m args below meth c Q A hX hT
  replace hX : qOK F p l e rmt_Ra_run_r s m args below meth c Q prog_1_method_16_code 4 "RowAligner" D (tysA tI tJ tZ) _ := hX
  unfold iR at hy
  show F 0 [(0, .ref rz), (1, .int (iI x)), (2, .int (iI y))] [] [(rz, .inr (0, [.ref gr, .ref se, .ref ly, .ref wc, .ref cf, .ref dr, .int (iI (bI (ld = true))), .int (iI (bI (wn = true))), .int (iI (bI (xf = true))), .long cw]))] 0 0
  refine q_iload_n hX 2 d_Ra_run_0 rfl ?_
  refine q_if_lt hX 9 d_Ra_run_1 (by decide) (by unfold iR; omega) (fun h1 => ?_) (fun h1 => ?_)
  · exact q_throw hX hT hstk tw_Ra_61 (Nat.le_of_ble_eq_true rfl) (Nat.le_of_ble_eq_true rfl) (Nat.le_of_ble_eq_true rfl) (Nat.le_of_ble_eq_true rfl) (Nat.le_of_ble_eq_true rfl) (Nat.le_of_ble_eq_true rfl) (Nat.le_of_ble_eq_true rfl) d_Ra_run_9 d_Ra_run_12 d_Ra_run_13 d_Ra_run_16
  · refine q_iload_n hX 2 d_Ra_run_4 rfl ?_
    refine q_iconstN hX 1 d_Ra_run_5 rfl ?_
    refine q_icmp_le hX 17 d_Ra_run_6 (by decide) (by unfold iR; omega) (by unfold iR; omega) (fun h6 => by exfalso; omega) (fun h6 => ?_)
    exact q_throw hX hT hstk tw_Ra_61 (Nat.le_of_ble_eq_true rfl) (Nat.le_of_ble_eq_true rfl) (Nat.le_of_ble_eq_true rfl) (Nat.le_of_ble_eq_true rfl) (Nat.le_of_ble_eq_true rfl) (Nat.le_of_ble_eq_true rfl) (Nat.le_of_ble_eq_true rfl) d_Ra_run_9 d_Ra_run_12 d_Ra_run_13 d_Ra_run_16

abbrev rmt_Ra_run_n : Room := { frames := 7, cells := 1, slots := 6, locals := 110 }
set_option maxHeartbeats 4000000 in
set_option maxRecDepth 100000 in
theorem t_Ra_run_n (l : Launch) (hstk : l.stackTraces = false) (D : va_G) (tI tJ tZ : ClassId) (rz : Nat) (gr : Nat) (se : Nat) (ly : Nat) (wc : Nat) (cf : Nat) (dr : Nat) (ld : Bool) (wn : Bool) (xf : Bool) (cw : Int64) (x : Int) (y : Nat) (hr : y < 2) (hl : ¬ ld = true) : tC l y_Ra_run prog_1_method_16_code 4 (some .int) rmt_Ra_run_n D (tysA tI tJ tZ) [.ref rz, .int (iI x), .int (iI ((y : Nat) : Int))] [(rz, .inr (0, [.ref gr, .ref se, .ref ly, .ref wc, .ref cf, .ref dr, .int (iI (bI (ld = true))), .int (iI (bI (wn = true))), .int (iI (bI (xf = true))), .long cw]))] "java/lang/IllegalStateException" := by
  intro sz
  refine t_met (by decide) (Nat.le_of_ble_eq_true rfl) ?_
  intro F p e s m args below meth c Q A hX hT
  replace hX : qOK F p l e rmt_Ra_run_n s m args below meth c Q prog_1_method_16_code 4 "RowAligner" D (tysA tI tJ tZ) _ := hX
  show F 0 [(0, .ref rz), (1, .int (iI x)), (2, .int (iI ((y : Nat) : Int)))] [] [(rz, .inr (0, [.ref gr, .ref se, .ref ly, .ref wc, .ref cf, .ref dr, .int (iI (bI (ld = true))), .int (iI (bI (wn = true))), .int (iI (bI (xf = true))), .long cw]))] 0 0
  refine q_iload_n hX 2 d_Ra_run_0 rfl ?_
  refine q_if_lt hX 9 d_Ra_run_1 (by decide) (by unfold iR; omega) (fun h1 => by exfalso; omega) (fun h1 => ?_)
  refine q_iload_n hX 2 d_Ra_run_4 rfl ?_
  refine q_iconstN hX 1 d_Ra_run_5 rfl ?_
  refine q_icmp_le hX 17 d_Ra_run_6 (by decide) (by unfold iR; omega) (by unfold iR; omega) (fun h6 => ?_) (fun h6 => by exfalso; omega)
  refine q_aload_n hX 0 d_Ra_run_17 rfl ?_
  exact q_invV_t (st := []) (As := []) hX hT (t_Ra_refuseUnlaid l hstk D tI tJ tZ rz gr se ly wc cf dr ld wn xf cw hl) "RowAligner" 0 0 cf_Ra rfl yn_Ra_refuseUnlaid ml_Ra_131 im_Ra_refuseUnlaid se_Ra_refuseUnlaid co_Ra_refuseUnlaid in_Ra (Nat.le_of_ble_eq_true rfl) (Nat.le_of_ble_eq_true rfl) (Nat.le_of_ble_eq_true rfl) (Nat.le_of_ble_eq_true rfl) (Nat.le_of_ble_eq_true rfl) (Nat.le_of_ble_eq_true rfl) [0] rfl rfl rfl rfl rfl (Nat.le_of_ble_eq_true rfl) d_Ra_run_18

abbrev rmt_Ra_run_i : Room := { frames := 6, cells := 1, slots := 6, locals := 90 }
set_option maxHeartbeats 4000000 in
set_option maxRecDepth 100000 in
theorem t_Ra_run_i (l : Launch) (hstk : l.stackTraces = false) (D : va_G) (tI tJ tZ : ClassId) (rz : Nat) (gr : Nat) (se : Nat) (ly : Nat) (wc : Nat) (cf : Nat) (dr : Nat) (ld : Bool) (wn : Bool) (xf : Bool) (cw : Int64) (st9 : Nat) (ln : Nat) (sa : Nat) (sb : Nat) (ea : Nat) (eb : Nat) (d : Nat → Nat) (x : Int) (y : Nat) (hx : iR x) (hr : y < 2) (hl : ld = true) (hs : ln ≤ 192) (hd : ∀ t, d t < 3) (hn : x < 0 ∨ ((ra_cr d ln : Nat) : Int) ≤ x) : tC l y_Ra_run prog_1_method_16_code 4 (some .int) rmt_Ra_run_i D (tysA tI tJ tZ) [.ref rz, .int (iI x), .int (iI ((y : Nat) : Int))] [(rz, .inr (0, [.ref gr, .ref se, .ref ly, .ref wc, .ref cf, .ref dr, .int (iI (bI (ld = true))), .int (iI (bI (wn = true))), .int (iI (bI (xf = true))), .long cw])), (ly, .inr (6, [.ref st9, .int (iI ((ln : Nat) : Int)), .int (iI ((sa : Nat) : Int)), .int (iI ((sb : Nat) : Int)), .int (iI ((ea : Nat) : Int)), .int (iI ((eb : Nat) : Int))])), (st9, .inl (tI, 192, .inl (iA (iN d))))] "java/lang/IndexOutOfBoundsException" := by
  intro sz
  refine t_met (by decide) (Nat.le_of_ble_eq_true rfl) ?_
  intro F p e s m args below meth c Q A hX hT
  replace hX : qOK F p l e rmt_Ra_run_i s m args below meth c Q prog_1_method_16_code 4 "RowAligner" D (tysA tI tJ tZ) _ := hX
  show F 0 [(0, .ref rz), (1, .int (iI x)), (2, .int (iI ((y : Nat) : Int)))] [] [(rz, .inr (0, [.ref gr, .ref se, .ref ly, .ref wc, .ref cf, .ref dr, .int (iI (bI (ld = true))), .int (iI (bI (wn = true))), .int (iI (bI (xf = true))), .long cw])), (ly, .inr (6, [.ref st9, .int (iI ((ln : Nat) : Int)), .int (iI ((sa : Nat) : Int)), .int (iI ((sb : Nat) : Int)), .int (iI ((ea : Nat) : Int)), .int (iI ((eb : Nat) : Int))])), (st9, .inl (tI, 192, .inl (iA (iN d))))] 0 0
  refine q_iload_n hX 2 d_Ra_run_0 rfl ?_
  refine q_if_lt hX 9 d_Ra_run_1 (by decide) (by unfold iR; omega) (fun h1 => by exfalso; omega) (fun h1 => ?_)
  refine q_iload_n hX 2 d_Ra_run_4 rfl ?_
  refine q_iconstN hX 1 d_Ra_run_5 rfl ?_
  refine q_icmp_le hX 17 d_Ra_run_6 (by decide) (by unfold iR; omega) (by unfold iR; omega) (fun h6 => ?_) (fun h6 => by exfalso; omega)
  refine q_aload_n hX 0 d_Ra_run_17 rfl ?_
  refine q_invV_v0 (st := []) (As := []) hX (x_Ra_refuseUnlaid l D tI tJ tZ rz gr se ly wc cf dr ld wn xf cw hl) "RowAligner" 0 0 cf_Ra rfl yn_Ra_refuseUnlaid ml_Ra_131 im_Ra_refuseUnlaid se_Ra_refuseUnlaid co_Ra_refuseUnlaid in_Ra (by decide) (by decide) (by decide) [0] rfl rfl rfl rfl rfl (Nat.le_of_ble_eq_true rfl) d_Ra_run_18 (fun _ _ => ?_)
  refine q_aload_n hX 0 d_Ra_run_21 rfl ?_
  refine q_get hX cf_Ra 0 rfl 2 (by decide) fl_Ra_28 rfl d_Ra_run_22 ?_
  refine q_iload_n hX 1 d_Ra_run_25 rfl ?_
  refine q_invV_i0 (st := []) (As := [.int (iI x)]) hX (x_La_startOfRun l D tI tJ tZ ly st9 ln sa sb ea eb d x hs hd hx) "RowAligner$Laying" 1 6 cf_La rfl yn_La_startOfRun ml_Ra_166 im_La_startOfRun se_La_startOfRun co_La_startOfRun in_La (by decide) (by decide) (by decide) [1, 2] rfl rfl rfl rfl rfl (Nat.le_of_ble_eq_true rfl) d_Ra_run_26 (fun r26 u26 hu26 => ?_)
  obtain ⟨e26, hu26⟩ := hu26
  subst e26
  have e26z : u26 = -1 := by rcases hu26 with z | ⟨k9, z1, z2, z3, z4⟩; exact z.1; exfalso; have z5 := ra_cr_lt z1 z3; omega
  refine q_istore_n hX (lv' := [(3, .int (iI u26)), (0, .ref rz), (1, .int (iI x)), (2, .int (iI ((y : Nat) : Int)))]) d_Ra_run_29 rfl (by decide) rfl ?_
  refine q_iload_n hX 0 d_Ra_run_30 rfl ?_
  refine q_iconst hX d_Ra_run_31 ?_
  refine q_icmp_ne hX 43 d_Ra_run_32 (by decide) (by unfold iR; omega) (by unfold iR; omega) (fun h32 => by exfalso; omega) (fun h32 => ?_)
  exact q_throw hX hT hstk tw_Ra_88 (Nat.le_of_ble_eq_true rfl) (Nat.le_of_ble_eq_true rfl) (Nat.le_of_ble_eq_true rfl) (Nat.le_of_ble_eq_true rfl) (Nat.le_of_ble_eq_true rfl) (Nat.le_of_ble_eq_true rfl) (Nat.le_of_ble_eq_true rfl) d_Ra_run_35 d_Ra_run_38 d_Ra_run_39 d_Ra_run_42

abbrev rmt_Ra_ways_r : Room := { frames := 7, cells := 1, slots := 6, locals := 110 }
set_option maxHeartbeats 4000000 in
set_option maxRecDepth 100000 in
theorem t_Ra_ways_r (l : Launch) (hstk : l.stackTraces = false) (D : va_G) (tI tJ tZ : ClassId) (rz : Nat) (gr : Nat) (se : Nat) (ly : Nat) (wc : Nat) (cf : Nat) (dr : Nat) (ld : Bool) (wn : Bool) (xf : Bool) (cw : Int64) (hl : ¬ ld = true) : tC l y_Ra_ways prog_1_method_17_code 1 (some .long) rmt_Ra_ways_r D (tysA tI tJ tZ) [.ref rz] [(rz, .inr (0, [.ref gr, .ref se, .ref ly, .ref wc, .ref cf, .ref dr, .int (iI (bI (ld = true))), .int (iI (bI (wn = true))), .int (iI (bI (xf = true))), .long cw]))] "java/lang/IllegalStateException" := by
  intro sz
  refine t_met (by decide) (Nat.le_of_ble_eq_true rfl) ?_
  intro F p e s m args below meth c Q A hX hT
  replace hX : qOK F p l e rmt_Ra_ways_r s m args below meth c Q prog_1_method_17_code 1 "RowAligner" D (tysA tI tJ tZ) _ := hX
  show F 0 [(0, .ref rz)] [] [(rz, .inr (0, [.ref gr, .ref se, .ref ly, .ref wc, .ref cf, .ref dr, .int (iI (bI (ld = true))), .int (iI (bI (wn = true))), .int (iI (bI (xf = true))), .long cw]))] 0 0
  refine q_aload_n hX 0 d_Ra_ways_0 rfl ?_
  exact q_invV_t (st := []) (As := []) hX hT (t_Ra_refuseUnlaid l hstk D tI tJ tZ rz gr se ly wc cf dr ld wn xf cw hl) "RowAligner" 0 0 cf_Ra rfl yn_Ra_refuseUnlaid ml_Ra_131 im_Ra_refuseUnlaid se_Ra_refuseUnlaid co_Ra_refuseUnlaid in_Ra (Nat.le_of_ble_eq_true rfl) (Nat.le_of_ble_eq_true rfl) (Nat.le_of_ble_eq_true rfl) (Nat.le_of_ble_eq_true rfl) (Nat.le_of_ble_eq_true rfl) (Nat.le_of_ble_eq_true rfl) [0] rfl rfl rfl rfl rfl (Nat.le_of_ble_eq_true rfl) d_Ra_ways_1

abbrev rmt_Ra_crossing_r : Room := { frames := 7, cells := 1, slots := 6, locals := 110 }
set_option maxHeartbeats 4000000 in
set_option maxRecDepth 100000 in
theorem t_Ra_crossing_r (l : Launch) (hstk : l.stackTraces = false) (D : va_G) (tI tJ tZ : ClassId) (rz : Nat) (gr : Nat) (se : Nat) (ly : Nat) (wc : Nat) (cf : Nat) (dr : Nat) (ld : Bool) (wn : Bool) (xf : Bool) (cw : Int64) (x : Int) (hl : ¬ ld = true) : tC l y_Ra_crossing prog_1_method_18_code 2 (some .int) rmt_Ra_crossing_r D (tysA tI tJ tZ) [.ref rz, .int (iI x)] [(rz, .inr (0, [.ref gr, .ref se, .ref ly, .ref wc, .ref cf, .ref dr, .int (iI (bI (ld = true))), .int (iI (bI (wn = true))), .int (iI (bI (xf = true))), .long cw]))] "java/lang/IllegalStateException" := by
  intro sz
  refine t_met (by decide) (Nat.le_of_ble_eq_true rfl) ?_
  intro F p e s m args below meth c Q A hX hT
  replace hX : qOK F p l e rmt_Ra_crossing_r s m args below meth c Q prog_1_method_18_code 2 "RowAligner" D (tysA tI tJ tZ) _ := hX
  show F 0 [(0, .ref rz), (1, .int (iI x))] [] [(rz, .inr (0, [.ref gr, .ref se, .ref ly, .ref wc, .ref cf, .ref dr, .int (iI (bI (ld = true))), .int (iI (bI (wn = true))), .int (iI (bI (xf = true))), .long cw]))] 0 0
  refine q_aload_n hX 0 d_Ra_crossing_0 rfl ?_
  exact q_invV_t (st := []) (As := []) hX hT (t_Ra_refuseUnlaid l hstk D tI tJ tZ rz gr se ly wc cf dr ld wn xf cw hl) "RowAligner" 0 0 cf_Ra rfl yn_Ra_refuseUnlaid ml_Ra_131 im_Ra_refuseUnlaid se_Ra_refuseUnlaid co_Ra_refuseUnlaid in_Ra (Nat.le_of_ble_eq_true rfl) (Nat.le_of_ble_eq_true rfl) (Nat.le_of_ble_eq_true rfl) (Nat.le_of_ble_eq_true rfl) (Nat.le_of_ble_eq_true rfl) (Nat.le_of_ble_eq_true rfl) [0] rfl rfl rfl rfl rfl (Nat.le_of_ble_eq_true rfl) d_Ra_crossing_1

abbrev rmt_Ra_crossing_i : Room := { frames := 6, cells := 1, slots := 6, locals := 90 }
set_option maxHeartbeats 4000000 in
set_option maxRecDepth 100000 in
theorem t_Ra_crossing_i (l : Launch) (hstk : l.stackTraces = false) (D : va_G) (tI tJ tZ : ClassId) (rz : Nat) (gr : Nat) (se : Nat) (ly : Nat) (wc : Nat) (cf : Nat) (dr : Nat) (ld : Bool) (wn : Bool) (xf : Bool) (cw : Int64) (ra : Nat) (rb : Nat) (pr : Nat) (qa : Nat) (la : Nat) (x : Int) (hl : ld = true) (hx : iR x) (hla : la ≤ 96) (hn : x < 0 ∨ ((la : Nat) : Int) < x) : tC l y_Ra_crossing prog_1_method_18_code 2 (some .int) rmt_Ra_crossing_i D (tysA tI tJ tZ) [.ref rz, .int (iI x)] [(rz, .inr (0, [.ref gr, .ref se, .ref ly, .ref wc, .ref cf, .ref dr, .int (iI (bI (ld = true))), .int (iI (bI (wn = true))), .int (iI (bI (xf = true))), .long cw])), (gr, .inr (1, [.ref ra, .ref rb, .ref pr])), (ra, .inr (2, [.ref qa, .int (iI ((la : Nat) : Int))]))] "java/lang/IndexOutOfBoundsException" := by
  intro sz
  refine t_met (by decide) (Nat.le_of_ble_eq_true rfl) ?_
  intro F p e s m args below meth c Q A hX hT
  replace hX : qOK F p l e rmt_Ra_crossing_i s m args below meth c Q prog_1_method_18_code 2 "RowAligner" D (tysA tI tJ tZ) _ := hX
  unfold iR at hx
  show F 0 [(0, .ref rz), (1, .int (iI x))] [] [(rz, .inr (0, [.ref gr, .ref se, .ref ly, .ref wc, .ref cf, .ref dr, .int (iI (bI (ld = true))), .int (iI (bI (wn = true))), .int (iI (bI (xf = true))), .long cw])), (gr, .inr (1, [.ref ra, .ref rb, .ref pr])), (ra, .inr (2, [.ref qa, .int (iI ((la : Nat) : Int))]))] 0 0
  refine q_aload_n hX 0 d_Ra_crossing_0 rfl ?_
  refine q_invV_v0 (st := []) (As := []) hX (x_Ra_refuseUnlaid l D tI tJ tZ rz gr se ly wc cf dr ld wn xf cw hl) "RowAligner" 0 0 cf_Ra rfl yn_Ra_refuseUnlaid ml_Ra_131 im_Ra_refuseUnlaid se_Ra_refuseUnlaid co_Ra_refuseUnlaid in_Ra (by decide) (by decide) (by decide) [0] rfl rfl rfl rfl rfl (Nat.le_of_ble_eq_true rfl) d_Ra_crossing_1 (fun _ _ => ?_)
  refine q_iload_n hX 1 d_Ra_crossing_4 rfl ?_
  refine q_if_lt hX 22 d_Ra_crossing_5 (by decide) (by unfold iR; omega) (fun h5 => ?_) (fun h5 => ?_)
  · exact q_throw hX hT hstk tw_Ra_88 (Nat.le_of_ble_eq_true rfl) (Nat.le_of_ble_eq_true rfl) (Nat.le_of_ble_eq_true rfl) (Nat.le_of_ble_eq_true rfl) (Nat.le_of_ble_eq_true rfl) (Nat.le_of_ble_eq_true rfl) (Nat.le_of_ble_eq_true rfl) d_Ra_crossing_22 d_Ra_crossing_25 d_Ra_crossing_26 d_Ra_crossing_29
  · refine q_iload_n hX 1 d_Ra_crossing_8 rfl ?_
    refine q_aload_n hX 0 d_Ra_crossing_9 rfl ?_
    refine q_get hX cf_Ra 0 rfl 0 (by decide) fl_Ra_12 rfl d_Ra_crossing_10 ?_
    refine q_get hX cf_Gr 1 rfl 0 (by decide) fl_Ra_184 rfl d_Ra_crossing_13 ?_
    refine q_get hX cf_Ro 2 rfl 1 (by decide) fl_Ra_64 rfl d_Ra_crossing_16 ?_
    refine q_icmp_le hX 30 d_Ra_crossing_19 (by decide) (by unfold iR; omega) (by unfold iR; omega) (fun h19 => by exfalso; omega) (fun h19 => ?_)
    exact q_throw hX hT hstk tw_Ra_88 (Nat.le_of_ble_eq_true rfl) (Nat.le_of_ble_eq_true rfl) (Nat.le_of_ble_eq_true rfl) (Nat.le_of_ble_eq_true rfl) (Nat.le_of_ble_eq_true rfl) (Nat.le_of_ble_eq_true rfl) (Nat.le_of_ble_eq_true rfl) d_Ra_crossing_22 d_Ra_crossing_25 d_Ra_crossing_26 d_Ra_crossing_29

abbrev rmt_Ra_draw_r : Room := { frames := 6, cells := 1, slots := 6, locals := 90 }
set_option maxHeartbeats 4000000 in
set_option maxRecDepth 100000 in
theorem t_Ra_draw_r (l : Launch) (hstk : l.stackTraces = false) (D : va_G) (tI tJ tZ : ClassId) (rz : Nat) (gr : Nat) (se : Nat) (ly : Nat) (wc : Nat) (cf : Nat) (dr : Nat) (ld : Bool) (wn : Bool) (xf : Bool) (cw : Int64) (x : Int) (hx : iR x) (hr : x < 0 ∨ 3 ≤ x) : tC l y_Ra_draw prog_1_method_19_code 2 (some .int) rmt_Ra_draw_r D (tysA tI tJ tZ) [.ref rz, .int (iI x)] [(rz, .inr (0, [.ref gr, .ref se, .ref ly, .ref wc, .ref cf, .ref dr, .int (iI (bI (ld = true))), .int (iI (bI (wn = true))), .int (iI (bI (xf = true))), .long cw]))] "java/lang/IllegalArgumentException" := by
  intro sz
  refine t_met (by decide) (Nat.le_of_ble_eq_true rfl) ?_
  intro F p e s m args below meth c Q A hX hT
  replace hX : qOK F p l e rmt_Ra_draw_r s m args below meth c Q prog_1_method_19_code 2 "RowAligner" D (tysA tI tJ tZ) _ := hX
  unfold iR at hx
  show F 0 [(0, .ref rz), (1, .int (iI x))] [] [(rz, .inr (0, [.ref gr, .ref se, .ref ly, .ref wc, .ref cf, .ref dr, .int (iI (bI (ld = true))), .int (iI (bI (wn = true))), .int (iI (bI (xf = true))), .long cw]))] 0 0
  refine q_iload_n hX 1 d_Ra_draw_0 rfl ?_
  refine q_if_lt hX 9 d_Ra_draw_1 (by decide) (by unfold iR; omega) (fun h1 => ?_) (fun h1 => ?_)
  · exact q_throw hX hT hstk tw_Ra_61 (Nat.le_of_ble_eq_true rfl) (Nat.le_of_ble_eq_true rfl) (Nat.le_of_ble_eq_true rfl) (Nat.le_of_ble_eq_true rfl) (Nat.le_of_ble_eq_true rfl) (Nat.le_of_ble_eq_true rfl) (Nat.le_of_ble_eq_true rfl) d_Ra_draw_9 d_Ra_draw_12 d_Ra_draw_13 d_Ra_draw_16
  · refine q_iload_n hX 1 d_Ra_draw_4 rfl ?_
    refine q_iconstN hX 3 d_Ra_draw_5 rfl ?_
    refine q_icmp_lt hX 17 d_Ra_draw_6 (by decide) (by unfold iR; omega) (by unfold iR; omega) (fun h6 => by exfalso; omega) (fun h6 => ?_)
    exact q_throw hX hT hstk tw_Ra_61 (Nat.le_of_ble_eq_true rfl) (Nat.le_of_ble_eq_true rfl) (Nat.le_of_ble_eq_true rfl) (Nat.le_of_ble_eq_true rfl) (Nat.le_of_ble_eq_true rfl) (Nat.le_of_ble_eq_true rfl) (Nat.le_of_ble_eq_true rfl) d_Ra_draw_9 d_Ra_draw_12 d_Ra_draw_13 d_Ra_draw_16

abbrev rmt_Ra_draw_n : Room := { frames := 6, cells := 1, slots := 6, locals := 90 }
set_option maxHeartbeats 4000000 in
set_option maxRecDepth 100000 in
theorem t_Ra_draw_n (l : Launch) (hstk : l.stackTraces = false) (D : va_G) (tI tJ tZ : ClassId) (rz : Nat) (gr : Nat) (se : Nat) (ly : Nat) (wc : Nat) (cf : Nat) (dr : Nat) (ld : Bool) (wn : Bool) (xf : Bool) (cw : Int64) (da : Nat) (dn : Nat) (d : Nat → Nat) (x : Nat) (hx : x < 3) (hn : 200 ≤ dn) (hn2 : dn ≤ 200) : tC l y_Ra_draw prog_1_method_19_code 2 (some .int) rmt_Ra_draw_n D (tysA tI tJ tZ) [.ref rz, .int (iI ((x : Nat) : Int))] [(rz, .inr (0, [.ref gr, .ref se, .ref ly, .ref wc, .ref cf, .ref dr, .int (iI (bI (ld = true))), .int (iI (bI (wn = true))), .int (iI (bI (xf = true))), .long cw])), (dr, .inr (9, [.ref da, .int (iI ((dn : Nat) : Int))])), (da, .inl (tI, 200, .inl (iA (iN d))))] "java/lang/IllegalStateException" := by
  intro sz
  refine t_met (by decide) (Nat.le_of_ble_eq_true rfl) ?_
  intro F p e s m args below meth c Q A hX hT
  replace hX : qOK F p l e rmt_Ra_draw_n s m args below meth c Q prog_1_method_19_code 2 "RowAligner" D (tysA tI tJ tZ) _ := hX
  show F 0 [(0, .ref rz), (1, .int (iI ((x : Nat) : Int)))] [] [(rz, .inr (0, [.ref gr, .ref se, .ref ly, .ref wc, .ref cf, .ref dr, .int (iI (bI (ld = true))), .int (iI (bI (wn = true))), .int (iI (bI (xf = true))), .long cw])), (dr, .inr (9, [.ref da, .int (iI ((dn : Nat) : Int))])), (da, .inl (tI, 200, .inl (iA (iN d))))] 0 0
  refine q_iload_n hX 1 d_Ra_draw_0 rfl ?_
  refine q_if_lt hX 9 d_Ra_draw_1 (by decide) (by unfold iR; omega) (fun h1 => by exfalso; omega) (fun h1 => ?_)
  refine q_iload_n hX 1 d_Ra_draw_4 rfl ?_
  refine q_iconstN hX 3 d_Ra_draw_5 rfl ?_
  refine q_icmp_lt hX 17 d_Ra_draw_6 (by decide) (by unfold iR; omega) (by unfold iR; omega) (fun h6 => ?_) (fun h6 => by exfalso; omega)
  refine q_aload_n hX 0 d_Ra_draw_17 rfl ?_
  refine q_get hX cf_Ra 0 rfl 5 (by decide) fl_Ra_49 rfl d_Ra_draw_18 ?_
  refine q_get hX cf_Dr 1 rfl 1 (by decide) fl_Ra_201 rfl d_Ra_draw_21 ?_
  refine q_sipushN hX 200 d_Ra_draw_24 rfl (by decide) ?_
  refine q_icmp_lt hX 38 d_Ra_draw_27 (by decide) (by unfold iR; omega) (by unfold iR; omega) (fun h27 => by exfalso; omega) (fun h27 => ?_)
  exact q_throw hX hT hstk tw_Ra_70 (Nat.le_of_ble_eq_true rfl) (Nat.le_of_ble_eq_true rfl) (Nat.le_of_ble_eq_true rfl) (Nat.le_of_ble_eq_true rfl) (Nat.le_of_ble_eq_true rfl) (Nat.le_of_ble_eq_true rfl) (Nat.le_of_ble_eq_true rfl) d_Ra_draw_30 d_Ra_draw_33 d_Ra_draw_34 d_Ra_draw_37
