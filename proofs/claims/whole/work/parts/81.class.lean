abbrev rm_Ra_refuseOtherRows : Room := { frames := 0, cells := 0, slots := 0, locals := 0 }
set_option maxHeartbeats 4000000 in
set_option maxRecDepth 100000 in
theorem c_Ra_refuseOtherRows (l : Launch) (D : va_G) (tI tJ tZ : ClassId) (x : Nat) (hx : x ≤ 1) : rCv l y_Ra_refuseOtherRows prog_1_method_24_code 1 rm_Ra_refuseOtherRows D (tysA tI tJ tZ) [.int (iI ((x : Nat) : Int))] [] (fun (_ : Unit) => True) (fun (_ : Unit) => []) := by
  intro sz
  refine r_met (by decide) (Nat.le_of_ble_eq_true rfl) ?_
  intro F p e s m args below meth c Q A hX hT hAe hsz hin
  subst hAe
  replace hX : rOK F p l e rm_Ra_refuseOtherRows s m args below meth c Q prog_1_method_24_code 1 "RowAligner" D (tysA tI tJ tZ) _ := hX
  show F 0 [(0, .int (iI ((x : Nat) : Int)))] [] [] 0 0
  refine r_iload_n hX 0 d_Ra_refuseOtherRows_0 rfl ?_
  refine r_if_eq hX 17 d_Ra_refuseOtherRows_1 (by decide) (by unfold iR; omega) (fun h1 => ?_) (fun h1 => ?_)
  · exact r_vret hX hT () trivial rfl (by decide) (by decide) d_Ra_refuseOtherRows_17
  · refine r_iload_n hX 0 d_Ra_refuseOtherRows_4 rfl ?_
    refine r_iconstN hX 1 d_Ra_refuseOtherRows_5 rfl ?_
    refine r_icmp_eq hX 17 d_Ra_refuseOtherRows_6 (by decide) (by unfold iR; omega) (by unfold iR; omega) (fun h6 => ?_) (fun h6 => by exfalso; omega)
    exact r_vret hX hT () trivial rfl (by decide) (by decide) d_Ra_refuseOtherRows_17

abbrev rm_Ra_refusePriceBelow : Room := { frames := 0, cells := 0, slots := 0, locals := 0 }
set_option maxHeartbeats 4000000 in
set_option maxRecDepth 100000 in
theorem c_Ra_refusePriceBelow (l : Launch) (D : va_G) (tI tJ tZ : ClassId) (lo : Int) (v : Int) (hlo : iR lo) (hv : lo ≤ v ∧ v ≤ 512) : rCv l y_Ra_refusePriceBelow prog_1_method_25_code 2 rm_Ra_refusePriceBelow D (tysA tI tJ tZ) [.int (iI lo), .int (iI v)] [] (fun (_ : Unit) => True) (fun (_ : Unit) => []) := by
  intro sz
  refine r_met (by decide) (Nat.le_of_ble_eq_true rfl) ?_
  intro F p e s m args below meth c Q A hX hT hAe hsz hin
  subst hAe
  replace hX : rOK F p l e rm_Ra_refusePriceBelow s m args below meth c Q prog_1_method_25_code 2 "RowAligner" D (tysA tI tJ tZ) _ := hX
  unfold iR at hlo
  show F 0 [(0, .int (iI lo)), (1, .int (iI v))] [] [] 0 0
  refine r_iload_n hX 1 d_Ra_refusePriceBelow_0 rfl ?_
  refine r_iload_n hX 0 d_Ra_refusePriceBelow_1 rfl ?_
  refine r_icmp_lt hX 12 d_Ra_refusePriceBelow_2 (by decide) (by unfold iR; omega) (by unfold iR; omega) (fun h2 => by exfalso; omega) (fun h2 => ?_)
  refine r_iload_n hX 1 d_Ra_refusePriceBelow_5 rfl ?_
  refine r_sipushN hX 512 d_Ra_refusePriceBelow_6 rfl (by decide) ?_
  refine r_icmp_le hX 20 d_Ra_refusePriceBelow_9 (by decide) (by unfold iR; omega) (by unfold iR; omega) (fun h9 => ?_) (fun h9 => by exfalso; omega)
  exact r_vret hX hT () trivial rfl (by decide) (by decide) d_Ra_refusePriceBelow_20

abbrev rm_Ra_refuseOtherEnds : Room := { frames := 0, cells := 0, slots := 0, locals := 0 }
set_option maxHeartbeats 4000000 in
set_option maxRecDepth 100000 in
theorem c_Ra_refuseOtherEnds (l : Launch) (D : va_G) (tI tJ tZ : ClassId) (x : Nat) (hx : x < 16) : rCv l y_Ra_refuseOtherEnds prog_1_method_26_code 1 rm_Ra_refuseOtherEnds D (tysA tI tJ tZ) [.int (iI ((x : Nat) : Int))] [] (fun (_ : Unit) => True) (fun (_ : Unit) => []) := by
  intro sz
  refine r_met (by decide) (Nat.le_of_ble_eq_true rfl) ?_
  intro F p e s m args below meth c Q A hX hT hAe hsz hin
  subst hAe
  replace hX : rOK F p l e rm_Ra_refuseOtherEnds s m args below meth c Q prog_1_method_26_code 1 "RowAligner" D (tysA tI tJ tZ) _ := hX
  show F 0 [(0, .int (iI ((x : Nat) : Int)))] [] [] 0 0
  refine r_iload_n hX 0 d_Ra_refuseOtherEnds_0 rfl ?_
  refine r_if_lt hX 10 d_Ra_refuseOtherEnds_1 (by decide) (by unfold iR; omega) (fun h1 => by exfalso; omega) (fun h1 => ?_)
  refine r_iload_n hX 0 d_Ra_refuseOtherEnds_4 rfl ?_
  refine r_bipushN hX 15 d_Ra_refuseOtherEnds_5 rfl (by decide) ?_
  refine r_icmp_le hX 18 d_Ra_refuseOtherEnds_7 (by decide) (by unfold iR; omega) (by unfold iR; omega) (fun h7 => ?_) (fun h7 => by exfalso; omega)
  exact r_vret hX hT () trivial rfl (by decide) (by decide) d_Ra_refuseOtherEnds_18

abbrev rm_Ra_refuseUnlaid : Room := { frames := 0, cells := 0, slots := 0, locals := 0 }
set_option maxHeartbeats 4000000 in
set_option maxRecDepth 100000 in
theorem c_Ra_refuseUnlaid (l : Launch) (D : va_G) (tI tJ tZ : ClassId) (rz : Nat) (gr : Nat) (se : Nat) (ly : Nat) (wc : Nat) (cf : Nat) (dr : Nat) (ld : Bool) (wn : Bool) (xf : Bool) (cw : Int64) (hl : ld = true) : rCv l y_Ra_refuseUnlaid prog_1_method_27_code 1 rm_Ra_refuseUnlaid D (tysA tI tJ tZ) [.ref rz] [(rz, .inr (0, [.ref gr, .ref se, .ref ly, .ref wc, .ref cf, .ref dr, .int (iI (bI (ld = true))), .int (iI (bI (wn = true))), .int (iI (bI (xf = true))), .long cw]))] (fun (_ : Unit) => True) (fun (_ : Unit) => [(rz, .inr (0, [.ref gr, .ref se, .ref ly, .ref wc, .ref cf, .ref dr, .int (iI (bI (ld = true))), .int (iI (bI (wn = true))), .int (iI (bI (xf = true))), .long cw]))]) := by
  intro sz
  refine r_met (by decide) (Nat.le_of_ble_eq_true rfl) ?_
  intro F p e s m args below meth c Q A hX hT hAe hsz hin
  subst hAe
  replace hX : rOK F p l e rm_Ra_refuseUnlaid s m args below meth c Q prog_1_method_27_code 1 "RowAligner" D (tysA tI tJ tZ) _ := hX
  show F 0 [(0, .ref rz)] [] [(rz, .inr (0, [.ref gr, .ref se, .ref ly, .ref wc, .ref cf, .ref dr, .int (iI (bI (ld = true))), .int (iI (bI (wn = true))), .int (iI (bI (xf = true))), .long cw]))] 0 0
  refine r_aload_n hX 0 d_Ra_refuseUnlaid_0 rfl ?_
  refine r_get hX cf_Ra 0 rfl 6 (by decide) fl_Ra_81 rfl d_Ra_refuseUnlaid_1 ?_
  refine rb_if_ne hX 15 d_Ra_refuseUnlaid_4 (by decide) (fun h4 => ?_) (fun h4 => by exfalso; exact h4 hl)
  exact r_vret hX hT () trivial rfl (by decide) (by decide) d_Ra_refuseUnlaid_15

abbrev rm_Ra_score : Room := { frames := 1, cells := 0, slots := 0, locals := 23 }
set_option maxHeartbeats 4000000 in
set_option maxRecDepth 100000 in
theorem c_Ra_score (l : Launch) (D : va_G) (tI tJ tZ : ClassId) (rz : Nat) (gr : Nat) (se : Nat) (ly : Nat) (wc : Nat) (cf : Nat) (dr : Nat) (ld : Bool) (wn : Bool) (xf : Bool) (cw : Int64) (ra : Nat) (rb : Nat) (pr : Nat) (pa : Nat) (op : Int) (mo : Int) (SC : Nat → Int) (x : Nat) (y : Nat) (v : Int) (hx : x < 26) (hy : y < 26) (hv : -512 ≤ v ∧ v ≤ 512) : rCv l y_Ra_score prog_1_method_7_code 4 rm_Ra_score D (tysA tI tJ tZ) [.ref rz, .int (iI ((x : Nat) : Int)), .int (iI ((y : Nat) : Int)), .int (iI v)] [(rz, .inr (0, [.ref gr, .ref se, .ref ly, .ref wc, .ref cf, .ref dr, .int (iI (bI (ld = true))), .int (iI (bI (wn = true))), .int (iI (bI (xf = true))), .long cw])), (gr, .inr (1, [.ref ra, .ref rb, .ref pr])), (pr, .inr (3, [.ref pa, .int (iI op), .int (iI mo)])), (pa, .inl (tI, 676, .inl (iA SC)))] (fun (_ : Unit) => True) (fun (_ : Unit) => [(rz, .inr (0, [.ref gr, .ref se, .ref ly, .ref wc, .ref cf, .ref dr, .int (iI (bI (false = true))), .int (iI (bI (wn = true))), .int (iI (bI (xf = true))), .long cw])), (gr, .inr (1, [.ref ra, .ref rb, .ref pr])), (pr, .inr (3, [.ref pa, .int (iI op), .int (iI mo)])), (pa, .inl (tI, 676, .inl (iA (iU SC (x * 26 + y) v))))]) := by
  intro sz
  refine r_met (by decide) (Nat.le_of_ble_eq_true rfl) ?_
  intro F p e s m args below meth c Q A hX hT hAe hsz hin
  subst hAe
  replace hX : rOK F p l e rm_Ra_score s m args below meth c Q prog_1_method_7_code 4 "RowAligner" D (tysA tI tJ tZ) _ := hX
  show F 0 [(0, .ref rz), (1, .int (iI ((x : Nat) : Int))), (2, .int (iI ((y : Nat) : Int))), (3, .int (iI v))] [] [(rz, .inr (0, [.ref gr, .ref se, .ref ly, .ref wc, .ref cf, .ref dr, .int (iI (bI (ld = true))), .int (iI (bI (wn = true))), .int (iI (bI (xf = true))), .long cw])), (gr, .inr (1, [.ref ra, .ref rb, .ref pr])), (pr, .inr (3, [.ref pa, .int (iI op), .int (iI mo)])), (pa, .inl (tI, 676, .inl (iA SC)))] 0 0
  refine r_iload_n hX 1 d_Ra_score_0 rfl ?_
  refine r_if_lt hX 20 d_Ra_score_1 (by decide) (by unfold iR; omega) (fun h1 => by exfalso; omega) (fun h1 => ?_)
  refine r_iload_n hX 1 d_Ra_score_4 rfl ?_
  refine r_bipushN hX 26 d_Ra_score_5 rfl (by decide) ?_
  refine r_icmp_ge hX 20 d_Ra_score_7 (by decide) (by unfold iR; omega) (by unfold iR; omega) (fun h7 => by exfalso; omega) (fun h7 => ?_)
  refine r_iload_n hX 2 d_Ra_score_10 rfl ?_
  refine r_if_lt hX 20 d_Ra_score_11 (by decide) (by unfold iR; omega) (fun h11 => by exfalso; omega) (fun h11 => ?_)
  refine r_iload_n hX 2 d_Ra_score_14 rfl ?_
  refine r_bipushN hX 26 d_Ra_score_15 rfl (by decide) ?_
  refine r_icmp_lt hX 28 d_Ra_score_17 (by decide) (by unfold iR; omega) (by unfold iR; omega) (fun h17 => ?_) (fun h17 => by exfalso; omega)
  refine r_sipush hX d_Ra_score_28 (by decide) ?_
  refine r_iload_n hX 3 d_Ra_score_31 rfl ?_
  refine r_invS_v0 (st := []) (As := [.int (iI (-512)), .int (iI v)]) (wr := [(rz, .inr (0, [.ref gr, .ref se, .ref ly, .ref wc, .ref cf, .ref dr, .int (iI (bI (ld = true))), .int (iI (bI (wn = true))), .int (iI (bI (xf = true))), .long cw])), (gr, .inr (1, [.ref ra, .ref rb, .ref pr])), (pr, .inr (3, [.ref pa, .int (iI op), .int (iI mo)])), (pa, .inl (tI, 676, .inl (iA SC)))]) hX (c_Ra_refusePriceBelow l D tI tJ tZ (-512) v (by unfold iR; omega) hv) yn_Ra_refusePriceBelow ml_Ra_95 st_Ra_refusePriceBelow co_Ra_refusePriceBelow in_Ra (by decide) (by decide) (by decide) [] [0, 1, 2, 3] rfl rfl rfl rfl rfl (by decide) rfl rfl (Nat.le_of_ble_eq_true rfl) d_Ra_score_32 [0, 1, 2, 3] rfl (w2 := fun _ => [(rz, .inr (0, [.ref gr, .ref se, .ref ly, .ref wc, .ref cf, .ref dr, .int (iI (bI (ld = true))), .int (iI (bI (wn = true))), .int (iI (bI (xf = true))), .long cw])), (gr, .inr (1, [.ref ra, .ref rb, .ref pr])), (pr, .inr (3, [.ref pa, .int (iI op), .int (iI mo)])), (pa, .inl (tI, 676, .inl (iA SC)))]) (fun _ => rfl) (fun _ _ => ?_)
  refine r_aload_n hX 0 d_Ra_score_35 rfl ?_
  refine r_get hX cf_Ra 0 rfl 0 (by decide) fl_Ra_12 rfl d_Ra_score_36 ?_
  refine r_get hX cf_Gr 1 rfl 2 (by decide) fl_Ra_99 rfl d_Ra_score_39 ?_
  refine r_iload_n hX 1 d_Ra_score_42 rfl ?_
  refine r_iload_n hX 2 d_Ra_score_43 rfl ?_
  refine r_iload_n hX 3 d_Ra_score_44 rfl ?_
  refine r_invV_v0 (st := []) (As := [.int (iI ((x : Nat) : Int)), .int (iI ((y : Nat) : Int)), .int (iI v)]) (wr := [(rz, .inr (0, [.ref gr, .ref se, .ref ly, .ref wc, .ref cf, .ref dr, .int (iI (bI (ld = true))), .int (iI (bI (wn = true))), .int (iI (bI (xf = true))), .long cw])), (gr, .inr (1, [.ref ra, .ref rb, .ref pr]))]) hX (c_Pr_setPair l D tI tJ tZ pr pa SC op mo x y v hx hy) "RowAligner$Prices" 2 3 cf_Pr rfl yn_Pr_setPair ml_Ra_103 im_Pr_setPair se_Pr_setPair co_Pr_setPair in_Pr (by decide) (by decide) (by decide) [2, 3] [0, 1] rfl rfl rfl rfl rfl (by decide) rfl rfl (Nat.le_of_ble_eq_true rfl) d_Ra_score_45 [0, 1, 2, 3] rfl (w2 := fun _ => [(rz, .inr (0, [.ref gr, .ref se, .ref ly, .ref wc, .ref cf, .ref dr, .int (iI (bI (ld = true))), .int (iI (bI (wn = true))), .int (iI (bI (xf = true))), .long cw])), (gr, .inr (1, [.ref ra, .ref rb, .ref pr])), (pr, .inr (3, [.ref pa, .int (iI op), .int (iI mo)])), (pa, .inl (tI, 676, .inl (iA (iU SC (x * 26 + y) v))))]) (fun _ => rfl) (fun _ _ => ?_)
  refine r_aload_n hX 0 d_Ra_score_48 rfl ?_
  refine r_iconstN hX 0 d_Ra_score_49 rfl ?_
  refine r_put hX (ws' := [(rz, .inr (0, [.ref gr, .ref se, .ref ly, .ref wc, .ref cf, .ref dr, .int (iI ((0 : Nat) : Int)), .int (iI (bI (wn = true))), .int (iI (bI (xf = true))), .long cw])), (gr, .inr (1, [.ref ra, .ref rb, .ref pr])), (pr, .inr (3, [.ref pa, .int (iI op), .int (iI mo)])), (pa, .inl (tI, 676, .inl (iA (iU SC (x * 26 + y) v))))]) cf_Ra 0 rfl 6 (by decide) fl_Ra_81 rfl (by decide +kernel) (by decide +kernel) (Nat.le_of_ble_eq_true rfl) rfl d_Ra_score_50 ?_
  exact r_vret hX hT () trivial rfl (by decide) (by decide) d_Ra_score_53

abbrev rm_Ra_scores : Room := { frames := 2, cells := 0, slots := 0, locals := 47 }
set_option maxHeartbeats 4000000 in
set_option maxRecDepth 100000 in
theorem c_Ra_scores (l : Launch) (D : va_G) (tI tJ tZ : ClassId) (rz : Nat) (gr : Nat) (se : Nat) (ly : Nat) (wc : Nat) (cf : Nat) (dr : Nat) (ld : Bool) (wn : Bool) (xf : Bool) (cw : Int64) (ra : Nat) (rb : Nat) (pr : Nat) (pa : Nat) (op : Int) (mo : Int) (SC : Nat → Int) (x : Int) (y : Int) (hx : -512 ≤ x ∧ x ≤ 512) (hy : -512 ≤ y ∧ y ≤ 512) : rCv l y_Ra_scores prog_1_method_8_code 3 rm_Ra_scores D (tysA tI tJ tZ) [.ref rz, .int (iI x), .int (iI y)] [(rz, .inr (0, [.ref gr, .ref se, .ref ly, .ref wc, .ref cf, .ref dr, .int (iI (bI (ld = true))), .int (iI (bI (wn = true))), .int (iI (bI (xf = true))), .long cw])), (gr, .inr (1, [.ref ra, .ref rb, .ref pr])), (pr, .inr (3, [.ref pa, .int (iI op), .int (iI mo)])), (pa, .inl (tI, 676, .inl (iA SC)))] (fun (_ : Unit) => True) (fun (_ : Unit) => [(rz, .inr (0, [.ref gr, .ref se, .ref ly, .ref wc, .ref cf, .ref dr, .int (iI (bI (false = true))), .int (iI (bI (wn = true))), .int (iI (bI (xf = true))), .long cw])), (gr, .inr (1, [.ref ra, .ref rb, .ref pr])), (pr, .inr (3, [.ref pa, .int (iI op), .int (iI mo)])), (pa, .inl (tI, 676, .inl (iA (ra_sq SC x y 676))))]) := by
  intro sz
  refine r_met (by decide) (Nat.le_of_ble_eq_true rfl) ?_
  intro F p e s m args below meth c Q A hX hT hAe hsz hin
  subst hAe
  replace hX : rOK F p l e rm_Ra_scores s m args below meth c Q prog_1_method_8_code 3 "RowAligner" D (tysA tI tJ tZ) _ := hX
  show F 0 [(0, .ref rz), (1, .int (iI x)), (2, .int (iI y))] [] [(rz, .inr (0, [.ref gr, .ref se, .ref ly, .ref wc, .ref cf, .ref dr, .int (iI (bI (ld = true))), .int (iI (bI (wn = true))), .int (iI (bI (xf = true))), .long cw])), (gr, .inr (1, [.ref ra, .ref rb, .ref pr])), (pr, .inr (3, [.ref pa, .int (iI op), .int (iI mo)])), (pa, .inl (tI, 676, .inl (iA SC)))] 0 0
  refine r_sipush hX d_Ra_scores_0 (by decide) ?_
  refine r_iload_n hX 1 d_Ra_scores_3 rfl ?_
  refine r_invS_v0 (st := []) (As := [.int (iI (-512)), .int (iI x)]) (wr := [(rz, .inr (0, [.ref gr, .ref se, .ref ly, .ref wc, .ref cf, .ref dr, .int (iI (bI (ld = true))), .int (iI (bI (wn = true))), .int (iI (bI (xf = true))), .long cw])), (gr, .inr (1, [.ref ra, .ref rb, .ref pr])), (pr, .inr (3, [.ref pa, .int (iI op), .int (iI mo)])), (pa, .inl (tI, 676, .inl (iA SC)))]) hX (c_Ra_refusePriceBelow l D tI tJ tZ (-512) x (by unfold iR; omega) hx) yn_Ra_refusePriceBelow ml_Ra_95 st_Ra_refusePriceBelow co_Ra_refusePriceBelow in_Ra (by decide) (by decide) (by decide) [] [0, 1, 2, 3] rfl rfl rfl rfl rfl (by decide) rfl rfl (Nat.le_of_ble_eq_true rfl) d_Ra_scores_4 [0, 1, 2, 3] rfl (w2 := fun _ => [(rz, .inr (0, [.ref gr, .ref se, .ref ly, .ref wc, .ref cf, .ref dr, .int (iI (bI (ld = true))), .int (iI (bI (wn = true))), .int (iI (bI (xf = true))), .long cw])), (gr, .inr (1, [.ref ra, .ref rb, .ref pr])), (pr, .inr (3, [.ref pa, .int (iI op), .int (iI mo)])), (pa, .inl (tI, 676, .inl (iA SC)))]) (fun _ => rfl) (fun _ _ => ?_)
  refine r_sipush hX d_Ra_scores_7 (by decide) ?_
  refine r_iload_n hX 2 d_Ra_scores_10 rfl ?_
  refine r_invS_v0 (st := []) (As := [.int (iI (-512)), .int (iI y)]) (wr := [(rz, .inr (0, [.ref gr, .ref se, .ref ly, .ref wc, .ref cf, .ref dr, .int (iI (bI (ld = true))), .int (iI (bI (wn = true))), .int (iI (bI (xf = true))), .long cw])), (gr, .inr (1, [.ref ra, .ref rb, .ref pr])), (pr, .inr (3, [.ref pa, .int (iI op), .int (iI mo)])), (pa, .inl (tI, 676, .inl (iA SC)))]) hX (c_Ra_refusePriceBelow l D tI tJ tZ (-512) y (by unfold iR; omega) hy) yn_Ra_refusePriceBelow ml_Ra_95 st_Ra_refusePriceBelow co_Ra_refusePriceBelow in_Ra (by decide) (by decide) (by decide) [] [0, 1, 2, 3] rfl rfl rfl rfl rfl (by decide) rfl rfl (Nat.le_of_ble_eq_true rfl) d_Ra_scores_11 [0, 1, 2, 3] rfl (w2 := fun _ => [(rz, .inr (0, [.ref gr, .ref se, .ref ly, .ref wc, .ref cf, .ref dr, .int (iI (bI (ld = true))), .int (iI (bI (wn = true))), .int (iI (bI (xf = true))), .long cw])), (gr, .inr (1, [.ref ra, .ref rb, .ref pr])), (pr, .inr (3, [.ref pa, .int (iI op), .int (iI mo)])), (pa, .inl (tI, 676, .inl (iA SC)))]) (fun _ => rfl) (fun _ _ => ?_)
  refine r_aload_n hX 0 d_Ra_scores_14 rfl ?_
  refine r_get hX cf_Ra 0 rfl 0 (by decide) fl_Ra_12 rfl d_Ra_scores_15 ?_
  refine r_get hX cf_Gr 1 rfl 2 (by decide) fl_Ra_99 rfl d_Ra_scores_18 ?_
  refine r_iload_n hX 1 d_Ra_scores_21 rfl ?_
  refine r_iload_n hX 2 d_Ra_scores_22 rfl ?_
  refine r_invV_v0 (st := []) (As := [.int (iI x), .int (iI y)]) (wr := [(rz, .inr (0, [.ref gr, .ref se, .ref ly, .ref wc, .ref cf, .ref dr, .int (iI (bI (ld = true))), .int (iI (bI (wn = true))), .int (iI (bI (xf = true))), .long cw])), (gr, .inr (1, [.ref ra, .ref rb, .ref pr]))]) hX (c_Pr_setAllPairs l D tI tJ tZ pr pa SC op mo x y) "RowAligner$Prices" 2 3 cf_Pr rfl yn_Pr_setAllPairs ml_Ra_109 im_Pr_setAllPairs se_Pr_setAllPairs co_Pr_setAllPairs in_Pr (by decide) (by decide) (by decide) [2, 3] [0, 1] rfl rfl rfl rfl rfl (by decide) rfl rfl (Nat.le_of_ble_eq_true rfl) d_Ra_scores_23 [0, 1, 2, 3] rfl (w2 := fun _ => [(rz, .inr (0, [.ref gr, .ref se, .ref ly, .ref wc, .ref cf, .ref dr, .int (iI (bI (ld = true))), .int (iI (bI (wn = true))), .int (iI (bI (xf = true))), .long cw])), (gr, .inr (1, [.ref ra, .ref rb, .ref pr])), (pr, .inr (3, [.ref pa, .int (iI op), .int (iI mo)])), (pa, .inl (tI, 676, .inl (iA (ra_sq SC x y (676)))))]) (fun _ => rfl) (fun _ _ => ?_)
  refine r_aload_n hX 0 d_Ra_scores_26 rfl ?_
  refine r_iconstN hX 0 d_Ra_scores_27 rfl ?_
  refine r_put hX (ws' := [(rz, .inr (0, [.ref gr, .ref se, .ref ly, .ref wc, .ref cf, .ref dr, .int (iI ((0 : Nat) : Int)), .int (iI (bI (wn = true))), .int (iI (bI (xf = true))), .long cw])), (gr, .inr (1, [.ref ra, .ref rb, .ref pr])), (pr, .inr (3, [.ref pa, .int (iI op), .int (iI mo)])), (pa, .inl (tI, 676, .inl (iA (ra_sq SC x y (676)))))]) cf_Ra 0 rfl 6 (by decide) fl_Ra_81 rfl (by decide +kernel) (by decide +kernel) (Nat.le_of_ble_eq_true rfl) rfl d_Ra_scores_28 ?_
  exact r_vret hX hT () trivial rfl (by decide) (by decide) d_Ra_scores_31

abbrev rm_Ra_costs : Room := { frames := 1, cells := 0, slots := 0, locals := 21 }
set_option maxHeartbeats 4000000 in
set_option maxRecDepth 100000 in
theorem c_Ra_costs (l : Launch) (D : va_G) (tI tJ tZ : ClassId) (rz : Nat) (gr : Nat) (se : Nat) (ly : Nat) (wc : Nat) (cf : Nat) (dr : Nat) (ld : Bool) (wn : Bool) (xf : Bool) (cw : Int64) (ra : Nat) (rb : Nat) (pr : Nat) (pa : Nat) (op : Int) (mo : Int) (SC : Nat → Int) (x : Int) (y : Int) (hx : 0 ≤ x ∧ x ≤ 512) (hy : 0 ≤ y ∧ y ≤ 512) : rCv l y_Ra_costs prog_1_method_9_code 3 rm_Ra_costs D (tysA tI tJ tZ) [.ref rz, .int (iI x), .int (iI y)] [(rz, .inr (0, [.ref gr, .ref se, .ref ly, .ref wc, .ref cf, .ref dr, .int (iI (bI (ld = true))), .int (iI (bI (wn = true))), .int (iI (bI (xf = true))), .long cw])), (gr, .inr (1, [.ref ra, .ref rb, .ref pr])), (pr, .inr (3, [.ref pa, .int (iI op), .int (iI mo)])), (pa, .inl (tI, 676, .inl (iA SC)))] (fun (_ : Unit) => True) (fun (_ : Unit) => [(rz, .inr (0, [.ref gr, .ref se, .ref ly, .ref wc, .ref cf, .ref dr, .int (iI (bI (false = true))), .int (iI (bI (wn = true))), .int (iI (bI (xf = true))), .long cw])), (gr, .inr (1, [.ref ra, .ref rb, .ref pr])), (pr, .inr (3, [.ref pa, .int (iI x), .int (iI y)])), (pa, .inl (tI, 676, .inl (iA SC)))]) := by
  intro sz
  refine r_met (by decide) (Nat.le_of_ble_eq_true rfl) ?_
  intro F p e s m args below meth c Q A hX hT hAe hsz hin
  subst hAe
  replace hX : rOK F p l e rm_Ra_costs s m args below meth c Q prog_1_method_9_code 3 "RowAligner" D (tysA tI tJ tZ) _ := hX
  show F 0 [(0, .ref rz), (1, .int (iI x)), (2, .int (iI y))] [] [(rz, .inr (0, [.ref gr, .ref se, .ref ly, .ref wc, .ref cf, .ref dr, .int (iI (bI (ld = true))), .int (iI (bI (wn = true))), .int (iI (bI (xf = true))), .long cw])), (gr, .inr (1, [.ref ra, .ref rb, .ref pr])), (pr, .inr (3, [.ref pa, .int (iI op), .int (iI mo)])), (pa, .inl (tI, 676, .inl (iA SC)))] 0 0
  refine r_iconstN hX 0 d_Ra_costs_0 rfl ?_
  refine r_iload_n hX 1 d_Ra_costs_1 rfl ?_
  refine r_invS_v0 (st := []) (As := [.int (iI ((0 : Nat) : Int)), .int (iI x)]) (wr := [(rz, .inr (0, [.ref gr, .ref se, .ref ly, .ref wc, .ref cf, .ref dr, .int (iI (bI (ld = true))), .int (iI (bI (wn = true))), .int (iI (bI (xf = true))), .long cw])), (gr, .inr (1, [.ref ra, .ref rb, .ref pr])), (pr, .inr (3, [.ref pa, .int (iI op), .int (iI mo)])), (pa, .inl (tI, 676, .inl (iA SC)))]) hX (c_Ra_refusePriceBelow l D tI tJ tZ (((0 : Nat) : Int)) x (by unfold iR; omega) hx) yn_Ra_refusePriceBelow ml_Ra_95 st_Ra_refusePriceBelow co_Ra_refusePriceBelow in_Ra (by decide) (by decide) (by decide) [] [0, 1, 2, 3] rfl rfl rfl rfl rfl (by decide) rfl rfl (Nat.le_of_ble_eq_true rfl) d_Ra_costs_2 [0, 1, 2, 3] rfl (w2 := fun _ => [(rz, .inr (0, [.ref gr, .ref se, .ref ly, .ref wc, .ref cf, .ref dr, .int (iI (bI (ld = true))), .int (iI (bI (wn = true))), .int (iI (bI (xf = true))), .long cw])), (gr, .inr (1, [.ref ra, .ref rb, .ref pr])), (pr, .inr (3, [.ref pa, .int (iI op), .int (iI mo)])), (pa, .inl (tI, 676, .inl (iA SC)))]) (fun _ => rfl) (fun _ _ => ?_)
  refine r_iconstN hX 0 d_Ra_costs_5 rfl ?_
  refine r_iload_n hX 2 d_Ra_costs_6 rfl ?_
  refine r_invS_v0 (st := []) (As := [.int (iI ((0 : Nat) : Int)), .int (iI y)]) (wr := [(rz, .inr (0, [.ref gr, .ref se, .ref ly, .ref wc, .ref cf, .ref dr, .int (iI (bI (ld = true))), .int (iI (bI (wn = true))), .int (iI (bI (xf = true))), .long cw])), (gr, .inr (1, [.ref ra, .ref rb, .ref pr])), (pr, .inr (3, [.ref pa, .int (iI op), .int (iI mo)])), (pa, .inl (tI, 676, .inl (iA SC)))]) hX (c_Ra_refusePriceBelow l D tI tJ tZ (((0 : Nat) : Int)) y (by unfold iR; omega) hy) yn_Ra_refusePriceBelow ml_Ra_95 st_Ra_refusePriceBelow co_Ra_refusePriceBelow in_Ra (by decide) (by decide) (by decide) [] [0, 1, 2, 3] rfl rfl rfl rfl rfl (by decide) rfl rfl (Nat.le_of_ble_eq_true rfl) d_Ra_costs_7 [0, 1, 2, 3] rfl (w2 := fun _ => [(rz, .inr (0, [.ref gr, .ref se, .ref ly, .ref wc, .ref cf, .ref dr, .int (iI (bI (ld = true))), .int (iI (bI (wn = true))), .int (iI (bI (xf = true))), .long cw])), (gr, .inr (1, [.ref ra, .ref rb, .ref pr])), (pr, .inr (3, [.ref pa, .int (iI op), .int (iI mo)])), (pa, .inl (tI, 676, .inl (iA SC)))]) (fun _ => rfl) (fun _ _ => ?_)
  refine r_aload_n hX 0 d_Ra_costs_10 rfl ?_
  refine r_get hX cf_Ra 0 rfl 0 (by decide) fl_Ra_12 rfl d_Ra_costs_11 ?_
  refine r_get hX cf_Gr 1 rfl 2 (by decide) fl_Ra_99 rfl d_Ra_costs_14 ?_
  refine r_iload_n hX 1 d_Ra_costs_17 rfl ?_
  refine r_put hX (ws' := [(rz, .inr (0, [.ref gr, .ref se, .ref ly, .ref wc, .ref cf, .ref dr, .int (iI (bI (ld = true))), .int (iI (bI (wn = true))), .int (iI (bI (xf = true))), .long cw])), (gr, .inr (1, [.ref ra, .ref rb, .ref pr])), (pr, .inr (3, [.ref pa, .int (iI x), .int (iI mo)])), (pa, .inl (tI, 676, .inl (iA SC)))]) cf_Pr 2 rfl 1 (by decide) fl_Ra_112 rfl rfl rfl (Nat.le_of_ble_eq_true rfl) rfl d_Ra_costs_18 ?_
  refine r_aload_n hX 0 d_Ra_costs_21 rfl ?_
  refine r_get hX cf_Ra 0 rfl 0 (by decide) fl_Ra_12 rfl d_Ra_costs_22 ?_
  refine r_get hX cf_Gr 1 rfl 2 (by decide) fl_Ra_99 rfl d_Ra_costs_25 ?_
  refine r_iload_n hX 2 d_Ra_costs_28 rfl ?_
  refine r_put hX (ws' := [(rz, .inr (0, [.ref gr, .ref se, .ref ly, .ref wc, .ref cf, .ref dr, .int (iI (bI (ld = true))), .int (iI (bI (wn = true))), .int (iI (bI (xf = true))), .long cw])), (gr, .inr (1, [.ref ra, .ref rb, .ref pr])), (pr, .inr (3, [.ref pa, .int (iI x), .int (iI y)])), (pa, .inl (tI, 676, .inl (iA SC)))]) cf_Pr 2 rfl 2 (by decide) fl_Ra_115 rfl rfl rfl (Nat.le_of_ble_eq_true rfl) rfl d_Ra_costs_29 ?_
  refine r_aload_n hX 0 d_Ra_costs_32 rfl ?_
  refine r_iconstN hX 0 d_Ra_costs_33 rfl ?_
  refine r_put hX (ws' := [(rz, .inr (0, [.ref gr, .ref se, .ref ly, .ref wc, .ref cf, .ref dr, .int (iI ((0 : Nat) : Int)), .int (iI (bI (wn = true))), .int (iI (bI (xf = true))), .long cw])), (gr, .inr (1, [.ref ra, .ref rb, .ref pr])), (pr, .inr (3, [.ref pa, .int (iI x), .int (iI y)])), (pa, .inl (tI, 676, .inl (iA SC)))]) cf_Ra 0 rfl 6 (by decide) fl_Ra_81 rfl (by decide +kernel) (by decide +kernel) (Nat.le_of_ble_eq_true rfl) rfl d_Ra_costs_34 ?_
  exact r_vret hX hT () trivial rfl (by decide) (by decide) d_Ra_costs_37

abbrev rm_Ra_steps : Room := { frames := 1, cells := 0, slots := 0, locals := 20 }
set_option maxHeartbeats 4000000 in
set_option maxRecDepth 100000 in
theorem c_Ra_steps (l : Launch) (D : va_G) (tI tJ tZ : ClassId) (rz : Nat) (gr : Nat) (se : Nat) (ly : Nat) (wc : Nat) (cf : Nat) (dr : Nat) (ld : Bool) (wn : Bool) (xf : Bool) (cw : Int64) (st9 : Nat) (ln : Nat) (sa : Nat) (sb : Nat) (ea : Nat) (eb : Nat) (d : Nat → Nat) (hl : ld = true) : rCi l y_Ra_steps prog_1_method_12_code 1 .int rm_Ra_steps D (tysA tI tJ tZ) [.ref rz] [(rz, .inr (0, [.ref gr, .ref se, .ref ly, .ref wc, .ref cf, .ref dr, .int (iI (bI (ld = true))), .int (iI (bI (wn = true))), .int (iI (bI (xf = true))), .long cw])), (ly, .inr (6, [.ref st9, .int (iI ((ln : Nat) : Int)), .int (iI ((sa : Nat) : Int)), .int (iI ((sb : Nat) : Int)), .int (iI ((ea : Nat) : Int)), .int (iI ((eb : Nat) : Int))])), (st9, .inl (tI, 192, .inl (iA (iN d))))] (fun zz (_ : Unit) => zz = iI (((ln : Nat) : Int))) (fun (_ : Unit) => [(rz, .inr (0, [.ref gr, .ref se, .ref ly, .ref wc, .ref cf, .ref dr, .int (iI (bI (ld = true))), .int (iI (bI (wn = true))), .int (iI (bI (xf = true))), .long cw])), (ly, .inr (6, [.ref st9, .int (iI ((ln : Nat) : Int)), .int (iI ((sa : Nat) : Int)), .int (iI ((sb : Nat) : Int)), .int (iI ((ea : Nat) : Int)), .int (iI ((eb : Nat) : Int))])), (st9, .inl (tI, 192, .inl (iA (iN d))))]) := by
  intro sz
  refine r_met (by decide) (Nat.le_of_ble_eq_true rfl) ?_
  intro F p e s m args below meth c Q A hX hT hAe hsz hin
  subst hAe
  replace hX : rOK F p l e rm_Ra_steps s m args below meth c Q prog_1_method_12_code 1 "RowAligner" D (tysA tI tJ tZ) _ := hX
  show F 0 [(0, .ref rz)] [] [(rz, .inr (0, [.ref gr, .ref se, .ref ly, .ref wc, .ref cf, .ref dr, .int (iI (bI (ld = true))), .int (iI (bI (wn = true))), .int (iI (bI (xf = true))), .long cw])), (ly, .inr (6, [.ref st9, .int (iI ((ln : Nat) : Int)), .int (iI ((sa : Nat) : Int)), .int (iI ((sb : Nat) : Int)), .int (iI ((ea : Nat) : Int)), .int (iI ((eb : Nat) : Int))])), (st9, .inl (tI, 192, .inl (iA (iN d))))] 0 0
  refine r_aload_n hX 0 d_Ra_steps_0 rfl ?_
  refine r_invV_v0 (st := []) (As := []) (wr := [(ly, .inr (6, [.ref st9, .int (iI ((ln : Nat) : Int)), .int (iI ((sa : Nat) : Int)), .int (iI ((sb : Nat) : Int)), .int (iI ((ea : Nat) : Int)), .int (iI ((eb : Nat) : Int))])), (st9, .inl (tI, 192, .inl (iA (iN d))))]) hX (c_Ra_refuseUnlaid l D tI tJ tZ rz gr se ly wc cf dr ld wn xf cw hl) "RowAligner" 0 0 cf_Ra rfl yn_Ra_refuseUnlaid ml_Ra_131 im_Ra_refuseUnlaid se_Ra_refuseUnlaid co_Ra_refuseUnlaid in_Ra (by decide) (by decide) (by decide) [0] [1, 2] rfl rfl rfl rfl rfl (by decide) rfl rfl (Nat.le_of_ble_eq_true rfl) d_Ra_steps_1 [2, 0, 1] rfl (w2 := fun _ => [(rz, .inr (0, [.ref gr, .ref se, .ref ly, .ref wc, .ref cf, .ref dr, .int (iI (bI (ld = true))), .int (iI (bI (wn = true))), .int (iI (bI (xf = true))), .long cw])), (ly, .inr (6, [.ref st9, .int (iI ((ln : Nat) : Int)), .int (iI ((sa : Nat) : Int)), .int (iI ((sb : Nat) : Int)), .int (iI ((ea : Nat) : Int)), .int (iI ((eb : Nat) : Int))])), (st9, .inl (tI, 192, .inl (iA (iN d))))]) (fun _ => rfl) (fun _ _ => ?_)
  refine r_aload_n hX 0 d_Ra_steps_4 rfl ?_
  refine r_get hX cf_Ra 0 rfl 2 (by decide) fl_Ra_28 rfl d_Ra_steps_5 ?_
  refine r_get hX cf_La 1 rfl 1 (by decide) fl_Ra_134 rfl d_Ra_steps_8 ?_
  exact r_iret hX hT () rfl rfl (by decide) (by decide) d_Ra_steps_11

abbrev rm_Ra_step : Room := { frames := 1, cells := 0, slots := 0, locals := 20 }
set_option maxHeartbeats 4000000 in
set_option maxRecDepth 100000 in
theorem c_Ra_step (l : Launch) (D : va_G) (tI tJ tZ : ClassId) (rz : Nat) (gr : Nat) (se : Nat) (ly : Nat) (wc : Nat) (cf : Nat) (dr : Nat) (ld : Bool) (wn : Bool) (xf : Bool) (cw : Int64) (st9 : Nat) (ln : Nat) (sa : Nat) (sb : Nat) (ea : Nat) (eb : Nat) (d : Nat → Nat) (x : Nat) (hl : ld = true) (hs : ln ≤ 192) (hn : x < ln) : rCi l y_Ra_step prog_1_method_13_code 2 .int rm_Ra_step D (tysA tI tJ tZ) [.ref rz, .int (iI ((x : Nat) : Int))] [(rz, .inr (0, [.ref gr, .ref se, .ref ly, .ref wc, .ref cf, .ref dr, .int (iI (bI (ld = true))), .int (iI (bI (wn = true))), .int (iI (bI (xf = true))), .long cw])), (ly, .inr (6, [.ref st9, .int (iI ((ln : Nat) : Int)), .int (iI ((sa : Nat) : Int)), .int (iI ((sb : Nat) : Int)), .int (iI ((ea : Nat) : Int)), .int (iI ((eb : Nat) : Int))])), (st9, .inl (tI, 192, .inl (iA (iN d))))] (fun zz (_ : Unit) => zz = iI (((d x : Nat) : Int))) (fun (_ : Unit) => [(rz, .inr (0, [.ref gr, .ref se, .ref ly, .ref wc, .ref cf, .ref dr, .int (iI (bI (ld = true))), .int (iI (bI (wn = true))), .int (iI (bI (xf = true))), .long cw])), (ly, .inr (6, [.ref st9, .int (iI ((ln : Nat) : Int)), .int (iI ((sa : Nat) : Int)), .int (iI ((sb : Nat) : Int)), .int (iI ((ea : Nat) : Int)), .int (iI ((eb : Nat) : Int))])), (st9, .inl (tI, 192, .inl (iA (iN d))))]) := by
  intro sz
  refine r_met (by decide) (Nat.le_of_ble_eq_true rfl) ?_
  intro F p e s m args below meth c Q A hX hT hAe hsz hin
  subst hAe
  replace hX : rOK F p l e rm_Ra_step s m args below meth c Q prog_1_method_13_code 2 "RowAligner" D (tysA tI tJ tZ) _ := hX
  show F 0 [(0, .ref rz), (1, .int (iI ((x : Nat) : Int)))] [] [(rz, .inr (0, [.ref gr, .ref se, .ref ly, .ref wc, .ref cf, .ref dr, .int (iI (bI (ld = true))), .int (iI (bI (wn = true))), .int (iI (bI (xf = true))), .long cw])), (ly, .inr (6, [.ref st9, .int (iI ((ln : Nat) : Int)), .int (iI ((sa : Nat) : Int)), .int (iI ((sb : Nat) : Int)), .int (iI ((ea : Nat) : Int)), .int (iI ((eb : Nat) : Int))])), (st9, .inl (tI, 192, .inl (iA (iN d))))] 0 0
  refine r_aload_n hX 0 d_Ra_step_0 rfl ?_
  refine r_invV_v0 (st := []) (As := []) (wr := [(ly, .inr (6, [.ref st9, .int (iI ((ln : Nat) : Int)), .int (iI ((sa : Nat) : Int)), .int (iI ((sb : Nat) : Int)), .int (iI ((ea : Nat) : Int)), .int (iI ((eb : Nat) : Int))])), (st9, .inl (tI, 192, .inl (iA (iN d))))]) hX (c_Ra_refuseUnlaid l D tI tJ tZ rz gr se ly wc cf dr ld wn xf cw hl) "RowAligner" 0 0 cf_Ra rfl yn_Ra_refuseUnlaid ml_Ra_131 im_Ra_refuseUnlaid se_Ra_refuseUnlaid co_Ra_refuseUnlaid in_Ra (by decide) (by decide) (by decide) [0] [1, 2] rfl rfl rfl rfl rfl (by decide) rfl rfl (Nat.le_of_ble_eq_true rfl) d_Ra_step_1 [2, 0, 1] rfl (w2 := fun _ => [(rz, .inr (0, [.ref gr, .ref se, .ref ly, .ref wc, .ref cf, .ref dr, .int (iI (bI (ld = true))), .int (iI (bI (wn = true))), .int (iI (bI (xf = true))), .long cw])), (ly, .inr (6, [.ref st9, .int (iI ((ln : Nat) : Int)), .int (iI ((sa : Nat) : Int)), .int (iI ((sb : Nat) : Int)), .int (iI ((ea : Nat) : Int)), .int (iI ((eb : Nat) : Int))])), (st9, .inl (tI, 192, .inl (iA (iN d))))]) (fun _ => rfl) (fun _ _ => ?_)
  refine r_iload_n hX 1 d_Ra_step_4 rfl ?_
  refine r_if_lt hX 19 d_Ra_step_5 (by decide) (by unfold iR; omega) (fun h5 => by exfalso; omega) (fun h5 => ?_)
  refine r_iload_n hX 1 d_Ra_step_8 rfl ?_
  refine r_aload_n hX 0 d_Ra_step_9 rfl ?_
  refine r_get hX cf_Ra 0 rfl 2 (by decide) fl_Ra_28 rfl d_Ra_step_10 ?_
  refine r_get hX cf_La 1 rfl 1 (by decide) fl_Ra_134 rfl d_Ra_step_13 ?_
  refine r_icmp_lt hX 27 d_Ra_step_16 (by decide) (by unfold iR; omega) (by unfold iR; omega) (fun h16 => ?_) (fun h16 => by exfalso; omega)
  refine r_aload_n hX 0 d_Ra_step_27 rfl ?_
  refine r_get hX cf_Ra 0 rfl 2 (by decide) fl_Ra_28 rfl d_Ra_step_28 ?_
  refine r_get hX cf_La 1 rfl 0 (by decide) fl_Ra_135 rfl d_Ra_step_31 ?_
  refine r_iload_n hX 1 d_Ra_step_34 rfl ?_
  refine r_ialdN hX 2 0 rfl rfl (x) rfl (by omega) (by decide) d_Ra_step_35 ?_
  exact r_iret hX hT () rfl rfl (by decide) (by decide) d_Ra_step_36

abbrev rm_Ra_place_0 : Room := { frames := 1, cells := 0, slots := 0, locals := 20 }
set_option maxHeartbeats 4000000 in
set_option maxRecDepth 100000 in
theorem c_Ra_place_0 (l : Launch) (D : va_G) (tI tJ tZ : ClassId) (rz : Nat) (gr : Nat) (se : Nat) (ly : Nat) (wc : Nat) (cf : Nat) (dr : Nat) (ld : Bool) (wn : Bool) (xf : Bool) (cw : Int64) (st9 : Nat) (ln : Nat) (sa : Nat) (sb : Nat) (ea : Nat) (eb : Nat) (d : Nat → Nat) (ex : Bool) (hl : ld = true) : rCi l y_Ra_place prog_1_method_14_code 3 .int rm_Ra_place_0 D (tysA tI tJ tZ) [.ref rz, .int (iI ((0 : Nat) : Int)), .int (iI (bI (ex = true)))] [(rz, .inr (0, [.ref gr, .ref se, .ref ly, .ref wc, .ref cf, .ref dr, .int (iI (bI (ld = true))), .int (iI (bI (wn = true))), .int (iI (bI (xf = true))), .long cw])), (ly, .inr (6, [.ref st9, .int (iI ((ln : Nat) : Int)), .int (iI ((sa : Nat) : Int)), .int (iI ((sb : Nat) : Int)), .int (iI ((ea : Nat) : Int)), .int (iI ((eb : Nat) : Int))])), (st9, .inl (tI, 192, .inl (iA (iN d))))] (fun zz (_ : Unit) => zz = iI (((if ex = true then ea else sa : Nat) : Int))) (fun (_ : Unit) => [(rz, .inr (0, [.ref gr, .ref se, .ref ly, .ref wc, .ref cf, .ref dr, .int (iI (bI (ld = true))), .int (iI (bI (wn = true))), .int (iI (bI (xf = true))), .long cw])), (ly, .inr (6, [.ref st9, .int (iI ((ln : Nat) : Int)), .int (iI ((sa : Nat) : Int)), .int (iI ((sb : Nat) : Int)), .int (iI ((ea : Nat) : Int)), .int (iI ((eb : Nat) : Int))])), (st9, .inl (tI, 192, .inl (iA (iN d))))]) := by
  intro sz
  refine r_met (by decide) (Nat.le_of_ble_eq_true rfl) ?_
  intro F p e s m args below meth c Q A hX hT hAe hsz hin
  subst hAe
  replace hX : rOK F p l e rm_Ra_place_0 s m args below meth c Q prog_1_method_14_code 3 "RowAligner" D (tysA tI tJ tZ) _ := hX
  show F 0 [(0, .ref rz), (1, .int (iI ((0 : Nat) : Int))), (2, .int (iI (bI (ex = true))))] [] [(rz, .inr (0, [.ref gr, .ref se, .ref ly, .ref wc, .ref cf, .ref dr, .int (iI (bI (ld = true))), .int (iI (bI (wn = true))), .int (iI (bI (xf = true))), .long cw])), (ly, .inr (6, [.ref st9, .int (iI ((ln : Nat) : Int)), .int (iI ((sa : Nat) : Int)), .int (iI ((sb : Nat) : Int)), .int (iI ((ea : Nat) : Int)), .int (iI ((eb : Nat) : Int))])), (st9, .inl (tI, 192, .inl (iA (iN d))))] 0 0
  refine r_iload_n hX 1 d_Ra_place_0 rfl ?_
  refine r_invS_v0 (st := []) (As := [.int (iI ((0 : Nat) : Int))]) (wr := [(rz, .inr (0, [.ref gr, .ref se, .ref ly, .ref wc, .ref cf, .ref dr, .int (iI (bI (ld = true))), .int (iI (bI (wn = true))), .int (iI (bI (xf = true))), .long cw])), (ly, .inr (6, [.ref st9, .int (iI ((ln : Nat) : Int)), .int (iI ((sa : Nat) : Int)), .int (iI ((sb : Nat) : Int)), .int (iI ((ea : Nat) : Int)), .int (iI ((eb : Nat) : Int))])), (st9, .inl (tI, 192, .inl (iA (iN d))))]) hX (c_Ra_refuseOtherRows l D tI tJ tZ 0 (by omega)) yn_Ra_refuseOtherRows ml_Ra_138 st_Ra_refuseOtherRows co_Ra_refuseOtherRows in_Ra (by decide) (by decide) (by decide) [] [0, 1, 2] rfl rfl rfl rfl rfl (by decide) rfl rfl (Nat.le_of_ble_eq_true rfl) d_Ra_place_1 [0, 1, 2] rfl (w2 := fun _ => [(rz, .inr (0, [.ref gr, .ref se, .ref ly, .ref wc, .ref cf, .ref dr, .int (iI (bI (ld = true))), .int (iI (bI (wn = true))), .int (iI (bI (xf = true))), .long cw])), (ly, .inr (6, [.ref st9, .int (iI ((ln : Nat) : Int)), .int (iI ((sa : Nat) : Int)), .int (iI ((sb : Nat) : Int)), .int (iI ((ea : Nat) : Int)), .int (iI ((eb : Nat) : Int))])), (st9, .inl (tI, 192, .inl (iA (iN d))))]) (fun _ => rfl) (fun _ _ => ?_)
  refine r_aload_n hX 0 d_Ra_place_4 rfl ?_
  refine r_invV_v0 (st := []) (As := []) (wr := [(ly, .inr (6, [.ref st9, .int (iI ((ln : Nat) : Int)), .int (iI ((sa : Nat) : Int)), .int (iI ((sb : Nat) : Int)), .int (iI ((ea : Nat) : Int)), .int (iI ((eb : Nat) : Int))])), (st9, .inl (tI, 192, .inl (iA (iN d))))]) hX (c_Ra_refuseUnlaid l D tI tJ tZ rz gr se ly wc cf dr ld wn xf cw hl) "RowAligner" 0 0 cf_Ra rfl yn_Ra_refuseUnlaid ml_Ra_131 im_Ra_refuseUnlaid se_Ra_refuseUnlaid co_Ra_refuseUnlaid in_Ra (by decide) (by decide) (by decide) [0] [1, 2] rfl rfl rfl rfl rfl (by decide) rfl rfl (Nat.le_of_ble_eq_true rfl) d_Ra_place_5 [2, 0, 1] rfl (w2 := fun _ => [(rz, .inr (0, [.ref gr, .ref se, .ref ly, .ref wc, .ref cf, .ref dr, .int (iI (bI (ld = true))), .int (iI (bI (wn = true))), .int (iI (bI (xf = true))), .long cw])), (ly, .inr (6, [.ref st9, .int (iI ((ln : Nat) : Int)), .int (iI ((sa : Nat) : Int)), .int (iI ((sb : Nat) : Int)), .int (iI ((ea : Nat) : Int)), .int (iI ((eb : Nat) : Int))])), (st9, .inl (tI, 192, .inl (iA (iN d))))]) (fun _ => rfl) (fun _ _ => ?_)
  refine r_iload_n hX 1 d_Ra_place_8 rfl ?_
  refine r_if_ne hX 34 d_Ra_place_9 (by decide) (by unfold iR; omega) (fun h9 => by exfalso; omega) (fun h9 => ?_)
  refine r_iload_n hX 2 d_Ra_place_12 rfl ?_
  have J33 : F 33 [(0, .ref rz), (1, .int (iI ((0 : Nat) : Int))), (2, .int (iI (bI (ex = true))))] [.int (iI ((if ex = true then ea else sa : Nat) : Int))] [(rz, .inr (0, [.ref gr, .ref se, .ref ly, .ref wc, .ref cf, .ref dr, .int (iI (bI (ld = true))), .int (iI (bI (wn = true))), .int (iI (bI (xf = true))), .long cw])), (ly, .inr (6, [.ref st9, .int (iI ((ln : Nat) : Int)), .int (iI ((sa : Nat) : Int)), .int (iI ((sb : Nat) : Int)), .int (iI ((ea : Nat) : Int)), .int (iI ((eb : Nat) : Int))])), (st9, .inl (tI, 192, .inl (iA (iN d))))] 0 0 := by
    exact r_iret hX hT () rfl rfl (by decide) (by decide) d_Ra_place_33
  refine rb_if_eq hX 26 d_Ra_place_13 (by decide) (fun h13 => ?_) (fun h13 => ?_)
  · refine r_aload_n hX 0 d_Ra_place_26 rfl ?_
    refine r_get hX cf_Ra 0 rfl 2 (by decide) fl_Ra_28 rfl d_Ra_place_27 ?_
    refine r_get hX cf_La 1 rfl 2 (by decide) fl_Ra_144 rfl d_Ra_place_30 ?_
    exact rj_e (by first | rw [if_pos h13] | rw [if_neg h13]) J33
  · refine r_aload_n hX 0 d_Ra_place_16 rfl ?_
    refine r_get hX cf_Ra 0 rfl 2 (by decide) fl_Ra_28 rfl d_Ra_place_17 ?_
    refine r_get hX cf_La 1 rfl 4 (by decide) fl_Ra_141 rfl d_Ra_place_20 ?_
    refine r_goto hX 33 d_Ra_place_23 (by decide) ?_
    exact rj_e (by first | rw [if_pos h13] | rw [if_neg h13]) J33

abbrev rm_Ra_place_1 : Room := { frames := 1, cells := 0, slots := 0, locals := 20 }
set_option maxHeartbeats 4000000 in
set_option maxRecDepth 100000 in
theorem c_Ra_place_1 (l : Launch) (D : va_G) (tI tJ tZ : ClassId) (rz : Nat) (gr : Nat) (se : Nat) (ly : Nat) (wc : Nat) (cf : Nat) (dr : Nat) (ld : Bool) (wn : Bool) (xf : Bool) (cw : Int64) (st9 : Nat) (ln : Nat) (sa : Nat) (sb : Nat) (ea : Nat) (eb : Nat) (d : Nat → Nat) (ex : Bool) (hl : ld = true) : rCi l y_Ra_place prog_1_method_14_code 3 .int rm_Ra_place_1 D (tysA tI tJ tZ) [.ref rz, .int (iI ((1 : Nat) : Int)), .int (iI (bI (ex = true)))] [(rz, .inr (0, [.ref gr, .ref se, .ref ly, .ref wc, .ref cf, .ref dr, .int (iI (bI (ld = true))), .int (iI (bI (wn = true))), .int (iI (bI (xf = true))), .long cw])), (ly, .inr (6, [.ref st9, .int (iI ((ln : Nat) : Int)), .int (iI ((sa : Nat) : Int)), .int (iI ((sb : Nat) : Int)), .int (iI ((ea : Nat) : Int)), .int (iI ((eb : Nat) : Int))])), (st9, .inl (tI, 192, .inl (iA (iN d))))] (fun zz (_ : Unit) => zz = iI (((if ex = true then eb else sb : Nat) : Int))) (fun (_ : Unit) => [(rz, .inr (0, [.ref gr, .ref se, .ref ly, .ref wc, .ref cf, .ref dr, .int (iI (bI (ld = true))), .int (iI (bI (wn = true))), .int (iI (bI (xf = true))), .long cw])), (ly, .inr (6, [.ref st9, .int (iI ((ln : Nat) : Int)), .int (iI ((sa : Nat) : Int)), .int (iI ((sb : Nat) : Int)), .int (iI ((ea : Nat) : Int)), .int (iI ((eb : Nat) : Int))])), (st9, .inl (tI, 192, .inl (iA (iN d))))]) := by
  intro sz
  refine r_met (by decide) (Nat.le_of_ble_eq_true rfl) ?_
  intro F p e s m args below meth c Q A hX hT hAe hsz hin
  subst hAe
  replace hX : rOK F p l e rm_Ra_place_1 s m args below meth c Q prog_1_method_14_code 3 "RowAligner" D (tysA tI tJ tZ) _ := hX
  show F 0 [(0, .ref rz), (1, .int (iI ((1 : Nat) : Int))), (2, .int (iI (bI (ex = true))))] [] [(rz, .inr (0, [.ref gr, .ref se, .ref ly, .ref wc, .ref cf, .ref dr, .int (iI (bI (ld = true))), .int (iI (bI (wn = true))), .int (iI (bI (xf = true))), .long cw])), (ly, .inr (6, [.ref st9, .int (iI ((ln : Nat) : Int)), .int (iI ((sa : Nat) : Int)), .int (iI ((sb : Nat) : Int)), .int (iI ((ea : Nat) : Int)), .int (iI ((eb : Nat) : Int))])), (st9, .inl (tI, 192, .inl (iA (iN d))))] 0 0
  refine r_iload_n hX 1 d_Ra_place_0 rfl ?_
  refine r_invS_v0 (st := []) (As := [.int (iI ((1 : Nat) : Int))]) (wr := [(rz, .inr (0, [.ref gr, .ref se, .ref ly, .ref wc, .ref cf, .ref dr, .int (iI (bI (ld = true))), .int (iI (bI (wn = true))), .int (iI (bI (xf = true))), .long cw])), (ly, .inr (6, [.ref st9, .int (iI ((ln : Nat) : Int)), .int (iI ((sa : Nat) : Int)), .int (iI ((sb : Nat) : Int)), .int (iI ((ea : Nat) : Int)), .int (iI ((eb : Nat) : Int))])), (st9, .inl (tI, 192, .inl (iA (iN d))))]) hX (c_Ra_refuseOtherRows l D tI tJ tZ 1 (by omega)) yn_Ra_refuseOtherRows ml_Ra_138 st_Ra_refuseOtherRows co_Ra_refuseOtherRows in_Ra (by decide) (by decide) (by decide) [] [0, 1, 2] rfl rfl rfl rfl rfl (by decide) rfl rfl (Nat.le_of_ble_eq_true rfl) d_Ra_place_1 [0, 1, 2] rfl (w2 := fun _ => [(rz, .inr (0, [.ref gr, .ref se, .ref ly, .ref wc, .ref cf, .ref dr, .int (iI (bI (ld = true))), .int (iI (bI (wn = true))), .int (iI (bI (xf = true))), .long cw])), (ly, .inr (6, [.ref st9, .int (iI ((ln : Nat) : Int)), .int (iI ((sa : Nat) : Int)), .int (iI ((sb : Nat) : Int)), .int (iI ((ea : Nat) : Int)), .int (iI ((eb : Nat) : Int))])), (st9, .inl (tI, 192, .inl (iA (iN d))))]) (fun _ => rfl) (fun _ _ => ?_)
  refine r_aload_n hX 0 d_Ra_place_4 rfl ?_
  refine r_invV_v0 (st := []) (As := []) (wr := [(ly, .inr (6, [.ref st9, .int (iI ((ln : Nat) : Int)), .int (iI ((sa : Nat) : Int)), .int (iI ((sb : Nat) : Int)), .int (iI ((ea : Nat) : Int)), .int (iI ((eb : Nat) : Int))])), (st9, .inl (tI, 192, .inl (iA (iN d))))]) hX (c_Ra_refuseUnlaid l D tI tJ tZ rz gr se ly wc cf dr ld wn xf cw hl) "RowAligner" 0 0 cf_Ra rfl yn_Ra_refuseUnlaid ml_Ra_131 im_Ra_refuseUnlaid se_Ra_refuseUnlaid co_Ra_refuseUnlaid in_Ra (by decide) (by decide) (by decide) [0] [1, 2] rfl rfl rfl rfl rfl (by decide) rfl rfl (Nat.le_of_ble_eq_true rfl) d_Ra_place_5 [2, 0, 1] rfl (w2 := fun _ => [(rz, .inr (0, [.ref gr, .ref se, .ref ly, .ref wc, .ref cf, .ref dr, .int (iI (bI (ld = true))), .int (iI (bI (wn = true))), .int (iI (bI (xf = true))), .long cw])), (ly, .inr (6, [.ref st9, .int (iI ((ln : Nat) : Int)), .int (iI ((sa : Nat) : Int)), .int (iI ((sb : Nat) : Int)), .int (iI ((ea : Nat) : Int)), .int (iI ((eb : Nat) : Int))])), (st9, .inl (tI, 192, .inl (iA (iN d))))]) (fun _ => rfl) (fun _ _ => ?_)
  refine r_iload_n hX 1 d_Ra_place_8 rfl ?_
  refine r_if_ne hX 34 d_Ra_place_9 (by decide) (by unfold iR; omega) (fun h9 => ?_) (fun h9 => by exfalso; omega)
  refine r_iload_n hX 2 d_Ra_place_34 rfl ?_
  have J55 : F 55 [(0, .ref rz), (1, .int (iI ((1 : Nat) : Int))), (2, .int (iI (bI (ex = true))))] [.int (iI ((if ex = true then eb else sb : Nat) : Int))] [(rz, .inr (0, [.ref gr, .ref se, .ref ly, .ref wc, .ref cf, .ref dr, .int (iI (bI (ld = true))), .int (iI (bI (wn = true))), .int (iI (bI (xf = true))), .long cw])), (ly, .inr (6, [.ref st9, .int (iI ((ln : Nat) : Int)), .int (iI ((sa : Nat) : Int)), .int (iI ((sb : Nat) : Int)), .int (iI ((ea : Nat) : Int)), .int (iI ((eb : Nat) : Int))])), (st9, .inl (tI, 192, .inl (iA (iN d))))] 0 0 := by
    exact r_iret hX hT () rfl rfl (by decide) (by decide) d_Ra_place_55
  refine rb_if_eq hX 48 d_Ra_place_35 (by decide) (fun h35 => ?_) (fun h35 => ?_)
  · refine r_aload_n hX 0 d_Ra_place_48 rfl ?_
    refine r_get hX cf_Ra 0 rfl 2 (by decide) fl_Ra_28 rfl d_Ra_place_49 ?_
    refine r_get hX cf_La 1 rfl 3 (by decide) fl_Ra_150 rfl d_Ra_place_52 ?_
    exact rj_e (by first | rw [if_pos h35] | rw [if_neg h35]) J55
  · refine r_aload_n hX 0 d_Ra_place_38 rfl ?_
    refine r_get hX cf_Ra 0 rfl 2 (by decide) fl_Ra_28 rfl d_Ra_place_39 ?_
    refine r_get hX cf_La 1 rfl 5 (by decide) fl_Ra_147 rfl d_Ra_place_42 ?_
    refine r_goto hX 55 d_Ra_place_45 (by decide) ?_
    exact rj_e (by first | rw [if_pos h35] | rw [if_neg h35]) J55

abbrev rm_Ra_draw : Room := { frames := 1, cells := 0, slots := 0, locals := 21 }
set_option maxHeartbeats 4000000 in
set_option maxRecDepth 100000 in
theorem c_Ra_draw (l : Launch) (D : va_G) (tI tJ tZ : ClassId) (rz : Nat) (gr : Nat) (se : Nat) (ly : Nat) (wc : Nat) (cf : Nat) (dr : Nat) (ld : Bool) (wn : Bool) (xf : Bool) (cw : Int64) (da : Nat) (dn : Nat) (d : Nat → Nat) (x : Nat) (hx : x < 3) (hn : dn < 200) : rCi l y_Ra_draw prog_1_method_19_code 2 .int rm_Ra_draw D (tysA tI tJ tZ) [.ref rz, .int (iI ((x : Nat) : Int))] [(rz, .inr (0, [.ref gr, .ref se, .ref ly, .ref wc, .ref cf, .ref dr, .int (iI (bI (ld = true))), .int (iI (bI (wn = true))), .int (iI (bI (xf = true))), .long cw])), (dr, .inr (9, [.ref da, .int (iI ((dn : Nat) : Int))])), (da, .inl (tI, 200, .inl (iA (iN d))))] (fun zz (_ : Unit) => zz = iI (((dn + 1 : Nat) : Int))) (fun (_ : Unit) => [(rz, .inr (0, [.ref gr, .ref se, .ref ly, .ref wc, .ref cf, .ref dr, .int (iI (bI (ld = true))), .int (iI (bI (wn = true))), .int (iI (bI (xf = true))), .long cw])), (dr, .inr (9, [.ref da, .int (iI ((dn + 1 : Nat) : Int))])), (da, .inl (tI, 200, .inl (iA (iN (iU d dn x)))))]) := by
  intro sz
  refine r_met (by decide) (Nat.le_of_ble_eq_true rfl) ?_
  intro F p e s m args below meth c Q A hX hT hAe hsz hin
  subst hAe
  replace hX : rOK F p l e rm_Ra_draw s m args below meth c Q prog_1_method_19_code 2 "RowAligner" D (tysA tI tJ tZ) _ := hX
  show F 0 [(0, .ref rz), (1, .int (iI ((x : Nat) : Int)))] [] [(rz, .inr (0, [.ref gr, .ref se, .ref ly, .ref wc, .ref cf, .ref dr, .int (iI (bI (ld = true))), .int (iI (bI (wn = true))), .int (iI (bI (xf = true))), .long cw])), (dr, .inr (9, [.ref da, .int (iI ((dn : Nat) : Int))])), (da, .inl (tI, 200, .inl (iA (iN d))))] 0 0
  refine r_iload_n hX 1 d_Ra_draw_0 rfl ?_
  refine r_if_lt hX 9 d_Ra_draw_1 (by decide) (by unfold iR; omega) (fun h1 => by exfalso; omega) (fun h1 => ?_)
  refine r_iload_n hX 1 d_Ra_draw_4 rfl ?_
  refine r_iconstN hX 3 d_Ra_draw_5 rfl ?_
  refine r_icmp_lt hX 17 d_Ra_draw_6 (by decide) (by unfold iR; omega) (by unfold iR; omega) (fun h6 => ?_) (fun h6 => by exfalso; omega)
  refine r_aload_n hX 0 d_Ra_draw_17 rfl ?_
  refine r_get hX cf_Ra 0 rfl 5 (by decide) fl_Ra_49 rfl d_Ra_draw_18 ?_
  refine r_get hX cf_Dr 1 rfl 1 (by decide) fl_Ra_201 rfl d_Ra_draw_21 ?_
  refine r_sipushN hX 200 d_Ra_draw_24 rfl (by decide) ?_
  refine r_icmp_lt hX 38 d_Ra_draw_27 (by decide) (by unfold iR; omega) (by unfold iR; omega) (fun h27 => ?_) (fun h27 => by exfalso; omega)
  refine r_aload_n hX 0 d_Ra_draw_38 rfl ?_
  refine r_get hX cf_Ra 0 rfl 5 (by decide) fl_Ra_49 rfl d_Ra_draw_39 ?_
  refine r_iload_n hX 1 d_Ra_draw_42 rfl ?_
  refine r_invV_v0 (st := []) (As := [.int (iI ((x : Nat) : Int))]) (wr := [(rz, .inr (0, [.ref gr, .ref se, .ref ly, .ref wc, .ref cf, .ref dr, .int (iI (bI (ld = true))), .int (iI (bI (wn = true))), .int (iI (bI (xf = true))), .long cw]))]) hX (c_Dr_append l D tI tJ tZ dr da dn d x hn) "RowAligner$Draft" 1 9 cf_Dr rfl yn_Dr_append ml_Ra_202 im_Dr_append se_Dr_append co_Dr_append in_Dr (by decide) (by decide) (by decide) [1, 2] [0] rfl rfl rfl rfl rfl (by decide) rfl rfl (Nat.le_of_ble_eq_true rfl) d_Ra_draw_43 [0, 1, 2] rfl (w2 := fun _ => [(rz, .inr (0, [.ref gr, .ref se, .ref ly, .ref wc, .ref cf, .ref dr, .int (iI (bI (ld = true))), .int (iI (bI (wn = true))), .int (iI (bI (xf = true))), .long cw])), (dr, .inr (9, [.ref da, .int (iI ((dn + 1 : Nat) : Int))])), (da, .inl (tI, 200, .inl (iA (iN (iU d dn x)))))]) (fun _ => rfl) (fun _ _ => ?_)
  refine r_aload_n hX 0 d_Ra_draw_46 rfl ?_
  refine r_get hX cf_Ra 0 rfl 5 (by decide) fl_Ra_49 rfl d_Ra_draw_47 ?_
  refine r_get hX cf_Dr 1 rfl 1 (by decide) fl_Ra_201 rfl d_Ra_draw_50 ?_
  exact r_iret hX hT () rfl rfl (by decide) (by decide) d_Ra_draw_53

abbrev rm_Ra_wipe : Room := { frames := 0, cells := 0, slots := 0, locals := 0 }
set_option maxHeartbeats 4000000 in
set_option maxRecDepth 100000 in
theorem c_Ra_wipe (l : Launch) (D : va_G) (tI tJ tZ : ClassId) (rz : Nat) (gr : Nat) (se : Nat) (ly : Nat) (wc : Nat) (cf : Nat) (dr : Nat) (ld : Bool) (wn : Bool) (xf : Bool) (cw : Int64) (da : Nat) (dn : Nat) (d : Nat → Nat) : rCi l y_Ra_wipe prog_1_method_20_code 2 .int rm_Ra_wipe D (tysA tI tJ tZ) [.ref rz] [(rz, .inr (0, [.ref gr, .ref se, .ref ly, .ref wc, .ref cf, .ref dr, .int (iI (bI (ld = true))), .int (iI (bI (wn = true))), .int (iI (bI (xf = true))), .long cw])), (dr, .inr (9, [.ref da, .int (iI ((dn : Nat) : Int))])), (da, .inl (tI, 200, .inl (iA (iN d))))] (fun zz (_ : Unit) => zz = iI (((dn : Nat) : Int))) (fun (_ : Unit) => [(rz, .inr (0, [.ref gr, .ref se, .ref ly, .ref wc, .ref cf, .ref dr, .int (iI (bI (ld = true))), .int (iI (bI (wn = true))), .int (iI (bI (xf = true))), .long cw])), (dr, .inr (9, [.ref da, .int (iI ((0 : Nat) : Int))])), (da, .inl (tI, 200, .inl (iA (iN d))))]) := by
  intro sz
  refine r_met (by decide) (Nat.le_of_ble_eq_true rfl) ?_
  intro F p e s m args below meth c Q A hX hT hAe hsz hin
  subst hAe
  replace hX : rOK F p l e rm_Ra_wipe s m args below meth c Q prog_1_method_20_code 2 "RowAligner" D (tysA tI tJ tZ) _ := hX
  show F 0 [(0, .ref rz)] [] [(rz, .inr (0, [.ref gr, .ref se, .ref ly, .ref wc, .ref cf, .ref dr, .int (iI (bI (ld = true))), .int (iI (bI (wn = true))), .int (iI (bI (xf = true))), .long cw])), (dr, .inr (9, [.ref da, .int (iI ((dn : Nat) : Int))])), (da, .inl (tI, 200, .inl (iA (iN d))))] 0 0
  refine r_aload_n hX 0 d_Ra_wipe_0 rfl ?_
  refine r_get hX cf_Ra 0 rfl 5 (by decide) fl_Ra_49 rfl d_Ra_wipe_1 ?_
  refine r_get hX cf_Dr 1 rfl 1 (by decide) fl_Ra_201 rfl d_Ra_wipe_4 ?_
  refine r_istore_n hX (lv' := [(1, .int (iI ((dn : Nat) : Int))), (0, .ref rz)]) d_Ra_wipe_7 rfl (by decide) rfl ?_
  refine r_aload_n hX 1 d_Ra_wipe_8 rfl ?_
  refine r_get hX cf_Ra 0 rfl 5 (by decide) fl_Ra_49 rfl d_Ra_wipe_9 ?_
  refine r_iconstN hX 0 d_Ra_wipe_12 rfl ?_
  refine r_put hX (ws' := [(rz, .inr (0, [.ref gr, .ref se, .ref ly, .ref wc, .ref cf, .ref dr, .int (iI (bI (ld = true))), .int (iI (bI (wn = true))), .int (iI (bI (xf = true))), .long cw])), (dr, .inr (9, [.ref da, .int (iI ((0 : Nat) : Int))])), (da, .inl (tI, 200, .inl (iA (iN d))))]) cf_Dr 1 rfl 1 (by decide) fl_Ra_201 rfl rfl rfl (Nat.le_of_ble_eq_true rfl) rfl d_Ra_wipe_13 ?_
  refine r_iload_n hX 0 d_Ra_wipe_16 rfl ?_
  exact r_iret hX hT () rfl rfl (by decide) (by decide) d_Ra_wipe_17

abbrev rm_Ra_worth : Room := { frames := 3, cells := 0, slots := 0, locals := 72 }
set_option maxHeartbeats 4000000 in
set_option maxRecDepth 100000 in
theorem c_Ra_worth (l : Launch) (D : va_G) (tI tJ tZ : ClassId) (rz : Nat) (gr : Nat) (se : Nat) (ly : Nat) (wc : Nat) (cf : Nat) (dr : Nat) (ld : Bool) (wn : Bool) (xf : Bool) (cw : Int64) (da : Nat) (dn : Nat) (d : Nat → Nat) (ra : Nat) (qa : Nat) (rb : Nat) (qb : Nat) (pr : Nat) (pa : Nat) (la : Nat) (lb : Nat) (LA : Nat → Nat) (LB : Nat → Nat) (SC : Nat → Int) (op : Int) (mo : Int) (x : Nat) (hH : raH la lb LA LB SC op mo x) (hn : dn ≤ 200) (hd : ∀ t, d t < 3) : rCi l y_Ra_worth prog_1_method_21_code 2 .int rm_Ra_worth D (tysA tI tJ tZ) [.ref rz, .int (iI ((x : Nat) : Int))] [(rz, .inr (0, [.ref gr, .ref se, .ref ly, .ref wc, .ref cf, .ref dr, .int (iI (bI (ld = true))), .int (iI (bI (wn = true))), .int (iI (bI (xf = true))), .long cw])), (dr, .inr (9, [.ref da, .int (iI ((dn : Nat) : Int))])), (da, .inl (tI, 200, .inl (iA (iN d)))), (gr, .inr (1, [.ref ra, .ref rb, .ref pr])), (ra, .inr (2, [.ref qa, .int (iI ((la : Nat) : Int))])), (qa, .inl (tI, 96, .inl (iA (iN LA)))), (rb, .inr (2, [.ref qb, .int (iI ((lb : Nat) : Int))])), (qb, .inl (tI, 96, .inl (iA (iN LB)))), (pr, .inr (3, [.ref pa, .int (iI op), .int (iI mo)])), (pa, .inl (tI, 676, .inl (iA SC)))] (fun zz (_ : Unit) => zz = iI ((ra_wo (ra_mk la lb LA LB SC op mo x false) d dn))) (fun (_ : Unit) => [(rz, .inr (0, [.ref gr, .ref se, .ref ly, .ref wc, .ref cf, .ref dr, .int (iI (bI (ld = true))), .int (iI (bI (wn = true))), .int (iI (bI (xf = true))), .long cw])), (dr, .inr (9, [.ref da, .int (iI ((dn : Nat) : Int))])), (da, .inl (tI, 200, .inl (iA (iN d)))), (gr, .inr (1, [.ref ra, .ref rb, .ref pr])), (ra, .inr (2, [.ref qa, .int (iI ((la : Nat) : Int))])), (qa, .inl (tI, 96, .inl (iA (iN LA)))), (rb, .inr (2, [.ref qb, .int (iI ((lb : Nat) : Int))])), (qb, .inl (tI, 96, .inl (iA (iN LB)))), (pr, .inr (3, [.ref pa, .int (iI op), .int (iI mo)])), (pa, .inl (tI, 676, .inl (iA SC)))]) := by
  intro sz
  refine r_met (by decide) (Nat.le_of_ble_eq_true rfl) ?_
  intro F p e s m args below meth c Q A hX hT hAe hsz hin
  subst hAe
  replace hX : rOK F p l e rm_Ra_worth s m args below meth c Q prog_1_method_21_code 2 "RowAligner" D (tysA tI tJ tZ) _ := hX
  have hx9 : x < 16 := hH.2.2.2.2.2.2.2.2.2
  show F 0 [(0, .ref rz), (1, .int (iI ((x : Nat) : Int)))] [] [(rz, .inr (0, [.ref gr, .ref se, .ref ly, .ref wc, .ref cf, .ref dr, .int (iI (bI (ld = true))), .int (iI (bI (wn = true))), .int (iI (bI (xf = true))), .long cw])), (dr, .inr (9, [.ref da, .int (iI ((dn : Nat) : Int))])), (da, .inl (tI, 200, .inl (iA (iN d)))), (gr, .inr (1, [.ref ra, .ref rb, .ref pr])), (ra, .inr (2, [.ref qa, .int (iI ((la : Nat) : Int))])), (qa, .inl (tI, 96, .inl (iA (iN LA)))), (rb, .inr (2, [.ref qb, .int (iI ((lb : Nat) : Int))])), (qb, .inl (tI, 96, .inl (iA (iN LB)))), (pr, .inr (3, [.ref pa, .int (iI op), .int (iI mo)])), (pa, .inl (tI, 676, .inl (iA SC)))] 0 0
  refine r_iload_n hX 1 d_Ra_worth_0 rfl ?_
  refine r_invS_v0 (st := []) (As := [.int (iI ((x : Nat) : Int))]) (wr := [(rz, .inr (0, [.ref gr, .ref se, .ref ly, .ref wc, .ref cf, .ref dr, .int (iI (bI (ld = true))), .int (iI (bI (wn = true))), .int (iI (bI (xf = true))), .long cw])), (dr, .inr (9, [.ref da, .int (iI ((dn : Nat) : Int))])), (da, .inl (tI, 200, .inl (iA (iN d)))), (gr, .inr (1, [.ref ra, .ref rb, .ref pr])), (ra, .inr (2, [.ref qa, .int (iI ((la : Nat) : Int))])), (qa, .inl (tI, 96, .inl (iA (iN LA)))), (rb, .inr (2, [.ref qb, .int (iI ((lb : Nat) : Int))])), (qb, .inl (tI, 96, .inl (iA (iN LB)))), (pr, .inr (3, [.ref pa, .int (iI op), .int (iI mo)])), (pa, .inl (tI, 676, .inl (iA SC)))]) hX (c_Ra_refuseOtherEnds l D tI tJ tZ x hx9) yn_Ra_refuseOtherEnds ml_Ra_118 st_Ra_refuseOtherEnds co_Ra_refuseOtherEnds in_Ra (by decide) (by decide) (by decide) [] [0, 1, 2, 3, 4, 5, 6, 7, 8, 9] rfl rfl rfl rfl rfl (by decide) rfl rfl (Nat.le_of_ble_eq_true rfl) d_Ra_worth_1 [0, 1, 2, 3, 4, 5, 6, 7, 8, 9] rfl (w2 := fun _ => [(rz, .inr (0, [.ref gr, .ref se, .ref ly, .ref wc, .ref cf, .ref dr, .int (iI (bI (ld = true))), .int (iI (bI (wn = true))), .int (iI (bI (xf = true))), .long cw])), (dr, .inr (9, [.ref da, .int (iI ((dn : Nat) : Int))])), (da, .inl (tI, 200, .inl (iA (iN d)))), (gr, .inr (1, [.ref ra, .ref rb, .ref pr])), (ra, .inr (2, [.ref qa, .int (iI ((la : Nat) : Int))])), (qa, .inl (tI, 96, .inl (iA (iN LA)))), (rb, .inr (2, [.ref qb, .int (iI ((lb : Nat) : Int))])), (qb, .inl (tI, 96, .inl (iA (iN LB)))), (pr, .inr (3, [.ref pa, .int (iI op), .int (iI mo)])), (pa, .inl (tI, 676, .inl (iA SC)))]) (fun _ => rfl) (fun _ _ => ?_)
  refine r_aload_n hX 0 d_Ra_worth_4 rfl ?_
  refine r_get hX cf_Ra 0 rfl 5 (by decide) fl_Ra_49 rfl d_Ra_worth_5 ?_
  refine r_aload_n hX 0 d_Ra_worth_8 rfl ?_
  refine r_get hX cf_Ra 0 rfl 0 (by decide) fl_Ra_12 rfl d_Ra_worth_9 ?_
  refine r_invV_i0 (st := []) (As := [.ref gr]) (wr := [(rz, .inr (0, [.ref gr, .ref se, .ref ly, .ref wc, .ref cf, .ref dr, .int (iI (bI (ld = true))), .int (iI (bI (wn = true))), .int (iI (bI (xf = true))), .long cw])), (qa, .inl (tI, 96, .inl (iA (iN LA)))), (qb, .inl (tI, 96, .inl (iA (iN LB)))), (pr, .inr (3, [.ref pa, .int (iI op), .int (iI mo)])), (pa, .inl (tI, 676, .inl (iA SC)))]) hX (c_Dr_isWholeLaying l D tI tJ tZ dr da dn d gr ra rb pr qa qb la lb hn hd hH.1 hH.2.1) "RowAligner$Draft" 1 9 cf_Dr rfl yn_Dr_isWholeLaying ml_Ra_203 im_Dr_isWholeLaying se_Dr_isWholeLaying co_Dr_isWholeLaying in_Dr (by decide) (by decide) (by decide) [1, 2, 3, 4, 6] [0, 5, 7, 8, 9] rfl rfl rfl rfl rfl (by decide) rfl rfl (Nat.le_of_ble_eq_true rfl) d_Ra_worth_12 [0, 5, 6, 7, 8, 1, 9, 2, 3, 4] rfl (w2 := fun _ => [(rz, .inr (0, [.ref gr, .ref se, .ref ly, .ref wc, .ref cf, .ref dr, .int (iI (bI (ld = true))), .int (iI (bI (wn = true))), .int (iI (bI (xf = true))), .long cw])), (dr, .inr (9, [.ref da, .int (iI ((dn : Nat) : Int))])), (da, .inl (tI, 200, .inl (iA (iN d)))), (gr, .inr (1, [.ref ra, .ref rb, .ref pr])), (ra, .inr (2, [.ref qa, .int (iI ((la : Nat) : Int))])), (qa, .inl (tI, 96, .inl (iA (iN LA)))), (rb, .inr (2, [.ref qb, .int (iI ((lb : Nat) : Int))])), (qb, .inl (tI, 96, .inl (iA (iN LB)))), (pr, .inr (3, [.ref pa, .int (iI op), .int (iI mo)])), (pa, .inl (tI, 676, .inl (iA SC)))]) (fun _ => rfl) (fun r12 _ e12 => ?_)
  subst e12
  have J35 : F 35 [(0, .ref rz), (1, .int (iI ((x : Nat) : Int)))] [.int (iI (ra_wo (ra_mk la lb LA LB SC op mo x false) d dn))] [(rz, .inr (0, [.ref gr, .ref se, .ref ly, .ref wc, .ref cf, .ref dr, .int (iI (bI (ld = true))), .int (iI (bI (wn = true))), .int (iI (bI (xf = true))), .long cw])), (dr, .inr (9, [.ref da, .int (iI ((dn : Nat) : Int))])), (da, .inl (tI, 200, .inl (iA (iN d)))), (gr, .inr (1, [.ref ra, .ref rb, .ref pr])), (ra, .inr (2, [.ref qa, .int (iI ((la : Nat) : Int))])), (qa, .inl (tI, 96, .inl (iA (iN LA)))), (rb, .inr (2, [.ref qb, .int (iI ((lb : Nat) : Int))])), (qb, .inl (tI, 96, .inl (iA (iN LB)))), (pr, .inr (3, [.ref pa, .int (iI op), .int (iI mo)])), (pa, .inl (tI, 676, .inl (iA SC)))] 0 0 := by
    exact r_iret hX hT () rfl rfl (by decide) (by decide) d_Ra_worth_35
  refine rb_if_eq hX 33 d_Ra_worth_15 (by decide) (fun h15 => ?_) (fun h15 => ?_)
  · refine r_ldc hX (-1000000) ct_Ra_211 (by decide) d_Ra_worth_33 ?_
    exact rj_e (by first | exact (if_pos h15).symm | exact (if_neg h15).symm) J35
  · refine r_aload_n hX 0 d_Ra_worth_18 rfl ?_
    refine r_get hX cf_Ra 0 rfl 5 (by decide) fl_Ra_49 rfl d_Ra_worth_19 ?_
    refine r_aload_n hX 0 d_Ra_worth_22 rfl ?_
    refine r_get hX cf_Ra 0 rfl 0 (by decide) fl_Ra_12 rfl d_Ra_worth_23 ?_
    refine r_iload_n hX 1 d_Ra_worth_26 rfl ?_
    refine r_invV_i0 (st := []) (As := [.ref gr, .int (iI ((x : Nat) : Int))]) (wr := [(rz, .inr (0, [.ref gr, .ref se, .ref ly, .ref wc, .ref cf, .ref dr, .int (iI (bI (ld = true))), .int (iI (bI (wn = true))), .int (iI (bI (xf = true))), .long cw]))]) hX (c_Dr_sumUp l D tI tJ tZ dr da dn d gr ra qa rb qb pr pa la lb LA LB SC op mo x false hH hn hd h15) "RowAligner$Draft" 1 9 cf_Dr rfl yn_Dr_sumUp ml_Ra_207 im_Dr_sumUp se_Dr_sumUp co_Dr_sumUp in_Dr (by decide) (by decide) (by decide) [1, 2, 3, 4, 5, 6, 7, 8, 9] [0] rfl rfl rfl rfl rfl (by decide) rfl rfl (Nat.le_of_ble_eq_true rfl) d_Ra_worth_27 [0, 1, 2, 3, 4, 5, 6, 7, 8, 9] rfl (w2 := fun _ => [(rz, .inr (0, [.ref gr, .ref se, .ref ly, .ref wc, .ref cf, .ref dr, .int (iI (bI (ld = true))), .int (iI (bI (wn = true))), .int (iI (bI (xf = true))), .long cw])), (dr, .inr (9, [.ref da, .int (iI ((dn : Nat) : Int))])), (da, .inl (tI, 200, .inl (iA (iN d)))), (gr, .inr (1, [.ref ra, .ref rb, .ref pr])), (ra, .inr (2, [.ref qa, .int (iI ((la : Nat) : Int))])), (qa, .inl (tI, 96, .inl (iA (iN LA)))), (rb, .inr (2, [.ref qb, .int (iI ((lb : Nat) : Int))])), (qb, .inl (tI, 96, .inl (iA (iN LB)))), (pr, .inr (3, [.ref pa, .int (iI op), .int (iI mo)])), (pa, .inl (tI, 676, .inl (iA SC)))]) (fun _ => rfl) (fun r27 _ e27 => ?_)
    subst e27
    refine r_goto hX 35 d_Ra_worth_30 (by decide) ?_
    exact rj_e (by first | exact (if_pos h15).symm | exact (if_neg h15).symm) J35
