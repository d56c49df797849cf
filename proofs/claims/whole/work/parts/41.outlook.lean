abbrev rm_Ou_worthThrough : Room := { frames := 0, cells := 0, slots := 0, locals := 0 }
set_option maxHeartbeats 4000000 in
set_option maxRecDepth 100000 in
theorem c_Ou_worthThrough (l : Launch) (D : va_G) (tI tJ tZ : ClassId) (h0 : Nat) (x1 : Int) (x2 : Int) (x3 : Int) (x4 : Int) (x5 : Int) (x6 : Int) (bb : Nat) (st : Nat) (hb : bb < 3) (hs : st < 3) : rCi l y_Ou_worthThrough prog_6_method_2_code 3 .int rm_Ou_worthThrough D (tysA tI tJ tZ) [.ref h0, .int (iI ((bb : Nat) : Int)), .int (iI ((st : Nat) : Int))] [(h0, .inr (5, [.int (iI x1), .int (iI x2), .int (iI x3), .int (iI x4), .int (iI x5), .int (iI x6)]))] (fun zz (_ : Unit) => zz = iI ((ra_wt bb st x2 x3 x4 x5 x6))) (fun (_ : Unit) => [(h0, .inr (5, [.int (iI x1), .int (iI x2), .int (iI x3), .int (iI x4), .int (iI x5), .int (iI x6)]))]) := by
  intro sz
  refine r_met (by decide) (Nat.le_of_ble_eq_true rfl) ?_
  intro F p e s m args below meth c Q A hX hT hAe hsz hin
  subst hAe
  replace hX : rOK F p l e rm_Ou_worthThrough s m args below meth c Q prog_6_method_2_code 3 "RowAligner$Outlook" D (tysA tI tJ tZ) _ := hX
  show F 0 [(0, .ref h0), (1, .int (iI ((bb : Nat) : Int))), (2, .int (iI ((st : Nat) : Int)))] [] [(h0, .inr (5, [.int (iI x1), .int (iI x2), .int (iI x3), .int (iI x4), .int (iI x5), .int (iI x6)]))] 0 0
  refine r_iload_n hX 2 d_Ou_worthThrough_0 rfl ?_
  refine r_if_ne hX 9 d_Ou_worthThrough_1 (by decide) (by unfold iR; omega) (fun h1 => ?_) (fun h1 => ?_)
  · refine r_iload_n hX 2 d_Ou_worthThrough_9 rfl ?_
    refine r_iconstN hX 1 d_Ou_worthThrough_10 rfl ?_
    refine r_icmp_ne hX 36 d_Ou_worthThrough_11 (by decide) (by unfold iR; omega) (by unfold iR; omega) (fun h11 => ?_) (fun h11 => ?_)
    · refine r_iload_n hX 1 d_Ou_worthThrough_36 rfl ?_
      refine r_iconstN hX 2 d_Ou_worthThrough_37 rfl ?_
      have J57 : F 57 [(0, .ref h0), (1, .int (iI ((bb : Nat) : Int))), (2, .int (iI ((st : Nat) : Int)))] [.int (iI (ra_wt bb st x2 x3 x4 x5 x6))] [(h0, .inr (5, [.int (iI x1), .int (iI x2), .int (iI x3), .int (iI x4), .int (iI x5), .int (iI x6)]))] 0 0 := by
        exact r_iret hX hT () rfl rfl (by decide) (by decide) d_Ou_worthThrough_57
      refine r_icmp_ne hX 48 d_Ou_worthThrough_38 (by decide) (by unfold iR; omega) (by unfold iR; omega) (fun h38 => ?_) (fun h38 => ?_)
      · refine r_aload_n hX 0 d_Ou_worthThrough_48 rfl ?_
        refine r_get hX cf_Ou 0 rfl 3 (by decide) fl_Ou_21 rfl d_Ou_worthThrough_49 ?_
        refine r_aload_n hX 0 d_Ou_worthThrough_52 rfl ?_
        refine r_get hX cf_Ou 0 rfl 5 (by decide) fl_Ou_24 rfl d_Ou_worthThrough_53 ?_
        refine r_isub hX d_Ou_worthThrough_56 ?_
        exact rj_e (by unfold ra_wt ra_t2; rw [if_neg (by omega), if_neg (by omega)]; first | rw [if_pos (by omega)] | rw [if_neg (by omega)]) J57
      · refine r_aload_n hX 0 d_Ou_worthThrough_41 rfl ?_
        refine r_get hX cf_Ou 0 rfl 3 (by decide) fl_Ou_21 rfl d_Ou_worthThrough_42 ?_
        refine r_goto hX 57 d_Ou_worthThrough_45 (by decide) ?_
        exact rj_e (by unfold ra_wt ra_t2; rw [if_neg (by omega), if_neg (by omega)]; first | rw [if_pos (by omega)] | rw [if_neg (by omega)]) J57
    · refine r_iload_n hX 1 d_Ou_worthThrough_14 rfl ?_
      refine r_iconstN hX 1 d_Ou_worthThrough_15 rfl ?_
      have J35 : F 35 [(0, .ref h0), (1, .int (iI ((bb : Nat) : Int))), (2, .int (iI ((st : Nat) : Int)))] [.int (iI (ra_wt bb st x2 x3 x4 x5 x6))] [(h0, .inr (5, [.int (iI x1), .int (iI x2), .int (iI x3), .int (iI x4), .int (iI x5), .int (iI x6)]))] 0 0 := by
        exact r_iret hX hT () rfl rfl (by decide) (by decide) d_Ou_worthThrough_35
      refine r_icmp_ne hX 26 d_Ou_worthThrough_16 (by decide) (by unfold iR; omega) (by unfold iR; omega) (fun h16 => ?_) (fun h16 => ?_)
      · refine r_aload_n hX 0 d_Ou_worthThrough_26 rfl ?_
        refine r_get hX cf_Ou 0 rfl 2 (by decide) fl_Ou_15 rfl d_Ou_worthThrough_27 ?_
        refine r_aload_n hX 0 d_Ou_worthThrough_30 rfl ?_
        refine r_get hX cf_Ou 0 rfl 4 (by decide) fl_Ou_18 rfl d_Ou_worthThrough_31 ?_
        refine r_isub hX d_Ou_worthThrough_34 ?_
        exact rj_e (by unfold ra_wt ra_t1; rw [if_neg (by omega), if_pos (by omega)]; first | rw [if_pos (by omega)] | rw [if_neg (by omega)]) J35
      · refine r_aload_n hX 0 d_Ou_worthThrough_19 rfl ?_
        refine r_get hX cf_Ou 0 rfl 2 (by decide) fl_Ou_15 rfl d_Ou_worthThrough_20 ?_
        refine r_goto hX 35 d_Ou_worthThrough_23 (by decide) ?_
        exact rj_e (by unfold ra_wt ra_t1; rw [if_neg (by omega), if_pos (by omega)]; first | rw [if_pos (by omega)] | rw [if_neg (by omega)]) J35
  · refine r_aload_n hX 0 d_Ou_worthThrough_4 rfl ?_
    refine r_get hX cf_Ou 0 rfl 1 (by decide) fl_Ou_9 rfl d_Ou_worthThrough_5 ?_
    exact r_iret hX hT () (congrArg iI (by unfold ra_wt; rw [if_pos (by omega)])) rfl (by decide) (by decide) d_Ou_worthThrough_8

abbrev rm_Ou_greatestWorth : Room := { frames := 0, cells := 0, slots := 0, locals := 0 }
set_option maxHeartbeats 4000000 in
set_option maxRecDepth 100000 in
theorem c_Ou_greatestWorth (l : Launch) (D : va_G) (tI tJ tZ : ClassId) (h0 : Nat) (x1 : Int) (x2 : Int) (x3 : Int) (x4 : Int) (x5 : Int) (x6 : Int) (bb : Nat) (hb : bb < 3) (hx1 : raX x1) (hx2 : raX x2) (hx3 : raX x3) (hx4 : raX x4) (hx5 : raX x5) (hx6 : raX x6) : rCi l y_Ou_greatestWorth prog_6_method_3_code 5 .int rm_Ou_greatestWorth D (tysA tI tJ tZ) [.ref h0, .int (iI ((bb : Nat) : Int))] [(h0, .inr (5, [.int (iI x1), .int (iI x2), .int (iI x3), .int (iI x4), .int (iI x5), .int (iI x6)]))] (fun zz (_ : Unit) => zz = iI ((ra_gw bb x1 x2 x3 x4 x5 x6))) (fun (_ : Unit) => [(h0, .inr (5, [.int (iI x1), .int (iI x2), .int (iI x3), .int (iI x4), .int (iI x5), .int (iI x6)]))]) := by
  intro sz
  refine r_met (by decide) (Nat.le_of_ble_eq_true rfl) ?_
  intro F p e s m args below meth c Q A hX hT hAe hsz hin
  subst hAe
  replace hX : rOK F p l e rm_Ou_greatestWorth s m args below meth c Q prog_6_method_3_code 5 "RowAligner$Outlook" D (tysA tI tJ tZ) _ := hX
  unfold raX at hx1 hx2 hx3 hx4 hx5 hx6
  have ht1 : -400000000 ≤ ra_t1 bb x3 x5 ∧ ra_t1 bb x3 x5 ≤ 400000000 := by unfold ra_t1; split <;> omega
  have ht2 : -400000000 ≤ ra_t2 bb x4 x6 ∧ ra_t2 bb x4 x6 ≤ 400000000 := by unfold ra_t2; split <;> omega
  show F 0 [(0, .ref h0), (1, .int (iI ((bb : Nat) : Int)))] [] [(h0, .inr (5, [.int (iI x1), .int (iI x2), .int (iI x3), .int (iI x4), .int (iI x5), .int (iI x6)]))] 0 0
  refine r_aload_n hX 0 d_Ou_greatestWorth_0 rfl ?_
  refine r_get hX cf_Ou 0 rfl 0 (by decide) fl_Ou_27 rfl d_Ou_greatestWorth_1 ?_
  refine r_aload_n hX 0 d_Ou_greatestWorth_4 rfl ?_
  refine r_get hX cf_Ou 0 rfl 1 (by decide) fl_Ou_9 rfl d_Ou_greatestWorth_5 ?_
  have J22 : F 22 [(0, .ref h0), (1, .int (iI ((bb : Nat) : Int)))] [.int (iI (max x1 x2))] [(h0, .inr (5, [.int (iI x1), .int (iI x2), .int (iI x3), .int (iI x4), .int (iI x5), .int (iI x6)]))] 0 0 := by
    refine r_istore_n hX (lv' := [(2, .int (iI (max x1 x2))), (0, .ref h0), (1, .int (iI ((bb : Nat) : Int)))]) d_Ou_greatestWorth_22 rfl (by decide) rfl ?_
    refine r_iload_n hX 2 d_Ou_greatestWorth_23 rfl ?_
    refine r_iconstN hX 1 d_Ou_greatestWorth_24 rfl ?_
    have J44 : F 44 [(2, .int (iI (max x1 x2))), (0, .ref h0), (1, .int (iI ((bb : Nat) : Int)))] [.int (iI (ra_t1 bb x3 x5))] [(h0, .inr (5, [.int (iI x1), .int (iI x2), .int (iI x3), .int (iI x4), .int (iI x5), .int (iI x6)]))] 0 0 := by
      refine r_istore_n hX (lv' := [(3, .int (iI (ra_t1 bb x3 x5))), (2, .int (iI (max x1 x2))), (0, .ref h0), (1, .int (iI ((bb : Nat) : Int)))]) d_Ou_greatestWorth_44 rfl (by decide) rfl ?_
      refine r_iload_n hX 3 d_Ou_greatestWorth_45 rfl ?_
      refine r_iconstN hX 2 d_Ou_greatestWorth_46 rfl ?_
      have J66 : F 66 [(3, .int (iI (ra_t1 bb x3 x5))), (2, .int (iI (max x1 x2))), (0, .ref h0), (1, .int (iI ((bb : Nat) : Int)))] [.int (iI (ra_t2 bb x4 x6))] [(h0, .inr (5, [.int (iI x1), .int (iI x2), .int (iI x3), .int (iI x4), .int (iI x5), .int (iI x6)]))] 0 0 := by
        refine r_istore hX (lv' := [(4, .int (iI (ra_t2 bb x4 x6))), (3, .int (iI (ra_t1 bb x3 x5))), (2, .int (iI (max x1 x2))), (0, .ref h0), (1, .int (iI ((bb : Nat) : Int)))]) d_Ou_greatestWorth_66 (by decide) rfl ?_
        refine r_iload_n hX 1 d_Ou_greatestWorth_68 rfl ?_
        refine r_iload_n hX 2 d_Ou_greatestWorth_69 rfl ?_
        have J78 : F 78 [(4, .int (iI (ra_t2 bb x4 x6))), (3, .int (iI (ra_t1 bb x3 x5))), (2, .int (iI (max x1 x2))), (0, .ref h0), (1, .int (iI ((bb : Nat) : Int)))] [.int (iI (max (max x1 x2) (ra_t1 bb x3 x5)))] [(h0, .inr (5, [.int (iI x1), .int (iI x2), .int (iI x3), .int (iI x4), .int (iI x5), .int (iI x6)]))] 0 0 := by
          refine r_istore_n hX (lv' := [(2, .int (iI (max (max x1 x2) (ra_t1 bb x3 x5)))), (4, .int (iI (ra_t2 bb x4 x6))), (3, .int (iI (ra_t1 bb x3 x5))), (0, .ref h0), (1, .int (iI ((bb : Nat) : Int)))]) d_Ou_greatestWorth_78 rfl (by decide) rfl ?_
          refine r_iload hX 1 d_Ou_greatestWorth_79 rfl ?_
          refine r_iload_n hX 0 d_Ou_greatestWorth_81 rfl ?_
          have J91 : F 91 [(2, .int (iI (max (max x1 x2) (ra_t1 bb x3 x5)))), (4, .int (iI (ra_t2 bb x4 x6))), (3, .int (iI (ra_t1 bb x3 x5))), (0, .ref h0), (1, .int (iI ((bb : Nat) : Int)))] [.int (iI (ra_gw bb x1 x2 x3 x4 x5 x6))] [(h0, .inr (5, [.int (iI x1), .int (iI x2), .int (iI x3), .int (iI x4), .int (iI x5), .int (iI x6)]))] 0 0 := by
            exact r_iret hX hT () rfl rfl (by decide) (by decide) d_Ou_greatestWorth_91
          refine r_icmp_le hX 90 d_Ou_greatestWorth_82 (by decide) (by unfold iR; omega) (by unfold iR; omega) (fun h82 => ?_) (fun h82 => ?_)
          · refine r_iload_n hX 0 d_Ou_greatestWorth_90 rfl ?_
            exact rj_e (by unfold ra_gw; omega) J91
          · refine r_iload hX 1 d_Ou_greatestWorth_85 rfl ?_
            refine r_goto hX 91 d_Ou_greatestWorth_87 (by decide) ?_
            exact rj_e (by unfold ra_gw; omega) J91
        refine r_icmp_le hX 77 d_Ou_greatestWorth_70 (by decide) (by unfold iR; omega) (by unfold iR; omega) (fun h70 => ?_) (fun h70 => ?_)
        · refine r_iload_n hX 2 d_Ou_greatestWorth_77 rfl ?_
          exact rj_e (by omega) J78
        · refine r_iload_n hX 1 d_Ou_greatestWorth_73 rfl ?_
          refine r_goto hX 78 d_Ou_greatestWorth_74 (by decide) ?_
          exact rj_e (by omega) J78
      refine r_icmp_ne hX 57 d_Ou_greatestWorth_47 (by decide) (by unfold iR; omega) (by unfold iR; omega) (fun h47 => ?_) (fun h47 => ?_)
      · refine r_aload_n hX 2 d_Ou_greatestWorth_57 rfl ?_
        refine r_get hX cf_Ou 0 rfl 3 (by decide) fl_Ou_21 rfl d_Ou_greatestWorth_58 ?_
        refine r_aload_n hX 2 d_Ou_greatestWorth_61 rfl ?_
        refine r_get hX cf_Ou 0 rfl 5 (by decide) fl_Ou_24 rfl d_Ou_greatestWorth_62 ?_
        refine r_isub hX d_Ou_greatestWorth_65 ?_
        exact rj_e (by unfold ra_t2; first | rw [if_pos (by omega)] | rw [if_neg (by omega)]) J66
      · refine r_aload_n hX 2 d_Ou_greatestWorth_50 rfl ?_
        refine r_get hX cf_Ou 0 rfl 3 (by decide) fl_Ou_21 rfl d_Ou_greatestWorth_51 ?_
        refine r_goto hX 66 d_Ou_greatestWorth_54 (by decide) ?_
        exact rj_e (by unfold ra_t2; first | rw [if_pos (by omega)] | rw [if_neg (by omega)]) J66
    refine r_icmp_ne hX 35 d_Ou_greatestWorth_25 (by decide) (by unfold iR; omega) (by unfold iR; omega) (fun h25 => ?_) (fun h25 => ?_)
    · refine r_aload_n hX 1 d_Ou_greatestWorth_35 rfl ?_
      refine r_get hX cf_Ou 0 rfl 2 (by decide) fl_Ou_15 rfl d_Ou_greatestWorth_36 ?_
      refine r_aload_n hX 1 d_Ou_greatestWorth_39 rfl ?_
      refine r_get hX cf_Ou 0 rfl 4 (by decide) fl_Ou_18 rfl d_Ou_greatestWorth_40 ?_
      refine r_isub hX d_Ou_greatestWorth_43 ?_
      exact rj_e (by unfold ra_t1; first | rw [if_pos (by omega)] | rw [if_neg (by omega)]) J44
    · refine r_aload_n hX 1 d_Ou_greatestWorth_28 rfl ?_
      refine r_get hX cf_Ou 0 rfl 2 (by decide) fl_Ou_15 rfl d_Ou_greatestWorth_29 ?_
      refine r_goto hX 44 d_Ou_greatestWorth_32 (by decide) ?_
      exact rj_e (by unfold ra_t1; first | rw [if_pos (by omega)] | rw [if_neg (by omega)]) J44
  refine r_icmp_le hX 18 d_Ou_greatestWorth_8 (by decide) (by unfold iR; omega) (by unfold iR; omega) (fun h8 => ?_) (fun h8 => ?_)
  · refine r_aload_n hX 0 d_Ou_greatestWorth_18 rfl ?_
    refine r_get hX cf_Ou 0 rfl 1 (by decide) fl_Ou_9 rfl d_Ou_greatestWorth_19 ?_
    exact rj_e (by omega) J22
  · refine r_aload_n hX 0 d_Ou_greatestWorth_11 rfl ?_
    refine r_get hX cf_Ou 0 rfl 0 (by decide) fl_Ou_27 rfl d_Ou_greatestWorth_12 ?_
    refine r_goto hX 22 d_Ou_greatestWorth_15 (by decide) ?_
    exact rj_e (by omega) J22

abbrev rm_Ou_firstBestStep : Room := { frames := 1, cells := 0, slots := 0, locals := 24 }
set_option maxHeartbeats 4000000 in
set_option maxRecDepth 100000 in
theorem c_Ou_firstBestStep (l : Launch) (D : va_G) (tI tJ tZ : ClassId) (h0 : Nat) (x1 : Int) (x2 : Int) (x3 : Int) (x4 : Int) (x5 : Int) (x6 : Int) (bb : Nat) (hb : bb < 3) (hx1 : raX x1) (hx2 : raX x2) (hx3 : raX x3) (hx4 : raX x4) (hx5 : raX x5) (hx6 : raX x6) : rCi l y_Ou_firstBestStep prog_6_method_4_code 4 .int rm_Ou_firstBestStep D (tysA tI tJ tZ) [.ref h0, .int (iI ((bb : Nat) : Int))] [(h0, .inr (5, [.int (iI x1), .int (iI x2), .int (iI x3), .int (iI x4), .int (iI x5), .int (iI x6)]))] (fun zz (_ : Unit) => zz = iI ((ra_fb bb x1 x2 x3 x4 x5 x6))) (fun (_ : Unit) => [(h0, .inr (5, [.int (iI x1), .int (iI x2), .int (iI x3), .int (iI x4), .int (iI x5), .int (iI x6)]))]) := by
  intro sz
  refine r_met (by decide) (Nat.le_of_ble_eq_true rfl) ?_
  intro F p e s m args below meth c Q A hX hT hAe hsz hin
  subst hAe
  replace hX : rOK F p l e rm_Ou_firstBestStep s m args below meth c Q prog_6_method_4_code 4 "RowAligner$Outlook" D (tysA tI tJ tZ) _ := hX
  show F 0 [(0, .ref h0), (1, .int (iI ((bb : Nat) : Int)))] [] [(h0, .inr (5, [.int (iI x1), .int (iI x2), .int (iI x3), .int (iI x4), .int (iI x5), .int (iI x6)]))] 0 0
  refine r_aload_n hX 0 d_Ou_firstBestStep_0 rfl ?_
  refine r_iload_n hX 1 d_Ou_firstBestStep_1 rfl ?_
  refine r_invV_i0 (st := []) (As := [.int (iI ((bb : Nat) : Int))]) (wr := []) hX (c_Ou_greatestWorth l D tI tJ tZ h0 x1 x2 x3 x4 x5 x6 bb hb hx1 hx2 hx3 hx4 hx5 hx6) "RowAligner$Outlook" 0 5 cf_Ou rfl yn_Ou_greatestWorth ml_Ou_30 im_Ou_greatestWorth se_Ou_greatestWorth co_Ou_greatestWorth in_Ou (by decide) (by decide) (by decide) [0] [] rfl rfl rfl rfl rfl (by decide) rfl rfl (Nat.le_of_ble_eq_true rfl) d_Ou_firstBestStep_2 [0] rfl (w2 := fun _ => [(h0, .inr (5, [.int (iI x1), .int (iI x2), .int (iI x3), .int (iI x4), .int (iI x5), .int (iI x6)]))]) (fun _ => rfl) (fun r2 _ e2 => ?_)
  subst e2
  refine r_istore_n hX (lv' := [(2, .int (iI (ra_gw bb x1 x2 x3 x4 x5 x6))), (0, .ref h0), (1, .int (iI ((bb : Nat) : Int)))]) d_Ou_firstBestStep_5 rfl (by decide) rfl ?_
  unfold raX at hx1 hx2 hx3 hx4 hx5 hx6
  have ht1 : -400000000 ≤ ra_t1 bb x3 x5 ∧ ra_t1 bb x3 x5 ≤ 400000000 := by unfold ra_t1; split <;> omega
  have ht2 : -400000000 ≤ ra_t2 bb x4 x6 ∧ ra_t2 bb x4 x6 ≤ 400000000 := by unfold ra_t2; split <;> omega
  have hg : -500000000 ≤ ra_gw bb x1 x2 x3 x4 x5 x6 ∧ ra_gw bb x1 x2 x3 x4 x5 x6 ≤ 500000000 := by unfold ra_gw; omega
  have hw0 : ra_wt bb 0 x2 x3 x4 x5 x6 = x2 := rfl
  have hw1 : ra_wt bb (0 + 1) x2 x3 x4 x5 x6 = ra_t1 bb x3 x5 := rfl
  refine r_aload_n hX 1 d_Ou_firstBestStep_6 rfl ?_
  refine r_get hX cf_Ou 0 rfl 0 (by decide) fl_Ou_27 rfl d_Ou_firstBestStep_7 ?_
  refine r_iload_n hX 0 d_Ou_firstBestStep_10 rfl ?_
  refine r_icmp_ne hX 16 d_Ou_firstBestStep_11 (by decide) (by unfold iR; omega) (by unfold iR; omega) (fun h11 => ?_) (fun h11 => ?_)
  · refine r_iconstN hX 0 d_Ou_firstBestStep_16 rfl ?_
    refine r_istore_n hX (lv' := [(3, .int (iI ((0 : Nat) : Int))), (2, .int (iI (ra_gw bb x1 x2 x3 x4 x5 x6))), (0, .ref h0), (1, .int (iI ((bb : Nat) : Int)))]) d_Ou_firstBestStep_17 rfl (by decide) rfl ?_
    refine r_iload_n hX 0 d_Ou_firstBestStep_18 rfl ?_
    refine r_iconstN hX 2 d_Ou_firstBestStep_19 rfl ?_
    refine r_icmp_ge hX 41 d_Ou_firstBestStep_20 (by decide) (by unfold iR; omega) (by unfold iR; omega) (fun h20 => by exfalso; omega) (fun h20 => ?_)
    refine r_aload_n hX 2 d_Ou_firstBestStep_23 rfl ?_
    refine r_iload_n hX 3 d_Ou_firstBestStep_24 rfl ?_
    refine r_iload_n hX 0 d_Ou_firstBestStep_25 rfl ?_
    refine r_invV_i0 (st := []) (As := [.int (iI ((bb : Nat) : Int)), .int (iI ((0 : Nat) : Int))]) (wr := []) hX (c_Ou_worthThrough l D tI tJ tZ h0 x1 x2 x3 x4 x5 x6 bb 0 hb (by omega)) "RowAligner$Outlook" 0 5 cf_Ou rfl yn_Ou_worthThrough ml_Ou_34 im_Ou_worthThrough se_Ou_worthThrough co_Ou_worthThrough in_Ou (by decide) (by decide) (by decide) [0] [] rfl rfl rfl rfl rfl (by decide) rfl rfl (Nat.le_of_ble_eq_true rfl) d_Ou_firstBestStep_26 [0] rfl (w2 := fun _ => [(h0, .inr (5, [.int (iI x1), .int (iI x2), .int (iI x3), .int (iI x4), .int (iI x5), .int (iI x6)]))]) (fun _ => rfl) (fun r26 _ e26 => ?_)
    subst e26
    refine r_iload_n hX 1 d_Ou_firstBestStep_29 rfl ?_
    refine r_icmp_ne hX 35 d_Ou_firstBestStep_30 (by decide) (by unfold iR; omega) (by unfold iR; omega) (fun h30 => ?_) (fun h30 => ?_)
    · refine r_iincN hX (lv' := [(3, .int (iI ((0 + 1 : Nat) : Int))), (2, .int (iI (ra_gw bb x1 x2 x3 x4 x5 x6))), (0, .ref h0), (1, .int (iI ((bb : Nat) : Int)))]) 0 d_Ou_firstBestStep_35 rfl (by decide) rfl ?_
      refine r_goto hX 18 d_Ou_firstBestStep_38 (by decide) ?_
      refine r_iload_n hX 0 d_Ou_firstBestStep_18 rfl ?_
      refine r_iconstN hX 2 d_Ou_firstBestStep_19 rfl ?_
      refine r_icmp_ge hX 41 d_Ou_firstBestStep_20 (by decide) (by unfold iR; omega) (by unfold iR; omega) (fun h20 => by exfalso; omega) (fun h20 => ?_)
      refine r_aload_n hX 2 d_Ou_firstBestStep_23 rfl ?_
      refine r_iload_n hX 3 d_Ou_firstBestStep_24 rfl ?_
      refine r_iload_n hX 0 d_Ou_firstBestStep_25 rfl ?_
      refine r_invV_i0 (st := []) (As := [.int (iI ((bb : Nat) : Int)), .int (iI ((0 + 1 : Nat) : Int))]) (wr := []) hX (c_Ou_worthThrough l D tI tJ tZ h0 x1 x2 x3 x4 x5 x6 bb (0 + 1) hb (by omega)) "RowAligner$Outlook" 0 5 cf_Ou rfl yn_Ou_worthThrough ml_Ou_34 im_Ou_worthThrough se_Ou_worthThrough co_Ou_worthThrough in_Ou (by decide) (by decide) (by decide) [0] [] rfl rfl rfl rfl rfl (by decide) rfl rfl (Nat.le_of_ble_eq_true rfl) d_Ou_firstBestStep_26 [0] rfl (w2 := fun _ => [(h0, .inr (5, [.int (iI x1), .int (iI x2), .int (iI x3), .int (iI x4), .int (iI x5), .int (iI x6)]))]) (fun _ => rfl) (fun r26 _ e26 => ?_)
      subst e26
      refine r_iload_n hX 1 d_Ou_firstBestStep_29 rfl ?_
      refine r_icmp_ne hX 35 d_Ou_firstBestStep_30 (by decide) (by unfold iR; omega) (by unfold iR; omega) (fun h30 => ?_) (fun h30 => ?_)
      · refine r_iincN hX (lv' := [(3, .int (iI ((0 + 1 + 1 : Nat) : Int))), (2, .int (iI (ra_gw bb x1 x2 x3 x4 x5 x6))), (0, .ref h0), (1, .int (iI ((bb : Nat) : Int)))]) 0 d_Ou_firstBestStep_35 rfl (by decide) rfl ?_
        refine r_goto hX 18 d_Ou_firstBestStep_38 (by decide) ?_
        refine r_iload_n hX 0 d_Ou_firstBestStep_18 rfl ?_
        refine r_iconstN hX 2 d_Ou_firstBestStep_19 rfl ?_
        refine r_icmp_ge hX 41 d_Ou_firstBestStep_20 (by decide) (by unfold iR; omega) (by unfold iR; omega) (fun h20 => ?_) (fun h20 => by exfalso; omega)
        have hr : ra_fb bb x1 x2 x3 x4 x5 x6 = 2 := by unfold ra_fb; rw [if_neg (by omega), if_neg (by omega), if_neg (by omega)]
        refine r_iconstN hX 2 d_Ou_firstBestStep_41 rfl ?_
        exact r_iret hX hT () (congrArg iI (by omega)) rfl (by decide) (by decide) d_Ou_firstBestStep_42
      · refine r_iload_n hX 0 d_Ou_firstBestStep_33 rfl ?_
        exact r_iret hX hT () (congrArg iI (by unfold ra_fb; rw [if_neg (by omega)]; first | rw [if_pos (by omega)]; rfl | rw [if_neg (by omega), if_pos (by omega)]; rfl)) rfl (by decide) (by decide) d_Ou_firstBestStep_34
    · refine r_iload_n hX 0 d_Ou_firstBestStep_33 rfl ?_
      exact r_iret hX hT () (congrArg iI (by unfold ra_fb; rw [if_neg (by omega)]; first | rw [if_pos (by omega)]; rfl | rw [if_neg (by omega), if_pos (by omega)]; rfl)) rfl (by decide) (by decide) d_Ou_firstBestStep_34
  · have hr : ra_fb bb x1 x2 x3 x4 x5 x6 = -1 := by unfold ra_fb; rw [if_pos (by omega)]
    refine r_iconst hX d_Ou_firstBestStep_14 ?_
    exact r_iret hX hT () (congrArg iI (by omega)) rfl (by decide) (by decide) d_Ou_firstBestStep_15

abbrev rm_Gr_pairScore : Room := { frames := 1, cells := 0, slots := 0, locals := 22 }
set_option maxHeartbeats 4000000 in
set_option maxRecDepth 100000 in
theorem c_Gr_pairScore (l : Launch) (D : va_G) (tI tJ tZ : ClassId) (gr : Nat) (ra : Nat) (qa : Nat) (rb : Nat) (qb : Nat) (pr : Nat) (pa : Nat) (la : Nat) (lb : Nat) (LA : Nat → Nat) (LB : Nat → Nat) (SC : Nat → Int) (op : Int) (mo : Int) (i : Nat) (j : Nat) (hA : ∀ k, LA k < 26) (hB : ∀ k, LB k < 26) (hi : i < 96) (hj : j < 96) : rCi l y_Gr_pairScore prog_4_method_2_code 3 .int rm_Gr_pairScore D (tysA tI tJ tZ) [.ref gr, .int (iI ((i : Nat) : Int)), .int (iI ((j : Nat) : Int))] [(gr, .inr (1, [.ref ra, .ref rb, .ref pr])), (ra, .inr (2, [.ref qa, .int (iI ((la : Nat) : Int))])), (qa, .inl (tI, 96, .inl (iA (iN LA)))), (rb, .inr (2, [.ref qb, .int (iI ((lb : Nat) : Int))])), (qb, .inl (tI, 96, .inl (iA (iN LB)))), (pr, .inr (3, [.ref pa, .int (iI op), .int (iI mo)])), (pa, .inl (tI, 676, .inl (iA SC)))] (fun zz (_ : Unit) => zz = iI ((SC (LA i * 26 + LB j)))) (fun (_ : Unit) => [(gr, .inr (1, [.ref ra, .ref rb, .ref pr])), (ra, .inr (2, [.ref qa, .int (iI ((la : Nat) : Int))])), (qa, .inl (tI, 96, .inl (iA (iN LA)))), (rb, .inr (2, [.ref qb, .int (iI ((lb : Nat) : Int))])), (qb, .inl (tI, 96, .inl (iA (iN LB)))), (pr, .inr (3, [.ref pa, .int (iI op), .int (iI mo)])), (pa, .inl (tI, 676, .inl (iA SC)))]) := by
  intro sz
  refine r_met (by decide) (Nat.le_of_ble_eq_true rfl) ?_
  intro F p e s m args below meth c Q A hX hT hAe hsz hin
  subst hAe
  replace hX : rOK F p l e rm_Gr_pairScore s m args below meth c Q prog_4_method_2_code 3 "RowAligner$Ground" D (tysA tI tJ tZ) _ := hX
  show F 0 [(0, .ref gr), (1, .int (iI ((i : Nat) : Int))), (2, .int (iI ((j : Nat) : Int)))] [] [(gr, .inr (1, [.ref ra, .ref rb, .ref pr])), (ra, .inr (2, [.ref qa, .int (iI ((la : Nat) : Int))])), (qa, .inl (tI, 96, .inl (iA (iN LA)))), (rb, .inr (2, [.ref qb, .int (iI ((lb : Nat) : Int))])), (qb, .inl (tI, 96, .inl (iA (iN LB)))), (pr, .inr (3, [.ref pa, .int (iI op), .int (iI mo)])), (pa, .inl (tI, 676, .inl (iA SC)))] 0 0
  refine r_aload_n hX 0 d_Gr_pairScore_0 rfl ?_
  refine r_get hX cf_Gr 0 rfl 2 (by decide) fl_Gr_24 rfl d_Gr_pairScore_1 ?_
  refine r_aload_n hX 0 d_Gr_pairScore_4 rfl ?_
  refine r_get hX cf_Gr 0 rfl 0 (by decide) fl_Gr_12 rfl d_Gr_pairScore_5 ?_
  refine r_get hX cf_Ro 1 rfl 0 (by decide) fl_Gr_28 rfl d_Gr_pairScore_8 ?_
  refine r_iload_n hX 1 d_Gr_pairScore_11 rfl ?_
  refine r_ialdN hX 2 0 rfl rfl (i) rfl (by omega) (by decide) d_Gr_pairScore_12 ?_
  refine r_aload_n hX 0 d_Gr_pairScore_13 rfl ?_
  refine r_get hX cf_Gr 0 rfl 1 (by decide) fl_Gr_18 rfl d_Gr_pairScore_14 ?_
  refine r_get hX cf_Ro 3 rfl 0 (by decide) fl_Gr_28 rfl d_Gr_pairScore_17 ?_
  refine r_iload_n hX 2 d_Gr_pairScore_20 rfl ?_
  refine r_ialdN hX 4 0 rfl rfl (j) rfl (by omega) (by decide) d_Gr_pairScore_21 ?_
  refine r_invV_i0 (st := []) (As := [.int (iI ((LA i : Nat) : Int)), .int (iI ((LB j : Nat) : Int))]) (wr := [(gr, .inr (1, [.ref ra, .ref rb, .ref pr])), (ra, .inr (2, [.ref qa, .int (iI ((la : Nat) : Int))])), (qa, .inl (tI, 96, .inl (iA (iN LA)))), (rb, .inr (2, [.ref qb, .int (iI ((lb : Nat) : Int))])), (qb, .inl (tI, 96, .inl (iA (iN LB))))]) hX (c_Pr_ofPair l D tI tJ tZ pr pa SC op mo (LA i) (LB j) (hA i) (hB j)) "RowAligner$Prices" 5 3 cf_Pr rfl yn_Pr_ofPair ml_Gr_32 im_Pr_ofPair se_Pr_ofPair co_Pr_ofPair in_Pr (by decide) (by decide) (by decide) [5, 6] [0, 1, 2, 3, 4] rfl rfl rfl rfl rfl (by decide) rfl rfl (Nat.le_of_ble_eq_true rfl) d_Gr_pairScore_22 [0, 1, 2, 3, 4, 5, 6] rfl (w2 := fun _ => [(gr, .inr (1, [.ref ra, .ref rb, .ref pr])), (ra, .inr (2, [.ref qa, .int (iI ((la : Nat) : Int))])), (qa, .inl (tI, 96, .inl (iA (iN LA)))), (rb, .inr (2, [.ref qb, .int (iI ((lb : Nat) : Int))])), (qb, .inl (tI, 96, .inl (iA (iN LB)))), (pr, .inr (3, [.ref pa, .int (iI op), .int (iI mo)])), (pa, .inl (tI, 676, .inl (iA SC)))]) (fun _ => rfl) (fun r22 _ e22 => ?_)
  subst e22
  exact r_iret hX hT () (congrArg iI (by first | omega | grind)) rfl (by decide) (by decide) d_Gr_pairScore_25

abbrev rm_Gr_isOneFree : Room := { frames := 0, cells := 0, slots := 0, locals := 0 }
set_option maxHeartbeats 4000000 in
set_option maxRecDepth 100000 in
theorem c_Gr_isOneFree (l : Launch) (D : va_G) (tI tJ tZ : ClassId) (gr : Nat) (ra : Nat) (rb : Nat) (pr : Nat) (qb : Nat) (lb : Nat) (j : Nat) (fr : Nat) (hj : j ≤ 96) (hl : lb ≤ 96) (hf : fr < 16) : rCi l y_Gr_isOneFree prog_4_method_3_code 3 .boolean rm_Gr_isOneFree D (tysA tI tJ tZ) [.ref gr, .int (iI ((j : Nat) : Int)), .int (iI ((fr : Nat) : Int))] [(gr, .inr (1, [.ref ra, .ref rb, .ref pr])), (rb, .inr (2, [.ref qb, .int (iI ((lb : Nat) : Int))]))] (fun zz (_ : Unit) => zz = iI (bI ((j = 0 ∧ fr.testBit 0 = true) ∨ (j = lb ∧ fr.testBit 2 = true)))) (fun (_ : Unit) => [(gr, .inr (1, [.ref ra, .ref rb, .ref pr])), (rb, .inr (2, [.ref qb, .int (iI ((lb : Nat) : Int))]))]) := by
  intro sz
  refine r_met (by decide) (Nat.le_of_ble_eq_true rfl) ?_
  intro F p e s m args below meth c Q A hX hT hAe hsz hin
  subst hAe
  replace hX : rOK F p l e rm_Gr_isOneFree s m args below meth c Q prog_4_method_3_code 3 "RowAligner$Ground" D (tysA tI tJ tZ) _ := hX
  show F 0 [(0, .ref gr), (1, .int (iI ((j : Nat) : Int))), (2, .int (iI ((fr : Nat) : Int)))] [] [(gr, .inr (1, [.ref ra, .ref rb, .ref pr])), (rb, .inr (2, [.ref qb, .int (iI ((lb : Nat) : Int))]))] 0 0
  refine r_iload_n hX 1 d_Gr_isOneFree_0 rfl ?_
  have J32 : F 32 [(0, .ref gr), (1, .int (iI ((j : Nat) : Int))), (2, .int (iI ((fr : Nat) : Int)))] [.int (iI (bI ((j = 0 ∧ fr.testBit 0 = true) ∨ (j = lb ∧ fr.testBit 2 = true))))] [(gr, .inr (1, [.ref ra, .ref rb, .ref pr])), (rb, .inr (2, [.ref qb, .int (iI ((lb : Nat) : Int))]))] 0 0 := by
    exact r_zret hX hT (bI_01 _) () rfl rfl (by decide) (by decide) d_Gr_isOneFree_32
  refine r_if_ne hX 10 d_Gr_isOneFree_1 (by decide) (by unfold iR; omega) (fun h1 => ?_) (fun h1 => ?_)
  · refine r_iload_n hX 1 d_Gr_isOneFree_10 rfl ?_
    refine r_aload_n hX 0 d_Gr_isOneFree_11 rfl ?_
    refine r_get hX cf_Gr 0 rfl 1 (by decide) fl_Gr_18 rfl d_Gr_isOneFree_12 ?_
    refine r_get hX cf_Ro 1 rfl 1 (by decide) fl_Gr_36 rfl d_Gr_isOneFree_15 ?_
    refine r_icmp_ne hX 31 d_Gr_isOneFree_18 (by decide) (by unfold iR; omega) (by unfold iR; omega) (fun h18 => ?_) (fun h18 => ?_)
    · refine r_iconstN hX 0 d_Gr_isOneFree_31 rfl ?_
      exact rj_0 (by first | exact Or.inl ⟨by omega, h7⟩ | exact Or.inr ⟨by omega, h24⟩ | (rintro (⟨q1, q2⟩ | ⟨q1, q2⟩) <;> first | omega | contradiction)) J32
    · refine r_iload_n hX 2 d_Gr_isOneFree_21 rfl ?_
      refine r_iconstN hX 4 d_Gr_isOneFree_22 rfl ?_
      refine r_iand hX (4 * bI (fr.testBit 2 = true)) (fa_4 fr hf) d_Gr_isOneFree_23 ?_
      refine rbc_if_eq hX (by omega) 31 d_Gr_isOneFree_24 (by decide) (fun h24 => ?_) (fun h24 => ?_)
      · refine r_iconstN hX 0 d_Gr_isOneFree_31 rfl ?_
        exact rj_0 (by first | exact Or.inl ⟨by omega, h7⟩ | exact Or.inr ⟨by omega, h24⟩ | (rintro (⟨q1, q2⟩ | ⟨q1, q2⟩) <;> first | omega | contradiction)) J32
      · refine r_iconstN hX 1 d_Gr_isOneFree_27 rfl ?_
        refine r_goto hX 32 d_Gr_isOneFree_28 (by decide) ?_
        exact rj_1 (by first | exact Or.inl ⟨by omega, h7⟩ | exact Or.inr ⟨by omega, h24⟩ | (rintro (⟨q1, q2⟩ | ⟨q1, q2⟩) <;> first | omega | contradiction)) J32
  · refine r_iload_n hX 2 d_Gr_isOneFree_4 rfl ?_
    refine r_iconstN hX 1 d_Gr_isOneFree_5 rfl ?_
    refine r_iand hX (1 * bI (fr.testBit 0 = true)) (fa_1 fr hf) d_Gr_isOneFree_6 ?_
    refine rbc_if_ne hX (by omega) 27 d_Gr_isOneFree_7 (by decide) (fun h7 => ?_) (fun h7 => ?_)
    · refine r_iconstN hX 1 d_Gr_isOneFree_27 rfl ?_
      refine r_goto hX 32 d_Gr_isOneFree_28 (by decide) ?_
      exact rj_1 (by first | exact Or.inl ⟨by omega, h7⟩ | exact Or.inr ⟨by omega, h24⟩ | (rintro (⟨q1, q2⟩ | ⟨q1, q2⟩) <;> first | omega | contradiction)) J32
    · refine r_iload_n hX 1 d_Gr_isOneFree_10 rfl ?_
      refine r_aload_n hX 0 d_Gr_isOneFree_11 rfl ?_
      refine r_get hX cf_Gr 0 rfl 1 (by decide) fl_Gr_18 rfl d_Gr_isOneFree_12 ?_
      refine r_get hX cf_Ro 1 rfl 1 (by decide) fl_Gr_36 rfl d_Gr_isOneFree_15 ?_
      refine r_icmp_ne hX 31 d_Gr_isOneFree_18 (by decide) (by unfold iR; omega) (by unfold iR; omega) (fun h18 => ?_) (fun h18 => ?_)
      · refine r_iconstN hX 0 d_Gr_isOneFree_31 rfl ?_
        exact rj_0 (by first | exact Or.inl ⟨by omega, h7⟩ | exact Or.inr ⟨by omega, h24⟩ | (rintro (⟨q1, q2⟩ | ⟨q1, q2⟩) <;> first | omega | contradiction)) J32
      · refine r_iload_n hX 2 d_Gr_isOneFree_21 rfl ?_
        refine r_iconstN hX 4 d_Gr_isOneFree_22 rfl ?_
        refine r_iand hX (4 * bI (fr.testBit 2 = true)) (fa_4 fr hf) d_Gr_isOneFree_23 ?_
        refine rbc_if_eq hX (by omega) 31 d_Gr_isOneFree_24 (by decide) (fun h24 => ?_) (fun h24 => ?_)
        · refine r_iconstN hX 0 d_Gr_isOneFree_31 rfl ?_
          exact rj_0 (by first | exact Or.inl ⟨by omega, h7⟩ | exact Or.inr ⟨by omega, h24⟩ | (rintro (⟨q1, q2⟩ | ⟨q1, q2⟩) <;> first | omega | contradiction)) J32
        · refine r_iconstN hX 1 d_Gr_isOneFree_27 rfl ?_
          refine r_goto hX 32 d_Gr_isOneFree_28 (by decide) ?_
          exact rj_1 (by first | exact Or.inl ⟨by omega, h7⟩ | exact Or.inr ⟨by omega, h24⟩ | (rintro (⟨q1, q2⟩ | ⟨q1, q2⟩) <;> first | omega | contradiction)) J32

abbrev rm_Gr_isOtherFree : Room := { frames := 0, cells := 0, slots := 0, locals := 0 }
set_option maxHeartbeats 4000000 in
set_option maxRecDepth 100000 in
theorem c_Gr_isOtherFree (l : Launch) (D : va_G) (tI tJ tZ : ClassId) (gr : Nat) (ra : Nat) (rb : Nat) (pr : Nat) (qa : Nat) (la : Nat) (j : Nat) (fr : Nat) (hj : j ≤ 96) (hl : la ≤ 96) (hf : fr < 16) : rCi l y_Gr_isOtherFree prog_4_method_4_code 3 .boolean rm_Gr_isOtherFree D (tysA tI tJ tZ) [.ref gr, .int (iI ((j : Nat) : Int)), .int (iI ((fr : Nat) : Int))] [(gr, .inr (1, [.ref ra, .ref rb, .ref pr])), (ra, .inr (2, [.ref qa, .int (iI ((la : Nat) : Int))]))] (fun zz (_ : Unit) => zz = iI (bI ((j = 0 ∧ fr.testBit 1 = true) ∨ (j = la ∧ fr.testBit 3 = true)))) (fun (_ : Unit) => [(gr, .inr (1, [.ref ra, .ref rb, .ref pr])), (ra, .inr (2, [.ref qa, .int (iI ((la : Nat) : Int))]))]) := by
  intro sz
  refine r_met (by decide) (Nat.le_of_ble_eq_true rfl) ?_
  intro F p e s m args below meth c Q A hX hT hAe hsz hin
  subst hAe
  replace hX : rOK F p l e rm_Gr_isOtherFree s m args below meth c Q prog_4_method_4_code 3 "RowAligner$Ground" D (tysA tI tJ tZ) _ := hX
  show F 0 [(0, .ref gr), (1, .int (iI ((j : Nat) : Int))), (2, .int (iI ((fr : Nat) : Int)))] [] [(gr, .inr (1, [.ref ra, .ref rb, .ref pr])), (ra, .inr (2, [.ref qa, .int (iI ((la : Nat) : Int))]))] 0 0
  refine r_iload_n hX 1 d_Gr_isOtherFree_0 rfl ?_
  have J33 : F 33 [(0, .ref gr), (1, .int (iI ((j : Nat) : Int))), (2, .int (iI ((fr : Nat) : Int)))] [.int (iI (bI ((j = 0 ∧ fr.testBit 1 = true) ∨ (j = la ∧ fr.testBit 3 = true))))] [(gr, .inr (1, [.ref ra, .ref rb, .ref pr])), (ra, .inr (2, [.ref qa, .int (iI ((la : Nat) : Int))]))] 0 0 := by
    exact r_zret hX hT (bI_01 _) () rfl rfl (by decide) (by decide) d_Gr_isOtherFree_33
  refine r_if_ne hX 10 d_Gr_isOtherFree_1 (by decide) (by unfold iR; omega) (fun h1 => ?_) (fun h1 => ?_)
  · refine r_iload_n hX 1 d_Gr_isOtherFree_10 rfl ?_
    refine r_aload_n hX 0 d_Gr_isOtherFree_11 rfl ?_
    refine r_get hX cf_Gr 0 rfl 0 (by decide) fl_Gr_12 rfl d_Gr_isOtherFree_12 ?_
    refine r_get hX cf_Ro 1 rfl 1 (by decide) fl_Gr_36 rfl d_Gr_isOtherFree_15 ?_
    refine r_icmp_ne hX 32 d_Gr_isOtherFree_18 (by decide) (by unfold iR; omega) (by unfold iR; omega) (fun h18 => ?_) (fun h18 => ?_)
    · refine r_iconstN hX 0 d_Gr_isOtherFree_32 rfl ?_
      exact rj_0 (by first | exact Or.inl ⟨by omega, h7⟩ | exact Or.inr ⟨by omega, h25⟩ | (rintro (⟨q1, q2⟩ | ⟨q1, q2⟩) <;> first | omega | contradiction)) J33
    · refine r_iload_n hX 2 d_Gr_isOtherFree_21 rfl ?_
      refine r_bipushN hX 8 d_Gr_isOtherFree_22 rfl (by decide) ?_
      refine r_iand hX (8 * bI (fr.testBit 3 = true)) (fa_8 fr hf) d_Gr_isOtherFree_24 ?_
      refine rbc_if_eq hX (by omega) 32 d_Gr_isOtherFree_25 (by decide) (fun h25 => ?_) (fun h25 => ?_)
      · refine r_iconstN hX 0 d_Gr_isOtherFree_32 rfl ?_
        exact rj_0 (by first | exact Or.inl ⟨by omega, h7⟩ | exact Or.inr ⟨by omega, h25⟩ | (rintro (⟨q1, q2⟩ | ⟨q1, q2⟩) <;> first | omega | contradiction)) J33
      · refine r_iconstN hX 1 d_Gr_isOtherFree_28 rfl ?_
        refine r_goto hX 33 d_Gr_isOtherFree_29 (by decide) ?_
        exact rj_1 (by first | exact Or.inl ⟨by omega, h7⟩ | exact Or.inr ⟨by omega, h25⟩ | (rintro (⟨q1, q2⟩ | ⟨q1, q2⟩) <;> first | omega | contradiction)) J33
  · refine r_iload_n hX 2 d_Gr_isOtherFree_4 rfl ?_
    refine r_iconstN hX 2 d_Gr_isOtherFree_5 rfl ?_
    refine r_iand hX (2 * bI (fr.testBit 1 = true)) (fa_2 fr hf) d_Gr_isOtherFree_6 ?_
    refine rbc_if_ne hX (by omega) 28 d_Gr_isOtherFree_7 (by decide) (fun h7 => ?_) (fun h7 => ?_)
    · refine r_iconstN hX 1 d_Gr_isOtherFree_28 rfl ?_
      refine r_goto hX 33 d_Gr_isOtherFree_29 (by decide) ?_
      exact rj_1 (by first | exact Or.inl ⟨by omega, h7⟩ | exact Or.inr ⟨by omega, h25⟩ | (rintro (⟨q1, q2⟩ | ⟨q1, q2⟩) <;> first | omega | contradiction)) J33
    · refine r_iload_n hX 1 d_Gr_isOtherFree_10 rfl ?_
      refine r_aload_n hX 0 d_Gr_isOtherFree_11 rfl ?_
      refine r_get hX cf_Gr 0 rfl 0 (by decide) fl_Gr_12 rfl d_Gr_isOtherFree_12 ?_
      refine r_get hX cf_Ro 1 rfl 1 (by decide) fl_Gr_36 rfl d_Gr_isOtherFree_15 ?_
      refine r_icmp_ne hX 32 d_Gr_isOtherFree_18 (by decide) (by unfold iR; omega) (by unfold iR; omega) (fun h18 => ?_) (fun h18 => ?_)
      · refine r_iconstN hX 0 d_Gr_isOtherFree_32 rfl ?_
        exact rj_0 (by first | exact Or.inl ⟨by omega, h7⟩ | exact Or.inr ⟨by omega, h25⟩ | (rintro (⟨q1, q2⟩ | ⟨q1, q2⟩) <;> first | omega | contradiction)) J33
      · refine r_iload_n hX 2 d_Gr_isOtherFree_21 rfl ?_
        refine r_bipushN hX 8 d_Gr_isOtherFree_22 rfl (by decide) ?_
        refine r_iand hX (8 * bI (fr.testBit 3 = true)) (fa_8 fr hf) d_Gr_isOtherFree_24 ?_
        refine rbc_if_eq hX (by omega) 32 d_Gr_isOtherFree_25 (by decide) (fun h25 => ?_) (fun h25 => ?_)
        · refine r_iconstN hX 0 d_Gr_isOtherFree_32 rfl ?_
          exact rj_0 (by first | exact Or.inl ⟨by omega, h7⟩ | exact Or.inr ⟨by omega, h25⟩ | (rintro (⟨q1, q2⟩ | ⟨q1, q2⟩) <;> first | omega | contradiction)) J33
        · refine r_iconstN hX 1 d_Gr_isOtherFree_28 rfl ?_
          refine r_goto hX 33 d_Gr_isOtherFree_29 (by decide) ?_
          exact rj_1 (by first | exact Or.inl ⟨by omega, h7⟩ | exact Or.inr ⟨by omega, h25⟩ | (rintro (⟨q1, q2⟩ | ⟨q1, q2⟩) <;> first | omega | contradiction)) J33
