abbrev rm_Mo_at : Room := { frames := 0, cells := 0, slots := 0, locals := 0 }
set_option maxHeartbeats 4000000 in
set_option maxRecDepth 100000 in
theorem c_Mo_at (l : Launch) (D : va_G) (tI tJ tZ : ClassId) (i : Nat) (j : Nat) (bb : Nat) : rCi l y_Mo_at prog_12_method_16_code 3 .int rm_Mo_at D (tysA tI tJ tZ) [.int (iI ((i : Nat) : Int)), .int (iI ((j : Nat) : Int)), .int (iI ((bb : Nat) : Int))] [] (fun zz (_ : Unit) => zz = iI ((((97 * i + j) * 3 + bb : Nat) : Int))) (fun (_ : Unit) => []) := by
  intro sz
  refine r_met (by decide) (Nat.le_of_ble_eq_true rfl) ?_
  intro F p e s m args below meth c Q A hX hT hAe hsz hin
  subst hAe
  replace hX : rOK F p l e rm_Mo_at s m args below meth c Q prog_12_method_16_code 3 "RowAlignerModel" D (tysA tI tJ tZ) _ := hX
  show F 0 [(0, .int (iI ((i : Nat) : Int))), (1, .int (iI ((j : Nat) : Int))), (2, .int (iI ((bb : Nat) : Int)))] [] [] 0 0
  refine r_bipushN hX 97 d_Mo_at_0 rfl (by decide) ?_
  refine r_iload_n hX 0 d_Mo_at_2 rfl ?_
  refine r_imulN hX d_Mo_at_3 ?_
  refine r_iload_n hX 1 d_Mo_at_4 rfl ?_
  refine r_iaddN hX d_Mo_at_5 ?_
  refine r_iconstN hX 3 d_Mo_at_6 rfl ?_
  refine r_imulN hX d_Mo_at_7 ?_
  refine r_iload_n hX 2 d_Mo_at_8 rfl ?_
  refine r_iaddN hX d_Mo_at_9 ?_
  exact r_iret hX hT () rfl rfl (by decide) (by decide) d_Mo_at_10

abbrev rm_Mo_isIn : Room := { frames := 0, cells := 0, slots := 0, locals := 0 }
set_option maxHeartbeats 4000000 in
set_option maxRecDepth 100000 in
theorem c_Mo_isIn (l : Launch) (D : va_G) (tI tJ tZ : ClassId) (v : Int) (lo : Int) (hi : Int) (hv : iR v) (hlo : iR lo) (hhi : iR hi) : rCi l y_Mo_isIn prog_12_method_10_code 3 .boolean rm_Mo_isIn D (tysA tI tJ tZ) [.int (iI v), .int (iI lo), .int (iI hi)] [] (fun zz (_ : Unit) => zz = iI (bI (lo ≤ v ∧ v ≤ hi))) (fun (_ : Unit) => []) := by
  intro sz
  refine r_met (by decide) (Nat.le_of_ble_eq_true rfl) ?_
  intro F p e s m args below meth c Q A hX hT hAe hsz hin
  subst hAe
  replace hX : rOK F p l e rm_Mo_isIn s m args below meth c Q prog_12_method_10_code 3 "RowAlignerModel" D (tysA tI tJ tZ) _ := hX
  unfold iR at hv hlo hhi
  show F 0 [(0, .int (iI v)), (1, .int (iI lo)), (2, .int (iI hi))] [] [] 0 0
  refine r_iload_n hX 0 d_Mo_isIn_0 rfl ?_
  refine r_iload_n hX 1 d_Mo_isIn_1 rfl ?_
  have J15 : F 15 [(0, .int (iI v)), (1, .int (iI lo)), (2, .int (iI hi))] [.int (iI (bI (lo ≤ v ∧ v ≤ hi)))] [] 0 0 := by
    exact r_zret hX hT (bI_01 _) () rfl rfl (by decide) (by decide) d_Mo_isIn_15
  refine r_icmp_lt hX 14 d_Mo_isIn_2 (by decide) (by unfold iR; omega) (by unfold iR; omega) (fun h2 => ?_) (fun h2 => ?_)
  · refine r_iconstN hX 0 d_Mo_isIn_14 rfl ?_
    exact rj_0 (by omega) J15
  · refine r_iload_n hX 0 d_Mo_isIn_5 rfl ?_
    refine r_iload_n hX 2 d_Mo_isIn_6 rfl ?_
    refine r_icmp_gt hX 14 d_Mo_isIn_7 (by decide) (by unfold iR; omega) (by unfold iR; omega) (fun h7 => ?_) (fun h7 => ?_)
    · refine r_iconstN hX 0 d_Mo_isIn_14 rfl ?_
      exact rj_0 (by omega) J15
    · refine r_iconstN hX 1 d_Mo_isIn_10 rfl ?_
      refine r_goto hX 15 d_Mo_isIn_11 (by decide) ?_
      exact rj_1 (by omega) J15

abbrev rm_Mo_thrown : Room := { frames := 0, cells := 0, slots := 0, locals := 0 }
set_option maxHeartbeats 4000000 in
set_option maxRecDepth 100000 in
theorem c_Mo_thrown (l : Launch) (D : va_G) (tI tJ tZ : ClassId) (mo : Nat) (ml : Nat) (mz : Nat) (ms : Nat) (mt : Nat) (mb : Nat) (me : Nat) (bt : Nat) (wy : Nat) (lq : Nat) (df : Nat) (cd : Int) (op : Int) (mr : Int) (ld : Bool) (pt : Bool) (fr : Nat) (sn : Nat) (dn : Nat) : rCi l y_Mo_thrown prog_12_method_2_code 1 .int rm_Mo_thrown D (tysA tI tJ tZ) [.ref mo] [(mo, .inr (10, [.int (iI cd), .ref ml, .ref mz, .ref ms, .int (iI op), .int (iI mr), .int (iI (bI (ld = true))), .int (iI (bI (pt = true))), .int (iI ((fr : Nat) : Int)), .ref mt, .int (iI ((sn : Nat) : Int)), .ref mb, .ref me, .ref bt, .ref wy, .ref lq, .ref df, .int (iI ((dn : Nat) : Int))]))] (fun zz (_ : Unit) => zz = iI ((cd))) (fun (_ : Unit) => [(mo, .inr (10, [.int (iI cd), .ref ml, .ref mz, .ref ms, .int (iI op), .int (iI mr), .int (iI (bI (ld = true))), .int (iI (bI (pt = true))), .int (iI ((fr : Nat) : Int)), .ref mt, .int (iI ((sn : Nat) : Int)), .ref mb, .ref me, .ref bt, .ref wy, .ref lq, .ref df, .int (iI ((dn : Nat) : Int))]))]) := by
  intro sz
  refine r_met (by decide) (Nat.le_of_ble_eq_true rfl) ?_
  intro F p e s m args below meth c Q A hX hT hAe hsz hin
  subst hAe
  replace hX : rOK F p l e rm_Mo_thrown s m args below meth c Q prog_12_method_2_code 1 "RowAlignerModel" D (tysA tI tJ tZ) _ := hX
  show F 0 [(0, .ref mo)] [] [(mo, .inr (10, [.int (iI cd), .ref ml, .ref mz, .ref ms, .int (iI op), .int (iI mr), .int (iI (bI (ld = true))), .int (iI (bI (pt = true))), .int (iI ((fr : Nat) : Int)), .ref mt, .int (iI ((sn : Nat) : Int)), .ref mb, .ref me, .ref bt, .ref wy, .ref lq, .ref df, .int (iI ((dn : Nat) : Int))]))] 0 0
  refine r_aload_n hX 0 d_Mo_thrown_0 rfl ?_
  refine r_get hX cf_Mo 0 rfl 0 (by decide) fl_Mo_52 rfl d_Mo_thrown_1 ?_
  exact r_iret hX hT () rfl rfl (by decide) (by decide) d_Mo_thrown_4

abbrev rm_Mo_noRow : Room := { frames := 0, cells := 0, slots := 0, locals := 0 }
set_option maxHeartbeats 4000000 in
set_option maxRecDepth 100000 in
theorem c_Mo_noRow (l : Launch) (D : va_G) (tI tJ tZ : ClassId) (mo : Nat) (ml : Nat) (mz : Nat) (ms : Nat) (mt : Nat) (mb : Nat) (me : Nat) (bt : Nat) (wy : Nat) (lq : Nat) (df : Nat) (cd : Int) (op : Int) (mr : Int) (ld : Bool) (pt : Bool) (fr : Nat) (sn : Nat) (dn : Nat) (x : Int) (hx : iR x) : rCi l y_Mo_noRow prog_12_method_4_code 2 .boolean rm_Mo_noRow D (tysA tI tJ tZ) [.ref mo, .int (iI x)] [(mo, .inr (10, [.int (iI cd), .ref ml, .ref mz, .ref ms, .int (iI op), .int (iI mr), .int (iI (bI (ld = true))), .int (iI (bI (pt = true))), .int (iI ((fr : Nat) : Int)), .ref mt, .int (iI ((sn : Nat) : Int)), .ref mb, .ref me, .ref bt, .ref wy, .ref lq, .ref df, .int (iI ((dn : Nat) : Int))]))] (fun zz (_ : Unit) => zz = iI (bI (x < 0 ∨ 1 < x))) (fun (_ : Unit) => [(mo, .inr (10, [.int (iI (bI (x < 0 ∨ 1 < x))), .ref ml, .ref mz, .ref ms, .int (iI op), .int (iI mr), .int (iI (bI (ld = true))), .int (iI (bI (pt = true))), .int (iI ((fr : Nat) : Int)), .ref mt, .int (iI ((sn : Nat) : Int)), .ref mb, .ref me, .ref bt, .ref wy, .ref lq, .ref df, .int (iI ((dn : Nat) : Int))]))]) := by
  intro sz
  refine r_met (by decide) (Nat.le_of_ble_eq_true rfl) ?_
  intro F p e s m args below meth c Q A hX hT hAe hsz hin
  subst hAe
  replace hX : rOK F p l e rm_Mo_noRow s m args below meth c Q prog_12_method_4_code 2 "RowAlignerModel" D (tysA tI tJ tZ) _ := hX
  unfold iR at hx
  show F 0 [(0, .ref mo), (1, .int (iI x))] [] [(mo, .inr (10, [.int (iI cd), .ref ml, .ref mz, .ref ms, .int (iI op), .int (iI mr), .int (iI (bI (ld = true))), .int (iI (bI (pt = true))), .int (iI ((fr : Nat) : Int)), .ref mt, .int (iI ((sn : Nat) : Int)), .ref mb, .ref me, .ref bt, .ref wy, .ref lq, .ref df, .int (iI ((dn : Nat) : Int))]))] 0 0
  refine r_aload_n hX 0 d_Mo_noRow_0 rfl ?_
  refine r_iload_n hX 1 d_Mo_noRow_1 rfl ?_
  have J15 : F 15 [(0, .ref mo), (1, .int (iI x))] [.int (iI (bI (x < 0 ∨ 1 < x))), .ref mo] [(mo, .inr (10, [.int (iI cd), .ref ml, .ref mz, .ref ms, .int (iI op), .int (iI mr), .int (iI (bI (ld = true))), .int (iI (bI (pt = true))), .int (iI ((fr : Nat) : Int)), .ref mt, .int (iI ((sn : Nat) : Int)), .ref mb, .ref me, .ref bt, .ref wy, .ref lq, .ref df, .int (iI ((dn : Nat) : Int))]))] 0 0 := by
    refine r_put hX (ws' := [(mo, .inr (10, [.int (iI (bI (x < 0 ∨ 1 < x))), .ref ml, .ref mz, .ref ms, .int (iI op), .int (iI mr), .int (iI (bI (ld = true))), .int (iI (bI (pt = true))), .int (iI ((fr : Nat) : Int)), .ref mt, .int (iI ((sn : Nat) : Int)), .ref mb, .ref me, .ref bt, .ref wy, .ref lq, .ref df, .int (iI ((dn : Nat) : Int))]))]) cf_Mo 0 rfl 0 (by decide) fl_Mo_52 rfl rfl rfl (Nat.le_of_ble_eq_true rfl) rfl d_Mo_noRow_15 ?_
    refine r_aload_n hX 0 d_Mo_noRow_18 rfl ?_
    refine r_get hX cf_Mo 0 rfl 0 (by decide) fl_Mo_52 rfl d_Mo_noRow_19 ?_
    have hbb := bI_01 (x < 0 ∨ 1 < x)
    have J30 : F 30 [(0, .ref mo), (1, .int (iI x))] [.int (iI (bI (x < 0 ∨ 1 < x)))] [(mo, .inr (10, [.int (iI (bI (x < 0 ∨ 1 < x))), .ref ml, .ref mz, .ref ms, .int (iI op), .int (iI mr), .int (iI (bI (ld = true))), .int (iI (bI (pt = true))), .int (iI ((fr : Nat) : Int)), .ref mt, .int (iI ((sn : Nat) : Int)), .ref mb, .ref me, .ref bt, .ref wy, .ref lq, .ref df, .int (iI ((dn : Nat) : Int))]))] 0 0 := by
      exact r_zret hX hT (bI_01 _) () rfl rfl (by decide) (by decide) d_Mo_noRow_30
    have hbb := bI_01 (x < 0 ∨ 1 < x)
    refine r_if_le hX 29 d_Mo_noRow_22 (by decide) (bI_R _) (fun h22 => ?_) (fun h22 => ?_)
    · refine r_iconstN hX 0 d_Mo_noRow_29 rfl ?_
      exact rj_0 (by first | exact Classical.byContradiction fun q => (by have := bI_f q; omega) | (intro q; have := bI_t q; omega)) J30
    · refine r_iconstN hX 1 d_Mo_noRow_25 rfl ?_
      refine r_goto hX 30 d_Mo_noRow_26 (by decide) ?_
      exact rj_1 (by first | exact Classical.byContradiction fun q => (by have := bI_f q; omega) | (intro q; have := bI_t q; omega)) J30
  refine r_if_lt hX 10 d_Mo_noRow_2 (by decide) (by unfold iR; omega) (fun h2 => ?_) (fun h2 => ?_)
  · refine r_iconstN hX 1 d_Mo_noRow_10 rfl ?_
    refine r_goto hX 15 d_Mo_noRow_11 (by decide) ?_
    exact rj_1 (by omega) J15
  · refine r_iload_n hX 1 d_Mo_noRow_5 rfl ?_
    refine r_iconstN hX 1 d_Mo_noRow_6 rfl ?_
    refine r_icmp_le hX 14 d_Mo_noRow_7 (by decide) (by unfold iR; omega) (by unfold iR; omega) (fun h7 => ?_) (fun h7 => ?_)
    · refine r_iconstN hX 0 d_Mo_noRow_14 rfl ?_
      exact rj_0 (by omega) J15
    · refine r_iconstN hX 1 d_Mo_noRow_10 rfl ?_
      refine r_goto hX 15 d_Mo_noRow_11 (by decide) ?_
      exact rj_1 (by omega) J15

abbrev rm_Mo_setScores : Room := { frames := 0, cells := 0, slots := 0, locals := 0 }
set_option maxHeartbeats 4000000 in
set_option maxRecDepth 100000 in
theorem c_Mo_setScores (l : Launch) (D : va_G) (tI tJ tZ : ClassId) (mo : Nat) (ml : Nat) (mz : Nat) (ms : Nat) (mt : Nat) (mb : Nat) (me : Nat) (bt : Nat) (wy : Nat) (lq : Nat) (df : Nat) (cd : Int) (op : Int) (mr : Int) (ld : Bool) (pt : Bool) (fr : Nat) (sn : Nat) (dn : Nat) (SC : Nat → Int) (same : Int) (others : Int) : rCv l y_Mo_setScores prog_12_method_3_code 4 rm_Mo_setScores D (tysA tI tJ tZ) [.ref mo, .int (iI same), .int (iI others)] [(mo, .inr (10, [.int (iI cd), .ref ml, .ref mz, .ref ms, .int (iI op), .int (iI mr), .int (iI (bI (ld = true))), .int (iI (bI (pt = true))), .int (iI ((fr : Nat) : Int)), .ref mt, .int (iI ((sn : Nat) : Int)), .ref mb, .ref me, .ref bt, .ref wy, .ref lq, .ref df, .int (iI ((dn : Nat) : Int))])), (ms, .inl (tI, 676, .inl (iA SC)))] (fun (_ : Unit) => True) (fun (_ : Unit) => [(mo, .inr (10, [.int (iI cd), .ref ml, .ref mz, .ref ms, .int (iI op), .int (iI mr), .int (iI (bI (ld = true))), .int (iI (bI (pt = true))), .int (iI ((fr : Nat) : Int)), .ref mt, .int (iI ((sn : Nat) : Int)), .ref mb, .ref me, .ref bt, .ref wy, .ref lq, .ref df, .int (iI ((dn : Nat) : Int))])), (ms, .inl (tI, 676, .inl (iA (ra_sq SC same others 676))))]) := by
  intro sz
  refine r_met (by decide) (Nat.le_of_ble_eq_true rfl) ?_
  intro F p e s m args below meth c Q A hX hT hAe hsz hin
  subst hAe
  replace hX : rOK F p l e rm_Mo_setScores s m args below meth c Q prog_12_method_3_code 4 "RowAlignerModel" D (tysA tI tJ tZ) _ := hX
  show F 0 [(0, .ref mo), (1, .int (iI same)), (2, .int (iI others))] [] [(mo, .inr (10, [.int (iI cd), .ref ml, .ref mz, .ref ms, .int (iI op), .int (iI mr), .int (iI (bI (ld = true))), .int (iI (bI (pt = true))), .int (iI ((fr : Nat) : Int)), .ref mt, .int (iI ((sn : Nat) : Int)), .ref mb, .ref me, .ref bt, .ref wy, .ref lq, .ref df, .int (iI ((dn : Nat) : Int))])), (ms, .inl (tI, 676, .inl (iA SC)))] 0 0
  refine r_iconstN hX 0 d_Mo_setScores_0 rfl ?_
  refine r_istore_n hX (lv' := [(3, .int (iI ((0 : Nat) : Int))), (0, .ref mo), (1, .int (iI same)), (2, .int (iI others))]) d_Mo_setScores_1 rfl (by decide) rfl ?_
  have L2 : ∀ (dd : Nat) (k : Nat), 676 - k = dd → (k ≤ 676) → F 2 [(3, .int (iI ((k : Nat) : Int))), (2, .int (iI others)), (1, .int (iI same)), (0, .ref mo)] [] [(mo, .inr (10, [.int (iI cd), .ref ml, .ref mz, .ref ms, .int (iI op), .int (iI mr), .int (iI (bI (ld = true))), .int (iI (bI (pt = true))), .int (iI ((fr : Nat) : Int)), .ref mt, .int (iI ((sn : Nat) : Int)), .ref mb, .ref me, .ref bt, .ref wy, .ref lq, .ref df, .int (iI ((dn : Nat) : Int))])), (ms, .inl (tI, 676, .inl (iA (ra_sq SC same others k))))] 0 0 := by
    intro dd
    induction dd using Nat.strongRecOn with
    | _ dd ih2 =>
      intro k hmu2 hk
      refine r_iload_n hX 0 d_Mo_setScores_2 rfl ?_
      refine r_sipushN hX 676 d_Mo_setScores_3 rfl (by decide) ?_
      refine r_icmp_ge hX 37 d_Mo_setScores_6 (by decide) (by unfold iR; omega) (by unfold iR; omega) (fun h6 => ?_) (fun h6 => ?_)
      · exact r_vret hX hT () trivial (by rw [show k = 676 by omega]) (by decide) (by decide) d_Mo_setScores_37
      · refine r_aload_n hX 3 d_Mo_setScores_9 rfl ?_
        refine r_get hX cf_Mo 0 rfl 3 (by decide) fl_Mo_16 rfl d_Mo_setScores_10 ?_
        refine r_iload_n hX 0 d_Mo_setScores_13 rfl ?_
        refine r_iload_n hX 0 d_Mo_setScores_14 rfl ?_
        refine r_bipushN hX 26 d_Mo_setScores_15 rfl (by decide) ?_
        refine r_idiv hX (((k / 26 : Nat) : Int)) (by decide) (i_div (by omega) (by omega) (by omega)) d_Mo_setScores_17 ?_
        refine r_iload_n hX 0 d_Mo_setScores_18 rfl ?_
        refine r_bipushN hX 26 d_Mo_setScores_19 rfl (by decide) ?_
        refine r_irem hX (((k % 26 : Nat) : Int)) (by decide) (i_rem (by omega) (by omega) (by omega)) d_Mo_setScores_21 ?_
        have J30 : F 30 [(3, .int (iI ((k : Nat) : Int))), (2, .int (iI others)), (1, .int (iI same)), (0, .ref mo)] [.int (iI (if k / 26 = k % 26 then same else others)), .int (iI ((k : Nat) : Int)), .ref ms] [(mo, .inr (10, [.int (iI cd), .ref ml, .ref mz, .ref ms, .int (iI op), .int (iI mr), .int (iI (bI (ld = true))), .int (iI (bI (pt = true))), .int (iI ((fr : Nat) : Int)), .ref mt, .int (iI ((sn : Nat) : Int)), .ref mb, .ref me, .ref bt, .ref wy, .ref lq, .ref df, .int (iI ((dn : Nat) : Int))])), (ms, .inl (tI, 676, .inl (iA (ra_sq SC same others k))))] 0 0 := by
          refine r_iast hX (ws' := [(mo, .inr (10, [.int (iI cd), .ref ml, .ref mz, .ref ms, .int (iI op), .int (iI mr), .int (iI (bI (ld = true))), .int (iI (bI (pt = true))), .int (iI ((fr : Nat) : Int)), .ref mt, .int (iI ((sn : Nat) : Int)), .ref mb, .ref me, .ref bt, .ref wy, .ref lq, .ref df, .int (iI ((dn : Nat) : Int))])), (ms, .inl (tI, 676, .inl (iA (iU (ra_sq SC same others k) k ((if k / 26 = k % 26 then same else others))))))]) 1 0 rfl rfl (k) rfl (by omega) (by decide) rfl d_Mo_setScores_30 ?_
          refine r_iincN hX (lv' := [(3, .int (iI ((k + 1 : Nat) : Int))), (2, .int (iI others)), (1, .int (iI same)), (0, .ref mo)]) 0 d_Mo_setScores_31 rfl (by decide) rfl ?_
          refine r_goto hX 2 d_Mo_setScores_34 (by decide) ?_
          refine r_eq (lv2 := [(3, .int (iI ((k + 1 : Nat) : Int))), (2, .int (iI others)), (1, .int (iI same)), (0, .ref mo)]) (st2 := []) (ws2 := [(mo, .inr (10, [.int (iI cd), .ref ml, .ref mz, .ref ms, .int (iI op), .int (iI mr), .int (iI (bI (ld = true))), .int (iI (bI (pt = true))), .int (iI ((fr : Nat) : Int)), .ref mt, .int (iI ((sn : Nat) : Int)), .ref mb, .ref me, .ref bt, .ref wy, .ref lq, .ref df, .int (iI ((dn : Nat) : Int))])), (ms, .inl (tI, 676, .inl (iA (ra_sq SC same others (k + 1)))))]) rfl rfl (by rw [ra_sq_step _ _ _ _ rfl]) ?_
          exact ih2 _ (by omega) (k + 1) rfl (by omega)
        refine r_icmp_ne hX 29 d_Mo_setScores_22 (by decide) (by unfold iR; omega) (by unfold iR; omega) (fun h22 => ?_) (fun h22 => ?_)
        · refine r_iload_n hX 1 d_Mo_setScores_29 rfl ?_
          exact rj_e (by first | rw [if_pos (by omega)] | rw [if_neg (by omega)]) J30
        · refine r_iload_n hX 2 d_Mo_setScores_25 rfl ?_
          refine r_goto hX 30 d_Mo_setScores_26 (by decide) ?_
          exact rj_e (by first | rw [if_pos (by omega)] | rw [if_neg (by omega)]) J30
  refine r_lv hX (lv' := [(3, .int (iI ((0 : Nat) : Int))), (2, .int (iI others)), (1, .int (iI same)), (0, .ref mo)]) [0, 3, 2, 1] rfl ?_
  refine r_eq (lv2 := [(3, .int (iI ((0 : Nat) : Int))), (2, .int (iI others)), (1, .int (iI same)), (0, .ref mo)]) (st2 := []) (ws2 := [(mo, .inr (10, [.int (iI cd), .ref ml, .ref mz, .ref ms, .int (iI op), .int (iI mr), .int (iI (bI (ld = true))), .int (iI (bI (pt = true))), .int (iI ((fr : Nat) : Int)), .ref mt, .int (iI ((sn : Nat) : Int)), .ref mb, .ref me, .ref bt, .ref wy, .ref lq, .ref df, .int (iI ((dn : Nat) : Int))])), (ms, .inl (tI, 676, .inl (iA (ra_sq SC same others 0))))]) rfl rfl (by rw [ra_sq_0]) ?_
  exact L2 _ 0 rfl (by omega)

abbrev rm_Mo_scoreAt : Room := { frames := 0, cells := 0, slots := 0, locals := 0 }
set_option maxHeartbeats 4000000 in
set_option maxRecDepth 100000 in
theorem c_Mo_scoreAt (l : Launch) (D : va_G) (tI tJ tZ : ClassId) (mo : Nat) (ml : Nat) (mz : Nat) (ms : Nat) (mt : Nat) (mb : Nat) (me : Nat) (bt : Nat) (wy : Nat) (lq : Nat) (df : Nat) (cd : Int) (op : Int) (mr : Int) (ld : Bool) (pt : Bool) (fr : Nat) (sn : Nat) (dn : Nat) (L : Nat → Nat) (SC : Nat → Int) (i : Nat) (j : Nat) (hL : ∀ k, L k < 26) (hi : i < 96) (hj : j < 96) : rCi l y_Mo_scoreAt prog_12_method_14_code 3 .int rm_Mo_scoreAt D (tysA tI tJ tZ) [.ref mo, .int (iI ((i : Nat) : Int)), .int (iI ((j : Nat) : Int))] [(mo, .inr (10, [.int (iI cd), .ref ml, .ref mz, .ref ms, .int (iI op), .int (iI mr), .int (iI (bI (ld = true))), .int (iI (bI (pt = true))), .int (iI ((fr : Nat) : Int)), .ref mt, .int (iI ((sn : Nat) : Int)), .ref mb, .ref me, .ref bt, .ref wy, .ref lq, .ref df, .int (iI ((dn : Nat) : Int))])), (ml, .inl (tI, 192, .inl (iA (iN L)))), (ms, .inl (tI, 676, .inl (iA SC)))] (fun zz (_ : Unit) => zz = iI ((SC (L i * 26 + L (96 + j))))) (fun (_ : Unit) => [(mo, .inr (10, [.int (iI cd), .ref ml, .ref mz, .ref ms, .int (iI op), .int (iI mr), .int (iI (bI (ld = true))), .int (iI (bI (pt = true))), .int (iI ((fr : Nat) : Int)), .ref mt, .int (iI ((sn : Nat) : Int)), .ref mb, .ref me, .ref bt, .ref wy, .ref lq, .ref df, .int (iI ((dn : Nat) : Int))])), (ml, .inl (tI, 192, .inl (iA (iN L)))), (ms, .inl (tI, 676, .inl (iA SC)))]) := by
  intro sz
  refine r_met (by decide) (Nat.le_of_ble_eq_true rfl) ?_
  intro F p e s m args below meth c Q A hX hT hAe hsz hin
  subst hAe
  replace hX : rOK F p l e rm_Mo_scoreAt s m args below meth c Q prog_12_method_14_code 3 "RowAlignerModel" D (tysA tI tJ tZ) _ := hX
  show F 0 [(0, .ref mo), (1, .int (iI ((i : Nat) : Int))), (2, .int (iI ((j : Nat) : Int)))] [] [(mo, .inr (10, [.int (iI cd), .ref ml, .ref mz, .ref ms, .int (iI op), .int (iI mr), .int (iI (bI (ld = true))), .int (iI (bI (pt = true))), .int (iI ((fr : Nat) : Int)), .ref mt, .int (iI ((sn : Nat) : Int)), .ref mb, .ref me, .ref bt, .ref wy, .ref lq, .ref df, .int (iI ((dn : Nat) : Int))])), (ml, .inl (tI, 192, .inl (iA (iN L)))), (ms, .inl (tI, 676, .inl (iA SC)))] 0 0
  refine r_aload_n hX 0 d_Mo_scoreAt_0 rfl ?_
  refine r_get hX cf_Mo 0 rfl 3 (by decide) fl_Mo_16 rfl d_Mo_scoreAt_1 ?_
  refine r_bipushN hX 26 d_Mo_scoreAt_4 rfl (by decide) ?_
  refine r_aload_n hX 0 d_Mo_scoreAt_6 rfl ?_
  refine r_get hX cf_Mo 0 rfl 1 (by decide) fl_Mo_7 rfl d_Mo_scoreAt_7 ?_
  refine r_iload_n hX 1 d_Mo_scoreAt_10 rfl ?_
  refine r_ialdN hX 1 0 rfl rfl (i) rfl (by omega) (by decide) d_Mo_scoreAt_11 ?_
  refine r_imulN hX d_Mo_scoreAt_12 ?_
  refine r_aload_n hX 0 d_Mo_scoreAt_13 rfl ?_
  refine r_get hX cf_Mo 0 rfl 1 (by decide) fl_Mo_7 rfl d_Mo_scoreAt_14 ?_
  refine r_bipushN hX 96 d_Mo_scoreAt_17 rfl (by decide) ?_
  refine r_iload_n hX 2 d_Mo_scoreAt_19 rfl ?_
  refine r_iaddN hX d_Mo_scoreAt_20 ?_
  refine r_ialdN hX 1 0 rfl rfl (96 + j) rfl (by omega) (by decide) d_Mo_scoreAt_21 ?_
  refine r_iaddN hX d_Mo_scoreAt_22 ?_
  have hl1 := hL i
  have hl2 := hL (96 + j)
  refine r_iald hX 2 0 rfl rfl (L i * 26 + L (96 + j)) (by omega) (by omega) (by decide) d_Mo_scoreAt_23 ?_
  exact r_iret hX hT () rfl rfl (by decide) (by decide) d_Mo_scoreAt_24

abbrev rm_Mo_gap_1 : Room := { frames := 0, cells := 0, slots := 0, locals := 0 }
set_option maxHeartbeats 4000000 in
set_option maxRecDepth 100000 in
theorem c_Mo_gap_1 (l : Launch) (D : va_G) (tI tJ tZ : ClassId) (mo : Nat) (ml : Nat) (mz : Nat) (ms : Nat) (mt : Nat) (mb : Nat) (me : Nat) (bt : Nat) (wy : Nat) (lq : Nat) (df : Nat) (cd : Int) (op : Int) (mr : Int) (ld : Bool) (pt : Bool) (fr : Nat) (sn : Nat) (dn : Nat) (Z : Nat → Nat) (L : Nat → Nat) (SC : Nat → Int) (i : Nat) (j : Nat) (nn : Nat) (hi : i ≤ 96) (hj : j ≤ 96) (hn : nn ≤ 96) (hz0 : Z 0 ≤ 96) (hz1 : Z 1 ≤ 96) (hf : fr < 16) : rCi l y_Mo_gap prog_12_method_15_code 10 .int rm_Mo_gap_1 D (tysA tI tJ tZ) [.ref mo, .int (iI ((1 : Nat) : Int)), .int (iI ((i : Nat) : Int)), .int (iI ((j : Nat) : Int)), .int (iI ((nn : Nat) : Int))] [(mo, .inr (10, [.int (iI cd), .ref ml, .ref mz, .ref ms, .int (iI op), .int (iI mr), .int (iI (bI (ld = true))), .int (iI (bI (pt = true))), .int (iI ((fr : Nat) : Int)), .ref mt, .int (iI ((sn : Nat) : Int)), .ref mb, .ref me, .ref bt, .ref wy, .ref lq, .ref df, .int (iI ((dn : Nat) : Int))])), (mz, .inl (tI, 2, .inl (iA (iN Z))))] (fun zz (_ : Unit) => zz = iI ((ra_g1 (ra_mg Z L SC op mr fr pt) i j nn))) (fun (_ : Unit) => [(mo, .inr (10, [.int (iI cd), .ref ml, .ref mz, .ref ms, .int (iI op), .int (iI mr), .int (iI (bI (ld = true))), .int (iI (bI (pt = true))), .int (iI ((fr : Nat) : Int)), .ref mt, .int (iI ((sn : Nat) : Int)), .ref mb, .ref me, .ref bt, .ref wy, .ref lq, .ref df, .int (iI ((dn : Nat) : Int))])), (mz, .inl (tI, 2, .inl (iA (iN Z))))]) := by
  intro sz
  refine r_met (by decide) (Nat.le_of_ble_eq_true rfl) ?_
  intro F p e s m args below meth c Q A hX hT hAe hsz hin
  subst hAe
  replace hX : rOK F p l e rm_Mo_gap_1 s m args below meth c Q prog_12_method_15_code 10 "RowAlignerModel" D (tysA tI tJ tZ) _ := hX
  show F 0 [(0, .ref mo), (1, .int (iI ((1 : Nat) : Int))), (2, .int (iI ((i : Nat) : Int))), (3, .int (iI ((j : Nat) : Int))), (4, .int (iI ((nn : Nat) : Int)))] [] [(mo, .inr (10, [.int (iI cd), .ref ml, .ref mz, .ref ms, .int (iI op), .int (iI mr), .int (iI (bI (ld = true))), .int (iI (bI (pt = true))), .int (iI ((fr : Nat) : Int)), .ref mt, .int (iI ((sn : Nat) : Int)), .ref mb, .ref me, .ref bt, .ref wy, .ref lq, .ref df, .int (iI ((dn : Nat) : Int))])), (mz, .inl (tI, 2, .inl (iA (iN Z))))] 0 0
  refine r_iload_n hX 2 d_Mo_gap_0 rfl ?_
  have J13 : F 13 [(0, .ref mo), (1, .int (iI ((1 : Nat) : Int))), (2, .int (iI ((i : Nat) : Int))), (3, .int (iI ((j : Nat) : Int))), (4, .int (iI ((nn : Nat) : Int)))] [.int (iI (bI ((i = 0 ∧ j = 0))))] [(mo, .inr (10, [.int (iI cd), .ref ml, .ref mz, .ref ms, .int (iI op), .int (iI mr), .int (iI (bI (ld = true))), .int (iI (bI (pt = true))), .int (iI ((fr : Nat) : Int)), .ref mt, .int (iI ((sn : Nat) : Int)), .ref mb, .ref me, .ref bt, .ref wy, .ref lq, .ref df, .int (iI ((dn : Nat) : Int))])), (mz, .inl (tI, 2, .inl (iA (iN Z))))] 0 0 := by
    refine r_istore hX (lv' := [(5, .int (iI (bI ((i = 0 ∧ j = 0))))), (0, .ref mo), (1, .int (iI ((1 : Nat) : Int))), (2, .int (iI ((i : Nat) : Int))), (3, .int (iI ((j : Nat) : Int))), (4, .int (iI ((nn : Nat) : Int)))]) d_Mo_gap_13 (by decide) rfl ?_
    refine r_iload_n hX 2 d_Mo_gap_15 rfl ?_
    refine r_if_eq hX 26 d_Mo_gap_16 (by decide) (by unfold iR; omega) (fun h16 => by exfalso; omega) (fun h16 => ?_)
    refine r_iload_n hX 3 d_Mo_gap_19 rfl ?_
    refine r_iload hX 5 d_Mo_gap_20 rfl ?_
    refine r_iaddN hX d_Mo_gap_22 ?_
    refine r_goto hX 27 d_Mo_gap_23 (by decide) ?_
    refine r_aload_n hX 1 d_Mo_gap_27 rfl ?_
    refine r_get hX cf_Mo 0 rfl 2 (by decide) fl_Mo_13 rfl d_Mo_gap_28 ?_
    refine r_iconstN hX 0 d_Mo_gap_31 rfl ?_
    refine r_ialdN hX 1 0 rfl rfl (0) rfl (by omega) (by decide) d_Mo_gap_32 ?_
    have J62 : F 62 [(5, .int (iI (bI ((i = 0 ∧ j = 0))))), (0, .ref mo), (1, .int (iI ((1 : Nat) : Int))), (2, .int (iI ((i : Nat) : Int))), (3, .int (iI ((j : Nat) : Int))), (4, .int (iI ((nn : Nat) : Int)))] [.int (iI (bI ((i + nn = Z 0 ∧ j = Z 1))))] [(mo, .inr (10, [.int (iI cd), .ref ml, .ref mz, .ref ms, .int (iI op), .int (iI mr), .int (iI (bI (ld = true))), .int (iI (bI (pt = true))), .int (iI ((fr : Nat) : Int)), .ref mt, .int (iI ((sn : Nat) : Int)), .ref mb, .ref me, .ref bt, .ref wy, .ref lq, .ref df, .int (iI ((dn : Nat) : Int))])), (mz, .inl (tI, 2, .inl (iA (iN Z))))] 0 0 := by
      refine r_istore hX (lv' := [(6, .int (iI (bI ((i + nn = Z 0 ∧ j = Z 1))))), (5, .int (iI (bI ((i = 0 ∧ j = 0))))), (0, .ref mo), (1, .int (iI ((1 : Nat) : Int))), (2, .int (iI ((i : Nat) : Int))), (3, .int (iI ((j : Nat) : Int))), (4, .int (iI ((nn : Nat) : Int)))]) d_Mo_gap_62 (by decide) rfl ?_
      refine r_iload_n hX 3 d_Mo_gap_64 rfl ?_
      refine r_if_eq hX 72 d_Mo_gap_65 (by decide) (by unfold iR; omega) (fun h65 => by exfalso; omega) (fun h65 => ?_)
      refine r_iconstN hX 1 d_Mo_gap_68 rfl ?_
      refine r_goto hX 73 d_Mo_gap_69 (by decide) ?_
      refine r_istore hX (lv' := [(7, .int (iI ((1 : Nat) : Int))), (6, .int (iI (bI ((i + nn = Z 0 ∧ j = Z 1))))), (5, .int (iI (bI ((i = 0 ∧ j = 0))))), (0, .ref mo), (1, .int (iI ((1 : Nat) : Int))), (2, .int (iI ((i : Nat) : Int))), (3, .int (iI ((j : Nat) : Int))), (4, .int (iI ((nn : Nat) : Int)))]) d_Mo_gap_73 (by decide) rfl ?_
      refine r_iload_n hX 4 d_Mo_gap_75 rfl ?_
      refine r_if_eq hX 83 d_Mo_gap_76 (by decide) (by unfold iR; omega) (fun h76 => by exfalso; omega) (fun h76 => ?_)
      refine r_iconstN hX 4 d_Mo_gap_79 rfl ?_
      refine r_goto hX 85 d_Mo_gap_80 (by decide) ?_
      refine r_istore hX (lv' := [(8, .int (iI ((4 : Nat) : Int))), (7, .int (iI ((1 : Nat) : Int))), (6, .int (iI (bI ((i + nn = Z 0 ∧ j = Z 1))))), (5, .int (iI (bI ((i = 0 ∧ j = 0))))), (0, .ref mo), (1, .int (iI ((1 : Nat) : Int))), (2, .int (iI ((i : Nat) : Int))), (3, .int (iI ((j : Nat) : Int))), (4, .int (iI ((nn : Nat) : Int)))]) d_Mo_gap_85 (by decide) rfl ?_
      refine r_iload hX 3 d_Mo_gap_87 rfl ?_
      have J122 : F 122 [(8, .int (iI ((4 : Nat) : Int))), (7, .int (iI ((1 : Nat) : Int))), (6, .int (iI (bI ((i + nn = Z 0 ∧ j = Z 1))))), (5, .int (iI (bI ((i = 0 ∧ j = 0))))), (0, .ref mo), (1, .int (iI ((1 : Nat) : Int))), (2, .int (iI ((i : Nat) : Int))), (3, .int (iI ((j : Nat) : Int))), (4, .int (iI ((nn : Nat) : Int)))] [.int (iI (bI (((i = 0 ∧ j = 0) ∧ fr.testBit 0 = true) ∨ ((i + nn = Z 0 ∧ j = Z 1) ∧ fr.testBit 2 = true))))] [(mo, .inr (10, [.int (iI cd), .ref ml, .ref mz, .ref ms, .int (iI op), .int (iI mr), .int (iI (bI (ld = true))), .int (iI (bI (pt = true))), .int (iI ((fr : Nat) : Int)), .ref mt, .int (iI ((sn : Nat) : Int)), .ref mb, .ref me, .ref bt, .ref wy, .ref lq, .ref df, .int (iI ((dn : Nat) : Int))])), (mz, .inl (tI, 2, .inl (iA (iN Z))))] 0 0 := by
        refine r_istore hX (lv' := [(9, .int (iI (bI (((i = 0 ∧ j = 0) ∧ fr.testBit 0 = true) ∨ ((i + nn = Z 0 ∧ j = Z 1) ∧ fr.testBit 2 = true))))), (8, .int (iI ((4 : Nat) : Int))), (7, .int (iI ((1 : Nat) : Int))), (6, .int (iI (bI ((i + nn = Z 0 ∧ j = Z 1))))), (5, .int (iI (bI ((i = 0 ∧ j = 0))))), (0, .ref mo), (1, .int (iI ((1 : Nat) : Int))), (2, .int (iI ((i : Nat) : Int))), (3, .int (iI ((j : Nat) : Int))), (4, .int (iI ((nn : Nat) : Int)))]) d_Mo_gap_122 (by decide) rfl ?_
        refine r_iload hX 0 d_Mo_gap_124 rfl ?_
        have J145 : F 145 [(9, .int (iI (bI (((i = 0 ∧ j = 0) ∧ fr.testBit 0 = true) ∨ ((i + nn = Z 0 ∧ j = Z 1) ∧ fr.testBit 2 = true))))), (8, .int (iI ((4 : Nat) : Int))), (7, .int (iI ((1 : Nat) : Int))), (6, .int (iI (bI ((i + nn = Z 0 ∧ j = Z 1))))), (5, .int (iI (bI ((i = 0 ∧ j = 0))))), (0, .ref mo), (1, .int (iI ((1 : Nat) : Int))), (2, .int (iI ((i : Nat) : Int))), (3, .int (iI ((j : Nat) : Int))), (4, .int (iI ((nn : Nat) : Int)))] [.int (iI (ra_g1 (ra_mg Z L SC op mr fr pt) i j nn))] [(mo, .inr (10, [.int (iI cd), .ref ml, .ref mz, .ref ms, .int (iI op), .int (iI mr), .int (iI (bI (ld = true))), .int (iI (bI (pt = true))), .int (iI ((fr : Nat) : Int)), .ref mt, .int (iI ((sn : Nat) : Int)), .ref mb, .ref me, .ref bt, .ref wy, .ref lq, .ref df, .int (iI ((dn : Nat) : Int))])), (mz, .inl (tI, 2, .inl (iA (iN Z))))] 0 0 := by
          exact r_iret hX hT () rfl rfl (by decide) (by decide) d_Mo_gap_145
        refine rb_if_eq hX 133 d_Mo_gap_126 (by decide) (fun h126 => ?_) (fun h126 => ?_)
        · refine r_aload_n hX 5 d_Mo_gap_133 rfl ?_
          refine r_get hX cf_Mo 0 rfl 4 (by decide) fl_Mo_19 rfl d_Mo_gap_134 ?_
          refine r_aload_n hX 5 d_Mo_gap_137 rfl ?_
          refine r_get hX cf_Mo 0 rfl 5 (by decide) fl_Mo_23 rfl d_Mo_gap_138 ?_
          refine r_iload hX 9 d_Mo_gap_141 rfl ?_
          refine r_imul hX d_Mo_gap_143 ?_
          refine r_iadd hX d_Mo_gap_144 ?_
          exact rj_e (by first | exact (if_pos h126).symm | exact (if_neg h126).symm) J145
        · refine r_iconstN hX 0 d_Mo_gap_129 rfl ?_
          refine r_goto hX 145 d_Mo_gap_130 (by decide) ?_
          exact rj_e (by first | exact (if_pos h126).symm | exact (if_neg h126).symm) J145
      refine rb_if_eq hX 102 d_Mo_gap_89 (by decide) (fun h89 => ?_) (fun h89 => ?_)
      · refine r_iload hX 2 d_Mo_gap_102 rfl ?_
        refine rb_if_eq hX 121 d_Mo_gap_104 (by decide) (fun h104 => ?_) (fun h104 => ?_)
        · refine r_iconstN hX 0 d_Mo_gap_121 rfl ?_
          exact rj_0 (by first | exact Or.inl ⟨h89, h99⟩ | exact Or.inr ⟨h104, h114⟩ | (rintro (⟨q1, q2⟩ | ⟨q1, q2⟩) <;> contradiction)) J122
        · refine r_aload_n hX 4 d_Mo_gap_107 rfl ?_
          refine r_get hX cf_Mo 0 rfl 8 (by decide) fl_Mo_69 rfl d_Mo_gap_108 ?_
          refine r_iload hX 0 d_Mo_gap_111 rfl ?_
          refine r_iand hX (4 * bI (fr.testBit 2 = true)) (fa_4 fr hf) d_Mo_gap_113 ?_
          refine rbc_if_le hX (by omega) 121 d_Mo_gap_114 (by decide) (fun h114 => ?_) (fun h114 => ?_)
          · refine r_iconstN hX 0 d_Mo_gap_121 rfl ?_
            exact rj_0 (by first | exact Or.inl ⟨h89, h99⟩ | exact Or.inr ⟨h104, h114⟩ | (rintro (⟨q1, q2⟩ | ⟨q1, q2⟩) <;> contradiction)) J122
          · refine r_iconstN hX 1 d_Mo_gap_117 rfl ?_
            refine r_goto hX 122 d_Mo_gap_118 (by decide) ?_
            exact rj_1 (by first | exact Or.inl ⟨h89, h99⟩ | exact Or.inr ⟨h104, h114⟩ | (rintro (⟨q1, q2⟩ | ⟨q1, q2⟩) <;> contradiction)) J122
      · refine r_aload_n hX 4 d_Mo_gap_92 rfl ?_
        refine r_get hX cf_Mo 0 rfl 8 (by decide) fl_Mo_69 rfl d_Mo_gap_93 ?_
        refine r_iload hX 1 d_Mo_gap_96 rfl ?_
        refine r_iand hX (1 * bI (fr.testBit 0 = true)) (fa_1 fr hf) d_Mo_gap_98 ?_
        refine rbc_if_gt hX (by omega) 117 d_Mo_gap_99 (by decide) (fun h99 => ?_) (fun h99 => ?_)
        · refine r_iconstN hX 1 d_Mo_gap_117 rfl ?_
          refine r_goto hX 122 d_Mo_gap_118 (by decide) ?_
          exact rj_1 (by first | exact Or.inl ⟨h89, h99⟩ | exact Or.inr ⟨h104, h114⟩ | (rintro (⟨q1, q2⟩ | ⟨q1, q2⟩) <;> contradiction)) J122
        · refine r_iload hX 2 d_Mo_gap_102 rfl ?_
          refine rb_if_eq hX 121 d_Mo_gap_104 (by decide) (fun h104 => ?_) (fun h104 => ?_)
          · refine r_iconstN hX 0 d_Mo_gap_121 rfl ?_
            exact rj_0 (by first | exact Or.inl ⟨h89, h99⟩ | exact Or.inr ⟨h104, h114⟩ | (rintro (⟨q1, q2⟩ | ⟨q1, q2⟩) <;> contradiction)) J122
          · refine r_aload_n hX 4 d_Mo_gap_107 rfl ?_
            refine r_get hX cf_Mo 0 rfl 8 (by decide) fl_Mo_69 rfl d_Mo_gap_108 ?_
            refine r_iload hX 0 d_Mo_gap_111 rfl ?_
            refine r_iand hX (4 * bI (fr.testBit 2 = true)) (fa_4 fr hf) d_Mo_gap_113 ?_
            refine rbc_if_le hX (by omega) 121 d_Mo_gap_114 (by decide) (fun h114 => ?_) (fun h114 => ?_)
            · refine r_iconstN hX 0 d_Mo_gap_121 rfl ?_
              exact rj_0 (by first | exact Or.inl ⟨h89, h99⟩ | exact Or.inr ⟨h104, h114⟩ | (rintro (⟨q1, q2⟩ | ⟨q1, q2⟩) <;> contradiction)) J122
            · refine r_iconstN hX 1 d_Mo_gap_117 rfl ?_
              refine r_goto hX 122 d_Mo_gap_118 (by decide) ?_
              exact rj_1 (by first | exact Or.inl ⟨h89, h99⟩ | exact Or.inr ⟨h104, h114⟩ | (rintro (⟨q1, q2⟩ | ⟨q1, q2⟩) <;> contradiction)) J122
    refine r_icmp_ne hX 61 d_Mo_gap_33 (by decide) (by unfold iR; omega) (by unfold iR; omega) (fun h33 => ?_) (fun h33 => ?_)
    · refine r_iconstN hX 0 d_Mo_gap_61 rfl ?_
      exact rj_0 (by omega) J62
    · refine r_iload_n hX 2 d_Mo_gap_36 rfl ?_
      refine r_if_eq hX 44 d_Mo_gap_37 (by decide) (by unfold iR; omega) (fun h37 => by exfalso; omega) (fun h37 => ?_)
      refine r_iload_n hX 4 d_Mo_gap_40 rfl ?_
      refine r_goto hX 48 d_Mo_gap_41 (by decide) ?_
      refine r_aload_n hX 1 d_Mo_gap_48 rfl ?_
      refine r_get hX cf_Mo 0 rfl 2 (by decide) fl_Mo_13 rfl d_Mo_gap_49 ?_
      refine r_iconstN hX 1 d_Mo_gap_52 rfl ?_
      refine r_ialdN hX 1 0 rfl rfl (1) rfl (by omega) (by decide) d_Mo_gap_53 ?_
      refine r_icmp_ne hX 61 d_Mo_gap_54 (by decide) (by unfold iR; omega) (by unfold iR; omega) (fun h54 => ?_) (fun h54 => ?_)
      · refine r_iconstN hX 0 d_Mo_gap_61 rfl ?_
        exact rj_0 (by omega) J62
      · refine r_iconstN hX 1 d_Mo_gap_57 rfl ?_
        refine r_goto hX 62 d_Mo_gap_58 (by decide) ?_
        exact rj_1 (by omega) J62
  refine r_if_ne hX 12 d_Mo_gap_1 (by decide) (by unfold iR; omega) (fun h1 => ?_) (fun h1 => ?_)
  · refine r_iconstN hX 0 d_Mo_gap_12 rfl ?_
    exact rj_0 (by omega) J13
  · refine r_iload_n hX 3 d_Mo_gap_4 rfl ?_
    refine r_if_ne hX 12 d_Mo_gap_5 (by decide) (by unfold iR; omega) (fun h5 => ?_) (fun h5 => ?_)
    · refine r_iconstN hX 0 d_Mo_gap_12 rfl ?_
      exact rj_0 (by omega) J13
    · refine r_iconstN hX 1 d_Mo_gap_8 rfl ?_
      refine r_goto hX 13 d_Mo_gap_9 (by decide) ?_
      exact rj_1 (by omega) J13

abbrev rm_Mo_gap_0 : Room := { frames := 0, cells := 0, slots := 0, locals := 0 }
set_option maxHeartbeats 4000000 in
set_option maxRecDepth 100000 in
theorem c_Mo_gap_0 (l : Launch) (D : va_G) (tI tJ tZ : ClassId) (mo : Nat) (ml : Nat) (mz : Nat) (ms : Nat) (mt : Nat) (mb : Nat) (me : Nat) (bt : Nat) (wy : Nat) (lq : Nat) (df : Nat) (cd : Int) (op : Int) (mr : Int) (ld : Bool) (pt : Bool) (fr : Nat) (sn : Nat) (dn : Nat) (Z : Nat → Nat) (L : Nat → Nat) (SC : Nat → Int) (i : Nat) (j : Nat) (nn : Nat) (hi : i ≤ 96) (hj : j ≤ 96) (hn : nn ≤ 96) (hz0 : Z 0 ≤ 96) (hz1 : Z 1 ≤ 96) (hf : fr < 16) : rCi l y_Mo_gap prog_12_method_15_code 10 .int rm_Mo_gap_0 D (tysA tI tJ tZ) [.ref mo, .int (iI ((0 : Nat) : Int)), .int (iI ((i : Nat) : Int)), .int (iI ((j : Nat) : Int)), .int (iI ((nn : Nat) : Int))] [(mo, .inr (10, [.int (iI cd), .ref ml, .ref mz, .ref ms, .int (iI op), .int (iI mr), .int (iI (bI (ld = true))), .int (iI (bI (pt = true))), .int (iI ((fr : Nat) : Int)), .ref mt, .int (iI ((sn : Nat) : Int)), .ref mb, .ref me, .ref bt, .ref wy, .ref lq, .ref df, .int (iI ((dn : Nat) : Int))])), (mz, .inl (tI, 2, .inl (iA (iN Z))))] (fun zz (_ : Unit) => zz = iI ((ra_g2 (ra_mg Z L SC op mr fr pt) i j nn))) (fun (_ : Unit) => [(mo, .inr (10, [.int (iI cd), .ref ml, .ref mz, .ref ms, .int (iI op), .int (iI mr), .int (iI (bI (ld = true))), .int (iI (bI (pt = true))), .int (iI ((fr : Nat) : Int)), .ref mt, .int (iI ((sn : Nat) : Int)), .ref mb, .ref me, .ref bt, .ref wy, .ref lq, .ref df, .int (iI ((dn : Nat) : Int))])), (mz, .inl (tI, 2, .inl (iA (iN Z))))]) := by
  intro sz
  refine r_met (by decide) (Nat.le_of_ble_eq_true rfl) ?_
  intro F p e s m args below meth c Q A hX hT hAe hsz hin
  subst hAe
  replace hX : rOK F p l e rm_Mo_gap_0 s m args below meth c Q prog_12_method_15_code 10 "RowAlignerModel" D (tysA tI tJ tZ) _ := hX
  show F 0 [(0, .ref mo), (1, .int (iI ((0 : Nat) : Int))), (2, .int (iI ((i : Nat) : Int))), (3, .int (iI ((j : Nat) : Int))), (4, .int (iI ((nn : Nat) : Int)))] [] [(mo, .inr (10, [.int (iI cd), .ref ml, .ref mz, .ref ms, .int (iI op), .int (iI mr), .int (iI (bI (ld = true))), .int (iI (bI (pt = true))), .int (iI ((fr : Nat) : Int)), .ref mt, .int (iI ((sn : Nat) : Int)), .ref mb, .ref me, .ref bt, .ref wy, .ref lq, .ref df, .int (iI ((dn : Nat) : Int))])), (mz, .inl (tI, 2, .inl (iA (iN Z))))] 0 0
  refine r_iload_n hX 2 d_Mo_gap_0 rfl ?_
  have J13 : F 13 [(0, .ref mo), (1, .int (iI ((0 : Nat) : Int))), (2, .int (iI ((i : Nat) : Int))), (3, .int (iI ((j : Nat) : Int))), (4, .int (iI ((nn : Nat) : Int)))] [.int (iI (bI ((i = 0 ∧ j = 0))))] [(mo, .inr (10, [.int (iI cd), .ref ml, .ref mz, .ref ms, .int (iI op), .int (iI mr), .int (iI (bI (ld = true))), .int (iI (bI (pt = true))), .int (iI ((fr : Nat) : Int)), .ref mt, .int (iI ((sn : Nat) : Int)), .ref mb, .ref me, .ref bt, .ref wy, .ref lq, .ref df, .int (iI ((dn : Nat) : Int))])), (mz, .inl (tI, 2, .inl (iA (iN Z))))] 0 0 := by
    refine r_istore hX (lv' := [(5, .int (iI (bI ((i = 0 ∧ j = 0))))), (0, .ref mo), (1, .int (iI ((0 : Nat) : Int))), (2, .int (iI ((i : Nat) : Int))), (3, .int (iI ((j : Nat) : Int))), (4, .int (iI ((nn : Nat) : Int)))]) d_Mo_gap_13 (by decide) rfl ?_
    refine r_iload_n hX 2 d_Mo_gap_15 rfl ?_
    refine r_if_eq hX 26 d_Mo_gap_16 (by decide) (by unfold iR; omega) (fun h16 => ?_) (fun h16 => by exfalso; omega)
    refine r_iload_n hX 3 d_Mo_gap_26 rfl ?_
    refine r_aload_n hX 1 d_Mo_gap_27 rfl ?_
    refine r_get hX cf_Mo 0 rfl 2 (by decide) fl_Mo_13 rfl d_Mo_gap_28 ?_
    refine r_iconstN hX 0 d_Mo_gap_31 rfl ?_
    refine r_ialdN hX 1 0 rfl rfl (0) rfl (by omega) (by decide) d_Mo_gap_32 ?_
    have J62 : F 62 [(5, .int (iI (bI ((i = 0 ∧ j = 0))))), (0, .ref mo), (1, .int (iI ((0 : Nat) : Int))), (2, .int (iI ((i : Nat) : Int))), (3, .int (iI ((j : Nat) : Int))), (4, .int (iI ((nn : Nat) : Int)))] [.int (iI (bI ((i = Z 0 ∧ j + nn = Z 1))))] [(mo, .inr (10, [.int (iI cd), .ref ml, .ref mz, .ref ms, .int (iI op), .int (iI mr), .int (iI (bI (ld = true))), .int (iI (bI (pt = true))), .int (iI ((fr : Nat) : Int)), .ref mt, .int (iI ((sn : Nat) : Int)), .ref mb, .ref me, .ref bt, .ref wy, .ref lq, .ref df, .int (iI ((dn : Nat) : Int))])), (mz, .inl (tI, 2, .inl (iA (iN Z))))] 0 0 := by
      refine r_istore hX (lv' := [(6, .int (iI (bI ((i = Z 0 ∧ j + nn = Z 1))))), (5, .int (iI (bI ((i = 0 ∧ j = 0))))), (0, .ref mo), (1, .int (iI ((0 : Nat) : Int))), (2, .int (iI ((i : Nat) : Int))), (3, .int (iI ((j : Nat) : Int))), (4, .int (iI ((nn : Nat) : Int)))]) d_Mo_gap_62 (by decide) rfl ?_
      refine r_iload_n hX 3 d_Mo_gap_64 rfl ?_
      refine r_if_eq hX 72 d_Mo_gap_65 (by decide) (by unfold iR; omega) (fun h65 => ?_) (fun h65 => by exfalso; omega)
      refine r_iconstN hX 2 d_Mo_gap_72 rfl ?_
      refine r_istore hX (lv' := [(7, .int (iI ((2 : Nat) : Int))), (6, .int (iI (bI ((i = Z 0 ∧ j + nn = Z 1))))), (5, .int (iI (bI ((i = 0 ∧ j = 0))))), (0, .ref mo), (1, .int (iI ((0 : Nat) : Int))), (2, .int (iI ((i : Nat) : Int))), (3, .int (iI ((j : Nat) : Int))), (4, .int (iI ((nn : Nat) : Int)))]) d_Mo_gap_73 (by decide) rfl ?_
      refine r_iload_n hX 4 d_Mo_gap_75 rfl ?_
      refine r_if_eq hX 83 d_Mo_gap_76 (by decide) (by unfold iR; omega) (fun h76 => ?_) (fun h76 => by exfalso; omega)
      refine r_bipushN hX 8 d_Mo_gap_83 rfl (by decide) ?_
      refine r_istore hX (lv' := [(8, .int (iI ((8 : Nat) : Int))), (7, .int (iI ((2 : Nat) : Int))), (6, .int (iI (bI ((i = Z 0 ∧ j + nn = Z 1))))), (5, .int (iI (bI ((i = 0 ∧ j = 0))))), (0, .ref mo), (1, .int (iI ((0 : Nat) : Int))), (2, .int (iI ((i : Nat) : Int))), (3, .int (iI ((j : Nat) : Int))), (4, .int (iI ((nn : Nat) : Int)))]) d_Mo_gap_85 (by decide) rfl ?_
      refine r_iload hX 3 d_Mo_gap_87 rfl ?_
      have J122 : F 122 [(8, .int (iI ((8 : Nat) : Int))), (7, .int (iI ((2 : Nat) : Int))), (6, .int (iI (bI ((i = Z 0 ∧ j + nn = Z 1))))), (5, .int (iI (bI ((i = 0 ∧ j = 0))))), (0, .ref mo), (1, .int (iI ((0 : Nat) : Int))), (2, .int (iI ((i : Nat) : Int))), (3, .int (iI ((j : Nat) : Int))), (4, .int (iI ((nn : Nat) : Int)))] [.int (iI (bI (((i = 0 ∧ j = 0) ∧ fr.testBit 1 = true) ∨ ((i = Z 0 ∧ j + nn = Z 1) ∧ fr.testBit 3 = true))))] [(mo, .inr (10, [.int (iI cd), .ref ml, .ref mz, .ref ms, .int (iI op), .int (iI mr), .int (iI (bI (ld = true))), .int (iI (bI (pt = true))), .int (iI ((fr : Nat) : Int)), .ref mt, .int (iI ((sn : Nat) : Int)), .ref mb, .ref me, .ref bt, .ref wy, .ref lq, .ref df, .int (iI ((dn : Nat) : Int))])), (mz, .inl (tI, 2, .inl (iA (iN Z))))] 0 0 := by
        refine r_istore hX (lv' := [(9, .int (iI (bI (((i = 0 ∧ j = 0) ∧ fr.testBit 1 = true) ∨ ((i = Z 0 ∧ j + nn = Z 1) ∧ fr.testBit 3 = true))))), (8, .int (iI ((8 : Nat) : Int))), (7, .int (iI ((2 : Nat) : Int))), (6, .int (iI (bI ((i = Z 0 ∧ j + nn = Z 1))))), (5, .int (iI (bI ((i = 0 ∧ j = 0))))), (0, .ref mo), (1, .int (iI ((0 : Nat) : Int))), (2, .int (iI ((i : Nat) : Int))), (3, .int (iI ((j : Nat) : Int))), (4, .int (iI ((nn : Nat) : Int)))]) d_Mo_gap_122 (by decide) rfl ?_
        refine r_iload hX 0 d_Mo_gap_124 rfl ?_
        have J145 : F 145 [(9, .int (iI (bI (((i = 0 ∧ j = 0) ∧ fr.testBit 1 = true) ∨ ((i = Z 0 ∧ j + nn = Z 1) ∧ fr.testBit 3 = true))))), (8, .int (iI ((8 : Nat) : Int))), (7, .int (iI ((2 : Nat) : Int))), (6, .int (iI (bI ((i = Z 0 ∧ j + nn = Z 1))))), (5, .int (iI (bI ((i = 0 ∧ j = 0))))), (0, .ref mo), (1, .int (iI ((0 : Nat) : Int))), (2, .int (iI ((i : Nat) : Int))), (3, .int (iI ((j : Nat) : Int))), (4, .int (iI ((nn : Nat) : Int)))] [.int (iI (ra_g2 (ra_mg Z L SC op mr fr pt) i j nn))] [(mo, .inr (10, [.int (iI cd), .ref ml, .ref mz, .ref ms, .int (iI op), .int (iI mr), .int (iI (bI (ld = true))), .int (iI (bI (pt = true))), .int (iI ((fr : Nat) : Int)), .ref mt, .int (iI ((sn : Nat) : Int)), .ref mb, .ref me, .ref bt, .ref wy, .ref lq, .ref df, .int (iI ((dn : Nat) : Int))])), (mz, .inl (tI, 2, .inl (iA (iN Z))))] 0 0 := by
          exact r_iret hX hT () rfl rfl (by decide) (by decide) d_Mo_gap_145
        refine rb_if_eq hX 133 d_Mo_gap_126 (by decide) (fun h126 => ?_) (fun h126 => ?_)
        · refine r_aload_n hX 5 d_Mo_gap_133 rfl ?_
          refine r_get hX cf_Mo 0 rfl 4 (by decide) fl_Mo_19 rfl d_Mo_gap_134 ?_
          refine r_aload_n hX 5 d_Mo_gap_137 rfl ?_
          refine r_get hX cf_Mo 0 rfl 5 (by decide) fl_Mo_23 rfl d_Mo_gap_138 ?_
          refine r_iload hX 9 d_Mo_gap_141 rfl ?_
          refine r_imul hX d_Mo_gap_143 ?_
          refine r_iadd hX d_Mo_gap_144 ?_
          exact rj_e (by first | exact (if_pos h126).symm | exact (if_neg h126).symm) J145
        · refine r_iconstN hX 0 d_Mo_gap_129 rfl ?_
          refine r_goto hX 145 d_Mo_gap_130 (by decide) ?_
          exact rj_e (by first | exact (if_pos h126).symm | exact (if_neg h126).symm) J145
      refine rb_if_eq hX 102 d_Mo_gap_89 (by decide) (fun h89 => ?_) (fun h89 => ?_)
      · refine r_iload hX 2 d_Mo_gap_102 rfl ?_
        refine rb_if_eq hX 121 d_Mo_gap_104 (by decide) (fun h104 => ?_) (fun h104 => ?_)
        · refine r_iconstN hX 0 d_Mo_gap_121 rfl ?_
          exact rj_0 (by first | exact Or.inl ⟨h89, h99⟩ | exact Or.inr ⟨h104, h114⟩ | (rintro (⟨q1, q2⟩ | ⟨q1, q2⟩) <;> contradiction)) J122
        · refine r_aload_n hX 4 d_Mo_gap_107 rfl ?_
          refine r_get hX cf_Mo 0 rfl 8 (by decide) fl_Mo_69 rfl d_Mo_gap_108 ?_
          refine r_iload hX 0 d_Mo_gap_111 rfl ?_
          refine r_iand hX (8 * bI (fr.testBit 3 = true)) (fa_8 fr hf) d_Mo_gap_113 ?_
          refine rbc_if_le hX (by omega) 121 d_Mo_gap_114 (by decide) (fun h114 => ?_) (fun h114 => ?_)
          · refine r_iconstN hX 0 d_Mo_gap_121 rfl ?_
            exact rj_0 (by first | exact Or.inl ⟨h89, h99⟩ | exact Or.inr ⟨h104, h114⟩ | (rintro (⟨q1, q2⟩ | ⟨q1, q2⟩) <;> contradiction)) J122
          · refine r_iconstN hX 1 d_Mo_gap_117 rfl ?_
            refine r_goto hX 122 d_Mo_gap_118 (by decide) ?_
            exact rj_1 (by first | exact Or.inl ⟨h89, h99⟩ | exact Or.inr ⟨h104, h114⟩ | (rintro (⟨q1, q2⟩ | ⟨q1, q2⟩) <;> contradiction)) J122
      · refine r_aload_n hX 4 d_Mo_gap_92 rfl ?_
        refine r_get hX cf_Mo 0 rfl 8 (by decide) fl_Mo_69 rfl d_Mo_gap_93 ?_
        refine r_iload hX 1 d_Mo_gap_96 rfl ?_
        refine r_iand hX (2 * bI (fr.testBit 1 = true)) (fa_2 fr hf) d_Mo_gap_98 ?_
        refine rbc_if_gt hX (by omega) 117 d_Mo_gap_99 (by decide) (fun h99 => ?_) (fun h99 => ?_)
        · refine r_iconstN hX 1 d_Mo_gap_117 rfl ?_
          refine r_goto hX 122 d_Mo_gap_118 (by decide) ?_
          exact rj_1 (by first | exact Or.inl ⟨h89, h99⟩ | exact Or.inr ⟨h104, h114⟩ | (rintro (⟨q1, q2⟩ | ⟨q1, q2⟩) <;> contradiction)) J122
        · refine r_iload hX 2 d_Mo_gap_102 rfl ?_
          refine rb_if_eq hX 121 d_Mo_gap_104 (by decide) (fun h104 => ?_) (fun h104 => ?_)
          · refine r_iconstN hX 0 d_Mo_gap_121 rfl ?_
            exact rj_0 (by first | exact Or.inl ⟨h89, h99⟩ | exact Or.inr ⟨h104, h114⟩ | (rintro (⟨q1, q2⟩ | ⟨q1, q2⟩) <;> contradiction)) J122
          · refine r_aload_n hX 4 d_Mo_gap_107 rfl ?_
            refine r_get hX cf_Mo 0 rfl 8 (by decide) fl_Mo_69 rfl d_Mo_gap_108 ?_
            refine r_iload hX 0 d_Mo_gap_111 rfl ?_
            refine r_iand hX (8 * bI (fr.testBit 3 = true)) (fa_8 fr hf) d_Mo_gap_113 ?_
            refine rbc_if_le hX (by omega) 121 d_Mo_gap_114 (by decide) (fun h114 => ?_) (fun h114 => ?_)
            · refine r_iconstN hX 0 d_Mo_gap_121 rfl ?_
              exact rj_0 (by first | exact Or.inl ⟨h89, h99⟩ | exact Or.inr ⟨h104, h114⟩ | (rintro (⟨q1, q2⟩ | ⟨q1, q2⟩) <;> contradiction)) J122
            · refine r_iconstN hX 1 d_Mo_gap_117 rfl ?_
              refine r_goto hX 122 d_Mo_gap_118 (by decide) ?_
              exact rj_1 (by first | exact Or.inl ⟨h89, h99⟩ | exact Or.inr ⟨h104, h114⟩ | (rintro (⟨q1, q2⟩ | ⟨q1, q2⟩) <;> contradiction)) J122
    refine r_icmp_ne hX 61 d_Mo_gap_33 (by decide) (by unfold iR; omega) (by unfold iR; omega) (fun h33 => ?_) (fun h33 => ?_)
    · refine r_iconstN hX 0 d_Mo_gap_61 rfl ?_
      exact rj_0 (by omega) J62
    · refine r_iload_n hX 2 d_Mo_gap_36 rfl ?_
      refine r_if_eq hX 44 d_Mo_gap_37 (by decide) (by unfold iR; omega) (fun h37 => ?_) (fun h37 => by exfalso; omega)
      refine r_iload_n hX 4 d_Mo_gap_44 rfl ?_
      refine r_iload hX 5 d_Mo_gap_45 rfl ?_
      refine r_iaddN hX d_Mo_gap_47 ?_
      refine r_aload_n hX 1 d_Mo_gap_48 rfl ?_
      refine r_get hX cf_Mo 0 rfl 2 (by decide) fl_Mo_13 rfl d_Mo_gap_49 ?_
      refine r_iconstN hX 1 d_Mo_gap_52 rfl ?_
      refine r_ialdN hX 1 0 rfl rfl (1) rfl (by omega) (by decide) d_Mo_gap_53 ?_
      refine r_icmp_ne hX 61 d_Mo_gap_54 (by decide) (by unfold iR; omega) (by unfold iR; omega) (fun h54 => ?_) (fun h54 => ?_)
      · refine r_iconstN hX 0 d_Mo_gap_61 rfl ?_
        exact rj_0 (by omega) J62
      · refine r_iconstN hX 1 d_Mo_gap_57 rfl ?_
        refine r_goto hX 62 d_Mo_gap_58 (by decide) ?_
        exact rj_1 (by omega) J62
  refine r_if_ne hX 12 d_Mo_gap_1 (by decide) (by unfold iR; omega) (fun h1 => ?_) (fun h1 => ?_)
  · refine r_iconstN hX 0 d_Mo_gap_12 rfl ?_
    exact rj_0 (by omega) J13
  · refine r_iload_n hX 3 d_Mo_gap_4 rfl ?_
    refine r_if_ne hX 12 d_Mo_gap_5 (by decide) (by unfold iR; omega) (fun h5 => ?_) (fun h5 => ?_)
    · refine r_iconstN hX 0 d_Mo_gap_12 rfl ?_
      exact rj_0 (by omega) J13
    · refine r_iconstN hX 1 d_Mo_gap_8 rfl ?_
      refine r_goto hX 13 d_Mo_gap_9 (by decide) ?_
      exact rj_1 (by omega) J13

abbrev rm_Mo_isGoal : Room := { frames := 0, cells := 0, slots := 0, locals := 0 }
set_option maxHeartbeats 4000000 in
set_option maxRecDepth 100000 in
theorem c_Mo_isGoal (l : Launch) (D : va_G) (tI tJ tZ : ClassId) (mo : Nat) (ml : Nat) (mz : Nat) (ms : Nat) (mt : Nat) (mb : Nat) (me : Nat) (bt : Nat) (wy : Nat) (lq : Nat) (df : Nat) (cd : Int) (op : Int) (mr : Int) (ld : Bool) (pt : Bool) (fr : Nat) (sn : Nat) (dn : Nat) (T : Nat → Int) (w : Int) (tt : Nat) (gl : Int) (ht : tt < 28227) (hw : -1000000 ≤ w ∧ w ≤ 1000000) (hg : -200000000 ≤ gl ∧ gl ≤ 200000000) (hT : -200000000 ≤ T tt ∧ T tt ≤ 200000000) : rCi l y_Mo_isGoal prog_12_method_20_code 4 .boolean rm_Mo_isGoal D (tysA tI tJ tZ) [.ref mo, .int (iI w), .int (iI ((tt : Nat) : Int)), .int (iI gl)] [(mo, .inr (10, [.int (iI cd), .ref ml, .ref mz, .ref ms, .int (iI op), .int (iI mr), .int (iI (bI (ld = true))), .int (iI (bI (pt = true))), .int (iI ((fr : Nat) : Int)), .ref mt, .int (iI ((sn : Nat) : Int)), .ref mb, .ref me, .ref bt, .ref wy, .ref lq, .ref df, .int (iI ((dn : Nat) : Int))])), (bt, .inl (tI, 28227, .inl (iA T)))] (fun zz (_ : Unit) => zz = iI (bI (¬ T tt = -100000000 ∧ w + T tt = gl))) (fun (_ : Unit) => [(mo, .inr (10, [.int (iI cd), .ref ml, .ref mz, .ref ms, .int (iI op), .int (iI mr), .int (iI (bI (ld = true))), .int (iI (bI (pt = true))), .int (iI ((fr : Nat) : Int)), .ref mt, .int (iI ((sn : Nat) : Int)), .ref mb, .ref me, .ref bt, .ref wy, .ref lq, .ref df, .int (iI ((dn : Nat) : Int))])), (bt, .inl (tI, 28227, .inl (iA T)))]) := by
  intro sz
  refine r_met (by decide) (Nat.le_of_ble_eq_true rfl) ?_
  intro F p e s m args below meth c Q A hX hT hAe hsz hin
  subst hAe
  replace hX : rOK F p l e rm_Mo_isGoal s m args below meth c Q prog_12_method_20_code 4 "RowAlignerModel" D (tysA tI tJ tZ) _ := hX
  show F 0 [(0, .ref mo), (1, .int (iI w)), (2, .int (iI ((tt : Nat) : Int))), (3, .int (iI gl))] [] [(mo, .inr (10, [.int (iI cd), .ref ml, .ref mz, .ref ms, .int (iI op), .int (iI mr), .int (iI (bI (ld = true))), .int (iI (bI (pt = true))), .int (iI ((fr : Nat) : Int)), .ref mt, .int (iI ((sn : Nat) : Int)), .ref mb, .ref me, .ref bt, .ref wy, .ref lq, .ref df, .int (iI ((dn : Nat) : Int))])), (bt, .inl (tI, 28227, .inl (iA T)))] 0 0
  refine r_aload_n hX 0 d_Mo_isGoal_0 rfl ?_
  refine r_get hX cf_Mo 0 rfl 13 (by decide) fl_Mo_35 rfl d_Mo_isGoal_1 ?_
  refine r_iload_n hX 2 d_Mo_isGoal_4 rfl ?_
  refine r_iald hX 1 0 rfl rfl (tt) rfl (by omega) (by decide) d_Mo_isGoal_5 ?_
  refine r_ldc hX (-100000000) ct_Mo_79 (by decide) d_Mo_isGoal_6 ?_
  have J28 : F 28 [(0, .ref mo), (1, .int (iI w)), (2, .int (iI ((tt : Nat) : Int))), (3, .int (iI gl))] [.int (iI (bI (¬ T tt = -100000000 ∧ w + T tt = gl)))] [(mo, .inr (10, [.int (iI cd), .ref ml, .ref mz, .ref ms, .int (iI op), .int (iI mr), .int (iI (bI (ld = true))), .int (iI (bI (pt = true))), .int (iI ((fr : Nat) : Int)), .ref mt, .int (iI ((sn : Nat) : Int)), .ref mb, .ref me, .ref bt, .ref wy, .ref lq, .ref df, .int (iI ((dn : Nat) : Int))])), (bt, .inl (tI, 28227, .inl (iA T)))] 0 0 := by
    exact r_zret hX hT (bI_01 _) () rfl rfl (by decide) (by decide) d_Mo_isGoal_28
  refine r_icmp_eq hX 27 d_Mo_isGoal_8 (by decide) (by unfold iR; omega) (by unfold iR; omega) (fun h8 => ?_) (fun h8 => ?_)
  · refine r_iconstN hX 0 d_Mo_isGoal_27 rfl ?_
    exact rj_0 (by omega) J28
  · refine r_iload_n hX 1 d_Mo_isGoal_11 rfl ?_
    refine r_aload_n hX 0 d_Mo_isGoal_12 rfl ?_
    refine r_get hX cf_Mo 0 rfl 13 (by decide) fl_Mo_35 rfl d_Mo_isGoal_13 ?_
    refine r_iload_n hX 2 d_Mo_isGoal_16 rfl ?_
    refine r_iald hX 1 0 rfl rfl (tt) rfl (by omega) (by decide) d_Mo_isGoal_17 ?_
    refine r_iadd hX d_Mo_isGoal_18 ?_
    refine r_iload_n hX 3 d_Mo_isGoal_19 rfl ?_
    refine r_icmp_ne hX 27 d_Mo_isGoal_20 (by decide) (by unfold iR; omega) (by unfold iR; omega) (fun h20 => ?_) (fun h20 => ?_)
    · refine r_iconstN hX 0 d_Mo_isGoal_27 rfl ?_
      exact rj_0 (by omega) J28
    · refine r_iconstN hX 1 d_Mo_isGoal_23 rfl ?_
      refine r_goto hX 28 d_Mo_isGoal_24 (by decide) ?_
      exact rj_1 (by omega) J28

abbrev rm_Mo_offer : Room := { frames := 0, cells := 0, slots := 0, locals := 0 }
set_option maxHeartbeats 4000000 in
set_option maxRecDepth 100000 in
theorem c_Mo_offer (l : Launch) (D : va_G) (tI tJ tZ : ClassId) (mo : Nat) (ml : Nat) (mz : Nat) (ms : Nat) (mt : Nat) (mb : Nat) (me : Nat) (bt : Nat) (wy : Nat) (lq : Nat) (df : Nat) (cd : Int) (op : Int) (mr : Int) (ld : Bool) (pt : Bool) (fr : Nat) (sn : Nat) (dn : Nat) (T : Nat → Int) (K : Nat → Int64) (hh : Nat) (w : Int) (tt : Nat) (hh9 : hh < 28227) (ht : tt < 28227) (hw : -1000000 ≤ w ∧ w ≤ 1000000) (hT : -200000000 ≤ T tt ∧ T tt ≤ 200000000) (hT2 : -200000000 ≤ T hh ∧ T hh ≤ 200000000) : rCv l y_Mo_offer prog_12_method_18_code 5 rm_Mo_offer D (tysA tI tJ tZ) [.ref mo, .int (iI ((hh : Nat) : Int)), .int (iI w), .int (iI ((tt : Nat) : Int))] [(mo, .inr (10, [.int (iI cd), .ref ml, .ref mz, .ref ms, .int (iI op), .int (iI mr), .int (iI (bI (ld = true))), .int (iI (bI (pt = true))), .int (iI ((fr : Nat) : Int)), .ref mt, .int (iI ((sn : Nat) : Int)), .ref mb, .ref me, .ref bt, .ref wy, .ref lq, .ref df, .int (iI ((dn : Nat) : Int))])), (bt, .inl (tI, 28227, .inl (iA T))), (wy, .inl (tJ, 28227, .inr (.inl K)))] (fun (_ : Unit) => True) (fun (_ : Unit) => [(mo, .inr (10, [.int (iI cd), .ref ml, .ref mz, .ref ms, .int (iI op), .int (iI mr), .int (iI (bI (ld = true))), .int (iI (bI (pt = true))), .int (iI ((fr : Nat) : Int)), .ref mt, .int (iI ((sn : Nat) : Int)), .ref mb, .ref me, .ref bt, .ref wy, .ref lq, .ref df, .int (iI ((dn : Nat) : Int))])), (bt, .inl (tI, 28227, .inl (iA (ra_oT T hh w tt)))), (wy, .inl (tJ, 28227, .inr (.inl (ra_oK T K hh w tt))))]) := by
  intro sz
  refine r_met (by decide) (Nat.le_of_ble_eq_true rfl) ?_
  intro F p e s m args below meth c Q A hX hT hAe hsz hin
  subst hAe
  replace hX : rOK F p l e rm_Mo_offer s m args below meth c Q prog_12_method_18_code 5 "RowAlignerModel" D (tysA tI tJ tZ) _ := hX
  show F 0 [(0, .ref mo), (1, .int (iI ((hh : Nat) : Int))), (2, .int (iI w)), (3, .int (iI ((tt : Nat) : Int)))] [] [(mo, .inr (10, [.int (iI cd), .ref ml, .ref mz, .ref ms, .int (iI op), .int (iI mr), .int (iI (bI (ld = true))), .int (iI (bI (pt = true))), .int (iI ((fr : Nat) : Int)), .ref mt, .int (iI ((sn : Nat) : Int)), .ref mb, .ref me, .ref bt, .ref wy, .ref lq, .ref df, .int (iI ((dn : Nat) : Int))])), (bt, .inl (tI, 28227, .inl (iA T))), (wy, .inl (tJ, 28227, .inr (.inl K)))] 0 0
  refine r_iload_n hX 2 d_Mo_offer_0 rfl ?_
  refine r_aload_n hX 0 d_Mo_offer_1 rfl ?_
  refine r_get hX cf_Mo 0 rfl 13 (by decide) fl_Mo_35 rfl d_Mo_offer_2 ?_
  refine r_iload_n hX 3 d_Mo_offer_5 rfl ?_
  refine r_iald hX 1 0 rfl rfl (tt) rfl (by omega) (by decide) d_Mo_offer_6 ?_
  refine r_iadd hX d_Mo_offer_7 ?_
  refine r_istore hX (lv' := [(4, .int (iI ((w) + (T tt)))), (0, .ref mo), (1, .int (iI ((hh : Nat) : Int))), (2, .int (iI w)), (3, .int (iI ((tt : Nat) : Int)))]) d_Mo_offer_8 (by decide) rfl ?_
  refine r_aload_n hX 1 d_Mo_offer_10 rfl ?_
  refine r_get hX cf_Mo 0 rfl 13 (by decide) fl_Mo_35 rfl d_Mo_offer_11 ?_
  refine r_iload_n hX 4 d_Mo_offer_14 rfl ?_
  refine r_iald hX 1 0 rfl rfl (tt) rfl (by omega) (by decide) d_Mo_offer_15 ?_
  refine r_ldc hX (-100000000) ct_Mo_79 (by decide) d_Mo_offer_16 ?_
  refine r_icmp_eq hX 32 d_Mo_offer_18 (by decide) (by unfold iR; omega) (by unfold iR; omega) (fun h18 => ?_) (fun h18 => ?_)
  · exact r_vret hX hT () trivial (by unfold ra_oT ra_oK; rw [if_pos (by omega), if_pos (by omega)]) (by decide) (by decide) d_Mo_offer_32
  · refine r_iload hX 0 d_Mo_offer_21 rfl ?_
    refine r_aload_n hX 1 d_Mo_offer_23 rfl ?_
    refine r_get hX cf_Mo 0 rfl 13 (by decide) fl_Mo_35 rfl d_Mo_offer_24 ?_
    refine r_iload_n hX 2 d_Mo_offer_27 rfl ?_
    refine r_iald hX 1 0 rfl rfl (hh) rfl (by omega) (by decide) d_Mo_offer_28 ?_
    refine r_icmp_ge hX 33 d_Mo_offer_29 (by decide) (by unfold iR; omega) (by unfold iR; omega) (fun h29 => ?_) (fun h29 => ?_)
    · refine r_aload_n hX 1 d_Mo_offer_33 rfl ?_
      refine r_get hX cf_Mo 0 rfl 14 (by decide) fl_Mo_38 rfl d_Mo_offer_34 ?_
      refine r_iload_n hX 2 d_Mo_offer_37 rfl ?_
      refine r_iload hX 0 d_Mo_offer_38 rfl ?_
      refine r_aload_n hX 1 d_Mo_offer_40 rfl ?_
      refine r_get hX cf_Mo 0 rfl 13 (by decide) fl_Mo_35 rfl d_Mo_offer_41 ?_
      refine r_iload_n hX 2 d_Mo_offer_44 rfl ?_
      refine r_iald hX 1 0 rfl rfl (hh) rfl (by omega) (by decide) d_Mo_offer_45 ?_
      have J71 : F 71 [(4, .int (iI ((w) + (T tt)))), (0, .ref mo), (1, .int (iI ((hh : Nat) : Int))), (2, .int (iI w)), (3, .int (iI ((tt : Nat) : Int)))] [.long ((if T hh < w + T tt then K tt else K hh + K tt)), .int (iI ((hh : Nat) : Int)), .ref wy] [(mo, .inr (10, [.int (iI cd), .ref ml, .ref mz, .ref ms, .int (iI op), .int (iI mr), .int (iI (bI (ld = true))), .int (iI (bI (pt = true))), .int (iI ((fr : Nat) : Int)), .ref mt, .int (iI ((sn : Nat) : Int)), .ref mb, .ref me, .ref bt, .ref wy, .ref lq, .ref df, .int (iI ((dn : Nat) : Int))])), (bt, .inl (tI, 28227, .inl (iA T))), (wy, .inl (tJ, 28227, .inr (.inl K)))] 0 0 := by
        refine r_last hX (ws' := [(mo, .inr (10, [.int (iI cd), .ref ml, .ref mz, .ref ms, .int (iI op), .int (iI mr), .int (iI (bI (ld = true))), .int (iI (bI (pt = true))), .int (iI ((fr : Nat) : Int)), .ref mt, .int (iI ((sn : Nat) : Int)), .ref mb, .ref me, .ref bt, .ref wy, .ref lq, .ref df, .int (iI ((dn : Nat) : Int))])), (bt, .inl (tI, 28227, .inl (iA T))), (wy, .inl (tJ, 28227, .inr (.inl (iU K hh ((if T hh < w + T tt then K tt else K hh + K tt))))))]) 2 1 rfl rfl (hh) rfl (by omega) (by decide) rfl d_Mo_offer_71 ?_
        refine r_aload_n hX 1 d_Mo_offer_72 rfl ?_
        refine r_get hX cf_Mo 0 rfl 13 (by decide) fl_Mo_35 rfl d_Mo_offer_73 ?_
        refine r_iload_n hX 2 d_Mo_offer_76 rfl ?_
        refine r_iload hX 0 d_Mo_offer_77 rfl ?_
        refine r_iast hX (ws' := [(mo, .inr (10, [.int (iI cd), .ref ml, .ref mz, .ref ms, .int (iI op), .int (iI mr), .int (iI (bI (ld = true))), .int (iI (bI (pt = true))), .int (iI ((fr : Nat) : Int)), .ref mt, .int (iI ((sn : Nat) : Int)), .ref mb, .ref me, .ref bt, .ref wy, .ref lq, .ref df, .int (iI ((dn : Nat) : Int))])), (bt, .inl (tI, 28227, .inl (iA (iU T hh (((w) + (T tt))))))), (wy, .inl (tJ, 28227, .inr (.inl (iU K hh ((if T hh < w + T tt then K tt else K hh + K tt))))))]) 1 0 rfl rfl (hh) rfl (by omega) (by decide) rfl d_Mo_offer_79 ?_
        exact r_vret hX hT () trivial (by unfold ra_oT ra_oK; rw [if_neg (show ¬ (T tt = -100000000 ∨ w + T tt < T hh) by omega), if_neg (show ¬ (T tt = -100000000 ∨ w + T tt < T hh) by omega)]) (by decide) (by decide) d_Mo_offer_80
      refine r_icmp_le hX 58 d_Mo_offer_46 (by decide) (by unfold iR; omega) (by unfold iR; omega) (fun h46 => ?_) (fun h46 => ?_)
      · refine r_aload_n hX 1 d_Mo_offer_58 rfl ?_
        refine r_get hX cf_Mo 0 rfl 14 (by decide) fl_Mo_38 rfl d_Mo_offer_59 ?_
        refine r_iload_n hX 2 d_Mo_offer_62 rfl ?_
        refine r_lald hX 2 1 rfl rfl (hh) rfl (by omega) (by decide) d_Mo_offer_63 ?_
        refine r_aload_n hX 1 d_Mo_offer_64 rfl ?_
        refine r_get hX cf_Mo 0 rfl 14 (by decide) fl_Mo_38 rfl d_Mo_offer_65 ?_
        refine r_iload_n hX 4 d_Mo_offer_68 rfl ?_
        refine r_lald hX 2 1 rfl rfl (tt) rfl (by omega) (by decide) d_Mo_offer_69 ?_
        refine r_ladd hX d_Mo_offer_70 ?_
        exact r_topl (by first | exact (if_pos (by omega)).symm | exact (if_neg (by omega)).symm) J71
      · refine r_aload_n hX 1 d_Mo_offer_49 rfl ?_
        refine r_get hX cf_Mo 0 rfl 14 (by decide) fl_Mo_38 rfl d_Mo_offer_50 ?_
        refine r_iload_n hX 4 d_Mo_offer_53 rfl ?_
        refine r_lald hX 2 1 rfl rfl (tt) rfl (by omega) (by decide) d_Mo_offer_54 ?_
        refine r_goto hX 71 d_Mo_offer_55 (by decide) ?_
        exact r_topl (by first | exact (if_pos (by omega)).symm | exact (if_neg (by omega)).symm) J71
    · exact r_vret hX hT () trivial (by unfold ra_oT ra_oK; rw [if_pos (by omega), if_pos (by omega)]) (by decide) (by decide) d_Mo_offer_32

abbrev rm_Mo_reckon : Room := { frames := 1, cells := 0, slots := 0, locals := 29 }
set_option maxHeartbeats 4000000 in
set_option maxRecDepth 100000 in
theorem c_Mo_reckon (l : Launch) (D : va_G) (tI tJ tZ : ClassId) (mo : Nat) (ml : Nat) (mz : Nat) (ms : Nat) (mt : Nat) (mb : Nat) (me : Nat) (bt : Nat) (wy : Nat) (lq : Nat) (df : Nat) (cd : Int) (op : Int) (mr : Int) (ld : Bool) (pt : Bool) (fr : Nat) (sn : Nat) (dn : Nat) (L : Nat → Nat) (Z : Nat → Nat) (SC : Nat → Int) (T : Nat → Int) (K : Nat → Int64) (i : Nat) (j : Nat) (bb : Nat) (hM : raM Z L SC op mr fr) (hb : bb < 3) (hi : i ≤ Z 0) (hj : j ≤ Z 1) (hSB : ra_SB (ra_mg Z L SC op mr fr pt) T K i j) : rCv l y_Mo_reckon prog_12_method_17_code 7 rm_Mo_reckon D (tysA tI tJ tZ) [.ref mo, .int (iI ((i : Nat) : Int)), .int (iI ((j : Nat) : Int)), .int (iI ((bb : Nat) : Int))] [(mo, .inr (10, [.int (iI cd), .ref ml, .ref mz, .ref ms, .int (iI op), .int (iI mr), .int (iI (bI (ld = true))), .int (iI (bI (pt = true))), .int (iI ((fr : Nat) : Int)), .ref mt, .int (iI ((sn : Nat) : Int)), .ref mb, .ref me, .ref bt, .ref wy, .ref lq, .ref df, .int (iI ((dn : Nat) : Int))])), (ml, .inl (tI, 192, .inl (iA (iN L)))), (mz, .inl (tI, 2, .inl (iA (iN Z)))), (ms, .inl (tI, 676, .inl (iA SC))), (bt, .inl (tI, 28227, .inl (iA T))), (wy, .inl (tJ, 28227, .inr (.inl K)))] (fun u => ra_RI T K u.1 u.2 ((97 * i + j) * 3 + bb) (ra_m (ra_mg Z L SC op mr fr pt) bb i j)) (fun (u : (Nat → Int) × (Nat → Int64)) => [(mo, .inr (10, [.int (iI cd), .ref ml, .ref mz, .ref ms, .int (iI op), .int (iI mr), .int (iI (bI (ld = true))), .int (iI (bI (pt = true))), .int (iI ((fr : Nat) : Int)), .ref mt, .int (iI ((sn : Nat) : Int)), .ref mb, .ref me, .ref bt, .ref wy, .ref lq, .ref df, .int (iI ((dn : Nat) : Int))])), (ml, .inl (tI, 192, .inl (iA (iN L)))), (mz, .inl (tI, 2, .inl (iA (iN Z)))), (ms, .inl (tI, 676, .inl (iA SC))), (bt, .inl (tI, 28227, .inl (iA (u.1)))), (wy, .inl (tJ, 28227, .inr (.inl (u.2))))]) := by
  intro sz
  refine r_met (by decide) (Nat.le_of_ble_eq_true rfl) ?_
  intro F p e s m args below meth c Q A hX hT hAe hsz hin
  subst hAe
  replace hX : rOK F p l e rm_Mo_reckon s m args below meth c Q prog_12_method_17_code 7 "RowAlignerModel" D (tysA tI tJ tZ) _ := hX
  have hM9 := hM
  obtain ⟨hza, hzb, hL, hL2, hS, ho0, ho1, hm0, hm1, hf⟩ := hM9
  have hbd : ra_bd (ra_mg Z L SC op mr fr pt) := hM.bd pt
  show F 0 [(0, .ref mo), (1, .int (iI ((i : Nat) : Int))), (2, .int (iI ((j : Nat) : Int))), (3, .int (iI ((bb : Nat) : Int)))] [] [(mo, .inr (10, [.int (iI cd), .ref ml, .ref mz, .ref ms, .int (iI op), .int (iI mr), .int (iI (bI (ld = true))), .int (iI (bI (pt = true))), .int (iI ((fr : Nat) : Int)), .ref mt, .int (iI ((sn : Nat) : Int)), .ref mb, .ref me, .ref bt, .ref wy, .ref lq, .ref df, .int (iI ((dn : Nat) : Int))])), (ml, .inl (tI, 192, .inl (iA (iN L)))), (mz, .inl (tI, 2, .inl (iA (iN Z)))), (ms, .inl (tI, 676, .inl (iA SC))), (bt, .inl (tI, 28227, .inl (iA T))), (wy, .inl (tJ, 28227, .inr (.inl K)))] 0 0
  refine r_iload_n hX 1 d_Mo_reckon_0 rfl ?_
  refine r_iload_n hX 2 d_Mo_reckon_1 rfl ?_
  refine r_iload_n hX 3 d_Mo_reckon_2 rfl ?_
  refine r_invS_i0 (st := []) (As := [.int (iI ((i : Nat) : Int)), .int (iI ((j : Nat) : Int)), .int (iI ((bb : Nat) : Int))]) (wr := [(mo, .inr (10, [.int (iI cd), .ref ml, .ref mz, .ref ms, .int (iI op), .int (iI mr), .int (iI (bI (ld = true))), .int (iI (bI (pt = true))), .int (iI ((fr : Nat) : Int)), .ref mt, .int (iI ((sn : Nat) : Int)), .ref mb, .ref me, .ref bt, .ref wy, .ref lq, .ref df, .int (iI ((dn : Nat) : Int))])), (ml, .inl (tI, 192, .inl (iA (iN L)))), (mz, .inl (tI, 2, .inl (iA (iN Z)))), (ms, .inl (tI, 676, .inl (iA SC))), (bt, .inl (tI, 28227, .inl (iA T))), (wy, .inl (tJ, 28227, .inr (.inl K)))]) hX (c_Mo_at l D tI tJ tZ i j bb) yn_Mo_at ml_Mo_72 st_Mo_at co_Mo_at in_Mo (by decide) (by decide) (by decide) [] [0, 1, 2, 3, 4, 5] rfl rfl rfl rfl rfl (by decide) rfl rfl (Nat.le_of_ble_eq_true rfl) d_Mo_reckon_3 [0, 1, 2, 3, 4, 5] rfl (w2 := fun _ => [(mo, .inr (10, [.int (iI cd), .ref ml, .ref mz, .ref ms, .int (iI op), .int (iI mr), .int (iI (bI (ld = true))), .int (iI (bI (pt = true))), .int (iI ((fr : Nat) : Int)), .ref mt, .int (iI ((sn : Nat) : Int)), .ref mb, .ref me, .ref bt, .ref wy, .ref lq, .ref df, .int (iI ((dn : Nat) : Int))])), (ml, .inl (tI, 192, .inl (iA (iN L)))), (mz, .inl (tI, 2, .inl (iA (iN Z)))), (ms, .inl (tI, 676, .inl (iA SC))), (bt, .inl (tI, 28227, .inl (iA T))), (wy, .inl (tJ, 28227, .inr (.inl K)))]) (fun _ => rfl) (fun r3 _ e3 => ?_)
  subst e3
  refine r_istore hX (lv' := [(4, .int (iI (((97 * i + j) * 3 + bb : Nat) : Int))), (0, .ref mo), (1, .int (iI ((i : Nat) : Int))), (2, .int (iI ((j : Nat) : Int))), (3, .int (iI ((bb : Nat) : Int)))]) d_Mo_reckon_6 (by decide) rfl ?_
  refine r_iload_n hX 2 d_Mo_reckon_8 rfl ?_
  refine r_aload_n hX 1 d_Mo_reckon_9 rfl ?_
  refine r_get hX cf_Mo 0 rfl 2 (by decide) fl_Mo_13 rfl d_Mo_reckon_10 ?_
  refine r_iconstN hX 0 d_Mo_reckon_13 rfl ?_
  refine r_ialdN hX 2 0 rfl rfl (0) rfl (by omega) (by decide) d_Mo_reckon_14 ?_
  have J33 : F 33 [(4, .int (iI (((97 * i + j) * 3 + bb : Nat) : Int))), (0, .ref mo), (1, .int (iI ((i : Nat) : Int))), (2, .int (iI ((j : Nat) : Int))), (3, .int (iI ((bb : Nat) : Int)))] [.int (iI (bI (i = Z 0 ∧ j = Z 1)))] [(mo, .inr (10, [.int (iI cd), .ref ml, .ref mz, .ref ms, .int (iI op), .int (iI mr), .int (iI (bI (ld = true))), .int (iI (bI (pt = true))), .int (iI ((fr : Nat) : Int)), .ref mt, .int (iI ((sn : Nat) : Int)), .ref mb, .ref me, .ref bt, .ref wy, .ref lq, .ref df, .int (iI ((dn : Nat) : Int))])), (ml, .inl (tI, 192, .inl (iA (iN L)))), (mz, .inl (tI, 2, .inl (iA (iN Z)))), (ms, .inl (tI, 676, .inl (iA SC))), (bt, .inl (tI, 28227, .inl (iA T))), (wy, .inl (tJ, 28227, .inr (.inl K)))] 0 0 := by
    refine r_istore hX (lv' := [(5, .int (iI (bI (i = Z 0 ∧ j = Z 1)))), (4, .int (iI (((97 * i + j) * 3 + bb : Nat) : Int))), (0, .ref mo), (1, .int (iI ((i : Nat) : Int))), (2, .int (iI ((j : Nat) : Int))), (3, .int (iI ((bb : Nat) : Int)))]) d_Mo_reckon_33 (by decide) rfl ?_
    refine r_aload_n hX 2 d_Mo_reckon_35 rfl ?_
    refine r_get hX cf_Mo 0 rfl 13 (by decide) fl_Mo_35 rfl d_Mo_reckon_36 ?_
    refine r_iload hX 1 d_Mo_reckon_39 rfl ?_
    refine r_aload_n hX 2 d_Mo_reckon_41 rfl ?_
    refine r_get hX cf_Mo 0 rfl 7 (by decide) fl_Mo_76 rfl d_Mo_reckon_42 ?_
    have J59 : F 59 [(5, .int (iI (bI (i = Z 0 ∧ j = Z 1)))), (4, .int (iI (((97 * i + j) * 3 + bb : Nat) : Int))), (0, .ref mo), (1, .int (iI ((i : Nat) : Int))), (2, .int (iI ((j : Nat) : Int))), (3, .int (iI ((bb : Nat) : Int)))] [.int (iI (ra_xe (ra_mg Z L SC op mr fr pt) i j)), .int (iI (((97 * i + j) * 3 + bb : Nat) : Int)), .ref bt] [(mo, .inr (10, [.int (iI cd), .ref ml, .ref mz, .ref ms, .int (iI op), .int (iI mr), .int (iI (bI (ld = true))), .int (iI (bI (pt = true))), .int (iI ((fr : Nat) : Int)), .ref mt, .int (iI ((sn : Nat) : Int)), .ref mb, .ref me, .ref bt, .ref wy, .ref lq, .ref df, .int (iI ((dn : Nat) : Int))])), (ml, .inl (tI, 192, .inl (iA (iN L)))), (mz, .inl (tI, 2, .inl (iA (iN Z)))), (ms, .inl (tI, 676, .inl (iA SC))), (bt, .inl (tI, 28227, .inl (iA T))), (wy, .inl (tJ, 28227, .inr (.inl K)))] 0 0 := by
      refine r_iast hX (ws' := [(mo, .inr (10, [.int (iI cd), .ref ml, .ref mz, .ref ms, .int (iI op), .int (iI mr), .int (iI (bI (ld = true))), .int (iI (bI (pt = true))), .int (iI ((fr : Nat) : Int)), .ref mt, .int (iI ((sn : Nat) : Int)), .ref mb, .ref me, .ref bt, .ref wy, .ref lq, .ref df, .int (iI ((dn : Nat) : Int))])), (ml, .inl (tI, 192, .inl (iA (iN L)))), (mz, .inl (tI, 2, .inl (iA (iN Z)))), (ms, .inl (tI, 676, .inl (iA SC))), (bt, .inl (tI, 28227, .inl (iA (iU T ((97 * i + j) * 3 + bb) ((ra_xe (ra_mg Z L SC op mr fr pt) i j)))))), (wy, .inl (tJ, 28227, .inr (.inl K)))]) 4 0 rfl rfl ((97 * i + j) * 3 + bb) rfl (by omega) (by decide) rfl d_Mo_reckon_59 ?_
      refine r_aload_n hX 2 d_Mo_reckon_60 rfl ?_
      refine r_get hX cf_Mo 0 rfl 14 (by decide) fl_Mo_38 rfl d_Mo_reckon_61 ?_
      refine r_iload hX 1 d_Mo_reckon_64 rfl ?_
      refine r_aload_n hX 2 d_Mo_reckon_66 rfl ?_
      refine r_get hX cf_Mo 0 rfl 7 (by decide) fl_Mo_76 rfl d_Mo_reckon_67 ?_
      have J83 : F 83 [(5, .int (iI (bI (i = Z 0 ∧ j = Z 1)))), (4, .int (iI (((97 * i + j) * 3 + bb : Nat) : Int))), (0, .ref mo), (1, .int (iI ((i : Nat) : Int))), (2, .int (iI ((j : Nat) : Int))), (3, .int (iI ((bb : Nat) : Int)))] [.long (ra_ct (ra_end (ra_mg Z L SC op mr fr pt) i j)), .int (iI (((97 * i + j) * 3 + bb : Nat) : Int)), .ref wy] [(mo, .inr (10, [.int (iI cd), .ref ml, .ref mz, .ref ms, .int (iI op), .int (iI mr), .int (iI (bI (ld = true))), .int (iI (bI (pt = true))), .int (iI ((fr : Nat) : Int)), .ref mt, .int (iI ((sn : Nat) : Int)), .ref mb, .ref me, .ref bt, .ref wy, .ref lq, .ref df, .int (iI ((dn : Nat) : Int))])), (ml, .inl (tI, 192, .inl (iA (iN L)))), (mz, .inl (tI, 2, .inl (iA (iN Z)))), (ms, .inl (tI, 676, .inl (iA SC))), (bt, .inl (tI, 28227, .inl (iA (iU T ((97 * i + j) * 3 + bb) ((ra_xe (ra_mg Z L SC op mr fr pt) i j)))))), (wy, .inl (tJ, 28227, .inr (.inl K)))] 0 0 := by
        refine r_last hX (ws' := [(mo, .inr (10, [.int (iI cd), .ref ml, .ref mz, .ref ms, .int (iI op), .int (iI mr), .int (iI (bI (ld = true))), .int (iI (bI (pt = true))), .int (iI ((fr : Nat) : Int)), .ref mt, .int (iI ((sn : Nat) : Int)), .ref mb, .ref me, .ref bt, .ref wy, .ref lq, .ref df, .int (iI ((dn : Nat) : Int))])), (ml, .inl (tI, 192, .inl (iA (iN L)))), (mz, .inl (tI, 2, .inl (iA (iN Z)))), (ms, .inl (tI, 676, .inl (iA SC))), (bt, .inl (tI, 28227, .inl (iA (iU T ((97 * i + j) * 3 + bb) ((ra_xe (ra_mg Z L SC op mr fr pt) i j)))))), (wy, .inl (tJ, 28227, .inr (.inl (iU K ((97 * i + j) * 3 + bb) (ra_ct (ra_end (ra_mg Z L SC op mr fr pt) i j))))))]) 5 1 rfl rfl ((97 * i + j) * 3 + bb) rfl (by omega) (by decide) rfl d_Mo_reckon_83 ?_
        refine r_iload_n hX 3 d_Mo_reckon_84 rfl ?_
        refine r_aload_n hX 2 d_Mo_reckon_85 rfl ?_
        refine r_get hX cf_Mo 0 rfl 2 (by decide) fl_Mo_13 rfl d_Mo_reckon_86 ?_
        refine r_iconstN hX 0 d_Mo_reckon_89 rfl ?_
        refine r_ialdN hX 2 0 rfl rfl (0) rfl (by omega) (by decide) d_Mo_reckon_90 ?_
        have hR0 : ra_RI T K (iU T ((97 * i + j) * 3 + bb) (ra_xe (ra_mg Z L SC op mr fr pt) i j)) (iU K ((97 * i + j) * 3 + bb) (ra_ct (ra_end (ra_mg Z L SC op mr fr pt) i j))) ((97 * i + j) * 3 + bb) (ra_end (ra_mg Z L SC op mr fr pt) i j) := ra_RI_0
        have J126 : ∀ (T2 : Nat → Int) (K2 : Nat → Int64), (ra_RI T K T2 K2 ((97 * i + j) * 3 + bb) (ra_X1 (ra_mg Z L SC op mr fr pt) i j)) → F 126 [(5, .int (iI (bI (i = Z 0 ∧ j = Z 1)))), (4, .int (iI (((97 * i + j) * 3 + bb : Nat) : Int))), (0, .ref mo), (1, .int (iI ((i : Nat) : Int))), (2, .int (iI ((j : Nat) : Int))), (3, .int (iI ((bb : Nat) : Int)))] [] [(mo, .inr (10, [.int (iI cd), .ref ml, .ref mz, .ref ms, .int (iI op), .int (iI mr), .int (iI (bI (ld = true))), .int (iI (bI (pt = true))), .int (iI ((fr : Nat) : Int)), .ref mt, .int (iI ((sn : Nat) : Int)), .ref mb, .ref me, .ref bt, .ref wy, .ref lq, .ref df, .int (iI ((dn : Nat) : Int))])), (ml, .inl (tI, 192, .inl (iA (iN L)))), (mz, .inl (tI, 2, .inl (iA (iN Z)))), (ms, .inl (tI, 676, .inl (iA SC))), (bt, .inl (tI, 28227, .inl (iA T2))), (wy, .inl (tJ, 28227, .inr (.inl K2)))] 0 0 := by
          intro T2 K2 hR1
          have J178 : ∀ (T2 : Nat → Int) (K2 : Nat → Int64), (ra_RI T K T2 K2 ((97 * i + j) * 3 + bb) (ra_su (ra_X1 (ra_mg Z L SC op mr fr pt) i j) (if bb = 1 then 0 else Z 0 - i) (ra_F1 (ra_mg Z L SC op mr fr pt) i j))) → F 178 [(5, .int (iI (bI (i = Z 0 ∧ j = Z 1)))), (4, .int (iI (((97 * i + j) * 3 + bb : Nat) : Int))), (0, .ref mo), (1, .int (iI ((i : Nat) : Int))), (2, .int (iI ((j : Nat) : Int))), (3, .int (iI ((bb : Nat) : Int)))] [] [(mo, .inr (10, [.int (iI cd), .ref ml, .ref mz, .ref ms, .int (iI op), .int (iI mr), .int (iI (bI (ld = true))), .int (iI (bI (pt = true))), .int (iI ((fr : Nat) : Int)), .ref mt, .int (iI ((sn : Nat) : Int)), .ref mb, .ref me, .ref bt, .ref wy, .ref lq, .ref df, .int (iI ((dn : Nat) : Int))])), (ml, .inl (tI, 192, .inl (iA (iN L)))), (mz, .inl (tI, 2, .inl (iA (iN Z)))), (ms, .inl (tI, 676, .inl (iA SC))), (bt, .inl (tI, 28227, .inl (iA T2))), (wy, .inl (tJ, 28227, .inr (.inl K2)))] 0 0 := by
            intro T2 K2 hR2
            refine r_iconstN hX 1 d_Mo_reckon_178 rfl ?_
            refine r_istore hX (lv' := [(6, .int (iI ((1 : Nat) : Int))), (5, .int (iI (bI (i = Z 0 ∧ j = Z 1)))), (4, .int (iI (((97 * i + j) * 3 + bb : Nat) : Int))), (0, .ref mo), (1, .int (iI ((i : Nat) : Int))), (2, .int (iI ((j : Nat) : Int))), (3, .int (iI ((bb : Nat) : Int)))]) d_Mo_reckon_179 (by decide) rfl ?_
            have L181 : ∀ (dd : Nat) (t : Nat) (T2 : Nat → Int) (K2 : Nat → Int64), Z 1 + 1 - t = dd → (j + t ≤ Z 1) → (bb = 2 → t = 0) → (ra_RI T K T2 K2 ((97 * i + j) * 3 + bb) (ra_su (ra_su (ra_X1 (ra_mg Z L SC op mr fr pt) i j) (if bb = 1 then 0 else Z 0 - i) (ra_F1 (ra_mg Z L SC op mr fr pt) i j)) t (ra_F2 (ra_mg Z L SC op mr fr pt) i j))) → F 181 [(6, .int (iI ((t + 1 : Nat) : Int))), (5, .int (iI (bI (i = Z 0 ∧ j = Z 1)))), (4, .int (iI (((97 * i + j) * 3 + bb : Nat) : Int))), (3, .int (iI ((bb : Nat) : Int))), (2, .int (iI ((j : Nat) : Int))), (1, .int (iI ((i : Nat) : Int))), (0, .ref mo)] [] [(mo, .inr (10, [.int (iI cd), .ref ml, .ref mz, .ref ms, .int (iI op), .int (iI mr), .int (iI (bI (ld = true))), .int (iI (bI (pt = true))), .int (iI ((fr : Nat) : Int)), .ref mt, .int (iI ((sn : Nat) : Int)), .ref mb, .ref me, .ref bt, .ref wy, .ref lq, .ref df, .int (iI ((dn : Nat) : Int))])), (ml, .inl (tI, 192, .inl (iA (iN L)))), (mz, .inl (tI, 2, .inl (iA (iN Z)))), (ms, .inl (tI, 676, .inl (iA SC))), (bt, .inl (tI, 28227, .inl (iA T2))), (wy, .inl (tJ, 28227, .inr (.inl K2)))] 0 0 := by
              intro dd
              induction dd using Nat.strongRecOn with
              | _ dd ih181 =>
                intro t T2 K2 hmu181 ht ht1 hR
                refine r_iload_n hX 3 d_Mo_reckon_181 rfl ?_
                refine r_iconstN hX 2 d_Mo_reckon_182 rfl ?_
                refine r_icmp_eq hX 230 d_Mo_reckon_183 (by decide) (by unfold iR; omega) (by unfold iR; omega) (fun h183 => ?_) (fun h183 => ?_)
                · exact r_vret hX hT (T2, K2) (by rw [ra_m_XF]; show ra_RI T K T2 K2 _ (ra_su (ra_su (ra_X1 (ra_mg Z L SC op mr fr pt) i j) (if bb = 1 then 0 else Z 0 - i) (ra_F1 (ra_mg Z L SC op mr fr pt) i j)) (if bb = 2 then 0 else Z 1 - j) (ra_F2 (ra_mg Z L SC op mr fr pt) i j)); rw [show (if bb = 2 then 0 else Z 1 - j) = t by (by_cases q : bb = 2; (rw [if_pos q]; exact (ht1 q).symm); rw [if_neg q]; omega)]; exact hR) rfl (by decide) (by decide) d_Mo_reckon_230
                · refine r_iload_n hX 4 d_Mo_reckon_186 rfl ?_
                  refine r_iload hX 0 d_Mo_reckon_187 rfl ?_
                  refine r_iaddN hX d_Mo_reckon_189 ?_
                  refine r_aload_n hX 6 d_Mo_reckon_190 rfl ?_
                  refine r_get hX cf_Mo 0 rfl 2 (by decide) fl_Mo_13 rfl d_Mo_reckon_191 ?_
                  refine r_iconstN hX 1 d_Mo_reckon_194 rfl ?_
                  refine r_ialdN hX 2 0 rfl rfl (1) rfl (by omega) (by decide) d_Mo_reckon_195 ?_
                  refine r_icmp_gt hX 230 d_Mo_reckon_196 (by decide) (by unfold iR; omega) (by unfold iR; omega) (fun h196 => ?_) (fun h196 => ?_)
                  · exact r_vret hX hT (T2, K2) (by rw [ra_m_XF]; show ra_RI T K T2 K2 _ (ra_su (ra_su (ra_X1 (ra_mg Z L SC op mr fr pt) i j) (if bb = 1 then 0 else Z 0 - i) (ra_F1 (ra_mg Z L SC op mr fr pt) i j)) (if bb = 2 then 0 else Z 1 - j) (ra_F2 (ra_mg Z L SC op mr fr pt) i j)); rw [show (if bb = 2 then 0 else Z 1 - j) = t by (by_cases q : bb = 2; (rw [if_pos q]; exact (ht1 q).symm); rw [if_neg q]; omega)]; exact hR) rfl (by decide) (by decide) d_Mo_reckon_230
                  · have hy2 := hSB.2.2 (t + 1) (by omega) (by change j + (t + 1) ≤ Z 1; omega)
                    have hg2 := ra_g2_bd hbd (i := i) (j := j) (t := t + 1) (by omega) (by omega)
                    refine r_aload_n hX 6 d_Mo_reckon_199 rfl ?_
                    refine r_iload hX 2 d_Mo_reckon_200 rfl ?_
                    refine r_aload_n hX 6 d_Mo_reckon_202 rfl ?_
                    refine r_iconstN hX 0 d_Mo_reckon_203 rfl ?_
                    refine r_iload_n hX 5 d_Mo_reckon_204 rfl ?_
                    refine r_iload_n hX 4 d_Mo_reckon_205 rfl ?_
                    refine r_iload hX 0 d_Mo_reckon_206 rfl ?_
                    refine r_invV_i0 (st := [.int (iI (((97 * i + j) * 3 + bb : Nat) : Int)), .ref mo]) (As := [.int (iI ((0 : Nat) : Int)), .int (iI ((i : Nat) : Int)), .int (iI ((j : Nat) : Int)), .int (iI ((t + 1 : Nat) : Int))]) (wr := [(ml, .inl (tI, 192, .inl (iA (iN L)))), (ms, .inl (tI, 676, .inl (iA SC))), (bt, .inl (tI, 28227, .inl (iA T2))), (wy, .inl (tJ, 28227, .inr (.inl K2)))]) hX (c_Mo_gap_0 l D tI tJ tZ mo ml mz ms mt mb me bt wy lq df cd op mr ld pt fr sn dn Z L SC i j (t + 1) (by omega) (by omega) (by omega) hza hzb hf) "RowAlignerModel" 0 10 cf_Mo rfl yn_Mo_gap ml_Mo_88 im_Mo_gap se_Mo_gap co_Mo_gap in_Mo (by decide) (by decide) (by decide) [0, 2] [1, 3, 4, 5] rfl rfl rfl rfl rfl (by decide) rfl rfl (Nat.le_of_ble_eq_true rfl) d_Mo_reckon_208 [4, 0, 5, 1, 2, 3] rfl (w2 := fun _ => [(mo, .inr (10, [.int (iI cd), .ref ml, .ref mz, .ref ms, .int (iI op), .int (iI mr), .int (iI (bI (ld = true))), .int (iI (bI (pt = true))), .int (iI ((fr : Nat) : Int)), .ref mt, .int (iI ((sn : Nat) : Int)), .ref mb, .ref me, .ref bt, .ref wy, .ref lq, .ref df, .int (iI ((dn : Nat) : Int))])), (ml, .inl (tI, 192, .inl (iA (iN L)))), (mz, .inl (tI, 2, .inl (iA (iN Z)))), (ms, .inl (tI, 676, .inl (iA SC))), (bt, .inl (tI, 28227, .inl (iA T2))), (wy, .inl (tJ, 28227, .inr (.inl K2)))]) (fun _ => rfl) (fun r208 _ e208 => ?_)
                    subst e208
                    refine r_ineg hX d_Mo_reckon_211 ?_
                    refine r_iload_n hX 5 d_Mo_reckon_212 rfl ?_
                    refine r_iload_n hX 4 d_Mo_reckon_213 rfl ?_
                    refine r_iload hX 0 d_Mo_reckon_214 rfl ?_
                    refine r_iaddN hX d_Mo_reckon_216 ?_
                    refine r_iconstN hX 2 d_Mo_reckon_217 rfl ?_
                    refine r_invS_i0 (st := [.int (iI (-(ra_g2 (ra_mg Z L SC op mr fr pt) i j (t + 1)))), .int (iI (((97 * i + j) * 3 + bb : Nat) : Int)), .ref mo]) (As := [.int (iI ((i : Nat) : Int)), .int (iI ((j + (t + 1) : Nat) : Int)), .int (iI ((2 : Nat) : Int))]) (wr := [(mo, .inr (10, [.int (iI cd), .ref ml, .ref mz, .ref ms, .int (iI op), .int (iI mr), .int (iI (bI (ld = true))), .int (iI (bI (pt = true))), .int (iI ((fr : Nat) : Int)), .ref mt, .int (iI ((sn : Nat) : Int)), .ref mb, .ref me, .ref bt, .ref wy, .ref lq, .ref df, .int (iI ((dn : Nat) : Int))])), (ml, .inl (tI, 192, .inl (iA (iN L)))), (mz, .inl (tI, 2, .inl (iA (iN Z)))), (ms, .inl (tI, 676, .inl (iA SC))), (bt, .inl (tI, 28227, .inl (iA T2))), (wy, .inl (tJ, 28227, .inr (.inl K2)))]) hX (c_Mo_at l D tI tJ tZ i (j + (t + 1)) 2) yn_Mo_at ml_Mo_72 st_Mo_at co_Mo_at in_Mo (by decide) (by decide) (by decide) [] [0, 1, 2, 3, 4, 5] rfl rfl rfl rfl rfl (by decide) rfl rfl (Nat.le_of_ble_eq_true rfl) d_Mo_reckon_218 [0, 1, 2, 3, 4, 5] rfl (w2 := fun _ => [(mo, .inr (10, [.int (iI cd), .ref ml, .ref mz, .ref ms, .int (iI op), .int (iI mr), .int (iI (bI (ld = true))), .int (iI (bI (pt = true))), .int (iI ((fr : Nat) : Int)), .ref mt, .int (iI ((sn : Nat) : Int)), .ref mb, .ref me, .ref bt, .ref wy, .ref lq, .ref df, .int (iI ((dn : Nat) : Int))])), (ml, .inl (tI, 192, .inl (iA (iN L)))), (mz, .inl (tI, 2, .inl (iA (iN Z)))), (ms, .inl (tI, 676, .inl (iA SC))), (bt, .inl (tI, 28227, .inl (iA T2))), (wy, .inl (tJ, 28227, .inr (.inl K2)))]) (fun _ => rfl) (fun r218 _ e218 => ?_)
                    subst e218
                    refine r_invV_v0 (st := []) (As := [.int (iI (((97 * i + j) * 3 + bb : Nat) : Int)), .int (iI (-(ra_g2 (ra_mg Z L SC op mr fr pt) i j (t + 1)))), .int (iI (((97 * i + (j + (t + 1))) * 3 + 2 : Nat) : Int))]) (wr := [(ml, .inl (tI, 192, .inl (iA (iN L)))), (mz, .inl (tI, 2, .inl (iA (iN Z)))), (ms, .inl (tI, 676, .inl (iA SC)))]) hX (c_Mo_offer l D tI tJ tZ mo ml mz ms mt mb me bt wy lq df cd op mr ld pt fr sn dn T2 K2 ((97 * i + j) * 3 + bb) (-(ra_g2 (ra_mg Z L SC op mr fr pt) i j (t + 1))) ((97 * i + (j + (t + 1))) * 3 + 2) (by omega) (by omega) (by omega) (ra_RI_t hR (by omega) hy2 (ra_m_ok hbd _ _ _) (by omega) (by omega)) (ra_RI_h hR (ra_S2_ok hbd i j (by split <;> omega) (by omega)) (by omega) (by omega))) "RowAlignerModel" 0 10 cf_Mo rfl yn_Mo_offer ml_Mo_84 im_Mo_offer se_Mo_offer co_Mo_offer in_Mo (by decide) (by decide) (by decide) [0, 4, 5] [1, 2, 3] rfl rfl rfl rfl rfl (by decide) rfl rfl (Nat.le_of_ble_eq_true rfl) d_Mo_reckon_221 [3, 0, 1, 2, 4, 5] rfl (w2 := fun _ => [(mo, .inr (10, [.int (iI cd), .ref ml, .ref mz, .ref ms, .int (iI op), .int (iI mr), .int (iI (bI (ld = true))), .int (iI (bI (pt = true))), .int (iI ((fr : Nat) : Int)), .ref mt, .int (iI ((sn : Nat) : Int)), .ref mb, .ref me, .ref bt, .ref wy, .ref lq, .ref df, .int (iI ((dn : Nat) : Int))])), (ml, .inl (tI, 192, .inl (iA (iN L)))), (mz, .inl (tI, 2, .inl (iA (iN Z)))), (ms, .inl (tI, 676, .inl (iA SC))), (bt, .inl (tI, 28227, .inl (iA (ra_oT T2 ((97 * i + j) * 3 + bb) (-(ra_g2 (ra_mg Z L SC op mr fr pt) i j (t + 1))) ((97 * i + (j + (t + 1))) * 3 + 2))))), (wy, .inl (tJ, 28227, .inr (.inl (ra_oK T2 K2 ((97 * i + j) * 3 + bb) (-(ra_g2 (ra_mg Z L SC op mr fr pt) i j (t + 1))) ((97 * i + (j + (t + 1))) * 3 + 2)))))]) (fun _ => rfl) (fun _ _ => ?_)
                    refine r_iincN hX (lv' := [(6, .int (iI ((t + 1 + 1 : Nat) : Int))), (5, .int (iI (bI (i = Z 0 ∧ j = Z 1)))), (4, .int (iI (((97 * i + j) * 3 + bb : Nat) : Int))), (3, .int (iI ((bb : Nat) : Int))), (2, .int (iI ((j : Nat) : Int))), (1, .int (iI ((i : Nat) : Int))), (0, .ref mo)]) 0 d_Mo_reckon_224 rfl (by decide) rfl ?_
                    refine r_goto hX 181 d_Mo_reckon_227 (by decide) ?_
                    refine r_eq (lv2 := [(6, .int (iI (((t + 1) + 1 : Nat) : Int))), (5, .int (iI (bI (i = Z 0 ∧ j = Z 1)))), (4, .int (iI (((97 * i + j) * 3 + bb : Nat) : Int))), (3, .int (iI ((bb : Nat) : Int))), (2, .int (iI ((j : Nat) : Int))), (1, .int (iI ((i : Nat) : Int))), (0, .ref mo)]) (st2 := []) (ws2 := [(mo, .inr (10, [.int (iI cd), .ref ml, .ref mz, .ref ms, .int (iI op), .int (iI mr), .int (iI (bI (ld = true))), .int (iI (bI (pt = true))), .int (iI ((fr : Nat) : Int)), .ref mt, .int (iI ((sn : Nat) : Int)), .ref mb, .ref me, .ref bt, .ref wy, .ref lq, .ref df, .int (iI ((dn : Nat) : Int))])), (ml, .inl (tI, 192, .inl (iA (iN L)))), (mz, .inl (tI, 2, .inl (iA (iN Z)))), (ms, .inl (tI, 676, .inl (iA SC))), (bt, .inl (tI, 28227, .inl (iA (ra_oT T2 ((97 * i + j) * 3 + bb) (-(ra_g2 (ra_mg Z L SC op mr fr pt) i j (t + 1))) ((97 * i + (j + (t + 1))) * 3 + 2))))), (wy, .inl (tJ, 28227, .inr (.inl (ra_oK T2 K2 ((97 * i + j) * 3 + bb) (-(ra_g2 (ra_mg Z L SC op mr fr pt) i j (t + 1))) ((97 * i + (j + (t + 1))) * 3 + 2)))))]) rfl rfl rfl ?_
                    exact ih181 _ (by omega) (t + 1) (ra_oT T2 ((97 * i + j) * 3 + bb) (-(ra_g2 (ra_mg Z L SC op mr fr pt) i j (t + 1))) ((97 * i + (j + (t + 1))) * 3 + 2)) (ra_oK T2 K2 ((97 * i + j) * 3 + bb) (-(ra_g2 (ra_mg Z L SC op mr fr pt) i j (t + 1))) ((97 * i + (j + (t + 1))) * 3 + 2)) rfl (by omega) (fun q => absurd q (by omega)) (ra_RI_offer (B := 300000) hR (by omega) hy2 (ra_S2_ok hbd i j (by split <;> omega) (by omega)) (ra_F2_ok hbd i j (by omega) (by omega)) (ra_ok_mono (ra_m_ok hbd _ _ _) (by omega)) (by omega))
            refine r_lv hX (lv' := [(6, .int (iI ((1 : Nat) : Int))), (5, .int (iI (bI (i = Z 0 ∧ j = Z 1)))), (4, .int (iI (((97 * i + j) * 3 + bb : Nat) : Int))), (3, .int (iI ((bb : Nat) : Int))), (2, .int (iI ((j : Nat) : Int))), (1, .int (iI ((i : Nat) : Int))), (0, .ref mo)]) [0, 1, 2, 6, 5, 4, 3] rfl ?_
            refine r_eq (lv2 := [(6, .int (iI ((0 + 1 : Nat) : Int))), (5, .int (iI (bI (i = Z 0 ∧ j = Z 1)))), (4, .int (iI (((97 * i + j) * 3 + bb : Nat) : Int))), (3, .int (iI ((bb : Nat) : Int))), (2, .int (iI ((j : Nat) : Int))), (1, .int (iI ((i : Nat) : Int))), (0, .ref mo)]) (st2 := []) (ws2 := [(mo, .inr (10, [.int (iI cd), .ref ml, .ref mz, .ref ms, .int (iI op), .int (iI mr), .int (iI (bI (ld = true))), .int (iI (bI (pt = true))), .int (iI ((fr : Nat) : Int)), .ref mt, .int (iI ((sn : Nat) : Int)), .ref mb, .ref me, .ref bt, .ref wy, .ref lq, .ref df, .int (iI ((dn : Nat) : Int))])), (ml, .inl (tI, 192, .inl (iA (iN L)))), (mz, .inl (tI, 2, .inl (iA (iN Z)))), (ms, .inl (tI, 676, .inl (iA SC))), (bt, .inl (tI, 28227, .inl (iA T2))), (wy, .inl (tJ, 28227, .inr (.inl K2)))]) rfl rfl rfl ?_
            exact L181 _ 0 T2 K2 rfl hj (fun _ => rfl) hR2
          refine r_iconstN hX 1 d_Mo_reckon_126 rfl ?_
          refine r_istore hX (lv' := [(6, .int (iI ((1 : Nat) : Int))), (5, .int (iI (bI (i = Z 0 ∧ j = Z 1)))), (4, .int (iI (((97 * i + j) * 3 + bb : Nat) : Int))), (0, .ref mo), (1, .int (iI ((i : Nat) : Int))), (2, .int (iI ((j : Nat) : Int))), (3, .int (iI ((bb : Nat) : Int)))]) d_Mo_reckon_127 (by decide) rfl ?_
          have L129 : ∀ (dd : Nat) (t : Nat) (T2 : Nat → Int) (K2 : Nat → Int64), Z 0 + 1 - t = dd → (i + t ≤ Z 0) → (bb = 1 → t = 0) → (ra_RI T K T2 K2 ((97 * i + j) * 3 + bb) (ra_su (ra_X1 (ra_mg Z L SC op mr fr pt) i j) t (ra_F1 (ra_mg Z L SC op mr fr pt) i j))) → F 129 [(6, .int (iI ((t + 1 : Nat) : Int))), (5, .int (iI (bI (i = Z 0 ∧ j = Z 1)))), (4, .int (iI (((97 * i + j) * 3 + bb : Nat) : Int))), (3, .int (iI ((bb : Nat) : Int))), (2, .int (iI ((j : Nat) : Int))), (1, .int (iI ((i : Nat) : Int))), (0, .ref mo)] [] [(mo, .inr (10, [.int (iI cd), .ref ml, .ref mz, .ref ms, .int (iI op), .int (iI mr), .int (iI (bI (ld = true))), .int (iI (bI (pt = true))), .int (iI ((fr : Nat) : Int)), .ref mt, .int (iI ((sn : Nat) : Int)), .ref mb, .ref me, .ref bt, .ref wy, .ref lq, .ref df, .int (iI ((dn : Nat) : Int))])), (ml, .inl (tI, 192, .inl (iA (iN L)))), (mz, .inl (tI, 2, .inl (iA (iN Z)))), (ms, .inl (tI, 676, .inl (iA SC))), (bt, .inl (tI, 28227, .inl (iA T2))), (wy, .inl (tJ, 28227, .inr (.inl K2)))] 0 0 := by
            intro dd
            induction dd using Nat.strongRecOn with
            | _ dd ih129 =>
              intro t T2 K2 hmu129 ht ht1 hR
              refine r_iload_n hX 3 d_Mo_reckon_129 rfl ?_
              refine r_iconstN hX 1 d_Mo_reckon_130 rfl ?_
              refine r_icmp_eq hX 178 d_Mo_reckon_131 (by decide) (by unfold iR; omega) (by unfold iR; omega) (fun h131 => ?_) (fun h131 => ?_)
              · refine r_lv hX (lv' := [(5, .int (iI (bI (i = Z 0 ∧ j = Z 1)))), (4, .int (iI (((97 * i + j) * 3 + bb : Nat) : Int))), (0, .ref mo), (1, .int (iI ((i : Nat) : Int))), (2, .int (iI ((j : Nat) : Int))), (3, .int (iI ((bb : Nat) : Int)))]) [1, 2, 6, 5, 4, 3] rfl ?_
                exact J178 T2 K2 (by rw [show (if bb = 1 then 0 else Z 0 - i) = t by (by_cases q : bb = 1; (rw [if_pos q]; exact (ht1 q).symm); rw [if_neg q]; omega)]; exact hR)
              · refine r_iload_n hX 5 d_Mo_reckon_134 rfl ?_
                refine r_iload hX 0 d_Mo_reckon_135 rfl ?_
                refine r_iaddN hX d_Mo_reckon_137 ?_
                refine r_aload_n hX 6 d_Mo_reckon_138 rfl ?_
                refine r_get hX cf_Mo 0 rfl 2 (by decide) fl_Mo_13 rfl d_Mo_reckon_139 ?_
                refine r_iconstN hX 0 d_Mo_reckon_142 rfl ?_
                refine r_ialdN hX 2 0 rfl rfl (0) rfl (by omega) (by decide) d_Mo_reckon_143 ?_
                refine r_icmp_gt hX 178 d_Mo_reckon_144 (by decide) (by unfold iR; omega) (by unfold iR; omega) (fun h144 => ?_) (fun h144 => ?_)
                · refine r_lv hX (lv' := [(5, .int (iI (bI (i = Z 0 ∧ j = Z 1)))), (4, .int (iI (((97 * i + j) * 3 + bb : Nat) : Int))), (0, .ref mo), (1, .int (iI ((i : Nat) : Int))), (2, .int (iI ((j : Nat) : Int))), (3, .int (iI ((bb : Nat) : Int)))]) [1, 2, 6, 5, 4, 3] rfl ?_
                  exact J178 T2 K2 (by rw [show (if bb = 1 then 0 else Z 0 - i) = t by (by_cases q : bb = 1; (rw [if_pos q]; exact (ht1 q).symm); rw [if_neg q]; omega)]; exact hR)
                · have hy1 := hSB.2.1 (t + 1) (by omega) (by change i + (t + 1) ≤ Z 0; omega)
                  have hg1 := ra_g1_bd hbd (i := i) (j := j) (t := t + 1) (by omega) (by omega)
                  refine r_aload_n hX 6 d_Mo_reckon_147 rfl ?_
                  refine r_iload hX 2 d_Mo_reckon_148 rfl ?_
                  refine r_aload_n hX 6 d_Mo_reckon_150 rfl ?_
                  refine r_iconstN hX 1 d_Mo_reckon_151 rfl ?_
                  refine r_iload_n hX 5 d_Mo_reckon_152 rfl ?_
                  refine r_iload_n hX 4 d_Mo_reckon_153 rfl ?_
                  refine r_iload hX 0 d_Mo_reckon_154 rfl ?_
                  refine r_invV_i0 (st := [.int (iI (((97 * i + j) * 3 + bb : Nat) : Int)), .ref mo]) (As := [.int (iI ((1 : Nat) : Int)), .int (iI ((i : Nat) : Int)), .int (iI ((j : Nat) : Int)), .int (iI ((t + 1 : Nat) : Int))]) (wr := [(ml, .inl (tI, 192, .inl (iA (iN L)))), (ms, .inl (tI, 676, .inl (iA SC))), (bt, .inl (tI, 28227, .inl (iA T2))), (wy, .inl (tJ, 28227, .inr (.inl K2)))]) hX (c_Mo_gap_1 l D tI tJ tZ mo ml mz ms mt mb me bt wy lq df cd op mr ld pt fr sn dn Z L SC i j (t + 1) (by omega) (by omega) (by omega) hza hzb hf) "RowAlignerModel" 0 10 cf_Mo rfl yn_Mo_gap ml_Mo_88 im_Mo_gap se_Mo_gap co_Mo_gap in_Mo (by decide) (by decide) (by decide) [0, 2] [1, 3, 4, 5] rfl rfl rfl rfl rfl (by decide) rfl rfl (Nat.le_of_ble_eq_true rfl) d_Mo_reckon_156 [4, 0, 5, 1, 2, 3] rfl (w2 := fun _ => [(mo, .inr (10, [.int (iI cd), .ref ml, .ref mz, .ref ms, .int (iI op), .int (iI mr), .int (iI (bI (ld = true))), .int (iI (bI (pt = true))), .int (iI ((fr : Nat) : Int)), .ref mt, .int (iI ((sn : Nat) : Int)), .ref mb, .ref me, .ref bt, .ref wy, .ref lq, .ref df, .int (iI ((dn : Nat) : Int))])), (ml, .inl (tI, 192, .inl (iA (iN L)))), (mz, .inl (tI, 2, .inl (iA (iN Z)))), (ms, .inl (tI, 676, .inl (iA SC))), (bt, .inl (tI, 28227, .inl (iA T2))), (wy, .inl (tJ, 28227, .inr (.inl K2)))]) (fun _ => rfl) (fun r156 _ e156 => ?_)
                  subst e156
                  refine r_ineg hX d_Mo_reckon_159 ?_
                  refine r_iload_n hX 5 d_Mo_reckon_160 rfl ?_
                  refine r_iload hX 0 d_Mo_reckon_161 rfl ?_
                  refine r_iaddN hX d_Mo_reckon_163 ?_
                  refine r_iload_n hX 4 d_Mo_reckon_164 rfl ?_
                  refine r_iconstN hX 1 d_Mo_reckon_165 rfl ?_
                  refine r_invS_i0 (st := [.int (iI (-(ra_g1 (ra_mg Z L SC op mr fr pt) i j (t + 1)))), .int (iI (((97 * i + j) * 3 + bb : Nat) : Int)), .ref mo]) (As := [.int (iI ((i + (t + 1) : Nat) : Int)), .int (iI ((j : Nat) : Int)), .int (iI ((1 : Nat) : Int))]) (wr := [(mo, .inr (10, [.int (iI cd), .ref ml, .ref mz, .ref ms, .int (iI op), .int (iI mr), .int (iI (bI (ld = true))), .int (iI (bI (pt = true))), .int (iI ((fr : Nat) : Int)), .ref mt, .int (iI ((sn : Nat) : Int)), .ref mb, .ref me, .ref bt, .ref wy, .ref lq, .ref df, .int (iI ((dn : Nat) : Int))])), (ml, .inl (tI, 192, .inl (iA (iN L)))), (mz, .inl (tI, 2, .inl (iA (iN Z)))), (ms, .inl (tI, 676, .inl (iA SC))), (bt, .inl (tI, 28227, .inl (iA T2))), (wy, .inl (tJ, 28227, .inr (.inl K2)))]) hX (c_Mo_at l D tI tJ tZ (i + (t + 1)) j 1) yn_Mo_at ml_Mo_72 st_Mo_at co_Mo_at in_Mo (by decide) (by decide) (by decide) [] [0, 1, 2, 3, 4, 5] rfl rfl rfl rfl rfl (by decide) rfl rfl (Nat.le_of_ble_eq_true rfl) d_Mo_reckon_166 [0, 1, 2, 3, 4, 5] rfl (w2 := fun _ => [(mo, .inr (10, [.int (iI cd), .ref ml, .ref mz, .ref ms, .int (iI op), .int (iI mr), .int (iI (bI (ld = true))), .int (iI (bI (pt = true))), .int (iI ((fr : Nat) : Int)), .ref mt, .int (iI ((sn : Nat) : Int)), .ref mb, .ref me, .ref bt, .ref wy, .ref lq, .ref df, .int (iI ((dn : Nat) : Int))])), (ml, .inl (tI, 192, .inl (iA (iN L)))), (mz, .inl (tI, 2, .inl (iA (iN Z)))), (ms, .inl (tI, 676, .inl (iA SC))), (bt, .inl (tI, 28227, .inl (iA T2))), (wy, .inl (tJ, 28227, .inr (.inl K2)))]) (fun _ => rfl) (fun r166 _ e166 => ?_)
                  subst e166
                  refine r_invV_v0 (st := []) (As := [.int (iI (((97 * i + j) * 3 + bb : Nat) : Int)), .int (iI (-(ra_g1 (ra_mg Z L SC op mr fr pt) i j (t + 1)))), .int (iI (((97 * (i + (t + 1)) + j) * 3 + 1 : Nat) : Int))]) (wr := [(ml, .inl (tI, 192, .inl (iA (iN L)))), (mz, .inl (tI, 2, .inl (iA (iN Z)))), (ms, .inl (tI, 676, .inl (iA SC)))]) hX (c_Mo_offer l D tI tJ tZ mo ml mz ms mt mb me bt wy lq df cd op mr ld pt fr sn dn T2 K2 ((97 * i + j) * 3 + bb) (-(ra_g1 (ra_mg Z L SC op mr fr pt) i j (t + 1))) ((97 * (i + (t + 1)) + j) * 3 + 1) (by omega) (by omega) (by omega) (ra_RI_t hR (by omega) hy1 (ra_m_ok hbd _ _ _) (by omega) (by omega)) (ra_RI_h hR (ra_S1_ok hbd i j (by omega)) (by omega) (by omega))) "RowAlignerModel" 0 10 cf_Mo rfl yn_Mo_offer ml_Mo_84 im_Mo_offer se_Mo_offer co_Mo_offer in_Mo (by decide) (by decide) (by decide) [0, 4, 5] [1, 2, 3] rfl rfl rfl rfl rfl (by decide) rfl rfl (Nat.le_of_ble_eq_true rfl) d_Mo_reckon_169 [3, 0, 1, 2, 4, 5] rfl (w2 := fun _ => [(mo, .inr (10, [.int (iI cd), .ref ml, .ref mz, .ref ms, .int (iI op), .int (iI mr), .int (iI (bI (ld = true))), .int (iI (bI (pt = true))), .int (iI ((fr : Nat) : Int)), .ref mt, .int (iI ((sn : Nat) : Int)), .ref mb, .ref me, .ref bt, .ref wy, .ref lq, .ref df, .int (iI ((dn : Nat) : Int))])), (ml, .inl (tI, 192, .inl (iA (iN L)))), (mz, .inl (tI, 2, .inl (iA (iN Z)))), (ms, .inl (tI, 676, .inl (iA SC))), (bt, .inl (tI, 28227, .inl (iA (ra_oT T2 ((97 * i + j) * 3 + bb) (-(ra_g1 (ra_mg Z L SC op mr fr pt) i j (t + 1))) ((97 * (i + (t + 1)) + j) * 3 + 1))))), (wy, .inl (tJ, 28227, .inr (.inl (ra_oK T2 K2 ((97 * i + j) * 3 + bb) (-(ra_g1 (ra_mg Z L SC op mr fr pt) i j (t + 1))) ((97 * (i + (t + 1)) + j) * 3 + 1)))))]) (fun _ => rfl) (fun _ _ => ?_)
                  refine r_iincN hX (lv' := [(6, .int (iI ((t + 1 + 1 : Nat) : Int))), (5, .int (iI (bI (i = Z 0 ∧ j = Z 1)))), (4, .int (iI (((97 * i + j) * 3 + bb : Nat) : Int))), (3, .int (iI ((bb : Nat) : Int))), (2, .int (iI ((j : Nat) : Int))), (1, .int (iI ((i : Nat) : Int))), (0, .ref mo)]) 0 d_Mo_reckon_172 rfl (by decide) rfl ?_
                  refine r_goto hX 129 d_Mo_reckon_175 (by decide) ?_
                  refine r_eq (lv2 := [(6, .int (iI (((t + 1) + 1 : Nat) : Int))), (5, .int (iI (bI (i = Z 0 ∧ j = Z 1)))), (4, .int (iI (((97 * i + j) * 3 + bb : Nat) : Int))), (3, .int (iI ((bb : Nat) : Int))), (2, .int (iI ((j : Nat) : Int))), (1, .int (iI ((i : Nat) : Int))), (0, .ref mo)]) (st2 := []) (ws2 := [(mo, .inr (10, [.int (iI cd), .ref ml, .ref mz, .ref ms, .int (iI op), .int (iI mr), .int (iI (bI (ld = true))), .int (iI (bI (pt = true))), .int (iI ((fr : Nat) : Int)), .ref mt, .int (iI ((sn : Nat) : Int)), .ref mb, .ref me, .ref bt, .ref wy, .ref lq, .ref df, .int (iI ((dn : Nat) : Int))])), (ml, .inl (tI, 192, .inl (iA (iN L)))), (mz, .inl (tI, 2, .inl (iA (iN Z)))), (ms, .inl (tI, 676, .inl (iA SC))), (bt, .inl (tI, 28227, .inl (iA (ra_oT T2 ((97 * i + j) * 3 + bb) (-(ra_g1 (ra_mg Z L SC op mr fr pt) i j (t + 1))) ((97 * (i + (t + 1)) + j) * 3 + 1))))), (wy, .inl (tJ, 28227, .inr (.inl (ra_oK T2 K2 ((97 * i + j) * 3 + bb) (-(ra_g1 (ra_mg Z L SC op mr fr pt) i j (t + 1))) ((97 * (i + (t + 1)) + j) * 3 + 1)))))]) rfl rfl rfl ?_
                  exact ih129 _ (by omega) (t + 1) (ra_oT T2 ((97 * i + j) * 3 + bb) (-(ra_g1 (ra_mg Z L SC op mr fr pt) i j (t + 1))) ((97 * (i + (t + 1)) + j) * 3 + 1)) (ra_oK T2 K2 ((97 * i + j) * 3 + bb) (-(ra_g1 (ra_mg Z L SC op mr fr pt) i j (t + 1))) ((97 * (i + (t + 1)) + j) * 3 + 1)) rfl (by omega) (fun q => absurd q (by omega)) (ra_RI_offer (B := 300000) hR (by omega) hy1 (ra_S1_ok hbd i j (by omega)) (ra_F1_ok hbd i j (by omega) (by omega)) (ra_ok_mono (ra_m_ok hbd _ _ _) (by omega)) (by omega))
          refine r_lv hX (lv' := [(6, .int (iI ((1 : Nat) : Int))), (5, .int (iI (bI (i = Z 0 ∧ j = Z 1)))), (4, .int (iI (((97 * i + j) * 3 + bb : Nat) : Int))), (3, .int (iI ((bb : Nat) : Int))), (2, .int (iI ((j : Nat) : Int))), (1, .int (iI ((i : Nat) : Int))), (0, .ref mo)]) [0, 1, 2, 6, 5, 4, 3] rfl ?_
          refine r_eq (lv2 := [(6, .int (iI ((0 + 1 : Nat) : Int))), (5, .int (iI (bI (i = Z 0 ∧ j = Z 1)))), (4, .int (iI (((97 * i + j) * 3 + bb : Nat) : Int))), (3, .int (iI ((bb : Nat) : Int))), (2, .int (iI ((j : Nat) : Int))), (1, .int (iI ((i : Nat) : Int))), (0, .ref mo)]) (st2 := []) (ws2 := [(mo, .inr (10, [.int (iI cd), .ref ml, .ref mz, .ref ms, .int (iI op), .int (iI mr), .int (iI (bI (ld = true))), .int (iI (bI (pt = true))), .int (iI ((fr : Nat) : Int)), .ref mt, .int (iI ((sn : Nat) : Int)), .ref mb, .ref me, .ref bt, .ref wy, .ref lq, .ref df, .int (iI ((dn : Nat) : Int))])), (ml, .inl (tI, 192, .inl (iA (iN L)))), (mz, .inl (tI, 2, .inl (iA (iN Z)))), (ms, .inl (tI, 676, .inl (iA SC))), (bt, .inl (tI, 28227, .inl (iA T2))), (wy, .inl (tJ, 28227, .inr (.inl K2)))]) rfl rfl rfl ?_
          exact L129 _ 0 T2 K2 rfl hi (fun _ => rfl) hR1
        have hR0 : ra_RI T K (iU T ((97 * i + j) * 3 + bb) (ra_xe (ra_mg Z L SC op mr fr pt) i j)) (iU K ((97 * i + j) * 3 + bb) (ra_ct (ra_end (ra_mg Z L SC op mr fr pt) i j))) ((97 * i + j) * 3 + bb) (ra_end (ra_mg Z L SC op mr fr pt) i j) := ra_RI_0
        refine r_icmp_ge hX 126 d_Mo_reckon_91 (by decide) (by unfold iR; omega) (by unfold iR; omega) (fun h91 => ?_) (fun h91 => ?_)
        · exact J126 (iU T ((97 * i + j) * 3 + bb) ((ra_xe (ra_mg Z L SC op mr fr pt) i j))) (iU K ((97 * i + j) * 3 + bb) (ra_ct (ra_end (ra_mg Z L SC op mr fr pt) i j))) (by rw [ra_X1_f (by intro q; have q1 : i < Z 0 := q.1; have q2 : j < Z 1 := q.2; omega)]; exact hR0)
        · refine r_iload_n hX 4 d_Mo_reckon_94 rfl ?_
          refine r_aload_n hX 2 d_Mo_reckon_95 rfl ?_
          refine r_get hX cf_Mo 0 rfl 2 (by decide) fl_Mo_13 rfl d_Mo_reckon_96 ?_
          refine r_iconstN hX 1 d_Mo_reckon_99 rfl ?_
          refine r_ialdN hX 2 0 rfl rfl (1) rfl (by omega) (by decide) d_Mo_reckon_100 ?_
          refine r_icmp_ge hX 126 d_Mo_reckon_101 (by decide) (by unfold iR; omega) (by unfold iR; omega) (fun h101 => ?_) (fun h101 => ?_)
          · exact J126 (iU T ((97 * i + j) * 3 + bb) ((ra_xe (ra_mg Z L SC op mr fr pt) i j))) (iU K ((97 * i + j) * 3 + bb) (ra_ct (ra_end (ra_mg Z L SC op mr fr pt) i j))) (by rw [ra_X1_f (by intro q; have q1 : i < Z 0 := q.1; have q2 : j < Z 1 := q.2; omega)]; exact hR0)
          · have hy0 := hSB.1 (by change i < Z 0; omega) (by change j < Z 1; omega)
            have hsc := hS (L i * 26 + L (96 + j))
            refine r_aload_n hX 2 d_Mo_reckon_104 rfl ?_
            refine r_iload hX 1 d_Mo_reckon_105 rfl ?_
            refine r_aload_n hX 2 d_Mo_reckon_107 rfl ?_
            refine r_iload_n hX 3 d_Mo_reckon_108 rfl ?_
            refine r_iload_n hX 4 d_Mo_reckon_109 rfl ?_
            refine r_invV_i0 (st := [.int (iI (((97 * i + j) * 3 + bb : Nat) : Int)), .ref mo]) (As := [.int (iI ((i : Nat) : Int)), .int (iI ((j : Nat) : Int))]) (wr := [(mz, .inl (tI, 2, .inl (iA (iN Z)))), (bt, .inl (tI, 28227, .inl (iA (iU T ((97 * i + j) * 3 + bb) ((ra_xe (ra_mg Z L SC op mr fr pt) i j)))))), (wy, .inl (tJ, 28227, .inr (.inl (iU K ((97 * i + j) * 3 + bb) (ra_ct (ra_end (ra_mg Z L SC op mr fr pt) i j))))))]) hX (c_Mo_scoreAt l D tI tJ tZ mo ml mz ms mt mb me bt wy lq df cd op mr ld pt fr sn dn L SC i j hL (by omega) (by omega)) "RowAlignerModel" 0 10 cf_Mo rfl yn_Mo_scoreAt ml_Mo_80 im_Mo_scoreAt se_Mo_scoreAt co_Mo_scoreAt in_Mo (by decide) (by decide) (by decide) [0, 1, 3] [2, 4, 5] rfl rfl rfl rfl rfl (by decide) rfl rfl (Nat.le_of_ble_eq_true rfl) d_Mo_reckon_110 [3, 4, 0, 5, 1, 2] rfl (w2 := fun _ => [(mo, .inr (10, [.int (iI cd), .ref ml, .ref mz, .ref ms, .int (iI op), .int (iI mr), .int (iI (bI (ld = true))), .int (iI (bI (pt = true))), .int (iI ((fr : Nat) : Int)), .ref mt, .int (iI ((sn : Nat) : Int)), .ref mb, .ref me, .ref bt, .ref wy, .ref lq, .ref df, .int (iI ((dn : Nat) : Int))])), (ml, .inl (tI, 192, .inl (iA (iN L)))), (mz, .inl (tI, 2, .inl (iA (iN Z)))), (ms, .inl (tI, 676, .inl (iA SC))), (bt, .inl (tI, 28227, .inl (iA (iU T ((97 * i + j) * 3 + bb) ((ra_xe (ra_mg Z L SC op mr fr pt) i j)))))), (wy, .inl (tJ, 28227, .inr (.inl (iU K ((97 * i + j) * 3 + bb) (ra_ct (ra_end (ra_mg Z L SC op mr fr pt) i j))))))]) (fun _ => rfl) (fun r110 _ e110 => ?_)
            subst e110
            refine r_iload_n hX 3 d_Mo_reckon_113 rfl ?_
            refine r_iconstN hX 1 d_Mo_reckon_114 rfl ?_
            refine r_iaddN hX d_Mo_reckon_115 ?_
            refine r_iload_n hX 4 d_Mo_reckon_116 rfl ?_
            refine r_iconstN hX 1 d_Mo_reckon_117 rfl ?_
            refine r_iaddN hX d_Mo_reckon_118 ?_
            refine r_iconstN hX 0 d_Mo_reckon_119 rfl ?_
            refine r_invS_i0 (st := [.int (iI (SC (L i * 26 + L (96 + j)))), .int (iI (((97 * i + j) * 3 + bb : Nat) : Int)), .ref mo]) (As := [.int (iI ((i + 1 : Nat) : Int)), .int (iI ((j + 1 : Nat) : Int)), .int (iI ((0 : Nat) : Int))]) (wr := [(mo, .inr (10, [.int (iI cd), .ref ml, .ref mz, .ref ms, .int (iI op), .int (iI mr), .int (iI (bI (ld = true))), .int (iI (bI (pt = true))), .int (iI ((fr : Nat) : Int)), .ref mt, .int (iI ((sn : Nat) : Int)), .ref mb, .ref me, .ref bt, .ref wy, .ref lq, .ref df, .int (iI ((dn : Nat) : Int))])), (ml, .inl (tI, 192, .inl (iA (iN L)))), (mz, .inl (tI, 2, .inl (iA (iN Z)))), (ms, .inl (tI, 676, .inl (iA SC))), (bt, .inl (tI, 28227, .inl (iA (iU T ((97 * i + j) * 3 + bb) ((ra_xe (ra_mg Z L SC op mr fr pt) i j)))))), (wy, .inl (tJ, 28227, .inr (.inl (iU K ((97 * i + j) * 3 + bb) (ra_ct (ra_end (ra_mg Z L SC op mr fr pt) i j))))))]) hX (c_Mo_at l D tI tJ tZ (i + 1) (j + 1) 0) yn_Mo_at ml_Mo_72 st_Mo_at co_Mo_at in_Mo (by decide) (by decide) (by decide) [] [0, 1, 2, 3, 4, 5] rfl rfl rfl rfl rfl (by decide) rfl rfl (Nat.le_of_ble_eq_true rfl) d_Mo_reckon_120 [0, 1, 2, 3, 4, 5] rfl (w2 := fun _ => [(mo, .inr (10, [.int (iI cd), .ref ml, .ref mz, .ref ms, .int (iI op), .int (iI mr), .int (iI (bI (ld = true))), .int (iI (bI (pt = true))), .int (iI ((fr : Nat) : Int)), .ref mt, .int (iI ((sn : Nat) : Int)), .ref mb, .ref me, .ref bt, .ref wy, .ref lq, .ref df, .int (iI ((dn : Nat) : Int))])), (ml, .inl (tI, 192, .inl (iA (iN L)))), (mz, .inl (tI, 2, .inl (iA (iN Z)))), (ms, .inl (tI, 676, .inl (iA SC))), (bt, .inl (tI, 28227, .inl (iA (iU T ((97 * i + j) * 3 + bb) ((ra_xe (ra_mg Z L SC op mr fr pt) i j)))))), (wy, .inl (tJ, 28227, .inr (.inl (iU K ((97 * i + j) * 3 + bb) (ra_ct (ra_end (ra_mg Z L SC op mr fr pt) i j))))))]) (fun _ => rfl) (fun r120 _ e120 => ?_)
            subst e120
            refine r_invV_v0 (st := []) (As := [.int (iI (((97 * i + j) * 3 + bb : Nat) : Int)), .int (iI (SC (L i * 26 + L (96 + j)))), .int (iI (((97 * (i + 1) + (j + 1)) * 3 + 0 : Nat) : Int))]) (wr := [(ml, .inl (tI, 192, .inl (iA (iN L)))), (mz, .inl (tI, 2, .inl (iA (iN Z)))), (ms, .inl (tI, 676, .inl (iA SC)))]) hX (c_Mo_offer l D tI tJ tZ mo ml mz ms mt mb me bt wy lq df cd op mr ld pt fr sn dn (iU T ((97 * i + j) * 3 + bb) ((ra_xe (ra_mg Z L SC op mr fr pt) i j))) (iU K ((97 * i + j) * 3 + bb) (ra_ct (ra_end (ra_mg Z L SC op mr fr pt) i j))) ((97 * i + j) * 3 + bb) (SC (L i * 26 + L (96 + j))) ((97 * (i + 1) + (j + 1)) * 3 + 0) (by omega) (by omega) (by omega) (ra_RI_t hR0 (by omega) hy0 (ra_m_ok hbd _ _ _) (by omega) (by omega)) (ra_RI_h (B := 300000) hR0 (ra_end_ok _ _ _ _ (by omega)) (by omega) (by omega))) "RowAlignerModel" 0 10 cf_Mo rfl yn_Mo_offer ml_Mo_84 im_Mo_offer se_Mo_offer co_Mo_offer in_Mo (by decide) (by decide) (by decide) [0, 4, 5] [1, 2, 3] rfl rfl rfl rfl rfl (by decide) rfl rfl (Nat.le_of_ble_eq_true rfl) d_Mo_reckon_123 [3, 0, 1, 2, 4, 5] rfl (w2 := fun _ => [(mo, .inr (10, [.int (iI cd), .ref ml, .ref mz, .ref ms, .int (iI op), .int (iI mr), .int (iI (bI (ld = true))), .int (iI (bI (pt = true))), .int (iI ((fr : Nat) : Int)), .ref mt, .int (iI ((sn : Nat) : Int)), .ref mb, .ref me, .ref bt, .ref wy, .ref lq, .ref df, .int (iI ((dn : Nat) : Int))])), (ml, .inl (tI, 192, .inl (iA (iN L)))), (mz, .inl (tI, 2, .inl (iA (iN Z)))), (ms, .inl (tI, 676, .inl (iA SC))), (bt, .inl (tI, 28227, .inl (iA (ra_oT (iU T ((97 * i + j) * 3 + bb) ((ra_xe (ra_mg Z L SC op mr fr pt) i j))) ((97 * i + j) * 3 + bb) (SC (L i * 26 + L (96 + j))) ((97 * (i + 1) + (j + 1)) * 3 + 0))))), (wy, .inl (tJ, 28227, .inr (.inl (ra_oK (iU T ((97 * i + j) * 3 + bb) ((ra_xe (ra_mg Z L SC op mr fr pt) i j))) (iU K ((97 * i + j) * 3 + bb) (ra_ct (ra_end (ra_mg Z L SC op mr fr pt) i j))) ((97 * i + j) * 3 + bb) (SC (L i * 26 + L (96 + j))) ((97 * (i + 1) + (j + 1)) * 3 + 0)))))]) (fun _ => rfl) (fun _ _ => ?_)
            exact J126 (ra_oT (iU T ((97 * i + j) * 3 + bb) ((ra_xe (ra_mg Z L SC op mr fr pt) i j))) ((97 * i + j) * 3 + bb) (SC (L i * 26 + L (96 + j))) ((97 * (i + 1) + (j + 1)) * 3 + 0)) (ra_oK (iU T ((97 * i + j) * 3 + bb) ((ra_xe (ra_mg Z L SC op mr fr pt) i j))) (iU K ((97 * i + j) * 3 + bb) (ra_ct (ra_end (ra_mg Z L SC op mr fr pt) i j))) ((97 * i + j) * 3 + bb) (SC (L i * 26 + L (96 + j))) ((97 * (i + 1) + (j + 1)) * 3 + 0)) (by rw [ra_X1_t ⟨by change i < Z 0; omega, by change j < Z 1; omega⟩]; exact ra_RI_offer (B := 300000) hR0 (by omega) hy0 (ra_end_ok _ _ _ _ (by omega)) (ra_ok_sc (ra_m_ok hbd _ _ _) (by omega) (by omega)) (ra_ok_mono (ra_m_ok hbd _ _ _) (by omega)) (by omega))
      refine rb_if_ne hX 78 d_Mo_reckon_70 (by decide) (fun h70 => ?_) (fun h70 => ?_)
      · refine r_lconst hX (v := 1) d_Mo_reckon_78 (by decide) ?_
        refine r_goto hX 83 d_Mo_reckon_79 (by decide) ?_
        exact r_topl (by first | exact (ra_ce_t (Or.inl h70)).symm | exact (ra_ce_t (Or.inr h75)).symm | exact (ra_ce_f h70 h75).symm) J83
      · refine r_iload hX 0 d_Mo_reckon_73 rfl ?_
        refine rb_if_eq hX 82 d_Mo_reckon_75 (by decide) (fun h75 => ?_) (fun h75 => ?_)
        · refine r_lconst hX (v := 0) d_Mo_reckon_82 (by decide) ?_
          exact r_topl (by first | exact (ra_ce_t (Or.inl h70)).symm | exact (ra_ce_t (Or.inr h75)).symm | exact (ra_ce_f h70 h75).symm) J83
        · refine r_lconst hX (v := 1) d_Mo_reckon_78 (by decide) ?_
          refine r_goto hX 83 d_Mo_reckon_79 (by decide) ?_
          exact r_topl (by first | exact (ra_ce_t (Or.inl h70)).symm | exact (ra_ce_t (Or.inr h75)).symm | exact (ra_ce_f h70 h75).symm) J83
    refine rb_if_ne hX 53 d_Mo_reckon_45 (by decide) (fun h45 => ?_) (fun h45 => ?_)
    · refine r_iconstN hX 0 d_Mo_reckon_53 rfl ?_
      refine r_goto hX 59 d_Mo_reckon_54 (by decide) ?_
      exact rj_e (by first | exact (ra_xe_t (Or.inl h45)).symm | exact (ra_xe_t (Or.inr h50)).symm | exact (ra_xe_f h45 h50).symm) J59
    · refine r_iload hX 0 d_Mo_reckon_48 rfl ?_
      refine rb_if_eq hX 57 d_Mo_reckon_50 (by decide) (fun h50 => ?_) (fun h50 => ?_)
      · refine r_ldc hX (-100000000) ct_Mo_79 (by decide) d_Mo_reckon_57 ?_
        exact rj_e (by first | exact (ra_xe_t (Or.inl h45)).symm | exact (ra_xe_t (Or.inr h50)).symm | exact (ra_xe_f h45 h50).symm) J59
      · refine r_iconstN hX 0 d_Mo_reckon_53 rfl ?_
        refine r_goto hX 59 d_Mo_reckon_54 (by decide) ?_
        exact rj_e (by first | exact (ra_xe_t (Or.inl h45)).symm | exact (ra_xe_t (Or.inr h50)).symm | exact (ra_xe_f h45 h50).symm) J59
  refine r_icmp_ne hX 32 d_Mo_reckon_15 (by decide) (by unfold iR; omega) (by unfold iR; omega) (fun h15 => ?_) (fun h15 => ?_)
  · refine r_iconstN hX 0 d_Mo_reckon_32 rfl ?_
    exact rj_0 (by omega) J33
  · refine r_iload_n hX 3 d_Mo_reckon_18 rfl ?_
    refine r_aload_n hX 1 d_Mo_reckon_19 rfl ?_
    refine r_get hX cf_Mo 0 rfl 2 (by decide) fl_Mo_13 rfl d_Mo_reckon_20 ?_
    refine r_iconstN hX 1 d_Mo_reckon_23 rfl ?_
    refine r_ialdN hX 2 0 rfl rfl (1) rfl (by omega) (by decide) d_Mo_reckon_24 ?_
    refine r_icmp_ne hX 32 d_Mo_reckon_25 (by decide) (by unfold iR; omega) (by unfold iR; omega) (fun h25 => ?_) (fun h25 => ?_)
    · refine r_iconstN hX 0 d_Mo_reckon_32 rfl ?_
      exact rj_0 (by omega) J33
    · refine r_iconstN hX 1 d_Mo_reckon_28 rfl ?_
      refine r_goto hX 33 d_Mo_reckon_29 (by decide) ?_
      exact rj_1 (by omega) J33
