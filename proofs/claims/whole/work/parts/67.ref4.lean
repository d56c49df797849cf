abbrev rm_Mo_noRow_t : Room := { frames := 0, cells := 0, slots := 0, locals := 0 }
set_option maxHeartbeats 4000000 in
set_option maxRecDepth 100000 in
theorem c_Mo_noRow_t (l : Launch) (D : va_G) (tI tJ tZ : ClassId) (mo : Nat) (ml : Nat) (mz : Nat) (ms : Nat) (mt : Nat) (mb : Nat) (me : Nat) (bt : Nat) (wy : Nat) (lq : Nat) (df : Nat) (cd : Int) (op : Int) (mr : Int) (ld : Bool) (pt : Bool) (fr : Nat) (sn : Nat) (dn : Nat) (x : Int) (hx : iR x) (hr : x < 0 ∨ 1 < x) : rCi l y_Mo_noRow prog_12_method_4_code 2 .boolean rm_Mo_noRow_t D (tysA tI tJ tZ) [.ref mo, .int (iI x)] [(mo, .inr (10, [.int (iI cd), .ref ml, .ref mz, .ref ms, .int (iI op), .int (iI mr), .int (iI (bI (ld = true))), .int (iI (bI (pt = true))), .int (iI ((fr : Nat) : Int)), .ref mt, .int (iI ((sn : Nat) : Int)), .ref mb, .ref me, .ref bt, .ref wy, .ref lq, .ref df, .int (iI ((dn : Nat) : Int))]))] (fun zz (_ : Unit) => zz = iI (((1 : Nat) : Int))) (fun (_ : Unit) => [(mo, .inr (10, [.int (iI 1), .ref ml, .ref mz, .ref ms, .int (iI op), .int (iI mr), .int (iI (bI (ld = true))), .int (iI (bI (pt = true))), .int (iI ((fr : Nat) : Int)), .ref mt, .int (iI ((sn : Nat) : Int)), .ref mb, .ref me, .ref bt, .ref wy, .ref lq, .ref df, .int (iI ((dn : Nat) : Int))]))]) := by
  intro sz
  refine r_met (by decide) (Nat.le_of_ble_eq_true rfl) ?_
  intro F p e s m args below meth c Q A hX hT hAe hsz hin
  subst hAe
  replace hX : rOK F p l e rm_Mo_noRow_t s m args below meth c Q prog_12_method_4_code 2 "RowAlignerModel" D (tysA tI tJ tZ) _ := hX
  unfold iR at hx
  show F 0 [(0, .ref mo), (1, .int (iI x))] [] [(mo, .inr (10, [.int (iI cd), .ref ml, .ref mz, .ref ms, .int (iI op), .int (iI mr), .int (iI (bI (ld = true))), .int (iI (bI (pt = true))), .int (iI ((fr : Nat) : Int)), .ref mt, .int (iI ((sn : Nat) : Int)), .ref mb, .ref me, .ref bt, .ref wy, .ref lq, .ref df, .int (iI ((dn : Nat) : Int))]))] 0 0
  refine r_aload_n hX 0 d_Mo_noRow_0 rfl ?_
  refine r_iload_n hX 1 d_Mo_noRow_1 rfl ?_
  have J15 : F 15 [(0, .ref mo), (1, .int (iI x))] [.int (iI 1), .ref mo] [(mo, .inr (10, [.int (iI cd), .ref ml, .ref mz, .ref ms, .int (iI op), .int (iI mr), .int (iI (bI (ld = true))), .int (iI (bI (pt = true))), .int (iI ((fr : Nat) : Int)), .ref mt, .int (iI ((sn : Nat) : Int)), .ref mb, .ref me, .ref bt, .ref wy, .ref lq, .ref df, .int (iI ((dn : Nat) : Int))]))] 0 0 := by
    refine r_put hX (ws' := [(mo, .inr (10, [.int (iI 1), .ref ml, .ref mz, .ref ms, .int (iI op), .int (iI mr), .int (iI (bI (ld = true))), .int (iI (bI (pt = true))), .int (iI ((fr : Nat) : Int)), .ref mt, .int (iI ((sn : Nat) : Int)), .ref mb, .ref me, .ref bt, .ref wy, .ref lq, .ref df, .int (iI ((dn : Nat) : Int))]))]) cf_Mo 0 rfl 0 (by decide) fl_Mo_52 rfl rfl rfl (Nat.le_of_ble_eq_true rfl) rfl d_Mo_noRow_15 ?_
    refine r_aload_n hX 0 d_Mo_noRow_18 rfl ?_
    refine r_get hX cf_Mo 0 rfl 0 (by decide) fl_Mo_52 rfl d_Mo_noRow_19 ?_
    refine r_if_le hX 29 d_Mo_noRow_22 (by decide) (by unfold iR; omega) (fun h22 => by exfalso; omega) (fun h22 => ?_)
    refine r_iconstN hX 1 d_Mo_noRow_25 rfl ?_
    refine r_goto hX 30 d_Mo_noRow_26 (by decide) ?_
    exact r_zret hX hT (by decide) () rfl rfl (by decide) (by decide) d_Mo_noRow_30
  refine r_if_lt hX 10 d_Mo_noRow_2 (by decide) (by unfold iR; omega) (fun h2 => ?_) (fun h2 => ?_)
  · refine r_iconstN hX 1 d_Mo_noRow_10 rfl ?_
    refine r_goto hX 15 d_Mo_noRow_11 (by decide) ?_
    exact rj_e (by rfl) J15
  · refine r_iload_n hX 1 d_Mo_noRow_5 rfl ?_
    refine r_iconstN hX 1 d_Mo_noRow_6 rfl ?_
    refine r_icmp_le hX 14 d_Mo_noRow_7 (by decide) (by unfold iR; omega) (by unfold iR; omega) (fun h7 => by exfalso; omega) (fun h7 => ?_)
    refine r_iconstN hX 1 d_Mo_noRow_10 rfl ?_
    refine r_goto hX 15 d_Mo_noRow_11 (by decide) ?_
    exact rj_e (by rfl) J15

abbrev rm_Mo_noRow_f : Room := { frames := 0, cells := 0, slots := 0, locals := 0 }
set_option maxHeartbeats 4000000 in
set_option maxRecDepth 100000 in
theorem c_Mo_noRow_f (l : Launch) (D : va_G) (tI tJ tZ : ClassId) (mo : Nat) (ml : Nat) (mz : Nat) (ms : Nat) (mt : Nat) (mb : Nat) (me : Nat) (bt : Nat) (wy : Nat) (lq : Nat) (df : Nat) (cd : Int) (op : Int) (mr : Int) (ld : Bool) (pt : Bool) (fr : Nat) (sn : Nat) (dn : Nat) (x : Nat) (hr : x ≤ 1) : rCi l y_Mo_noRow prog_12_method_4_code 2 .boolean rm_Mo_noRow_f D (tysA tI tJ tZ) [.ref mo, .int (iI ((x : Nat) : Int))] [(mo, .inr (10, [.int (iI cd), .ref ml, .ref mz, .ref ms, .int (iI op), .int (iI mr), .int (iI (bI (ld = true))), .int (iI (bI (pt = true))), .int (iI ((fr : Nat) : Int)), .ref mt, .int (iI ((sn : Nat) : Int)), .ref mb, .ref me, .ref bt, .ref wy, .ref lq, .ref df, .int (iI ((dn : Nat) : Int))]))] (fun zz (_ : Unit) => zz = iI (((0 : Nat) : Int))) (fun (_ : Unit) => [(mo, .inr (10, [.int (iI 0), .ref ml, .ref mz, .ref ms, .int (iI op), .int (iI mr), .int (iI (bI (ld = true))), .int (iI (bI (pt = true))), .int (iI ((fr : Nat) : Int)), .ref mt, .int (iI ((sn : Nat) : Int)), .ref mb, .ref me, .ref bt, .ref wy, .ref lq, .ref df, .int (iI ((dn : Nat) : Int))]))]) := by
  intro sz
  refine r_met (by decide) (Nat.le_of_ble_eq_true rfl) ?_
  intro F p e s m args below meth c Q A hX hT hAe hsz hin
  subst hAe
  replace hX : rOK F p l e rm_Mo_noRow_f s m args below meth c Q prog_12_method_4_code 2 "RowAlignerModel" D (tysA tI tJ tZ) _ := hX
  show F 0 [(0, .ref mo), (1, .int (iI ((x : Nat) : Int)))] [] [(mo, .inr (10, [.int (iI cd), .ref ml, .ref mz, .ref ms, .int (iI op), .int (iI mr), .int (iI (bI (ld = true))), .int (iI (bI (pt = true))), .int (iI ((fr : Nat) : Int)), .ref mt, .int (iI ((sn : Nat) : Int)), .ref mb, .ref me, .ref bt, .ref wy, .ref lq, .ref df, .int (iI ((dn : Nat) : Int))]))] 0 0
  refine r_aload_n hX 0 d_Mo_noRow_0 rfl ?_
  refine r_iload_n hX 1 d_Mo_noRow_1 rfl ?_
  refine r_if_lt hX 10 d_Mo_noRow_2 (by decide) (by unfold iR; omega) (fun h2 => by exfalso; omega) (fun h2 => ?_)
  refine r_iload_n hX 1 d_Mo_noRow_5 rfl ?_
  refine r_iconstN hX 1 d_Mo_noRow_6 rfl ?_
  refine r_icmp_le hX 14 d_Mo_noRow_7 (by decide) (by unfold iR; omega) (by unfold iR; omega) (fun h7 => ?_) (fun h7 => by exfalso; omega)
  refine r_iconstN hX 0 d_Mo_noRow_14 rfl ?_
  refine r_put hX (ws' := [(mo, .inr (10, [.int (iI ((0 : Nat) : Int)), .ref ml, .ref mz, .ref ms, .int (iI op), .int (iI mr), .int (iI (bI (ld = true))), .int (iI (bI (pt = true))), .int (iI ((fr : Nat) : Int)), .ref mt, .int (iI ((sn : Nat) : Int)), .ref mb, .ref me, .ref bt, .ref wy, .ref lq, .ref df, .int (iI ((dn : Nat) : Int))]))]) cf_Mo 0 rfl 0 (by decide) fl_Mo_52 rfl rfl rfl (Nat.le_of_ble_eq_true rfl) rfl d_Mo_noRow_15 ?_
  refine r_aload_n hX 0 d_Mo_noRow_18 rfl ?_
  refine r_get hX cf_Mo 0 rfl 0 (by decide) fl_Mo_52 rfl d_Mo_noRow_19 ?_
  refine r_if_le hX 29 d_Mo_noRow_22 (by decide) (by unfold iR; omega) (fun h22 => ?_) (fun h22 => by exfalso; omega)
  refine r_iconstN hX 0 d_Mo_noRow_29 rfl ?_
  exact r_zret hX hT (by decide) () rfl rfl (by decide) (by decide) d_Mo_noRow_30

abbrev rm_Mo_cut_r : Room := { frames := 1, cells := 0, slots := 0, locals := 21 }
set_option maxHeartbeats 4000000 in
set_option maxRecDepth 100000 in
theorem c_Mo_cut_r (l : Launch) (D : va_G) (tI tJ tZ : ClassId) (mo : Nat) (ml : Nat) (mz : Nat) (ms : Nat) (mt : Nat) (mb : Nat) (me : Nat) (bt : Nat) (wy : Nat) (lq : Nat) (df : Nat) (cd : Int) (op : Int) (mr : Int) (ld : Bool) (pt : Bool) (fr : Nat) (sn : Nat) (dn : Nat) (x : Int) (y : Int) (hx : iR x) (hr : x < 0 ∨ 1 < x) : rCv l y_Mo_cut prog_12_method_6_code 3 rm_Mo_cut_r D (tysA tI tJ tZ) [.ref mo, .int (iI x), .int (iI y)] [(mo, .inr (10, [.int (iI cd), .ref ml, .ref mz, .ref ms, .int (iI op), .int (iI mr), .int (iI (bI (ld = true))), .int (iI (bI (pt = true))), .int (iI ((fr : Nat) : Int)), .ref mt, .int (iI ((sn : Nat) : Int)), .ref mb, .ref me, .ref bt, .ref wy, .ref lq, .ref df, .int (iI ((dn : Nat) : Int))]))] (fun (_ : Unit) => True) (fun (_ : Unit) => [(mo, .inr (10, [.int (iI 1), .ref ml, .ref mz, .ref ms, .int (iI op), .int (iI mr), .int (iI (bI (ld = true))), .int (iI (bI (pt = true))), .int (iI ((fr : Nat) : Int)), .ref mt, .int (iI ((sn : Nat) : Int)), .ref mb, .ref me, .ref bt, .ref wy, .ref lq, .ref df, .int (iI ((dn : Nat) : Int))]))]) := by
  intro sz
  refine r_met (by decide) (Nat.le_of_ble_eq_true rfl) ?_
  intro F p e s m args below meth c Q A hX hT hAe hsz hin
  subst hAe
  replace hX : rOK F p l e rm_Mo_cut_r s m args below meth c Q prog_12_method_6_code 3 "RowAlignerModel" D (tysA tI tJ tZ) _ := hX
  show F 0 [(0, .ref mo), (1, .int (iI x)), (2, .int (iI y))] [] [(mo, .inr (10, [.int (iI cd), .ref ml, .ref mz, .ref ms, .int (iI op), .int (iI mr), .int (iI (bI (ld = true))), .int (iI (bI (pt = true))), .int (iI ((fr : Nat) : Int)), .ref mt, .int (iI ((sn : Nat) : Int)), .ref mb, .ref me, .ref bt, .ref wy, .ref lq, .ref df, .int (iI ((dn : Nat) : Int))]))] 0 0
  refine r_aload_n hX 0 d_Mo_cut_0 rfl ?_
  refine r_iload_n hX 1 d_Mo_cut_1 rfl ?_
  refine r_invV_i0 (st := []) (As := [.int (iI x)]) (wr := []) hX (c_Mo_noRow_t l D tI tJ tZ mo ml mz ms mt mb me bt wy lq df cd op mr ld pt fr sn dn x hx hr) "RowAlignerModel" 0 10 cf_Mo rfl yn_Mo_noRow ml_Mo_55 im_Mo_noRow se_Mo_noRow co_Mo_noRow in_Mo (by decide) (by decide) (by decide) [0] [] rfl rfl rfl rfl rfl (by decide) rfl rfl (Nat.le_of_ble_eq_true rfl) d_Mo_cut_2 [0] rfl (w2 := fun _ => [(mo, .inr (10, [.int (iI 1), .ref ml, .ref mz, .ref ms, .int (iI op), .int (iI mr), .int (iI (bI (ld = true))), .int (iI (bI (pt = true))), .int (iI ((fr : Nat) : Int)), .ref mt, .int (iI ((sn : Nat) : Int)), .ref mb, .ref me, .ref bt, .ref wy, .ref lq, .ref df, .int (iI ((dn : Nat) : Int))]))]) (fun _ => rfl) (fun r2 _ e2 => ?_)
  subst e2
  refine r_if_eq hX 9 d_Mo_cut_5 (by decide) (by unfold iR; omega) (fun h5 => by exfalso; omega) (fun h5 => ?_)
  exact r_vret hX hT () trivial rfl (by decide) (by decide) d_Mo_cut_8

abbrev rm_Mo_cut_n : Room := { frames := 1, cells := 0, slots := 0, locals := 21 }
set_option maxHeartbeats 4000000 in
set_option maxRecDepth 100000 in
theorem c_Mo_cut_n (l : Launch) (D : va_G) (tI tJ tZ : ClassId) (mo : Nat) (ml : Nat) (mz : Nat) (ms : Nat) (mt : Nat) (mb : Nat) (me : Nat) (bt : Nat) (wy : Nat) (lq : Nat) (df : Nat) (cd : Int) (op : Int) (mr : Int) (ld : Bool) (pt : Bool) (fr : Nat) (sn : Nat) (dn : Nat) (Z : Nat → Nat) (x : Nat) (y : Int) (hr : x ≤ 1) (hy : iR y) (hz : Z x ≤ 96) (hn : y < 0 ∨ ((Z x : Nat) : Int) < y) : rCv l y_Mo_cut prog_12_method_6_code 3 rm_Mo_cut_n D (tysA tI tJ tZ) [.ref mo, .int (iI ((x : Nat) : Int)), .int (iI y)] [(mo, .inr (10, [.int (iI cd), .ref ml, .ref mz, .ref ms, .int (iI op), .int (iI mr), .int (iI (bI (ld = true))), .int (iI (bI (pt = true))), .int (iI ((fr : Nat) : Int)), .ref mt, .int (iI ((sn : Nat) : Int)), .ref mb, .ref me, .ref bt, .ref wy, .ref lq, .ref df, .int (iI ((dn : Nat) : Int))])), (mz, .inl (tI, 2, .inl (iA (iN Z))))] (fun (_ : Unit) => True) (fun (_ : Unit) => [(mo, .inr (10, [.int (iI 2), .ref ml, .ref mz, .ref ms, .int (iI op), .int (iI mr), .int (iI (bI (ld = true))), .int (iI (bI (pt = true))), .int (iI ((fr : Nat) : Int)), .ref mt, .int (iI ((sn : Nat) : Int)), .ref mb, .ref me, .ref bt, .ref wy, .ref lq, .ref df, .int (iI ((dn : Nat) : Int))])), (mz, .inl (tI, 2, .inl (iA (iN Z))))]) := by
  intro sz
  refine r_met (by decide) (Nat.le_of_ble_eq_true rfl) ?_
  intro F p e s m args below meth c Q A hX hT hAe hsz hin
  subst hAe
  replace hX : rOK F p l e rm_Mo_cut_n s m args below meth c Q prog_12_method_6_code 3 "RowAlignerModel" D (tysA tI tJ tZ) _ := hX
  unfold iR at hy
  show F 0 [(0, .ref mo), (1, .int (iI ((x : Nat) : Int))), (2, .int (iI y))] [] [(mo, .inr (10, [.int (iI cd), .ref ml, .ref mz, .ref ms, .int (iI op), .int (iI mr), .int (iI (bI (ld = true))), .int (iI (bI (pt = true))), .int (iI ((fr : Nat) : Int)), .ref mt, .int (iI ((sn : Nat) : Int)), .ref mb, .ref me, .ref bt, .ref wy, .ref lq, .ref df, .int (iI ((dn : Nat) : Int))])), (mz, .inl (tI, 2, .inl (iA (iN Z))))] 0 0
  refine r_aload_n hX 0 d_Mo_cut_0 rfl ?_
  refine r_iload_n hX 1 d_Mo_cut_1 rfl ?_
  refine r_invV_i0 (st := []) (As := [.int (iI ((x : Nat) : Int))]) (wr := [(mz, .inl (tI, 2, .inl (iA (iN Z))))]) hX (c_Mo_noRow_f l D tI tJ tZ mo ml mz ms mt mb me bt wy lq df cd op mr ld pt fr sn dn x hr) "RowAlignerModel" 0 10 cf_Mo rfl yn_Mo_noRow ml_Mo_55 im_Mo_noRow se_Mo_noRow co_Mo_noRow in_Mo (by decide) (by decide) (by decide) [0] [1] rfl rfl rfl rfl rfl (by decide) rfl rfl (Nat.le_of_ble_eq_true rfl) d_Mo_cut_2 [1, 0] rfl (w2 := fun _ => [(mo, .inr (10, [.int (iI 0), .ref ml, .ref mz, .ref ms, .int (iI op), .int (iI mr), .int (iI (bI (ld = true))), .int (iI (bI (pt = true))), .int (iI ((fr : Nat) : Int)), .ref mt, .int (iI ((sn : Nat) : Int)), .ref mb, .ref me, .ref bt, .ref wy, .ref lq, .ref df, .int (iI ((dn : Nat) : Int))])), (mz, .inl (tI, 2, .inl (iA (iN Z))))]) (fun _ => rfl) (fun r2 _ e2 => ?_)
  subst e2
  refine r_if_eq hX 9 d_Mo_cut_5 (by decide) (by unfold iR; omega) (fun h5 => ?_) (fun h5 => by exfalso; omega)
  refine r_aload_n hX 0 d_Mo_cut_9 rfl ?_
  refine r_iload_n hX 2 d_Mo_cut_10 rfl ?_
  have J29 : F 29 [(0, .ref mo), (1, .int (iI ((x : Nat) : Int))), (2, .int (iI y))] [.int (iI 2), .ref mo] [(mo, .inr (10, [.int (iI 0), .ref ml, .ref mz, .ref ms, .int (iI op), .int (iI mr), .int (iI (bI (ld = true))), .int (iI (bI (pt = true))), .int (iI ((fr : Nat) : Int)), .ref mt, .int (iI ((sn : Nat) : Int)), .ref mb, .ref me, .ref bt, .ref wy, .ref lq, .ref df, .int (iI ((dn : Nat) : Int))])), (mz, .inl (tI, 2, .inl (iA (iN Z))))] 0 0 := by
    refine r_put hX (ws' := [(mo, .inr (10, [.int (iI 2), .ref ml, .ref mz, .ref ms, .int (iI op), .int (iI mr), .int (iI (bI (ld = true))), .int (iI (bI (pt = true))), .int (iI ((fr : Nat) : Int)), .ref mt, .int (iI ((sn : Nat) : Int)), .ref mb, .ref me, .ref bt, .ref wy, .ref lq, .ref df, .int (iI ((dn : Nat) : Int))])), (mz, .inl (tI, 2, .inl (iA (iN Z))))]) cf_Mo 0 rfl 0 (by decide) fl_Mo_52 rfl rfl rfl (Nat.le_of_ble_eq_true rfl) rfl d_Mo_cut_29 ?_
    refine r_aload_n hX 0 d_Mo_cut_32 rfl ?_
    refine r_get hX cf_Mo 0 rfl 0 (by decide) fl_Mo_52 rfl d_Mo_cut_33 ?_
    refine r_if_ne hX 51 d_Mo_cut_36 (by decide) (by unfold iR; omega) (fun h36 => ?_) (fun h36 => by exfalso; omega)
    exact r_vret hX hT () trivial rfl (by decide) (by decide) d_Mo_cut_51
  refine r_if_lt hX 24 d_Mo_cut_11 (by decide) (by unfold iR; omega) (fun h11 => ?_) (fun h11 => ?_)
  · refine r_iconstN hX 2 d_Mo_cut_24 rfl ?_
    refine r_goto hX 29 d_Mo_cut_25 (by decide) ?_
    exact rj_e (by rfl) J29
  · refine r_iload_n hX 2 d_Mo_cut_14 rfl ?_
    refine r_aload_n hX 0 d_Mo_cut_15 rfl ?_
    refine r_get hX cf_Mo 0 rfl 2 (by decide) fl_Mo_13 rfl d_Mo_cut_16 ?_
    refine r_iload_n hX 1 d_Mo_cut_19 rfl ?_
    refine r_ialdN hX 1 0 rfl rfl (x) rfl (by omega) (by decide) d_Mo_cut_20 ?_
    refine r_icmp_le hX 28 d_Mo_cut_21 (by decide) (by unfold iR; omega) (by unfold iR; omega) (fun h21 => by exfalso; omega) (fun h21 => ?_)
    refine r_iconstN hX 2 d_Mo_cut_24 rfl ?_
    refine r_goto hX 29 d_Mo_cut_25 (by decide) ?_
    exact rj_e (by rfl) J29

abbrev rm_Mo_cut : Room := { frames := 1, cells := 0, slots := 0, locals := 21 }
set_option maxHeartbeats 4000000 in
set_option maxRecDepth 100000 in
theorem c_Mo_cut (l : Launch) (D : va_G) (tI tJ tZ : ClassId) (mo : Nat) (ml : Nat) (mz : Nat) (ms : Nat) (mt : Nat) (mb : Nat) (me : Nat) (bt : Nat) (wy : Nat) (lq : Nat) (df : Nat) (cd : Int) (op : Int) (mr : Int) (ld : Bool) (pt : Bool) (fr : Nat) (sn : Nat) (dn : Nat) (Z : Nat → Nat) (x : Nat) (y : Nat) (hr : x ≤ 1) (hz : Z x ≤ 96) (hn : y ≤ Z x) : rCv l y_Mo_cut prog_12_method_6_code 3 rm_Mo_cut D (tysA tI tJ tZ) [.ref mo, .int (iI ((x : Nat) : Int)), .int (iI ((y : Nat) : Int))] [(mo, .inr (10, [.int (iI cd), .ref ml, .ref mz, .ref ms, .int (iI op), .int (iI mr), .int (iI (bI (ld = true))), .int (iI (bI (pt = true))), .int (iI ((fr : Nat) : Int)), .ref mt, .int (iI ((sn : Nat) : Int)), .ref mb, .ref me, .ref bt, .ref wy, .ref lq, .ref df, .int (iI ((dn : Nat) : Int))])), (mz, .inl (tI, 2, .inl (iA (iN Z))))] (fun (_ : Unit) => True) (fun (_ : Unit) => [(mo, .inr (10, [.int (iI 0), .ref ml, .ref mz, .ref ms, .int (iI op), .int (iI mr), .int (iI (bI (false = true))), .int (iI (bI (pt = true))), .int (iI ((fr : Nat) : Int)), .ref mt, .int (iI ((sn : Nat) : Int)), .ref mb, .ref me, .ref bt, .ref wy, .ref lq, .ref df, .int (iI ((dn : Nat) : Int))])), (mz, .inl (tI, 2, .inl (iA (iN (iU Z x y)))))]) := by
  intro sz
  refine r_met (by decide) (Nat.le_of_ble_eq_true rfl) ?_
  intro F p e s m args below meth c Q A hX hT hAe hsz hin
  subst hAe
  replace hX : rOK F p l e rm_Mo_cut s m args below meth c Q prog_12_method_6_code 3 "RowAlignerModel" D (tysA tI tJ tZ) _ := hX
  show F 0 [(0, .ref mo), (1, .int (iI ((x : Nat) : Int))), (2, .int (iI ((y : Nat) : Int)))] [] [(mo, .inr (10, [.int (iI cd), .ref ml, .ref mz, .ref ms, .int (iI op), .int (iI mr), .int (iI (bI (ld = true))), .int (iI (bI (pt = true))), .int (iI ((fr : Nat) : Int)), .ref mt, .int (iI ((sn : Nat) : Int)), .ref mb, .ref me, .ref bt, .ref wy, .ref lq, .ref df, .int (iI ((dn : Nat) : Int))])), (mz, .inl (tI, 2, .inl (iA (iN Z))))] 0 0
  refine r_aload_n hX 0 d_Mo_cut_0 rfl ?_
  refine r_iload_n hX 1 d_Mo_cut_1 rfl ?_
  refine r_invV_i0 (st := []) (As := [.int (iI ((x : Nat) : Int))]) (wr := [(mz, .inl (tI, 2, .inl (iA (iN Z))))]) hX (c_Mo_noRow_f l D tI tJ tZ mo ml mz ms mt mb me bt wy lq df cd op mr ld pt fr sn dn x hr) "RowAlignerModel" 0 10 cf_Mo rfl yn_Mo_noRow ml_Mo_55 im_Mo_noRow se_Mo_noRow co_Mo_noRow in_Mo (by decide) (by decide) (by decide) [0] [1] rfl rfl rfl rfl rfl (by decide) rfl rfl (Nat.le_of_ble_eq_true rfl) d_Mo_cut_2 [1, 0] rfl (w2 := fun _ => [(mo, .inr (10, [.int (iI 0), .ref ml, .ref mz, .ref ms, .int (iI op), .int (iI mr), .int (iI (bI (ld = true))), .int (iI (bI (pt = true))), .int (iI ((fr : Nat) : Int)), .ref mt, .int (iI ((sn : Nat) : Int)), .ref mb, .ref me, .ref bt, .ref wy, .ref lq, .ref df, .int (iI ((dn : Nat) : Int))])), (mz, .inl (tI, 2, .inl (iA (iN Z))))]) (fun _ => rfl) (fun r2 _ e2 => ?_)
  subst e2
  refine r_if_eq hX 9 d_Mo_cut_5 (by decide) (by unfold iR; omega) (fun h5 => ?_) (fun h5 => by exfalso; omega)
  refine r_aload_n hX 0 d_Mo_cut_9 rfl ?_
  refine r_iload_n hX 2 d_Mo_cut_10 rfl ?_
  refine r_if_lt hX 24 d_Mo_cut_11 (by decide) (by unfold iR; omega) (fun h11 => by exfalso; omega) (fun h11 => ?_)
  refine r_iload_n hX 2 d_Mo_cut_14 rfl ?_
  refine r_aload_n hX 0 d_Mo_cut_15 rfl ?_
  refine r_get hX cf_Mo 0 rfl 2 (by decide) fl_Mo_13 rfl d_Mo_cut_16 ?_
  refine r_iload_n hX 1 d_Mo_cut_19 rfl ?_
  refine r_ialdN hX 1 0 rfl rfl (x) rfl (by omega) (by decide) d_Mo_cut_20 ?_
  refine r_icmp_le hX 28 d_Mo_cut_21 (by decide) (by unfold iR; omega) (by unfold iR; omega) (fun h21 => ?_) (fun h21 => by exfalso; omega)
  refine r_iconstN hX 0 d_Mo_cut_28 rfl ?_
  refine r_put hX (ws' := [(mo, .inr (10, [.int (iI ((0 : Nat) : Int)), .ref ml, .ref mz, .ref ms, .int (iI op), .int (iI mr), .int (iI (bI (ld = true))), .int (iI (bI (pt = true))), .int (iI ((fr : Nat) : Int)), .ref mt, .int (iI ((sn : Nat) : Int)), .ref mb, .ref me, .ref bt, .ref wy, .ref lq, .ref df, .int (iI ((dn : Nat) : Int))])), (mz, .inl (tI, 2, .inl (iA (iN Z))))]) cf_Mo 0 rfl 0 (by decide) fl_Mo_52 rfl rfl rfl (Nat.le_of_ble_eq_true rfl) rfl d_Mo_cut_29 ?_
  refine r_aload_n hX 0 d_Mo_cut_32 rfl ?_
  refine r_get hX cf_Mo 0 rfl 0 (by decide) fl_Mo_52 rfl d_Mo_cut_33 ?_
  refine r_if_ne hX 51 d_Mo_cut_36 (by decide) (by unfold iR; omega) (fun h36 => by exfalso; omega) (fun h36 => ?_)
  refine r_aload_n hX 0 d_Mo_cut_39 rfl ?_
  refine r_get hX cf_Mo 0 rfl 2 (by decide) fl_Mo_13 rfl d_Mo_cut_40 ?_
  refine r_iload_n hX 1 d_Mo_cut_43 rfl ?_
  refine r_iload_n hX 2 d_Mo_cut_44 rfl ?_
  refine r_iastN hX (ws' := [(mo, .inr (10, [.int (iI ((0 : Nat) : Int)), .ref ml, .ref mz, .ref ms, .int (iI op), .int (iI mr), .int (iI (bI (ld = true))), .int (iI (bI (pt = true))), .int (iI ((fr : Nat) : Int)), .ref mt, .int (iI ((sn : Nat) : Int)), .ref mb, .ref me, .ref bt, .ref wy, .ref lq, .ref df, .int (iI ((dn : Nat) : Int))])), (mz, .inl (tI, 2, .inl (iA (iN (iU Z x y)))))]) 1 0 rfl rfl (x) rfl (by omega) (by decide) rfl d_Mo_cut_45 ?_
  refine r_aload_n hX 0 d_Mo_cut_46 rfl ?_
  refine r_iconstN hX 0 d_Mo_cut_47 rfl ?_
  refine r_put hX (ws' := [(mo, .inr (10, [.int (iI ((0 : Nat) : Int)), .ref ml, .ref mz, .ref ms, .int (iI op), .int (iI mr), .int (iI ((0 : Nat) : Int)), .int (iI (bI (pt = true))), .int (iI ((fr : Nat) : Int)), .ref mt, .int (iI ((sn : Nat) : Int)), .ref mb, .ref me, .ref bt, .ref wy, .ref lq, .ref df, .int (iI ((dn : Nat) : Int))])), (mz, .inl (tI, 2, .inl (iA (iN (iU Z x y)))))]) cf_Mo 0 rfl 6 (by decide) fl_Mo_61 rfl (by decide +kernel) (by decide +kernel) (Nat.le_of_ble_eq_true rfl) rfl d_Mo_cut_48 ?_
  exact r_vret hX hT () trivial rfl (by decide) (by decide) d_Mo_cut_51

abbrev rm_Mo_turn_r : Room := { frames := 1, cells := 0, slots := 0, locals := 21 }
set_option maxHeartbeats 4000000 in
set_option maxRecDepth 100000 in
theorem c_Mo_turn_r (l : Launch) (D : va_G) (tI tJ tZ : ClassId) (mo : Nat) (ml : Nat) (mz : Nat) (ms : Nat) (mt : Nat) (mb : Nat) (me : Nat) (bt : Nat) (wy : Nat) (lq : Nat) (df : Nat) (cd : Int) (op : Int) (mr : Int) (ld : Bool) (pt : Bool) (fr : Nat) (sn : Nat) (dn : Nat) (x : Int) (hx : iR x) (hr : x < 0 ∨ 1 < x) : rCv l y_Mo_turn prog_12_method_7_code 6 rm_Mo_turn_r D (tysA tI tJ tZ) [.ref mo, .int (iI x)] [(mo, .inr (10, [.int (iI cd), .ref ml, .ref mz, .ref ms, .int (iI op), .int (iI mr), .int (iI (bI (ld = true))), .int (iI (bI (pt = true))), .int (iI ((fr : Nat) : Int)), .ref mt, .int (iI ((sn : Nat) : Int)), .ref mb, .ref me, .ref bt, .ref wy, .ref lq, .ref df, .int (iI ((dn : Nat) : Int))]))] (fun (_ : Unit) => True) (fun (_ : Unit) => [(mo, .inr (10, [.int (iI 1), .ref ml, .ref mz, .ref ms, .int (iI op), .int (iI mr), .int (iI (bI (ld = true))), .int (iI (bI (pt = true))), .int (iI ((fr : Nat) : Int)), .ref mt, .int (iI ((sn : Nat) : Int)), .ref mb, .ref me, .ref bt, .ref wy, .ref lq, .ref df, .int (iI ((dn : Nat) : Int))]))]) := by
  intro sz
  refine r_met (by decide) (Nat.le_of_ble_eq_true rfl) ?_
  intro F p e s m args below meth c Q A hX hT hAe hsz hin
  subst hAe
  replace hX : rOK F p l e rm_Mo_turn_r s m args below meth c Q prog_12_method_7_code 6 "RowAlignerModel" D (tysA tI tJ tZ) _ := hX
  show F 0 [(0, .ref mo), (1, .int (iI x))] [] [(mo, .inr (10, [.int (iI cd), .ref ml, .ref mz, .ref ms, .int (iI op), .int (iI mr), .int (iI (bI (ld = true))), .int (iI (bI (pt = true))), .int (iI ((fr : Nat) : Int)), .ref mt, .int (iI ((sn : Nat) : Int)), .ref mb, .ref me, .ref bt, .ref wy, .ref lq, .ref df, .int (iI ((dn : Nat) : Int))]))] 0 0
  refine r_aload_n hX 0 d_Mo_turn_0 rfl ?_
  refine r_iload_n hX 1 d_Mo_turn_1 rfl ?_
  refine r_invV_i0 (st := []) (As := [.int (iI x)]) (wr := []) hX (c_Mo_noRow_t l D tI tJ tZ mo ml mz ms mt mb me bt wy lq df cd op mr ld pt fr sn dn x hx hr) "RowAlignerModel" 0 10 cf_Mo rfl yn_Mo_noRow ml_Mo_55 im_Mo_noRow se_Mo_noRow co_Mo_noRow in_Mo (by decide) (by decide) (by decide) [0] [] rfl rfl rfl rfl rfl (by decide) rfl rfl (Nat.le_of_ble_eq_true rfl) d_Mo_turn_2 [0] rfl (w2 := fun _ => [(mo, .inr (10, [.int (iI 1), .ref ml, .ref mz, .ref ms, .int (iI op), .int (iI mr), .int (iI (bI (ld = true))), .int (iI (bI (pt = true))), .int (iI ((fr : Nat) : Int)), .ref mt, .int (iI ((sn : Nat) : Int)), .ref mb, .ref me, .ref bt, .ref wy, .ref lq, .ref df, .int (iI ((dn : Nat) : Int))]))]) (fun _ => rfl) (fun r2 _ e2 => ?_)
  subst e2
  refine r_if_eq hX 9 d_Mo_turn_5 (by decide) (by unfold iR; omega) (fun h5 => by exfalso; omega) (fun h5 => ?_)
  exact r_vret hX hT () trivial rfl (by decide) (by decide) d_Mo_turn_8

abbrev rm_Mo_turn : Room := { frames := 1, cells := 0, slots := 0, locals := 21 }
set_option maxHeartbeats 4000000 in
set_option maxRecDepth 100000 in
theorem c_Mo_turn (l : Launch) (D : va_G) (tI tJ tZ : ClassId) (mo : Nat) (ml : Nat) (mz : Nat) (ms : Nat) (mt : Nat) (mb : Nat) (me : Nat) (bt : Nat) (wy : Nat) (lq : Nat) (df : Nat) (cd : Int) (op : Int) (mr : Int) (ld : Bool) (pt : Bool) (fr : Nat) (sn : Nat) (dn : Nat) (L : Nat → Nat) (Z : Nat → Nat) (x : Nat) (hr : x ≤ 1) (hz : Z x ≤ 96) : rCv l y_Mo_turn prog_12_method_7_code 6 rm_Mo_turn D (tysA tI tJ tZ) [.ref mo, .int (iI ((x : Nat) : Int))] [(mo, .inr (10, [.int (iI cd), .ref ml, .ref mz, .ref ms, .int (iI op), .int (iI mr), .int (iI (bI (ld = true))), .int (iI (bI (pt = true))), .int (iI ((fr : Nat) : Int)), .ref mt, .int (iI ((sn : Nat) : Int)), .ref mb, .ref me, .ref bt, .ref wy, .ref lq, .ref df, .int (iI ((dn : Nat) : Int))])), (ml, .inl (tI, 192, .inl (iA (iN L)))), (mz, .inl (tI, 2, .inl (iA (iN Z))))] (fun (_ : Unit) => True) (fun (_ : Unit) => [(mo, .inr (10, [.int (iI 0), .ref ml, .ref mz, .ref ms, .int (iI op), .int (iI mr), .int (iI (bI (false = true))), .int (iI (bI (pt = true))), .int (iI ((fr : Nat) : Int)), .ref mt, .int (iI ((sn : Nat) : Int)), .ref mb, .ref me, .ref bt, .ref wy, .ref lq, .ref df, .int (iI ((dn : Nat) : Int))])), (ml, .inl (tI, 192, .inl (iA (iN (ra_tn L (96 * x) (Z x) (Z x / 2)))))), (mz, .inl (tI, 2, .inl (iA (iN Z))))]) := by
  intro sz
  refine r_met (by decide) (Nat.le_of_ble_eq_true rfl) ?_
  intro F p e s m args below meth c Q A hX hT hAe hsz hin
  subst hAe
  replace hX : rOK F p l e rm_Mo_turn s m args below meth c Q prog_12_method_7_code 6 "RowAlignerModel" D (tysA tI tJ tZ) _ := hX
  show F 0 [(0, .ref mo), (1, .int (iI ((x : Nat) : Int)))] [] [(mo, .inr (10, [.int (iI cd), .ref ml, .ref mz, .ref ms, .int (iI op), .int (iI mr), .int (iI (bI (ld = true))), .int (iI (bI (pt = true))), .int (iI ((fr : Nat) : Int)), .ref mt, .int (iI ((sn : Nat) : Int)), .ref mb, .ref me, .ref bt, .ref wy, .ref lq, .ref df, .int (iI ((dn : Nat) : Int))])), (ml, .inl (tI, 192, .inl (iA (iN L)))), (mz, .inl (tI, 2, .inl (iA (iN Z))))] 0 0
  refine r_aload_n hX 0 d_Mo_turn_0 rfl ?_
  refine r_iload_n hX 1 d_Mo_turn_1 rfl ?_
  refine r_invV_i0 (st := []) (As := [.int (iI ((x : Nat) : Int))]) (wr := [(ml, .inl (tI, 192, .inl (iA (iN L)))), (mz, .inl (tI, 2, .inl (iA (iN Z))))]) hX (c_Mo_noRow_f l D tI tJ tZ mo ml mz ms mt mb me bt wy lq df cd op mr ld pt fr sn dn x hr) "RowAlignerModel" 0 10 cf_Mo rfl yn_Mo_noRow ml_Mo_55 im_Mo_noRow se_Mo_noRow co_Mo_noRow in_Mo (by decide) (by decide) (by decide) [0] [1, 2] rfl rfl rfl rfl rfl (by decide) rfl rfl (Nat.le_of_ble_eq_true rfl) d_Mo_turn_2 [2, 0, 1] rfl (w2 := fun _ => [(mo, .inr (10, [.int (iI 0), .ref ml, .ref mz, .ref ms, .int (iI op), .int (iI mr), .int (iI (bI (ld = true))), .int (iI (bI (pt = true))), .int (iI ((fr : Nat) : Int)), .ref mt, .int (iI ((sn : Nat) : Int)), .ref mb, .ref me, .ref bt, .ref wy, .ref lq, .ref df, .int (iI ((dn : Nat) : Int))])), (ml, .inl (tI, 192, .inl (iA (iN L)))), (mz, .inl (tI, 2, .inl (iA (iN Z))))]) (fun _ => rfl) (fun r2 _ e2 => ?_)
  subst e2
  refine r_if_eq hX 9 d_Mo_turn_5 (by decide) (by unfold iR; omega) (fun h5 => ?_) (fun h5 => by exfalso; omega)
  refine r_iconstN hX 0 d_Mo_turn_9 rfl ?_
  refine r_istore_n hX (lv' := [(2, .int (iI ((0 : Nat) : Int))), (0, .ref mo), (1, .int (iI ((x : Nat) : Int)))]) d_Mo_turn_10 rfl (by decide) rfl ?_
  have L11 : ∀ (dd : Nat) (k : Nat), Z x / 2 - k = dd → (k ≤ Z x / 2) → F 11 [(2, .int (iI ((k : Nat) : Int))), (1, .int (iI ((x : Nat) : Int))), (0, .ref mo)] [] [(mo, .inr (10, [.int (iI 0), .ref ml, .ref mz, .ref ms, .int (iI op), .int (iI mr), .int (iI (bI (ld = true))), .int (iI (bI (pt = true))), .int (iI ((fr : Nat) : Int)), .ref mt, .int (iI ((sn : Nat) : Int)), .ref mb, .ref me, .ref bt, .ref wy, .ref lq, .ref df, .int (iI ((dn : Nat) : Int))])), (ml, .inl (tI, 192, .inl (iA (iN (ra_tn L (96 * x) (Z x) k))))), (mz, .inl (tI, 2, .inl (iA (iN Z))))] 0 0 := by
    intro dd
    induction dd using Nat.strongRecOn with
    | _ dd ih11 =>
      intro k hmu11 hk
      refine r_iload_n hX 0 d_Mo_turn_11 rfl ?_
      refine r_aload_n hX 2 d_Mo_turn_12 rfl ?_
      refine r_get hX cf_Mo 0 rfl 2 (by decide) fl_Mo_13 rfl d_Mo_turn_13 ?_
      refine r_iload_n hX 1 d_Mo_turn_16 rfl ?_
      refine r_ialdN hX 2 0 rfl rfl (x) rfl (by omega) (by decide) d_Mo_turn_17 ?_
      refine r_iconstN hX 2 d_Mo_turn_18 rfl ?_
      refine r_idiv hX (((Z x / 2 : Nat) : Int)) (by decide) (i_div (by omega) (by omega) (by omega)) d_Mo_turn_19 ?_
      refine r_icmp_ge hX 83 d_Mo_turn_20 (by decide) (by unfold iR; omega) (by unfold iR; omega) (fun h20 => ?_) (fun h20 => ?_)
      · refine r_aload_n hX 2 d_Mo_turn_83 rfl ?_
        refine r_iconstN hX 0 d_Mo_turn_84 rfl ?_
        refine r_put hX (ws' := [(mo, .inr (10, [.int (iI 0), .ref ml, .ref mz, .ref ms, .int (iI op), .int (iI mr), .int (iI ((0 : Nat) : Int)), .int (iI (bI (pt = true))), .int (iI ((fr : Nat) : Int)), .ref mt, .int (iI ((sn : Nat) : Int)), .ref mb, .ref me, .ref bt, .ref wy, .ref lq, .ref df, .int (iI ((dn : Nat) : Int))])), (ml, .inl (tI, 192, .inl (iA (iN (ra_tn L (96 * x) (Z x) k))))), (mz, .inl (tI, 2, .inl (iA (iN Z))))]) cf_Mo 0 rfl 6 (by decide) fl_Mo_61 rfl (by decide +kernel) (by decide +kernel) (Nat.le_of_ble_eq_true rfl) rfl d_Mo_turn_85 ?_
        exact r_vret hX hT () trivial (by rw [show k = Z x / 2 by omega]; rfl) (by decide) (by decide) d_Mo_turn_88
      · refine r_bipushN hX 96 d_Mo_turn_23 rfl (by decide) ?_
        refine r_iload_n hX 1 d_Mo_turn_25 rfl ?_
        refine r_imulN hX d_Mo_turn_26 ?_
        refine r_iload_n hX 0 d_Mo_turn_27 rfl ?_
        refine r_iaddN hX d_Mo_turn_28 ?_
        refine r_istore_n hX (lv' := [(3, .int (iI ((96 * x + k : Nat) : Int))), (2, .int (iI ((k : Nat) : Int))), (1, .int (iI ((x : Nat) : Int))), (0, .ref mo)]) d_Mo_turn_29 rfl (by decide) rfl ?_
        refine r_bipushN hX 96 d_Mo_turn_30 rfl (by decide) ?_
        refine r_iload_n hX 2 d_Mo_turn_32 rfl ?_
        refine r_imulN hX d_Mo_turn_33 ?_
        refine r_aload_n hX 3 d_Mo_turn_34 rfl ?_
        refine r_get hX cf_Mo 0 rfl 2 (by decide) fl_Mo_13 rfl d_Mo_turn_35 ?_
        refine r_iload_n hX 2 d_Mo_turn_38 rfl ?_
        refine r_ialdN hX 2 0 rfl rfl (x) rfl (by omega) (by decide) d_Mo_turn_39 ?_
        refine r_iaddN hX d_Mo_turn_40 ?_
        refine r_iconstN hX 1 d_Mo_turn_41 rfl ?_
        refine r_isub hX d_Mo_turn_42 ?_
        refine r_iload_n hX 1 d_Mo_turn_43 rfl ?_
        refine r_isub hX d_Mo_turn_44 ?_
        refine r_istore hX (lv' := [(4, .int (iI ((((96 * x + (Z x) : Nat) : Int) - ((1 : Nat) : Int)) - ((k : Nat) : Int)))), (3, .int (iI ((96 * x + k : Nat) : Int))), (2, .int (iI ((k : Nat) : Int))), (1, .int (iI ((x : Nat) : Int))), (0, .ref mo)]) d_Mo_turn_45 (by decide) rfl ?_
        refine r_aload_n hX 4 d_Mo_turn_47 rfl ?_
        refine r_get hX cf_Mo 0 rfl 1 (by decide) fl_Mo_7 rfl d_Mo_turn_48 ?_
        refine r_iload_n hX 1 d_Mo_turn_51 rfl ?_
        refine r_ialdN hX 1 0 rfl rfl (96 * x + k) rfl (by omega) (by decide) d_Mo_turn_52 ?_
        refine r_istore hX (lv' := [(5, .int (iI (((ra_tn L (96 * x) (Z x) k) (96 * x + k) : Nat) : Int))), (4, .int (iI ((((96 * x + (Z x) : Nat) : Int) - ((1 : Nat) : Int)) - ((k : Nat) : Int)))), (3, .int (iI ((96 * x + k : Nat) : Int))), (2, .int (iI ((k : Nat) : Int))), (1, .int (iI ((x : Nat) : Int))), (0, .ref mo)]) d_Mo_turn_53 (by decide) rfl ?_
        refine r_aload_n hX 5 d_Mo_turn_55 rfl ?_
        refine r_get hX cf_Mo 0 rfl 1 (by decide) fl_Mo_7 rfl d_Mo_turn_56 ?_
        refine r_iload_n hX 2 d_Mo_turn_59 rfl ?_
        refine r_aload_n hX 5 d_Mo_turn_60 rfl ?_
        refine r_get hX cf_Mo 0 rfl 1 (by decide) fl_Mo_7 rfl d_Mo_turn_61 ?_
        refine r_iload hX 1 d_Mo_turn_64 rfl ?_
        refine r_ialdN hX 1 0 rfl rfl (96 * x + (Z x - 1 - k)) (by omega) (by omega) (by decide) d_Mo_turn_66 ?_
        refine r_iastN hX (ws' := [(mo, .inr (10, [.int (iI 0), .ref ml, .ref mz, .ref ms, .int (iI op), .int (iI mr), .int (iI (bI (ld = true))), .int (iI (bI (pt = true))), .int (iI ((fr : Nat) : Int)), .ref mt, .int (iI ((sn : Nat) : Int)), .ref mb, .ref me, .ref bt, .ref wy, .ref lq, .ref df, .int (iI ((dn : Nat) : Int))])), (ml, .inl (tI, 192, .inl (iA (iN (iU (ra_tn L (96 * x) (Z x) k) (96 * x + k) ((ra_tn L (96 * x) (Z x) k) (96 * x + (Z x - 1 - k)))))))), (mz, .inl (tI, 2, .inl (iA (iN Z))))]) 1 0 rfl rfl (96 * x + k) rfl (by omega) (by decide) rfl d_Mo_turn_67 ?_
        refine r_aload_n hX 5 d_Mo_turn_68 rfl ?_
        refine r_get hX cf_Mo 0 rfl 1 (by decide) fl_Mo_7 rfl d_Mo_turn_69 ?_
        refine r_iload hX 1 d_Mo_turn_72 rfl ?_
        refine r_iload hX 0 d_Mo_turn_74 rfl ?_
        refine r_iastN hX (ws' := [(mo, .inr (10, [.int (iI 0), .ref ml, .ref mz, .ref ms, .int (iI op), .int (iI mr), .int (iI (bI (ld = true))), .int (iI (bI (pt = true))), .int (iI ((fr : Nat) : Int)), .ref mt, .int (iI ((sn : Nat) : Int)), .ref mb, .ref me, .ref bt, .ref wy, .ref lq, .ref df, .int (iI ((dn : Nat) : Int))])), (ml, .inl (tI, 192, .inl (iA (iN (iU (iU (ra_tn L (96 * x) (Z x) k) (96 * x + k) ((ra_tn L (96 * x) (Z x) k) (96 * x + (Z x - 1 - k)))) (96 * x + (Z x - 1 - k)) ((ra_tn L (96 * x) (Z x) k) (96 * x + k))))))), (mz, .inl (tI, 2, .inl (iA (iN Z))))]) 1 0 rfl rfl (96 * x + (Z x - 1 - k)) (by omega) (by omega) (by decide) rfl d_Mo_turn_76 ?_
        refine r_iincN hX (lv' := [(2, .int (iI ((k + 1 : Nat) : Int))), (5, .int (iI (((ra_tn L (96 * x) (Z x) k) (96 * x + k) : Nat) : Int))), (4, .int (iI ((((96 * x + (Z x) : Nat) : Int) - ((1 : Nat) : Int)) - ((k : Nat) : Int)))), (3, .int (iI ((96 * x + k : Nat) : Int))), (1, .int (iI ((x : Nat) : Int))), (0, .ref mo)]) 3 d_Mo_turn_77 rfl (by decide) rfl ?_
        refine r_goto hX 11 d_Mo_turn_80 (by decide) ?_
        refine r_lv hX (lv' := [(2, .int (iI ((k + 1 : Nat) : Int))), (1, .int (iI ((x : Nat) : Int))), (0, .ref mo)]) [0, 4, 5] rfl ?_
        refine r_eq (lv2 := [(2, .int (iI ((k + 1 : Nat) : Int))), (1, .int (iI ((x : Nat) : Int))), (0, .ref mo)]) (st2 := []) (ws2 := [(mo, .inr (10, [.int (iI 0), .ref ml, .ref mz, .ref ms, .int (iI op), .int (iI mr), .int (iI (bI (ld = true))), .int (iI (bI (pt = true))), .int (iI ((fr : Nat) : Int)), .ref mt, .int (iI ((sn : Nat) : Int)), .ref mb, .ref me, .ref bt, .ref wy, .ref lq, .ref df, .int (iI ((dn : Nat) : Int))])), (ml, .inl (tI, 192, .inl (iA (iN (ra_tn L (96 * x) (Z x) (k + 1)))))), (mz, .inl (tI, 2, .inl (iA (iN Z))))]) rfl rfl (by rw [show 96 * x + k = 96 * x + k from rfl, ra_tn_step L (by omega)]) ?_
        exact ih11 _ (by omega) (k + 1) rfl (by omega)
  refine r_lv hX (lv' := [(2, .int (iI ((0 : Nat) : Int))), (1, .int (iI ((x : Nat) : Int))), (0, .ref mo)]) [0, 2, 1] rfl ?_
  refine r_eq (lv2 := [(2, .int (iI ((0 : Nat) : Int))), (1, .int (iI ((x : Nat) : Int))), (0, .ref mo)]) (st2 := []) (ws2 := [(mo, .inr (10, [.int (iI 0), .ref ml, .ref mz, .ref ms, .int (iI op), .int (iI mr), .int (iI (bI (ld = true))), .int (iI (bI (pt = true))), .int (iI ((fr : Nat) : Int)), .ref mt, .int (iI ((sn : Nat) : Int)), .ref mb, .ref me, .ref bt, .ref wy, .ref lq, .ref df, .int (iI ((dn : Nat) : Int))])), (ml, .inl (tI, 192, .inl (iA (iN (ra_tn L (96 * x) (Z x) 0))))), (mz, .inl (tI, 2, .inl (iA (iN Z))))]) rfl rfl (by rw [ra_tn_0]) ?_
  exact L11 _ 0 rfl (by omega)

abbrev rm_Mo_letter_n : Room := { frames := 0, cells := 0, slots := 0, locals := 0 }
set_option maxHeartbeats 4000000 in
set_option maxRecDepth 100000 in
theorem c_Mo_letter_n (l : Launch) (D : va_G) (tI tJ tZ : ClassId) (mo : Nat) (ml : Nat) (mz : Nat) (ms : Nat) (mt : Nat) (mb : Nat) (me : Nat) (bt : Nat) (wy : Nat) (lq : Nat) (df : Nat) (cd : Int) (op : Int) (mr : Int) (ld : Bool) (pt : Bool) (fr : Nat) (sn : Nat) (dn : Nat) (Z : Nat → Nat) (x : Int) (y : Int) (hx : iR x) (hy : iR y) (hz : ∀ k, Z k ≤ 96) (hn : x < 0 ∨ 1 < x ∨ y < 0 ∨ ((Z x.toNat : Nat) : Int) ≤ y) : rCi l y_Mo_letter prog_12_method_8_code 3 .int rm_Mo_letter_n D (tysA tI tJ tZ) [.ref mo, .int (iI x), .int (iI y)] [(mo, .inr (10, [.int (iI cd), .ref ml, .ref mz, .ref ms, .int (iI op), .int (iI mr), .int (iI (bI (ld = true))), .int (iI (bI (pt = true))), .int (iI ((fr : Nat) : Int)), .ref mt, .int (iI ((sn : Nat) : Int)), .ref mb, .ref me, .ref bt, .ref wy, .ref lq, .ref df, .int (iI ((dn : Nat) : Int))])), (mz, .inl (tI, 2, .inl (iA (iN Z))))] (fun zz (_ : Unit) => zz = iI (((0 : Nat) : Int))) (fun (_ : Unit) => [(mo, .inr (10, [.int (iI 1), .ref ml, .ref mz, .ref ms, .int (iI op), .int (iI mr), .int (iI (bI (ld = true))), .int (iI (bI (pt = true))), .int (iI ((fr : Nat) : Int)), .ref mt, .int (iI ((sn : Nat) : Int)), .ref mb, .ref me, .ref bt, .ref wy, .ref lq, .ref df, .int (iI ((dn : Nat) : Int))])), (mz, .inl (tI, 2, .inl (iA (iN Z))))]) := by
  intro sz
  refine r_met (by decide) (Nat.le_of_ble_eq_true rfl) ?_
  intro F p e s m args below meth c Q A hX hT hAe hsz hin
  subst hAe
  replace hX : rOK F p l e rm_Mo_letter_n s m args below meth c Q prog_12_method_8_code 3 "RowAlignerModel" D (tysA tI tJ tZ) _ := hX
  unfold iR at hx hy
  have hz9 := hz x.toNat
  show F 0 [(0, .ref mo), (1, .int (iI x)), (2, .int (iI y))] [] [(mo, .inr (10, [.int (iI cd), .ref ml, .ref mz, .ref ms, .int (iI op), .int (iI mr), .int (iI (bI (ld = true))), .int (iI (bI (pt = true))), .int (iI ((fr : Nat) : Int)), .ref mt, .int (iI ((sn : Nat) : Int)), .ref mb, .ref me, .ref bt, .ref wy, .ref lq, .ref df, .int (iI ((dn : Nat) : Int))])), (mz, .inl (tI, 2, .inl (iA (iN Z))))] 0 0
  refine r_aload_n hX 0 d_Mo_letter_0 rfl ?_
  refine r_iload_n hX 1 d_Mo_letter_1 rfl ?_
  have J29 : F 29 [(0, .ref mo), (1, .int (iI x)), (2, .int (iI y))] [.int (iI 1), .ref mo] [(mo, .inr (10, [.int (iI cd), .ref ml, .ref mz, .ref ms, .int (iI op), .int (iI mr), .int (iI (bI (ld = true))), .int (iI (bI (pt = true))), .int (iI ((fr : Nat) : Int)), .ref mt, .int (iI ((sn : Nat) : Int)), .ref mb, .ref me, .ref bt, .ref wy, .ref lq, .ref df, .int (iI ((dn : Nat) : Int))])), (mz, .inl (tI, 2, .inl (iA (iN Z))))] 0 0 := by
    refine r_put hX (ws' := [(mo, .inr (10, [.int (iI 1), .ref ml, .ref mz, .ref ms, .int (iI op), .int (iI mr), .int (iI (bI (ld = true))), .int (iI (bI (pt = true))), .int (iI ((fr : Nat) : Int)), .ref mt, .int (iI ((sn : Nat) : Int)), .ref mb, .ref me, .ref bt, .ref wy, .ref lq, .ref df, .int (iI ((dn : Nat) : Int))])), (mz, .inl (tI, 2, .inl (iA (iN Z))))]) cf_Mo 0 rfl 0 (by decide) fl_Mo_52 rfl rfl rfl (Nat.le_of_ble_eq_true rfl) rfl d_Mo_letter_29 ?_
    refine r_aload_n hX 0 d_Mo_letter_32 rfl ?_
    refine r_get hX cf_Mo 0 rfl 0 (by decide) fl_Mo_52 rfl d_Mo_letter_33 ?_
    refine r_if_le hX 43 d_Mo_letter_36 (by decide) (by unfold iR; omega) (fun h36 => by exfalso; omega) (fun h36 => ?_)
    refine r_iconstN hX 0 d_Mo_letter_39 rfl ?_
    refine r_goto hX 54 d_Mo_letter_40 (by decide) ?_
    exact r_iret hX hT () rfl rfl (by decide) (by decide) d_Mo_letter_54
  refine r_if_lt hX 24 d_Mo_letter_2 (by decide) (by unfold iR; omega) (fun h2 => ?_) (fun h2 => ?_)
  · refine r_iconstN hX 1 d_Mo_letter_24 rfl ?_
    refine r_goto hX 29 d_Mo_letter_25 (by decide) ?_
    exact rj_e (by rfl) J29
  · refine r_iload_n hX 1 d_Mo_letter_5 rfl ?_
    refine r_iconstN hX 1 d_Mo_letter_6 rfl ?_
    refine r_icmp_gt hX 24 d_Mo_letter_7 (by decide) (by unfold iR; omega) (by unfold iR; omega) (fun h7 => ?_) (fun h7 => ?_)
    · refine r_iconstN hX 1 d_Mo_letter_24 rfl ?_
      refine r_goto hX 29 d_Mo_letter_25 (by decide) ?_
      exact rj_e (by rfl) J29
    · refine r_iload_n hX 2 d_Mo_letter_10 rfl ?_
      refine r_if_lt hX 24 d_Mo_letter_11 (by decide) (by unfold iR; omega) (fun h11 => ?_) (fun h11 => ?_)
      · refine r_iconstN hX 1 d_Mo_letter_24 rfl ?_
        refine r_goto hX 29 d_Mo_letter_25 (by decide) ?_
        exact rj_e (by rfl) J29
      · refine r_iload_n hX 2 d_Mo_letter_14 rfl ?_
        refine r_aload_n hX 0 d_Mo_letter_15 rfl ?_
        refine r_get hX cf_Mo 0 rfl 2 (by decide) fl_Mo_13 rfl d_Mo_letter_16 ?_
        refine r_iload_n hX 1 d_Mo_letter_19 rfl ?_
        refine r_ialdN hX 1 0 rfl rfl (x.toNat) (by omega) (by omega) (by decide) d_Mo_letter_20 ?_
        refine r_icmp_lt hX 28 d_Mo_letter_21 (by decide) (by unfold iR; omega) (by unfold iR; omega) (fun h21 => by exfalso; omega) (fun h21 => ?_)
        refine r_iconstN hX 1 d_Mo_letter_24 rfl ?_
        refine r_goto hX 29 d_Mo_letter_25 (by decide) ?_
        exact rj_e (by rfl) J29

abbrev rm_Mo_letter : Room := { frames := 0, cells := 0, slots := 0, locals := 0 }
set_option maxHeartbeats 4000000 in
set_option maxRecDepth 100000 in
theorem c_Mo_letter (l : Launch) (D : va_G) (tI tJ tZ : ClassId) (mo : Nat) (ml : Nat) (mz : Nat) (ms : Nat) (mt : Nat) (mb : Nat) (me : Nat) (bt : Nat) (wy : Nat) (lq : Nat) (df : Nat) (cd : Int) (op : Int) (mr : Int) (ld : Bool) (pt : Bool) (fr : Nat) (sn : Nat) (dn : Nat) (L : Nat → Nat) (Z : Nat → Nat) (x : Nat) (y : Nat) (hr : x ≤ 1) (hz : Z x ≤ 96) (hn : y < Z x) : rCi l y_Mo_letter prog_12_method_8_code 3 .int rm_Mo_letter D (tysA tI tJ tZ) [.ref mo, .int (iI ((x : Nat) : Int)), .int (iI ((y : Nat) : Int))] [(mo, .inr (10, [.int (iI cd), .ref ml, .ref mz, .ref ms, .int (iI op), .int (iI mr), .int (iI (bI (ld = true))), .int (iI (bI (pt = true))), .int (iI ((fr : Nat) : Int)), .ref mt, .int (iI ((sn : Nat) : Int)), .ref mb, .ref me, .ref bt, .ref wy, .ref lq, .ref df, .int (iI ((dn : Nat) : Int))])), (ml, .inl (tI, 192, .inl (iA (iN L)))), (mz, .inl (tI, 2, .inl (iA (iN Z))))] (fun zz (_ : Unit) => zz = iI (((L (96 * x + y) : Nat) : Int))) (fun (_ : Unit) => [(mo, .inr (10, [.int (iI 0), .ref ml, .ref mz, .ref ms, .int (iI op), .int (iI mr), .int (iI (bI (ld = true))), .int (iI (bI (pt = true))), .int (iI ((fr : Nat) : Int)), .ref mt, .int (iI ((sn : Nat) : Int)), .ref mb, .ref me, .ref bt, .ref wy, .ref lq, .ref df, .int (iI ((dn : Nat) : Int))])), (ml, .inl (tI, 192, .inl (iA (iN L)))), (mz, .inl (tI, 2, .inl (iA (iN Z))))]) := by
  intro sz
  refine r_met (by decide) (Nat.le_of_ble_eq_true rfl) ?_
  intro F p e s m args below meth c Q A hX hT hAe hsz hin
  subst hAe
  replace hX : rOK F p l e rm_Mo_letter s m args below meth c Q prog_12_method_8_code 3 "RowAlignerModel" D (tysA tI tJ tZ) _ := hX
  show F 0 [(0, .ref mo), (1, .int (iI ((x : Nat) : Int))), (2, .int (iI ((y : Nat) : Int)))] [] [(mo, .inr (10, [.int (iI cd), .ref ml, .ref mz, .ref ms, .int (iI op), .int (iI mr), .int (iI (bI (ld = true))), .int (iI (bI (pt = true))), .int (iI ((fr : Nat) : Int)), .ref mt, .int (iI ((sn : Nat) : Int)), .ref mb, .ref me, .ref bt, .ref wy, .ref lq, .ref df, .int (iI ((dn : Nat) : Int))])), (ml, .inl (tI, 192, .inl (iA (iN L)))), (mz, .inl (tI, 2, .inl (iA (iN Z))))] 0 0
  refine r_aload_n hX 0 d_Mo_letter_0 rfl ?_
  refine r_iload_n hX 1 d_Mo_letter_1 rfl ?_
  refine r_if_lt hX 24 d_Mo_letter_2 (by decide) (by unfold iR; omega) (fun h2 => by exfalso; omega) (fun h2 => ?_)
  refine r_iload_n hX 1 d_Mo_letter_5 rfl ?_
  refine r_iconstN hX 1 d_Mo_letter_6 rfl ?_
  refine r_icmp_gt hX 24 d_Mo_letter_7 (by decide) (by unfold iR; omega) (by unfold iR; omega) (fun h7 => by exfalso; omega) (fun h7 => ?_)
  refine r_iload_n hX 2 d_Mo_letter_10 rfl ?_
  refine r_if_lt hX 24 d_Mo_letter_11 (by decide) (by unfold iR; omega) (fun h11 => by exfalso; omega) (fun h11 => ?_)
  refine r_iload_n hX 2 d_Mo_letter_14 rfl ?_
  refine r_aload_n hX 0 d_Mo_letter_15 rfl ?_
  refine r_get hX cf_Mo 0 rfl 2 (by decide) fl_Mo_13 rfl d_Mo_letter_16 ?_
  refine r_iload_n hX 1 d_Mo_letter_19 rfl ?_
  refine r_ialdN hX 2 0 rfl rfl (x) rfl (by omega) (by decide) d_Mo_letter_20 ?_
  refine r_icmp_lt hX 28 d_Mo_letter_21 (by decide) (by unfold iR; omega) (by unfold iR; omega) (fun h21 => ?_) (fun h21 => by exfalso; omega)
  refine r_iconstN hX 0 d_Mo_letter_28 rfl ?_
  refine r_put hX (ws' := [(mo, .inr (10, [.int (iI ((0 : Nat) : Int)), .ref ml, .ref mz, .ref ms, .int (iI op), .int (iI mr), .int (iI (bI (ld = true))), .int (iI (bI (pt = true))), .int (iI ((fr : Nat) : Int)), .ref mt, .int (iI ((sn : Nat) : Int)), .ref mb, .ref me, .ref bt, .ref wy, .ref lq, .ref df, .int (iI ((dn : Nat) : Int))])), (ml, .inl (tI, 192, .inl (iA (iN L)))), (mz, .inl (tI, 2, .inl (iA (iN Z))))]) cf_Mo 0 rfl 0 (by decide) fl_Mo_52 rfl rfl rfl (Nat.le_of_ble_eq_true rfl) rfl d_Mo_letter_29 ?_
  refine r_aload_n hX 0 d_Mo_letter_32 rfl ?_
  refine r_get hX cf_Mo 0 rfl 0 (by decide) fl_Mo_52 rfl d_Mo_letter_33 ?_
  refine r_if_le hX 43 d_Mo_letter_36 (by decide) (by unfold iR; omega) (fun h36 => ?_) (fun h36 => by exfalso; omega)
  refine r_aload_n hX 0 d_Mo_letter_43 rfl ?_
  refine r_get hX cf_Mo 0 rfl 1 (by decide) fl_Mo_7 rfl d_Mo_letter_44 ?_
  refine r_bipushN hX 96 d_Mo_letter_47 rfl (by decide) ?_
  refine r_iload_n hX 1 d_Mo_letter_49 rfl ?_
  refine r_imulN hX d_Mo_letter_50 ?_
  refine r_iload_n hX 2 d_Mo_letter_51 rfl ?_
  refine r_iaddN hX d_Mo_letter_52 ?_
  refine r_ialdN hX 1 0 rfl rfl (96 * x + y) rfl (by omega) (by decide) d_Mo_letter_53 ?_
  exact r_iret hX hT () rfl rfl (by decide) (by decide) d_Mo_letter_54

abbrev rm_Mo_size_r : Room := { frames := 1, cells := 0, slots := 0, locals := 21 }
set_option maxHeartbeats 4000000 in
set_option maxRecDepth 100000 in
theorem c_Mo_size_r (l : Launch) (D : va_G) (tI tJ tZ : ClassId) (mo : Nat) (ml : Nat) (mz : Nat) (ms : Nat) (mt : Nat) (mb : Nat) (me : Nat) (bt : Nat) (wy : Nat) (lq : Nat) (df : Nat) (cd : Int) (op : Int) (mr : Int) (ld : Bool) (pt : Bool) (fr : Nat) (sn : Nat) (dn : Nat) (x : Int) (hx : iR x) (hr : x < 0 ∨ 1 < x) : rCi l y_Mo_size prog_12_method_9_code 2 .int rm_Mo_size_r D (tysA tI tJ tZ) [.ref mo, .int (iI x)] [(mo, .inr (10, [.int (iI cd), .ref ml, .ref mz, .ref ms, .int (iI op), .int (iI mr), .int (iI (bI (ld = true))), .int (iI (bI (pt = true))), .int (iI ((fr : Nat) : Int)), .ref mt, .int (iI ((sn : Nat) : Int)), .ref mb, .ref me, .ref bt, .ref wy, .ref lq, .ref df, .int (iI ((dn : Nat) : Int))]))] (fun zz (_ : Unit) => zz = iI (((0 : Nat) : Int))) (fun (_ : Unit) => [(mo, .inr (10, [.int (iI 1), .ref ml, .ref mz, .ref ms, .int (iI op), .int (iI mr), .int (iI (bI (ld = true))), .int (iI (bI (pt = true))), .int (iI ((fr : Nat) : Int)), .ref mt, .int (iI ((sn : Nat) : Int)), .ref mb, .ref me, .ref bt, .ref wy, .ref lq, .ref df, .int (iI ((dn : Nat) : Int))]))]) := by
  intro sz
  refine r_met (by decide) (Nat.le_of_ble_eq_true rfl) ?_
  intro F p e s m args below meth c Q A hX hT hAe hsz hin
  subst hAe
  replace hX : rOK F p l e rm_Mo_size_r s m args below meth c Q prog_12_method_9_code 2 "RowAlignerModel" D (tysA tI tJ tZ) _ := hX
  show F 0 [(0, .ref mo), (1, .int (iI x))] [] [(mo, .inr (10, [.int (iI cd), .ref ml, .ref mz, .ref ms, .int (iI op), .int (iI mr), .int (iI (bI (ld = true))), .int (iI (bI (pt = true))), .int (iI ((fr : Nat) : Int)), .ref mt, .int (iI ((sn : Nat) : Int)), .ref mb, .ref me, .ref bt, .ref wy, .ref lq, .ref df, .int (iI ((dn : Nat) : Int))]))] 0 0
  refine r_aload_n hX 0 d_Mo_size_0 rfl ?_
  refine r_iload_n hX 1 d_Mo_size_1 rfl ?_
  refine r_invV_i0 (st := []) (As := [.int (iI x)]) (wr := []) hX (c_Mo_noRow_t l D tI tJ tZ mo ml mz ms mt mb me bt wy lq df cd op mr ld pt fr sn dn x hx hr) "RowAlignerModel" 0 10 cf_Mo rfl yn_Mo_noRow ml_Mo_55 im_Mo_noRow se_Mo_noRow co_Mo_noRow in_Mo (by decide) (by decide) (by decide) [0] [] rfl rfl rfl rfl rfl (by decide) rfl rfl (Nat.le_of_ble_eq_true rfl) d_Mo_size_2 [0] rfl (w2 := fun _ => [(mo, .inr (10, [.int (iI 1), .ref ml, .ref mz, .ref ms, .int (iI op), .int (iI mr), .int (iI (bI (ld = true))), .int (iI (bI (pt = true))), .int (iI ((fr : Nat) : Int)), .ref mt, .int (iI ((sn : Nat) : Int)), .ref mb, .ref me, .ref bt, .ref wy, .ref lq, .ref df, .int (iI ((dn : Nat) : Int))]))]) (fun _ => rfl) (fun r2 _ e2 => ?_)
  subst e2
  refine r_if_eq hX 12 d_Mo_size_5 (by decide) (by unfold iR; omega) (fun h5 => by exfalso; omega) (fun h5 => ?_)
  refine r_iconstN hX 0 d_Mo_size_8 rfl ?_
  refine r_goto hX 18 d_Mo_size_9 (by decide) ?_
  exact r_iret hX hT () rfl rfl (by decide) (by decide) d_Mo_size_18

abbrev rm_Mo_size : Room := { frames := 1, cells := 0, slots := 0, locals := 21 }
set_option maxHeartbeats 4000000 in
set_option maxRecDepth 100000 in
theorem c_Mo_size (l : Launch) (D : va_G) (tI tJ tZ : ClassId) (mo : Nat) (ml : Nat) (mz : Nat) (ms : Nat) (mt : Nat) (mb : Nat) (me : Nat) (bt : Nat) (wy : Nat) (lq : Nat) (df : Nat) (cd : Int) (op : Int) (mr : Int) (ld : Bool) (pt : Bool) (fr : Nat) (sn : Nat) (dn : Nat) (Z : Nat → Nat) (x : Nat) (hr : x ≤ 1) : rCi l y_Mo_size prog_12_method_9_code 2 .int rm_Mo_size D (tysA tI tJ tZ) [.ref mo, .int (iI ((x : Nat) : Int))] [(mo, .inr (10, [.int (iI cd), .ref ml, .ref mz, .ref ms, .int (iI op), .int (iI mr), .int (iI (bI (ld = true))), .int (iI (bI (pt = true))), .int (iI ((fr : Nat) : Int)), .ref mt, .int (iI ((sn : Nat) : Int)), .ref mb, .ref me, .ref bt, .ref wy, .ref lq, .ref df, .int (iI ((dn : Nat) : Int))])), (mz, .inl (tI, 2, .inl (iA (iN Z))))] (fun zz (_ : Unit) => zz = iI (((Z x : Nat) : Int))) (fun (_ : Unit) => [(mo, .inr (10, [.int (iI 0), .ref ml, .ref mz, .ref ms, .int (iI op), .int (iI mr), .int (iI (bI (ld = true))), .int (iI (bI (pt = true))), .int (iI ((fr : Nat) : Int)), .ref mt, .int (iI ((sn : Nat) : Int)), .ref mb, .ref me, .ref bt, .ref wy, .ref lq, .ref df, .int (iI ((dn : Nat) : Int))])), (mz, .inl (tI, 2, .inl (iA (iN Z))))]) := by
  intro sz
  refine r_met (by decide) (Nat.le_of_ble_eq_true rfl) ?_
  intro F p e s m args below meth c Q A hX hT hAe hsz hin
  subst hAe
  replace hX : rOK F p l e rm_Mo_size s m args below meth c Q prog_12_method_9_code 2 "RowAlignerModel" D (tysA tI tJ tZ) _ := hX
  show F 0 [(0, .ref mo), (1, .int (iI ((x : Nat) : Int)))] [] [(mo, .inr (10, [.int (iI cd), .ref ml, .ref mz, .ref ms, .int (iI op), .int (iI mr), .int (iI (bI (ld = true))), .int (iI (bI (pt = true))), .int (iI ((fr : Nat) : Int)), .ref mt, .int (iI ((sn : Nat) : Int)), .ref mb, .ref me, .ref bt, .ref wy, .ref lq, .ref df, .int (iI ((dn : Nat) : Int))])), (mz, .inl (tI, 2, .inl (iA (iN Z))))] 0 0
  refine r_aload_n hX 0 d_Mo_size_0 rfl ?_
  refine r_iload_n hX 1 d_Mo_size_1 rfl ?_
  refine r_invV_i0 (st := []) (As := [.int (iI ((x : Nat) : Int))]) (wr := [(mz, .inl (tI, 2, .inl (iA (iN Z))))]) hX (c_Mo_noRow_f l D tI tJ tZ mo ml mz ms mt mb me bt wy lq df cd op mr ld pt fr sn dn x hr) "RowAlignerModel" 0 10 cf_Mo rfl yn_Mo_noRow ml_Mo_55 im_Mo_noRow se_Mo_noRow co_Mo_noRow in_Mo (by decide) (by decide) (by decide) [0] [1] rfl rfl rfl rfl rfl (by decide) rfl rfl (Nat.le_of_ble_eq_true rfl) d_Mo_size_2 [1, 0] rfl (w2 := fun _ => [(mo, .inr (10, [.int (iI 0), .ref ml, .ref mz, .ref ms, .int (iI op), .int (iI mr), .int (iI (bI (ld = true))), .int (iI (bI (pt = true))), .int (iI ((fr : Nat) : Int)), .ref mt, .int (iI ((sn : Nat) : Int)), .ref mb, .ref me, .ref bt, .ref wy, .ref lq, .ref df, .int (iI ((dn : Nat) : Int))])), (mz, .inl (tI, 2, .inl (iA (iN Z))))]) (fun _ => rfl) (fun r2 _ e2 => ?_)
  subst e2
  refine r_if_eq hX 12 d_Mo_size_5 (by decide) (by unfold iR; omega) (fun h5 => ?_) (fun h5 => by exfalso; omega)
  refine r_aload_n hX 0 d_Mo_size_12 rfl ?_
  refine r_get hX cf_Mo 0 rfl 2 (by decide) fl_Mo_13 rfl d_Mo_size_13 ?_
  refine r_iload_n hX 1 d_Mo_size_16 rfl ?_
  refine r_ialdN hX 1 0 rfl rfl (x) rfl (by omega) (by decide) d_Mo_size_17 ?_
  exact r_iret hX hT () rfl rfl (by decide) (by decide) d_Mo_size_18

abbrev rm_Mo_score_r : Room := { frames := 1, cells := 0, slots := 0, locals := 22 }
set_option maxHeartbeats 4000000 in
set_option maxRecDepth 100000 in
theorem c_Mo_score_r (l : Launch) (D : va_G) (tI tJ tZ : ClassId) (mo : Nat) (ml : Nat) (mz : Nat) (ms : Nat) (mt : Nat) (mb : Nat) (me : Nat) (bt : Nat) (wy : Nat) (lq : Nat) (df : Nat) (cd : Int) (op : Int) (mr : Int) (ld : Bool) (pt : Bool) (fr : Nat) (sn : Nat) (dn : Nat) (x : Int) (y : Int) (v : Int) (hx : iR x) (hy : iR y) (hn : x < 0 ∨ 25 < x ∨ y < 0 ∨ 25 < y) : rCv l y_Mo_score prog_12_method_11_code 4 rm_Mo_score_r D (tysA tI tJ tZ) [.ref mo, .int (iI x), .int (iI y), .int (iI v)] [(mo, .inr (10, [.int (iI cd), .ref ml, .ref mz, .ref ms, .int (iI op), .int (iI mr), .int (iI (bI (ld = true))), .int (iI (bI (pt = true))), .int (iI ((fr : Nat) : Int)), .ref mt, .int (iI ((sn : Nat) : Int)), .ref mb, .ref me, .ref bt, .ref wy, .ref lq, .ref df, .int (iI ((dn : Nat) : Int))]))] (fun (_ : Unit) => True) (fun (_ : Unit) => [(mo, .inr (10, [.int (iI 1), .ref ml, .ref mz, .ref ms, .int (iI op), .int (iI mr), .int (iI (bI (ld = true))), .int (iI (bI (pt = true))), .int (iI ((fr : Nat) : Int)), .ref mt, .int (iI ((sn : Nat) : Int)), .ref mb, .ref me, .ref bt, .ref wy, .ref lq, .ref df, .int (iI ((dn : Nat) : Int))]))]) := by
  intro sz
  refine r_met (by decide) (Nat.le_of_ble_eq_true rfl) ?_
  intro F p e s m args below meth c Q A hX hT hAe hsz hin
  subst hAe
  replace hX : rOK F p l e rm_Mo_score_r s m args below meth c Q prog_12_method_11_code 4 "RowAlignerModel" D (tysA tI tJ tZ) _ := hX
  unfold iR at hx hy
  show F 0 [(0, .ref mo), (1, .int (iI x)), (2, .int (iI y)), (3, .int (iI v))] [] [(mo, .inr (10, [.int (iI cd), .ref ml, .ref mz, .ref ms, .int (iI op), .int (iI mr), .int (iI (bI (ld = true))), .int (iI (bI (pt = true))), .int (iI ((fr : Nat) : Int)), .ref mt, .int (iI ((sn : Nat) : Int)), .ref mb, .ref me, .ref bt, .ref wy, .ref lq, .ref df, .int (iI ((dn : Nat) : Int))]))] 0 0
  refine r_aload_n hX 0 d_Mo_score_0 rfl ?_
  refine r_iload_n hX 1 d_Mo_score_1 rfl ?_
  refine r_iconstN hX 0 d_Mo_score_2 rfl ?_
  refine r_bipushN hX 25 d_Mo_score_3 rfl (by decide) ?_
  refine r_invS_i0 (st := [.ref mo]) (As := [.int (iI x), .int (iI ((0 : Nat) : Int)), .int (iI ((25 : Nat) : Int))]) (wr := [(mo, .inr (10, [.int (iI cd), .ref ml, .ref mz, .ref ms, .int (iI op), .int (iI mr), .int (iI (bI (ld = true))), .int (iI (bI (pt = true))), .int (iI ((fr : Nat) : Int)), .ref mt, .int (iI ((sn : Nat) : Int)), .ref mb, .ref me, .ref bt, .ref wy, .ref lq, .ref df, .int (iI ((dn : Nat) : Int))]))]) hX (c_Mo_isIn l D tI tJ tZ x (((0 : Nat) : Int)) (((25 : Nat) : Int)) (by unfold iR; omega) (by unfold iR; omega) (by unfold iR; omega)) yn_Mo_isIn ml_Mo_65 st_Mo_isIn co_Mo_isIn in_Mo (by decide) (by decide) (by decide) [] [0] rfl rfl rfl rfl rfl (by decide) rfl rfl (Nat.le_of_ble_eq_true rfl) d_Mo_score_5 [0] rfl (w2 := fun _ => [(mo, .inr (10, [.int (iI cd), .ref ml, .ref mz, .ref ms, .int (iI op), .int (iI mr), .int (iI (bI (ld = true))), .int (iI (bI (pt = true))), .int (iI ((fr : Nat) : Int)), .ref mt, .int (iI ((sn : Nat) : Int)), .ref mb, .ref me, .ref bt, .ref wy, .ref lq, .ref df, .int (iI ((dn : Nat) : Int))]))]) (fun _ => rfl) (fun r5 _ e5 => ?_)
  subst e5
  have J43 : F 43 [(0, .ref mo), (1, .int (iI x)), (2, .int (iI y)), (3, .int (iI v))] [.int (iI 1), .ref mo] [(mo, .inr (10, [.int (iI cd), .ref ml, .ref mz, .ref ms, .int (iI op), .int (iI mr), .int (iI (bI (ld = true))), .int (iI (bI (pt = true))), .int (iI ((fr : Nat) : Int)), .ref mt, .int (iI ((sn : Nat) : Int)), .ref mb, .ref me, .ref bt, .ref wy, .ref lq, .ref df, .int (iI ((dn : Nat) : Int))]))] 0 0 := by
    refine r_put hX (ws' := [(mo, .inr (10, [.int (iI 1), .ref ml, .ref mz, .ref ms, .int (iI op), .int (iI mr), .int (iI (bI (ld = true))), .int (iI (bI (pt = true))), .int (iI ((fr : Nat) : Int)), .ref mt, .int (iI ((sn : Nat) : Int)), .ref mb, .ref me, .ref bt, .ref wy, .ref lq, .ref df, .int (iI ((dn : Nat) : Int))]))]) cf_Mo 0 rfl 0 (by decide) fl_Mo_52 rfl rfl rfl (Nat.le_of_ble_eq_true rfl) rfl d_Mo_score_43 ?_
    refine r_aload_n hX 0 d_Mo_score_46 rfl ?_
    refine r_get hX cf_Mo 0 rfl 0 (by decide) fl_Mo_52 rfl d_Mo_score_47 ?_
    refine r_if_ne hX 70 d_Mo_score_50 (by decide) (by unfold iR; omega) (fun h50 => ?_) (fun h50 => by exfalso; omega)
    exact r_vret hX hT () trivial rfl (by decide) (by decide) d_Mo_score_70
  refine rb_if_eq hX 21 d_Mo_score_8 (by decide) (fun h8 => ?_) (fun h8 => ?_)
  · refine r_iconstN hX 1 d_Mo_score_21 rfl ?_
    refine r_goto hX 43 d_Mo_score_22 (by decide) ?_
    exact rj_e (by rfl) J43
  · refine r_iload_n hX 2 d_Mo_score_11 rfl ?_
    refine r_iconstN hX 0 d_Mo_score_12 rfl ?_
    refine r_bipushN hX 25 d_Mo_score_13 rfl (by decide) ?_
    refine r_invS_i0 (st := [.ref mo]) (As := [.int (iI y), .int (iI ((0 : Nat) : Int)), .int (iI ((25 : Nat) : Int))]) (wr := [(mo, .inr (10, [.int (iI cd), .ref ml, .ref mz, .ref ms, .int (iI op), .int (iI mr), .int (iI (bI (ld = true))), .int (iI (bI (pt = true))), .int (iI ((fr : Nat) : Int)), .ref mt, .int (iI ((sn : Nat) : Int)), .ref mb, .ref me, .ref bt, .ref wy, .ref lq, .ref df, .int (iI ((dn : Nat) : Int))]))]) hX (c_Mo_isIn l D tI tJ tZ y (((0 : Nat) : Int)) (((25 : Nat) : Int)) (by unfold iR; omega) (by unfold iR; omega) (by unfold iR; omega)) yn_Mo_isIn ml_Mo_65 st_Mo_isIn co_Mo_isIn in_Mo (by decide) (by decide) (by decide) [] [0] rfl rfl rfl rfl rfl (by decide) rfl rfl (Nat.le_of_ble_eq_true rfl) d_Mo_score_15 [0] rfl (w2 := fun _ => [(mo, .inr (10, [.int (iI cd), .ref ml, .ref mz, .ref ms, .int (iI op), .int (iI mr), .int (iI (bI (ld = true))), .int (iI (bI (pt = true))), .int (iI ((fr : Nat) : Int)), .ref mt, .int (iI ((sn : Nat) : Int)), .ref mb, .ref me, .ref bt, .ref wy, .ref lq, .ref df, .int (iI ((dn : Nat) : Int))]))]) (fun _ => rfl) (fun r15 _ e15 => ?_)
    subst e15
    refine rb_if_ne hX 25 d_Mo_score_18 (by decide) (fun h18 => by exfalso; omega) (fun h18 => ?_)
    refine r_iconstN hX 1 d_Mo_score_21 rfl ?_
    refine r_goto hX 43 d_Mo_score_22 (by decide) ?_
    exact rj_e (by rfl) J43

abbrev rm_Mo_score_n : Room := { frames := 1, cells := 0, slots := 0, locals := 22 }
set_option maxHeartbeats 4000000 in
set_option maxRecDepth 100000 in
theorem c_Mo_score_n (l : Launch) (D : va_G) (tI tJ tZ : ClassId) (mo : Nat) (ml : Nat) (mz : Nat) (ms : Nat) (mt : Nat) (mb : Nat) (me : Nat) (bt : Nat) (wy : Nat) (lq : Nat) (df : Nat) (cd : Int) (op : Int) (mr : Int) (ld : Bool) (pt : Bool) (fr : Nat) (sn : Nat) (dn : Nat) (x : Nat) (y : Nat) (v : Int) (hx : x < 26) (hy : y < 26) (hv : iR v) (hn : v < -512 ∨ 512 < v) : rCv l y_Mo_score prog_12_method_11_code 4 rm_Mo_score_n D (tysA tI tJ tZ) [.ref mo, .int (iI ((x : Nat) : Int)), .int (iI ((y : Nat) : Int)), .int (iI v)] [(mo, .inr (10, [.int (iI cd), .ref ml, .ref mz, .ref ms, .int (iI op), .int (iI mr), .int (iI (bI (ld = true))), .int (iI (bI (pt = true))), .int (iI ((fr : Nat) : Int)), .ref mt, .int (iI ((sn : Nat) : Int)), .ref mb, .ref me, .ref bt, .ref wy, .ref lq, .ref df, .int (iI ((dn : Nat) : Int))]))] (fun (_ : Unit) => True) (fun (_ : Unit) => [(mo, .inr (10, [.int (iI 2), .ref ml, .ref mz, .ref ms, .int (iI op), .int (iI mr), .int (iI (bI (ld = true))), .int (iI (bI (pt = true))), .int (iI ((fr : Nat) : Int)), .ref mt, .int (iI ((sn : Nat) : Int)), .ref mb, .ref me, .ref bt, .ref wy, .ref lq, .ref df, .int (iI ((dn : Nat) : Int))]))]) := by
  intro sz
  refine r_met (by decide) (Nat.le_of_ble_eq_true rfl) ?_
  intro F p e s m args below meth c Q A hX hT hAe hsz hin
  subst hAe
  replace hX : rOK F p l e rm_Mo_score_n s m args below meth c Q prog_12_method_11_code 4 "RowAlignerModel" D (tysA tI tJ tZ) _ := hX
  unfold iR at hv
  show F 0 [(0, .ref mo), (1, .int (iI ((x : Nat) : Int))), (2, .int (iI ((y : Nat) : Int))), (3, .int (iI v))] [] [(mo, .inr (10, [.int (iI cd), .ref ml, .ref mz, .ref ms, .int (iI op), .int (iI mr), .int (iI (bI (ld = true))), .int (iI (bI (pt = true))), .int (iI ((fr : Nat) : Int)), .ref mt, .int (iI ((sn : Nat) : Int)), .ref mb, .ref me, .ref bt, .ref wy, .ref lq, .ref df, .int (iI ((dn : Nat) : Int))]))] 0 0
  refine r_aload_n hX 0 d_Mo_score_0 rfl ?_
  refine r_iload_n hX 1 d_Mo_score_1 rfl ?_
  refine r_iconstN hX 0 d_Mo_score_2 rfl ?_
  refine r_bipushN hX 25 d_Mo_score_3 rfl (by decide) ?_
  refine r_invS_i0 (st := [.ref mo]) (As := [.int (iI ((x : Nat) : Int)), .int (iI ((0 : Nat) : Int)), .int (iI ((25 : Nat) : Int))]) (wr := [(mo, .inr (10, [.int (iI cd), .ref ml, .ref mz, .ref ms, .int (iI op), .int (iI mr), .int (iI (bI (ld = true))), .int (iI (bI (pt = true))), .int (iI ((fr : Nat) : Int)), .ref mt, .int (iI ((sn : Nat) : Int)), .ref mb, .ref me, .ref bt, .ref wy, .ref lq, .ref df, .int (iI ((dn : Nat) : Int))]))]) hX (c_Mo_isIn l D tI tJ tZ (((x : Nat) : Int)) (((0 : Nat) : Int)) (((25 : Nat) : Int)) (by unfold iR; omega) (by unfold iR; omega) (by unfold iR; omega)) yn_Mo_isIn ml_Mo_65 st_Mo_isIn co_Mo_isIn in_Mo (by decide) (by decide) (by decide) [] [0] rfl rfl rfl rfl rfl (by decide) rfl rfl (Nat.le_of_ble_eq_true rfl) d_Mo_score_5 [0] rfl (w2 := fun _ => [(mo, .inr (10, [.int (iI cd), .ref ml, .ref mz, .ref ms, .int (iI op), .int (iI mr), .int (iI (bI (ld = true))), .int (iI (bI (pt = true))), .int (iI ((fr : Nat) : Int)), .ref mt, .int (iI ((sn : Nat) : Int)), .ref mb, .ref me, .ref bt, .ref wy, .ref lq, .ref df, .int (iI ((dn : Nat) : Int))]))]) (fun _ => rfl) (fun r5 _ e5 => ?_)
  subst e5
  refine rb_if_eq hX 21 d_Mo_score_8 (by decide) (fun h8 => by exfalso; omega) (fun h8 => ?_)
  refine r_iload_n hX 2 d_Mo_score_11 rfl ?_
  refine r_iconstN hX 0 d_Mo_score_12 rfl ?_
  refine r_bipushN hX 25 d_Mo_score_13 rfl (by decide) ?_
  refine r_invS_i0 (st := [.ref mo]) (As := [.int (iI ((y : Nat) : Int)), .int (iI ((0 : Nat) : Int)), .int (iI ((25 : Nat) : Int))]) (wr := [(mo, .inr (10, [.int (iI cd), .ref ml, .ref mz, .ref ms, .int (iI op), .int (iI mr), .int (iI (bI (ld = true))), .int (iI (bI (pt = true))), .int (iI ((fr : Nat) : Int)), .ref mt, .int (iI ((sn : Nat) : Int)), .ref mb, .ref me, .ref bt, .ref wy, .ref lq, .ref df, .int (iI ((dn : Nat) : Int))]))]) hX (c_Mo_isIn l D tI tJ tZ (((y : Nat) : Int)) (((0 : Nat) : Int)) (((25 : Nat) : Int)) (by unfold iR; omega) (by unfold iR; omega) (by unfold iR; omega)) yn_Mo_isIn ml_Mo_65 st_Mo_isIn co_Mo_isIn in_Mo (by decide) (by decide) (by decide) [] [0] rfl rfl rfl rfl rfl (by decide) rfl rfl (Nat.le_of_ble_eq_true rfl) d_Mo_score_15 [0] rfl (w2 := fun _ => [(mo, .inr (10, [.int (iI cd), .ref ml, .ref mz, .ref ms, .int (iI op), .int (iI mr), .int (iI (bI (ld = true))), .int (iI (bI (pt = true))), .int (iI ((fr : Nat) : Int)), .ref mt, .int (iI ((sn : Nat) : Int)), .ref mb, .ref me, .ref bt, .ref wy, .ref lq, .ref df, .int (iI ((dn : Nat) : Int))]))]) (fun _ => rfl) (fun r15 _ e15 => ?_)
  subst e15
  refine rb_if_ne hX 25 d_Mo_score_18 (by decide) (fun h18 => ?_) (fun h18 => by exfalso; omega)
  refine r_iload_n hX 3 d_Mo_score_25 rfl ?_
  refine r_sipush hX d_Mo_score_26 (by decide) ?_
  refine r_sipushN hX 512 d_Mo_score_29 rfl (by decide) ?_
  refine r_invS_i0 (st := [.ref mo]) (As := [.int (iI v), .int (iI (-512)), .int (iI ((512 : Nat) : Int))]) (wr := [(mo, .inr (10, [.int (iI cd), .ref ml, .ref mz, .ref ms, .int (iI op), .int (iI mr), .int (iI (bI (ld = true))), .int (iI (bI (pt = true))), .int (iI ((fr : Nat) : Int)), .ref mt, .int (iI ((sn : Nat) : Int)), .ref mb, .ref me, .ref bt, .ref wy, .ref lq, .ref df, .int (iI ((dn : Nat) : Int))]))]) hX (c_Mo_isIn l D tI tJ tZ v (-512) (((512 : Nat) : Int)) (by unfold iR; omega) (by unfold iR; omega) (by unfold iR; omega)) yn_Mo_isIn ml_Mo_65 st_Mo_isIn co_Mo_isIn in_Mo (by decide) (by decide) (by decide) [] [0] rfl rfl rfl rfl rfl (by decide) rfl rfl (Nat.le_of_ble_eq_true rfl) d_Mo_score_32 [0] rfl (w2 := fun _ => [(mo, .inr (10, [.int (iI cd), .ref ml, .ref mz, .ref ms, .int (iI op), .int (iI mr), .int (iI (bI (ld = true))), .int (iI (bI (pt = true))), .int (iI ((fr : Nat) : Int)), .ref mt, .int (iI ((sn : Nat) : Int)), .ref mb, .ref me, .ref bt, .ref wy, .ref lq, .ref df, .int (iI ((dn : Nat) : Int))]))]) (fun _ => rfl) (fun r32 _ e32 => ?_)
  subst e32
  refine rb_if_eq hX 42 d_Mo_score_35 (by decide) (fun h35 => ?_) (fun h35 => by exfalso; omega)
  refine r_iconstN hX 2 d_Mo_score_42 rfl ?_
  refine r_put hX (ws' := [(mo, .inr (10, [.int (iI ((2 : Nat) : Int)), .ref ml, .ref mz, .ref ms, .int (iI op), .int (iI mr), .int (iI (bI (ld = true))), .int (iI (bI (pt = true))), .int (iI ((fr : Nat) : Int)), .ref mt, .int (iI ((sn : Nat) : Int)), .ref mb, .ref me, .ref bt, .ref wy, .ref lq, .ref df, .int (iI ((dn : Nat) : Int))]))]) cf_Mo 0 rfl 0 (by decide) fl_Mo_52 rfl rfl rfl (Nat.le_of_ble_eq_true rfl) rfl d_Mo_score_43 ?_
  refine r_aload_n hX 0 d_Mo_score_46 rfl ?_
  refine r_get hX cf_Mo 0 rfl 0 (by decide) fl_Mo_52 rfl d_Mo_score_47 ?_
  refine r_if_ne hX 70 d_Mo_score_50 (by decide) (by unfold iR; omega) (fun h50 => ?_) (fun h50 => by exfalso; omega)
  exact r_vret hX hT () trivial rfl (by decide) (by decide) d_Mo_score_70

abbrev rm_Mo_score : Room := { frames := 1, cells := 0, slots := 0, locals := 22 }
set_option maxHeartbeats 4000000 in
set_option maxRecDepth 100000 in
theorem c_Mo_score (l : Launch) (D : va_G) (tI tJ tZ : ClassId) (mo : Nat) (ml : Nat) (mz : Nat) (ms : Nat) (mt : Nat) (mb : Nat) (me : Nat) (bt : Nat) (wy : Nat) (lq : Nat) (df : Nat) (cd : Int) (op : Int) (mr : Int) (ld : Bool) (pt : Bool) (fr : Nat) (sn : Nat) (dn : Nat) (SC : Nat → Int) (x : Nat) (y : Nat) (v : Int) (hx : x < 26) (hy : y < 26) (hv : -512 ≤ v ∧ v ≤ 512) : rCv l y_Mo_score prog_12_method_11_code 4 rm_Mo_score D (tysA tI tJ tZ) [.ref mo, .int (iI ((x : Nat) : Int)), .int (iI ((y : Nat) : Int)), .int (iI v)] [(mo, .inr (10, [.int (iI cd), .ref ml, .ref mz, .ref ms, .int (iI op), .int (iI mr), .int (iI (bI (ld = true))), .int (iI (bI (pt = true))), .int (iI ((fr : Nat) : Int)), .ref mt, .int (iI ((sn : Nat) : Int)), .ref mb, .ref me, .ref bt, .ref wy, .ref lq, .ref df, .int (iI ((dn : Nat) : Int))])), (ms, .inl (tI, 676, .inl (iA SC)))] (fun (_ : Unit) => True) (fun (_ : Unit) => [(mo, .inr (10, [.int (iI 0), .ref ml, .ref mz, .ref ms, .int (iI op), .int (iI mr), .int (iI (bI (false = true))), .int (iI (bI (pt = true))), .int (iI ((fr : Nat) : Int)), .ref mt, .int (iI ((sn : Nat) : Int)), .ref mb, .ref me, .ref bt, .ref wy, .ref lq, .ref df, .int (iI ((dn : Nat) : Int))])), (ms, .inl (tI, 676, .inl (iA (iU SC (26 * x + y) v))))]) := by
  intro sz
  refine r_met (by decide) (Nat.le_of_ble_eq_true rfl) ?_
  intro F p e s m args below meth c Q A hX hT hAe hsz hin
  subst hAe
  replace hX : rOK F p l e rm_Mo_score s m args below meth c Q prog_12_method_11_code 4 "RowAlignerModel" D (tysA tI tJ tZ) _ := hX
  show F 0 [(0, .ref mo), (1, .int (iI ((x : Nat) : Int))), (2, .int (iI ((y : Nat) : Int))), (3, .int (iI v))] [] [(mo, .inr (10, [.int (iI cd), .ref ml, .ref mz, .ref ms, .int (iI op), .int (iI mr), .int (iI (bI (ld = true))), .int (iI (bI (pt = true))), .int (iI ((fr : Nat) : Int)), .ref mt, .int (iI ((sn : Nat) : Int)), .ref mb, .ref me, .ref bt, .ref wy, .ref lq, .ref df, .int (iI ((dn : Nat) : Int))])), (ms, .inl (tI, 676, .inl (iA SC)))] 0 0
  refine r_aload_n hX 0 d_Mo_score_0 rfl ?_
  refine r_iload_n hX 1 d_Mo_score_1 rfl ?_
  refine r_iconstN hX 0 d_Mo_score_2 rfl ?_
  refine r_bipushN hX 25 d_Mo_score_3 rfl (by decide) ?_
  refine r_invS_i0 (st := [.ref mo]) (As := [.int (iI ((x : Nat) : Int)), .int (iI ((0 : Nat) : Int)), .int (iI ((25 : Nat) : Int))]) (wr := [(mo, .inr (10, [.int (iI cd), .ref ml, .ref mz, .ref ms, .int (iI op), .int (iI mr), .int (iI (bI (ld = true))), .int (iI (bI (pt = true))), .int (iI ((fr : Nat) : Int)), .ref mt, .int (iI ((sn : Nat) : Int)), .ref mb, .ref me, .ref bt, .ref wy, .ref lq, .ref df, .int (iI ((dn : Nat) : Int))])), (ms, .inl (tI, 676, .inl (iA SC)))]) hX (c_Mo_isIn l D tI tJ tZ (((x : Nat) : Int)) (((0 : Nat) : Int)) (((25 : Nat) : Int)) (by unfold iR; omega) (by unfold iR; omega) (by unfold iR; omega)) yn_Mo_isIn ml_Mo_65 st_Mo_isIn co_Mo_isIn in_Mo (by decide) (by decide) (by decide) [] [0, 1] rfl rfl rfl rfl rfl (by decide) rfl rfl (Nat.le_of_ble_eq_true rfl) d_Mo_score_5 [0, 1] rfl (w2 := fun _ => [(mo, .inr (10, [.int (iI cd), .ref ml, .ref mz, .ref ms, .int (iI op), .int (iI mr), .int (iI (bI (ld = true))), .int (iI (bI (pt = true))), .int (iI ((fr : Nat) : Int)), .ref mt, .int (iI ((sn : Nat) : Int)), .ref mb, .ref me, .ref bt, .ref wy, .ref lq, .ref df, .int (iI ((dn : Nat) : Int))])), (ms, .inl (tI, 676, .inl (iA SC)))]) (fun _ => rfl) (fun r5 _ e5 => ?_)
  subst e5
  refine rb_if_eq hX 21 d_Mo_score_8 (by decide) (fun h8 => by exfalso; omega) (fun h8 => ?_)
  refine r_iload_n hX 2 d_Mo_score_11 rfl ?_
  refine r_iconstN hX 0 d_Mo_score_12 rfl ?_
  refine r_bipushN hX 25 d_Mo_score_13 rfl (by decide) ?_
  refine r_invS_i0 (st := [.ref mo]) (As := [.int (iI ((y : Nat) : Int)), .int (iI ((0 : Nat) : Int)), .int (iI ((25 : Nat) : Int))]) (wr := [(mo, .inr (10, [.int (iI cd), .ref ml, .ref mz, .ref ms, .int (iI op), .int (iI mr), .int (iI (bI (ld = true))), .int (iI (bI (pt = true))), .int (iI ((fr : Nat) : Int)), .ref mt, .int (iI ((sn : Nat) : Int)), .ref mb, .ref me, .ref bt, .ref wy, .ref lq, .ref df, .int (iI ((dn : Nat) : Int))])), (ms, .inl (tI, 676, .inl (iA SC)))]) hX (c_Mo_isIn l D tI tJ tZ (((y : Nat) : Int)) (((0 : Nat) : Int)) (((25 : Nat) : Int)) (by unfold iR; omega) (by unfold iR; omega) (by unfold iR; omega)) yn_Mo_isIn ml_Mo_65 st_Mo_isIn co_Mo_isIn in_Mo (by decide) (by decide) (by decide) [] [0, 1] rfl rfl rfl rfl rfl (by decide) rfl rfl (Nat.le_of_ble_eq_true rfl) d_Mo_score_15 [0, 1] rfl (w2 := fun _ => [(mo, .inr (10, [.int (iI cd), .ref ml, .ref mz, .ref ms, .int (iI op), .int (iI mr), .int (iI (bI (ld = true))), .int (iI (bI (pt = true))), .int (iI ((fr : Nat) : Int)), .ref mt, .int (iI ((sn : Nat) : Int)), .ref mb, .ref me, .ref bt, .ref wy, .ref lq, .ref df, .int (iI ((dn : Nat) : Int))])), (ms, .inl (tI, 676, .inl (iA SC)))]) (fun _ => rfl) (fun r15 _ e15 => ?_)
  subst e15
  refine rb_if_ne hX 25 d_Mo_score_18 (by decide) (fun h18 => ?_) (fun h18 => by exfalso; omega)
  refine r_iload_n hX 3 d_Mo_score_25 rfl ?_
  refine r_sipush hX d_Mo_score_26 (by decide) ?_
  refine r_sipushN hX 512 d_Mo_score_29 rfl (by decide) ?_
  refine r_invS_i0 (st := [.ref mo]) (As := [.int (iI v), .int (iI (-512)), .int (iI ((512 : Nat) : Int))]) (wr := [(mo, .inr (10, [.int (iI cd), .ref ml, .ref mz, .ref ms, .int (iI op), .int (iI mr), .int (iI (bI (ld = true))), .int (iI (bI (pt = true))), .int (iI ((fr : Nat) : Int)), .ref mt, .int (iI ((sn : Nat) : Int)), .ref mb, .ref me, .ref bt, .ref wy, .ref lq, .ref df, .int (iI ((dn : Nat) : Int))])), (ms, .inl (tI, 676, .inl (iA SC)))]) hX (c_Mo_isIn l D tI tJ tZ v (-512) (((512 : Nat) : Int)) (by unfold iR; omega) (by unfold iR; omega) (by unfold iR; omega)) yn_Mo_isIn ml_Mo_65 st_Mo_isIn co_Mo_isIn in_Mo (by decide) (by decide) (by decide) [] [0, 1] rfl rfl rfl rfl rfl (by decide) rfl rfl (Nat.le_of_ble_eq_true rfl) d_Mo_score_32 [0, 1] rfl (w2 := fun _ => [(mo, .inr (10, [.int (iI cd), .ref ml, .ref mz, .ref ms, .int (iI op), .int (iI mr), .int (iI (bI (ld = true))), .int (iI (bI (pt = true))), .int (iI ((fr : Nat) : Int)), .ref mt, .int (iI ((sn : Nat) : Int)), .ref mb, .ref me, .ref bt, .ref wy, .ref lq, .ref df, .int (iI ((dn : Nat) : Int))])), (ms, .inl (tI, 676, .inl (iA SC)))]) (fun _ => rfl) (fun r32 _ e32 => ?_)
  subst e32
  refine rb_if_eq hX 42 d_Mo_score_35 (by decide) (fun h35 => by exfalso; omega) (fun h35 => ?_)
  refine r_iconstN hX 0 d_Mo_score_38 rfl ?_
  refine r_goto hX 43 d_Mo_score_39 (by decide) ?_
  refine r_put hX (ws' := [(mo, .inr (10, [.int (iI ((0 : Nat) : Int)), .ref ml, .ref mz, .ref ms, .int (iI op), .int (iI mr), .int (iI (bI (ld = true))), .int (iI (bI (pt = true))), .int (iI ((fr : Nat) : Int)), .ref mt, .int (iI ((sn : Nat) : Int)), .ref mb, .ref me, .ref bt, .ref wy, .ref lq, .ref df, .int (iI ((dn : Nat) : Int))])), (ms, .inl (tI, 676, .inl (iA SC)))]) cf_Mo 0 rfl 0 (by decide) fl_Mo_52 rfl rfl rfl (Nat.le_of_ble_eq_true rfl) rfl d_Mo_score_43 ?_
  refine r_aload_n hX 0 d_Mo_score_46 rfl ?_
  refine r_get hX cf_Mo 0 rfl 0 (by decide) fl_Mo_52 rfl d_Mo_score_47 ?_
  refine r_if_ne hX 70 d_Mo_score_50 (by decide) (by unfold iR; omega) (fun h50 => by exfalso; omega) (fun h50 => ?_)
  refine r_aload_n hX 0 d_Mo_score_53 rfl ?_
  refine r_get hX cf_Mo 0 rfl 3 (by decide) fl_Mo_16 rfl d_Mo_score_54 ?_
  refine r_bipushN hX 26 d_Mo_score_57 rfl (by decide) ?_
  refine r_iload_n hX 1 d_Mo_score_59 rfl ?_
  refine r_imulN hX d_Mo_score_60 ?_
  refine r_iload_n hX 2 d_Mo_score_61 rfl ?_
  refine r_iaddN hX d_Mo_score_62 ?_
  refine r_iload_n hX 3 d_Mo_score_63 rfl ?_
  refine r_iast hX (ws' := [(mo, .inr (10, [.int (iI ((0 : Nat) : Int)), .ref ml, .ref mz, .ref ms, .int (iI op), .int (iI mr), .int (iI (bI (ld = true))), .int (iI (bI (pt = true))), .int (iI ((fr : Nat) : Int)), .ref mt, .int (iI ((sn : Nat) : Int)), .ref mb, .ref me, .ref bt, .ref wy, .ref lq, .ref df, .int (iI ((dn : Nat) : Int))])), (ms, .inl (tI, 676, .inl (iA (iU SC (26 * x + y) ((v))))))]) 1 0 rfl rfl (26 * x + y) rfl (by omega) (by decide) rfl d_Mo_score_64 ?_
  refine r_aload_n hX 0 d_Mo_score_65 rfl ?_
  refine r_iconstN hX 0 d_Mo_score_66 rfl ?_
  refine r_put hX (ws' := [(mo, .inr (10, [.int (iI ((0 : Nat) : Int)), .ref ml, .ref mz, .ref ms, .int (iI op), .int (iI mr), .int (iI ((0 : Nat) : Int)), .int (iI (bI (pt = true))), .int (iI ((fr : Nat) : Int)), .ref mt, .int (iI ((sn : Nat) : Int)), .ref mb, .ref me, .ref bt, .ref wy, .ref lq, .ref df, .int (iI ((dn : Nat) : Int))])), (ms, .inl (tI, 676, .inl (iA (iU SC (26 * x + y) ((v))))))]) cf_Mo 0 rfl 6 (by decide) fl_Mo_61 rfl (by decide +kernel) (by decide +kernel) (Nat.le_of_ble_eq_true rfl) rfl d_Mo_score_67 ?_
  exact r_vret hX hT () trivial rfl (by decide) (by decide) d_Mo_score_70

abbrev rm_Mo_scores_n : Room := { frames := 1, cells := 0, slots := 0, locals := 22 }
set_option maxHeartbeats 4000000 in
set_option maxRecDepth 100000 in
theorem c_Mo_scores_n (l : Launch) (D : va_G) (tI tJ tZ : ClassId) (mo : Nat) (ml : Nat) (mz : Nat) (ms : Nat) (mt : Nat) (mb : Nat) (me : Nat) (bt : Nat) (wy : Nat) (lq : Nat) (df : Nat) (cd : Int) (op : Int) (mr : Int) (ld : Bool) (pt : Bool) (fr : Nat) (sn : Nat) (dn : Nat) (x : Int) (y : Int) (hx : iR x) (hy : iR y) (hn : x < -512 ∨ 512 < x ∨ y < -512 ∨ 512 < y) : rCv l y_Mo_scores prog_12_method_12_code 3 rm_Mo_scores_n D (tysA tI tJ tZ) [.ref mo, .int (iI x), .int (iI y)] [(mo, .inr (10, [.int (iI cd), .ref ml, .ref mz, .ref ms, .int (iI op), .int (iI mr), .int (iI (bI (ld = true))), .int (iI (bI (pt = true))), .int (iI ((fr : Nat) : Int)), .ref mt, .int (iI ((sn : Nat) : Int)), .ref mb, .ref me, .ref bt, .ref wy, .ref lq, .ref df, .int (iI ((dn : Nat) : Int))]))] (fun (_ : Unit) => True) (fun (_ : Unit) => [(mo, .inr (10, [.int (iI 1), .ref ml, .ref mz, .ref ms, .int (iI op), .int (iI mr), .int (iI (bI (ld = true))), .int (iI (bI (pt = true))), .int (iI ((fr : Nat) : Int)), .ref mt, .int (iI ((sn : Nat) : Int)), .ref mb, .ref me, .ref bt, .ref wy, .ref lq, .ref df, .int (iI ((dn : Nat) : Int))]))]) := by
  intro sz
  refine r_met (by decide) (Nat.le_of_ble_eq_true rfl) ?_
  intro F p e s m args below meth c Q A hX hT hAe hsz hin
  subst hAe
  replace hX : rOK F p l e rm_Mo_scores_n s m args below meth c Q prog_12_method_12_code 3 "RowAlignerModel" D (tysA tI tJ tZ) _ := hX
  unfold iR at hx hy
  show F 0 [(0, .ref mo), (1, .int (iI x)), (2, .int (iI y))] [] [(mo, .inr (10, [.int (iI cd), .ref ml, .ref mz, .ref ms, .int (iI op), .int (iI mr), .int (iI (bI (ld = true))), .int (iI (bI (pt = true))), .int (iI ((fr : Nat) : Int)), .ref mt, .int (iI ((sn : Nat) : Int)), .ref mb, .ref me, .ref bt, .ref wy, .ref lq, .ref df, .int (iI ((dn : Nat) : Int))]))] 0 0
  refine r_aload_n hX 0 d_Mo_scores_0 rfl ?_
  refine r_iload_n hX 1 d_Mo_scores_1 rfl ?_
  refine r_sipush hX d_Mo_scores_2 (by decide) ?_
  refine r_sipushN hX 512 d_Mo_scores_5 rfl (by decide) ?_
  refine r_invS_i0 (st := [.ref mo]) (As := [.int (iI x), .int (iI (-512)), .int (iI ((512 : Nat) : Int))]) (wr := [(mo, .inr (10, [.int (iI cd), .ref ml, .ref mz, .ref ms, .int (iI op), .int (iI mr), .int (iI (bI (ld = true))), .int (iI (bI (pt = true))), .int (iI ((fr : Nat) : Int)), .ref mt, .int (iI ((sn : Nat) : Int)), .ref mb, .ref me, .ref bt, .ref wy, .ref lq, .ref df, .int (iI ((dn : Nat) : Int))]))]) hX (c_Mo_isIn l D tI tJ tZ x (-512) (((512 : Nat) : Int)) (by unfold iR; omega) (by unfold iR; omega) (by unfold iR; omega)) yn_Mo_isIn ml_Mo_65 st_Mo_isIn co_Mo_isIn in_Mo (by decide) (by decide) (by decide) [] [0] rfl rfl rfl rfl rfl (by decide) rfl rfl (Nat.le_of_ble_eq_true rfl) d_Mo_scores_8 [0] rfl (w2 := fun _ => [(mo, .inr (10, [.int (iI cd), .ref ml, .ref mz, .ref ms, .int (iI op), .int (iI mr), .int (iI (bI (ld = true))), .int (iI (bI (pt = true))), .int (iI ((fr : Nat) : Int)), .ref mt, .int (iI ((sn : Nat) : Int)), .ref mb, .ref me, .ref bt, .ref wy, .ref lq, .ref df, .int (iI ((dn : Nat) : Int))]))]) (fun _ => rfl) (fun r8 _ e8 => ?_)
  subst e8
  have J32 : F 32 [(0, .ref mo), (1, .int (iI x)), (2, .int (iI y))] [.int (iI 1), .ref mo] [(mo, .inr (10, [.int (iI cd), .ref ml, .ref mz, .ref ms, .int (iI op), .int (iI mr), .int (iI (bI (ld = true))), .int (iI (bI (pt = true))), .int (iI ((fr : Nat) : Int)), .ref mt, .int (iI ((sn : Nat) : Int)), .ref mb, .ref me, .ref bt, .ref wy, .ref lq, .ref df, .int (iI ((dn : Nat) : Int))]))] 0 0 := by
    refine r_put hX (ws' := [(mo, .inr (10, [.int (iI 1), .ref ml, .ref mz, .ref ms, .int (iI op), .int (iI mr), .int (iI (bI (ld = true))), .int (iI (bI (pt = true))), .int (iI ((fr : Nat) : Int)), .ref mt, .int (iI ((sn : Nat) : Int)), .ref mb, .ref me, .ref bt, .ref wy, .ref lq, .ref df, .int (iI ((dn : Nat) : Int))]))]) cf_Mo 0 rfl 0 (by decide) fl_Mo_52 rfl rfl rfl (Nat.le_of_ble_eq_true rfl) rfl d_Mo_scores_32 ?_
    refine r_aload_n hX 0 d_Mo_scores_35 rfl ?_
    refine r_get hX cf_Mo 0 rfl 0 (by decide) fl_Mo_52 rfl d_Mo_scores_36 ?_
    refine r_if_ne hX 53 d_Mo_scores_39 (by decide) (by unfold iR; omega) (fun h39 => ?_) (fun h39 => by exfalso; omega)
    exact r_vret hX hT () trivial rfl (by decide) (by decide) d_Mo_scores_53
  refine rb_if_eq hX 31 d_Mo_scores_11 (by decide) (fun h11 => ?_) (fun h11 => ?_)
  · refine r_iconstN hX 1 d_Mo_scores_31 rfl ?_
    exact rj_e (by rfl) J32
  · refine r_iload_n hX 2 d_Mo_scores_14 rfl ?_
    refine r_sipush hX d_Mo_scores_15 (by decide) ?_
    refine r_sipushN hX 512 d_Mo_scores_18 rfl (by decide) ?_
    refine r_invS_i0 (st := [.ref mo]) (As := [.int (iI y), .int (iI (-512)), .int (iI ((512 : Nat) : Int))]) (wr := [(mo, .inr (10, [.int (iI cd), .ref ml, .ref mz, .ref ms, .int (iI op), .int (iI mr), .int (iI (bI (ld = true))), .int (iI (bI (pt = true))), .int (iI ((fr : Nat) : Int)), .ref mt, .int (iI ((sn : Nat) : Int)), .ref mb, .ref me, .ref bt, .ref wy, .ref lq, .ref df, .int (iI ((dn : Nat) : Int))]))]) hX (c_Mo_isIn l D tI tJ tZ y (-512) (((512 : Nat) : Int)) (by unfold iR; omega) (by unfold iR; omega) (by unfold iR; omega)) yn_Mo_isIn ml_Mo_65 st_Mo_isIn co_Mo_isIn in_Mo (by decide) (by decide) (by decide) [] [0] rfl rfl rfl rfl rfl (by decide) rfl rfl (Nat.le_of_ble_eq_true rfl) d_Mo_scores_21 [0] rfl (w2 := fun _ => [(mo, .inr (10, [.int (iI cd), .ref ml, .ref mz, .ref ms, .int (iI op), .int (iI mr), .int (iI (bI (ld = true))), .int (iI (bI (pt = true))), .int (iI ((fr : Nat) : Int)), .ref mt, .int (iI ((sn : Nat) : Int)), .ref mb, .ref me, .ref bt, .ref wy, .ref lq, .ref df, .int (iI ((dn : Nat) : Int))]))]) (fun _ => rfl) (fun r21 _ e21 => ?_)
    subst e21
    refine rb_if_eq hX 31 d_Mo_scores_24 (by decide) (fun h24 => ?_) (fun h24 => by exfalso; omega)
    refine r_iconstN hX 1 d_Mo_scores_31 rfl ?_
    exact rj_e (by rfl) J32

abbrev rm_Mo_scores : Room := { frames := 1, cells := 0, slots := 0, locals := 23 }
set_option maxHeartbeats 4000000 in
set_option maxRecDepth 100000 in
theorem c_Mo_scores (l : Launch) (D : va_G) (tI tJ tZ : ClassId) (mo : Nat) (ml : Nat) (mz : Nat) (ms : Nat) (mt : Nat) (mb : Nat) (me : Nat) (bt : Nat) (wy : Nat) (lq : Nat) (df : Nat) (cd : Int) (op : Int) (mr : Int) (ld : Bool) (pt : Bool) (fr : Nat) (sn : Nat) (dn : Nat) (SC : Nat → Int) (x : Int) (y : Int) (hx : -512 ≤ x ∧ x ≤ 512) (hy : -512 ≤ y ∧ y ≤ 512) : rCv l y_Mo_scores prog_12_method_12_code 3 rm_Mo_scores D (tysA tI tJ tZ) [.ref mo, .int (iI x), .int (iI y)] [(mo, .inr (10, [.int (iI cd), .ref ml, .ref mz, .ref ms, .int (iI op), .int (iI mr), .int (iI (bI (ld = true))), .int (iI (bI (pt = true))), .int (iI ((fr : Nat) : Int)), .ref mt, .int (iI ((sn : Nat) : Int)), .ref mb, .ref me, .ref bt, .ref wy, .ref lq, .ref df, .int (iI ((dn : Nat) : Int))])), (ms, .inl (tI, 676, .inl (iA SC)))] (fun (_ : Unit) => True) (fun (_ : Unit) => [(mo, .inr (10, [.int (iI 0), .ref ml, .ref mz, .ref ms, .int (iI op), .int (iI mr), .int (iI (bI (false = true))), .int (iI (bI (pt = true))), .int (iI ((fr : Nat) : Int)), .ref mt, .int (iI ((sn : Nat) : Int)), .ref mb, .ref me, .ref bt, .ref wy, .ref lq, .ref df, .int (iI ((dn : Nat) : Int))])), (ms, .inl (tI, 676, .inl (iA (ra_sq SC x y 676))))]) := by
  intro sz
  refine r_met (by decide) (Nat.le_of_ble_eq_true rfl) ?_
  intro F p e s m args below meth c Q A hX hT hAe hsz hin
  subst hAe
  replace hX : rOK F p l e rm_Mo_scores s m args below meth c Q prog_12_method_12_code 3 "RowAlignerModel" D (tysA tI tJ tZ) _ := hX
  show F 0 [(0, .ref mo), (1, .int (iI x)), (2, .int (iI y))] [] [(mo, .inr (10, [.int (iI cd), .ref ml, .ref mz, .ref ms, .int (iI op), .int (iI mr), .int (iI (bI (ld = true))), .int (iI (bI (pt = true))), .int (iI ((fr : Nat) : Int)), .ref mt, .int (iI ((sn : Nat) : Int)), .ref mb, .ref me, .ref bt, .ref wy, .ref lq, .ref df, .int (iI ((dn : Nat) : Int))])), (ms, .inl (tI, 676, .inl (iA SC)))] 0 0
  refine r_aload_n hX 0 d_Mo_scores_0 rfl ?_
  refine r_iload_n hX 1 d_Mo_scores_1 rfl ?_
  refine r_sipush hX d_Mo_scores_2 (by decide) ?_
  refine r_sipushN hX 512 d_Mo_scores_5 rfl (by decide) ?_
  refine r_invS_i0 (st := [.ref mo]) (As := [.int (iI x), .int (iI (-512)), .int (iI ((512 : Nat) : Int))]) (wr := [(mo, .inr (10, [.int (iI cd), .ref ml, .ref mz, .ref ms, .int (iI op), .int (iI mr), .int (iI (bI (ld = true))), .int (iI (bI (pt = true))), .int (iI ((fr : Nat) : Int)), .ref mt, .int (iI ((sn : Nat) : Int)), .ref mb, .ref me, .ref bt, .ref wy, .ref lq, .ref df, .int (iI ((dn : Nat) : Int))])), (ms, .inl (tI, 676, .inl (iA SC)))]) hX (c_Mo_isIn l D tI tJ tZ x (-512) (((512 : Nat) : Int)) (by unfold iR; omega) (by unfold iR; omega) (by unfold iR; omega)) yn_Mo_isIn ml_Mo_65 st_Mo_isIn co_Mo_isIn in_Mo (by decide) (by decide) (by decide) [] [0, 1] rfl rfl rfl rfl rfl (by decide) rfl rfl (Nat.le_of_ble_eq_true rfl) d_Mo_scores_8 [0, 1] rfl (w2 := fun _ => [(mo, .inr (10, [.int (iI cd), .ref ml, .ref mz, .ref ms, .int (iI op), .int (iI mr), .int (iI (bI (ld = true))), .int (iI (bI (pt = true))), .int (iI ((fr : Nat) : Int)), .ref mt, .int (iI ((sn : Nat) : Int)), .ref mb, .ref me, .ref bt, .ref wy, .ref lq, .ref df, .int (iI ((dn : Nat) : Int))])), (ms, .inl (tI, 676, .inl (iA SC)))]) (fun _ => rfl) (fun r8 _ e8 => ?_)
  subst e8
  refine rb_if_eq hX 31 d_Mo_scores_11 (by decide) (fun h11 => by exfalso; omega) (fun h11 => ?_)
  refine r_iload_n hX 2 d_Mo_scores_14 rfl ?_
  refine r_sipush hX d_Mo_scores_15 (by decide) ?_
  refine r_sipushN hX 512 d_Mo_scores_18 rfl (by decide) ?_
  refine r_invS_i0 (st := [.ref mo]) (As := [.int (iI y), .int (iI (-512)), .int (iI ((512 : Nat) : Int))]) (wr := [(mo, .inr (10, [.int (iI cd), .ref ml, .ref mz, .ref ms, .int (iI op), .int (iI mr), .int (iI (bI (ld = true))), .int (iI (bI (pt = true))), .int (iI ((fr : Nat) : Int)), .ref mt, .int (iI ((sn : Nat) : Int)), .ref mb, .ref me, .ref bt, .ref wy, .ref lq, .ref df, .int (iI ((dn : Nat) : Int))])), (ms, .inl (tI, 676, .inl (iA SC)))]) hX (c_Mo_isIn l D tI tJ tZ y (-512) (((512 : Nat) : Int)) (by unfold iR; omega) (by unfold iR; omega) (by unfold iR; omega)) yn_Mo_isIn ml_Mo_65 st_Mo_isIn co_Mo_isIn in_Mo (by decide) (by decide) (by decide) [] [0, 1] rfl rfl rfl rfl rfl (by decide) rfl rfl (Nat.le_of_ble_eq_true rfl) d_Mo_scores_21 [0, 1] rfl (w2 := fun _ => [(mo, .inr (10, [.int (iI cd), .ref ml, .ref mz, .ref ms, .int (iI op), .int (iI mr), .int (iI (bI (ld = true))), .int (iI (bI (pt = true))), .int (iI ((fr : Nat) : Int)), .ref mt, .int (iI ((sn : Nat) : Int)), .ref mb, .ref me, .ref bt, .ref wy, .ref lq, .ref df, .int (iI ((dn : Nat) : Int))])), (ms, .inl (tI, 676, .inl (iA SC)))]) (fun _ => rfl) (fun r21 _ e21 => ?_)
  subst e21
  refine rb_if_eq hX 31 d_Mo_scores_24 (by decide) (fun h24 => by exfalso; omega) (fun h24 => ?_)
  refine r_iconstN hX 0 d_Mo_scores_27 rfl ?_
  refine r_goto hX 32 d_Mo_scores_28 (by decide) ?_
  refine r_put hX (ws' := [(mo, .inr (10, [.int (iI ((0 : Nat) : Int)), .ref ml, .ref mz, .ref ms, .int (iI op), .int (iI mr), .int (iI (bI (ld = true))), .int (iI (bI (pt = true))), .int (iI ((fr : Nat) : Int)), .ref mt, .int (iI ((sn : Nat) : Int)), .ref mb, .ref me, .ref bt, .ref wy, .ref lq, .ref df, .int (iI ((dn : Nat) : Int))])), (ms, .inl (tI, 676, .inl (iA SC)))]) cf_Mo 0 rfl 0 (by decide) fl_Mo_52 rfl rfl rfl (Nat.le_of_ble_eq_true rfl) rfl d_Mo_scores_32 ?_
  refine r_aload_n hX 0 d_Mo_scores_35 rfl ?_
  refine r_get hX cf_Mo 0 rfl 0 (by decide) fl_Mo_52 rfl d_Mo_scores_36 ?_
  refine r_if_ne hX 53 d_Mo_scores_39 (by decide) (by unfold iR; omega) (fun h39 => by exfalso; omega) (fun h39 => ?_)
  refine r_aload_n hX 0 d_Mo_scores_42 rfl ?_
  refine r_iload_n hX 1 d_Mo_scores_43 rfl ?_
  refine r_iload_n hX 2 d_Mo_scores_44 rfl ?_
  refine r_invV_v0 (st := []) (As := [.int (iI x), .int (iI y)]) (wr := []) hX (c_Mo_setScores l D tI tJ tZ mo ml mz ms mt mb me bt wy lq df (((0 : Nat) : Int)) op mr ld pt fr sn dn SC x y) "RowAlignerModel" 0 10 cf_Mo rfl yn_Mo_setScores ml_Mo_48 im_Mo_setScores se_Mo_setScores co_Mo_setScores in_Mo (by decide) (by decide) (by decide) [0, 1] [] rfl rfl rfl rfl rfl (by decide) rfl rfl (Nat.le_of_ble_eq_true rfl) d_Mo_scores_45 [0, 1] rfl (w2 := fun _ => [(mo, .inr (10, [.int (iI ((0 : Nat) : Int)), .ref ml, .ref mz, .ref ms, .int (iI op), .int (iI mr), .int (iI (bI (ld = true))), .int (iI (bI (pt = true))), .int (iI ((fr : Nat) : Int)), .ref mt, .int (iI ((sn : Nat) : Int)), .ref mb, .ref me, .ref bt, .ref wy, .ref lq, .ref df, .int (iI ((dn : Nat) : Int))])), (ms, .inl (tI, 676, .inl (iA (ra_sq SC x y 676))))]) (fun _ => rfl) (fun _ _ => ?_)
  refine r_aload_n hX 0 d_Mo_scores_48 rfl ?_
  refine r_iconstN hX 0 d_Mo_scores_49 rfl ?_
  refine r_put hX (ws' := [(mo, .inr (10, [.int (iI ((0 : Nat) : Int)), .ref ml, .ref mz, .ref ms, .int (iI op), .int (iI mr), .int (iI ((0 : Nat) : Int)), .int (iI (bI (pt = true))), .int (iI ((fr : Nat) : Int)), .ref mt, .int (iI ((sn : Nat) : Int)), .ref mb, .ref me, .ref bt, .ref wy, .ref lq, .ref df, .int (iI ((dn : Nat) : Int))])), (ms, .inl (tI, 676, .inl (iA (ra_sq SC x y 676))))]) cf_Mo 0 rfl 6 (by decide) fl_Mo_61 rfl (by decide +kernel) (by decide +kernel) (Nat.le_of_ble_eq_true rfl) rfl d_Mo_scores_50 ?_
  exact r_vret hX hT () trivial rfl (by decide) (by decide) d_Mo_scores_53

abbrev rm_Mo_costs_n : Room := { frames := 1, cells := 0, slots := 0, locals := 22 }
set_option maxHeartbeats 4000000 in
set_option maxRecDepth 100000 in
theorem c_Mo_costs_n (l : Launch) (D : va_G) (tI tJ tZ : ClassId) (mo : Nat) (ml : Nat) (mz : Nat) (ms : Nat) (mt : Nat) (mb : Nat) (me : Nat) (bt : Nat) (wy : Nat) (lq : Nat) (df : Nat) (cd : Int) (op : Int) (mr : Int) (ld : Bool) (pt : Bool) (fr : Nat) (sn : Nat) (dn : Nat) (x : Int) (y : Int) (hx : iR x) (hy : iR y) (hn : x < 0 ∨ 512 < x ∨ y < 0 ∨ 512 < y) : rCv l y_Mo_costs prog_12_method_13_code 3 rm_Mo_costs_n D (tysA tI tJ tZ) [.ref mo, .int (iI x), .int (iI y)] [(mo, .inr (10, [.int (iI cd), .ref ml, .ref mz, .ref ms, .int (iI op), .int (iI mr), .int (iI (bI (ld = true))), .int (iI (bI (pt = true))), .int (iI ((fr : Nat) : Int)), .ref mt, .int (iI ((sn : Nat) : Int)), .ref mb, .ref me, .ref bt, .ref wy, .ref lq, .ref df, .int (iI ((dn : Nat) : Int))]))] (fun (_ : Unit) => True) (fun (_ : Unit) => [(mo, .inr (10, [.int (iI 1), .ref ml, .ref mz, .ref ms, .int (iI op), .int (iI mr), .int (iI (bI (ld = true))), .int (iI (bI (pt = true))), .int (iI ((fr : Nat) : Int)), .ref mt, .int (iI ((sn : Nat) : Int)), .ref mb, .ref me, .ref bt, .ref wy, .ref lq, .ref df, .int (iI ((dn : Nat) : Int))]))]) := by
  intro sz
  refine r_met (by decide) (Nat.le_of_ble_eq_true rfl) ?_
  intro F p e s m args below meth c Q A hX hT hAe hsz hin
  subst hAe
  replace hX : rOK F p l e rm_Mo_costs_n s m args below meth c Q prog_12_method_13_code 3 "RowAlignerModel" D (tysA tI tJ tZ) _ := hX
  unfold iR at hx hy
  show F 0 [(0, .ref mo), (1, .int (iI x)), (2, .int (iI y))] [] [(mo, .inr (10, [.int (iI cd), .ref ml, .ref mz, .ref ms, .int (iI op), .int (iI mr), .int (iI (bI (ld = true))), .int (iI (bI (pt = true))), .int (iI ((fr : Nat) : Int)), .ref mt, .int (iI ((sn : Nat) : Int)), .ref mb, .ref me, .ref bt, .ref wy, .ref lq, .ref df, .int (iI ((dn : Nat) : Int))]))] 0 0
  refine r_aload_n hX 0 d_Mo_costs_0 rfl ?_
  refine r_iload_n hX 1 d_Mo_costs_1 rfl ?_
  refine r_iconstN hX 0 d_Mo_costs_2 rfl ?_
  refine r_sipushN hX 512 d_Mo_costs_3 rfl (by decide) ?_
  refine r_invS_i0 (st := [.ref mo]) (As := [.int (iI x), .int (iI ((0 : Nat) : Int)), .int (iI ((512 : Nat) : Int))]) (wr := [(mo, .inr (10, [.int (iI cd), .ref ml, .ref mz, .ref ms, .int (iI op), .int (iI mr), .int (iI (bI (ld = true))), .int (iI (bI (pt = true))), .int (iI ((fr : Nat) : Int)), .ref mt, .int (iI ((sn : Nat) : Int)), .ref mb, .ref me, .ref bt, .ref wy, .ref lq, .ref df, .int (iI ((dn : Nat) : Int))]))]) hX (c_Mo_isIn l D tI tJ tZ x (((0 : Nat) : Int)) (((512 : Nat) : Int)) (by unfold iR; omega) (by unfold iR; omega) (by unfold iR; omega)) yn_Mo_isIn ml_Mo_65 st_Mo_isIn co_Mo_isIn in_Mo (by decide) (by decide) (by decide) [] [0] rfl rfl rfl rfl rfl (by decide) rfl rfl (Nat.le_of_ble_eq_true rfl) d_Mo_costs_6 [0] rfl (w2 := fun _ => [(mo, .inr (10, [.int (iI cd), .ref ml, .ref mz, .ref ms, .int (iI op), .int (iI mr), .int (iI (bI (ld = true))), .int (iI (bI (pt = true))), .int (iI ((fr : Nat) : Int)), .ref mt, .int (iI ((sn : Nat) : Int)), .ref mb, .ref me, .ref bt, .ref wy, .ref lq, .ref df, .int (iI ((dn : Nat) : Int))]))]) (fun _ => rfl) (fun r6 _ e6 => ?_)
  subst e6
  have J28 : F 28 [(0, .ref mo), (1, .int (iI x)), (2, .int (iI y))] [.int (iI 1), .ref mo] [(mo, .inr (10, [.int (iI cd), .ref ml, .ref mz, .ref ms, .int (iI op), .int (iI mr), .int (iI (bI (ld = true))), .int (iI (bI (pt = true))), .int (iI ((fr : Nat) : Int)), .ref mt, .int (iI ((sn : Nat) : Int)), .ref mb, .ref me, .ref bt, .ref wy, .ref lq, .ref df, .int (iI ((dn : Nat) : Int))]))] 0 0 := by
    refine r_put hX (ws' := [(mo, .inr (10, [.int (iI 1), .ref ml, .ref mz, .ref ms, .int (iI op), .int (iI mr), .int (iI (bI (ld = true))), .int (iI (bI (pt = true))), .int (iI ((fr : Nat) : Int)), .ref mt, .int (iI ((sn : Nat) : Int)), .ref mb, .ref me, .ref bt, .ref wy, .ref lq, .ref df, .int (iI ((dn : Nat) : Int))]))]) cf_Mo 0 rfl 0 (by decide) fl_Mo_52 rfl rfl rfl (Nat.le_of_ble_eq_true rfl) rfl d_Mo_costs_28 ?_
    refine r_aload_n hX 0 d_Mo_costs_31 rfl ?_
    refine r_get hX cf_Mo 0 rfl 0 (by decide) fl_Mo_52 rfl d_Mo_costs_32 ?_
    refine r_if_ne hX 53 d_Mo_costs_35 (by decide) (by unfold iR; omega) (fun h35 => ?_) (fun h35 => by exfalso; omega)
    exact r_vret hX hT () trivial rfl (by decide) (by decide) d_Mo_costs_53
  refine rb_if_eq hX 27 d_Mo_costs_9 (by decide) (fun h9 => ?_) (fun h9 => ?_)
  · refine r_iconstN hX 1 d_Mo_costs_27 rfl ?_
    exact rj_e (by rfl) J28
  · refine r_iload_n hX 2 d_Mo_costs_12 rfl ?_
    refine r_iconstN hX 0 d_Mo_costs_13 rfl ?_
    refine r_sipushN hX 512 d_Mo_costs_14 rfl (by decide) ?_
    refine r_invS_i0 (st := [.ref mo]) (As := [.int (iI y), .int (iI ((0 : Nat) : Int)), .int (iI ((512 : Nat) : Int))]) (wr := [(mo, .inr (10, [.int (iI cd), .ref ml, .ref mz, .ref ms, .int (iI op), .int (iI mr), .int (iI (bI (ld = true))), .int (iI (bI (pt = true))), .int (iI ((fr : Nat) : Int)), .ref mt, .int (iI ((sn : Nat) : Int)), .ref mb, .ref me, .ref bt, .ref wy, .ref lq, .ref df, .int (iI ((dn : Nat) : Int))]))]) hX (c_Mo_isIn l D tI tJ tZ y (((0 : Nat) : Int)) (((512 : Nat) : Int)) (by unfold iR; omega) (by unfold iR; omega) (by unfold iR; omega)) yn_Mo_isIn ml_Mo_65 st_Mo_isIn co_Mo_isIn in_Mo (by decide) (by decide) (by decide) [] [0] rfl rfl rfl rfl rfl (by decide) rfl rfl (Nat.le_of_ble_eq_true rfl) d_Mo_costs_17 [0] rfl (w2 := fun _ => [(mo, .inr (10, [.int (iI cd), .ref ml, .ref mz, .ref ms, .int (iI op), .int (iI mr), .int (iI (bI (ld = true))), .int (iI (bI (pt = true))), .int (iI ((fr : Nat) : Int)), .ref mt, .int (iI ((sn : Nat) : Int)), .ref mb, .ref me, .ref bt, .ref wy, .ref lq, .ref df, .int (iI ((dn : Nat) : Int))]))]) (fun _ => rfl) (fun r17 _ e17 => ?_)
    subst e17
    refine rb_if_eq hX 27 d_Mo_costs_20 (by decide) (fun h20 => ?_) (fun h20 => by exfalso; omega)
    refine r_iconstN hX 1 d_Mo_costs_27 rfl ?_
    exact rj_e (by rfl) J28

abbrev rm_Mo_costs : Room := { frames := 1, cells := 0, slots := 0, locals := 22 }
set_option maxHeartbeats 4000000 in
set_option maxRecDepth 100000 in
theorem c_Mo_costs (l : Launch) (D : va_G) (tI tJ tZ : ClassId) (mo : Nat) (ml : Nat) (mz : Nat) (ms : Nat) (mt : Nat) (mb : Nat) (me : Nat) (bt : Nat) (wy : Nat) (lq : Nat) (df : Nat) (cd : Int) (op : Int) (mr : Int) (ld : Bool) (pt : Bool) (fr : Nat) (sn : Nat) (dn : Nat) (x : Int) (y : Int) (hx : 0 ≤ x ∧ x ≤ 512) (hy : 0 ≤ y ∧ y ≤ 512) : rCv l y_Mo_costs prog_12_method_13_code 3 rm_Mo_costs D (tysA tI tJ tZ) [.ref mo, .int (iI x), .int (iI y)] [(mo, .inr (10, [.int (iI cd), .ref ml, .ref mz, .ref ms, .int (iI op), .int (iI mr), .int (iI (bI (ld = true))), .int (iI (bI (pt = true))), .int (iI ((fr : Nat) : Int)), .ref mt, .int (iI ((sn : Nat) : Int)), .ref mb, .ref me, .ref bt, .ref wy, .ref lq, .ref df, .int (iI ((dn : Nat) : Int))]))] (fun (_ : Unit) => True) (fun (_ : Unit) => [(mo, .inr (10, [.int (iI 0), .ref ml, .ref mz, .ref ms, .int (iI x), .int (iI y), .int (iI (bI (false = true))), .int (iI (bI (pt = true))), .int (iI ((fr : Nat) : Int)), .ref mt, .int (iI ((sn : Nat) : Int)), .ref mb, .ref me, .ref bt, .ref wy, .ref lq, .ref df, .int (iI ((dn : Nat) : Int))]))]) := by
  intro sz
  refine r_met (by decide) (Nat.le_of_ble_eq_true rfl) ?_
  intro F p e s m args below meth c Q A hX hT hAe hsz hin
  subst hAe
  replace hX : rOK F p l e rm_Mo_costs s m args below meth c Q prog_12_method_13_code 3 "RowAlignerModel" D (tysA tI tJ tZ) _ := hX
  show F 0 [(0, .ref mo), (1, .int (iI x)), (2, .int (iI y))] [] [(mo, .inr (10, [.int (iI cd), .ref ml, .ref mz, .ref ms, .int (iI op), .int (iI mr), .int (iI (bI (ld = true))), .int (iI (bI (pt = true))), .int (iI ((fr : Nat) : Int)), .ref mt, .int (iI ((sn : Nat) : Int)), .ref mb, .ref me, .ref bt, .ref wy, .ref lq, .ref df, .int (iI ((dn : Nat) : Int))]))] 0 0
  refine r_aload_n hX 0 d_Mo_costs_0 rfl ?_
  refine r_iload_n hX 1 d_Mo_costs_1 rfl ?_
  refine r_iconstN hX 0 d_Mo_costs_2 rfl ?_
  refine r_sipushN hX 512 d_Mo_costs_3 rfl (by decide) ?_
  refine r_invS_i0 (st := [.ref mo]) (As := [.int (iI x), .int (iI ((0 : Nat) : Int)), .int (iI ((512 : Nat) : Int))]) (wr := [(mo, .inr (10, [.int (iI cd), .ref ml, .ref mz, .ref ms, .int (iI op), .int (iI mr), .int (iI (bI (ld = true))), .int (iI (bI (pt = true))), .int (iI ((fr : Nat) : Int)), .ref mt, .int (iI ((sn : Nat) : Int)), .ref mb, .ref me, .ref bt, .ref wy, .ref lq, .ref df, .int (iI ((dn : Nat) : Int))]))]) hX (c_Mo_isIn l D tI tJ tZ x (((0 : Nat) : Int)) (((512 : Nat) : Int)) (by unfold iR; omega) (by unfold iR; omega) (by unfold iR; omega)) yn_Mo_isIn ml_Mo_65 st_Mo_isIn co_Mo_isIn in_Mo (by decide) (by decide) (by decide) [] [0] rfl rfl rfl rfl rfl (by decide) rfl rfl (Nat.le_of_ble_eq_true rfl) d_Mo_costs_6 [0] rfl (w2 := fun _ => [(mo, .inr (10, [.int (iI cd), .ref ml, .ref mz, .ref ms, .int (iI op), .int (iI mr), .int (iI (bI (ld = true))), .int (iI (bI (pt = true))), .int (iI ((fr : Nat) : Int)), .ref mt, .int (iI ((sn : Nat) : Int)), .ref mb, .ref me, .ref bt, .ref wy, .ref lq, .ref df, .int (iI ((dn : Nat) : Int))]))]) (fun _ => rfl) (fun r6 _ e6 => ?_)
  subst e6
  refine rb_if_eq hX 27 d_Mo_costs_9 (by decide) (fun h9 => by exfalso; omega) (fun h9 => ?_)
  refine r_iload_n hX 2 d_Mo_costs_12 rfl ?_
  refine r_iconstN hX 0 d_Mo_costs_13 rfl ?_
  refine r_sipushN hX 512 d_Mo_costs_14 rfl (by decide) ?_
  refine r_invS_i0 (st := [.ref mo]) (As := [.int (iI y), .int (iI ((0 : Nat) : Int)), .int (iI ((512 : Nat) : Int))]) (wr := [(mo, .inr (10, [.int (iI cd), .ref ml, .ref mz, .ref ms, .int (iI op), .int (iI mr), .int (iI (bI (ld = true))), .int (iI (bI (pt = true))), .int (iI ((fr : Nat) : Int)), .ref mt, .int (iI ((sn : Nat) : Int)), .ref mb, .ref me, .ref bt, .ref wy, .ref lq, .ref df, .int (iI ((dn : Nat) : Int))]))]) hX (c_Mo_isIn l D tI tJ tZ y (((0 : Nat) : Int)) (((512 : Nat) : Int)) (by unfold iR; omega) (by unfold iR; omega) (by unfold iR; omega)) yn_Mo_isIn ml_Mo_65 st_Mo_isIn co_Mo_isIn in_Mo (by decide) (by decide) (by decide) [] [0] rfl rfl rfl rfl rfl (by decide) rfl rfl (Nat.le_of_ble_eq_true rfl) d_Mo_costs_17 [0] rfl (w2 := fun _ => [(mo, .inr (10, [.int (iI cd), .ref ml, .ref mz, .ref ms, .int (iI op), .int (iI mr), .int (iI (bI (ld = true))), .int (iI (bI (pt = true))), .int (iI ((fr : Nat) : Int)), .ref mt, .int (iI ((sn : Nat) : Int)), .ref mb, .ref me, .ref bt, .ref wy, .ref lq, .ref df, .int (iI ((dn : Nat) : Int))]))]) (fun _ => rfl) (fun r17 _ e17 => ?_)
  subst e17
  refine rb_if_eq hX 27 d_Mo_costs_20 (by decide) (fun h20 => by exfalso; omega) (fun h20 => ?_)
  refine r_iconstN hX 0 d_Mo_costs_23 rfl ?_
  refine r_goto hX 28 d_Mo_costs_24 (by decide) ?_
  refine r_put hX (ws' := [(mo, .inr (10, [.int (iI ((0 : Nat) : Int)), .ref ml, .ref mz, .ref ms, .int (iI op), .int (iI mr), .int (iI (bI (ld = true))), .int (iI (bI (pt = true))), .int (iI ((fr : Nat) : Int)), .ref mt, .int (iI ((sn : Nat) : Int)), .ref mb, .ref me, .ref bt, .ref wy, .ref lq, .ref df, .int (iI ((dn : Nat) : Int))]))]) cf_Mo 0 rfl 0 (by decide) fl_Mo_52 rfl rfl rfl (Nat.le_of_ble_eq_true rfl) rfl d_Mo_costs_28 ?_
  refine r_aload_n hX 0 d_Mo_costs_31 rfl ?_
  refine r_get hX cf_Mo 0 rfl 0 (by decide) fl_Mo_52 rfl d_Mo_costs_32 ?_
  refine r_if_ne hX 53 d_Mo_costs_35 (by decide) (by unfold iR; omega) (fun h35 => by exfalso; omega) (fun h35 => ?_)
  refine r_aload_n hX 0 d_Mo_costs_38 rfl ?_
  refine r_iload_n hX 1 d_Mo_costs_39 rfl ?_
  refine r_put hX (ws' := [(mo, .inr (10, [.int (iI ((0 : Nat) : Int)), .ref ml, .ref mz, .ref ms, .int (iI x), .int (iI mr), .int (iI (bI (ld = true))), .int (iI (bI (pt = true))), .int (iI ((fr : Nat) : Int)), .ref mt, .int (iI ((sn : Nat) : Int)), .ref mb, .ref me, .ref bt, .ref wy, .ref lq, .ref df, .int (iI ((dn : Nat) : Int))]))]) cf_Mo 0 rfl 4 (by decide) fl_Mo_19 rfl rfl rfl (Nat.le_of_ble_eq_true rfl) rfl d_Mo_costs_40 ?_
  refine r_aload_n hX 0 d_Mo_costs_43 rfl ?_
  refine r_iload_n hX 2 d_Mo_costs_44 rfl ?_
  refine r_put hX (ws' := [(mo, .inr (10, [.int (iI ((0 : Nat) : Int)), .ref ml, .ref mz, .ref ms, .int (iI x), .int (iI y), .int (iI (bI (ld = true))), .int (iI (bI (pt = true))), .int (iI ((fr : Nat) : Int)), .ref mt, .int (iI ((sn : Nat) : Int)), .ref mb, .ref me, .ref bt, .ref wy, .ref lq, .ref df, .int (iI ((dn : Nat) : Int))]))]) cf_Mo 0 rfl 5 (by decide) fl_Mo_23 rfl rfl rfl (Nat.le_of_ble_eq_true rfl) rfl d_Mo_costs_45 ?_
  refine r_aload_n hX 0 d_Mo_costs_48 rfl ?_
  refine r_iconstN hX 0 d_Mo_costs_49 rfl ?_
  refine r_put hX (ws' := [(mo, .inr (10, [.int (iI ((0 : Nat) : Int)), .ref ml, .ref mz, .ref ms, .int (iI x), .int (iI y), .int (iI ((0 : Nat) : Int)), .int (iI (bI (pt = true))), .int (iI ((fr : Nat) : Int)), .ref mt, .int (iI ((sn : Nat) : Int)), .ref mb, .ref me, .ref bt, .ref wy, .ref lq, .ref df, .int (iI ((dn : Nat) : Int))]))]) cf_Mo 0 rfl 6 (by decide) fl_Mo_61 rfl (by decide +kernel) (by decide +kernel) (Nat.le_of_ble_eq_true rfl) rfl d_Mo_costs_50 ?_
  exact r_vret hX hT () trivial rfl (by decide) (by decide) d_Mo_costs_53

abbrev rm_Mo_steps_n : Room := { frames := 0, cells := 0, slots := 0, locals := 0 }
set_option maxHeartbeats 4000000 in
set_option maxRecDepth 100000 in
theorem c_Mo_steps_n (l : Launch) (D : va_G) (tI tJ tZ : ClassId) (mo : Nat) (ml : Nat) (mz : Nat) (ms : Nat) (mt : Nat) (mb : Nat) (me : Nat) (bt : Nat) (wy : Nat) (lq : Nat) (df : Nat) (cd : Int) (op : Int) (mr : Int) (ld : Bool) (pt : Bool) (fr : Nat) (sn : Nat) (dn : Nat) (hl : ¬ ld = true) : rCi l y_Mo_steps prog_12_method_27_code 1 .int rm_Mo_steps_n D (tysA tI tJ tZ) [.ref mo] [(mo, .inr (10, [.int (iI cd), .ref ml, .ref mz, .ref ms, .int (iI op), .int (iI mr), .int (iI (bI (ld = true))), .int (iI (bI (pt = true))), .int (iI ((fr : Nat) : Int)), .ref mt, .int (iI ((sn : Nat) : Int)), .ref mb, .ref me, .ref bt, .ref wy, .ref lq, .ref df, .int (iI ((dn : Nat) : Int))]))] (fun zz (_ : Unit) => zz = iI (((0 : Nat) : Int))) (fun (_ : Unit) => [(mo, .inr (10, [.int (iI 1), .ref ml, .ref mz, .ref ms, .int (iI op), .int (iI mr), .int (iI (bI (ld = true))), .int (iI (bI (pt = true))), .int (iI ((fr : Nat) : Int)), .ref mt, .int (iI ((sn : Nat) : Int)), .ref mb, .ref me, .ref bt, .ref wy, .ref lq, .ref df, .int (iI ((dn : Nat) : Int))]))]) := by
  intro sz
  refine r_met (by decide) (Nat.le_of_ble_eq_true rfl) ?_
  intro F p e s m args below meth c Q A hX hT hAe hsz hin
  subst hAe
  replace hX : rOK F p l e rm_Mo_steps_n s m args below meth c Q prog_12_method_27_code 1 "RowAlignerModel" D (tysA tI tJ tZ) _ := hX
  show F 0 [(0, .ref mo)] [] [(mo, .inr (10, [.int (iI cd), .ref ml, .ref mz, .ref ms, .int (iI op), .int (iI mr), .int (iI (bI (ld = true))), .int (iI (bI (pt = true))), .int (iI ((fr : Nat) : Int)), .ref mt, .int (iI ((sn : Nat) : Int)), .ref mb, .ref me, .ref bt, .ref wy, .ref lq, .ref df, .int (iI ((dn : Nat) : Int))]))] 0 0
  refine r_aload_n hX 0 d_Mo_steps_0 rfl ?_
  refine r_aload_n hX 0 d_Mo_steps_1 rfl ?_
  refine r_get hX cf_Mo 0 rfl 6 (by decide) fl_Mo_61 rfl d_Mo_steps_2 ?_
  refine rb_if_eq hX 12 d_Mo_steps_5 (by decide) (fun h5 => ?_) (fun h5 => by exfalso; exact hl h5)
  refine r_iconstN hX 1 d_Mo_steps_12 rfl ?_
  refine r_put hX (ws' := [(mo, .inr (10, [.int (iI ((1 : Nat) : Int)), .ref ml, .ref mz, .ref ms, .int (iI op), .int (iI mr), .int (iI (bI (ld = true))), .int (iI (bI (pt = true))), .int (iI ((fr : Nat) : Int)), .ref mt, .int (iI ((sn : Nat) : Int)), .ref mb, .ref me, .ref bt, .ref wy, .ref lq, .ref df, .int (iI ((dn : Nat) : Int))]))]) cf_Mo 0 rfl 0 (by decide) fl_Mo_52 rfl rfl rfl (Nat.le_of_ble_eq_true rfl) rfl d_Mo_steps_13 ?_
  refine r_aload_n hX 0 d_Mo_steps_16 rfl ?_
  refine r_get hX cf_Mo 0 rfl 0 (by decide) fl_Mo_52 rfl d_Mo_steps_17 ?_
  refine r_if_le hX 27 d_Mo_steps_20 (by decide) (by unfold iR; omega) (fun h20 => by exfalso; omega) (fun h20 => ?_)
  refine r_iconstN hX 0 d_Mo_steps_23 rfl ?_
  refine r_goto hX 31 d_Mo_steps_24 (by decide) ?_
  exact r_iret hX hT () rfl rfl (by decide) (by decide) d_Mo_steps_31

abbrev rm_Mo_steps : Room := { frames := 0, cells := 0, slots := 0, locals := 0 }
set_option maxHeartbeats 4000000 in
set_option maxRecDepth 100000 in
theorem c_Mo_steps (l : Launch) (D : va_G) (tI tJ tZ : ClassId) (mo : Nat) (ml : Nat) (mz : Nat) (ms : Nat) (mt : Nat) (mb : Nat) (me : Nat) (bt : Nat) (wy : Nat) (lq : Nat) (df : Nat) (cd : Int) (op : Int) (mr : Int) (ld : Bool) (pt : Bool) (fr : Nat) (sn : Nat) (dn : Nat) (hl : ld = true) : rCi l y_Mo_steps prog_12_method_27_code 1 .int rm_Mo_steps D (tysA tI tJ tZ) [.ref mo] [(mo, .inr (10, [.int (iI cd), .ref ml, .ref mz, .ref ms, .int (iI op), .int (iI mr), .int (iI (bI (ld = true))), .int (iI (bI (pt = true))), .int (iI ((fr : Nat) : Int)), .ref mt, .int (iI ((sn : Nat) : Int)), .ref mb, .ref me, .ref bt, .ref wy, .ref lq, .ref df, .int (iI ((dn : Nat) : Int))]))] (fun zz (_ : Unit) => zz = iI (((sn : Nat) : Int))) (fun (_ : Unit) => [(mo, .inr (10, [.int (iI 0), .ref ml, .ref mz, .ref ms, .int (iI op), .int (iI mr), .int (iI (bI (ld = true))), .int (iI (bI (pt = true))), .int (iI ((fr : Nat) : Int)), .ref mt, .int (iI ((sn : Nat) : Int)), .ref mb, .ref me, .ref bt, .ref wy, .ref lq, .ref df, .int (iI ((dn : Nat) : Int))]))]) := by
  intro sz
  refine r_met (by decide) (Nat.le_of_ble_eq_true rfl) ?_
  intro F p e s m args below meth c Q A hX hT hAe hsz hin
  subst hAe
  replace hX : rOK F p l e rm_Mo_steps s m args below meth c Q prog_12_method_27_code 1 "RowAlignerModel" D (tysA tI tJ tZ) _ := hX
  show F 0 [(0, .ref mo)] [] [(mo, .inr (10, [.int (iI cd), .ref ml, .ref mz, .ref ms, .int (iI op), .int (iI mr), .int (iI (bI (ld = true))), .int (iI (bI (pt = true))), .int (iI ((fr : Nat) : Int)), .ref mt, .int (iI ((sn : Nat) : Int)), .ref mb, .ref me, .ref bt, .ref wy, .ref lq, .ref df, .int (iI ((dn : Nat) : Int))]))] 0 0
  refine r_aload_n hX 0 d_Mo_steps_0 rfl ?_
  refine r_aload_n hX 0 d_Mo_steps_1 rfl ?_
  refine r_get hX cf_Mo 0 rfl 6 (by decide) fl_Mo_61 rfl d_Mo_steps_2 ?_
  refine rb_if_eq hX 12 d_Mo_steps_5 (by decide) (fun h5 => by exfalso; exact h5 hl) (fun h5 => ?_)
  refine r_iconstN hX 0 d_Mo_steps_8 rfl ?_
  refine r_goto hX 13 d_Mo_steps_9 (by decide) ?_
  refine r_put hX (ws' := [(mo, .inr (10, [.int (iI ((0 : Nat) : Int)), .ref ml, .ref mz, .ref ms, .int (iI op), .int (iI mr), .int (iI (bI (ld = true))), .int (iI (bI (pt = true))), .int (iI ((fr : Nat) : Int)), .ref mt, .int (iI ((sn : Nat) : Int)), .ref mb, .ref me, .ref bt, .ref wy, .ref lq, .ref df, .int (iI ((dn : Nat) : Int))]))]) cf_Mo 0 rfl 0 (by decide) fl_Mo_52 rfl rfl rfl (Nat.le_of_ble_eq_true rfl) rfl d_Mo_steps_13 ?_
  refine r_aload_n hX 0 d_Mo_steps_16 rfl ?_
  refine r_get hX cf_Mo 0 rfl 0 (by decide) fl_Mo_52 rfl d_Mo_steps_17 ?_
  refine r_if_le hX 27 d_Mo_steps_20 (by decide) (by unfold iR; omega) (fun h20 => ?_) (fun h20 => by exfalso; omega)
  refine r_aload_n hX 0 d_Mo_steps_27 rfl ?_
  refine r_get hX cf_Mo 0 rfl 10 (by decide) fl_Mo_98 rfl d_Mo_steps_28 ?_
  exact r_iret hX hT () rfl rfl (by decide) (by decide) d_Mo_steps_31

abbrev rm_Mo_step_n : Room := { frames := 0, cells := 0, slots := 0, locals := 0 }
set_option maxHeartbeats 4000000 in
set_option maxRecDepth 100000 in
theorem c_Mo_step_n (l : Launch) (D : va_G) (tI tJ tZ : ClassId) (mo : Nat) (ml : Nat) (mz : Nat) (ms : Nat) (mt : Nat) (mb : Nat) (me : Nat) (bt : Nat) (wy : Nat) (lq : Nat) (df : Nat) (cd : Int) (op : Int) (mr : Int) (ld : Bool) (pt : Bool) (fr : Nat) (sn : Nat) (dn : Nat) (x : Int) (hl : ¬ ld = true) : rCi l y_Mo_step prog_12_method_28_code 2 .int rm_Mo_step_n D (tysA tI tJ tZ) [.ref mo, .int (iI x)] [(mo, .inr (10, [.int (iI cd), .ref ml, .ref mz, .ref ms, .int (iI op), .int (iI mr), .int (iI (bI (ld = true))), .int (iI (bI (pt = true))), .int (iI ((fr : Nat) : Int)), .ref mt, .int (iI ((sn : Nat) : Int)), .ref mb, .ref me, .ref bt, .ref wy, .ref lq, .ref df, .int (iI ((dn : Nat) : Int))]))] (fun zz (_ : Unit) => zz = iI (((0 : Nat) : Int))) (fun (_ : Unit) => [(mo, .inr (10, [.int (iI 1), .ref ml, .ref mz, .ref ms, .int (iI op), .int (iI mr), .int (iI (bI (ld = true))), .int (iI (bI (pt = true))), .int (iI ((fr : Nat) : Int)), .ref mt, .int (iI ((sn : Nat) : Int)), .ref mb, .ref me, .ref bt, .ref wy, .ref lq, .ref df, .int (iI ((dn : Nat) : Int))]))]) := by
  intro sz
  refine r_met (by decide) (Nat.le_of_ble_eq_true rfl) ?_
  intro F p e s m args below meth c Q A hX hT hAe hsz hin
  subst hAe
  replace hX : rOK F p l e rm_Mo_step_n s m args below meth c Q prog_12_method_28_code 2 "RowAlignerModel" D (tysA tI tJ tZ) _ := hX
  show F 0 [(0, .ref mo), (1, .int (iI x))] [] [(mo, .inr (10, [.int (iI cd), .ref ml, .ref mz, .ref ms, .int (iI op), .int (iI mr), .int (iI (bI (ld = true))), .int (iI (bI (pt = true))), .int (iI ((fr : Nat) : Int)), .ref mt, .int (iI ((sn : Nat) : Int)), .ref mb, .ref me, .ref bt, .ref wy, .ref lq, .ref df, .int (iI ((dn : Nat) : Int))]))] 0 0
  refine r_aload_n hX 0 d_Mo_step_0 rfl ?_
  refine r_aload_n hX 0 d_Mo_step_1 rfl ?_
  refine r_get hX cf_Mo 0 rfl 6 (by decide) fl_Mo_61 rfl d_Mo_step_2 ?_
  refine rb_if_ne hX 12 d_Mo_step_5 (by decide) (fun h5 => by exfalso; exact hl h5) (fun h5 => ?_)
  refine r_iconstN hX 1 d_Mo_step_8 rfl ?_
  refine r_goto hX 29 d_Mo_step_9 (by decide) ?_
  refine r_put hX (ws' := [(mo, .inr (10, [.int (iI ((1 : Nat) : Int)), .ref ml, .ref mz, .ref ms, .int (iI op), .int (iI mr), .int (iI (bI (ld = true))), .int (iI (bI (pt = true))), .int (iI ((fr : Nat) : Int)), .ref mt, .int (iI ((sn : Nat) : Int)), .ref mb, .ref me, .ref bt, .ref wy, .ref lq, .ref df, .int (iI ((dn : Nat) : Int))]))]) cf_Mo 0 rfl 0 (by decide) fl_Mo_52 rfl rfl rfl (Nat.le_of_ble_eq_true rfl) rfl d_Mo_step_29 ?_
  refine r_aload_n hX 0 d_Mo_step_32 rfl ?_
  refine r_get hX cf_Mo 0 rfl 0 (by decide) fl_Mo_52 rfl d_Mo_step_33 ?_
  refine r_if_le hX 43 d_Mo_step_36 (by decide) (by unfold iR; omega) (fun h36 => by exfalso; omega) (fun h36 => ?_)
  refine r_iconstN hX 0 d_Mo_step_39 rfl ?_
  refine r_goto hX 49 d_Mo_step_40 (by decide) ?_
  exact r_iret hX hT () rfl rfl (by decide) (by decide) d_Mo_step_49

abbrev rm_Mo_step_i : Room := { frames := 0, cells := 0, slots := 0, locals := 0 }
set_option maxHeartbeats 4000000 in
set_option maxRecDepth 100000 in
theorem c_Mo_step_i (l : Launch) (D : va_G) (tI tJ tZ : ClassId) (mo : Nat) (ml : Nat) (mz : Nat) (ms : Nat) (mt : Nat) (mb : Nat) (me : Nat) (bt : Nat) (wy : Nat) (lq : Nat) (df : Nat) (cd : Int) (op : Int) (mr : Int) (ld : Bool) (pt : Bool) (fr : Nat) (sn : Nat) (dn : Nat) (x : Int) (hx : iR x) (hl : ld = true) (hs : sn ≤ 192) (hn : x < 0 ∨ ((sn : Nat) : Int) ≤ x) : rCi l y_Mo_step prog_12_method_28_code 2 .int rm_Mo_step_i D (tysA tI tJ tZ) [.ref mo, .int (iI x)] [(mo, .inr (10, [.int (iI cd), .ref ml, .ref mz, .ref ms, .int (iI op), .int (iI mr), .int (iI (bI (ld = true))), .int (iI (bI (pt = true))), .int (iI ((fr : Nat) : Int)), .ref mt, .int (iI ((sn : Nat) : Int)), .ref mb, .ref me, .ref bt, .ref wy, .ref lq, .ref df, .int (iI ((dn : Nat) : Int))]))] (fun zz (_ : Unit) => zz = iI (((0 : Nat) : Int))) (fun (_ : Unit) => [(mo, .inr (10, [.int (iI 2), .ref ml, .ref mz, .ref ms, .int (iI op), .int (iI mr), .int (iI (bI (ld = true))), .int (iI (bI (pt = true))), .int (iI ((fr : Nat) : Int)), .ref mt, .int (iI ((sn : Nat) : Int)), .ref mb, .ref me, .ref bt, .ref wy, .ref lq, .ref df, .int (iI ((dn : Nat) : Int))]))]) := by
  intro sz
  refine r_met (by decide) (Nat.le_of_ble_eq_true rfl) ?_
  intro F p e s m args below meth c Q A hX hT hAe hsz hin
  subst hAe
  replace hX : rOK F p l e rm_Mo_step_i s m args below meth c Q prog_12_method_28_code 2 "RowAlignerModel" D (tysA tI tJ tZ) _ := hX
  unfold iR at hx
  show F 0 [(0, .ref mo), (1, .int (iI x))] [] [(mo, .inr (10, [.int (iI cd), .ref ml, .ref mz, .ref ms, .int (iI op), .int (iI mr), .int (iI (bI (ld = true))), .int (iI (bI (pt = true))), .int (iI ((fr : Nat) : Int)), .ref mt, .int (iI ((sn : Nat) : Int)), .ref mb, .ref me, .ref bt, .ref wy, .ref lq, .ref df, .int (iI ((dn : Nat) : Int))]))] 0 0
  refine r_aload_n hX 0 d_Mo_step_0 rfl ?_
  refine r_aload_n hX 0 d_Mo_step_1 rfl ?_
  refine r_get hX cf_Mo 0 rfl 6 (by decide) fl_Mo_61 rfl d_Mo_step_2 ?_
  refine rb_if_ne hX 12 d_Mo_step_5 (by decide) (fun h5 => ?_) (fun h5 => by exfalso; exact h5 hl)
  refine r_iload_n hX 1 d_Mo_step_12 rfl ?_
  have J29 : F 29 [(0, .ref mo), (1, .int (iI x))] [.int (iI 2), .ref mo] [(mo, .inr (10, [.int (iI cd), .ref ml, .ref mz, .ref ms, .int (iI op), .int (iI mr), .int (iI (bI (ld = true))), .int (iI (bI (pt = true))), .int (iI ((fr : Nat) : Int)), .ref mt, .int (iI ((sn : Nat) : Int)), .ref mb, .ref me, .ref bt, .ref wy, .ref lq, .ref df, .int (iI ((dn : Nat) : Int))]))] 0 0 := by
    refine r_put hX (ws' := [(mo, .inr (10, [.int (iI 2), .ref ml, .ref mz, .ref ms, .int (iI op), .int (iI mr), .int (iI (bI (ld = true))), .int (iI (bI (pt = true))), .int (iI ((fr : Nat) : Int)), .ref mt, .int (iI ((sn : Nat) : Int)), .ref mb, .ref me, .ref bt, .ref wy, .ref lq, .ref df, .int (iI ((dn : Nat) : Int))]))]) cf_Mo 0 rfl 0 (by decide) fl_Mo_52 rfl rfl rfl (Nat.le_of_ble_eq_true rfl) rfl d_Mo_step_29 ?_
    refine r_aload_n hX 0 d_Mo_step_32 rfl ?_
    refine r_get hX cf_Mo 0 rfl 0 (by decide) fl_Mo_52 rfl d_Mo_step_33 ?_
    refine r_if_le hX 43 d_Mo_step_36 (by decide) (by unfold iR; omega) (fun h36 => by exfalso; omega) (fun h36 => ?_)
    refine r_iconstN hX 0 d_Mo_step_39 rfl ?_
    refine r_goto hX 49 d_Mo_step_40 (by decide) ?_
    exact r_iret hX hT () rfl rfl (by decide) (by decide) d_Mo_step_49
  refine r_if_lt hX 24 d_Mo_step_13 (by decide) (by unfold iR; omega) (fun h13 => ?_) (fun h13 => ?_)
  · refine r_iconstN hX 2 d_Mo_step_24 rfl ?_
    refine r_goto hX 29 d_Mo_step_25 (by decide) ?_
    exact rj_e (by rfl) J29
  · refine r_iload_n hX 1 d_Mo_step_16 rfl ?_
    refine r_aload_n hX 0 d_Mo_step_17 rfl ?_
    refine r_get hX cf_Mo 0 rfl 10 (by decide) fl_Mo_98 rfl d_Mo_step_18 ?_
    refine r_icmp_lt hX 28 d_Mo_step_21 (by decide) (by unfold iR; omega) (by unfold iR; omega) (fun h21 => by exfalso; omega) (fun h21 => ?_)
    refine r_iconstN hX 2 d_Mo_step_24 rfl ?_
    refine r_goto hX 29 d_Mo_step_25 (by decide) ?_
    exact rj_e (by rfl) J29

abbrev rm_Mo_step : Room := { frames := 0, cells := 0, slots := 0, locals := 0 }
set_option maxHeartbeats 4000000 in
set_option maxRecDepth 100000 in
theorem c_Mo_step (l : Launch) (D : va_G) (tI tJ tZ : ClassId) (mo : Nat) (ml : Nat) (mz : Nat) (ms : Nat) (mt : Nat) (mb : Nat) (me : Nat) (bt : Nat) (wy : Nat) (lq : Nat) (df : Nat) (cd : Int) (op : Int) (mr : Int) (ld : Bool) (pt : Bool) (fr : Nat) (sn : Nat) (dn : Nat) (d : Nat → Nat) (x : Nat) (hl : ld = true) (hs : sn ≤ 192) (hn : x < sn) : rCi l y_Mo_step prog_12_method_28_code 2 .int rm_Mo_step D (tysA tI tJ tZ) [.ref mo, .int (iI ((x : Nat) : Int))] [(mo, .inr (10, [.int (iI cd), .ref ml, .ref mz, .ref ms, .int (iI op), .int (iI mr), .int (iI (bI (ld = true))), .int (iI (bI (pt = true))), .int (iI ((fr : Nat) : Int)), .ref mt, .int (iI ((sn : Nat) : Int)), .ref mb, .ref me, .ref bt, .ref wy, .ref lq, .ref df, .int (iI ((dn : Nat) : Int))])), (mt, .inl (tI, 192, .inl (iA (iN d))))] (fun zz (_ : Unit) => zz = iI (((d x : Nat) : Int))) (fun (_ : Unit) => [(mo, .inr (10, [.int (iI 0), .ref ml, .ref mz, .ref ms, .int (iI op), .int (iI mr), .int (iI (bI (ld = true))), .int (iI (bI (pt = true))), .int (iI ((fr : Nat) : Int)), .ref mt, .int (iI ((sn : Nat) : Int)), .ref mb, .ref me, .ref bt, .ref wy, .ref lq, .ref df, .int (iI ((dn : Nat) : Int))])), (mt, .inl (tI, 192, .inl (iA (iN d))))]) := by
  intro sz
  refine r_met (by decide) (Nat.le_of_ble_eq_true rfl) ?_
  intro F p e s m args below meth c Q A hX hT hAe hsz hin
  subst hAe
  replace hX : rOK F p l e rm_Mo_step s m args below meth c Q prog_12_method_28_code 2 "RowAlignerModel" D (tysA tI tJ tZ) _ := hX
  show F 0 [(0, .ref mo), (1, .int (iI ((x : Nat) : Int)))] [] [(mo, .inr (10, [.int (iI cd), .ref ml, .ref mz, .ref ms, .int (iI op), .int (iI mr), .int (iI (bI (ld = true))), .int (iI (bI (pt = true))), .int (iI ((fr : Nat) : Int)), .ref mt, .int (iI ((sn : Nat) : Int)), .ref mb, .ref me, .ref bt, .ref wy, .ref lq, .ref df, .int (iI ((dn : Nat) : Int))])), (mt, .inl (tI, 192, .inl (iA (iN d))))] 0 0
  refine r_aload_n hX 0 d_Mo_step_0 rfl ?_
  refine r_aload_n hX 0 d_Mo_step_1 rfl ?_
  refine r_get hX cf_Mo 0 rfl 6 (by decide) fl_Mo_61 rfl d_Mo_step_2 ?_
  refine rb_if_ne hX 12 d_Mo_step_5 (by decide) (fun h5 => ?_) (fun h5 => by exfalso; exact h5 hl)
  refine r_iload_n hX 1 d_Mo_step_12 rfl ?_
  refine r_if_lt hX 24 d_Mo_step_13 (by decide) (by unfold iR; omega) (fun h13 => by exfalso; omega) (fun h13 => ?_)
  refine r_iload_n hX 1 d_Mo_step_16 rfl ?_
  refine r_aload_n hX 0 d_Mo_step_17 rfl ?_
  refine r_get hX cf_Mo 0 rfl 10 (by decide) fl_Mo_98 rfl d_Mo_step_18 ?_
  refine r_icmp_lt hX 28 d_Mo_step_21 (by decide) (by unfold iR; omega) (by unfold iR; omega) (fun h21 => ?_) (fun h21 => by exfalso; omega)
  refine r_iconstN hX 0 d_Mo_step_28 rfl ?_
  refine r_put hX (ws' := [(mo, .inr (10, [.int (iI ((0 : Nat) : Int)), .ref ml, .ref mz, .ref ms, .int (iI op), .int (iI mr), .int (iI (bI (ld = true))), .int (iI (bI (pt = true))), .int (iI ((fr : Nat) : Int)), .ref mt, .int (iI ((sn : Nat) : Int)), .ref mb, .ref me, .ref bt, .ref wy, .ref lq, .ref df, .int (iI ((dn : Nat) : Int))])), (mt, .inl (tI, 192, .inl (iA (iN d))))]) cf_Mo 0 rfl 0 (by decide) fl_Mo_52 rfl rfl rfl (Nat.le_of_ble_eq_true rfl) rfl d_Mo_step_29 ?_
  refine r_aload_n hX 0 d_Mo_step_32 rfl ?_
  refine r_get hX cf_Mo 0 rfl 0 (by decide) fl_Mo_52 rfl d_Mo_step_33 ?_
  refine r_if_le hX 43 d_Mo_step_36 (by decide) (by unfold iR; omega) (fun h36 => ?_) (fun h36 => by exfalso; omega)
  refine r_aload_n hX 0 d_Mo_step_43 rfl ?_
  refine r_get hX cf_Mo 0 rfl 9 (by decide) fl_Mo_26 rfl d_Mo_step_44 ?_
  refine r_iload_n hX 1 d_Mo_step_47 rfl ?_
  refine r_ialdN hX 1 0 rfl rfl (x) rfl (by omega) (by decide) d_Mo_step_48 ?_
  exact r_iret hX hT () rfl rfl (by decide) (by decide) d_Mo_step_49

abbrev rm_Mo_place_r : Room := { frames := 0, cells := 0, slots := 0, locals := 0 }
set_option maxHeartbeats 4000000 in
set_option maxRecDepth 100000 in
theorem c_Mo_place_r (l : Launch) (D : va_G) (tI tJ tZ : ClassId) (mo : Nat) (ml : Nat) (mz : Nat) (ms : Nat) (mt : Nat) (mb : Nat) (me : Nat) (bt : Nat) (wy : Nat) (lq : Nat) (df : Nat) (cd : Int) (op : Int) (mr : Int) (ld : Bool) (pt : Bool) (fr : Nat) (sn : Nat) (dn : Nat) (x : Int) (eb : Bool) (hx : iR x) (hr : x < 0 ∨ 1 < x) : rCi l y_Mo_place prog_12_method_29_code 3 .int rm_Mo_place_r D (tysA tI tJ tZ) [.ref mo, .int (iI x), .int (iI (bI (eb = true)))] [(mo, .inr (10, [.int (iI cd), .ref ml, .ref mz, .ref ms, .int (iI op), .int (iI mr), .int (iI (bI (ld = true))), .int (iI (bI (pt = true))), .int (iI ((fr : Nat) : Int)), .ref mt, .int (iI ((sn : Nat) : Int)), .ref mb, .ref me, .ref bt, .ref wy, .ref lq, .ref df, .int (iI ((dn : Nat) : Int))]))] (fun zz (_ : Unit) => zz = iI (((0 : Nat) : Int))) (fun (_ : Unit) => [(mo, .inr (10, [.int (iI 1), .ref ml, .ref mz, .ref ms, .int (iI op), .int (iI mr), .int (iI (bI (ld = true))), .int (iI (bI (pt = true))), .int (iI ((fr : Nat) : Int)), .ref mt, .int (iI ((sn : Nat) : Int)), .ref mb, .ref me, .ref bt, .ref wy, .ref lq, .ref df, .int (iI ((dn : Nat) : Int))]))]) := by
  intro sz
  refine r_met (by decide) (Nat.le_of_ble_eq_true rfl) ?_
  intro F p e s m args below meth c Q A hX hT hAe hsz hin
  subst hAe
  replace hX : rOK F p l e rm_Mo_place_r s m args below meth c Q prog_12_method_29_code 3 "RowAlignerModel" D (tysA tI tJ tZ) _ := hX
  unfold iR at hx
  show F 0 [(0, .ref mo), (1, .int (iI x)), (2, .int (iI (bI (eb = true))))] [] [(mo, .inr (10, [.int (iI cd), .ref ml, .ref mz, .ref ms, .int (iI op), .int (iI mr), .int (iI (bI (ld = true))), .int (iI (bI (pt = true))), .int (iI ((fr : Nat) : Int)), .ref mt, .int (iI ((sn : Nat) : Int)), .ref mb, .ref me, .ref bt, .ref wy, .ref lq, .ref df, .int (iI ((dn : Nat) : Int))]))] 0 0
  refine r_aload_n hX 0 d_Mo_place_0 rfl ?_
  refine r_iload_n hX 1 d_Mo_place_1 rfl ?_
  have J26 : F 26 [(0, .ref mo), (1, .int (iI x)), (2, .int (iI (bI (eb = true))))] [.int (iI 1), .ref mo] [(mo, .inr (10, [.int (iI cd), .ref ml, .ref mz, .ref ms, .int (iI op), .int (iI mr), .int (iI (bI (ld = true))), .int (iI (bI (pt = true))), .int (iI ((fr : Nat) : Int)), .ref mt, .int (iI ((sn : Nat) : Int)), .ref mb, .ref me, .ref bt, .ref wy, .ref lq, .ref df, .int (iI ((dn : Nat) : Int))]))] 0 0 := by
    refine r_put hX (ws' := [(mo, .inr (10, [.int (iI 1), .ref ml, .ref mz, .ref ms, .int (iI op), .int (iI mr), .int (iI (bI (ld = true))), .int (iI (bI (pt = true))), .int (iI ((fr : Nat) : Int)), .ref mt, .int (iI ((sn : Nat) : Int)), .ref mb, .ref me, .ref bt, .ref wy, .ref lq, .ref df, .int (iI ((dn : Nat) : Int))]))]) cf_Mo 0 rfl 0 (by decide) fl_Mo_52 rfl rfl rfl (Nat.le_of_ble_eq_true rfl) rfl d_Mo_place_26 ?_
    refine r_aload_n hX 0 d_Mo_place_29 rfl ?_
    refine r_get hX cf_Mo 0 rfl 0 (by decide) fl_Mo_52 rfl d_Mo_place_30 ?_
    refine r_if_le hX 40 d_Mo_place_33 (by decide) (by unfold iR; omega) (fun h33 => by exfalso; omega) (fun h33 => ?_)
    refine r_iconstN hX 0 d_Mo_place_36 rfl ?_
    refine r_goto hX 59 d_Mo_place_37 (by decide) ?_
    exact r_iret hX hT () rfl rfl (by decide) (by decide) d_Mo_place_59
  refine r_if_lt hX 10 d_Mo_place_2 (by decide) (by unfold iR; omega) (fun h2 => ?_) (fun h2 => ?_)
  · refine r_iconstN hX 1 d_Mo_place_10 rfl ?_
    refine r_goto hX 26 d_Mo_place_11 (by decide) ?_
    exact rj_e (by rfl) J26
  · refine r_iload_n hX 1 d_Mo_place_5 rfl ?_
    refine r_iconstN hX 1 d_Mo_place_6 rfl ?_
    refine r_icmp_le hX 14 d_Mo_place_7 (by decide) (by unfold iR; omega) (by unfold iR; omega) (fun h7 => by exfalso; omega) (fun h7 => ?_)
    refine r_iconstN hX 1 d_Mo_place_10 rfl ?_
    refine r_goto hX 26 d_Mo_place_11 (by decide) ?_
    exact rj_e (by rfl) J26

abbrev rm_Mo_place_n : Room := { frames := 0, cells := 0, slots := 0, locals := 0 }
set_option maxHeartbeats 4000000 in
set_option maxRecDepth 100000 in
theorem c_Mo_place_n (l : Launch) (D : va_G) (tI tJ tZ : ClassId) (mo : Nat) (ml : Nat) (mz : Nat) (ms : Nat) (mt : Nat) (mb : Nat) (me : Nat) (bt : Nat) (wy : Nat) (lq : Nat) (df : Nat) (cd : Int) (op : Int) (mr : Int) (ld : Bool) (pt : Bool) (fr : Nat) (sn : Nat) (dn : Nat) (x : Nat) (eb : Bool) (hl : ¬ ld = true) (hr : x ≤ 1) : rCi l y_Mo_place prog_12_method_29_code 3 .int rm_Mo_place_n D (tysA tI tJ tZ) [.ref mo, .int (iI ((x : Nat) : Int)), .int (iI (bI (eb = true)))] [(mo, .inr (10, [.int (iI cd), .ref ml, .ref mz, .ref ms, .int (iI op), .int (iI mr), .int (iI (bI (ld = true))), .int (iI (bI (pt = true))), .int (iI ((fr : Nat) : Int)), .ref mt, .int (iI ((sn : Nat) : Int)), .ref mb, .ref me, .ref bt, .ref wy, .ref lq, .ref df, .int (iI ((dn : Nat) : Int))]))] (fun zz (_ : Unit) => zz = iI (((0 : Nat) : Int))) (fun (_ : Unit) => [(mo, .inr (10, [.int (iI 2), .ref ml, .ref mz, .ref ms, .int (iI op), .int (iI mr), .int (iI (bI (ld = true))), .int (iI (bI (pt = true))), .int (iI ((fr : Nat) : Int)), .ref mt, .int (iI ((sn : Nat) : Int)), .ref mb, .ref me, .ref bt, .ref wy, .ref lq, .ref df, .int (iI ((dn : Nat) : Int))]))]) := by
  intro sz
  refine r_met (by decide) (Nat.le_of_ble_eq_true rfl) ?_
  intro F p e s m args below meth c Q A hX hT hAe hsz hin
  subst hAe
  replace hX : rOK F p l e rm_Mo_place_n s m args below meth c Q prog_12_method_29_code 3 "RowAlignerModel" D (tysA tI tJ tZ) _ := hX
  show F 0 [(0, .ref mo), (1, .int (iI ((x : Nat) : Int))), (2, .int (iI (bI (eb = true))))] [] [(mo, .inr (10, [.int (iI cd), .ref ml, .ref mz, .ref ms, .int (iI op), .int (iI mr), .int (iI (bI (ld = true))), .int (iI (bI (pt = true))), .int (iI ((fr : Nat) : Int)), .ref mt, .int (iI ((sn : Nat) : Int)), .ref mb, .ref me, .ref bt, .ref wy, .ref lq, .ref df, .int (iI ((dn : Nat) : Int))]))] 0 0
  refine r_aload_n hX 0 d_Mo_place_0 rfl ?_
  refine r_iload_n hX 1 d_Mo_place_1 rfl ?_
  refine r_if_lt hX 10 d_Mo_place_2 (by decide) (by unfold iR; omega) (fun h2 => by exfalso; omega) (fun h2 => ?_)
  refine r_iload_n hX 1 d_Mo_place_5 rfl ?_
  refine r_iconstN hX 1 d_Mo_place_6 rfl ?_
  refine r_icmp_le hX 14 d_Mo_place_7 (by decide) (by unfold iR; omega) (by unfold iR; omega) (fun h7 => ?_) (fun h7 => by exfalso; omega)
  refine r_aload_n hX 0 d_Mo_place_14 rfl ?_
  refine r_get hX cf_Mo 0 rfl 6 (by decide) fl_Mo_61 rfl d_Mo_place_15 ?_
  refine rb_if_ne hX 25 d_Mo_place_18 (by decide) (fun h18 => by exfalso; exact hl h18) (fun h18 => ?_)
  refine r_iconstN hX 2 d_Mo_place_21 rfl ?_
  refine r_goto hX 26 d_Mo_place_22 (by decide) ?_
  refine r_put hX (ws' := [(mo, .inr (10, [.int (iI ((2 : Nat) : Int)), .ref ml, .ref mz, .ref ms, .int (iI op), .int (iI mr), .int (iI (bI (ld = true))), .int (iI (bI (pt = true))), .int (iI ((fr : Nat) : Int)), .ref mt, .int (iI ((sn : Nat) : Int)), .ref mb, .ref me, .ref bt, .ref wy, .ref lq, .ref df, .int (iI ((dn : Nat) : Int))]))]) cf_Mo 0 rfl 0 (by decide) fl_Mo_52 rfl rfl rfl (Nat.le_of_ble_eq_true rfl) rfl d_Mo_place_26 ?_
  refine r_aload_n hX 0 d_Mo_place_29 rfl ?_
  refine r_get hX cf_Mo 0 rfl 0 (by decide) fl_Mo_52 rfl d_Mo_place_30 ?_
  refine r_if_le hX 40 d_Mo_place_33 (by decide) (by unfold iR; omega) (fun h33 => by exfalso; omega) (fun h33 => ?_)
  refine r_iconstN hX 0 d_Mo_place_36 rfl ?_
  refine r_goto hX 59 d_Mo_place_37 (by decide) ?_
  exact r_iret hX hT () rfl rfl (by decide) (by decide) d_Mo_place_59

abbrev rm_Mo_place : Room := { frames := 0, cells := 0, slots := 0, locals := 0 }
set_option maxHeartbeats 4000000 in
set_option maxRecDepth 100000 in
theorem c_Mo_place (l : Launch) (D : va_G) (tI tJ tZ : ClassId) (mo : Nat) (ml : Nat) (mz : Nat) (ms : Nat) (mt : Nat) (mb : Nat) (me : Nat) (bt : Nat) (wy : Nat) (lq : Nat) (df : Nat) (cd : Int) (op : Int) (mr : Int) (ld : Bool) (pt : Bool) (fr : Nat) (sn : Nat) (dn : Nat) (B : Nat → Nat) (E : Nat → Nat) (x : Nat) (eb : Bool) (hl : ld = true) (hr : x ≤ 1) : rCi l y_Mo_place prog_12_method_29_code 3 .int rm_Mo_place D (tysA tI tJ tZ) [.ref mo, .int (iI ((x : Nat) : Int)), .int (iI (bI (eb = true)))] [(mo, .inr (10, [.int (iI cd), .ref ml, .ref mz, .ref ms, .int (iI op), .int (iI mr), .int (iI (bI (ld = true))), .int (iI (bI (pt = true))), .int (iI ((fr : Nat) : Int)), .ref mt, .int (iI ((sn : Nat) : Int)), .ref mb, .ref me, .ref bt, .ref wy, .ref lq, .ref df, .int (iI ((dn : Nat) : Int))])), (mb, .inl (tI, 2, .inl (iA (iN B)))), (me, .inl (tI, 2, .inl (iA (iN E))))] (fun zz (_ : Unit) => zz = iI (((if eb = true then E x else B x : Nat) : Int))) (fun (_ : Unit) => [(mo, .inr (10, [.int (iI 0), .ref ml, .ref mz, .ref ms, .int (iI op), .int (iI mr), .int (iI (bI (ld = true))), .int (iI (bI (pt = true))), .int (iI ((fr : Nat) : Int)), .ref mt, .int (iI ((sn : Nat) : Int)), .ref mb, .ref me, .ref bt, .ref wy, .ref lq, .ref df, .int (iI ((dn : Nat) : Int))])), (mb, .inl (tI, 2, .inl (iA (iN B)))), (me, .inl (tI, 2, .inl (iA (iN E))))]) := by
  intro sz
  refine r_met (by decide) (Nat.le_of_ble_eq_true rfl) ?_
  intro F p e s m args below meth c Q A hX hT hAe hsz hin
  subst hAe
  replace hX : rOK F p l e rm_Mo_place s m args below meth c Q prog_12_method_29_code 3 "RowAlignerModel" D (tysA tI tJ tZ) _ := hX
  show F 0 [(0, .ref mo), (1, .int (iI ((x : Nat) : Int))), (2, .int (iI (bI (eb = true))))] [] [(mo, .inr (10, [.int (iI cd), .ref ml, .ref mz, .ref ms, .int (iI op), .int (iI mr), .int (iI (bI (ld = true))), .int (iI (bI (pt = true))), .int (iI ((fr : Nat) : Int)), .ref mt, .int (iI ((sn : Nat) : Int)), .ref mb, .ref me, .ref bt, .ref wy, .ref lq, .ref df, .int (iI ((dn : Nat) : Int))])), (mb, .inl (tI, 2, .inl (iA (iN B)))), (me, .inl (tI, 2, .inl (iA (iN E))))] 0 0
  refine r_aload_n hX 0 d_Mo_place_0 rfl ?_
  refine r_iload_n hX 1 d_Mo_place_1 rfl ?_
  refine r_if_lt hX 10 d_Mo_place_2 (by decide) (by unfold iR; omega) (fun h2 => by exfalso; omega) (fun h2 => ?_)
  refine r_iload_n hX 1 d_Mo_place_5 rfl ?_
  refine r_iconstN hX 1 d_Mo_place_6 rfl ?_
  refine r_icmp_le hX 14 d_Mo_place_7 (by decide) (by unfold iR; omega) (by unfold iR; omega) (fun h7 => ?_) (fun h7 => by exfalso; omega)
  refine r_aload_n hX 0 d_Mo_place_14 rfl ?_
  refine r_get hX cf_Mo 0 rfl 6 (by decide) fl_Mo_61 rfl d_Mo_place_15 ?_
  refine rb_if_ne hX 25 d_Mo_place_18 (by decide) (fun h18 => ?_) (fun h18 => by exfalso; exact h18 hl)
  refine r_iconstN hX 0 d_Mo_place_25 rfl ?_
  refine r_put hX (ws' := [(mo, .inr (10, [.int (iI ((0 : Nat) : Int)), .ref ml, .ref mz, .ref ms, .int (iI op), .int (iI mr), .int (iI (bI (ld = true))), .int (iI (bI (pt = true))), .int (iI ((fr : Nat) : Int)), .ref mt, .int (iI ((sn : Nat) : Int)), .ref mb, .ref me, .ref bt, .ref wy, .ref lq, .ref df, .int (iI ((dn : Nat) : Int))])), (mb, .inl (tI, 2, .inl (iA (iN B)))), (me, .inl (tI, 2, .inl (iA (iN E))))]) cf_Mo 0 rfl 0 (by decide) fl_Mo_52 rfl rfl rfl (Nat.le_of_ble_eq_true rfl) rfl d_Mo_place_26 ?_
  refine r_aload_n hX 0 d_Mo_place_29 rfl ?_
  refine r_get hX cf_Mo 0 rfl 0 (by decide) fl_Mo_52 rfl d_Mo_place_30 ?_
  refine r_if_le hX 40 d_Mo_place_33 (by decide) (by unfold iR; omega) (fun h33 => ?_) (fun h33 => by exfalso; omega)
  refine r_iload_n hX 2 d_Mo_place_40 rfl ?_
  have J59 : F 59 [(0, .ref mo), (1, .int (iI ((x : Nat) : Int))), (2, .int (iI (bI (eb = true))))] [.int (iI ((if eb = true then E x else B x : Nat) : Int))] [(mo, .inr (10, [.int (iI ((0 : Nat) : Int)), .ref ml, .ref mz, .ref ms, .int (iI op), .int (iI mr), .int (iI (bI (ld = true))), .int (iI (bI (pt = true))), .int (iI ((fr : Nat) : Int)), .ref mt, .int (iI ((sn : Nat) : Int)), .ref mb, .ref me, .ref bt, .ref wy, .ref lq, .ref df, .int (iI ((dn : Nat) : Int))])), (mb, .inl (tI, 2, .inl (iA (iN B)))), (me, .inl (tI, 2, .inl (iA (iN E))))] 0 0 := by
    exact r_iret hX hT () rfl rfl (by decide) (by decide) d_Mo_place_59
  refine rb_if_eq hX 53 d_Mo_place_41 (by decide) (fun h41 => ?_) (fun h41 => ?_)
  · refine r_aload_n hX 0 d_Mo_place_53 rfl ?_
    refine r_get hX cf_Mo 0 rfl 11 (by decide) fl_Mo_29 rfl d_Mo_place_54 ?_
    refine r_iload_n hX 1 d_Mo_place_57 rfl ?_
    refine r_ialdN hX 1 0 rfl rfl (x) rfl (by omega) (by decide) d_Mo_place_58 ?_
    exact rj_e (by first | rw [if_pos h41] | rw [if_neg h41]) J59
  · refine r_aload_n hX 0 d_Mo_place_44 rfl ?_
    refine r_get hX cf_Mo 0 rfl 12 (by decide) fl_Mo_32 rfl d_Mo_place_45 ?_
    refine r_iload_n hX 1 d_Mo_place_48 rfl ?_
    refine r_ialdN hX 2 0 rfl rfl (x) rfl (by omega) (by decide) d_Mo_place_49 ?_
    refine r_goto hX 59 d_Mo_place_50 (by decide) ?_
    exact rj_e (by first | rw [if_pos h41] | rw [if_neg h41]) J59

abbrev rm_Mo_runsNow : Room := { frames := 0, cells := 0, slots := 0, locals := 0 }
set_option maxHeartbeats 4000000 in
set_option maxRecDepth 100000 in
theorem c_Mo_runsNow (l : Launch) (D : va_G) (tI tJ tZ : ClassId) (mo : Nat) (ml : Nat) (mz : Nat) (ms : Nat) (mt : Nat) (mb : Nat) (me : Nat) (bt : Nat) (wy : Nat) (lq : Nat) (df : Nat) (cd : Int) (op : Int) (mr : Int) (ld : Bool) (pt : Bool) (fr : Nat) (sn : Nat) (dn : Nat) (d : Nat → Nat) (hs : sn ≤ 192) (hd : ∀ t, d t < 3) : rCi l y_Mo_runsNow prog_12_method_30_code 3 .int rm_Mo_runsNow D (tysA tI tJ tZ) [.ref mo] [(mo, .inr (10, [.int (iI cd), .ref ml, .ref mz, .ref ms, .int (iI op), .int (iI mr), .int (iI (bI (ld = true))), .int (iI (bI (pt = true))), .int (iI ((fr : Nat) : Int)), .ref mt, .int (iI ((sn : Nat) : Int)), .ref mb, .ref me, .ref bt, .ref wy, .ref lq, .ref df, .int (iI ((dn : Nat) : Int))])), (mt, .inl (tI, 192, .inl (iA (iN d))))] (fun zz (_ : Unit) => zz = iI (((ra_cr d sn : Nat) : Int))) (fun (_ : Unit) => [(mo, .inr (10, [.int (iI cd), .ref ml, .ref mz, .ref ms, .int (iI op), .int (iI mr), .int (iI (bI (ld = true))), .int (iI (bI (pt = true))), .int (iI ((fr : Nat) : Int)), .ref mt, .int (iI ((sn : Nat) : Int)), .ref mb, .ref me, .ref bt, .ref wy, .ref lq, .ref df, .int (iI ((dn : Nat) : Int))])), (mt, .inl (tI, 192, .inl (iA (iN d))))]) := by
  intro sz
  refine r_met (by decide) (Nat.le_of_ble_eq_true rfl) ?_
  intro F p e s m args below meth c Q A hX hT hAe hsz hin
  subst hAe
  replace hX : rOK F p l e rm_Mo_runsNow s m args below meth c Q prog_12_method_30_code 3 "RowAlignerModel" D (tysA tI tJ tZ) _ := hX
  show F 0 [(0, .ref mo)] [] [(mo, .inr (10, [.int (iI cd), .ref ml, .ref mz, .ref ms, .int (iI op), .int (iI mr), .int (iI (bI (ld = true))), .int (iI (bI (pt = true))), .int (iI ((fr : Nat) : Int)), .ref mt, .int (iI ((sn : Nat) : Int)), .ref mb, .ref me, .ref bt, .ref wy, .ref lq, .ref df, .int (iI ((dn : Nat) : Int))])), (mt, .inl (tI, 192, .inl (iA (iN d))))] 0 0
  refine r_iconstN hX 0 d_Mo_runsNow_0 rfl ?_
  refine r_istore_n hX (lv' := [(1, .int (iI ((0 : Nat) : Int))), (0, .ref mo)]) d_Mo_runsNow_1 rfl (by decide) rfl ?_
  refine r_iconstN hX 0 d_Mo_runsNow_2 rfl ?_
  refine r_istore_n hX (lv' := [(2, .int (iI ((0 : Nat) : Int))), (1, .int (iI ((0 : Nat) : Int))), (0, .ref mo)]) d_Mo_runsNow_3 rfl (by decide) rfl ?_
  have L4 : ∀ (dd : Nat) (k : Nat), sn - k = dd → (k ≤ sn) → F 4 [(2, .int (iI ((k : Nat) : Int))), (1, .int (iI ((ra_cr d k : Nat) : Int))), (0, .ref mo)] [] [(mo, .inr (10, [.int (iI cd), .ref ml, .ref mz, .ref ms, .int (iI op), .int (iI mr), .int (iI (bI (ld = true))), .int (iI (bI (pt = true))), .int (iI ((fr : Nat) : Int)), .ref mt, .int (iI ((sn : Nat) : Int)), .ref mb, .ref me, .ref bt, .ref wy, .ref lq, .ref df, .int (iI ((dn : Nat) : Int))])), (mt, .inl (tI, 192, .inl (iA (iN d))))] 0 0 := by
    intro dd
    induction dd using Nat.strongRecOn with
    | _ dd ih4 =>
      intro k hmu4 hk
      refine r_iload_n hX 0 d_Mo_runsNow_4 rfl ?_
      refine r_aload_n hX 2 d_Mo_runsNow_5 rfl ?_
      refine r_get hX cf_Mo 0 rfl 10 (by decide) fl_Mo_98 rfl d_Mo_runsNow_6 ?_
      refine r_icmp_ge hX 47 d_Mo_runsNow_9 (by decide) (by unfold iR; omega) (by unfold iR; omega) (fun h9 => ?_) (fun h9 => ?_)
      · refine r_iload_n hX 1 d_Mo_runsNow_47 rfl ?_
        exact r_iret hX hT () (by rw [show k = sn by omega]) rfl (by decide) (by decide) d_Mo_runsNow_48
      · have hle := ra_cr_le d k
        have hd1 := hd k
        have hd2 := hd (k - 1)
        refine r_iload_n hX 0 d_Mo_runsNow_12 rfl ?_
        have J40 : F 40 [(2, .int (iI ((k : Nat) : Int))), (1, .int (iI ((ra_cr d k : Nat) : Int))), (0, .ref mo)] [.int (iI ((ra_cr d (k + 1) : Nat) : Int))] [(mo, .inr (10, [.int (iI cd), .ref ml, .ref mz, .ref ms, .int (iI op), .int (iI mr), .int (iI (bI (ld = true))), .int (iI (bI (pt = true))), .int (iI ((fr : Nat) : Int)), .ref mt, .int (iI ((sn : Nat) : Int)), .ref mb, .ref me, .ref bt, .ref wy, .ref lq, .ref df, .int (iI ((dn : Nat) : Int))])), (mt, .inl (tI, 192, .inl (iA (iN d))))] 0 0 := by
          refine r_istore_n hX (lv' := [(1, .int (iI ((ra_cr d (k + 1) : Nat) : Int))), (2, .int (iI ((k : Nat) : Int))), (0, .ref mo)]) d_Mo_runsNow_40 rfl (by decide) rfl ?_
          refine r_iincN hX (lv' := [(2, .int (iI ((k + 1 : Nat) : Int))), (1, .int (iI ((ra_cr d (k + 1) : Nat) : Int))), (0, .ref mo)]) 1 d_Mo_runsNow_41 rfl (by decide) rfl ?_
          refine r_goto hX 4 d_Mo_runsNow_44 (by decide) ?_
          exact ih4 _ (by omega) (k + 1) rfl (by omega)
        refine r_if_eq hX 33 d_Mo_runsNow_13 (by decide) (by unfold iR; omega) (fun h13 => ?_) (fun h13 => ?_)
        · refine r_iload_n hX 1 d_Mo_runsNow_33 rfl ?_
          refine r_iconstN hX 1 d_Mo_runsNow_34 rfl ?_
          refine r_iaddN hX d_Mo_runsNow_35 ?_
          refine r_goto hX 40 d_Mo_runsNow_36 (by decide) ?_
          exact rj_e (by first | exact congrArg (fun z : Nat => (z : Int)) (ra_cr_t (Or.inl (by omega))).symm | exact congrArg (fun z : Nat => (z : Int)) (ra_cr_t (Or.inr (by omega))).symm | exact congrArg (fun z : Nat => (z : Int)) (ra_cr_f (by omega)).symm) J40
        · refine r_aload_n hX 2 d_Mo_runsNow_16 rfl ?_
          refine r_get hX cf_Mo 0 rfl 9 (by decide) fl_Mo_26 rfl d_Mo_runsNow_17 ?_
          refine r_iload_n hX 0 d_Mo_runsNow_20 rfl ?_
          refine r_ialdN hX 1 0 rfl rfl (k) rfl (by omega) (by decide) d_Mo_runsNow_21 ?_
          refine r_aload_n hX 2 d_Mo_runsNow_22 rfl ?_
          refine r_get hX cf_Mo 0 rfl 9 (by decide) fl_Mo_26 rfl d_Mo_runsNow_23 ?_
          refine r_iload_n hX 0 d_Mo_runsNow_26 rfl ?_
          refine r_iconstN hX 1 d_Mo_runsNow_27 rfl ?_
          refine r_isub hX d_Mo_runsNow_28 ?_
          refine r_ialdN hX 1 0 rfl rfl (k - 1) (by omega) (by omega) (by decide) d_Mo_runsNow_29 ?_
          refine r_icmp_eq hX 39 d_Mo_runsNow_30 (by decide) (by unfold iR; omega) (by unfold iR; omega) (fun h30 => ?_) (fun h30 => ?_)
          · refine r_iload_n hX 1 d_Mo_runsNow_39 rfl ?_
            exact rj_e (by first | exact congrArg (fun z : Nat => (z : Int)) (ra_cr_t (Or.inl (by omega))).symm | exact congrArg (fun z : Nat => (z : Int)) (ra_cr_t (Or.inr (by omega))).symm | exact congrArg (fun z : Nat => (z : Int)) (ra_cr_f (by omega)).symm) J40
          · refine r_iload_n hX 1 d_Mo_runsNow_33 rfl ?_
            refine r_iconstN hX 1 d_Mo_runsNow_34 rfl ?_
            refine r_iaddN hX d_Mo_runsNow_35 ?_
            refine r_goto hX 40 d_Mo_runsNow_36 (by decide) ?_
            exact rj_e (by first | exact congrArg (fun z : Nat => (z : Int)) (ra_cr_t (Or.inl (by omega))).symm | exact congrArg (fun z : Nat => (z : Int)) (ra_cr_t (Or.inr (by omega))).symm | exact congrArg (fun z : Nat => (z : Int)) (ra_cr_f (by omega)).symm) J40
  refine r_eq (lv2 := [(2, .int (iI ((0 : Nat) : Int))), (1, .int (iI ((ra_cr d 0 : Nat) : Int))), (0, .ref mo)]) (st2 := []) (ws2 := [(mo, .inr (10, [.int (iI cd), .ref ml, .ref mz, .ref ms, .int (iI op), .int (iI mr), .int (iI (bI (ld = true))), .int (iI (bI (pt = true))), .int (iI ((fr : Nat) : Int)), .ref mt, .int (iI ((sn : Nat) : Int)), .ref mb, .ref me, .ref bt, .ref wy, .ref lq, .ref df, .int (iI ((dn : Nat) : Int))])), (mt, .inl (tI, 192, .inl (iA (iN d))))]) rfl rfl rfl ?_
  exact L4 _ 0 rfl (by omega)

abbrev rm_Mo_gapsNow : Room := { frames := 0, cells := 0, slots := 0, locals := 0 }
set_option maxHeartbeats 4000000 in
set_option maxRecDepth 100000 in
theorem c_Mo_gapsNow (l : Launch) (D : va_G) (tI tJ tZ : ClassId) (mo : Nat) (ml : Nat) (mz : Nat) (ms : Nat) (mt : Nat) (mb : Nat) (me : Nat) (bt : Nat) (wy : Nat) (lq : Nat) (df : Nat) (cd : Int) (op : Int) (mr : Int) (ld : Bool) (pt : Bool) (fr : Nat) (sn : Nat) (dn : Nat) (d : Nat → Nat) (hs : sn ≤ 192) (hd : ∀ t, d t < 3) : rCi l y_Mo_gapsNow prog_12_method_32_code 3 .int rm_Mo_gapsNow D (tysA tI tJ tZ) [.ref mo] [(mo, .inr (10, [.int (iI cd), .ref ml, .ref mz, .ref ms, .int (iI op), .int (iI mr), .int (iI (bI (ld = true))), .int (iI (bI (pt = true))), .int (iI ((fr : Nat) : Int)), .ref mt, .int (iI ((sn : Nat) : Int)), .ref mb, .ref me, .ref bt, .ref wy, .ref lq, .ref df, .int (iI ((dn : Nat) : Int))])), (mt, .inl (tI, 192, .inl (iA (iN d))))] (fun zz (_ : Unit) => zz = iI (((ra_cg d sn : Nat) : Int))) (fun (_ : Unit) => [(mo, .inr (10, [.int (iI cd), .ref ml, .ref mz, .ref ms, .int (iI op), .int (iI mr), .int (iI (bI (ld = true))), .int (iI (bI (pt = true))), .int (iI ((fr : Nat) : Int)), .ref mt, .int (iI ((sn : Nat) : Int)), .ref mb, .ref me, .ref bt, .ref wy, .ref lq, .ref df, .int (iI ((dn : Nat) : Int))])), (mt, .inl (tI, 192, .inl (iA (iN d))))]) := by
  intro sz
  refine r_met (by decide) (Nat.le_of_ble_eq_true rfl) ?_
  intro F p e s m args below meth c Q A hX hT hAe hsz hin
  subst hAe
  replace hX : rOK F p l e rm_Mo_gapsNow s m args below meth c Q prog_12_method_32_code 3 "RowAlignerModel" D (tysA tI tJ tZ) _ := hX
  show F 0 [(0, .ref mo)] [] [(mo, .inr (10, [.int (iI cd), .ref ml, .ref mz, .ref ms, .int (iI op), .int (iI mr), .int (iI (bI (ld = true))), .int (iI (bI (pt = true))), .int (iI ((fr : Nat) : Int)), .ref mt, .int (iI ((sn : Nat) : Int)), .ref mb, .ref me, .ref bt, .ref wy, .ref lq, .ref df, .int (iI ((dn : Nat) : Int))])), (mt, .inl (tI, 192, .inl (iA (iN d))))] 0 0
  refine r_iconstN hX 0 d_Mo_gapsNow_0 rfl ?_
  refine r_istore_n hX (lv' := [(1, .int (iI ((0 : Nat) : Int))), (0, .ref mo)]) d_Mo_gapsNow_1 rfl (by decide) rfl ?_
  refine r_iconstN hX 0 d_Mo_gapsNow_2 rfl ?_
  refine r_istore_n hX (lv' := [(2, .int (iI ((0 : Nat) : Int))), (1, .int (iI ((0 : Nat) : Int))), (0, .ref mo)]) d_Mo_gapsNow_3 rfl (by decide) rfl ?_
  have L4 : ∀ (dd : Nat) (k : Nat), sn - k = dd → (k ≤ sn) → F 4 [(2, .int (iI ((k : Nat) : Int))), (1, .int (iI ((ra_cg d k : Nat) : Int))), (0, .ref mo)] [] [(mo, .inr (10, [.int (iI cd), .ref ml, .ref mz, .ref ms, .int (iI op), .int (iI mr), .int (iI (bI (ld = true))), .int (iI (bI (pt = true))), .int (iI ((fr : Nat) : Int)), .ref mt, .int (iI ((sn : Nat) : Int)), .ref mb, .ref me, .ref bt, .ref wy, .ref lq, .ref df, .int (iI ((dn : Nat) : Int))])), (mt, .inl (tI, 192, .inl (iA (iN d))))] 0 0 := by
    intro dd
    induction dd using Nat.strongRecOn with
    | _ dd ih4 =>
      intro k hmu4 hk
      refine r_iload_n hX 0 d_Mo_gapsNow_4 rfl ?_
      refine r_aload_n hX 2 d_Mo_gapsNow_5 rfl ?_
      refine r_get hX cf_Mo 0 rfl 10 (by decide) fl_Mo_98 rfl d_Mo_gapsNow_6 ?_
      refine r_icmp_ge hX 56 d_Mo_gapsNow_9 (by decide) (by unfold iR; omega) (by unfold iR; omega) (fun h9 => ?_) (fun h9 => ?_)
      · refine r_iload_n hX 1 d_Mo_gapsNow_56 rfl ?_
        exact r_iret hX hT () (by rw [show k = sn by omega]) rfl (by decide) (by decide) d_Mo_gapsNow_57
      · have hle := ra_cg_le d k
        have hd1 := hd k
        have hd2 := hd (k - 1)
        refine r_aload_n hX 2 d_Mo_gapsNow_12 rfl ?_
        refine r_get hX cf_Mo 0 rfl 9 (by decide) fl_Mo_26 rfl d_Mo_gapsNow_13 ?_
        refine r_iload_n hX 0 d_Mo_gapsNow_16 rfl ?_
        refine r_ialdN hX 1 0 rfl rfl (k) rfl (by omega) (by decide) d_Mo_gapsNow_17 ?_
        have J49 : F 49 [(2, .int (iI ((k : Nat) : Int))), (1, .int (iI ((ra_cg d k : Nat) : Int))), (0, .ref mo)] [.int (iI ((ra_cg d (k + 1) : Nat) : Int))] [(mo, .inr (10, [.int (iI cd), .ref ml, .ref mz, .ref ms, .int (iI op), .int (iI mr), .int (iI (bI (ld = true))), .int (iI (bI (pt = true))), .int (iI ((fr : Nat) : Int)), .ref mt, .int (iI ((sn : Nat) : Int)), .ref mb, .ref me, .ref bt, .ref wy, .ref lq, .ref df, .int (iI ((dn : Nat) : Int))])), (mt, .inl (tI, 192, .inl (iA (iN d))))] 0 0 := by
          refine r_istore_n hX (lv' := [(1, .int (iI ((ra_cg d (k + 1) : Nat) : Int))), (2, .int (iI ((k : Nat) : Int))), (0, .ref mo)]) d_Mo_gapsNow_49 rfl (by decide) rfl ?_
          refine r_iincN hX (lv' := [(2, .int (iI ((k + 1 : Nat) : Int))), (1, .int (iI ((ra_cg d (k + 1) : Nat) : Int))), (0, .ref mo)]) 1 d_Mo_gapsNow_50 rfl (by decide) rfl ?_
          refine r_goto hX 4 d_Mo_gapsNow_53 (by decide) ?_
          exact ih4 _ (by omega) (k + 1) rfl (by omega)
        refine r_if_eq hX 48 d_Mo_gapsNow_18 (by decide) (by unfold iR; omega) (fun h18 => ?_) (fun h18 => ?_)
        · refine r_iload_n hX 1 d_Mo_gapsNow_48 rfl ?_
          exact rj_e (by first | exact congrArg (fun z : Nat => (z : Int)) (ra_cg_t (by omega) (Or.inl (by omega))).symm | exact congrArg (fun z : Nat => (z : Int)) (ra_cg_t (by omega) (Or.inr (by omega))).symm | exact congrArg (fun z : Nat => (z : Int)) (ra_cg_f (by omega)).symm) J49
        · refine r_iload_n hX 0 d_Mo_gapsNow_21 rfl ?_
          refine r_if_eq hX 42 d_Mo_gapsNow_22 (by decide) (by unfold iR; omega) (fun h22 => ?_) (fun h22 => ?_)
          · refine r_iload_n hX 1 d_Mo_gapsNow_42 rfl ?_
            refine r_iconstN hX 1 d_Mo_gapsNow_43 rfl ?_
            refine r_iaddN hX d_Mo_gapsNow_44 ?_
            refine r_goto hX 49 d_Mo_gapsNow_45 (by decide) ?_
            exact rj_e (by first | exact congrArg (fun z : Nat => (z : Int)) (ra_cg_t (by omega) (Or.inl (by omega))).symm | exact congrArg (fun z : Nat => (z : Int)) (ra_cg_t (by omega) (Or.inr (by omega))).symm | exact congrArg (fun z : Nat => (z : Int)) (ra_cg_f (by omega)).symm) J49
          · refine r_aload_n hX 2 d_Mo_gapsNow_25 rfl ?_
            refine r_get hX cf_Mo 0 rfl 9 (by decide) fl_Mo_26 rfl d_Mo_gapsNow_26 ?_
            refine r_iload_n hX 0 d_Mo_gapsNow_29 rfl ?_
            refine r_ialdN hX 1 0 rfl rfl (k) rfl (by omega) (by decide) d_Mo_gapsNow_30 ?_
            refine r_aload_n hX 2 d_Mo_gapsNow_31 rfl ?_
            refine r_get hX cf_Mo 0 rfl 9 (by decide) fl_Mo_26 rfl d_Mo_gapsNow_32 ?_
            refine r_iload_n hX 0 d_Mo_gapsNow_35 rfl ?_
            refine r_iconstN hX 1 d_Mo_gapsNow_36 rfl ?_
            refine r_isub hX d_Mo_gapsNow_37 ?_
            refine r_ialdN hX 1 0 rfl rfl (k - 1) (by omega) (by omega) (by decide) d_Mo_gapsNow_38 ?_
            refine r_icmp_eq hX 48 d_Mo_gapsNow_39 (by decide) (by unfold iR; omega) (by unfold iR; omega) (fun h39 => ?_) (fun h39 => ?_)
            · refine r_iload_n hX 1 d_Mo_gapsNow_48 rfl ?_
              exact rj_e (by first | exact congrArg (fun z : Nat => (z : Int)) (ra_cg_t (by omega) (Or.inl (by omega))).symm | exact congrArg (fun z : Nat => (z : Int)) (ra_cg_t (by omega) (Or.inr (by omega))).symm | exact congrArg (fun z : Nat => (z : Int)) (ra_cg_f (by omega)).symm) J49
            · refine r_iload_n hX 1 d_Mo_gapsNow_42 rfl ?_
              refine r_iconstN hX 1 d_Mo_gapsNow_43 rfl ?_
              refine r_iaddN hX d_Mo_gapsNow_44 ?_
              refine r_goto hX 49 d_Mo_gapsNow_45 (by decide) ?_
              exact rj_e (by first | exact congrArg (fun z : Nat => (z : Int)) (ra_cg_t (by omega) (Or.inl (by omega))).symm | exact congrArg (fun z : Nat => (z : Int)) (ra_cg_t (by omega) (Or.inr (by omega))).symm | exact congrArg (fun z : Nat => (z : Int)) (ra_cg_f (by omega)).symm) J49
  refine r_eq (lv2 := [(2, .int (iI ((0 : Nat) : Int))), (1, .int (iI ((ra_cg d 0 : Nat) : Int))), (0, .ref mo)]) (st2 := []) (ws2 := [(mo, .inr (10, [.int (iI cd), .ref ml, .ref mz, .ref ms, .int (iI op), .int (iI mr), .int (iI (bI (ld = true))), .int (iI (bI (pt = true))), .int (iI ((fr : Nat) : Int)), .ref mt, .int (iI ((sn : Nat) : Int)), .ref mb, .ref me, .ref bt, .ref wy, .ref lq, .ref df, .int (iI ((dn : Nat) : Int))])), (mt, .inl (tI, 192, .inl (iA (iN d))))]) rfl rfl rfl ?_
  exact L4 _ 0 rfl (by omega)

abbrev rm_Mo_lettersInGaps : Room := { frames := 0, cells := 0, slots := 0, locals := 0 }
set_option maxHeartbeats 4000000 in
set_option maxRecDepth 100000 in
theorem c_Mo_lettersInGaps (l : Launch) (D : va_G) (tI tJ tZ : ClassId) (mo : Nat) (ml : Nat) (mz : Nat) (ms : Nat) (mt : Nat) (mb : Nat) (me : Nat) (bt : Nat) (wy : Nat) (lq : Nat) (df : Nat) (cd : Int) (op : Int) (mr : Int) (ld : Bool) (pt : Bool) (fr : Nat) (sn : Nat) (dn : Nat) (d : Nat → Nat) (hs : sn ≤ 192) (hd : ∀ t, d t < 3) : rCi l y_Mo_lettersInGaps prog_12_method_33_code 3 .int rm_Mo_lettersInGaps D (tysA tI tJ tZ) [.ref mo] [(mo, .inr (10, [.int (iI cd), .ref ml, .ref mz, .ref ms, .int (iI op), .int (iI mr), .int (iI (bI (ld = true))), .int (iI (bI (pt = true))), .int (iI ((fr : Nat) : Int)), .ref mt, .int (iI ((sn : Nat) : Int)), .ref mb, .ref me, .ref bt, .ref wy, .ref lq, .ref df, .int (iI ((dn : Nat) : Int))])), (mt, .inl (tI, 192, .inl (iA (iN d))))] (fun zz (_ : Unit) => zz = iI (((ra_cl9 d sn : Nat) : Int))) (fun (_ : Unit) => [(mo, .inr (10, [.int (iI cd), .ref ml, .ref mz, .ref ms, .int (iI op), .int (iI mr), .int (iI (bI (ld = true))), .int (iI (bI (pt = true))), .int (iI ((fr : Nat) : Int)), .ref mt, .int (iI ((sn : Nat) : Int)), .ref mb, .ref me, .ref bt, .ref wy, .ref lq, .ref df, .int (iI ((dn : Nat) : Int))])), (mt, .inl (tI, 192, .inl (iA (iN d))))]) := by
  intro sz
  refine r_met (by decide) (Nat.le_of_ble_eq_true rfl) ?_
  intro F p e s m args below meth c Q A hX hT hAe hsz hin
  subst hAe
  replace hX : rOK F p l e rm_Mo_lettersInGaps s m args below meth c Q prog_12_method_33_code 3 "RowAlignerModel" D (tysA tI tJ tZ) _ := hX
  show F 0 [(0, .ref mo)] [] [(mo, .inr (10, [.int (iI cd), .ref ml, .ref mz, .ref ms, .int (iI op), .int (iI mr), .int (iI (bI (ld = true))), .int (iI (bI (pt = true))), .int (iI ((fr : Nat) : Int)), .ref mt, .int (iI ((sn : Nat) : Int)), .ref mb, .ref me, .ref bt, .ref wy, .ref lq, .ref df, .int (iI ((dn : Nat) : Int))])), (mt, .inl (tI, 192, .inl (iA (iN d))))] 0 0
  refine r_iconstN hX 0 d_Mo_lettersInGaps_0 rfl ?_
  refine r_istore_n hX (lv' := [(1, .int (iI ((0 : Nat) : Int))), (0, .ref mo)]) d_Mo_lettersInGaps_1 rfl (by decide) rfl ?_
  refine r_iconstN hX 0 d_Mo_lettersInGaps_2 rfl ?_
  refine r_istore_n hX (lv' := [(2, .int (iI ((0 : Nat) : Int))), (1, .int (iI ((0 : Nat) : Int))), (0, .ref mo)]) d_Mo_lettersInGaps_3 rfl (by decide) rfl ?_
  have L4 : ∀ (dd : Nat) (k : Nat), sn - k = dd → (k ≤ sn) → F 4 [(2, .int (iI ((k : Nat) : Int))), (1, .int (iI ((ra_cl9 d k : Nat) : Int))), (0, .ref mo)] [] [(mo, .inr (10, [.int (iI cd), .ref ml, .ref mz, .ref ms, .int (iI op), .int (iI mr), .int (iI (bI (ld = true))), .int (iI (bI (pt = true))), .int (iI ((fr : Nat) : Int)), .ref mt, .int (iI ((sn : Nat) : Int)), .ref mb, .ref me, .ref bt, .ref wy, .ref lq, .ref df, .int (iI ((dn : Nat) : Int))])), (mt, .inl (tI, 192, .inl (iA (iN d))))] 0 0 := by
    intro dd
    induction dd using Nat.strongRecOn with
    | _ dd ih4 =>
      intro k hmu4 hk
      refine r_iload_n hX 0 d_Mo_lettersInGaps_4 rfl ?_
      refine r_aload_n hX 2 d_Mo_lettersInGaps_5 rfl ?_
      refine r_get hX cf_Mo 0 rfl 10 (by decide) fl_Mo_98 rfl d_Mo_lettersInGaps_6 ?_
      refine r_icmp_ge hX 35 d_Mo_lettersInGaps_9 (by decide) (by unfold iR; omega) (by unfold iR; omega) (fun h9 => ?_) (fun h9 => ?_)
      · refine r_iload_n hX 1 d_Mo_lettersInGaps_35 rfl ?_
        exact r_iret hX hT () (by rw [show k = sn by omega]) rfl (by decide) (by decide) d_Mo_lettersInGaps_36
      · have hle := ra_cl9_le d k
        have hd1 := hd k
        have hd2 := hd (k - 1)
        refine r_aload_n hX 2 d_Mo_lettersInGaps_12 rfl ?_
        refine r_get hX cf_Mo 0 rfl 9 (by decide) fl_Mo_26 rfl d_Mo_lettersInGaps_13 ?_
        refine r_iload_n hX 0 d_Mo_lettersInGaps_16 rfl ?_
        refine r_ialdN hX 1 0 rfl rfl (k) rfl (by omega) (by decide) d_Mo_lettersInGaps_17 ?_
        have J28 : F 28 [(2, .int (iI ((k : Nat) : Int))), (1, .int (iI ((ra_cl9 d k : Nat) : Int))), (0, .ref mo)] [.int (iI ((ra_cl9 d (k + 1) : Nat) : Int))] [(mo, .inr (10, [.int (iI cd), .ref ml, .ref mz, .ref ms, .int (iI op), .int (iI mr), .int (iI (bI (ld = true))), .int (iI (bI (pt = true))), .int (iI ((fr : Nat) : Int)), .ref mt, .int (iI ((sn : Nat) : Int)), .ref mb, .ref me, .ref bt, .ref wy, .ref lq, .ref df, .int (iI ((dn : Nat) : Int))])), (mt, .inl (tI, 192, .inl (iA (iN d))))] 0 0 := by
          refine r_istore_n hX (lv' := [(1, .int (iI ((ra_cl9 d (k + 1) : Nat) : Int))), (2, .int (iI ((k : Nat) : Int))), (0, .ref mo)]) d_Mo_lettersInGaps_28 rfl (by decide) rfl ?_
          refine r_iincN hX (lv' := [(2, .int (iI ((k + 1 : Nat) : Int))), (1, .int (iI ((ra_cl9 d (k + 1) : Nat) : Int))), (0, .ref mo)]) 1 d_Mo_lettersInGaps_29 rfl (by decide) rfl ?_
          refine r_goto hX 4 d_Mo_lettersInGaps_32 (by decide) ?_
          exact ih4 _ (by omega) (k + 1) rfl (by omega)
        refine r_if_eq hX 27 d_Mo_lettersInGaps_18 (by decide) (by unfold iR; omega) (fun h18 => ?_) (fun h18 => ?_)
        · refine r_iload_n hX 1 d_Mo_lettersInGaps_27 rfl ?_
          exact rj_e (by first | exact congrArg (fun z : Nat => (z : Int)) (ra_cl9_t (by omega)).symm | exact congrArg (fun z : Nat => (z : Int)) (ra_cl9_f (by omega)).symm) J28
        · refine r_iload_n hX 1 d_Mo_lettersInGaps_21 rfl ?_
          refine r_iconstN hX 1 d_Mo_lettersInGaps_22 rfl ?_
          refine r_iaddN hX d_Mo_lettersInGaps_23 ?_
          refine r_goto hX 28 d_Mo_lettersInGaps_24 (by decide) ?_
          exact rj_e (by first | exact congrArg (fun z : Nat => (z : Int)) (ra_cl9_t (by omega)).symm | exact congrArg (fun z : Nat => (z : Int)) (ra_cl9_f (by omega)).symm) J28
  refine r_eq (lv2 := [(2, .int (iI ((0 : Nat) : Int))), (1, .int (iI ((ra_cl9 d 0 : Nat) : Int))), (0, .ref mo)]) (st2 := []) (ws2 := [(mo, .inr (10, [.int (iI cd), .ref ml, .ref mz, .ref ms, .int (iI op), .int (iI mr), .int (iI (bI (ld = true))), .int (iI (bI (pt = true))), .int (iI ((fr : Nat) : Int)), .ref mt, .int (iI ((sn : Nat) : Int)), .ref mb, .ref me, .ref bt, .ref wy, .ref lq, .ref df, .int (iI ((dn : Nat) : Int))])), (mt, .inl (tI, 192, .inl (iA (iN d))))]) rfl rfl rfl ?_
  exact L4 _ 0 rfl (by omega)

abbrev rm_Mo_draw_r : Room := { frames := 1, cells := 0, slots := 0, locals := 22 }
set_option maxHeartbeats 4000000 in
set_option maxRecDepth 100000 in
theorem c_Mo_draw_r (l : Launch) (D : va_G) (tI tJ tZ : ClassId) (mo : Nat) (ml : Nat) (mz : Nat) (ms : Nat) (mt : Nat) (mb : Nat) (me : Nat) (bt : Nat) (wy : Nat) (lq : Nat) (df : Nat) (cd : Int) (op : Int) (mr : Int) (ld : Bool) (pt : Bool) (fr : Nat) (sn : Nat) (dn : Nat) (x : Int) (hx : iR x) (hr : x < 0 ∨ 2 < x) : rCi l y_Mo_draw prog_12_method_42_code 2 .int rm_Mo_draw_r D (tysA tI tJ tZ) [.ref mo, .int (iI x)] [(mo, .inr (10, [.int (iI cd), .ref ml, .ref mz, .ref ms, .int (iI op), .int (iI mr), .int (iI (bI (ld = true))), .int (iI (bI (pt = true))), .int (iI ((fr : Nat) : Int)), .ref mt, .int (iI ((sn : Nat) : Int)), .ref mb, .ref me, .ref bt, .ref wy, .ref lq, .ref df, .int (iI ((dn : Nat) : Int))]))] (fun zz (_ : Unit) => zz = iI (((0 : Nat) : Int))) (fun (_ : Unit) => [(mo, .inr (10, [.int (iI 1), .ref ml, .ref mz, .ref ms, .int (iI op), .int (iI mr), .int (iI (bI (ld = true))), .int (iI (bI (pt = true))), .int (iI ((fr : Nat) : Int)), .ref mt, .int (iI ((sn : Nat) : Int)), .ref mb, .ref me, .ref bt, .ref wy, .ref lq, .ref df, .int (iI ((dn : Nat) : Int))]))]) := by
  intro sz
  refine r_met (by decide) (Nat.le_of_ble_eq_true rfl) ?_
  intro F p e s m args below meth c Q A hX hT hAe hsz hin
  subst hAe
  replace hX : rOK F p l e rm_Mo_draw_r s m args below meth c Q prog_12_method_42_code 2 "RowAlignerModel" D (tysA tI tJ tZ) _ := hX
  unfold iR at hx
  show F 0 [(0, .ref mo), (1, .int (iI x))] [] [(mo, .inr (10, [.int (iI cd), .ref ml, .ref mz, .ref ms, .int (iI op), .int (iI mr), .int (iI (bI (ld = true))), .int (iI (bI (pt = true))), .int (iI ((fr : Nat) : Int)), .ref mt, .int (iI ((sn : Nat) : Int)), .ref mb, .ref me, .ref bt, .ref wy, .ref lq, .ref df, .int (iI ((dn : Nat) : Int))]))] 0 0
  refine r_aload_n hX 0 d_Mo_draw_0 rfl ?_
  refine r_iload_n hX 1 d_Mo_draw_1 rfl ?_
  refine r_iconstN hX 0 d_Mo_draw_2 rfl ?_
  refine r_iconstN hX 2 d_Mo_draw_3 rfl ?_
  refine r_invS_i0 (st := [.ref mo]) (As := [.int (iI x), .int (iI ((0 : Nat) : Int)), .int (iI ((2 : Nat) : Int))]) (wr := [(mo, .inr (10, [.int (iI cd), .ref ml, .ref mz, .ref ms, .int (iI op), .int (iI mr), .int (iI (bI (ld = true))), .int (iI (bI (pt = true))), .int (iI ((fr : Nat) : Int)), .ref mt, .int (iI ((sn : Nat) : Int)), .ref mb, .ref me, .ref bt, .ref wy, .ref lq, .ref df, .int (iI ((dn : Nat) : Int))]))]) hX (c_Mo_isIn l D tI tJ tZ x (((0 : Nat) : Int)) (((2 : Nat) : Int)) (by unfold iR; omega) (by unfold iR; omega) (by unfold iR; omega)) yn_Mo_isIn ml_Mo_65 st_Mo_isIn co_Mo_isIn in_Mo (by decide) (by decide) (by decide) [] [0] rfl rfl rfl rfl rfl (by decide) rfl rfl (Nat.le_of_ble_eq_true rfl) d_Mo_draw_4 [0] rfl (w2 := fun _ => [(mo, .inr (10, [.int (iI cd), .ref ml, .ref mz, .ref ms, .int (iI op), .int (iI mr), .int (iI (bI (ld = true))), .int (iI (bI (pt = true))), .int (iI ((fr : Nat) : Int)), .ref mt, .int (iI ((sn : Nat) : Int)), .ref mb, .ref me, .ref bt, .ref wy, .ref lq, .ref df, .int (iI ((dn : Nat) : Int))]))]) (fun _ => rfl) (fun r4 _ e4 => ?_)
  subst e4
  refine rb_if_ne hX 14 d_Mo_draw_7 (by decide) (fun h7 => by exfalso; omega) (fun h7 => ?_)
  refine r_iconstN hX 1 d_Mo_draw_10 rfl ?_
  refine r_goto hX 29 d_Mo_draw_11 (by decide) ?_
  refine r_put hX (ws' := [(mo, .inr (10, [.int (iI ((1 : Nat) : Int)), .ref ml, .ref mz, .ref ms, .int (iI op), .int (iI mr), .int (iI (bI (ld = true))), .int (iI (bI (pt = true))), .int (iI ((fr : Nat) : Int)), .ref mt, .int (iI ((sn : Nat) : Int)), .ref mb, .ref me, .ref bt, .ref wy, .ref lq, .ref df, .int (iI ((dn : Nat) : Int))]))]) cf_Mo 0 rfl 0 (by decide) fl_Mo_52 rfl rfl rfl (Nat.le_of_ble_eq_true rfl) rfl d_Mo_draw_29 ?_
  refine r_aload_n hX 0 d_Mo_draw_32 rfl ?_
  refine r_get hX cf_Mo 0 rfl 0 (by decide) fl_Mo_52 rfl d_Mo_draw_33 ?_
  refine r_if_le hX 41 d_Mo_draw_36 (by decide) (by unfold iR; omega) (fun h36 => by exfalso; omega) (fun h36 => ?_)
  refine r_iconstN hX 0 d_Mo_draw_39 rfl ?_
  exact r_iret hX hT () rfl rfl (by decide) (by decide) d_Mo_draw_40

abbrev rm_Mo_draw_n : Room := { frames := 1, cells := 0, slots := 0, locals := 22 }
set_option maxHeartbeats 4000000 in
set_option maxRecDepth 100000 in
theorem c_Mo_draw_n (l : Launch) (D : va_G) (tI tJ tZ : ClassId) (mo : Nat) (ml : Nat) (mz : Nat) (ms : Nat) (mt : Nat) (mb : Nat) (me : Nat) (bt : Nat) (wy : Nat) (lq : Nat) (df : Nat) (cd : Int) (op : Int) (mr : Int) (ld : Bool) (pt : Bool) (fr : Nat) (sn : Nat) (dn : Nat) (x : Nat) (hr : x < 3) (hn : dn = 200) : rCi l y_Mo_draw prog_12_method_42_code 2 .int rm_Mo_draw_n D (tysA tI tJ tZ) [.ref mo, .int (iI ((x : Nat) : Int))] [(mo, .inr (10, [.int (iI cd), .ref ml, .ref mz, .ref ms, .int (iI op), .int (iI mr), .int (iI (bI (ld = true))), .int (iI (bI (pt = true))), .int (iI ((fr : Nat) : Int)), .ref mt, .int (iI ((sn : Nat) : Int)), .ref mb, .ref me, .ref bt, .ref wy, .ref lq, .ref df, .int (iI ((dn : Nat) : Int))]))] (fun zz (_ : Unit) => zz = iI (((0 : Nat) : Int))) (fun (_ : Unit) => [(mo, .inr (10, [.int (iI 2), .ref ml, .ref mz, .ref ms, .int (iI op), .int (iI mr), .int (iI (bI (ld = true))), .int (iI (bI (pt = true))), .int (iI ((fr : Nat) : Int)), .ref mt, .int (iI ((sn : Nat) : Int)), .ref mb, .ref me, .ref bt, .ref wy, .ref lq, .ref df, .int (iI ((dn : Nat) : Int))]))]) := by
  intro sz
  refine r_met (by decide) (Nat.le_of_ble_eq_true rfl) ?_
  intro F p e s m args below meth c Q A hX hT hAe hsz hin
  subst hAe
  replace hX : rOK F p l e rm_Mo_draw_n s m args below meth c Q prog_12_method_42_code 2 "RowAlignerModel" D (tysA tI tJ tZ) _ := hX
  show F 0 [(0, .ref mo), (1, .int (iI ((x : Nat) : Int)))] [] [(mo, .inr (10, [.int (iI cd), .ref ml, .ref mz, .ref ms, .int (iI op), .int (iI mr), .int (iI (bI (ld = true))), .int (iI (bI (pt = true))), .int (iI ((fr : Nat) : Int)), .ref mt, .int (iI ((sn : Nat) : Int)), .ref mb, .ref me, .ref bt, .ref wy, .ref lq, .ref df, .int (iI ((dn : Nat) : Int))]))] 0 0
  refine r_aload_n hX 0 d_Mo_draw_0 rfl ?_
  refine r_iload_n hX 1 d_Mo_draw_1 rfl ?_
  refine r_iconstN hX 0 d_Mo_draw_2 rfl ?_
  refine r_iconstN hX 2 d_Mo_draw_3 rfl ?_
  refine r_invS_i0 (st := [.ref mo]) (As := [.int (iI ((x : Nat) : Int)), .int (iI ((0 : Nat) : Int)), .int (iI ((2 : Nat) : Int))]) (wr := [(mo, .inr (10, [.int (iI cd), .ref ml, .ref mz, .ref ms, .int (iI op), .int (iI mr), .int (iI (bI (ld = true))), .int (iI (bI (pt = true))), .int (iI ((fr : Nat) : Int)), .ref mt, .int (iI ((sn : Nat) : Int)), .ref mb, .ref me, .ref bt, .ref wy, .ref lq, .ref df, .int (iI ((dn : Nat) : Int))]))]) hX (c_Mo_isIn l D tI tJ tZ (((x : Nat) : Int)) (((0 : Nat) : Int)) (((2 : Nat) : Int)) (by unfold iR; omega) (by unfold iR; omega) (by unfold iR; omega)) yn_Mo_isIn ml_Mo_65 st_Mo_isIn co_Mo_isIn in_Mo (by decide) (by decide) (by decide) [] [0] rfl rfl rfl rfl rfl (by decide) rfl rfl (Nat.le_of_ble_eq_true rfl) d_Mo_draw_4 [0] rfl (w2 := fun _ => [(mo, .inr (10, [.int (iI cd), .ref ml, .ref mz, .ref ms, .int (iI op), .int (iI mr), .int (iI (bI (ld = true))), .int (iI (bI (pt = true))), .int (iI ((fr : Nat) : Int)), .ref mt, .int (iI ((sn : Nat) : Int)), .ref mb, .ref me, .ref bt, .ref wy, .ref lq, .ref df, .int (iI ((dn : Nat) : Int))]))]) (fun _ => rfl) (fun r4 _ e4 => ?_)
  subst e4
  refine rb_if_ne hX 14 d_Mo_draw_7 (by decide) (fun h7 => ?_) (fun h7 => by exfalso; omega)
  refine r_aload_n hX 0 d_Mo_draw_14 rfl ?_
  refine r_get hX cf_Mo 0 rfl 17 (by decide) fl_Mo_145 rfl d_Mo_draw_15 ?_
  refine r_sipushN hX 200 d_Mo_draw_18 rfl (by decide) ?_
  refine r_icmp_ne hX 28 d_Mo_draw_21 (by decide) (by unfold iR; omega) (by unfold iR; omega) (fun h21 => by exfalso; omega) (fun h21 => ?_)
  refine r_iconstN hX 2 d_Mo_draw_24 rfl ?_
  refine r_goto hX 29 d_Mo_draw_25 (by decide) ?_
  refine r_put hX (ws' := [(mo, .inr (10, [.int (iI ((2 : Nat) : Int)), .ref ml, .ref mz, .ref ms, .int (iI op), .int (iI mr), .int (iI (bI (ld = true))), .int (iI (bI (pt = true))), .int (iI ((fr : Nat) : Int)), .ref mt, .int (iI ((sn : Nat) : Int)), .ref mb, .ref me, .ref bt, .ref wy, .ref lq, .ref df, .int (iI ((dn : Nat) : Int))]))]) cf_Mo 0 rfl 0 (by decide) fl_Mo_52 rfl rfl rfl (Nat.le_of_ble_eq_true rfl) rfl d_Mo_draw_29 ?_
  refine r_aload_n hX 0 d_Mo_draw_32 rfl ?_
  refine r_get hX cf_Mo 0 rfl 0 (by decide) fl_Mo_52 rfl d_Mo_draw_33 ?_
  refine r_if_le hX 41 d_Mo_draw_36 (by decide) (by unfold iR; omega) (fun h36 => by exfalso; omega) (fun h36 => ?_)
  refine r_iconstN hX 0 d_Mo_draw_39 rfl ?_
  exact r_iret hX hT () rfl rfl (by decide) (by decide) d_Mo_draw_40

abbrev rm_Mo_draw : Room := { frames := 1, cells := 0, slots := 0, locals := 22 }
set_option maxHeartbeats 4000000 in
set_option maxRecDepth 100000 in
theorem c_Mo_draw (l : Launch) (D : va_G) (tI tJ tZ : ClassId) (mo : Nat) (ml : Nat) (mz : Nat) (ms : Nat) (mt : Nat) (mb : Nat) (me : Nat) (bt : Nat) (wy : Nat) (lq : Nat) (df : Nat) (cd : Int) (op : Int) (mr : Int) (ld : Bool) (pt : Bool) (fr : Nat) (sn : Nat) (dn : Nat) (d9 : Nat → Nat) (x : Nat) (hr : x < 3) (hn : dn < 200) : rCi l y_Mo_draw prog_12_method_42_code 2 .int rm_Mo_draw D (tysA tI tJ tZ) [.ref mo, .int (iI ((x : Nat) : Int))] [(mo, .inr (10, [.int (iI cd), .ref ml, .ref mz, .ref ms, .int (iI op), .int (iI mr), .int (iI (bI (ld = true))), .int (iI (bI (pt = true))), .int (iI ((fr : Nat) : Int)), .ref mt, .int (iI ((sn : Nat) : Int)), .ref mb, .ref me, .ref bt, .ref wy, .ref lq, .ref df, .int (iI ((dn : Nat) : Int))])), (df, .inl (tI, 200, .inl (iA (iN d9))))] (fun zz (_ : Unit) => zz = iI (((dn + 1 : Nat) : Int))) (fun (_ : Unit) => [(mo, .inr (10, [.int (iI 0), .ref ml, .ref mz, .ref ms, .int (iI op), .int (iI mr), .int (iI (bI (ld = true))), .int (iI (bI (pt = true))), .int (iI ((fr : Nat) : Int)), .ref mt, .int (iI ((sn : Nat) : Int)), .ref mb, .ref me, .ref bt, .ref wy, .ref lq, .ref df, .int (iI ((dn + 1 : Nat) : Int))])), (df, .inl (tI, 200, .inl (iA (iN (iU d9 dn x)))))]) := by
  intro sz
  refine r_met (by decide) (Nat.le_of_ble_eq_true rfl) ?_
  intro F p e s m args below meth c Q A hX hT hAe hsz hin
  subst hAe
  replace hX : rOK F p l e rm_Mo_draw s m args below meth c Q prog_12_method_42_code 2 "RowAlignerModel" D (tysA tI tJ tZ) _ := hX
  show F 0 [(0, .ref mo), (1, .int (iI ((x : Nat) : Int)))] [] [(mo, .inr (10, [.int (iI cd), .ref ml, .ref mz, .ref ms, .int (iI op), .int (iI mr), .int (iI (bI (ld = true))), .int (iI (bI (pt = true))), .int (iI ((fr : Nat) : Int)), .ref mt, .int (iI ((sn : Nat) : Int)), .ref mb, .ref me, .ref bt, .ref wy, .ref lq, .ref df, .int (iI ((dn : Nat) : Int))])), (df, .inl (tI, 200, .inl (iA (iN d9))))] 0 0
  refine r_aload_n hX 0 d_Mo_draw_0 rfl ?_
  refine r_iload_n hX 1 d_Mo_draw_1 rfl ?_
  refine r_iconstN hX 0 d_Mo_draw_2 rfl ?_
  refine r_iconstN hX 2 d_Mo_draw_3 rfl ?_
  refine r_invS_i0 (st := [.ref mo]) (As := [.int (iI ((x : Nat) : Int)), .int (iI ((0 : Nat) : Int)), .int (iI ((2 : Nat) : Int))]) (wr := [(mo, .inr (10, [.int (iI cd), .ref ml, .ref mz, .ref ms, .int (iI op), .int (iI mr), .int (iI (bI (ld = true))), .int (iI (bI (pt = true))), .int (iI ((fr : Nat) : Int)), .ref mt, .int (iI ((sn : Nat) : Int)), .ref mb, .ref me, .ref bt, .ref wy, .ref lq, .ref df, .int (iI ((dn : Nat) : Int))])), (df, .inl (tI, 200, .inl (iA (iN d9))))]) hX (c_Mo_isIn l D tI tJ tZ (((x : Nat) : Int)) (((0 : Nat) : Int)) (((2 : Nat) : Int)) (by unfold iR; omega) (by unfold iR; omega) (by unfold iR; omega)) yn_Mo_isIn ml_Mo_65 st_Mo_isIn co_Mo_isIn in_Mo (by decide) (by decide) (by decide) [] [0, 1] rfl rfl rfl rfl rfl (by decide) rfl rfl (Nat.le_of_ble_eq_true rfl) d_Mo_draw_4 [0, 1] rfl (w2 := fun _ => [(mo, .inr (10, [.int (iI cd), .ref ml, .ref mz, .ref ms, .int (iI op), .int (iI mr), .int (iI (bI (ld = true))), .int (iI (bI (pt = true))), .int (iI ((fr : Nat) : Int)), .ref mt, .int (iI ((sn : Nat) : Int)), .ref mb, .ref me, .ref bt, .ref wy, .ref lq, .ref df, .int (iI ((dn : Nat) : Int))])), (df, .inl (tI, 200, .inl (iA (iN d9))))]) (fun _ => rfl) (fun r4 _ e4 => ?_)
  subst e4
  refine rb_if_ne hX 14 d_Mo_draw_7 (by decide) (fun h7 => ?_) (fun h7 => by exfalso; omega)
  refine r_aload_n hX 0 d_Mo_draw_14 rfl ?_
  refine r_get hX cf_Mo 0 rfl 17 (by decide) fl_Mo_145 rfl d_Mo_draw_15 ?_
  refine r_sipushN hX 200 d_Mo_draw_18 rfl (by decide) ?_
  refine r_icmp_ne hX 28 d_Mo_draw_21 (by decide) (by unfold iR; omega) (by unfold iR; omega) (fun h21 => ?_) (fun h21 => by exfalso; omega)
  refine r_iconstN hX 0 d_Mo_draw_28 rfl ?_
  refine r_put hX (ws' := [(mo, .inr (10, [.int (iI ((0 : Nat) : Int)), .ref ml, .ref mz, .ref ms, .int (iI op), .int (iI mr), .int (iI (bI (ld = true))), .int (iI (bI (pt = true))), .int (iI ((fr : Nat) : Int)), .ref mt, .int (iI ((sn : Nat) : Int)), .ref mb, .ref me, .ref bt, .ref wy, .ref lq, .ref df, .int (iI ((dn : Nat) : Int))])), (df, .inl (tI, 200, .inl (iA (iN d9))))]) cf_Mo 0 rfl 0 (by decide) fl_Mo_52 rfl rfl rfl (Nat.le_of_ble_eq_true rfl) rfl d_Mo_draw_29 ?_
  refine r_aload_n hX 0 d_Mo_draw_32 rfl ?_
  refine r_get hX cf_Mo 0 rfl 0 (by decide) fl_Mo_52 rfl d_Mo_draw_33 ?_
  refine r_if_le hX 41 d_Mo_draw_36 (by decide) (by unfold iR; omega) (fun h36 => ?_) (fun h36 => by exfalso; omega)
  refine r_aload_n hX 0 d_Mo_draw_41 rfl ?_
  refine r_get hX cf_Mo 0 rfl 16 (by decide) fl_Mo_45 rfl d_Mo_draw_42 ?_
  refine r_aload_n hX 0 d_Mo_draw_45 rfl ?_
  refine r_get hX cf_Mo 0 rfl 17 (by decide) fl_Mo_145 rfl d_Mo_draw_46 ?_
  refine r_iload_n hX 1 d_Mo_draw_49 rfl ?_
  refine r_iastN hX (ws' := [(mo, .inr (10, [.int (iI ((0 : Nat) : Int)), .ref ml, .ref mz, .ref ms, .int (iI op), .int (iI mr), .int (iI (bI (ld = true))), .int (iI (bI (pt = true))), .int (iI ((fr : Nat) : Int)), .ref mt, .int (iI ((sn : Nat) : Int)), .ref mb, .ref me, .ref bt, .ref wy, .ref lq, .ref df, .int (iI ((dn : Nat) : Int))])), (df, .inl (tI, 200, .inl (iA (iN (iU d9 dn x)))))]) 1 0 rfl rfl (dn) rfl (by omega) (by decide) rfl d_Mo_draw_50 ?_
  refine r_aload_n hX 0 d_Mo_draw_51 rfl ?_
  refine r_dup hX d_Mo_draw_52 rfl ?_
  refine r_get hX cf_Mo 0 rfl 17 (by decide) fl_Mo_145 rfl d_Mo_draw_53 ?_
  refine r_iconstN hX 1 d_Mo_draw_56 rfl ?_
  refine r_iaddN hX d_Mo_draw_57 ?_
  refine r_put hX (ws' := [(mo, .inr (10, [.int (iI ((0 : Nat) : Int)), .ref ml, .ref mz, .ref ms, .int (iI op), .int (iI mr), .int (iI (bI (ld = true))), .int (iI (bI (pt = true))), .int (iI ((fr : Nat) : Int)), .ref mt, .int (iI ((sn : Nat) : Int)), .ref mb, .ref me, .ref bt, .ref wy, .ref lq, .ref df, .int (iI ((dn + 1 : Nat) : Int))])), (df, .inl (tI, 200, .inl (iA (iN (iU d9 dn x)))))]) cf_Mo 0 rfl 17 (by decide) fl_Mo_145 rfl rfl rfl (Nat.le_of_ble_eq_true rfl) rfl d_Mo_draw_58 ?_
  refine r_aload_n hX 0 d_Mo_draw_61 rfl ?_
  refine r_get hX cf_Mo 0 rfl 17 (by decide) fl_Mo_145 rfl d_Mo_draw_62 ?_
  exact r_iret hX hT () rfl rfl (by decide) (by decide) d_Mo_draw_65

abbrev rm_Mo_wipe : Room := { frames := 0, cells := 0, slots := 0, locals := 0 }
set_option maxHeartbeats 4000000 in
set_option maxRecDepth 100000 in
theorem c_Mo_wipe (l : Launch) (D : va_G) (tI tJ tZ : ClassId) (mo : Nat) (ml : Nat) (mz : Nat) (ms : Nat) (mt : Nat) (mb : Nat) (me : Nat) (bt : Nat) (wy : Nat) (lq : Nat) (df : Nat) (cd : Int) (op : Int) (mr : Int) (ld : Bool) (pt : Bool) (fr : Nat) (sn : Nat) (dn : Nat) : rCi l y_Mo_wipe prog_12_method_43_code 2 .int rm_Mo_wipe D (tysA tI tJ tZ) [.ref mo] [(mo, .inr (10, [.int (iI cd), .ref ml, .ref mz, .ref ms, .int (iI op), .int (iI mr), .int (iI (bI (ld = true))), .int (iI (bI (pt = true))), .int (iI ((fr : Nat) : Int)), .ref mt, .int (iI ((sn : Nat) : Int)), .ref mb, .ref me, .ref bt, .ref wy, .ref lq, .ref df, .int (iI ((dn : Nat) : Int))]))] (fun zz (_ : Unit) => zz = iI (((dn : Nat) : Int))) (fun (_ : Unit) => [(mo, .inr (10, [.int (iI 0), .ref ml, .ref mz, .ref ms, .int (iI op), .int (iI mr), .int (iI (bI (ld = true))), .int (iI (bI (pt = true))), .int (iI ((fr : Nat) : Int)), .ref mt, .int (iI ((sn : Nat) : Int)), .ref mb, .ref me, .ref bt, .ref wy, .ref lq, .ref df, .int (iI ((0 : Nat) : Int))]))]) := by
  intro sz
  refine r_met (by decide) (Nat.le_of_ble_eq_true rfl) ?_
  intro F p e s m args below meth c Q A hX hT hAe hsz hin
  subst hAe
  replace hX : rOK F p l e rm_Mo_wipe s m args below meth c Q prog_12_method_43_code 2 "RowAlignerModel" D (tysA tI tJ tZ) _ := hX
  show F 0 [(0, .ref mo)] [] [(mo, .inr (10, [.int (iI cd), .ref ml, .ref mz, .ref ms, .int (iI op), .int (iI mr), .int (iI (bI (ld = true))), .int (iI (bI (pt = true))), .int (iI ((fr : Nat) : Int)), .ref mt, .int (iI ((sn : Nat) : Int)), .ref mb, .ref me, .ref bt, .ref wy, .ref lq, .ref df, .int (iI ((dn : Nat) : Int))]))] 0 0
  refine r_aload_n hX 0 d_Mo_wipe_0 rfl ?_
  refine r_iconstN hX 0 d_Mo_wipe_1 rfl ?_
  refine r_put hX (ws' := [(mo, .inr (10, [.int (iI ((0 : Nat) : Int)), .ref ml, .ref mz, .ref ms, .int (iI op), .int (iI mr), .int (iI (bI (ld = true))), .int (iI (bI (pt = true))), .int (iI ((fr : Nat) : Int)), .ref mt, .int (iI ((sn : Nat) : Int)), .ref mb, .ref me, .ref bt, .ref wy, .ref lq, .ref df, .int (iI ((dn : Nat) : Int))]))]) cf_Mo 0 rfl 0 (by decide) fl_Mo_52 rfl rfl rfl (Nat.le_of_ble_eq_true rfl) rfl d_Mo_wipe_2 ?_
  refine r_aload_n hX 0 d_Mo_wipe_5 rfl ?_
  refine r_get hX cf_Mo 0 rfl 17 (by decide) fl_Mo_145 rfl d_Mo_wipe_6 ?_
  refine r_istore_n hX (lv' := [(1, .int (iI ((dn : Nat) : Int))), (0, .ref mo)]) d_Mo_wipe_9 rfl (by decide) rfl ?_
  refine r_aload_n hX 1 d_Mo_wipe_10 rfl ?_
  refine r_iconstN hX 0 d_Mo_wipe_11 rfl ?_
  refine r_put hX (ws' := [(mo, .inr (10, [.int (iI ((0 : Nat) : Int)), .ref ml, .ref mz, .ref ms, .int (iI op), .int (iI mr), .int (iI (bI (ld = true))), .int (iI (bI (pt = true))), .int (iI ((fr : Nat) : Int)), .ref mt, .int (iI ((sn : Nat) : Int)), .ref mb, .ref me, .ref bt, .ref wy, .ref lq, .ref df, .int (iI ((0 : Nat) : Int))]))]) cf_Mo 0 rfl 17 (by decide) fl_Mo_145 rfl rfl rfl (Nat.le_of_ble_eq_true rfl) rfl d_Mo_wipe_12 ?_
  refine r_iload_n hX 0 d_Mo_wipe_15 rfl ?_
  exact r_iret hX hT () rfl rfl (by decide) (by decide) d_Mo_wipe_16
