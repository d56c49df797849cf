abbrev rm_Ra_characterAt : Room := { frames := 0, cells := 0, slots := 0, locals := 0 }
set_option maxHeartbeats 4000000 in
set_option maxRecDepth 100000 in
theorem c_Ra_characterAt (l : Launch) (D : va_G) (tI tJ tZ : ClassId) (w : Int64) (k : Nat) (hk : k < 8) : rCi l y_Ra_characterAt prog_1_method_28_code 3 .int rm_Ra_characterAt D (tysA tI tJ tZ) [.long w, .int (iI ((k : Nat) : Int))] [] (fun zz (_ : Unit) => zz = iI (((ra_by w k : Nat) : Int))) (fun (_ : Unit) => []) := by
  intro sz
  refine r_met (by decide) (Nat.le_of_ble_eq_true rfl) ?_
  intro F p e s m args below meth c Q A hX hT hAe hsz hin
  subst hAe
  replace hX : rOK F p l e rm_Ra_characterAt s m args below meth c Q prog_1_method_28_code 3 "RowAligner" D (tysA tI tJ tZ) _ := hX
  show F 0 [(0, .long w), (2, .int (iI ((k : Nat) : Int)))] [] [] 0 0
  refine r_lload_n hX 0 d_Ra_characterAt_0 rfl ?_
  refine r_bipushN hX 8 d_Ra_characterAt_1 rfl (by decide) ?_
  refine r_iload_n hX 1 d_Ra_characterAt_3 rfl ?_
  refine r_imulN hX d_Ra_characterAt_4 ?_
  refine r_lushr hX d_Ra_characterAt_5 ?_
  refine r_l2i hX d_Ra_characterAt_6 ?_
  refine r_sipushN hX 255 d_Ra_characterAt_7 rfl (by decide) ?_
  refine r_iand hX (((ra_by w k : Nat) : Int)) (ra_by_u w k hk) d_Ra_characterAt_10 ?_
  exact r_iret hX hT () rfl rfl (by decide) (by decide) d_Ra_characterAt_11

abbrev rm_Ra_areCharacters : Room := { frames := 1, cells := 0, slots := 0, locals := 22 }
set_option maxHeartbeats 4000000 in
set_option maxRecDepth 100000 in
theorem c_Ra_areCharacters (l : Launch) (D : va_G) (tI tJ tZ : ClassId) (w : Int64) (nn : Nat) (hn : nn ≤ 8) : rCi l y_Ra_areCharacters prog_1_method_29_code 5 .boolean rm_Ra_areCharacters D (tysA tI tJ tZ) [.long w, .int (iI ((nn : Nat) : Int))] [] (fun zz (_ : Unit) => zz = iI (bI (ra_tv (ra_ac w nn) = true))) (fun (_ : Unit) => []) := by
  intro sz
  refine r_met (by decide) (Nat.le_of_ble_eq_true rfl) ?_
  intro F p e s m args below meth c Q A hX hT hAe hsz hin
  subst hAe
  replace hX : rOK F p l e rm_Ra_areCharacters s m args below meth c Q prog_1_method_29_code 5 "RowAligner" D (tysA tI tJ tZ) _ := hX
  show F 0 [(0, .long w), (2, .int (iI ((nn : Nat) : Int)))] [] [] 0 0
  refine r_iconstN hX 0 d_Ra_areCharacters_0 rfl ?_
  refine r_istore_n hX (lv' := [(3, .int (iI ((0 : Nat) : Int))), (0, .long w), (2, .int (iI ((nn : Nat) : Int)))]) d_Ra_areCharacters_1 rfl (by decide) rfl ?_
  have L2 : ∀ (dd : Nat) (k : Nat), nn - k = dd → (k ≤ nn) → (ra_ac w k) → F 2 [(3, .int (iI ((k : Nat) : Int))), (2, .int (iI ((nn : Nat) : Int))), (0, .long w)] [] [] 0 0 := by
    intro dd
    induction dd using Nat.strongRecOn with
    | _ dd ih2 =>
      intro k hmu2 hk hac
      refine r_iload_n hX 0 d_Ra_areCharacters_2 rfl ?_
      refine r_iload_n hX 1 d_Ra_areCharacters_3 rfl ?_
      refine r_icmp_ge hX 37 d_Ra_areCharacters_4 (by decide) (by unfold iR; omega) (by unfold iR; omega) (fun h4 => ?_) (fun h4 => ?_)
      · refine r_iconstN hX 1 d_Ra_areCharacters_37 rfl ?_
        exact r_zret hX hT (by decide) () (congrArg iI (bI_t (ra_tv_iff.2 ((show k = nn by omega) ▸ hac))).symm) rfl (by decide) (by decide) d_Ra_areCharacters_38
      · have hby := ra_by_lt w k
        refine r_lload_n hX 2 d_Ra_areCharacters_7 rfl ?_
        refine r_iload_n hX 0 d_Ra_areCharacters_8 rfl ?_
        refine r_invS_i0 (st := []) (As := [.long w, .int (iI ((k : Nat) : Int))]) (wr := []) hX (c_Ra_characterAt l D tI tJ tZ w k (by omega)) yn_Ra_characterAt ml_Ra_73 st_Ra_characterAt co_Ra_characterAt in_Ra (by decide) (by decide) (by decide) [] [] rfl rfl rfl rfl rfl (by decide) rfl rfl (Nat.le_of_ble_eq_true rfl) d_Ra_areCharacters_9 [] rfl (w2 := fun _ => []) (fun _ => rfl) (fun r9 _ e9 => ?_)
        subst e9
        refine r_bipushN hX 97 d_Ra_areCharacters_12 rfl (by decide) ?_
        refine r_isub hX d_Ra_areCharacters_14 ?_
        refine r_istore hX (lv' := [(4, .int (iI (((ra_by w k : Nat) : Int) - ((97 : Nat) : Int)))), (3, .int (iI ((k : Nat) : Int))), (2, .int (iI ((nn : Nat) : Int))), (0, .long w)]) d_Ra_areCharacters_15 (by decide) rfl ?_
        refine r_iload hX 0 d_Ra_areCharacters_17 rfl ?_
        refine r_if_lt hX 29 d_Ra_areCharacters_19 (by decide) (by unfold iR; omega) (fun h19 => ?_) (fun h19 => ?_)
        · refine r_iconstN hX 0 d_Ra_areCharacters_29 rfl ?_
          exact r_zret hX hT (by decide) () (congrArg iI (bI_f (fun q => by have q9 := (ra_tv_iff.1 q) k (by omega); omega)).symm) rfl (by decide) (by decide) d_Ra_areCharacters_30
        · refine r_iload hX 0 d_Ra_areCharacters_22 rfl ?_
          refine r_bipushN hX 26 d_Ra_areCharacters_24 rfl (by decide) ?_
          refine r_icmp_lt hX 31 d_Ra_areCharacters_26 (by decide) (by unfold iR; omega) (by unfold iR; omega) (fun h26 => ?_) (fun h26 => ?_)
          · refine r_iincN hX (lv' := [(3, .int (iI ((k + 1 : Nat) : Int))), (4, .int (iI (((ra_by w k : Nat) : Int) - ((97 : Nat) : Int)))), (2, .int (iI ((nn : Nat) : Int))), (0, .long w)]) 1 d_Ra_areCharacters_31 rfl (by decide) rfl ?_
            refine r_goto hX 2 d_Ra_areCharacters_34 (by decide) ?_
            refine r_lv hX (lv' := [(3, .int (iI ((k + 1 : Nat) : Int))), (2, .int (iI ((nn : Nat) : Int))), (0, .long w)]) [0, 2, 3] rfl ?_
            exact ih2 _ (by omega) (k + 1) rfl (by omega) (ra_ac_s hac (by omega))
          · refine r_iconstN hX 0 d_Ra_areCharacters_29 rfl ?_
            exact r_zret hX hT (by decide) () (congrArg iI (bI_f (fun q => by have q9 := (ra_tv_iff.1 q) k (by omega); omega)).symm) rfl (by decide) (by decide) d_Ra_areCharacters_30
  refine r_lv hX (lv' := [(3, .int (iI ((0 : Nat) : Int))), (2, .int (iI ((nn : Nat) : Int))), (0, .long w)]) [0, 2, 1] rfl ?_
  exact L2 _ 0 rfl (by omega) (ra_ac_0 w)

abbrev rm_Mo_type_r : Room := { frames := 1, cells := 0, slots := 0, locals := 21 }
set_option maxHeartbeats 4000000 in
set_option maxRecDepth 100000 in
theorem c_Mo_type_r (l : Launch) (D : va_G) (tI tJ tZ : ClassId) (mo : Nat) (ml : Nat) (mz : Nat) (ms : Nat) (mt : Nat) (mb : Nat) (me : Nat) (bt : Nat) (wy : Nat) (lq : Nat) (df : Nat) (cd : Int) (op : Int) (mr : Int) (ld : Bool) (pt : Bool) (fr : Nat) (sn : Nat) (dn : Nat) (x : Int) (w : Int64) (y : Int) (hx : iR x) (hr : x < 0 ∨ 1 < x) : rCi l y_Mo_type prog_12_method_5_code 7 .int rm_Mo_type_r D (tysA tI tJ tZ) [.ref mo, .int (iI x), .long w, .int (iI y)] [(mo, .inr (10, [.int (iI cd), .ref ml, .ref mz, .ref ms, .int (iI op), .int (iI mr), .int (iI (bI (ld = true))), .int (iI (bI (pt = true))), .int (iI ((fr : Nat) : Int)), .ref mt, .int (iI ((sn : Nat) : Int)), .ref mb, .ref me, .ref bt, .ref wy, .ref lq, .ref df, .int (iI ((dn : Nat) : Int))]))] (fun zz (_ : Unit) => zz = iI (((0 : Nat) : Int))) (fun (_ : Unit) => [(mo, .inr (10, [.int (iI 1), .ref ml, .ref mz, .ref ms, .int (iI op), .int (iI mr), .int (iI (bI (ld = true))), .int (iI (bI (pt = true))), .int (iI ((fr : Nat) : Int)), .ref mt, .int (iI ((sn : Nat) : Int)), .ref mb, .ref me, .ref bt, .ref wy, .ref lq, .ref df, .int (iI ((dn : Nat) : Int))]))]) := by
  intro sz
  refine r_met (by decide) (Nat.le_of_ble_eq_true rfl) ?_
  intro F p e s m args below meth c Q A hX hT hAe hsz hin
  subst hAe
  replace hX : rOK F p l e rm_Mo_type_r s m args below meth c Q prog_12_method_5_code 7 "RowAlignerModel" D (tysA tI tJ tZ) _ := hX
  show F 0 [(0, .ref mo), (1, .int (iI x)), (2, .long w), (4, .int (iI y))] [] [(mo, .inr (10, [.int (iI cd), .ref ml, .ref mz, .ref ms, .int (iI op), .int (iI mr), .int (iI (bI (ld = true))), .int (iI (bI (pt = true))), .int (iI ((fr : Nat) : Int)), .ref mt, .int (iI ((sn : Nat) : Int)), .ref mb, .ref me, .ref bt, .ref wy, .ref lq, .ref df, .int (iI ((dn : Nat) : Int))]))] 0 0
  refine r_aload_n hX 0 d_Mo_type_0 rfl ?_
  refine r_iload_n hX 1 d_Mo_type_1 rfl ?_
  refine r_invV_i0 (st := []) (As := [.int (iI x)]) (wr := []) hX (c_Mo_noRow_t l D tI tJ tZ mo ml mz ms mt mb me bt wy lq df cd op mr ld pt fr sn dn x hx hr) "RowAlignerModel" 0 10 cf_Mo rfl yn_Mo_noRow ml_Mo_55 im_Mo_noRow se_Mo_noRow co_Mo_noRow in_Mo (by decide) (by decide) (by decide) [0] [] rfl rfl rfl rfl rfl (by decide) rfl rfl (Nat.le_of_ble_eq_true rfl) d_Mo_type_2 [0] rfl (w2 := fun _ => [(mo, .inr (10, [.int (iI 1), .ref ml, .ref mz, .ref ms, .int (iI op), .int (iI mr), .int (iI (bI (ld = true))), .int (iI (bI (pt = true))), .int (iI ((fr : Nat) : Int)), .ref mt, .int (iI ((sn : Nat) : Int)), .ref mb, .ref me, .ref bt, .ref wy, .ref lq, .ref df, .int (iI ((dn : Nat) : Int))]))]) (fun _ => rfl) (fun r2 _ e2 => ?_)
  subst e2
  refine r_if_eq hX 10 d_Mo_type_5 (by decide) (by unfold iR; omega) (fun h5 => by exfalso; omega) (fun h5 => ?_)
  refine r_iconstN hX 0 d_Mo_type_8 rfl ?_
  exact r_iret hX hT () rfl rfl (by decide) (by decide) d_Mo_type_9

abbrev rm_Mo_type_n : Room := { frames := 1, cells := 0, slots := 0, locals := 21 }
set_option maxHeartbeats 4000000 in
set_option maxRecDepth 100000 in
theorem c_Mo_type_n (l : Launch) (D : va_G) (tI tJ tZ : ClassId) (mo : Nat) (ml : Nat) (mz : Nat) (ms : Nat) (mt : Nat) (mb : Nat) (me : Nat) (bt : Nat) (wy : Nat) (lq : Nat) (df : Nat) (cd : Int) (op : Int) (mr : Int) (ld : Bool) (pt : Bool) (fr : Nat) (sn : Nat) (dn : Nat) (x : Nat) (w : Int64) (y : Int) (hr : x ≤ 1) (hy : iR y) (hn : y < 1 ∨ 8 < y) : rCi l y_Mo_type prog_12_method_5_code 7 .int rm_Mo_type_n D (tysA tI tJ tZ) [.ref mo, .int (iI ((x : Nat) : Int)), .long w, .int (iI y)] [(mo, .inr (10, [.int (iI cd), .ref ml, .ref mz, .ref ms, .int (iI op), .int (iI mr), .int (iI (bI (ld = true))), .int (iI (bI (pt = true))), .int (iI ((fr : Nat) : Int)), .ref mt, .int (iI ((sn : Nat) : Int)), .ref mb, .ref me, .ref bt, .ref wy, .ref lq, .ref df, .int (iI ((dn : Nat) : Int))]))] (fun zz (_ : Unit) => zz = iI (((0 : Nat) : Int))) (fun (_ : Unit) => [(mo, .inr (10, [.int (iI 2), .ref ml, .ref mz, .ref ms, .int (iI op), .int (iI mr), .int (iI (bI (ld = true))), .int (iI (bI (pt = true))), .int (iI ((fr : Nat) : Int)), .ref mt, .int (iI ((sn : Nat) : Int)), .ref mb, .ref me, .ref bt, .ref wy, .ref lq, .ref df, .int (iI ((dn : Nat) : Int))]))]) := by
  intro sz
  refine r_met (by decide) (Nat.le_of_ble_eq_true rfl) ?_
  intro F p e s m args below meth c Q A hX hT hAe hsz hin
  subst hAe
  replace hX : rOK F p l e rm_Mo_type_n s m args below meth c Q prog_12_method_5_code 7 "RowAlignerModel" D (tysA tI tJ tZ) _ := hX
  unfold iR at hy
  show F 0 [(0, .ref mo), (1, .int (iI ((x : Nat) : Int))), (2, .long w), (4, .int (iI y))] [] [(mo, .inr (10, [.int (iI cd), .ref ml, .ref mz, .ref ms, .int (iI op), .int (iI mr), .int (iI (bI (ld = true))), .int (iI (bI (pt = true))), .int (iI ((fr : Nat) : Int)), .ref mt, .int (iI ((sn : Nat) : Int)), .ref mb, .ref me, .ref bt, .ref wy, .ref lq, .ref df, .int (iI ((dn : Nat) : Int))]))] 0 0
  refine r_aload_n hX 0 d_Mo_type_0 rfl ?_
  refine r_iload_n hX 1 d_Mo_type_1 rfl ?_
  refine r_invV_i0 (st := []) (As := [.int (iI ((x : Nat) : Int))]) (wr := []) hX (c_Mo_noRow_f l D tI tJ tZ mo ml mz ms mt mb me bt wy lq df cd op mr ld pt fr sn dn x hr) "RowAlignerModel" 0 10 cf_Mo rfl yn_Mo_noRow ml_Mo_55 im_Mo_noRow se_Mo_noRow co_Mo_noRow in_Mo (by decide) (by decide) (by decide) [0] [] rfl rfl rfl rfl rfl (by decide) rfl rfl (Nat.le_of_ble_eq_true rfl) d_Mo_type_2 [0] rfl (w2 := fun _ => [(mo, .inr (10, [.int (iI 0), .ref ml, .ref mz, .ref ms, .int (iI op), .int (iI mr), .int (iI (bI (ld = true))), .int (iI (bI (pt = true))), .int (iI ((fr : Nat) : Int)), .ref mt, .int (iI ((sn : Nat) : Int)), .ref mb, .ref me, .ref bt, .ref wy, .ref lq, .ref df, .int (iI ((dn : Nat) : Int))]))]) (fun _ => rfl) (fun r2 _ e2 => ?_)
  subst e2
  refine r_if_eq hX 10 d_Mo_type_5 (by decide) (by unfold iR; omega) (fun h5 => ?_) (fun h5 => by exfalso; omega)
  refine r_aload_n hX 0 d_Mo_type_10 rfl ?_
  refine r_iload hX 3 d_Mo_type_11 rfl ?_
  refine r_iconstN hX 1 d_Mo_type_13 rfl ?_
  have J29 : F 29 [(0, .ref mo), (1, .int (iI ((x : Nat) : Int))), (2, .long w), (4, .int (iI y))] [.int (iI 2), .ref mo] [(mo, .inr (10, [.int (iI 0), .ref ml, .ref mz, .ref ms, .int (iI op), .int (iI mr), .int (iI (bI (ld = true))), .int (iI (bI (pt = true))), .int (iI ((fr : Nat) : Int)), .ref mt, .int (iI ((sn : Nat) : Int)), .ref mb, .ref me, .ref bt, .ref wy, .ref lq, .ref df, .int (iI ((dn : Nat) : Int))]))] 0 0 := by
    refine r_put hX (ws' := [(mo, .inr (10, [.int (iI 2), .ref ml, .ref mz, .ref ms, .int (iI op), .int (iI mr), .int (iI (bI (ld = true))), .int (iI (bI (pt = true))), .int (iI ((fr : Nat) : Int)), .ref mt, .int (iI ((sn : Nat) : Int)), .ref mb, .ref me, .ref bt, .ref wy, .ref lq, .ref df, .int (iI ((dn : Nat) : Int))]))]) cf_Mo 0 rfl 0 (by decide) fl_Mo_52 rfl rfl rfl (Nat.le_of_ble_eq_true rfl) rfl d_Mo_type_29 ?_
    refine r_iconstN hX 0 d_Mo_type_32 rfl ?_
    refine r_istore hX (lv' := [(5, .int (iI ((0 : Nat) : Int))), (0, .ref mo), (1, .int (iI ((x : Nat) : Int))), (2, .long w), (4, .int (iI y))]) d_Mo_type_33 (by decide) rfl ?_
    refine r_iload hX 0 d_Mo_type_35 rfl ?_
    refine r_iload hX 4 d_Mo_type_37 rfl ?_
    refine r_icmp_ge hX 92 d_Mo_type_39 (by decide) (by unfold iR; omega) (by unfold iR; omega) (fun h39 => ?_) (fun h39 => ?_)
    · refine r_aload_n hX 1 d_Mo_type_92 rfl ?_
      refine r_aload_n hX 1 d_Mo_type_93 rfl ?_
      refine r_get hX cf_Mo 0 rfl 0 (by decide) fl_Mo_52 rfl d_Mo_type_94 ?_
      refine r_if_ne hX 118 d_Mo_type_97 (by decide) (by unfold iR; omega) (fun h97 => ?_) (fun h97 => by exfalso; omega)
      refine r_aload_n hX 1 d_Mo_type_118 rfl ?_
      refine r_get hX cf_Mo 0 rfl 0 (by decide) fl_Mo_52 rfl d_Mo_type_119 ?_
      refine r_put hX (ws' := [(mo, .inr (10, [.int (iI 2), .ref ml, .ref mz, .ref ms, .int (iI op), .int (iI mr), .int (iI (bI (ld = true))), .int (iI (bI (pt = true))), .int (iI ((fr : Nat) : Int)), .ref mt, .int (iI ((sn : Nat) : Int)), .ref mb, .ref me, .ref bt, .ref wy, .ref lq, .ref df, .int (iI ((dn : Nat) : Int))]))]) cf_Mo 0 rfl 0 (by decide) fl_Mo_52 rfl rfl rfl (Nat.le_of_ble_eq_true rfl) rfl d_Mo_type_122 ?_
      refine r_aload_n hX 1 d_Mo_type_125 rfl ?_
      refine r_get hX cf_Mo 0 rfl 0 (by decide) fl_Mo_52 rfl d_Mo_type_126 ?_
      refine r_if_le hX 134 d_Mo_type_129 (by decide) (by unfold iR; omega) (fun h129 => by exfalso; omega) (fun h129 => ?_)
      refine r_iconstN hX 0 d_Mo_type_132 rfl ?_
      exact r_iret hX hT () rfl rfl (by decide) (by decide) d_Mo_type_133
    · refine r_aload_n hX 1 d_Mo_type_42 rfl ?_
      refine r_get hX cf_Mo 0 rfl 0 (by decide) fl_Mo_52 rfl d_Mo_type_43 ?_
      refine r_if_ne hX 92 d_Mo_type_46 (by decide) (by unfold iR; omega) (fun h46 => ?_) (fun h46 => by exfalso; omega)
      refine r_aload_n hX 1 d_Mo_type_92 rfl ?_
      refine r_aload_n hX 1 d_Mo_type_93 rfl ?_
      refine r_get hX cf_Mo 0 rfl 0 (by decide) fl_Mo_52 rfl d_Mo_type_94 ?_
      refine r_if_ne hX 118 d_Mo_type_97 (by decide) (by unfold iR; omega) (fun h97 => ?_) (fun h97 => by exfalso; omega)
      refine r_aload_n hX 1 d_Mo_type_118 rfl ?_
      refine r_get hX cf_Mo 0 rfl 0 (by decide) fl_Mo_52 rfl d_Mo_type_119 ?_
      refine r_put hX (ws' := [(mo, .inr (10, [.int (iI 2), .ref ml, .ref mz, .ref ms, .int (iI op), .int (iI mr), .int (iI (bI (ld = true))), .int (iI (bI (pt = true))), .int (iI ((fr : Nat) : Int)), .ref mt, .int (iI ((sn : Nat) : Int)), .ref mb, .ref me, .ref bt, .ref wy, .ref lq, .ref df, .int (iI ((dn : Nat) : Int))]))]) cf_Mo 0 rfl 0 (by decide) fl_Mo_52 rfl rfl rfl (Nat.le_of_ble_eq_true rfl) rfl d_Mo_type_122 ?_
      refine r_aload_n hX 1 d_Mo_type_125 rfl ?_
      refine r_get hX cf_Mo 0 rfl 0 (by decide) fl_Mo_52 rfl d_Mo_type_126 ?_
      refine r_if_le hX 134 d_Mo_type_129 (by decide) (by unfold iR; omega) (fun h129 => by exfalso; omega) (fun h129 => ?_)
      refine r_iconstN hX 0 d_Mo_type_132 rfl ?_
      exact r_iret hX hT () rfl rfl (by decide) (by decide) d_Mo_type_133
  refine r_icmp_lt hX 24 d_Mo_type_14 (by decide) (by unfold iR; omega) (by unfold iR; omega) (fun h14 => ?_) (fun h14 => ?_)
  · refine r_iconstN hX 2 d_Mo_type_24 rfl ?_
    refine r_goto hX 29 d_Mo_type_25 (by decide) ?_
    exact rj_e (by rfl) J29
  · refine r_iload hX 3 d_Mo_type_17 rfl ?_
    refine r_bipushN hX 8 d_Mo_type_19 rfl (by decide) ?_
    refine r_icmp_le hX 28 d_Mo_type_21 (by decide) (by unfold iR; omega) (by unfold iR; omega) (fun h21 => by exfalso; omega) (fun h21 => ?_)
    refine r_iconstN hX 2 d_Mo_type_24 rfl ?_
    refine r_goto hX 29 d_Mo_type_25 (by decide) ?_
    exact rj_e (by rfl) J29

abbrev rm_Mo_type_c : Room := { frames := 1, cells := 0, slots := 0, locals := 21 }
set_option maxHeartbeats 4000000 in
set_option maxRecDepth 100000 in
theorem c_Mo_type_c (l : Launch) (D : va_G) (tI tJ tZ : ClassId) (mo : Nat) (ml : Nat) (mz : Nat) (ms : Nat) (mt : Nat) (mb : Nat) (me : Nat) (bt : Nat) (wy : Nat) (lq : Nat) (df : Nat) (cd : Int) (op : Int) (mr : Int) (ld : Bool) (pt : Bool) (fr : Nat) (sn : Nat) (dn : Nat) (x : Nat) (w : Int64) (nn : Nat) (hr : x ≤ 1) (hn : 1 ≤ nn ∧ nn ≤ 8) (hac : ¬ ra_ac w nn) : rCi l y_Mo_type prog_12_method_5_code 7 .int rm_Mo_type_c D (tysA tI tJ tZ) [.ref mo, .int (iI ((x : Nat) : Int)), .long w, .int (iI ((nn : Nat) : Int))] [(mo, .inr (10, [.int (iI cd), .ref ml, .ref mz, .ref ms, .int (iI op), .int (iI mr), .int (iI (bI (ld = true))), .int (iI (bI (pt = true))), .int (iI ((fr : Nat) : Int)), .ref mt, .int (iI ((sn : Nat) : Int)), .ref mb, .ref me, .ref bt, .ref wy, .ref lq, .ref df, .int (iI ((dn : Nat) : Int))]))] (fun zz (_ : Unit) => zz = iI (((0 : Nat) : Int))) (fun (_ : Unit) => [(mo, .inr (10, [.int (iI 2), .ref ml, .ref mz, .ref ms, .int (iI op), .int (iI mr), .int (iI (bI (ld = true))), .int (iI (bI (pt = true))), .int (iI ((fr : Nat) : Int)), .ref mt, .int (iI ((sn : Nat) : Int)), .ref mb, .ref me, .ref bt, .ref wy, .ref lq, .ref df, .int (iI ((dn : Nat) : Int))]))]) := by
  intro sz
  refine r_met (by decide) (Nat.le_of_ble_eq_true rfl) ?_
  intro F p e s m args below meth c Q A hX hT hAe hsz hin
  subst hAe
  replace hX : rOK F p l e rm_Mo_type_c s m args below meth c Q prog_12_method_5_code 7 "RowAlignerModel" D (tysA tI tJ tZ) _ := hX
  show F 0 [(0, .ref mo), (1, .int (iI ((x : Nat) : Int))), (2, .long w), (4, .int (iI ((nn : Nat) : Int)))] [] [(mo, .inr (10, [.int (iI cd), .ref ml, .ref mz, .ref ms, .int (iI op), .int (iI mr), .int (iI (bI (ld = true))), .int (iI (bI (pt = true))), .int (iI ((fr : Nat) : Int)), .ref mt, .int (iI ((sn : Nat) : Int)), .ref mb, .ref me, .ref bt, .ref wy, .ref lq, .ref df, .int (iI ((dn : Nat) : Int))]))] 0 0
  refine r_aload_n hX 0 d_Mo_type_0 rfl ?_
  refine r_iload_n hX 1 d_Mo_type_1 rfl ?_
  refine r_invV_i0 (st := []) (As := [.int (iI ((x : Nat) : Int))]) (wr := []) hX (c_Mo_noRow_f l D tI tJ tZ mo ml mz ms mt mb me bt wy lq df cd op mr ld pt fr sn dn x hr) "RowAlignerModel" 0 10 cf_Mo rfl yn_Mo_noRow ml_Mo_55 im_Mo_noRow se_Mo_noRow co_Mo_noRow in_Mo (by decide) (by decide) (by decide) [0] [] rfl rfl rfl rfl rfl (by decide) rfl rfl (Nat.le_of_ble_eq_true rfl) d_Mo_type_2 [0] rfl (w2 := fun _ => [(mo, .inr (10, [.int (iI 0), .ref ml, .ref mz, .ref ms, .int (iI op), .int (iI mr), .int (iI (bI (ld = true))), .int (iI (bI (pt = true))), .int (iI ((fr : Nat) : Int)), .ref mt, .int (iI ((sn : Nat) : Int)), .ref mb, .ref me, .ref bt, .ref wy, .ref lq, .ref df, .int (iI ((dn : Nat) : Int))]))]) (fun _ => rfl) (fun r2 _ e2 => ?_)
  subst e2
  refine r_if_eq hX 10 d_Mo_type_5 (by decide) (by unfold iR; omega) (fun h5 => ?_) (fun h5 => by exfalso; omega)
  refine r_aload_n hX 0 d_Mo_type_10 rfl ?_
  refine r_iload hX 3 d_Mo_type_11 rfl ?_
  refine r_iconstN hX 1 d_Mo_type_13 rfl ?_
  refine r_icmp_lt hX 24 d_Mo_type_14 (by decide) (by unfold iR; omega) (by unfold iR; omega) (fun h14 => by exfalso; omega) (fun h14 => ?_)
  refine r_iload hX 3 d_Mo_type_17 rfl ?_
  refine r_bipushN hX 8 d_Mo_type_19 rfl (by decide) ?_
  refine r_icmp_le hX 28 d_Mo_type_21 (by decide) (by unfold iR; omega) (by unfold iR; omega) (fun h21 => ?_) (fun h21 => by exfalso; omega)
  refine r_iconstN hX 0 d_Mo_type_28 rfl ?_
  refine r_put hX (ws' := [(mo, .inr (10, [.int (iI ((0 : Nat) : Int)), .ref ml, .ref mz, .ref ms, .int (iI op), .int (iI mr), .int (iI (bI (ld = true))), .int (iI (bI (pt = true))), .int (iI ((fr : Nat) : Int)), .ref mt, .int (iI ((sn : Nat) : Int)), .ref mb, .ref me, .ref bt, .ref wy, .ref lq, .ref df, .int (iI ((dn : Nat) : Int))]))]) cf_Mo 0 rfl 0 (by decide) fl_Mo_52 rfl rfl rfl (Nat.le_of_ble_eq_true rfl) rfl d_Mo_type_29 ?_
  refine r_iconstN hX 0 d_Mo_type_32 rfl ?_
  refine r_istore hX (lv' := [(5, .int (iI ((0 : Nat) : Int))), (0, .ref mo), (1, .int (iI ((x : Nat) : Int))), (2, .long w), (4, .int (iI ((nn : Nat) : Int)))]) d_Mo_type_33 (by decide) rfl ?_
  have L35 : ∀ (dd : Nat) (k : Nat) (cz : Int), nn - k = dd → (k ≤ nn) → ((cz = 0 ∧ ra_ac w k) ∨ (cz = 2 ∧ ¬ ra_ac w nn)) → F 35 [(5, .int (iI ((k : Nat) : Int))), (4, .int (iI ((nn : Nat) : Int))), (2, .long w), (1, .int (iI ((x : Nat) : Int))), (0, .ref mo)] [] [(mo, .inr (10, [.int (iI cz), .ref ml, .ref mz, .ref ms, .int (iI op), .int (iI mr), .int (iI (bI (ld = true))), .int (iI (bI (pt = true))), .int (iI ((fr : Nat) : Int)), .ref mt, .int (iI ((sn : Nat) : Int)), .ref mb, .ref me, .ref bt, .ref wy, .ref lq, .ref df, .int (iI ((dn : Nat) : Int))]))] 0 0 := by
    intro dd
    induction dd using Nat.strongRecOn with
    | _ dd ih35 =>
      intro k cz hmu35 hk hcc
      refine r_iload hX 0 d_Mo_type_35 rfl ?_
      refine r_iload hX 1 d_Mo_type_37 rfl ?_
      refine r_icmp_ge hX 92 d_Mo_type_39 (by decide) (by unfold iR; omega) (by unfold iR; omega) (fun h39 => ?_) (fun h39 => ?_)
      · have hcz : cz = 2 := by rcases hcc with q | q; (exfalso; first | exact h46 q.1 | exact hac ((show k = nn by omega) ▸ q.2)); exact q.1
        subst hcz
        refine r_aload_n hX 4 d_Mo_type_92 rfl ?_
        refine r_aload_n hX 4 d_Mo_type_93 rfl ?_
        refine r_get hX cf_Mo 0 rfl 0 (by decide) fl_Mo_52 rfl d_Mo_type_94 ?_
        refine r_if_ne hX 118 d_Mo_type_97 (by decide) (by unfold iR; omega) (fun h97 => ?_) (fun h97 => by exfalso; omega)
        refine r_aload_n hX 4 d_Mo_type_118 rfl ?_
        refine r_get hX cf_Mo 0 rfl 0 (by decide) fl_Mo_52 rfl d_Mo_type_119 ?_
        refine r_put hX (ws' := [(mo, .inr (10, [.int (iI 2), .ref ml, .ref mz, .ref ms, .int (iI op), .int (iI mr), .int (iI (bI (ld = true))), .int (iI (bI (pt = true))), .int (iI ((fr : Nat) : Int)), .ref mt, .int (iI ((sn : Nat) : Int)), .ref mb, .ref me, .ref bt, .ref wy, .ref lq, .ref df, .int (iI ((dn : Nat) : Int))]))]) cf_Mo 0 rfl 0 (by decide) fl_Mo_52 rfl rfl rfl (Nat.le_of_ble_eq_true rfl) rfl d_Mo_type_122 ?_
        refine r_aload_n hX 4 d_Mo_type_125 rfl ?_
        refine r_get hX cf_Mo 0 rfl 0 (by decide) fl_Mo_52 rfl d_Mo_type_126 ?_
        refine r_if_le hX 134 d_Mo_type_129 (by decide) (by unfold iR; omega) (fun h129 => by exfalso; omega) (fun h129 => ?_)
        refine r_iconstN hX 0 d_Mo_type_132 rfl ?_
        exact r_iret hX hT () rfl rfl (by decide) (by decide) d_Mo_type_133
      · refine r_aload_n hX 4 d_Mo_type_42 rfl ?_
        refine r_get hX cf_Mo 0 rfl 0 (by decide) fl_Mo_52 rfl d_Mo_type_43 ?_
        refine r_if_ne hX 92 d_Mo_type_46 (by decide) (by unfold iR; omega) (fun h46 => ?_) (fun h46 => ?_)
        · have hcz : cz = 2 := by rcases hcc with q | q; (exfalso; first | exact h46 q.1 | exact hac ((show k = nn by omega) ▸ q.2)); exact q.1
          subst hcz
          refine r_aload_n hX 4 d_Mo_type_92 rfl ?_
          refine r_aload_n hX 4 d_Mo_type_93 rfl ?_
          refine r_get hX cf_Mo 0 rfl 0 (by decide) fl_Mo_52 rfl d_Mo_type_94 ?_
          refine r_if_ne hX 118 d_Mo_type_97 (by decide) (by unfold iR; omega) (fun h97 => ?_) (fun h97 => by exfalso; omega)
          refine r_aload_n hX 4 d_Mo_type_118 rfl ?_
          refine r_get hX cf_Mo 0 rfl 0 (by decide) fl_Mo_52 rfl d_Mo_type_119 ?_
          refine r_put hX (ws' := [(mo, .inr (10, [.int (iI 2), .ref ml, .ref mz, .ref ms, .int (iI op), .int (iI mr), .int (iI (bI (ld = true))), .int (iI (bI (pt = true))), .int (iI ((fr : Nat) : Int)), .ref mt, .int (iI ((sn : Nat) : Int)), .ref mb, .ref me, .ref bt, .ref wy, .ref lq, .ref df, .int (iI ((dn : Nat) : Int))]))]) cf_Mo 0 rfl 0 (by decide) fl_Mo_52 rfl rfl rfl (Nat.le_of_ble_eq_true rfl) rfl d_Mo_type_122 ?_
          refine r_aload_n hX 4 d_Mo_type_125 rfl ?_
          refine r_get hX cf_Mo 0 rfl 0 (by decide) fl_Mo_52 rfl d_Mo_type_126 ?_
          refine r_if_le hX 134 d_Mo_type_129 (by decide) (by unfold iR; omega) (fun h129 => by exfalso; omega) (fun h129 => ?_)
          refine r_iconstN hX 0 d_Mo_type_132 rfl ?_
          exact r_iret hX hT () rfl rfl (by decide) (by decide) d_Mo_type_133
        · have hak : ra_ac w k := by rcases hcc with q | q; (exact q.2); omega
          have hby := ra_by_lt w k
          refine r_lload_n hX 2 d_Mo_type_49 rfl ?_
          refine r_bipushN hX 8 d_Mo_type_50 rfl (by decide) ?_
          refine r_iload hX 0 d_Mo_type_52 rfl ?_
          refine r_imulN hX d_Mo_type_54 ?_
          refine r_lshr hX d_Mo_type_55 ?_
          refine r_ldc2 hX cL_Mo_59 d_Mo_type_56 ?_
          refine r_land hX d_Mo_type_59 ?_
          refine r_l2i hX d_Mo_type_60 ?_
          refine r_topi hX (((ra_by w k : Nat) : Int)) (ra_by_s w k (by omega)) ?_
          refine r_istore hX (lv' := [(6, .int (iI ((ra_by w k : Nat) : Int))), (5, .int (iI ((k : Nat) : Int))), (4, .int (iI ((nn : Nat) : Int))), (2, .long w), (1, .int (iI ((x : Nat) : Int))), (0, .ref mo)]) d_Mo_type_61 (by decide) rfl ?_
          refine r_aload_n hX 5 d_Mo_type_63 rfl ?_
          refine r_iload hX 0 d_Mo_type_64 rfl ?_
          refine r_bipushN hX 97 d_Mo_type_66 rfl (by decide) ?_
          have J83 : F 83 [(6, .int (iI ((ra_by w k : Nat) : Int))), (5, .int (iI ((k : Nat) : Int))), (4, .int (iI ((nn : Nat) : Int))), (2, .long w), (1, .int (iI ((x : Nat) : Int))), (0, .ref mo)] [.int (iI (if 97 ≤ ra_by w k ∧ ra_by w k ≤ 122 then 0 else 2)), .ref mo] [(mo, .inr (10, [.int (iI cz), .ref ml, .ref mz, .ref ms, .int (iI op), .int (iI mr), .int (iI (bI (ld = true))), .int (iI (bI (pt = true))), .int (iI ((fr : Nat) : Int)), .ref mt, .int (iI ((sn : Nat) : Int)), .ref mb, .ref me, .ref bt, .ref wy, .ref lq, .ref df, .int (iI ((dn : Nat) : Int))]))] 0 0 := by
            refine r_put hX (ws' := [(mo, .inr (10, [.int (iI (if 97 ≤ ra_by w k ∧ ra_by w k ≤ 122 then 0 else 2)), .ref ml, .ref mz, .ref ms, .int (iI op), .int (iI mr), .int (iI (bI (ld = true))), .int (iI (bI (pt = true))), .int (iI ((fr : Nat) : Int)), .ref mt, .int (iI ((sn : Nat) : Int)), .ref mb, .ref me, .ref bt, .ref wy, .ref lq, .ref df, .int (iI ((dn : Nat) : Int))]))]) cf_Mo 0 rfl 0 (by decide) fl_Mo_52 rfl rfl rfl (Nat.le_of_ble_eq_true rfl) rfl d_Mo_type_83 ?_
            refine r_iincN hX (lv' := [(5, .int (iI ((k + 1 : Nat) : Int))), (6, .int (iI ((ra_by w k : Nat) : Int))), (4, .int (iI ((nn : Nat) : Int))), (2, .long w), (1, .int (iI ((x : Nat) : Int))), (0, .ref mo)]) 1 d_Mo_type_86 rfl (by decide) rfl ?_
            refine r_goto hX 35 d_Mo_type_89 (by decide) ?_
            refine r_lv hX (lv' := [(5, .int (iI ((k + 1 : Nat) : Int))), (4, .int (iI ((nn : Nat) : Int))), (2, .long w), (1, .int (iI ((x : Nat) : Int))), (0, .ref mo)]) [0, 2, 3, 4, 5] rfl ?_
            exact ih35 _ (by omega) (k + 1) (if 97 ≤ ra_by w k ∧ ra_by w k ≤ 122 then 0 else 2) rfl (by omega) (by by_cases q : (97 ≤ ra_by w k ∧ ra_by w k ≤ 122); (rw [if_pos q]; exact Or.inl ⟨rfl, ra_ac_s hak q⟩); (rw [if_neg q]; exact Or.inr ⟨rfl, fun z => q (z k (by omega))⟩))
          refine r_icmp_lt hX 78 d_Mo_type_68 (by decide) (by unfold iR; omega) (by unfold iR; omega) (fun h68 => ?_) (fun h68 => ?_)
          · refine r_iconstN hX 2 d_Mo_type_78 rfl ?_
            refine r_goto hX 83 d_Mo_type_79 (by decide) ?_
            exact rj_e (by first | exact (if_pos (by omega)).symm | exact (if_neg (by omega)).symm) J83
          · refine r_iload hX 0 d_Mo_type_71 rfl ?_
            refine r_bipushN hX 122 d_Mo_type_73 rfl (by decide) ?_
            refine r_icmp_le hX 82 d_Mo_type_75 (by decide) (by unfold iR; omega) (by unfold iR; omega) (fun h75 => ?_) (fun h75 => ?_)
            · refine r_iconstN hX 0 d_Mo_type_82 rfl ?_
              exact rj_e (by first | exact (if_pos (by omega)).symm | exact (if_neg (by omega)).symm) J83
            · refine r_iconstN hX 2 d_Mo_type_78 rfl ?_
              refine r_goto hX 83 d_Mo_type_79 (by decide) ?_
              exact rj_e (by first | exact (if_pos (by omega)).symm | exact (if_neg (by omega)).symm) J83
  refine r_lv hX (lv' := [(5, .int (iI ((0 : Nat) : Int))), (4, .int (iI ((nn : Nat) : Int))), (2, .long w), (1, .int (iI ((x : Nat) : Int))), (0, .ref mo)]) [0, 4, 3, 2, 1] rfl ?_
  refine r_eq (lv2 := [(5, .int (iI ((0 : Nat) : Int))), (4, .int (iI ((nn : Nat) : Int))), (2, .long w), (1, .int (iI ((x : Nat) : Int))), (0, .ref mo)]) (st2 := []) (ws2 := [(mo, .inr (10, [.int (iI 0), .ref ml, .ref mz, .ref ms, .int (iI op), .int (iI mr), .int (iI (bI (ld = true))), .int (iI (bI (pt = true))), .int (iI ((fr : Nat) : Int)), .ref mt, .int (iI ((sn : Nat) : Int)), .ref mb, .ref me, .ref bt, .ref wy, .ref lq, .ref df, .int (iI ((dn : Nat) : Int))]))]) rfl rfl rfl ?_
  exact L35 _ 0 0 rfl (by omega) (Or.inl ⟨rfl, ra_ac_0 w⟩)

abbrev rm_Mo_type_l : Room := { frames := 1, cells := 0, slots := 0, locals := 21 }
set_option maxHeartbeats 4000000 in
set_option maxRecDepth 100000 in
theorem c_Mo_type_l (l : Launch) (D : va_G) (tI tJ tZ : ClassId) (mo : Nat) (ml : Nat) (mz : Nat) (ms : Nat) (mt : Nat) (mb : Nat) (me : Nat) (bt : Nat) (wy : Nat) (lq : Nat) (df : Nat) (cd : Int) (op : Int) (mr : Int) (ld : Bool) (pt : Bool) (fr : Nat) (sn : Nat) (dn : Nat) (Z : Nat → Nat) (x : Nat) (w : Int64) (nn : Nat) (hr : x ≤ 1) (hn : 1 ≤ nn ∧ nn ≤ 8) (hac : ra_ac w nn) (hz : Z x ≤ 96) (hlen : 96 < Z x + nn) : rCi l y_Mo_type prog_12_method_5_code 7 .int rm_Mo_type_l D (tysA tI tJ tZ) [.ref mo, .int (iI ((x : Nat) : Int)), .long w, .int (iI ((nn : Nat) : Int))] [(mo, .inr (10, [.int (iI cd), .ref ml, .ref mz, .ref ms, .int (iI op), .int (iI mr), .int (iI (bI (ld = true))), .int (iI (bI (pt = true))), .int (iI ((fr : Nat) : Int)), .ref mt, .int (iI ((sn : Nat) : Int)), .ref mb, .ref me, .ref bt, .ref wy, .ref lq, .ref df, .int (iI ((dn : Nat) : Int))])), (mz, .inl (tI, 2, .inl (iA (iN Z))))] (fun zz (_ : Unit) => zz = iI (((0 : Nat) : Int))) (fun (_ : Unit) => [(mo, .inr (10, [.int (iI 3), .ref ml, .ref mz, .ref ms, .int (iI op), .int (iI mr), .int (iI (bI (ld = true))), .int (iI (bI (pt = true))), .int (iI ((fr : Nat) : Int)), .ref mt, .int (iI ((sn : Nat) : Int)), .ref mb, .ref me, .ref bt, .ref wy, .ref lq, .ref df, .int (iI ((dn : Nat) : Int))])), (mz, .inl (tI, 2, .inl (iA (iN Z))))]) := by
  intro sz
  refine r_met (by decide) (Nat.le_of_ble_eq_true rfl) ?_
  intro F p e s m args below meth c Q A hX hT hAe hsz hin
  subst hAe
  replace hX : rOK F p l e rm_Mo_type_l s m args below meth c Q prog_12_method_5_code 7 "RowAlignerModel" D (tysA tI tJ tZ) _ := hX
  show F 0 [(0, .ref mo), (1, .int (iI ((x : Nat) : Int))), (2, .long w), (4, .int (iI ((nn : Nat) : Int)))] [] [(mo, .inr (10, [.int (iI cd), .ref ml, .ref mz, .ref ms, .int (iI op), .int (iI mr), .int (iI (bI (ld = true))), .int (iI (bI (pt = true))), .int (iI ((fr : Nat) : Int)), .ref mt, .int (iI ((sn : Nat) : Int)), .ref mb, .ref me, .ref bt, .ref wy, .ref lq, .ref df, .int (iI ((dn : Nat) : Int))])), (mz, .inl (tI, 2, .inl (iA (iN Z))))] 0 0
  refine r_aload_n hX 0 d_Mo_type_0 rfl ?_
  refine r_iload_n hX 1 d_Mo_type_1 rfl ?_
  refine r_invV_i0 (st := []) (As := [.int (iI ((x : Nat) : Int))]) (wr := [(mz, .inl (tI, 2, .inl (iA (iN Z))))]) hX (c_Mo_noRow_f l D tI tJ tZ mo ml mz ms mt mb me bt wy lq df cd op mr ld pt fr sn dn x hr) "RowAlignerModel" 0 10 cf_Mo rfl yn_Mo_noRow ml_Mo_55 im_Mo_noRow se_Mo_noRow co_Mo_noRow in_Mo (by decide) (by decide) (by decide) [0] [1] rfl rfl rfl rfl rfl (by decide) rfl rfl (Nat.le_of_ble_eq_true rfl) d_Mo_type_2 [1, 0] rfl (w2 := fun _ => [(mo, .inr (10, [.int (iI 0), .ref ml, .ref mz, .ref ms, .int (iI op), .int (iI mr), .int (iI (bI (ld = true))), .int (iI (bI (pt = true))), .int (iI ((fr : Nat) : Int)), .ref mt, .int (iI ((sn : Nat) : Int)), .ref mb, .ref me, .ref bt, .ref wy, .ref lq, .ref df, .int (iI ((dn : Nat) : Int))])), (mz, .inl (tI, 2, .inl (iA (iN Z))))]) (fun _ => rfl) (fun r2 _ e2 => ?_)
  subst e2
  refine r_if_eq hX 10 d_Mo_type_5 (by decide) (by unfold iR; omega) (fun h5 => ?_) (fun h5 => by exfalso; omega)
  refine r_aload_n hX 0 d_Mo_type_10 rfl ?_
  refine r_iload hX 3 d_Mo_type_11 rfl ?_
  refine r_iconstN hX 1 d_Mo_type_13 rfl ?_
  refine r_icmp_lt hX 24 d_Mo_type_14 (by decide) (by unfold iR; omega) (by unfold iR; omega) (fun h14 => by exfalso; omega) (fun h14 => ?_)
  refine r_iload hX 3 d_Mo_type_17 rfl ?_
  refine r_bipushN hX 8 d_Mo_type_19 rfl (by decide) ?_
  refine r_icmp_le hX 28 d_Mo_type_21 (by decide) (by unfold iR; omega) (by unfold iR; omega) (fun h21 => ?_) (fun h21 => by exfalso; omega)
  refine r_iconstN hX 0 d_Mo_type_28 rfl ?_
  refine r_put hX (ws' := [(mo, .inr (10, [.int (iI ((0 : Nat) : Int)), .ref ml, .ref mz, .ref ms, .int (iI op), .int (iI mr), .int (iI (bI (ld = true))), .int (iI (bI (pt = true))), .int (iI ((fr : Nat) : Int)), .ref mt, .int (iI ((sn : Nat) : Int)), .ref mb, .ref me, .ref bt, .ref wy, .ref lq, .ref df, .int (iI ((dn : Nat) : Int))])), (mz, .inl (tI, 2, .inl (iA (iN Z))))]) cf_Mo 0 rfl 0 (by decide) fl_Mo_52 rfl rfl rfl (Nat.le_of_ble_eq_true rfl) rfl d_Mo_type_29 ?_
  refine r_iconstN hX 0 d_Mo_type_32 rfl ?_
  refine r_istore hX (lv' := [(5, .int (iI ((0 : Nat) : Int))), (0, .ref mo), (1, .int (iI ((x : Nat) : Int))), (2, .long w), (4, .int (iI ((nn : Nat) : Int)))]) d_Mo_type_33 (by decide) rfl ?_
  have L35 : ∀ (dd : Nat) (k : Nat) (cz : Int), nn - k = dd → (k ≤ nn) → ((cz = 0 ∧ ra_ac w k) ∨ (cz = 2 ∧ ¬ ra_ac w nn)) → F 35 [(5, .int (iI ((k : Nat) : Int))), (4, .int (iI ((nn : Nat) : Int))), (2, .long w), (1, .int (iI ((x : Nat) : Int))), (0, .ref mo)] [] [(mo, .inr (10, [.int (iI cz), .ref ml, .ref mz, .ref ms, .int (iI op), .int (iI mr), .int (iI (bI (ld = true))), .int (iI (bI (pt = true))), .int (iI ((fr : Nat) : Int)), .ref mt, .int (iI ((sn : Nat) : Int)), .ref mb, .ref me, .ref bt, .ref wy, .ref lq, .ref df, .int (iI ((dn : Nat) : Int))])), (mz, .inl (tI, 2, .inl (iA (iN Z))))] 0 0 := by
    intro dd
    induction dd using Nat.strongRecOn with
    | _ dd ih35 =>
      intro k cz hmu35 hk hcc
      refine r_iload hX 0 d_Mo_type_35 rfl ?_
      refine r_iload hX 1 d_Mo_type_37 rfl ?_
      refine r_icmp_ge hX 92 d_Mo_type_39 (by decide) (by unfold iR; omega) (by unfold iR; omega) (fun h39 => ?_) (fun h39 => ?_)
      · have hcz : cz = 0 := by rcases hcc with q | q; (exact q.1); exact absurd hac q.2
        subst hcz
        refine r_aload_n hX 4 d_Mo_type_92 rfl ?_
        refine r_aload_n hX 4 d_Mo_type_93 rfl ?_
        refine r_get hX cf_Mo 0 rfl 0 (by decide) fl_Mo_52 rfl d_Mo_type_94 ?_
        refine r_if_ne hX 118 d_Mo_type_97 (by decide) (by unfold iR; omega) (fun h97 => by exfalso; omega) (fun h97 => ?_)
        refine r_aload_n hX 4 d_Mo_type_100 rfl ?_
        refine r_get hX cf_Mo 0 rfl 2 (by decide) fl_Mo_13 rfl d_Mo_type_101 ?_
        refine r_iload_n hX 3 d_Mo_type_104 rfl ?_
        refine r_ialdN hX 1 0 rfl rfl (x) rfl (by omega) (by decide) d_Mo_type_105 ?_
        refine r_iload hX 1 d_Mo_type_106 rfl ?_
        refine r_iaddN hX d_Mo_type_108 ?_
        refine r_bipushN hX 96 d_Mo_type_109 rfl (by decide) ?_
        refine r_icmp_le hX 118 d_Mo_type_111 (by decide) (by unfold iR; omega) (by unfold iR; omega) (fun h111 => by exfalso; omega) (fun h111 => ?_)
        refine r_iconstN hX 3 d_Mo_type_114 rfl ?_
        refine r_goto hX 122 d_Mo_type_115 (by decide) ?_
        refine r_put hX (ws' := [(mo, .inr (10, [.int (iI ((3 : Nat) : Int)), .ref ml, .ref mz, .ref ms, .int (iI op), .int (iI mr), .int (iI (bI (ld = true))), .int (iI (bI (pt = true))), .int (iI ((fr : Nat) : Int)), .ref mt, .int (iI ((sn : Nat) : Int)), .ref mb, .ref me, .ref bt, .ref wy, .ref lq, .ref df, .int (iI ((dn : Nat) : Int))])), (mz, .inl (tI, 2, .inl (iA (iN Z))))]) cf_Mo 0 rfl 0 (by decide) fl_Mo_52 rfl rfl rfl (Nat.le_of_ble_eq_true rfl) rfl d_Mo_type_122 ?_
        refine r_aload_n hX 4 d_Mo_type_125 rfl ?_
        refine r_get hX cf_Mo 0 rfl 0 (by decide) fl_Mo_52 rfl d_Mo_type_126 ?_
        refine r_if_le hX 134 d_Mo_type_129 (by decide) (by unfold iR; omega) (fun h129 => by exfalso; omega) (fun h129 => ?_)
        refine r_iconstN hX 0 d_Mo_type_132 rfl ?_
        exact r_iret hX hT () rfl rfl (by decide) (by decide) d_Mo_type_133
      · refine r_aload_n hX 4 d_Mo_type_42 rfl ?_
        refine r_get hX cf_Mo 0 rfl 0 (by decide) fl_Mo_52 rfl d_Mo_type_43 ?_
        refine r_if_ne hX 92 d_Mo_type_46 (by decide) (by unfold iR; omega) (fun h46 => ?_) (fun h46 => ?_)
        · have hcz : cz = 0 := by rcases hcc with q | q; (exact q.1); exact absurd hac q.2
          subst hcz
          refine r_aload_n hX 4 d_Mo_type_92 rfl ?_
          refine r_aload_n hX 4 d_Mo_type_93 rfl ?_
          refine r_get hX cf_Mo 0 rfl 0 (by decide) fl_Mo_52 rfl d_Mo_type_94 ?_
          refine r_if_ne hX 118 d_Mo_type_97 (by decide) (by unfold iR; omega) (fun h97 => by exfalso; omega) (fun h97 => ?_)
          refine r_aload_n hX 4 d_Mo_type_100 rfl ?_
          refine r_get hX cf_Mo 0 rfl 2 (by decide) fl_Mo_13 rfl d_Mo_type_101 ?_
          refine r_iload_n hX 3 d_Mo_type_104 rfl ?_
          refine r_ialdN hX 1 0 rfl rfl (x) rfl (by omega) (by decide) d_Mo_type_105 ?_
          refine r_iload hX 1 d_Mo_type_106 rfl ?_
          refine r_iaddN hX d_Mo_type_108 ?_
          refine r_bipushN hX 96 d_Mo_type_109 rfl (by decide) ?_
          refine r_icmp_le hX 118 d_Mo_type_111 (by decide) (by unfold iR; omega) (by unfold iR; omega) (fun h111 => by exfalso; omega) (fun h111 => ?_)
          refine r_iconstN hX 3 d_Mo_type_114 rfl ?_
          refine r_goto hX 122 d_Mo_type_115 (by decide) ?_
          refine r_put hX (ws' := [(mo, .inr (10, [.int (iI ((3 : Nat) : Int)), .ref ml, .ref mz, .ref ms, .int (iI op), .int (iI mr), .int (iI (bI (ld = true))), .int (iI (bI (pt = true))), .int (iI ((fr : Nat) : Int)), .ref mt, .int (iI ((sn : Nat) : Int)), .ref mb, .ref me, .ref bt, .ref wy, .ref lq, .ref df, .int (iI ((dn : Nat) : Int))])), (mz, .inl (tI, 2, .inl (iA (iN Z))))]) cf_Mo 0 rfl 0 (by decide) fl_Mo_52 rfl rfl rfl (Nat.le_of_ble_eq_true rfl) rfl d_Mo_type_122 ?_
          refine r_aload_n hX 4 d_Mo_type_125 rfl ?_
          refine r_get hX cf_Mo 0 rfl 0 (by decide) fl_Mo_52 rfl d_Mo_type_126 ?_
          refine r_if_le hX 134 d_Mo_type_129 (by decide) (by unfold iR; omega) (fun h129 => by exfalso; omega) (fun h129 => ?_)
          refine r_iconstN hX 0 d_Mo_type_132 rfl ?_
          exact r_iret hX hT () rfl rfl (by decide) (by decide) d_Mo_type_133
        · have hak : ra_ac w k := by rcases hcc with q | q; (exact q.2); omega
          have hby := ra_by_lt w k
          refine r_lload_n hX 2 d_Mo_type_49 rfl ?_
          refine r_bipushN hX 8 d_Mo_type_50 rfl (by decide) ?_
          refine r_iload hX 0 d_Mo_type_52 rfl ?_
          refine r_imulN hX d_Mo_type_54 ?_
          refine r_lshr hX d_Mo_type_55 ?_
          refine r_ldc2 hX cL_Mo_59 d_Mo_type_56 ?_
          refine r_land hX d_Mo_type_59 ?_
          refine r_l2i hX d_Mo_type_60 ?_
          refine r_topi hX (((ra_by w k : Nat) : Int)) (ra_by_s w k (by omega)) ?_
          refine r_istore hX (lv' := [(6, .int (iI ((ra_by w k : Nat) : Int))), (5, .int (iI ((k : Nat) : Int))), (4, .int (iI ((nn : Nat) : Int))), (2, .long w), (1, .int (iI ((x : Nat) : Int))), (0, .ref mo)]) d_Mo_type_61 (by decide) rfl ?_
          refine r_aload_n hX 5 d_Mo_type_63 rfl ?_
          refine r_iload hX 0 d_Mo_type_64 rfl ?_
          refine r_bipushN hX 97 d_Mo_type_66 rfl (by decide) ?_
          have J83 : F 83 [(6, .int (iI ((ra_by w k : Nat) : Int))), (5, .int (iI ((k : Nat) : Int))), (4, .int (iI ((nn : Nat) : Int))), (2, .long w), (1, .int (iI ((x : Nat) : Int))), (0, .ref mo)] [.int (iI (if 97 ≤ ra_by w k ∧ ra_by w k ≤ 122 then 0 else 2)), .ref mo] [(mo, .inr (10, [.int (iI cz), .ref ml, .ref mz, .ref ms, .int (iI op), .int (iI mr), .int (iI (bI (ld = true))), .int (iI (bI (pt = true))), .int (iI ((fr : Nat) : Int)), .ref mt, .int (iI ((sn : Nat) : Int)), .ref mb, .ref me, .ref bt, .ref wy, .ref lq, .ref df, .int (iI ((dn : Nat) : Int))])), (mz, .inl (tI, 2, .inl (iA (iN Z))))] 0 0 := by
            refine r_put hX (ws' := [(mo, .inr (10, [.int (iI (if 97 ≤ ra_by w k ∧ ra_by w k ≤ 122 then 0 else 2)), .ref ml, .ref mz, .ref ms, .int (iI op), .int (iI mr), .int (iI (bI (ld = true))), .int (iI (bI (pt = true))), .int (iI ((fr : Nat) : Int)), .ref mt, .int (iI ((sn : Nat) : Int)), .ref mb, .ref me, .ref bt, .ref wy, .ref lq, .ref df, .int (iI ((dn : Nat) : Int))])), (mz, .inl (tI, 2, .inl (iA (iN Z))))]) cf_Mo 0 rfl 0 (by decide) fl_Mo_52 rfl rfl rfl (Nat.le_of_ble_eq_true rfl) rfl d_Mo_type_83 ?_
            refine r_iincN hX (lv' := [(5, .int (iI ((k + 1 : Nat) : Int))), (6, .int (iI ((ra_by w k : Nat) : Int))), (4, .int (iI ((nn : Nat) : Int))), (2, .long w), (1, .int (iI ((x : Nat) : Int))), (0, .ref mo)]) 1 d_Mo_type_86 rfl (by decide) rfl ?_
            refine r_goto hX 35 d_Mo_type_89 (by decide) ?_
            refine r_lv hX (lv' := [(5, .int (iI ((k + 1 : Nat) : Int))), (4, .int (iI ((nn : Nat) : Int))), (2, .long w), (1, .int (iI ((x : Nat) : Int))), (0, .ref mo)]) [0, 2, 3, 4, 5] rfl ?_
            exact ih35 _ (by omega) (k + 1) (if 97 ≤ ra_by w k ∧ ra_by w k ≤ 122 then 0 else 2) rfl (by omega) (by by_cases q : (97 ≤ ra_by w k ∧ ra_by w k ≤ 122); (rw [if_pos q]; exact Or.inl ⟨rfl, ra_ac_s hak q⟩); (rw [if_neg q]; exact Or.inr ⟨rfl, fun z => q (z k (by omega))⟩))
          refine r_icmp_lt hX 78 d_Mo_type_68 (by decide) (by unfold iR; omega) (by unfold iR; omega) (fun h68 => ?_) (fun h68 => ?_)
          · refine r_iconstN hX 2 d_Mo_type_78 rfl ?_
            refine r_goto hX 83 d_Mo_type_79 (by decide) ?_
            exact rj_e (by first | exact (if_pos (by omega)).symm | exact (if_neg (by omega)).symm) J83
          · refine r_iload hX 0 d_Mo_type_71 rfl ?_
            refine r_bipushN hX 122 d_Mo_type_73 rfl (by decide) ?_
            refine r_icmp_le hX 82 d_Mo_type_75 (by decide) (by unfold iR; omega) (by unfold iR; omega) (fun h75 => ?_) (fun h75 => ?_)
            · refine r_iconstN hX 0 d_Mo_type_82 rfl ?_
              exact rj_e (by first | exact (if_pos (by omega)).symm | exact (if_neg (by omega)).symm) J83
            · refine r_iconstN hX 2 d_Mo_type_78 rfl ?_
              refine r_goto hX 83 d_Mo_type_79 (by decide) ?_
              exact rj_e (by first | exact (if_pos (by omega)).symm | exact (if_neg (by omega)).symm) J83
  refine r_lv hX (lv' := [(5, .int (iI ((0 : Nat) : Int))), (4, .int (iI ((nn : Nat) : Int))), (2, .long w), (1, .int (iI ((x : Nat) : Int))), (0, .ref mo)]) [0, 4, 3, 2, 1] rfl ?_
  refine r_eq (lv2 := [(5, .int (iI ((0 : Nat) : Int))), (4, .int (iI ((nn : Nat) : Int))), (2, .long w), (1, .int (iI ((x : Nat) : Int))), (0, .ref mo)]) (st2 := []) (ws2 := [(mo, .inr (10, [.int (iI 0), .ref ml, .ref mz, .ref ms, .int (iI op), .int (iI mr), .int (iI (bI (ld = true))), .int (iI (bI (pt = true))), .int (iI ((fr : Nat) : Int)), .ref mt, .int (iI ((sn : Nat) : Int)), .ref mb, .ref me, .ref bt, .ref wy, .ref lq, .ref df, .int (iI ((dn : Nat) : Int))])), (mz, .inl (tI, 2, .inl (iA (iN Z))))]) rfl rfl rfl ?_
  exact L35 _ 0 0 rfl (by omega) (Or.inl ⟨rfl, ra_ac_0 w⟩)

abbrev rm_Mo_type : Room := { frames := 1, cells := 0, slots := 0, locals := 21 }
set_option maxHeartbeats 4000000 in
set_option maxRecDepth 100000 in
theorem c_Mo_type (l : Launch) (D : va_G) (tI tJ tZ : ClassId) (mo : Nat) (ml : Nat) (mz : Nat) (ms : Nat) (mt : Nat) (mb : Nat) (me : Nat) (bt : Nat) (wy : Nat) (lq : Nat) (df : Nat) (cd : Int) (op : Int) (mr : Int) (ld : Bool) (pt : Bool) (fr : Nat) (sn : Nat) (dn : Nat) (L : Nat → Nat) (Z : Nat → Nat) (x : Nat) (w : Int64) (nn : Nat) (hr : x ≤ 1) (hn : 1 ≤ nn ∧ nn ≤ 8) (hac : ra_ac w nn) (hlen : Z x + nn ≤ 96) : rCi l y_Mo_type prog_12_method_5_code 7 .int rm_Mo_type D (tysA tI tJ tZ) [.ref mo, .int (iI ((x : Nat) : Int)), .long w, .int (iI ((nn : Nat) : Int))] [(mo, .inr (10, [.int (iI cd), .ref ml, .ref mz, .ref ms, .int (iI op), .int (iI mr), .int (iI (bI (ld = true))), .int (iI (bI (pt = true))), .int (iI ((fr : Nat) : Int)), .ref mt, .int (iI ((sn : Nat) : Int)), .ref mb, .ref me, .ref bt, .ref wy, .ref lq, .ref df, .int (iI ((dn : Nat) : Int))])), (ml, .inl (tI, 192, .inl (iA (iN L)))), (mz, .inl (tI, 2, .inl (iA (iN Z))))] (fun zz (_ : Unit) => zz = iI (((Z x + nn : Nat) : Int))) (fun (_ : Unit) => [(mo, .inr (10, [.int (iI 0), .ref ml, .ref mz, .ref ms, .int (iI op), .int (iI mr), .int (iI (bI (false = true))), .int (iI (bI (pt = true))), .int (iI ((fr : Nat) : Int)), .ref mt, .int (iI ((sn : Nat) : Int)), .ref mb, .ref me, .ref bt, .ref wy, .ref lq, .ref df, .int (iI ((dn : Nat) : Int))])), (ml, .inl (tI, 192, .inl (iA (iN (ra_ty L (96 * x + Z x) w nn))))), (mz, .inl (tI, 2, .inl (iA (iN (iU Z x (Z x + nn))))))]) := by
  intro sz
  refine r_met (by decide) (Nat.le_of_ble_eq_true rfl) ?_
  intro F p e s m args below meth c Q A hX hT hAe hsz hin
  subst hAe
  replace hX : rOK F p l e rm_Mo_type s m args below meth c Q prog_12_method_5_code 7 "RowAlignerModel" D (tysA tI tJ tZ) _ := hX
  show F 0 [(0, .ref mo), (1, .int (iI ((x : Nat) : Int))), (2, .long w), (4, .int (iI ((nn : Nat) : Int)))] [] [(mo, .inr (10, [.int (iI cd), .ref ml, .ref mz, .ref ms, .int (iI op), .int (iI mr), .int (iI (bI (ld = true))), .int (iI (bI (pt = true))), .int (iI ((fr : Nat) : Int)), .ref mt, .int (iI ((sn : Nat) : Int)), .ref mb, .ref me, .ref bt, .ref wy, .ref lq, .ref df, .int (iI ((dn : Nat) : Int))])), (ml, .inl (tI, 192, .inl (iA (iN L)))), (mz, .inl (tI, 2, .inl (iA (iN Z))))] 0 0
  refine r_aload_n hX 0 d_Mo_type_0 rfl ?_
  refine r_iload_n hX 1 d_Mo_type_1 rfl ?_
  refine r_invV_i0 (st := []) (As := [.int (iI ((x : Nat) : Int))]) (wr := [(ml, .inl (tI, 192, .inl (iA (iN L)))), (mz, .inl (tI, 2, .inl (iA (iN Z))))]) hX (c_Mo_noRow_f l D tI tJ tZ mo ml mz ms mt mb me bt wy lq df cd op mr ld pt fr sn dn x hr) "RowAlignerModel" 0 10 cf_Mo rfl yn_Mo_noRow ml_Mo_55 im_Mo_noRow se_Mo_noRow co_Mo_noRow in_Mo (by decide) (by decide) (by decide) [0] [1, 2] rfl rfl rfl rfl rfl (by decide) rfl rfl (Nat.le_of_ble_eq_true rfl) d_Mo_type_2 [2, 0, 1] rfl (w2 := fun _ => [(mo, .inr (10, [.int (iI 0), .ref ml, .ref mz, .ref ms, .int (iI op), .int (iI mr), .int (iI (bI (ld = true))), .int (iI (bI (pt = true))), .int (iI ((fr : Nat) : Int)), .ref mt, .int (iI ((sn : Nat) : Int)), .ref mb, .ref me, .ref bt, .ref wy, .ref lq, .ref df, .int (iI ((dn : Nat) : Int))])), (ml, .inl (tI, 192, .inl (iA (iN L)))), (mz, .inl (tI, 2, .inl (iA (iN Z))))]) (fun _ => rfl) (fun r2 _ e2 => ?_)
  subst e2
  refine r_if_eq hX 10 d_Mo_type_5 (by decide) (by unfold iR; omega) (fun h5 => ?_) (fun h5 => by exfalso; omega)
  refine r_aload_n hX 0 d_Mo_type_10 rfl ?_
  refine r_iload hX 3 d_Mo_type_11 rfl ?_
  refine r_iconstN hX 1 d_Mo_type_13 rfl ?_
  refine r_icmp_lt hX 24 d_Mo_type_14 (by decide) (by unfold iR; omega) (by unfold iR; omega) (fun h14 => by exfalso; omega) (fun h14 => ?_)
  refine r_iload hX 3 d_Mo_type_17 rfl ?_
  refine r_bipushN hX 8 d_Mo_type_19 rfl (by decide) ?_
  refine r_icmp_le hX 28 d_Mo_type_21 (by decide) (by unfold iR; omega) (by unfold iR; omega) (fun h21 => ?_) (fun h21 => by exfalso; omega)
  refine r_iconstN hX 0 d_Mo_type_28 rfl ?_
  refine r_put hX (ws' := [(mo, .inr (10, [.int (iI ((0 : Nat) : Int)), .ref ml, .ref mz, .ref ms, .int (iI op), .int (iI mr), .int (iI (bI (ld = true))), .int (iI (bI (pt = true))), .int (iI ((fr : Nat) : Int)), .ref mt, .int (iI ((sn : Nat) : Int)), .ref mb, .ref me, .ref bt, .ref wy, .ref lq, .ref df, .int (iI ((dn : Nat) : Int))])), (ml, .inl (tI, 192, .inl (iA (iN L)))), (mz, .inl (tI, 2, .inl (iA (iN Z))))]) cf_Mo 0 rfl 0 (by decide) fl_Mo_52 rfl rfl rfl (Nat.le_of_ble_eq_true rfl) rfl d_Mo_type_29 ?_
  refine r_iconstN hX 0 d_Mo_type_32 rfl ?_
  refine r_istore hX (lv' := [(5, .int (iI ((0 : Nat) : Int))), (0, .ref mo), (1, .int (iI ((x : Nat) : Int))), (2, .long w), (4, .int (iI ((nn : Nat) : Int)))]) d_Mo_type_33 (by decide) rfl ?_
  have L35 : ∀ (dd : Nat) (k : Nat) (cz : Int), nn - k = dd → (k ≤ nn) → ((cz = 0 ∧ ra_ac w k) ∨ (cz = 2 ∧ ¬ ra_ac w nn)) → F 35 [(5, .int (iI ((k : Nat) : Int))), (4, .int (iI ((nn : Nat) : Int))), (2, .long w), (1, .int (iI ((x : Nat) : Int))), (0, .ref mo)] [] [(mo, .inr (10, [.int (iI cz), .ref ml, .ref mz, .ref ms, .int (iI op), .int (iI mr), .int (iI (bI (ld = true))), .int (iI (bI (pt = true))), .int (iI ((fr : Nat) : Int)), .ref mt, .int (iI ((sn : Nat) : Int)), .ref mb, .ref me, .ref bt, .ref wy, .ref lq, .ref df, .int (iI ((dn : Nat) : Int))])), (ml, .inl (tI, 192, .inl (iA (iN L)))), (mz, .inl (tI, 2, .inl (iA (iN Z))))] 0 0 := by
    intro dd
    induction dd using Nat.strongRecOn with
    | _ dd ih35 =>
      intro k cz hmu35 hk hcc
      refine r_iload hX 0 d_Mo_type_35 rfl ?_
      refine r_iload hX 1 d_Mo_type_37 rfl ?_
      refine r_icmp_ge hX 92 d_Mo_type_39 (by decide) (by unfold iR; omega) (by unfold iR; omega) (fun h39 => ?_) (fun h39 => ?_)
      · have hcz : cz = 0 := by rcases hcc with q | q; (exact q.1); exact absurd hac q.2
        subst hcz
        refine r_aload_n hX 4 d_Mo_type_92 rfl ?_
        refine r_aload_n hX 4 d_Mo_type_93 rfl ?_
        refine r_get hX cf_Mo 0 rfl 0 (by decide) fl_Mo_52 rfl d_Mo_type_94 ?_
        refine r_if_ne hX 118 d_Mo_type_97 (by decide) (by unfold iR; omega) (fun h97 => by exfalso; omega) (fun h97 => ?_)
        refine r_aload_n hX 4 d_Mo_type_100 rfl ?_
        refine r_get hX cf_Mo 0 rfl 2 (by decide) fl_Mo_13 rfl d_Mo_type_101 ?_
        refine r_iload_n hX 3 d_Mo_type_104 rfl ?_
        refine r_ialdN hX 2 0 rfl rfl (x) rfl (by omega) (by decide) d_Mo_type_105 ?_
        refine r_iload hX 1 d_Mo_type_106 rfl ?_
        refine r_iaddN hX d_Mo_type_108 ?_
        refine r_bipushN hX 96 d_Mo_type_109 rfl (by decide) ?_
        refine r_icmp_le hX 118 d_Mo_type_111 (by decide) (by unfold iR; omega) (by unfold iR; omega) (fun h111 => ?_) (fun h111 => by exfalso; omega)
        refine r_aload_n hX 4 d_Mo_type_118 rfl ?_
        refine r_get hX cf_Mo 0 rfl 0 (by decide) fl_Mo_52 rfl d_Mo_type_119 ?_
        refine r_put hX (ws' := [(mo, .inr (10, [.int (iI 0), .ref ml, .ref mz, .ref ms, .int (iI op), .int (iI mr), .int (iI (bI (ld = true))), .int (iI (bI (pt = true))), .int (iI ((fr : Nat) : Int)), .ref mt, .int (iI ((sn : Nat) : Int)), .ref mb, .ref me, .ref bt, .ref wy, .ref lq, .ref df, .int (iI ((dn : Nat) : Int))])), (ml, .inl (tI, 192, .inl (iA (iN L)))), (mz, .inl (tI, 2, .inl (iA (iN Z))))]) cf_Mo 0 rfl 0 (by decide) fl_Mo_52 rfl rfl rfl (Nat.le_of_ble_eq_true rfl) rfl d_Mo_type_122 ?_
        refine r_aload_n hX 4 d_Mo_type_125 rfl ?_
        refine r_get hX cf_Mo 0 rfl 0 (by decide) fl_Mo_52 rfl d_Mo_type_126 ?_
        refine r_if_le hX 134 d_Mo_type_129 (by decide) (by unfold iR; omega) (fun h129 => ?_) (fun h129 => by exfalso; omega)
        refine r_iconstN hX 0 d_Mo_type_134 rfl ?_
        refine r_istore hX (lv' := [(5, .int (iI ((0 : Nat) : Int))), (4, .int (iI ((nn : Nat) : Int))), (2, .long w), (1, .int (iI ((x : Nat) : Int))), (0, .ref mo)]) d_Mo_type_135 (by decide) rfl ?_
        have L137 : ∀ (dd : Nat) (k : Nat), nn - k = dd → (k ≤ nn) → F 137 [(5, .int (iI ((k : Nat) : Int))), (4, .int (iI ((nn : Nat) : Int))), (2, .long w), (1, .int (iI ((x : Nat) : Int))), (0, .ref mo)] [] [(mo, .inr (10, [.int (iI 0), .ref ml, .ref mz, .ref ms, .int (iI op), .int (iI mr), .int (iI (bI (ld = true))), .int (iI (bI (pt = true))), .int (iI ((fr : Nat) : Int)), .ref mt, .int (iI ((sn : Nat) : Int)), .ref mb, .ref me, .ref bt, .ref wy, .ref lq, .ref df, .int (iI ((dn : Nat) : Int))])), (ml, .inl (tI, 192, .inl (iA (iN (ra_ty L (96 * x + Z x) w k))))), (mz, .inl (tI, 2, .inl (iA (iN (iU Z x (Z x + k))))))] 0 0 := by
          intro dd
          induction dd using Nat.strongRecOn with
          | _ dd ih137 =>
            intro k hmu137 hk
            refine r_iload hX 0 d_Mo_type_137 rfl ?_
            refine r_iload hX 1 d_Mo_type_139 rfl ?_
            refine r_icmp_ge hX 191 d_Mo_type_141 (by decide) (by unfold iR; omega) (by unfold iR; omega) (fun h141 => ?_) (fun h141 => ?_)
            · refine r_aload_n hX 4 d_Mo_type_191 rfl ?_
              refine r_iconstN hX 0 d_Mo_type_192 rfl ?_
              refine r_put hX (ws' := [(mo, .inr (10, [.int (iI 0), .ref ml, .ref mz, .ref ms, .int (iI op), .int (iI mr), .int (iI ((0 : Nat) : Int)), .int (iI (bI (pt = true))), .int (iI ((fr : Nat) : Int)), .ref mt, .int (iI ((sn : Nat) : Int)), .ref mb, .ref me, .ref bt, .ref wy, .ref lq, .ref df, .int (iI ((dn : Nat) : Int))])), (ml, .inl (tI, 192, .inl (iA (iN (ra_ty L (96 * x + Z x) w k))))), (mz, .inl (tI, 2, .inl (iA (iN (iU Z x (Z x + k))))))]) cf_Mo 0 rfl 6 (by decide) fl_Mo_61 rfl (by decide +kernel) (by decide +kernel) (Nat.le_of_ble_eq_true rfl) rfl d_Mo_type_193 ?_
              refine r_aload_n hX 4 d_Mo_type_196 rfl ?_
              refine r_get hX cf_Mo 0 rfl 2 (by decide) fl_Mo_13 rfl d_Mo_type_197 ?_
              refine r_iload_n hX 3 d_Mo_type_200 rfl ?_
              refine r_ialdN hX 2 0 rfl rfl (x) rfl (by omega) (by decide) d_Mo_type_201 ?_
              exact r_iret hX hT () (by rw [show k = nn by omega, iU_at]) (by rw [show k = nn by omega]; rfl) (by decide) (by decide) d_Mo_type_202
            · have hck := hac k (by omega)
              refine r_aload_n hX 4 d_Mo_type_144 rfl ?_
              refine r_get hX cf_Mo 0 rfl 1 (by decide) fl_Mo_7 rfl d_Mo_type_145 ?_
              refine r_bipushN hX 96 d_Mo_type_148 rfl (by decide) ?_
              refine r_iload_n hX 3 d_Mo_type_150 rfl ?_
              refine r_imulN hX d_Mo_type_151 ?_
              refine r_aload_n hX 4 d_Mo_type_152 rfl ?_
              refine r_get hX cf_Mo 0 rfl 2 (by decide) fl_Mo_13 rfl d_Mo_type_153 ?_
              refine r_iload_n hX 3 d_Mo_type_156 rfl ?_
              refine r_ialdN hX 2 0 rfl rfl (x) rfl (by omega) (by decide) d_Mo_type_157 ?_
              refine r_iaddN hX d_Mo_type_158 ?_
              refine r_lload_n hX 2 d_Mo_type_159 rfl ?_
              refine r_bipushN hX 8 d_Mo_type_160 rfl (by decide) ?_
              refine r_iload hX 0 d_Mo_type_162 rfl ?_
              refine r_imulN hX d_Mo_type_164 ?_
              refine r_lshr hX d_Mo_type_165 ?_
              refine r_ldc2 hX cL_Mo_59 d_Mo_type_166 ?_
              refine r_land hX d_Mo_type_169 ?_
              refine r_l2i hX d_Mo_type_170 ?_
              refine r_topi hX (((ra_by w k : Nat) : Int)) (ra_by_s w k (by omega)) ?_
              refine r_bipushN hX 97 d_Mo_type_171 rfl (by decide) ?_
              refine r_isub hX d_Mo_type_173 ?_
              refine r_eq (lv2 := [(5, .int (iI ((k : Nat) : Int))), (4, .int (iI ((nn : Nat) : Int))), (2, .long w), (1, .int (iI ((x : Nat) : Int))), (0, .ref mo)]) (st2 := [.int (iI ((ra_by w k - 97 : Nat) : Int)), .int (iI ((96 * x + ((iU Z x (Z x + k)) x) : Nat) : Int)), .ref ml]) (ws2 := [(mo, .inr (10, [.int (iI 0), .ref ml, .ref mz, .ref ms, .int (iI op), .int (iI mr), .int (iI (bI (ld = true))), .int (iI (bI (pt = true))), .int (iI ((fr : Nat) : Int)), .ref mt, .int (iI ((sn : Nat) : Int)), .ref mb, .ref me, .ref bt, .ref wy, .ref lq, .ref df, .int (iI ((dn : Nat) : Int))])), (ml, .inl (tI, 192, .inl (iA (iN (ra_ty L (96 * x + Z x) w k))))), (mz, .inl (tI, 2, .inl (iA (iN (iU Z x (Z x + k))))))]) rfl (by rw [show ((ra_by w k : Nat) : Int) - ((97 : Nat) : Int) = ((ra_by w k - 97 : Nat) : Int) by omega]) rfl ?_
              refine r_iastN hX (ws' := [(mo, .inr (10, [.int (iI 0), .ref ml, .ref mz, .ref ms, .int (iI op), .int (iI mr), .int (iI (bI (ld = true))), .int (iI (bI (pt = true))), .int (iI ((fr : Nat) : Int)), .ref mt, .int (iI ((sn : Nat) : Int)), .ref mb, .ref me, .ref bt, .ref wy, .ref lq, .ref df, .int (iI ((dn : Nat) : Int))])), (ml, .inl (tI, 192, .inl (iA (iN (iU (ra_ty L (96 * x + Z x) w k) (96 * x + (Z x + k)) (ra_by w k - 97)))))), (mz, .inl (tI, 2, .inl (iA (iN (iU Z x (Z x + k))))))]) 1 0 rfl rfl (96 * x + (Z x + k)) (by rw [iU_at]) (by omega) (by decide) rfl d_Mo_type_174 ?_
              refine r_aload_n hX 4 d_Mo_type_175 rfl ?_
              refine r_get hX cf_Mo 0 rfl 2 (by decide) fl_Mo_13 rfl d_Mo_type_176 ?_
              refine r_iload_n hX 3 d_Mo_type_179 rfl ?_
              refine r_dup2 hX d_Mo_type_180 rfl rfl ?_
              refine r_ialdN hX 2 0 rfl rfl (x) rfl (by omega) (by decide) d_Mo_type_181 ?_
              refine r_iconstN hX 1 d_Mo_type_182 rfl ?_
              refine r_iaddN hX d_Mo_type_183 ?_
              refine r_iastN hX (ws' := [(mo, .inr (10, [.int (iI 0), .ref ml, .ref mz, .ref ms, .int (iI op), .int (iI mr), .int (iI (bI (ld = true))), .int (iI (bI (pt = true))), .int (iI ((fr : Nat) : Int)), .ref mt, .int (iI ((sn : Nat) : Int)), .ref mb, .ref me, .ref bt, .ref wy, .ref lq, .ref df, .int (iI ((dn : Nat) : Int))])), (ml, .inl (tI, 192, .inl (iA (iN (iU (ra_ty L (96 * x + Z x) w k) (96 * x + (Z x + k)) (ra_by w k - 97)))))), (mz, .inl (tI, 2, .inl (iA (iN (iU (iU Z x (Z x + k)) x ((iU Z x (Z x + k)) x + 1))))))]) 2 0 rfl rfl (x) rfl (by omega) (by decide) rfl d_Mo_type_184 ?_
              refine r_iincN hX (lv' := [(5, .int (iI ((k + 1 : Nat) : Int))), (4, .int (iI ((nn : Nat) : Int))), (2, .long w), (1, .int (iI ((x : Nat) : Int))), (0, .ref mo)]) 0 d_Mo_type_185 rfl (by decide) rfl ?_
              refine r_goto hX 137 d_Mo_type_188 (by decide) ?_
              refine r_eq (lv2 := [(5, .int (iI ((k + 1 : Nat) : Int))), (4, .int (iI ((nn : Nat) : Int))), (2, .long w), (1, .int (iI ((x : Nat) : Int))), (0, .ref mo)]) (st2 := []) (ws2 := [(mo, .inr (10, [.int (iI 0), .ref ml, .ref mz, .ref ms, .int (iI op), .int (iI mr), .int (iI (bI (ld = true))), .int (iI (bI (pt = true))), .int (iI ((fr : Nat) : Int)), .ref mt, .int (iI ((sn : Nat) : Int)), .ref mb, .ref me, .ref bt, .ref wy, .ref lq, .ref df, .int (iI ((dn : Nat) : Int))])), (ml, .inl (tI, 192, .inl (iA (iN (ra_ty L (96 * x + Z x) w (k + 1)))))), (mz, .inl (tI, 2, .inl (iA (iN (iU Z x (Z x + (k + 1)))))))]) rfl rfl (by rw [ra_ty_s, iU_iU, iU_at]; rfl) ?_
              exact ih137 _ (by omega) (k + 1) rfl (by omega)
        refine r_eq (lv2 := [(5, .int (iI ((0 : Nat) : Int))), (4, .int (iI ((nn : Nat) : Int))), (2, .long w), (1, .int (iI ((x : Nat) : Int))), (0, .ref mo)]) (st2 := []) (ws2 := [(mo, .inr (10, [.int (iI 0), .ref ml, .ref mz, .ref ms, .int (iI op), .int (iI mr), .int (iI (bI (ld = true))), .int (iI (bI (pt = true))), .int (iI ((fr : Nat) : Int)), .ref mt, .int (iI ((sn : Nat) : Int)), .ref mb, .ref me, .ref bt, .ref wy, .ref lq, .ref df, .int (iI ((dn : Nat) : Int))])), (ml, .inl (tI, 192, .inl (iA (iN (ra_ty L (96 * x + Z x) w 0))))), (mz, .inl (tI, 2, .inl (iA (iN (iU Z x (Z x + 0))))))]) rfl rfl (by rw [ra_ty_0, Nat.add_zero, iU_id]) ?_
        exact L137 _ 0 rfl (by omega)
      · refine r_aload_n hX 4 d_Mo_type_42 rfl ?_
        refine r_get hX cf_Mo 0 rfl 0 (by decide) fl_Mo_52 rfl d_Mo_type_43 ?_
        refine r_if_ne hX 92 d_Mo_type_46 (by decide) (by unfold iR; omega) (fun h46 => ?_) (fun h46 => ?_)
        · have hcz : cz = 0 := by rcases hcc with q | q; (exact q.1); exact absurd hac q.2
          subst hcz
          refine r_aload_n hX 4 d_Mo_type_92 rfl ?_
          refine r_aload_n hX 4 d_Mo_type_93 rfl ?_
          refine r_get hX cf_Mo 0 rfl 0 (by decide) fl_Mo_52 rfl d_Mo_type_94 ?_
          refine r_if_ne hX 118 d_Mo_type_97 (by decide) (by unfold iR; omega) (fun h97 => by exfalso; omega) (fun h97 => ?_)
          refine r_aload_n hX 4 d_Mo_type_100 rfl ?_
          refine r_get hX cf_Mo 0 rfl 2 (by decide) fl_Mo_13 rfl d_Mo_type_101 ?_
          refine r_iload_n hX 3 d_Mo_type_104 rfl ?_
          refine r_ialdN hX 2 0 rfl rfl (x) rfl (by omega) (by decide) d_Mo_type_105 ?_
          refine r_iload hX 1 d_Mo_type_106 rfl ?_
          refine r_iaddN hX d_Mo_type_108 ?_
          refine r_bipushN hX 96 d_Mo_type_109 rfl (by decide) ?_
          refine r_icmp_le hX 118 d_Mo_type_111 (by decide) (by unfold iR; omega) (by unfold iR; omega) (fun h111 => ?_) (fun h111 => by exfalso; omega)
          refine r_aload_n hX 4 d_Mo_type_118 rfl ?_
          refine r_get hX cf_Mo 0 rfl 0 (by decide) fl_Mo_52 rfl d_Mo_type_119 ?_
          refine r_put hX (ws' := [(mo, .inr (10, [.int (iI 0), .ref ml, .ref mz, .ref ms, .int (iI op), .int (iI mr), .int (iI (bI (ld = true))), .int (iI (bI (pt = true))), .int (iI ((fr : Nat) : Int)), .ref mt, .int (iI ((sn : Nat) : Int)), .ref mb, .ref me, .ref bt, .ref wy, .ref lq, .ref df, .int (iI ((dn : Nat) : Int))])), (ml, .inl (tI, 192, .inl (iA (iN L)))), (mz, .inl (tI, 2, .inl (iA (iN Z))))]) cf_Mo 0 rfl 0 (by decide) fl_Mo_52 rfl rfl rfl (Nat.le_of_ble_eq_true rfl) rfl d_Mo_type_122 ?_
          refine r_aload_n hX 4 d_Mo_type_125 rfl ?_
          refine r_get hX cf_Mo 0 rfl 0 (by decide) fl_Mo_52 rfl d_Mo_type_126 ?_
          refine r_if_le hX 134 d_Mo_type_129 (by decide) (by unfold iR; omega) (fun h129 => ?_) (fun h129 => by exfalso; omega)
          refine r_iconstN hX 0 d_Mo_type_134 rfl ?_
          refine r_istore hX (lv' := [(5, .int (iI ((0 : Nat) : Int))), (4, .int (iI ((nn : Nat) : Int))), (2, .long w), (1, .int (iI ((x : Nat) : Int))), (0, .ref mo)]) d_Mo_type_135 (by decide) rfl ?_
          have L137 : ∀ (dd : Nat) (k : Nat), nn - k = dd → (k ≤ nn) → F 137 [(5, .int (iI ((k : Nat) : Int))), (4, .int (iI ((nn : Nat) : Int))), (2, .long w), (1, .int (iI ((x : Nat) : Int))), (0, .ref mo)] [] [(mo, .inr (10, [.int (iI 0), .ref ml, .ref mz, .ref ms, .int (iI op), .int (iI mr), .int (iI (bI (ld = true))), .int (iI (bI (pt = true))), .int (iI ((fr : Nat) : Int)), .ref mt, .int (iI ((sn : Nat) : Int)), .ref mb, .ref me, .ref bt, .ref wy, .ref lq, .ref df, .int (iI ((dn : Nat) : Int))])), (ml, .inl (tI, 192, .inl (iA (iN (ra_ty L (96 * x + Z x) w k))))), (mz, .inl (tI, 2, .inl (iA (iN (iU Z x (Z x + k))))))] 0 0 := by
            intro dd
            induction dd using Nat.strongRecOn with
            | _ dd ih137 =>
              intro k hmu137 hk
              refine r_iload hX 0 d_Mo_type_137 rfl ?_
              refine r_iload hX 1 d_Mo_type_139 rfl ?_
              refine r_icmp_ge hX 191 d_Mo_type_141 (by decide) (by unfold iR; omega) (by unfold iR; omega) (fun h141 => ?_) (fun h141 => ?_)
              · refine r_aload_n hX 4 d_Mo_type_191 rfl ?_
                refine r_iconstN hX 0 d_Mo_type_192 rfl ?_
                refine r_put hX (ws' := [(mo, .inr (10, [.int (iI 0), .ref ml, .ref mz, .ref ms, .int (iI op), .int (iI mr), .int (iI ((0 : Nat) : Int)), .int (iI (bI (pt = true))), .int (iI ((fr : Nat) : Int)), .ref mt, .int (iI ((sn : Nat) : Int)), .ref mb, .ref me, .ref bt, .ref wy, .ref lq, .ref df, .int (iI ((dn : Nat) : Int))])), (ml, .inl (tI, 192, .inl (iA (iN (ra_ty L (96 * x + Z x) w k))))), (mz, .inl (tI, 2, .inl (iA (iN (iU Z x (Z x + k))))))]) cf_Mo 0 rfl 6 (by decide) fl_Mo_61 rfl (by decide +kernel) (by decide +kernel) (Nat.le_of_ble_eq_true rfl) rfl d_Mo_type_193 ?_
                refine r_aload_n hX 4 d_Mo_type_196 rfl ?_
                refine r_get hX cf_Mo 0 rfl 2 (by decide) fl_Mo_13 rfl d_Mo_type_197 ?_
                refine r_iload_n hX 3 d_Mo_type_200 rfl ?_
                refine r_ialdN hX 2 0 rfl rfl (x) rfl (by omega) (by decide) d_Mo_type_201 ?_
                exact r_iret hX hT () (by rw [show k = nn by omega, iU_at]) (by rw [show k = nn by omega]; rfl) (by decide) (by decide) d_Mo_type_202
              · have hck := hac k (by omega)
                refine r_aload_n hX 4 d_Mo_type_144 rfl ?_
                refine r_get hX cf_Mo 0 rfl 1 (by decide) fl_Mo_7 rfl d_Mo_type_145 ?_
                refine r_bipushN hX 96 d_Mo_type_148 rfl (by decide) ?_
                refine r_iload_n hX 3 d_Mo_type_150 rfl ?_
                refine r_imulN hX d_Mo_type_151 ?_
                refine r_aload_n hX 4 d_Mo_type_152 rfl ?_
                refine r_get hX cf_Mo 0 rfl 2 (by decide) fl_Mo_13 rfl d_Mo_type_153 ?_
                refine r_iload_n hX 3 d_Mo_type_156 rfl ?_
                refine r_ialdN hX 2 0 rfl rfl (x) rfl (by omega) (by decide) d_Mo_type_157 ?_
                refine r_iaddN hX d_Mo_type_158 ?_
                refine r_lload_n hX 2 d_Mo_type_159 rfl ?_
                refine r_bipushN hX 8 d_Mo_type_160 rfl (by decide) ?_
                refine r_iload hX 0 d_Mo_type_162 rfl ?_
                refine r_imulN hX d_Mo_type_164 ?_
                refine r_lshr hX d_Mo_type_165 ?_
                refine r_ldc2 hX cL_Mo_59 d_Mo_type_166 ?_
                refine r_land hX d_Mo_type_169 ?_
                refine r_l2i hX d_Mo_type_170 ?_
                refine r_topi hX (((ra_by w k : Nat) : Int)) (ra_by_s w k (by omega)) ?_
                refine r_bipushN hX 97 d_Mo_type_171 rfl (by decide) ?_
                refine r_isub hX d_Mo_type_173 ?_
                refine r_eq (lv2 := [(5, .int (iI ((k : Nat) : Int))), (4, .int (iI ((nn : Nat) : Int))), (2, .long w), (1, .int (iI ((x : Nat) : Int))), (0, .ref mo)]) (st2 := [.int (iI ((ra_by w k - 97 : Nat) : Int)), .int (iI ((96 * x + ((iU Z x (Z x + k)) x) : Nat) : Int)), .ref ml]) (ws2 := [(mo, .inr (10, [.int (iI 0), .ref ml, .ref mz, .ref ms, .int (iI op), .int (iI mr), .int (iI (bI (ld = true))), .int (iI (bI (pt = true))), .int (iI ((fr : Nat) : Int)), .ref mt, .int (iI ((sn : Nat) : Int)), .ref mb, .ref me, .ref bt, .ref wy, .ref lq, .ref df, .int (iI ((dn : Nat) : Int))])), (ml, .inl (tI, 192, .inl (iA (iN (ra_ty L (96 * x + Z x) w k))))), (mz, .inl (tI, 2, .inl (iA (iN (iU Z x (Z x + k))))))]) rfl (by rw [show ((ra_by w k : Nat) : Int) - ((97 : Nat) : Int) = ((ra_by w k - 97 : Nat) : Int) by omega]) rfl ?_
                refine r_iastN hX (ws' := [(mo, .inr (10, [.int (iI 0), .ref ml, .ref mz, .ref ms, .int (iI op), .int (iI mr), .int (iI (bI (ld = true))), .int (iI (bI (pt = true))), .int (iI ((fr : Nat) : Int)), .ref mt, .int (iI ((sn : Nat) : Int)), .ref mb, .ref me, .ref bt, .ref wy, .ref lq, .ref df, .int (iI ((dn : Nat) : Int))])), (ml, .inl (tI, 192, .inl (iA (iN (iU (ra_ty L (96 * x + Z x) w k) (96 * x + (Z x + k)) (ra_by w k - 97)))))), (mz, .inl (tI, 2, .inl (iA (iN (iU Z x (Z x + k))))))]) 1 0 rfl rfl (96 * x + (Z x + k)) (by rw [iU_at]) (by omega) (by decide) rfl d_Mo_type_174 ?_
                refine r_aload_n hX 4 d_Mo_type_175 rfl ?_
                refine r_get hX cf_Mo 0 rfl 2 (by decide) fl_Mo_13 rfl d_Mo_type_176 ?_
                refine r_iload_n hX 3 d_Mo_type_179 rfl ?_
                refine r_dup2 hX d_Mo_type_180 rfl rfl ?_
                refine r_ialdN hX 2 0 rfl rfl (x) rfl (by omega) (by decide) d_Mo_type_181 ?_
                refine r_iconstN hX 1 d_Mo_type_182 rfl ?_
                refine r_iaddN hX d_Mo_type_183 ?_
                refine r_iastN hX (ws' := [(mo, .inr (10, [.int (iI 0), .ref ml, .ref mz, .ref ms, .int (iI op), .int (iI mr), .int (iI (bI (ld = true))), .int (iI (bI (pt = true))), .int (iI ((fr : Nat) : Int)), .ref mt, .int (iI ((sn : Nat) : Int)), .ref mb, .ref me, .ref bt, .ref wy, .ref lq, .ref df, .int (iI ((dn : Nat) : Int))])), (ml, .inl (tI, 192, .inl (iA (iN (iU (ra_ty L (96 * x + Z x) w k) (96 * x + (Z x + k)) (ra_by w k - 97)))))), (mz, .inl (tI, 2, .inl (iA (iN (iU (iU Z x (Z x + k)) x ((iU Z x (Z x + k)) x + 1))))))]) 2 0 rfl rfl (x) rfl (by omega) (by decide) rfl d_Mo_type_184 ?_
                refine r_iincN hX (lv' := [(5, .int (iI ((k + 1 : Nat) : Int))), (4, .int (iI ((nn : Nat) : Int))), (2, .long w), (1, .int (iI ((x : Nat) : Int))), (0, .ref mo)]) 0 d_Mo_type_185 rfl (by decide) rfl ?_
                refine r_goto hX 137 d_Mo_type_188 (by decide) ?_
                refine r_eq (lv2 := [(5, .int (iI ((k + 1 : Nat) : Int))), (4, .int (iI ((nn : Nat) : Int))), (2, .long w), (1, .int (iI ((x : Nat) : Int))), (0, .ref mo)]) (st2 := []) (ws2 := [(mo, .inr (10, [.int (iI 0), .ref ml, .ref mz, .ref ms, .int (iI op), .int (iI mr), .int (iI (bI (ld = true))), .int (iI (bI (pt = true))), .int (iI ((fr : Nat) : Int)), .ref mt, .int (iI ((sn : Nat) : Int)), .ref mb, .ref me, .ref bt, .ref wy, .ref lq, .ref df, .int (iI ((dn : Nat) : Int))])), (ml, .inl (tI, 192, .inl (iA (iN (ra_ty L (96 * x + Z x) w (k + 1)))))), (mz, .inl (tI, 2, .inl (iA (iN (iU Z x (Z x + (k + 1)))))))]) rfl rfl (by rw [ra_ty_s, iU_iU, iU_at]; rfl) ?_
                exact ih137 _ (by omega) (k + 1) rfl (by omega)
          refine r_eq (lv2 := [(5, .int (iI ((0 : Nat) : Int))), (4, .int (iI ((nn : Nat) : Int))), (2, .long w), (1, .int (iI ((x : Nat) : Int))), (0, .ref mo)]) (st2 := []) (ws2 := [(mo, .inr (10, [.int (iI 0), .ref ml, .ref mz, .ref ms, .int (iI op), .int (iI mr), .int (iI (bI (ld = true))), .int (iI (bI (pt = true))), .int (iI ((fr : Nat) : Int)), .ref mt, .int (iI ((sn : Nat) : Int)), .ref mb, .ref me, .ref bt, .ref wy, .ref lq, .ref df, .int (iI ((dn : Nat) : Int))])), (ml, .inl (tI, 192, .inl (iA (iN (ra_ty L (96 * x + Z x) w 0))))), (mz, .inl (tI, 2, .inl (iA (iN (iU Z x (Z x + 0))))))]) rfl rfl (by rw [ra_ty_0, Nat.add_zero, iU_id]) ?_
          exact L137 _ 0 rfl (by omega)
        · have hak : ra_ac w k := by rcases hcc with q | q; (exact q.2); omega
          have hby := ra_by_lt w k
          refine r_lload_n hX 2 d_Mo_type_49 rfl ?_
          refine r_bipushN hX 8 d_Mo_type_50 rfl (by decide) ?_
          refine r_iload hX 0 d_Mo_type_52 rfl ?_
          refine r_imulN hX d_Mo_type_54 ?_
          refine r_lshr hX d_Mo_type_55 ?_
          refine r_ldc2 hX cL_Mo_59 d_Mo_type_56 ?_
          refine r_land hX d_Mo_type_59 ?_
          refine r_l2i hX d_Mo_type_60 ?_
          refine r_topi hX (((ra_by w k : Nat) : Int)) (ra_by_s w k (by omega)) ?_
          refine r_istore hX (lv' := [(6, .int (iI ((ra_by w k : Nat) : Int))), (5, .int (iI ((k : Nat) : Int))), (4, .int (iI ((nn : Nat) : Int))), (2, .long w), (1, .int (iI ((x : Nat) : Int))), (0, .ref mo)]) d_Mo_type_61 (by decide) rfl ?_
          refine r_aload_n hX 5 d_Mo_type_63 rfl ?_
          refine r_iload hX 0 d_Mo_type_64 rfl ?_
          refine r_bipushN hX 97 d_Mo_type_66 rfl (by decide) ?_
          have J83 : F 83 [(6, .int (iI ((ra_by w k : Nat) : Int))), (5, .int (iI ((k : Nat) : Int))), (4, .int (iI ((nn : Nat) : Int))), (2, .long w), (1, .int (iI ((x : Nat) : Int))), (0, .ref mo)] [.int (iI (if 97 ≤ ra_by w k ∧ ra_by w k ≤ 122 then 0 else 2)), .ref mo] [(mo, .inr (10, [.int (iI cz), .ref ml, .ref mz, .ref ms, .int (iI op), .int (iI mr), .int (iI (bI (ld = true))), .int (iI (bI (pt = true))), .int (iI ((fr : Nat) : Int)), .ref mt, .int (iI ((sn : Nat) : Int)), .ref mb, .ref me, .ref bt, .ref wy, .ref lq, .ref df, .int (iI ((dn : Nat) : Int))])), (ml, .inl (tI, 192, .inl (iA (iN L)))), (mz, .inl (tI, 2, .inl (iA (iN Z))))] 0 0 := by
            refine r_put hX (ws' := [(mo, .inr (10, [.int (iI (if 97 ≤ ra_by w k ∧ ra_by w k ≤ 122 then 0 else 2)), .ref ml, .ref mz, .ref ms, .int (iI op), .int (iI mr), .int (iI (bI (ld = true))), .int (iI (bI (pt = true))), .int (iI ((fr : Nat) : Int)), .ref mt, .int (iI ((sn : Nat) : Int)), .ref mb, .ref me, .ref bt, .ref wy, .ref lq, .ref df, .int (iI ((dn : Nat) : Int))])), (ml, .inl (tI, 192, .inl (iA (iN L)))), (mz, .inl (tI, 2, .inl (iA (iN Z))))]) cf_Mo 0 rfl 0 (by decide) fl_Mo_52 rfl rfl rfl (Nat.le_of_ble_eq_true rfl) rfl d_Mo_type_83 ?_
            refine r_iincN hX (lv' := [(5, .int (iI ((k + 1 : Nat) : Int))), (6, .int (iI ((ra_by w k : Nat) : Int))), (4, .int (iI ((nn : Nat) : Int))), (2, .long w), (1, .int (iI ((x : Nat) : Int))), (0, .ref mo)]) 1 d_Mo_type_86 rfl (by decide) rfl ?_
            refine r_goto hX 35 d_Mo_type_89 (by decide) ?_
            refine r_lv hX (lv' := [(5, .int (iI ((k + 1 : Nat) : Int))), (4, .int (iI ((nn : Nat) : Int))), (2, .long w), (1, .int (iI ((x : Nat) : Int))), (0, .ref mo)]) [0, 2, 3, 4, 5] rfl ?_
            exact ih35 _ (by omega) (k + 1) (if 97 ≤ ra_by w k ∧ ra_by w k ≤ 122 then 0 else 2) rfl (by omega) (by by_cases q : (97 ≤ ra_by w k ∧ ra_by w k ≤ 122); (rw [if_pos q]; exact Or.inl ⟨rfl, ra_ac_s hak q⟩); (rw [if_neg q]; exact Or.inr ⟨rfl, fun z => q (z k (by omega))⟩))
          refine r_icmp_lt hX 78 d_Mo_type_68 (by decide) (by unfold iR; omega) (by unfold iR; omega) (fun h68 => ?_) (fun h68 => ?_)
          · refine r_iconstN hX 2 d_Mo_type_78 rfl ?_
            refine r_goto hX 83 d_Mo_type_79 (by decide) ?_
            exact rj_e (by first | exact (if_pos (by omega)).symm | exact (if_neg (by omega)).symm) J83
          · refine r_iload hX 0 d_Mo_type_71 rfl ?_
            refine r_bipushN hX 122 d_Mo_type_73 rfl (by decide) ?_
            refine r_icmp_le hX 82 d_Mo_type_75 (by decide) (by unfold iR; omega) (by unfold iR; omega) (fun h75 => ?_) (fun h75 => ?_)
            · refine r_iconstN hX 0 d_Mo_type_82 rfl ?_
              exact rj_e (by first | exact (if_pos (by omega)).symm | exact (if_neg (by omega)).symm) J83
            · refine r_iconstN hX 2 d_Mo_type_78 rfl ?_
              refine r_goto hX 83 d_Mo_type_79 (by decide) ?_
              exact rj_e (by first | exact (if_pos (by omega)).symm | exact (if_neg (by omega)).symm) J83
  refine r_lv hX (lv' := [(5, .int (iI ((0 : Nat) : Int))), (4, .int (iI ((nn : Nat) : Int))), (2, .long w), (1, .int (iI ((x : Nat) : Int))), (0, .ref mo)]) [0, 4, 3, 2, 1] rfl ?_
  refine r_eq (lv2 := [(5, .int (iI ((0 : Nat) : Int))), (4, .int (iI ((nn : Nat) : Int))), (2, .long w), (1, .int (iI ((x : Nat) : Int))), (0, .ref mo)]) (st2 := []) (ws2 := [(mo, .inr (10, [.int (iI 0), .ref ml, .ref mz, .ref ms, .int (iI op), .int (iI mr), .int (iI (bI (ld = true))), .int (iI (bI (pt = true))), .int (iI ((fr : Nat) : Int)), .ref mt, .int (iI ((sn : Nat) : Int)), .ref mb, .ref me, .ref bt, .ref wy, .ref lq, .ref df, .int (iI ((dn : Nat) : Int))])), (ml, .inl (tI, 192, .inl (iA (iN L)))), (mz, .inl (tI, 2, .inl (iA (iN Z))))]) rfl rfl rfl ?_
  exact L35 _ 0 0 rfl (by omega) (Or.inl ⟨rfl, ra_ac_0 w⟩)
