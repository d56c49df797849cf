abbrev rm_Mo_crossing_n : Room := { frames := 0, cells := 0, slots := 0, locals := 0 }
set_option maxHeartbeats 4000000 in
set_option maxRecDepth 100000 in
theorem c_Mo_crossing_n (l : Launch) (D : va_G) (tI tJ tZ : ClassId) (mo : Nat) (ml : Nat) (mz : Nat) (ms : Nat) (mt : Nat) (mb : Nat) (me : Nat) (bt : Nat) (wy : Nat) (lq : Nat) (df : Nat) (cd : Int) (op : Int) (mr : Int) (ld : Bool) (pt : Bool) (fr : Nat) (sn : Nat) (dn : Nat) (x : Int) (hl : ¬ ld = true) : rCi l y_Mo_crossing prog_12_method_41_code 5 .int rm_Mo_crossing_n D (tysA tI tJ tZ) [.ref mo, .int (iI x)] [(mo, .inr (10, [.int (iI cd), .ref ml, .ref mz, .ref ms, .int (iI op), .int (iI mr), .int (iI (bI (ld = true))), .int (iI (bI (pt = true))), .int (iI ((fr : Nat) : Int)), .ref mt, .int (iI ((sn : Nat) : Int)), .ref mb, .ref me, .ref bt, .ref wy, .ref lq, .ref df, .int (iI ((dn : Nat) : Int))]))] (fun zz (_ : Unit) => zz = iI (((0 : Nat) : Int))) (fun (_ : Unit) => [(mo, .inr (10, [.int (iI 1), .ref ml, .ref mz, .ref ms, .int (iI op), .int (iI mr), .int (iI (bI (ld = true))), .int (iI (bI (pt = true))), .int (iI ((fr : Nat) : Int)), .ref mt, .int (iI ((sn : Nat) : Int)), .ref mb, .ref me, .ref bt, .ref wy, .ref lq, .ref df, .int (iI ((dn : Nat) : Int))]))]) := by
  intro sz
  refine r_met (by decide) (Nat.le_of_ble_eq_true rfl) ?_
  intro F p e s m args below meth c Q A hX hT hAe hsz hin
  subst hAe
  replace hX : rOK F p l e rm_Mo_crossing_n s m args below meth c Q prog_12_method_41_code 5 "RowAlignerModel" D (tysA tI tJ tZ) _ := hX
  show F 0 [(0, .ref mo), (1, .int (iI x))] [] [(mo, .inr (10, [.int (iI cd), .ref ml, .ref mz, .ref ms, .int (iI op), .int (iI mr), .int (iI (bI (ld = true))), .int (iI (bI (pt = true))), .int (iI ((fr : Nat) : Int)), .ref mt, .int (iI ((sn : Nat) : Int)), .ref mb, .ref me, .ref bt, .ref wy, .ref lq, .ref df, .int (iI ((dn : Nat) : Int))]))] 0 0
  refine r_aload_n hX 0 d_Mo_crossing_0 rfl ?_
  refine r_aload_n hX 0 d_Mo_crossing_1 rfl ?_
  refine r_get hX cf_Mo 0 rfl 6 (by decide) fl_Mo_61 rfl d_Mo_crossing_2 ?_
  refine rb_if_ne hX 12 d_Mo_crossing_5 (by decide) (fun h5 => by exfalso; exact hl h5) (fun h5 => ?_)
  refine r_iconstN hX 1 d_Mo_crossing_8 rfl ?_
  refine r_goto hX 31 d_Mo_crossing_9 (by decide) ?_
  refine r_put hX (ws' := [(mo, .inr (10, [.int (iI ((1 : Nat) : Int)), .ref ml, .ref mz, .ref ms, .int (iI op), .int (iI mr), .int (iI (bI (ld = true))), .int (iI (bI (pt = true))), .int (iI ((fr : Nat) : Int)), .ref mt, .int (iI ((sn : Nat) : Int)), .ref mb, .ref me, .ref bt, .ref wy, .ref lq, .ref df, .int (iI ((dn : Nat) : Int))]))]) cf_Mo 0 rfl 0 (by decide) fl_Mo_52 rfl rfl rfl (Nat.le_of_ble_eq_true rfl) rfl d_Mo_crossing_31 ?_
  refine r_aload_n hX 0 d_Mo_crossing_34 rfl ?_
  refine r_get hX cf_Mo 0 rfl 0 (by decide) fl_Mo_52 rfl d_Mo_crossing_35 ?_
  refine r_if_gt hX 48 d_Mo_crossing_38 (by decide) (by unfold iR; omega) (fun h38 => ?_) (fun h38 => by exfalso; omega)
  refine r_aload_n hX 0 d_Mo_crossing_48 rfl ?_
  refine r_get hX cf_Mo 0 rfl 0 (by decide) fl_Mo_52 rfl d_Mo_crossing_49 ?_
  refine r_if_le hX 59 d_Mo_crossing_52 (by decide) (by unfold iR; omega) (fun h52 => by exfalso; omega) (fun h52 => ?_)
  refine r_iconstN hX 0 d_Mo_crossing_55 rfl ?_
  refine r_goto hX 60 d_Mo_crossing_56 (by decide) ?_
  exact r_iret hX hT () rfl rfl (by decide) (by decide) d_Mo_crossing_60

abbrev rm_Mo_crossing_i : Room := { frames := 0, cells := 0, slots := 0, locals := 0 }
set_option maxHeartbeats 4000000 in
set_option maxRecDepth 100000 in
theorem c_Mo_crossing_i (l : Launch) (D : va_G) (tI tJ tZ : ClassId) (mo : Nat) (ml : Nat) (mz : Nat) (ms : Nat) (mt : Nat) (mb : Nat) (me : Nat) (bt : Nat) (wy : Nat) (lq : Nat) (df : Nat) (cd : Int) (op : Int) (mr : Int) (ld : Bool) (pt : Bool) (fr : Nat) (sn : Nat) (dn : Nat) (Z : Nat → Nat) (x : Int) (hx : iR x) (hl : ld = true) (hz : Z 0 ≤ 96) (hn : x < 0 ∨ ((Z 0 : Nat) : Int) < x) : rCi l y_Mo_crossing prog_12_method_41_code 5 .int rm_Mo_crossing_i D (tysA tI tJ tZ) [.ref mo, .int (iI x)] [(mo, .inr (10, [.int (iI cd), .ref ml, .ref mz, .ref ms, .int (iI op), .int (iI mr), .int (iI (bI (ld = true))), .int (iI (bI (pt = true))), .int (iI ((fr : Nat) : Int)), .ref mt, .int (iI ((sn : Nat) : Int)), .ref mb, .ref me, .ref bt, .ref wy, .ref lq, .ref df, .int (iI ((dn : Nat) : Int))])), (mz, .inl (tI, 2, .inl (iA (iN Z))))] (fun zz (_ : Unit) => zz = iI (((0 : Nat) : Int))) (fun (_ : Unit) => [(mo, .inr (10, [.int (iI 2), .ref ml, .ref mz, .ref ms, .int (iI op), .int (iI mr), .int (iI (bI (ld = true))), .int (iI (bI (pt = true))), .int (iI ((fr : Nat) : Int)), .ref mt, .int (iI ((sn : Nat) : Int)), .ref mb, .ref me, .ref bt, .ref wy, .ref lq, .ref df, .int (iI ((dn : Nat) : Int))])), (mz, .inl (tI, 2, .inl (iA (iN Z))))]) := by
  intro sz
  refine r_met (by decide) (Nat.le_of_ble_eq_true rfl) ?_
  intro F p e s m args below meth c Q A hX hT hAe hsz hin
  subst hAe
  replace hX : rOK F p l e rm_Mo_crossing_i s m args below meth c Q prog_12_method_41_code 5 "RowAlignerModel" D (tysA tI tJ tZ) _ := hX
  unfold iR at hx
  show F 0 [(0, .ref mo), (1, .int (iI x))] [] [(mo, .inr (10, [.int (iI cd), .ref ml, .ref mz, .ref ms, .int (iI op), .int (iI mr), .int (iI (bI (ld = true))), .int (iI (bI (pt = true))), .int (iI ((fr : Nat) : Int)), .ref mt, .int (iI ((sn : Nat) : Int)), .ref mb, .ref me, .ref bt, .ref wy, .ref lq, .ref df, .int (iI ((dn : Nat) : Int))])), (mz, .inl (tI, 2, .inl (iA (iN Z))))] 0 0
  refine r_aload_n hX 0 d_Mo_crossing_0 rfl ?_
  refine r_aload_n hX 0 d_Mo_crossing_1 rfl ?_
  refine r_get hX cf_Mo 0 rfl 6 (by decide) fl_Mo_61 rfl d_Mo_crossing_2 ?_
  refine rb_if_ne hX 12 d_Mo_crossing_5 (by decide) (fun h5 => ?_) (fun h5 => by exfalso; exact h5 hl)
  refine r_iload_n hX 1 d_Mo_crossing_12 rfl ?_
  have J31 : F 31 [(0, .ref mo), (1, .int (iI x))] [.int (iI 2), .ref mo] [(mo, .inr (10, [.int (iI cd), .ref ml, .ref mz, .ref ms, .int (iI op), .int (iI mr), .int (iI (bI (ld = true))), .int (iI (bI (pt = true))), .int (iI ((fr : Nat) : Int)), .ref mt, .int (iI ((sn : Nat) : Int)), .ref mb, .ref me, .ref bt, .ref wy, .ref lq, .ref df, .int (iI ((dn : Nat) : Int))])), (mz, .inl (tI, 2, .inl (iA (iN Z))))] 0 0 := by
    refine r_put hX (ws' := [(mo, .inr (10, [.int (iI 2), .ref ml, .ref mz, .ref ms, .int (iI op), .int (iI mr), .int (iI (bI (ld = true))), .int (iI (bI (pt = true))), .int (iI ((fr : Nat) : Int)), .ref mt, .int (iI ((sn : Nat) : Int)), .ref mb, .ref me, .ref bt, .ref wy, .ref lq, .ref df, .int (iI ((dn : Nat) : Int))])), (mz, .inl (tI, 2, .inl (iA (iN Z))))]) cf_Mo 0 rfl 0 (by decide) fl_Mo_52 rfl rfl rfl (Nat.le_of_ble_eq_true rfl) rfl d_Mo_crossing_31 ?_
    refine r_aload_n hX 0 d_Mo_crossing_34 rfl ?_
    refine r_get hX cf_Mo 0 rfl 0 (by decide) fl_Mo_52 rfl d_Mo_crossing_35 ?_
    refine r_if_gt hX 48 d_Mo_crossing_38 (by decide) (by unfold iR; omega) (fun h38 => ?_) (fun h38 => by exfalso; omega)
    refine r_aload_n hX 0 d_Mo_crossing_48 rfl ?_
    refine r_get hX cf_Mo 0 rfl 0 (by decide) fl_Mo_52 rfl d_Mo_crossing_49 ?_
    refine r_if_le hX 59 d_Mo_crossing_52 (by decide) (by unfold iR; omega) (fun h52 => by exfalso; omega) (fun h52 => ?_)
    refine r_iconstN hX 0 d_Mo_crossing_55 rfl ?_
    refine r_goto hX 60 d_Mo_crossing_56 (by decide) ?_
    exact r_iret hX hT () rfl rfl (by decide) (by decide) d_Mo_crossing_60
  refine r_if_lt hX 26 d_Mo_crossing_13 (by decide) (by unfold iR; omega) (fun h13 => ?_) (fun h13 => ?_)
  · refine r_iconstN hX 2 d_Mo_crossing_26 rfl ?_
    refine r_goto hX 31 d_Mo_crossing_27 (by decide) ?_
    exact rj_e (by rfl) J31
  · refine r_iload_n hX 1 d_Mo_crossing_16 rfl ?_
    refine r_aload_n hX 0 d_Mo_crossing_17 rfl ?_
    refine r_get hX cf_Mo 0 rfl 2 (by decide) fl_Mo_13 rfl d_Mo_crossing_18 ?_
    refine r_iconstN hX 0 d_Mo_crossing_21 rfl ?_
    refine r_ialdN hX 1 0 rfl rfl (0) rfl (by omega) (by decide) d_Mo_crossing_22 ?_
    refine r_icmp_le hX 30 d_Mo_crossing_23 (by decide) (by unfold iR; omega) (by unfold iR; omega) (fun h23 => by exfalso; omega) (fun h23 => ?_)
    refine r_iconstN hX 2 d_Mo_crossing_26 rfl ?_
    refine r_goto hX 31 d_Mo_crossing_27 (by decide) ?_
    exact rj_e (by rfl) J31

abbrev rm_Mo_crossing_p : Room := { frames := 0, cells := 0, slots := 0, locals := 0 }
set_option maxHeartbeats 4000000 in
set_option maxRecDepth 100000 in
theorem c_Mo_crossing_p (l : Launch) (D : va_G) (tI tJ tZ : ClassId) (mo : Nat) (ml : Nat) (mz : Nat) (ms : Nat) (mt : Nat) (mb : Nat) (me : Nat) (bt : Nat) (wy : Nat) (lq : Nat) (df : Nat) (cd : Int) (op : Int) (mr : Int) (ld : Bool) (pt : Bool) (fr : Nat) (sn : Nat) (dn : Nat) (Z : Nat → Nat) (x : Nat) (hl : ld = true) (hz : Z 0 ≤ 96) (hx : x ≤ Z 0) (hp : pt = true) : rCi l y_Mo_crossing prog_12_method_41_code 5 .int rm_Mo_crossing_p D (tysA tI tJ tZ) [.ref mo, .int (iI ((x : Nat) : Int))] [(mo, .inr (10, [.int (iI cd), .ref ml, .ref mz, .ref ms, .int (iI op), .int (iI mr), .int (iI (bI (ld = true))), .int (iI (bI (pt = true))), .int (iI ((fr : Nat) : Int)), .ref mt, .int (iI ((sn : Nat) : Int)), .ref mb, .ref me, .ref bt, .ref wy, .ref lq, .ref df, .int (iI ((dn : Nat) : Int))])), (mz, .inl (tI, 2, .inl (iA (iN Z))))] (fun zz (_ : Unit) => zz = iI ((-1))) (fun (_ : Unit) => [(mo, .inr (10, [.int (iI 0), .ref ml, .ref mz, .ref ms, .int (iI op), .int (iI mr), .int (iI (bI (ld = true))), .int (iI (bI (pt = true))), .int (iI ((fr : Nat) : Int)), .ref mt, .int (iI ((sn : Nat) : Int)), .ref mb, .ref me, .ref bt, .ref wy, .ref lq, .ref df, .int (iI ((dn : Nat) : Int))])), (mz, .inl (tI, 2, .inl (iA (iN Z))))]) := by
  intro sz
  refine r_met (by decide) (Nat.le_of_ble_eq_true rfl) ?_
  intro F p e s m args below meth c Q A hX hT hAe hsz hin
  subst hAe
  replace hX : rOK F p l e rm_Mo_crossing_p s m args below meth c Q prog_12_method_41_code 5 "RowAlignerModel" D (tysA tI tJ tZ) _ := hX
  show F 0 [(0, .ref mo), (1, .int (iI ((x : Nat) : Int)))] [] [(mo, .inr (10, [.int (iI cd), .ref ml, .ref mz, .ref ms, .int (iI op), .int (iI mr), .int (iI (bI (ld = true))), .int (iI (bI (pt = true))), .int (iI ((fr : Nat) : Int)), .ref mt, .int (iI ((sn : Nat) : Int)), .ref mb, .ref me, .ref bt, .ref wy, .ref lq, .ref df, .int (iI ((dn : Nat) : Int))])), (mz, .inl (tI, 2, .inl (iA (iN Z))))] 0 0
  refine r_aload_n hX 0 d_Mo_crossing_0 rfl ?_
  refine r_aload_n hX 0 d_Mo_crossing_1 rfl ?_
  refine r_get hX cf_Mo 0 rfl 6 (by decide) fl_Mo_61 rfl d_Mo_crossing_2 ?_
  refine rb_if_ne hX 12 d_Mo_crossing_5 (by decide) (fun h5 => ?_) (fun h5 => by exfalso; exact h5 hl)
  refine r_iload_n hX 1 d_Mo_crossing_12 rfl ?_
  refine r_if_lt hX 26 d_Mo_crossing_13 (by decide) (by unfold iR; omega) (fun h13 => by exfalso; omega) (fun h13 => ?_)
  refine r_iload_n hX 1 d_Mo_crossing_16 rfl ?_
  refine r_aload_n hX 0 d_Mo_crossing_17 rfl ?_
  refine r_get hX cf_Mo 0 rfl 2 (by decide) fl_Mo_13 rfl d_Mo_crossing_18 ?_
  refine r_iconstN hX 0 d_Mo_crossing_21 rfl ?_
  refine r_ialdN hX 1 0 rfl rfl (0) rfl (by omega) (by decide) d_Mo_crossing_22 ?_
  refine r_icmp_le hX 30 d_Mo_crossing_23 (by decide) (by unfold iR; omega) (by unfold iR; omega) (fun h23 => ?_) (fun h23 => by exfalso; omega)
  refine r_iconstN hX 0 d_Mo_crossing_30 rfl ?_
  refine r_put hX (ws' := [(mo, .inr (10, [.int (iI ((0 : Nat) : Int)), .ref ml, .ref mz, .ref ms, .int (iI op), .int (iI mr), .int (iI (bI (ld = true))), .int (iI (bI (pt = true))), .int (iI ((fr : Nat) : Int)), .ref mt, .int (iI ((sn : Nat) : Int)), .ref mb, .ref me, .ref bt, .ref wy, .ref lq, .ref df, .int (iI ((dn : Nat) : Int))])), (mz, .inl (tI, 2, .inl (iA (iN Z))))]) cf_Mo 0 rfl 0 (by decide) fl_Mo_52 rfl rfl rfl (Nat.le_of_ble_eq_true rfl) rfl d_Mo_crossing_31 ?_
  refine r_aload_n hX 0 d_Mo_crossing_34 rfl ?_
  refine r_get hX cf_Mo 0 rfl 0 (by decide) fl_Mo_52 rfl d_Mo_crossing_35 ?_
  refine r_if_gt hX 48 d_Mo_crossing_38 (by decide) (by unfold iR; omega) (fun h38 => by exfalso; omega) (fun h38 => ?_)
  refine r_aload_n hX 0 d_Mo_crossing_41 rfl ?_
  refine r_get hX cf_Mo 0 rfl 7 (by decide) fl_Mo_76 rfl d_Mo_crossing_42 ?_
  refine rb_if_eq hX 61 d_Mo_crossing_45 (by decide) (fun h45 => by exfalso; exact h45 hp) (fun h45 => ?_)
  refine r_aload_n hX 0 d_Mo_crossing_48 rfl ?_
  refine r_get hX cf_Mo 0 rfl 0 (by decide) fl_Mo_52 rfl d_Mo_crossing_49 ?_
  refine r_if_le hX 59 d_Mo_crossing_52 (by decide) (by unfold iR; omega) (fun h52 => ?_) (fun h52 => by exfalso; omega)
  refine r_iconst hX d_Mo_crossing_59 ?_
  exact r_iret hX hT () rfl rfl (by decide) (by decide) d_Mo_crossing_60

abbrev rm_Mo_crossing : Room := { frames := 3, cells := 0, slots := 0, locals := 89 }
set_option maxHeartbeats 4000000 in
set_option maxRecDepth 100000 in
theorem c_Mo_crossing (l : Launch) (D : va_G) (tI tJ tZ : ClassId) (mo : Nat) (ml : Nat) (mz : Nat) (ms : Nat) (mt : Nat) (mb : Nat) (me : Nat) (bt : Nat) (wy : Nat) (lq : Nat) (df : Nat) (cd : Int) (op : Int) (mr : Int) (ld : Bool) (pt : Bool) (fr : Nat) (sn : Nat) (dn : Nat) (L : Nat → Nat) (Z : Nat → Nat) (SC : Nat → Int) (T : Nat → Int) (Y : Nat → Int) (x : Nat) (hM : raM Z L SC op mr fr) (hl : ld = true) (hx : x ≤ Z 0) (hp : pt = false) (hTM : ra_TM (ra_mg Z L SC op mr fr pt) T) (hYb : ∀ t, -100000000 ≤ Y t ∧ Y t ≤ 400000) : rCi l y_Mo_crossing prog_12_method_41_code 5 .int rm_Mo_crossing D (tysA tI tJ tZ) [.ref mo, .int (iI ((x : Nat) : Int))] [(mo, .inr (10, [.int (iI cd), .ref ml, .ref mz, .ref ms, .int (iI op), .int (iI mr), .int (iI (bI (ld = true))), .int (iI (bI (pt = true))), .int (iI ((fr : Nat) : Int)), .ref mt, .int (iI ((sn : Nat) : Int)), .ref mb, .ref me, .ref bt, .ref wy, .ref lq, .ref df, .int (iI ((dn : Nat) : Int))])), (ml, .inl (tI, 192, .inl (iA (iN L)))), (mz, .inl (tI, 2, .inl (iA (iN Z)))), (ms, .inl (tI, 676, .inl (iA SC))), (bt, .inl (tI, 28227, .inl (iA T))), (lq, .inl (tI, 28227, .inl (iA Y)))] (fun zz (u : (Nat → Int) × Nat) => zz = iI ((u.2 : Nat) : Int) ∧ (∀ t, -100000000 ≤ u.1 t ∧ u.1 t ≤ 400000) ∧ u.2 ≤ Z 1 ∧ (∃ b, ra_rc (ra_mg Z L SC op mr fr pt) b x u.2) ∧ ∀ j, j < u.2 → ∀ b, ¬ ra_rc (ra_mg Z L SC op mr fr pt) b x j) (fun (u : (Nat → Int) × Nat) => [(mo, .inr (10, [.int (iI 0), .ref ml, .ref mz, .ref ms, .int (iI op), .int (iI mr), .int (iI (bI (ld = true))), .int (iI (bI (pt = true))), .int (iI ((fr : Nat) : Int)), .ref mt, .int (iI ((sn : Nat) : Int)), .ref mb, .ref me, .ref bt, .ref wy, .ref lq, .ref df, .int (iI ((dn : Nat) : Int))])), (ml, .inl (tI, 192, .inl (iA (iN L)))), (mz, .inl (tI, 2, .inl (iA (iN Z)))), (ms, .inl (tI, 676, .inl (iA SC))), (bt, .inl (tI, 28227, .inl (iA T))), (lq, .inl (tI, 28227, .inl (iA (u.1))))]) := by
  intro sz
  refine r_met (by decide) (Nat.le_of_ble_eq_true rfl) ?_
  intro F p e s m args below meth c Q A hX hT hAe hsz hin
  subst hAe
  replace hX : rOK F p l e rm_Mo_crossing s m args below meth c Q prog_12_method_41_code 5 "RowAlignerModel" D (tysA tI tJ tZ) _ := hX
  have hM9 := hM
  obtain ⟨hza, hzb, hL, hL2, hS, ho0, ho1, hm0, hm1, hf⟩ := hM9
  have hbd : ra_bd (ra_mg Z L SC op mr fr pt) := hM.bd pt
  have hpt : ¬ pt = true := by rw [hp]; decide
  have hwf : ra_wf (ra_mg Z L SC op mr fr pt) := fun q => absurd q hpt
  have hT0 : T 0 = ra_r (ra_mg Z L SC op mr fr pt) 0 0 0 := (hTM 0 0 0 (by omega) (Nat.zero_le _) (Nat.zero_le _)).trans (ra_mv_0 hwf (Or.inr (Or.inl ⟨rfl, Or.inl ⟨rfl, rfl⟩⟩)))
  have hT9 : -200000 ≤ T 0 ∧ T 0 ≤ 200000 := by rw [hT0]; exact ra_r_bd hbd (Nat.zero_le _) (Nat.zero_le _)
  show F 0 [(0, .ref mo), (1, .int (iI ((x : Nat) : Int)))] [] [(mo, .inr (10, [.int (iI cd), .ref ml, .ref mz, .ref ms, .int (iI op), .int (iI mr), .int (iI (bI (ld = true))), .int (iI (bI (pt = true))), .int (iI ((fr : Nat) : Int)), .ref mt, .int (iI ((sn : Nat) : Int)), .ref mb, .ref me, .ref bt, .ref wy, .ref lq, .ref df, .int (iI ((dn : Nat) : Int))])), (ml, .inl (tI, 192, .inl (iA (iN L)))), (mz, .inl (tI, 2, .inl (iA (iN Z)))), (ms, .inl (tI, 676, .inl (iA SC))), (bt, .inl (tI, 28227, .inl (iA T))), (lq, .inl (tI, 28227, .inl (iA Y)))] 0 0
  refine r_aload_n hX 0 d_Mo_crossing_0 rfl ?_
  refine r_aload_n hX 0 d_Mo_crossing_1 rfl ?_
  refine r_get hX cf_Mo 0 rfl 6 (by decide) fl_Mo_61 rfl d_Mo_crossing_2 ?_
  refine rb_if_ne hX 12 d_Mo_crossing_5 (by decide) (fun h5 => ?_) (fun h5 => by exfalso; exact h5 hl)
  refine r_iload_n hX 1 d_Mo_crossing_12 rfl ?_
  refine r_if_lt hX 26 d_Mo_crossing_13 (by decide) (by unfold iR; omega) (fun h13 => by exfalso; omega) (fun h13 => ?_)
  refine r_iload_n hX 1 d_Mo_crossing_16 rfl ?_
  refine r_aload_n hX 0 d_Mo_crossing_17 rfl ?_
  refine r_get hX cf_Mo 0 rfl 2 (by decide) fl_Mo_13 rfl d_Mo_crossing_18 ?_
  refine r_iconstN hX 0 d_Mo_crossing_21 rfl ?_
  refine r_ialdN hX 2 0 rfl rfl (0) rfl (by omega) (by decide) d_Mo_crossing_22 ?_
  refine r_icmp_le hX 30 d_Mo_crossing_23 (by decide) (by unfold iR; omega) (by unfold iR; omega) (fun h23 => ?_) (fun h23 => by exfalso; omega)
  refine r_iconstN hX 0 d_Mo_crossing_30 rfl ?_
  refine r_put hX (ws' := [(mo, .inr (10, [.int (iI ((0 : Nat) : Int)), .ref ml, .ref mz, .ref ms, .int (iI op), .int (iI mr), .int (iI (bI (ld = true))), .int (iI (bI (pt = true))), .int (iI ((fr : Nat) : Int)), .ref mt, .int (iI ((sn : Nat) : Int)), .ref mb, .ref me, .ref bt, .ref wy, .ref lq, .ref df, .int (iI ((dn : Nat) : Int))])), (ml, .inl (tI, 192, .inl (iA (iN L)))), (mz, .inl (tI, 2, .inl (iA (iN Z)))), (ms, .inl (tI, 676, .inl (iA SC))), (bt, .inl (tI, 28227, .inl (iA T))), (lq, .inl (tI, 28227, .inl (iA Y)))]) cf_Mo 0 rfl 0 (by decide) fl_Mo_52 rfl rfl rfl (Nat.le_of_ble_eq_true rfl) rfl d_Mo_crossing_31 ?_
  refine r_aload_n hX 0 d_Mo_crossing_34 rfl ?_
  refine r_get hX cf_Mo 0 rfl 0 (by decide) fl_Mo_52 rfl d_Mo_crossing_35 ?_
  refine r_if_gt hX 48 d_Mo_crossing_38 (by decide) (by unfold iR; omega) (fun h38 => by exfalso; omega) (fun h38 => ?_)
  refine r_aload_n hX 0 d_Mo_crossing_41 rfl ?_
  refine r_get hX cf_Mo 0 rfl 7 (by decide) fl_Mo_76 rfl d_Mo_crossing_42 ?_
  refine rb_if_eq hX 61 d_Mo_crossing_45 (by decide) (fun h45 => ?_) (fun h45 => by exfalso; exact hpt h45)
  refine r_iconstN hX 0 d_Mo_crossing_61 rfl ?_
  refine r_istore_n hX (lv' := [(2, .int (iI ((0 : Nat) : Int))), (0, .ref mo), (1, .int (iI ((x : Nat) : Int)))]) d_Mo_crossing_62 rfl (by decide) rfl ?_
  have L63 : ∀ (dd : Nat) (k : Nat), 28227 - k = dd → (k ≤ 28227) → F 63 [(2, .int (iI ((k : Nat) : Int))), (1, .int (iI ((x : Nat) : Int))), (0, .ref mo)] [] [(mo, .inr (10, [.int (iI 0), .ref ml, .ref mz, .ref ms, .int (iI op), .int (iI mr), .int (iI (bI (ld = true))), .int (iI (bI (pt = true))), .int (iI ((fr : Nat) : Int)), .ref mt, .int (iI ((sn : Nat) : Int)), .ref mb, .ref me, .ref bt, .ref wy, .ref lq, .ref df, .int (iI ((dn : Nat) : Int))])), (ml, .inl (tI, 192, .inl (iA (iN L)))), (mz, .inl (tI, 2, .inl (iA (iN Z)))), (ms, .inl (tI, 676, .inl (iA SC))), (bt, .inl (tI, 28227, .inl (iA T))), (lq, .inl (tI, 28227, .inl (iA (ra_fl Y k))))] 0 0 := by
    intro dd
    induction dd using Nat.strongRecOn with
    | _ dd ih63 =>
      intro k hmu63 hk
      refine r_iload_n hX 0 d_Mo_crossing_63 rfl ?_
      refine r_aload_n hX 2 d_Mo_crossing_64 rfl ?_
      refine r_get hX cf_Mo 0 rfl 15 (by decide) fl_Mo_42 rfl d_Mo_crossing_65 ?_
      refine r_alen hX 5 0 rfl rfl d_Mo_crossing_68 ?_
      refine r_icmp_ge hX 86 d_Mo_crossing_69 (by decide) (by unfold iR; omega) (by unfold iR; omega) (fun h69 => ?_) (fun h69 => ?_)
      · have hk9 : k = 28227 := by omega
        subst hk9
        refine r_aload_n hX 2 d_Mo_crossing_86 rfl ?_
        refine r_get hX cf_Mo 0 rfl 15 (by decide) fl_Mo_42 rfl d_Mo_crossing_87 ?_
        refine r_iconstN hX 0 d_Mo_crossing_90 rfl ?_
        refine r_iconstN hX 0 d_Mo_crossing_91 rfl ?_
        refine r_iast hX (ws' := [(mo, .inr (10, [.int (iI 0), .ref ml, .ref mz, .ref ms, .int (iI op), .int (iI mr), .int (iI (bI (ld = true))), .int (iI (bI (pt = true))), .int (iI ((fr : Nat) : Int)), .ref mt, .int (iI ((sn : Nat) : Int)), .ref mb, .ref me, .ref bt, .ref wy, .ref lq, .ref df, .int (iI ((dn : Nat) : Int))])), (ml, .inl (tI, 192, .inl (iA (iN L)))), (mz, .inl (tI, 2, .inl (iA (iN Z)))), (ms, .inl (tI, 676, .inl (iA SC))), (bt, .inl (tI, 28227, .inl (iA T))), (lq, .inl (tI, 28227, .inl (iA (iU (ra_fl Y 28227) 0 (((0 : Nat) : Int))))))]) 5 0 rfl rfl (0) rfl (by omega) (by decide) rfl d_Mo_crossing_92 ?_
        refine r_iconstN hX 0 d_Mo_crossing_93 rfl ?_
        refine r_istore_n hX (lv' := [(2, .int (iI ((0 : Nat) : Int))), (1, .int (iI ((x : Nat) : Int))), (0, .ref mo)]) d_Mo_crossing_94 rfl (by decide) rfl ?_
        have L95 : ∀ (dd : Nat) (a : Nat) (y : Nat → Int), Z 0 + 1 - a = dd → (a ≤ Z 0 + 1) → (ra_L9 (ra_mg Z L SC op mr fr pt) y a 0 0) → F 95 [(2, .int (iI ((a : Nat) : Int))), (1, .int (iI ((x : Nat) : Int))), (0, .ref mo)] [] [(mo, .inr (10, [.int (iI 0), .ref ml, .ref mz, .ref ms, .int (iI op), .int (iI mr), .int (iI (bI (ld = true))), .int (iI (bI (pt = true))), .int (iI ((fr : Nat) : Int)), .ref mt, .int (iI ((sn : Nat) : Int)), .ref mb, .ref me, .ref bt, .ref wy, .ref lq, .ref df, .int (iI ((dn : Nat) : Int))])), (ml, .inl (tI, 192, .inl (iA (iN L)))), (mz, .inl (tI, 2, .inl (iA (iN Z)))), (ms, .inl (tI, 676, .inl (iA SC))), (bt, .inl (tI, 28227, .inl (iA T))), (lq, .inl (tI, 28227, .inl (iA y)))] 0 0 := by
          intro dd
          induction dd using Nat.strongRecOn with
          | _ dd ih95 =>
            intro a y hmu95 ha hA
            refine r_iload_n hX 0 d_Mo_crossing_95 rfl ?_
            refine r_aload_n hX 2 d_Mo_crossing_96 rfl ?_
            refine r_get hX cf_Mo 0 rfl 2 (by decide) fl_Mo_13 rfl d_Mo_crossing_97 ?_
            refine r_iconstN hX 0 d_Mo_crossing_100 rfl ?_
            refine r_ialdN hX 2 0 rfl rfl (0) rfl (by omega) (by decide) d_Mo_crossing_101 ?_
            refine r_icmp_gt hX 159 d_Mo_crossing_102 (by decide) (by unfold iR; omega) (by unfold iR; omega) (fun h102 => ?_) (fun h102 => ?_)
            · have hLS := ra_L9_LS hbd hA
              have hLC := ra_L9_LC hbd hA (show Z 0 < a by omega)
              refine r_iconstN hX 0 d_Mo_crossing_159 rfl ?_
              refine r_istore_n hX (lv' := [(2, .int (iI ((0 : Nat) : Int))), (1, .int (iI ((x : Nat) : Int))), (0, .ref mo)]) d_Mo_crossing_160 rfl (by decide) rfl ?_
              have L161 : ∀ (dd : Nat) (jj : Nat), Z 1 + 1 - jj = dd → (jj ≤ Z 1) → (∀ j, j < jj → ∀ b, ¬ ra_rc (ra_mg Z L SC op mr fr pt) b x j) → F 161 [(2, .int (iI ((jj : Nat) : Int))), (1, .int (iI ((x : Nat) : Int))), (0, .ref mo)] [] [(mo, .inr (10, [.int (iI 0), .ref ml, .ref mz, .ref ms, .int (iI op), .int (iI mr), .int (iI (bI (ld = true))), .int (iI (bI (pt = true))), .int (iI ((fr : Nat) : Int)), .ref mt, .int (iI ((sn : Nat) : Int)), .ref mb, .ref me, .ref bt, .ref wy, .ref lq, .ref df, .int (iI ((dn : Nat) : Int))])), (ml, .inl (tI, 192, .inl (iA (iN L)))), (mz, .inl (tI, 2, .inl (iA (iN Z)))), (ms, .inl (tI, 676, .inl (iA SC))), (bt, .inl (tI, 28227, .inl (iA T))), (lq, .inl (tI, 28227, .inl (iA y)))] 0 0 := by
                intro dd
                induction dd using Nat.strongRecOn with
                | _ dd ih161 =>
                  intro jj hmu161 hjj hno
                  refine r_aload_n hX 2 d_Mo_crossing_161 rfl ?_
                  refine r_iload_n hX 1 d_Mo_crossing_162 rfl ?_
                  refine r_iload_n hX 0 d_Mo_crossing_163 rfl ?_
                  refine r_aload_n hX 2 d_Mo_crossing_164 rfl ?_
                  refine r_get hX cf_Mo 0 rfl 13 (by decide) fl_Mo_35 rfl d_Mo_crossing_165 ?_
                  refine r_iconstN hX 0 d_Mo_crossing_168 rfl ?_
                  refine r_iald hX 4 0 rfl rfl (0) rfl (by omega) (by decide) d_Mo_crossing_169 ?_
                  refine r_invV_i0 (st := []) (As := [.int (iI ((x : Nat) : Int)), .int (iI ((jj : Nat) : Int)), .int (iI (T 0))]) (wr := [(ml, .inl (tI, 192, .inl (iA (iN L)))), (ms, .inl (tI, 676, .inl (iA SC)))]) hX (c_Mo_crosses l D tI tJ tZ mo ml mz ms mt mb me bt wy lq df 0 op mr ld pt fr sn dn L Z SC T y x jj (T 0) hM hx hjj (by omega) hTM hA.1) "RowAlignerModel" 0 10 cf_Mo rfl yn_Mo_crosses ml_Mo_142 im_Mo_crosses se_Mo_crosses co_Mo_crosses in_Mo (by decide) (by decide) (by decide) [0, 2, 4, 5] [1, 3] rfl rfl rfl rfl rfl (by decide) rfl rfl (Nat.le_of_ble_eq_true rfl) d_Mo_crossing_170 [2, 0, 3, 1, 4, 5] rfl (w2 := fun _ => [(mo, .inr (10, [.int (iI 0), .ref ml, .ref mz, .ref ms, .int (iI op), .int (iI mr), .int (iI (bI (ld = true))), .int (iI (bI (pt = true))), .int (iI ((fr : Nat) : Int)), .ref mt, .int (iI ((sn : Nat) : Int)), .ref mb, .ref me, .ref bt, .ref wy, .ref lq, .ref df, .int (iI ((dn : Nat) : Int))])), (ml, .inl (tI, 192, .inl (iA (iN L)))), (mz, .inl (tI, 2, .inl (iA (iN Z)))), (ms, .inl (tI, 676, .inl (iA SC))), (bt, .inl (tI, 28227, .inl (iA T))), (lq, .inl (tI, 28227, .inl (iA y)))]) (fun _ => rfl) (fun r170 _ e170 => ?_)
                  subst e170
                  have hxx : (ra_tv (ra_X (ra_mg Z L SC op mr fr pt) (ra_l9 y) (T 0) x jj) = true) ↔ ∃ b, ra_rc (ra_mg Z L SC op mr fr pt) b x jj := by rw [ra_tv_iff, hT0]; exact ra_X_iff hbd hwf hLS hLC hx hjj
                  refine rb_if_ne hX 182 d_Mo_crossing_173 (by decide) (fun h173 => ?_) (fun h173 => ?_)
                  · refine r_iload_n hX 0 d_Mo_crossing_182 rfl ?_
                    exact r_iret hX hT (y, jj) ⟨rfl, hA.1, hjj, hxx.1 h173, hno⟩ rfl (by decide) (by decide) d_Mo_crossing_183
                  · refine r_iincN hX (lv' := [(2, .int (iI ((jj + 1 : Nat) : Int))), (1, .int (iI ((x : Nat) : Int))), (0, .ref mo)]) 0 d_Mo_crossing_176 rfl (by decide) rfl ?_
                    refine r_goto hX 161 d_Mo_crossing_179 (by decide) ?_
                    exact ih161 _ (by omega) (jj + 1) rfl (ra_cx_more hbd hp hx (ra_cx_s hno (fun q => h173 (hxx.2 q)))) (ra_cx_s hno (fun q => h173 (hxx.2 q)))
              exact L161 _ 0 rfl (Nat.zero_le _) (fun j q => absurd q (by omega))
            · refine r_iconstN hX 0 d_Mo_crossing_105 rfl ?_
              refine r_istore_n hX (lv' := [(3, .int (iI ((0 : Nat) : Int))), (2, .int (iI ((a : Nat) : Int))), (1, .int (iI ((x : Nat) : Int))), (0, .ref mo)]) d_Mo_crossing_106 rfl (by decide) rfl ?_
              have L107 : ∀ (dd : Nat) (b9 : Nat) (y : Nat → Int), Z 1 + 1 - b9 = dd → (b9 ≤ Z 1 + 1) → (ra_L9 (ra_mg Z L SC op mr fr pt) y a b9 0) → F 107 [(3, .int (iI ((b9 : Nat) : Int))), (2, .int (iI ((a : Nat) : Int))), (1, .int (iI ((x : Nat) : Int))), (0, .ref mo)] [] [(mo, .inr (10, [.int (iI 0), .ref ml, .ref mz, .ref ms, .int (iI op), .int (iI mr), .int (iI (bI (ld = true))), .int (iI (bI (pt = true))), .int (iI ((fr : Nat) : Int)), .ref mt, .int (iI ((sn : Nat) : Int)), .ref mb, .ref me, .ref bt, .ref wy, .ref lq, .ref df, .int (iI ((dn : Nat) : Int))])), (ml, .inl (tI, 192, .inl (iA (iN L)))), (mz, .inl (tI, 2, .inl (iA (iN Z)))), (ms, .inl (tI, 676, .inl (iA SC))), (bt, .inl (tI, 28227, .inl (iA T))), (lq, .inl (tI, 28227, .inl (iA y)))] 0 0 := by
                intro dd
                induction dd using Nat.strongRecOn with
                | _ dd ih107 =>
                  intro b9 y hmu107 hb9 hB
                  refine r_iload_n hX 0 d_Mo_crossing_107 rfl ?_
                  refine r_aload_n hX 3 d_Mo_crossing_108 rfl ?_
                  refine r_get hX cf_Mo 0 rfl 2 (by decide) fl_Mo_13 rfl d_Mo_crossing_109 ?_
                  refine r_iconstN hX 1 d_Mo_crossing_112 rfl ?_
                  refine r_ialdN hX 2 0 rfl rfl (1) rfl (by omega) (by decide) d_Mo_crossing_113 ?_
                  refine r_icmp_gt hX 153 d_Mo_crossing_114 (by decide) (by unfold iR; omega) (by unfold iR; omega) (fun h114 => ?_) (fun h114 => ?_)
                  · refine r_iincN hX (lv' := [(2, .int (iI ((a + 1 : Nat) : Int))), (3, .int (iI ((b9 : Nat) : Int))), (1, .int (iI ((x : Nat) : Int))), (0, .ref mo)]) 1 d_Mo_crossing_153 rfl (by decide) rfl ?_
                    refine r_goto hX 95 d_Mo_crossing_156 (by decide) ?_
                    refine r_lv hX (lv' := [(2, .int (iI ((a + 1 : Nat) : Int))), (1, .int (iI ((x : Nat) : Int))), (0, .ref mo)]) [0, 2, 3] rfl ?_
                    exact ih95 _ (by omega) (a + 1) y rfl (by omega) (ra_L9_row hB (show Z 1 < b9 by omega))
                  · have ha9 : a ≤ Z 0 := by omega
                    have hb8 : b9 ≤ Z 1 := by omega
                    have hC := hB
                    refine r_iconstN hX 0 d_Mo_crossing_117 rfl ?_
                    refine r_istore hX (lv' := [(4, .int (iI ((0 : Nat) : Int))), (3, .int (iI ((b9 : Nat) : Int))), (2, .int (iI ((a : Nat) : Int))), (1, .int (iI ((x : Nat) : Int))), (0, .ref mo)]) d_Mo_crossing_118 (by decide) rfl ?_
                    refine r_iload hX 0 d_Mo_crossing_120 rfl ?_
                    refine r_iconstN hX 3 d_Mo_crossing_122 rfl ?_
                    refine r_icmp_ge hX 140 d_Mo_crossing_123 (by decide) (by unfold iR; omega) (by unfold iR; omega) (fun h123 => by exfalso; omega) (fun h123 => ?_)
                    refine r_aload_n hX 4 d_Mo_crossing_126 rfl ?_
                    refine r_iload_n hX 2 d_Mo_crossing_127 rfl ?_
                    refine r_iload_n hX 1 d_Mo_crossing_128 rfl ?_
                    refine r_iload hX 0 d_Mo_crossing_129 rfl ?_
                    refine r_invV_v0 (st := []) (As := [.int (iI ((a : Nat) : Int)), .int (iI ((b9 : Nat) : Int)), .int (iI ((0 : Nat) : Int))]) (wr := [(bt, .inl (tI, 28227, .inl (iA T)))]) hX (c_Mo_leadFrom l D tI tJ tZ mo ml mz ms mt mb me bt wy lq df 0 op mr ld pt fr sn dn L Z SC y a b9 0 hM ha9 hb8 (by omega) hC.1) "RowAlignerModel" 0 10 cf_Mo rfl yn_Mo_leadFrom ml_Mo_139 im_Mo_leadFrom se_Mo_leadFrom co_Mo_leadFrom in_Mo (by decide) (by decide) (by decide) [0, 1, 2, 3, 5] [4] rfl rfl rfl rfl rfl (by decide) rfl rfl (Nat.le_of_ble_eq_true rfl) d_Mo_crossing_131 [1, 2, 3, 4, 0, 5] rfl (w2 := fun u131 => [(mo, .inr (10, [.int (iI 0), .ref ml, .ref mz, .ref ms, .int (iI op), .int (iI mr), .int (iI (bI (ld = true))), .int (iI (bI (pt = true))), .int (iI ((fr : Nat) : Int)), .ref mt, .int (iI ((sn : Nat) : Int)), .ref mb, .ref me, .ref bt, .ref wy, .ref lq, .ref df, .int (iI ((dn : Nat) : Int))])), (ml, .inl (tI, 192, .inl (iA (iN L)))), (mz, .inl (tI, 2, .inl (iA (iN Z)))), (ms, .inl (tI, 676, .inl (iA SC))), (bt, .inl (tI, 28227, .inl (iA T))), (lq, .inl (tI, 28227, .inl (iA u131)))]) (fun _ => rfl) (fun u131 hu131 => ?_)
                    replace hC := ra_L9_step hbd hC (by omega) ha9 hb8 hu131
                    refine r_iincN hX (lv' := [(4, .int (iI ((0 + 1 : Nat) : Int))), (3, .int (iI ((b9 : Nat) : Int))), (2, .int (iI ((a : Nat) : Int))), (1, .int (iI ((x : Nat) : Int))), (0, .ref mo)]) 0 d_Mo_crossing_134 rfl (by decide) rfl ?_
                    refine r_goto hX 120 d_Mo_crossing_137 (by decide) ?_
                    refine r_iload hX 0 d_Mo_crossing_120 rfl ?_
                    refine r_iconstN hX 3 d_Mo_crossing_122 rfl ?_
                    refine r_icmp_ge hX 140 d_Mo_crossing_123 (by decide) (by unfold iR; omega) (by unfold iR; omega) (fun h123 => by exfalso; omega) (fun h123 => ?_)
                    refine r_aload_n hX 4 d_Mo_crossing_126 rfl ?_
                    refine r_iload_n hX 2 d_Mo_crossing_127 rfl ?_
                    refine r_iload_n hX 1 d_Mo_crossing_128 rfl ?_
                    refine r_iload hX 0 d_Mo_crossing_129 rfl ?_
                    refine r_invV_v0 (st := []) (As := [.int (iI ((a : Nat) : Int)), .int (iI ((b9 : Nat) : Int)), .int (iI ((0 + 1 : Nat) : Int))]) (wr := [(bt, .inl (tI, 28227, .inl (iA T)))]) hX (c_Mo_leadFrom l D tI tJ tZ mo ml mz ms mt mb me bt wy lq df 0 op mr ld pt fr sn dn L Z SC u131 a b9 (0 + 1) hM ha9 hb8 (by omega) hC.1) "RowAlignerModel" 0 10 cf_Mo rfl yn_Mo_leadFrom ml_Mo_139 im_Mo_leadFrom se_Mo_leadFrom co_Mo_leadFrom in_Mo (by decide) (by decide) (by decide) [0, 1, 2, 3, 5] [4] rfl rfl rfl rfl rfl (by decide) rfl rfl (Nat.le_of_ble_eq_true rfl) d_Mo_crossing_131 [1, 2, 3, 4, 0, 5] rfl (w2 := fun u131 => [(mo, .inr (10, [.int (iI 0), .ref ml, .ref mz, .ref ms, .int (iI op), .int (iI mr), .int (iI (bI (ld = true))), .int (iI (bI (pt = true))), .int (iI ((fr : Nat) : Int)), .ref mt, .int (iI ((sn : Nat) : Int)), .ref mb, .ref me, .ref bt, .ref wy, .ref lq, .ref df, .int (iI ((dn : Nat) : Int))])), (ml, .inl (tI, 192, .inl (iA (iN L)))), (mz, .inl (tI, 2, .inl (iA (iN Z)))), (ms, .inl (tI, 676, .inl (iA SC))), (bt, .inl (tI, 28227, .inl (iA T))), (lq, .inl (tI, 28227, .inl (iA u131)))]) (fun _ => rfl) (fun u131 hu131 => ?_)
                    replace hC := ra_L9_step hbd hC (by omega) ha9 hb8 hu131
                    refine r_iincN hX (lv' := [(4, .int (iI ((0 + 1 + 1 : Nat) : Int))), (3, .int (iI ((b9 : Nat) : Int))), (2, .int (iI ((a : Nat) : Int))), (1, .int (iI ((x : Nat) : Int))), (0, .ref mo)]) 0 d_Mo_crossing_134 rfl (by decide) rfl ?_
                    refine r_goto hX 120 d_Mo_crossing_137 (by decide) ?_
                    refine r_iload hX 0 d_Mo_crossing_120 rfl ?_
                    refine r_iconstN hX 3 d_Mo_crossing_122 rfl ?_
                    refine r_icmp_ge hX 140 d_Mo_crossing_123 (by decide) (by unfold iR; omega) (by unfold iR; omega) (fun h123 => by exfalso; omega) (fun h123 => ?_)
                    refine r_aload_n hX 4 d_Mo_crossing_126 rfl ?_
                    refine r_iload_n hX 2 d_Mo_crossing_127 rfl ?_
                    refine r_iload_n hX 1 d_Mo_crossing_128 rfl ?_
                    refine r_iload hX 0 d_Mo_crossing_129 rfl ?_
                    refine r_invV_v0 (st := []) (As := [.int (iI ((a : Nat) : Int)), .int (iI ((b9 : Nat) : Int)), .int (iI ((0 + 1 + 1 : Nat) : Int))]) (wr := [(bt, .inl (tI, 28227, .inl (iA T)))]) hX (c_Mo_leadFrom l D tI tJ tZ mo ml mz ms mt mb me bt wy lq df 0 op mr ld pt fr sn dn L Z SC u131 a b9 (0 + 1 + 1) hM ha9 hb8 (by omega) hC.1) "RowAlignerModel" 0 10 cf_Mo rfl yn_Mo_leadFrom ml_Mo_139 im_Mo_leadFrom se_Mo_leadFrom co_Mo_leadFrom in_Mo (by decide) (by decide) (by decide) [0, 1, 2, 3, 5] [4] rfl rfl rfl rfl rfl (by decide) rfl rfl (Nat.le_of_ble_eq_true rfl) d_Mo_crossing_131 [1, 2, 3, 4, 0, 5] rfl (w2 := fun u131 => [(mo, .inr (10, [.int (iI 0), .ref ml, .ref mz, .ref ms, .int (iI op), .int (iI mr), .int (iI (bI (ld = true))), .int (iI (bI (pt = true))), .int (iI ((fr : Nat) : Int)), .ref mt, .int (iI ((sn : Nat) : Int)), .ref mb, .ref me, .ref bt, .ref wy, .ref lq, .ref df, .int (iI ((dn : Nat) : Int))])), (ml, .inl (tI, 192, .inl (iA (iN L)))), (mz, .inl (tI, 2, .inl (iA (iN Z)))), (ms, .inl (tI, 676, .inl (iA SC))), (bt, .inl (tI, 28227, .inl (iA T))), (lq, .inl (tI, 28227, .inl (iA u131)))]) (fun _ => rfl) (fun u131 hu131 => ?_)
                    replace hC := ra_L9_step hbd hC (by omega) ha9 hb8 hu131
                    refine r_iincN hX (lv' := [(4, .int (iI ((0 + 1 + 1 + 1 : Nat) : Int))), (3, .int (iI ((b9 : Nat) : Int))), (2, .int (iI ((a : Nat) : Int))), (1, .int (iI ((x : Nat) : Int))), (0, .ref mo)]) 0 d_Mo_crossing_134 rfl (by decide) rfl ?_
                    refine r_goto hX 120 d_Mo_crossing_137 (by decide) ?_
                    refine r_iload hX 0 d_Mo_crossing_120 rfl ?_
                    refine r_iconstN hX 3 d_Mo_crossing_122 rfl ?_
                    refine r_icmp_ge hX 140 d_Mo_crossing_123 (by decide) (by unfold iR; omega) (by unfold iR; omega) (fun h123 => ?_) (fun h123 => by exfalso; omega)
                    refine r_aload_n hX 4 d_Mo_crossing_140 rfl ?_
                    refine r_iload_n hX 2 d_Mo_crossing_141 rfl ?_
                    refine r_iload_n hX 1 d_Mo_crossing_142 rfl ?_
                    refine r_iconstN hX 1 d_Mo_crossing_143 rfl ?_
                    refine r_invV_v0 (st := []) (As := [.int (iI ((a : Nat) : Int)), .int (iI ((b9 : Nat) : Int)), .int (iI ((1 : Nat) : Int))]) (wr := [(bt, .inl (tI, 28227, .inl (iA T)))]) hX (c_Mo_leadFrom l D tI tJ tZ mo ml mz ms mt mb me bt wy lq df 0 op mr ld pt fr sn dn L Z SC u131 a b9 1 hM ha9 hb8 (by omega) hC.1) "RowAlignerModel" 0 10 cf_Mo rfl yn_Mo_leadFrom ml_Mo_139 im_Mo_leadFrom se_Mo_leadFrom co_Mo_leadFrom in_Mo (by decide) (by decide) (by decide) [0, 1, 2, 3, 5] [4] rfl rfl rfl rfl rfl (by decide) rfl rfl (Nat.le_of_ble_eq_true rfl) d_Mo_crossing_144 [1, 2, 3, 4, 0, 5] rfl (w2 := fun u144 => [(mo, .inr (10, [.int (iI 0), .ref ml, .ref mz, .ref ms, .int (iI op), .int (iI mr), .int (iI (bI (ld = true))), .int (iI (bI (pt = true))), .int (iI ((fr : Nat) : Int)), .ref mt, .int (iI ((sn : Nat) : Int)), .ref mb, .ref me, .ref bt, .ref wy, .ref lq, .ref df, .int (iI ((dn : Nat) : Int))])), (ml, .inl (tI, 192, .inl (iA (iN L)))), (mz, .inl (tI, 2, .inl (iA (iN Z)))), (ms, .inl (tI, 676, .inl (iA SC))), (bt, .inl (tI, 28227, .inl (iA T))), (lq, .inl (tI, 28227, .inl (iA u144)))]) (fun _ => rfl) (fun u144 hu144 => ?_)
                    replace hC := ra_L9_again hbd hC (by omega) ha9 hb8 hu144
                    refine r_iincN hX (lv' := [(3, .int (iI ((b9 + 1 : Nat) : Int))), (4, .int (iI ((0 + 1 + 1 + 1 : Nat) : Int))), (2, .int (iI ((a : Nat) : Int))), (1, .int (iI ((x : Nat) : Int))), (0, .ref mo)]) 1 d_Mo_crossing_147 rfl (by decide) rfl ?_
                    refine r_goto hX 107 d_Mo_crossing_150 (by decide) ?_
                    refine r_lv hX (lv' := [(3, .int (iI ((b9 + 1 : Nat) : Int))), (2, .int (iI ((a : Nat) : Int))), (1, .int (iI ((x : Nat) : Int))), (0, .ref mo)]) [0, 2, 3, 4] rfl ?_
                    exact ih107 _ (by omega) (b9 + 1) u144 rfl (by omega) (ra_L9_col hC)
              exact L107 _ 0 y rfl (by omega) hA
        refine r_eq (lv2 := [(2, .int (iI ((0 : Nat) : Int))), (1, .int (iI ((x : Nat) : Int))), (0, .ref mo)]) (st2 := []) (ws2 := [(mo, .inr (10, [.int (iI 0), .ref ml, .ref mz, .ref ms, .int (iI op), .int (iI mr), .int (iI (bI (ld = true))), .int (iI (bI (pt = true))), .int (iI ((fr : Nat) : Int)), .ref mt, .int (iI ((sn : Nat) : Int)), .ref mb, .ref me, .ref bt, .ref wy, .ref lq, .ref df, .int (iI ((dn : Nat) : Int))])), (ml, .inl (tI, 192, .inl (iA (iN L)))), (mz, .inl (tI, 2, .inl (iA (iN Z)))), (ms, .inl (tI, 676, .inl (iA SC))), (bt, .inl (tI, 28227, .inl (iA T))), (lq, .inl (tI, 28227, .inl (iA (iU (ra_fl Y 28227) 0 0))))]) rfl rfl rfl ?_
        exact L95 _ 0 (iU (ra_fl Y 28227) 0 0) rfl (by omega) (ra_L9_start hbd hYb)
      · refine r_aload_n hX 2 d_Mo_crossing_72 rfl ?_
        refine r_get hX cf_Mo 0 rfl 15 (by decide) fl_Mo_42 rfl d_Mo_crossing_73 ?_
        refine r_iload_n hX 0 d_Mo_crossing_76 rfl ?_
        refine r_ldc hX (-100000000) ct_Mo_79 (by decide) d_Mo_crossing_77 ?_
        refine r_iast hX (ws' := [(mo, .inr (10, [.int (iI 0), .ref ml, .ref mz, .ref ms, .int (iI op), .int (iI mr), .int (iI (bI (ld = true))), .int (iI (bI (pt = true))), .int (iI ((fr : Nat) : Int)), .ref mt, .int (iI ((sn : Nat) : Int)), .ref mb, .ref me, .ref bt, .ref wy, .ref lq, .ref df, .int (iI ((dn : Nat) : Int))])), (ml, .inl (tI, 192, .inl (iA (iN L)))), (mz, .inl (tI, 2, .inl (iA (iN Z)))), (ms, .inl (tI, 676, .inl (iA SC))), (bt, .inl (tI, 28227, .inl (iA T))), (lq, .inl (tI, 28227, .inl (iA (iU (ra_fl Y k) k ((-100000000))))))]) 5 0 rfl rfl (k) rfl (by omega) (by decide) rfl d_Mo_crossing_79 ?_
        refine r_iincN hX (lv' := [(2, .int (iI ((k + 1 : Nat) : Int))), (1, .int (iI ((x : Nat) : Int))), (0, .ref mo)]) 0 d_Mo_crossing_80 rfl (by decide) rfl ?_
        refine r_goto hX 63 d_Mo_crossing_83 (by decide) ?_
        refine r_eq (lv2 := [(2, .int (iI ((k + 1 : Nat) : Int))), (1, .int (iI ((x : Nat) : Int))), (0, .ref mo)]) (st2 := []) (ws2 := [(mo, .inr (10, [.int (iI 0), .ref ml, .ref mz, .ref ms, .int (iI op), .int (iI mr), .int (iI (bI (ld = true))), .int (iI (bI (pt = true))), .int (iI ((fr : Nat) : Int)), .ref mt, .int (iI ((sn : Nat) : Int)), .ref mb, .ref me, .ref bt, .ref wy, .ref lq, .ref df, .int (iI ((dn : Nat) : Int))])), (ml, .inl (tI, 192, .inl (iA (iN L)))), (mz, .inl (tI, 2, .inl (iA (iN Z)))), (ms, .inl (tI, 676, .inl (iA SC))), (bt, .inl (tI, 28227, .inl (iA T))), (lq, .inl (tI, 28227, .inl (iA (ra_fl Y (k + 1)))))]) rfl rfl (by rw [ra_fl_s]) ?_
        exact ih63 _ (by omega) (k + 1) rfl (by omega)
  refine r_lv hX (lv' := [(2, .int (iI ((0 : Nat) : Int))), (1, .int (iI ((x : Nat) : Int))), (0, .ref mo)]) [0, 2, 1] rfl ?_
  refine r_eq (lv2 := [(2, .int (iI ((0 : Nat) : Int))), (1, .int (iI ((x : Nat) : Int))), (0, .ref mo)]) (st2 := []) (ws2 := [(mo, .inr (10, [.int (iI 0), .ref ml, .ref mz, .ref ms, .int (iI op), .int (iI mr), .int (iI (bI (ld = true))), .int (iI (bI (pt = true))), .int (iI ((fr : Nat) : Int)), .ref mt, .int (iI ((sn : Nat) : Int)), .ref mb, .ref me, .ref bt, .ref wy, .ref lq, .ref df, .int (iI ((dn : Nat) : Int))])), (ml, .inl (tI, 192, .inl (iA (iN L)))), (mz, .inl (tI, 2, .inl (iA (iN Z)))), (ms, .inl (tI, 676, .inl (iA SC))), (bt, .inl (tI, 28227, .inl (iA T))), (lq, .inl (tI, 28227, .inl (iA (ra_fl Y 0))))]) rfl rfl (by rw [ra_fl_0]; rfl) ?_
  exact L63 _ 0 rfl (by omega)
