abbrev rm_Mo_gap_b : Room := rm_Mo_gap_1
theorem c_Mo_gap_b (l : Launch) (D : va_G) (tI tJ tZ : ClassId) (mo : Nat) (ml : Nat) (mz : Nat) (ms : Nat) (mt : Nat) (mb : Nat) (me : Nat) (bt : Nat) (wy : Nat) (lq : Nat) (df : Nat) (cd : Int) (op : Int) (mr : Int) (ld : Bool) (pt : Bool) (fr : Nat) (sn : Nat) (dn : Nat) (Z : Nat → Nat) (L : Nat → Nat) (SC : Nat → Int) (i : Nat) (j : Nat) (nn : Nat) (ob : Bool) (hi : i ≤ 96) (hj : j ≤ 96) (hn : nn ≤ 96) (hz0 : Z 0 ≤ 96) (hz1 : Z 1 ≤ 96) (hf : fr < 16) : rCi l y_Mo_gap prog_12_method_15_code 10 .int rm_Mo_gap_b D (tysA tI tJ tZ) [.ref mo, .int (iI (bI (ob = true))), .int (iI ((i : Nat) : Int)), .int (iI ((j : Nat) : Int)), .int (iI ((nn : Nat) : Int))] [(mo, .inr (10, [.int (iI cd), .ref ml, .ref mz, .ref ms, .int (iI op), .int (iI mr), .int (iI (bI (ld = true))), .int (iI (bI (pt = true))), .int (iI ((fr : Nat) : Int)), .ref mt, .int (iI ((sn : Nat) : Int)), .ref mb, .ref me, .ref bt, .ref wy, .ref lq, .ref df, .int (iI ((dn : Nat) : Int))])), (mz, .inl (tI, 2, .inl (iA (iN Z))))] (fun zz (_ : Unit) => zz = iI (if ob = true then ra_g1 (ra_mg Z L SC op mr fr pt) i j nn else ra_g2 (ra_mg Z L SC op mr fr pt) i j nn)) (fun (_ : Unit) => [(mo, .inr (10, [.int (iI cd), .ref ml, .ref mz, .ref ms, .int (iI op), .int (iI mr), .int (iI (bI (ld = true))), .int (iI (bI (pt = true))), .int (iI ((fr : Nat) : Int)), .ref mt, .int (iI ((sn : Nat) : Int)), .ref mb, .ref me, .ref bt, .ref wy, .ref lq, .ref df, .int (iI ((dn : Nat) : Int))])), (mz, .inl (tI, 2, .inl (iA (iN Z))))]) := by
  by_cases h : ob = true
  · have q := c_Mo_gap_1 l D tI tJ tZ mo ml mz ms mt mb me bt wy lq df cd op mr ld pt fr sn dn Z L SC i j nn hi hj hn hz0 hz1 hf
    rw [bI_t h, if_pos h]
    exact q
  · have q := c_Mo_gap_0 l D tI tJ tZ mo ml mz ms mt mb me bt wy lq df cd op mr ld pt fr sn dn Z L SC i j nn hi hj hn hz0 hz1 hf
    rw [bI_f h, if_neg h]
    exact q

abbrev rm_Mo_worth_r : Room := { frames := 1, cells := 0, slots := 0, locals := 22 }
set_option maxHeartbeats 4000000 in
set_option maxRecDepth 100000 in
theorem c_Mo_worth_r (l : Launch) (D : va_G) (tI tJ tZ : ClassId) (mo : Nat) (ml : Nat) (mz : Nat) (ms : Nat) (mt : Nat) (mb : Nat) (me : Nat) (bt : Nat) (wy : Nat) (lq : Nat) (df : Nat) (cd : Int) (op : Int) (mr : Int) (ld : Bool) (pt : Bool) (fr : Nat) (sn : Nat) (dn : Nat) (x : Int) (hx : iR x) (hr : x < 0 ∨ 15 < x) : rCi l y_Mo_worth prog_12_method_44_code 10 .int rm_Mo_worth_r D (tysA tI tJ tZ) [.ref mo, .int (iI x)] [(mo, .inr (10, [.int (iI cd), .ref ml, .ref mz, .ref ms, .int (iI op), .int (iI mr), .int (iI (bI (ld = true))), .int (iI (bI (pt = true))), .int (iI ((fr : Nat) : Int)), .ref mt, .int (iI ((sn : Nat) : Int)), .ref mb, .ref me, .ref bt, .ref wy, .ref lq, .ref df, .int (iI ((dn : Nat) : Int))]))] (fun zz (_ : Unit) => zz = iI (((0 : Nat) : Int))) (fun (_ : Unit) => [(mo, .inr (10, [.int (iI 1), .ref ml, .ref mz, .ref ms, .int (iI op), .int (iI mr), .int (iI (bI (ld = true))), .int (iI (bI (pt = true))), .int (iI ((fr : Nat) : Int)), .ref mt, .int (iI ((sn : Nat) : Int)), .ref mb, .ref me, .ref bt, .ref wy, .ref lq, .ref df, .int (iI ((dn : Nat) : Int))]))]) := by
  intro sz
  refine r_met (by decide) (Nat.le_of_ble_eq_true rfl) ?_
  intro F p e s m args below meth c Q A hX hT hAe hsz hin
  subst hAe
  replace hX : rOK F p l e rm_Mo_worth_r s m args below meth c Q prog_12_method_44_code 10 "RowAlignerModel" D (tysA tI tJ tZ) _ := hX
  unfold iR at hx
  show F 0 [(0, .ref mo), (1, .int (iI x))] [] [(mo, .inr (10, [.int (iI cd), .ref ml, .ref mz, .ref ms, .int (iI op), .int (iI mr), .int (iI (bI (ld = true))), .int (iI (bI (pt = true))), .int (iI ((fr : Nat) : Int)), .ref mt, .int (iI ((sn : Nat) : Int)), .ref mb, .ref me, .ref bt, .ref wy, .ref lq, .ref df, .int (iI ((dn : Nat) : Int))]))] 0 0
  refine r_aload_n hX 0 d_Mo_worth_0 rfl ?_
  refine r_iload_n hX 1 d_Mo_worth_1 rfl ?_
  refine r_iconstN hX 0 d_Mo_worth_2 rfl ?_
  refine r_bipushN hX 15 d_Mo_worth_3 rfl (by decide) ?_
  refine r_invS_i0 (st := [.ref mo]) (As := [.int (iI x), .int (iI ((0 : Nat) : Int)), .int (iI ((15 : Nat) : Int))]) (wr := [(mo, .inr (10, [.int (iI cd), .ref ml, .ref mz, .ref ms, .int (iI op), .int (iI mr), .int (iI (bI (ld = true))), .int (iI (bI (pt = true))), .int (iI ((fr : Nat) : Int)), .ref mt, .int (iI ((sn : Nat) : Int)), .ref mb, .ref me, .ref bt, .ref wy, .ref lq, .ref df, .int (iI ((dn : Nat) : Int))]))]) hX (c_Mo_isIn l D tI tJ tZ x (((0 : Nat) : Int)) (((15 : Nat) : Int)) (by unfold iR; omega) (by unfold iR; omega) (by unfold iR; omega)) yn_Mo_isIn ml_Mo_65 st_Mo_isIn co_Mo_isIn in_Mo (by decide) (by decide) (by decide) [] [0] rfl rfl rfl rfl rfl (by decide) rfl rfl (Nat.le_of_ble_eq_true rfl) d_Mo_worth_5 [0] rfl (w2 := fun _ => [(mo, .inr (10, [.int (iI cd), .ref ml, .ref mz, .ref ms, .int (iI op), .int (iI mr), .int (iI (bI (ld = true))), .int (iI (bI (pt = true))), .int (iI ((fr : Nat) : Int)), .ref mt, .int (iI ((sn : Nat) : Int)), .ref mb, .ref me, .ref bt, .ref wy, .ref lq, .ref df, .int (iI ((dn : Nat) : Int))]))]) (fun _ => rfl) (fun r5 _ e5 => ?_)
  subst e5
  refine rb_if_eq hX 15 d_Mo_worth_8 (by decide) (fun h8 => ?_) (fun h8 => by exfalso; omega)
  refine r_iconstN hX 1 d_Mo_worth_15 rfl ?_
  refine r_put hX (ws' := [(mo, .inr (10, [.int (iI ((1 : Nat) : Int)), .ref ml, .ref mz, .ref ms, .int (iI op), .int (iI mr), .int (iI (bI (ld = true))), .int (iI (bI (pt = true))), .int (iI ((fr : Nat) : Int)), .ref mt, .int (iI ((sn : Nat) : Int)), .ref mb, .ref me, .ref bt, .ref wy, .ref lq, .ref df, .int (iI ((dn : Nat) : Int))]))]) cf_Mo 0 rfl 0 (by decide) fl_Mo_52 rfl rfl rfl (Nat.le_of_ble_eq_true rfl) rfl d_Mo_worth_16 ?_
  refine r_aload_n hX 0 d_Mo_worth_19 rfl ?_
  refine r_get hX cf_Mo 0 rfl 0 (by decide) fl_Mo_52 rfl d_Mo_worth_20 ?_
  refine r_if_le hX 28 d_Mo_worth_23 (by decide) (by unfold iR; omega) (fun h23 => by exfalso; omega) (fun h23 => ?_)
  refine r_iconstN hX 0 d_Mo_worth_26 rfl ?_
  exact r_iret hX hT () rfl rfl (by decide) (by decide) d_Mo_worth_27

abbrev rm_Mo_worth : Room := { frames := 1, cells := 0, slots := 0, locals := 29 }
set_option maxHeartbeats 4000000 in
set_option maxRecDepth 100000 in
theorem c_Mo_worth (l : Launch) (D : va_G) (tI tJ tZ : ClassId) (mo : Nat) (ml : Nat) (mz : Nat) (ms : Nat) (mt : Nat) (mb : Nat) (me : Nat) (bt : Nat) (wy : Nat) (lq : Nat) (df : Nat) (cd : Int) (op : Int) (mr : Int) (ld : Bool) (pt : Bool) (fr : Nat) (sn : Nat) (dn : Nat) (L : Nat → Nat) (Z : Nat → Nat) (SC : Nat → Int) (d9 : Nat → Nat) (x : Nat) (hM : raM Z L SC op mr x) (hn : dn ≤ 200) (hd : ∀ t, d9 t < 3) : rCi l y_Mo_worth prog_12_method_44_code 10 .int rm_Mo_worth D (tysA tI tJ tZ) [.ref mo, .int (iI ((x : Nat) : Int))] [(mo, .inr (10, [.int (iI cd), .ref ml, .ref mz, .ref ms, .int (iI op), .int (iI mr), .int (iI (bI (ld = true))), .int (iI (bI (pt = true))), .int (iI ((fr : Nat) : Int)), .ref mt, .int (iI ((sn : Nat) : Int)), .ref mb, .ref me, .ref bt, .ref wy, .ref lq, .ref df, .int (iI ((dn : Nat) : Int))])), (ml, .inl (tI, 192, .inl (iA (iN L)))), (mz, .inl (tI, 2, .inl (iA (iN Z)))), (ms, .inl (tI, 676, .inl (iA SC))), (df, .inl (tI, 200, .inl (iA (iN d9))))] (fun zz (_ : Unit) => zz = iI ((ra_wo (ra_mg Z L SC op mr x pt) d9 dn))) (fun (_ : Unit) => [(mo, .inr (10, [.int (iI 0), .ref ml, .ref mz, .ref ms, .int (iI op), .int (iI mr), .int (iI (bI (ld = true))), .int (iI (bI (pt = true))), .int (iI ((fr : Nat) : Int)), .ref mt, .int (iI ((sn : Nat) : Int)), .ref mb, .ref me, .ref bt, .ref wy, .ref lq, .ref df, .int (iI ((dn : Nat) : Int))])), (ml, .inl (tI, 192, .inl (iA (iN L)))), (mz, .inl (tI, 2, .inl (iA (iN Z)))), (ms, .inl (tI, 676, .inl (iA SC))), (df, .inl (tI, 200, .inl (iA (iN d9))))]) := by
  intro sz
  refine r_met (by decide) (Nat.le_of_ble_eq_true rfl) ?_
  intro F p e s m args below meth c Q A hX hT hAe hsz hin
  subst hAe
  replace hX : rOK F p l e rm_Mo_worth s m args below meth c Q prog_12_method_44_code 10 "RowAlignerModel" D (tysA tI tJ tZ) _ := hX
  have hM9 := hM
  obtain ⟨hza, hzb, hL, hL2, hS, ho0, ho1, hm0, hm1, hf⟩ := hM9
  show F 0 [(0, .ref mo), (1, .int (iI ((x : Nat) : Int)))] [] [(mo, .inr (10, [.int (iI cd), .ref ml, .ref mz, .ref ms, .int (iI op), .int (iI mr), .int (iI (bI (ld = true))), .int (iI (bI (pt = true))), .int (iI ((fr : Nat) : Int)), .ref mt, .int (iI ((sn : Nat) : Int)), .ref mb, .ref me, .ref bt, .ref wy, .ref lq, .ref df, .int (iI ((dn : Nat) : Int))])), (ml, .inl (tI, 192, .inl (iA (iN L)))), (mz, .inl (tI, 2, .inl (iA (iN Z)))), (ms, .inl (tI, 676, .inl (iA SC))), (df, .inl (tI, 200, .inl (iA (iN d9))))] 0 0
  refine r_aload_n hX 0 d_Mo_worth_0 rfl ?_
  refine r_iload_n hX 1 d_Mo_worth_1 rfl ?_
  refine r_iconstN hX 0 d_Mo_worth_2 rfl ?_
  refine r_bipushN hX 15 d_Mo_worth_3 rfl (by decide) ?_
  refine r_invS_i0 (st := [.ref mo]) (As := [.int (iI ((x : Nat) : Int)), .int (iI ((0 : Nat) : Int)), .int (iI ((15 : Nat) : Int))]) (wr := [(mo, .inr (10, [.int (iI cd), .ref ml, .ref mz, .ref ms, .int (iI op), .int (iI mr), .int (iI (bI (ld = true))), .int (iI (bI (pt = true))), .int (iI ((fr : Nat) : Int)), .ref mt, .int (iI ((sn : Nat) : Int)), .ref mb, .ref me, .ref bt, .ref wy, .ref lq, .ref df, .int (iI ((dn : Nat) : Int))])), (ml, .inl (tI, 192, .inl (iA (iN L)))), (mz, .inl (tI, 2, .inl (iA (iN Z)))), (ms, .inl (tI, 676, .inl (iA SC))), (df, .inl (tI, 200, .inl (iA (iN d9))))]) hX (c_Mo_isIn l D tI tJ tZ (((x : Nat) : Int)) (((0 : Nat) : Int)) (((15 : Nat) : Int)) (by unfold iR; omega) (by unfold iR; omega) (by unfold iR; omega)) yn_Mo_isIn ml_Mo_65 st_Mo_isIn co_Mo_isIn in_Mo (by decide) (by decide) (by decide) [] [0, 1, 2, 3, 4] rfl rfl rfl rfl rfl (by decide) rfl rfl (Nat.le_of_ble_eq_true rfl) d_Mo_worth_5 [0, 1, 2, 3, 4] rfl (w2 := fun _ => [(mo, .inr (10, [.int (iI cd), .ref ml, .ref mz, .ref ms, .int (iI op), .int (iI mr), .int (iI (bI (ld = true))), .int (iI (bI (pt = true))), .int (iI ((fr : Nat) : Int)), .ref mt, .int (iI ((sn : Nat) : Int)), .ref mb, .ref me, .ref bt, .ref wy, .ref lq, .ref df, .int (iI ((dn : Nat) : Int))])), (ml, .inl (tI, 192, .inl (iA (iN L)))), (mz, .inl (tI, 2, .inl (iA (iN Z)))), (ms, .inl (tI, 676, .inl (iA SC))), (df, .inl (tI, 200, .inl (iA (iN d9))))]) (fun _ => rfl) (fun r5 _ e5 => ?_)
  subst e5
  refine rb_if_eq hX 15 d_Mo_worth_8 (by decide) (fun h8 => by exfalso; omega) (fun h8 => ?_)
  refine r_iconstN hX 0 d_Mo_worth_11 rfl ?_
  refine r_goto hX 16 d_Mo_worth_12 (by decide) ?_
  refine r_put hX (ws' := [(mo, .inr (10, [.int (iI ((0 : Nat) : Int)), .ref ml, .ref mz, .ref ms, .int (iI op), .int (iI mr), .int (iI (bI (ld = true))), .int (iI (bI (pt = true))), .int (iI ((fr : Nat) : Int)), .ref mt, .int (iI ((sn : Nat) : Int)), .ref mb, .ref me, .ref bt, .ref wy, .ref lq, .ref df, .int (iI ((dn : Nat) : Int))])), (ml, .inl (tI, 192, .inl (iA (iN L)))), (mz, .inl (tI, 2, .inl (iA (iN Z)))), (ms, .inl (tI, 676, .inl (iA SC))), (df, .inl (tI, 200, .inl (iA (iN d9))))]) cf_Mo 0 rfl 0 (by decide) fl_Mo_52 rfl rfl rfl (Nat.le_of_ble_eq_true rfl) rfl d_Mo_worth_16 ?_
  refine r_aload_n hX 0 d_Mo_worth_19 rfl ?_
  refine r_get hX cf_Mo 0 rfl 0 (by decide) fl_Mo_52 rfl d_Mo_worth_20 ?_
  refine r_if_le hX 28 d_Mo_worth_23 (by decide) (by unfold iR; omega) (fun h23 => ?_) (fun h23 => by exfalso; omega)
  refine r_aload_n hX 0 d_Mo_worth_28 rfl ?_
  refine r_get hX cf_Mo 0 rfl 8 (by decide) fl_Mo_69 rfl d_Mo_worth_29 ?_
  refine r_istore_n hX (lv' := [(2, .int (iI ((fr : Nat) : Int))), (0, .ref mo), (1, .int (iI ((x : Nat) : Int)))]) d_Mo_worth_32 rfl (by decide) rfl ?_
  refine r_aload_n hX 1 d_Mo_worth_33 rfl ?_
  refine r_iload_n hX 2 d_Mo_worth_34 rfl ?_
  refine r_put hX (ws' := [(mo, .inr (10, [.int (iI ((0 : Nat) : Int)), .ref ml, .ref mz, .ref ms, .int (iI op), .int (iI mr), .int (iI (bI (ld = true))), .int (iI (bI (pt = true))), .int (iI ((x : Nat) : Int)), .ref mt, .int (iI ((sn : Nat) : Int)), .ref mb, .ref me, .ref bt, .ref wy, .ref lq, .ref df, .int (iI ((dn : Nat) : Int))])), (ml, .inl (tI, 192, .inl (iA (iN L)))), (mz, .inl (tI, 2, .inl (iA (iN Z)))), (ms, .inl (tI, 676, .inl (iA SC))), (df, .inl (tI, 200, .inl (iA (iN d9))))]) cf_Mo 0 rfl 8 (by decide) fl_Mo_69 rfl rfl rfl (Nat.le_of_ble_eq_true rfl) rfl d_Mo_worth_35 ?_
  refine r_iconstN hX 0 d_Mo_worth_38 rfl ?_
  refine r_istore_n hX (lv' := [(3, .int (iI ((0 : Nat) : Int))), (2, .int (iI ((fr : Nat) : Int))), (0, .ref mo), (1, .int (iI ((x : Nat) : Int)))]) d_Mo_worth_39 rfl (by decide) rfl ?_
  refine r_iconstN hX 0 d_Mo_worth_40 rfl ?_
  refine r_istore hX (lv' := [(4, .int (iI ((0 : Nat) : Int))), (3, .int (iI ((0 : Nat) : Int))), (2, .int (iI ((fr : Nat) : Int))), (0, .ref mo), (1, .int (iI ((x : Nat) : Int)))]) d_Mo_worth_41 (by decide) rfl ?_
  refine r_iconstN hX 0 d_Mo_worth_43 rfl ?_
  refine r_istore hX (lv' := [(5, .int (iI ((0 : Nat) : Int))), (4, .int (iI ((0 : Nat) : Int))), (3, .int (iI ((0 : Nat) : Int))), (2, .int (iI ((fr : Nat) : Int))), (0, .ref mo), (1, .int (iI ((x : Nat) : Int)))]) d_Mo_worth_44 (by decide) rfl ?_
  refine r_iconstN hX 0 d_Mo_worth_46 rfl ?_
  refine r_istore hX (lv' := [(6, .int (iI ((0 : Nat) : Int))), (5, .int (iI ((0 : Nat) : Int))), (4, .int (iI ((0 : Nat) : Int))), (3, .int (iI ((0 : Nat) : Int))), (2, .int (iI ((fr : Nat) : Int))), (0, .ref mo), (1, .int (iI ((x : Nat) : Int)))]) d_Mo_worth_47 (by decide) rfl ?_
  refine r_iconstN hX 1 d_Mo_worth_49 rfl ?_
  refine r_istore hX (lv' := [(7, .int (iI ((1 : Nat) : Int))), (6, .int (iI ((0 : Nat) : Int))), (5, .int (iI ((0 : Nat) : Int))), (4, .int (iI ((0 : Nat) : Int))), (3, .int (iI ((0 : Nat) : Int))), (2, .int (iI ((fr : Nat) : Int))), (0, .ref mo), (1, .int (iI ((x : Nat) : Int)))]) d_Mo_worth_50 (by decide) rfl ?_
  have L52 : ∀ (dd : Nat) (k : Nat) (gd : Bool) (sum : Int), dn - k = dd → (k ≤ dn) → (gd = true → (ra_qi d9 k ≤ Z 0 ∧ ra_qj d9 k ≤ Z 1) ∧ (k < dn → d9 k = 0 ∨ ¬ ra_bf d9 k = d9 k) ∧ (ra_qi d9 dn = Z 0 ∧ ra_qj d9 dn = Z 1 → sum = ra_cs (ra_mg Z L SC op mr x pt) d9 k)) → (¬ gd = true → ¬ (ra_qi d9 dn = Z 0 ∧ ra_qj d9 dn = Z 1)) → F 52 [(7, .int (iI (bI (gd = true)))), (6, .int (iI ((k : Nat) : Int))), (5, .int (iI sum)), (4, .int (iI ((ra_qj d9 k : Nat) : Int))), (3, .int (iI ((ra_qi d9 k : Nat) : Int))), (2, .int (iI ((fr : Nat) : Int))), (1, .int (iI ((x : Nat) : Int))), (0, .ref mo)] [] [(mo, .inr (10, [.int (iI 0), .ref ml, .ref mz, .ref ms, .int (iI op), .int (iI mr), .int (iI (bI (ld = true))), .int (iI (bI (pt = true))), .int (iI ((x : Nat) : Int)), .ref mt, .int (iI ((sn : Nat) : Int)), .ref mb, .ref me, .ref bt, .ref wy, .ref lq, .ref df, .int (iI ((dn : Nat) : Int))])), (ml, .inl (tI, 192, .inl (iA (iN L)))), (mz, .inl (tI, 2, .inl (iA (iN Z)))), (ms, .inl (tI, 676, .inl (iA SC))), (df, .inl (tI, 200, .inl (iA (iN d9))))] 0 0 := by
    intro dd
    induction dd using Nat.strongRecOn with
    | _ dd ih52 =>
      intro k gd sum hmu52 hk hg hng
      refine r_iload hX 1 d_Mo_worth_52 rfl ?_
      refine r_aload_n hX 7 d_Mo_worth_54 rfl ?_
      refine r_get hX cf_Mo 0 rfl 17 (by decide) fl_Mo_145 rfl d_Mo_worth_55 ?_
      refine r_icmp_ge hX 283 d_Mo_worth_58 (by decide) (by unfold iR; omega) (by unfold iR; omega) (fun h58 => ?_) (fun h58 => ?_)
      · have hqi8 := ra_qi_le d9 k
        have hqj8 := ra_qj_le d9 k
        refine r_aload_n hX 7 d_Mo_worth_283 rfl ?_
        refine r_iload_n hX 5 d_Mo_worth_284 rfl ?_
        refine r_put hX (ws' := [(mo, .inr (10, [.int (iI 0), .ref ml, .ref mz, .ref ms, .int (iI op), .int (iI mr), .int (iI (bI (ld = true))), .int (iI (bI (pt = true))), .int (iI ((fr : Nat) : Int)), .ref mt, .int (iI ((sn : Nat) : Int)), .ref mb, .ref me, .ref bt, .ref wy, .ref lq, .ref df, .int (iI ((dn : Nat) : Int))])), (ml, .inl (tI, 192, .inl (iA (iN L)))), (mz, .inl (tI, 2, .inl (iA (iN Z)))), (ms, .inl (tI, 676, .inl (iA SC))), (df, .inl (tI, 200, .inl (iA (iN d9))))]) cf_Mo 0 rfl 8 (by decide) fl_Mo_69 rfl rfl rfl (Nat.le_of_ble_eq_true rfl) rfl d_Mo_worth_285 ?_
        refine r_iload hX 0 d_Mo_worth_288 rfl ?_
        have J321 : F 321 [(7, .int (iI (bI (gd = true)))), (6, .int (iI ((k : Nat) : Int))), (5, .int (iI sum)), (4, .int (iI ((ra_qj d9 k : Nat) : Int))), (3, .int (iI ((ra_qi d9 k : Nat) : Int))), (2, .int (iI ((fr : Nat) : Int))), (1, .int (iI ((x : Nat) : Int))), (0, .ref mo)] [.int (iI (ra_wo (ra_mg Z L SC op mr x pt) d9 dn))] [(mo, .inr (10, [.int (iI 0), .ref ml, .ref mz, .ref ms, .int (iI op), .int (iI mr), .int (iI (bI (ld = true))), .int (iI (bI (pt = true))), .int (iI ((fr : Nat) : Int)), .ref mt, .int (iI ((sn : Nat) : Int)), .ref mb, .ref me, .ref bt, .ref wy, .ref lq, .ref df, .int (iI ((dn : Nat) : Int))])), (ml, .inl (tI, 192, .inl (iA (iN L)))), (mz, .inl (tI, 2, .inl (iA (iN Z)))), (ms, .inl (tI, 676, .inl (iA SC))), (df, .inl (tI, 200, .inl (iA (iN d9))))] 0 0 := by
          exact r_iret hX hT () rfl rfl (by decide) (by decide) d_Mo_worth_321
        refine rb_if_eq hX 319 d_Mo_worth_290 (by decide) (fun h290 => ?_) (fun h290 => ?_)
        · refine r_ldc hX (-1000000) ct_Mo_148 (by decide) d_Mo_worth_319 ?_
          exact rj_e (by first | exact ra_wo_end (show k = dn by omega) (hg h290).2.2 (by change ra_qi d9 k = Z 0; omega) (by change ra_qj d9 k = Z 1; omega) | exact ra_wo_no (hng h290) | exact ra_wo_no (fun q => h300 (by have e : k = dn := (by omega); rw [e]; exact congrArg _ q.1)) | exact ra_wo_no (fun q => h311 (by have e : k = dn := (by omega); rw [e]; exact congrArg _ q.2)) | exact absurd h290 h63) J321
        · refine r_iload_n hX 4 d_Mo_worth_293 rfl ?_
          refine r_aload_n hX 7 d_Mo_worth_294 rfl ?_
          refine r_get hX cf_Mo 0 rfl 2 (by decide) fl_Mo_13 rfl d_Mo_worth_295 ?_
          refine r_iconstN hX 0 d_Mo_worth_298 rfl ?_
          refine r_ialdN hX 2 0 rfl rfl (0) rfl (by omega) (by decide) d_Mo_worth_299 ?_
          refine r_icmp_ne hX 319 d_Mo_worth_300 (by decide) (by unfold iR; omega) (by unfold iR; omega) (fun h300 => ?_) (fun h300 => ?_)
          · refine r_ldc hX (-1000000) ct_Mo_148 (by decide) d_Mo_worth_319 ?_
            exact rj_e (by first | exact ra_wo_end (show k = dn by omega) (hg h290).2.2 (by change ra_qi d9 k = Z 0; omega) (by change ra_qj d9 k = Z 1; omega) | exact ra_wo_no (hng h290) | exact ra_wo_no (fun q => h300 (by have e : k = dn := (by omega); rw [e]; exact congrArg _ q.1)) | exact ra_wo_no (fun q => h311 (by have e : k = dn := (by omega); rw [e]; exact congrArg _ q.2)) | exact absurd h290 h63) J321
          · refine r_iload hX 3 d_Mo_worth_303 rfl ?_
            refine r_aload_n hX 7 d_Mo_worth_305 rfl ?_
            refine r_get hX cf_Mo 0 rfl 2 (by decide) fl_Mo_13 rfl d_Mo_worth_306 ?_
            refine r_iconstN hX 1 d_Mo_worth_309 rfl ?_
            refine r_ialdN hX 2 0 rfl rfl (1) rfl (by omega) (by decide) d_Mo_worth_310 ?_
            refine r_icmp_ne hX 319 d_Mo_worth_311 (by decide) (by unfold iR; omega) (by unfold iR; omega) (fun h311 => ?_) (fun h311 => ?_)
            · refine r_ldc hX (-1000000) ct_Mo_148 (by decide) d_Mo_worth_319 ?_
              exact rj_e (by first | exact ra_wo_end (show k = dn by omega) (hg h290).2.2 (by change ra_qi d9 k = Z 0; omega) (by change ra_qj d9 k = Z 1; omega) | exact ra_wo_no (hng h290) | exact ra_wo_no (fun q => h300 (by have e : k = dn := (by omega); rw [e]; exact congrArg _ q.1)) | exact ra_wo_no (fun q => h311 (by have e : k = dn := (by omega); rw [e]; exact congrArg _ q.2)) | exact absurd h290 h63) J321
            · refine r_iload hX 2 d_Mo_worth_314 rfl ?_
              refine r_goto hX 321 d_Mo_worth_316 (by decide) ?_
              exact rj_e (by first | exact ra_wo_end (show k = dn by omega) (hg h290).2.2 (by change ra_qi d9 k = Z 0; omega) (by change ra_qj d9 k = Z 1; omega) | exact ra_wo_no (hng h290) | exact ra_wo_no (fun q => h300 (by have e : k = dn := (by omega); rw [e]; exact congrArg _ q.1)) | exact ra_wo_no (fun q => h311 (by have e : k = dn := (by omega); rw [e]; exact congrArg _ q.2)) | exact absurd h290 h63) J321
      · refine r_iload hX 0 d_Mo_worth_61 rfl ?_
        refine rb_if_eq hX 283 d_Mo_worth_63 (by decide) (fun h63 => ?_) (fun h63 => ?_)
        · have hqi8 := ra_qi_le d9 k
          have hqj8 := ra_qj_le d9 k
          refine r_aload_n hX 7 d_Mo_worth_283 rfl ?_
          refine r_iload_n hX 5 d_Mo_worth_284 rfl ?_
          refine r_put hX (ws' := [(mo, .inr (10, [.int (iI 0), .ref ml, .ref mz, .ref ms, .int (iI op), .int (iI mr), .int (iI (bI (ld = true))), .int (iI (bI (pt = true))), .int (iI ((fr : Nat) : Int)), .ref mt, .int (iI ((sn : Nat) : Int)), .ref mb, .ref me, .ref bt, .ref wy, .ref lq, .ref df, .int (iI ((dn : Nat) : Int))])), (ml, .inl (tI, 192, .inl (iA (iN L)))), (mz, .inl (tI, 2, .inl (iA (iN Z)))), (ms, .inl (tI, 676, .inl (iA SC))), (df, .inl (tI, 200, .inl (iA (iN d9))))]) cf_Mo 0 rfl 8 (by decide) fl_Mo_69 rfl rfl rfl (Nat.le_of_ble_eq_true rfl) rfl d_Mo_worth_285 ?_
          refine r_iload hX 0 d_Mo_worth_288 rfl ?_
          have J321_2 : F 321 [(7, .int (iI (bI (gd = true)))), (6, .int (iI ((k : Nat) : Int))), (5, .int (iI sum)), (4, .int (iI ((ra_qj d9 k : Nat) : Int))), (3, .int (iI ((ra_qi d9 k : Nat) : Int))), (2, .int (iI ((fr : Nat) : Int))), (1, .int (iI ((x : Nat) : Int))), (0, .ref mo)] [.int (iI (ra_wo (ra_mg Z L SC op mr x pt) d9 dn))] [(mo, .inr (10, [.int (iI 0), .ref ml, .ref mz, .ref ms, .int (iI op), .int (iI mr), .int (iI (bI (ld = true))), .int (iI (bI (pt = true))), .int (iI ((fr : Nat) : Int)), .ref mt, .int (iI ((sn : Nat) : Int)), .ref mb, .ref me, .ref bt, .ref wy, .ref lq, .ref df, .int (iI ((dn : Nat) : Int))])), (ml, .inl (tI, 192, .inl (iA (iN L)))), (mz, .inl (tI, 2, .inl (iA (iN Z)))), (ms, .inl (tI, 676, .inl (iA SC))), (df, .inl (tI, 200, .inl (iA (iN d9))))] 0 0 := by
            exact r_iret hX hT () rfl rfl (by decide) (by decide) d_Mo_worth_321
          refine rb_if_eq hX 319 d_Mo_worth_290 (by decide) (fun h290 => ?_) (fun h290 => ?_)
          · refine r_ldc hX (-1000000) ct_Mo_148 (by decide) d_Mo_worth_319 ?_
            exact rj_e (by first | exact ra_wo_end (show k = dn by omega) (hg h290).2.2 (by change ra_qi d9 k = Z 0; omega) (by change ra_qj d9 k = Z 1; omega) | exact ra_wo_no (hng h290) | exact ra_wo_no (fun q => h300 (by have e : k = dn := (by omega); rw [e]; exact congrArg _ q.1)) | exact ra_wo_no (fun q => h311 (by have e : k = dn := (by omega); rw [e]; exact congrArg _ q.2)) | exact absurd h290 h63) J321_2
          · refine r_iload_n hX 4 d_Mo_worth_293 rfl ?_
            refine r_aload_n hX 7 d_Mo_worth_294 rfl ?_
            refine r_get hX cf_Mo 0 rfl 2 (by decide) fl_Mo_13 rfl d_Mo_worth_295 ?_
            refine r_iconstN hX 0 d_Mo_worth_298 rfl ?_
            refine r_ialdN hX 2 0 rfl rfl (0) rfl (by omega) (by decide) d_Mo_worth_299 ?_
            refine r_icmp_ne hX 319 d_Mo_worth_300 (by decide) (by unfold iR; omega) (by unfold iR; omega) (fun h300 => ?_) (fun h300 => ?_)
            · refine r_ldc hX (-1000000) ct_Mo_148 (by decide) d_Mo_worth_319 ?_
              exact rj_e (by first | exact ra_wo_end (show k = dn by omega) (hg h290).2.2 (by change ra_qi d9 k = Z 0; omega) (by change ra_qj d9 k = Z 1; omega) | exact ra_wo_no (hng h290) | exact ra_wo_no (fun q => h300 (by have e : k = dn := (by omega); rw [e]; exact congrArg _ q.1)) | exact ra_wo_no (fun q => h311 (by have e : k = dn := (by omega); rw [e]; exact congrArg _ q.2)) | exact absurd h290 h63) J321_2
            · refine r_iload hX 3 d_Mo_worth_303 rfl ?_
              refine r_aload_n hX 7 d_Mo_worth_305 rfl ?_
              refine r_get hX cf_Mo 0 rfl 2 (by decide) fl_Mo_13 rfl d_Mo_worth_306 ?_
              refine r_iconstN hX 1 d_Mo_worth_309 rfl ?_
              refine r_ialdN hX 2 0 rfl rfl (1) rfl (by omega) (by decide) d_Mo_worth_310 ?_
              refine r_icmp_ne hX 319 d_Mo_worth_311 (by decide) (by unfold iR; omega) (by unfold iR; omega) (fun h311 => ?_) (fun h311 => ?_)
              · refine r_ldc hX (-1000000) ct_Mo_148 (by decide) d_Mo_worth_319 ?_
                exact rj_e (by first | exact ra_wo_end (show k = dn by omega) (hg h290).2.2 (by change ra_qi d9 k = Z 0; omega) (by change ra_qj d9 k = Z 1; omega) | exact ra_wo_no (hng h290) | exact ra_wo_no (fun q => h300 (by have e : k = dn := (by omega); rw [e]; exact congrArg _ q.1)) | exact ra_wo_no (fun q => h311 (by have e : k = dn := (by omega); rw [e]; exact congrArg _ q.2)) | exact absurd h290 h63) J321_2
              · refine r_iload hX 2 d_Mo_worth_314 rfl ?_
                refine r_goto hX 321 d_Mo_worth_316 (by decide) ?_
                exact rj_e (by first | exact ra_wo_end (show k = dn by omega) (hg h290).2.2 (by change ra_qi d9 k = Z 0; omega) (by change ra_qj d9 k = Z 1; omega) | exact ra_wo_no (hng h290) | exact ra_wo_no (fun q => h300 (by have e : k = dn := (by omega); rw [e]; exact congrArg _ q.1)) | exact ra_wo_no (fun q => h311 (by have e : k = dn := (by omega); rw [e]; exact congrArg _ q.2)) | exact absurd h290 h63) J321_2
        · have hgg := hg h63
          have hgi := hgg.1.1
          have hgj := hgg.1.2
          have hsm := hgg.2.2
          have hrb := hgg.2.1 (by omega)
          have hdk := hd k
          clear hgg hg hng
          refine r_iconstN hX 1 d_Mo_worth_66 rfl ?_
          refine r_istore hX (lv' := [(8, .int (iI ((1 : Nat) : Int))), (7, .int (iI (bI (gd = true)))), (6, .int (iI ((k : Nat) : Int))), (5, .int (iI sum)), (4, .int (iI ((ra_qj d9 k : Nat) : Int))), (3, .int (iI ((ra_qi d9 k : Nat) : Int))), (2, .int (iI ((fr : Nat) : Int))), (1, .int (iI ((x : Nat) : Int))), (0, .ref mo)]) d_Mo_worth_67 (by decide) rfl ?_
          have L69 : ∀ (dd : Nat) (nn : Nat), dn - nn = dd → (1 ≤ nn) → (k + nn ≤ dn) → (d9 k = 0 → nn = 1) → (∀ t, t < nn → d9 (k + t) = d9 k) → F 69 [(8, .int (iI ((nn : Nat) : Int))), (7, .int (iI (bI (gd = true)))), (6, .int (iI ((k : Nat) : Int))), (5, .int (iI sum)), (4, .int (iI ((ra_qj d9 k : Nat) : Int))), (3, .int (iI ((ra_qi d9 k : Nat) : Int))), (2, .int (iI ((fr : Nat) : Int))), (1, .int (iI ((x : Nat) : Int))), (0, .ref mo)] [] [(mo, .inr (10, [.int (iI 0), .ref ml, .ref mz, .ref ms, .int (iI op), .int (iI mr), .int (iI (bI (ld = true))), .int (iI (bI (pt = true))), .int (iI ((x : Nat) : Int)), .ref mt, .int (iI ((sn : Nat) : Int)), .ref mb, .ref me, .ref bt, .ref wy, .ref lq, .ref df, .int (iI ((dn : Nat) : Int))])), (ml, .inl (tI, 192, .inl (iA (iN L)))), (mz, .inl (tI, 2, .inl (iA (iN Z)))), (ms, .inl (tI, 676, .inl (iA SC))), (df, .inl (tI, 200, .inl (iA (iN d9))))] 0 0 := by
            intro dd
            induction dd using Nat.strongRecOn with
            | _ dd ih69 =>
              intro nn hmu69 hnn hkn h0 hr
              have J117 : ∀ (uu : Unit), (d9 k = 0 ∨ k + nn = dn ∨ ¬ d9 (k + nn) = d9 k) → F 117 [(8, .int (iI ((nn : Nat) : Int))), (7, .int (iI (bI (gd = true)))), (6, .int (iI ((k : Nat) : Int))), (5, .int (iI sum)), (4, .int (iI ((ra_qj d9 k : Nat) : Int))), (3, .int (iI ((ra_qi d9 k : Nat) : Int))), (2, .int (iI ((fr : Nat) : Int))), (1, .int (iI ((x : Nat) : Int))), (0, .ref mo)] [] [(mo, .inr (10, [.int (iI 0), .ref ml, .ref mz, .ref ms, .int (iI op), .int (iI mr), .int (iI (bI (ld = true))), .int (iI (bI (pt = true))), .int (iI ((x : Nat) : Int)), .ref mt, .int (iI ((sn : Nat) : Int)), .ref mb, .ref me, .ref bt, .ref wy, .ref lq, .ref df, .int (iI ((dn : Nat) : Int))])), (ml, .inl (tI, 192, .inl (iA (iN L)))), (mz, .inl (tI, 2, .inl (iA (iN Z)))), (ms, .inl (tI, 676, .inl (iA SC))), (df, .inl (tI, 200, .inl (iA (iN d9))))] 0 0 := by
                intro uu hex
                have hqq := ra_qrun hd h0 hr
                have hde : (decide (d9 k = 1)) = true ↔ d9 k = 1 := decide_eq_true_iff
                have hm1q := ra_qi_mono d9 (k + nn) (dn - (k + nn))
                have hm2q := ra_qj_mono d9 (k + nn) (dn - (k + nn))
                rw [show k + nn + (dn - (k + nn)) = dn by omega] at hm1q hm2q
                have hqi9 : ra_qi d9 (k + nn) ≤ 400 := by have q := ra_qi_le d9 (k + nn); omega
                have hqj9 : ra_qj d9 (k + nn) ≤ 400 := by have q := ra_qj_le d9 (k + nn); omega
                refine r_aload_n hX 8 d_Mo_worth_117 rfl ?_
                refine r_get hX cf_Mo 0 rfl 16 (by decide) fl_Mo_45 rfl d_Mo_worth_118 ?_
                refine r_iload hX 2 d_Mo_worth_121 rfl ?_
                refine r_ialdN hX 4 0 rfl rfl (k) rfl (by omega) (by decide) d_Mo_worth_123 ?_
                refine r_iconstN hX 1 d_Mo_worth_124 rfl ?_
                have J133 : F 133 [(8, .int (iI ((nn : Nat) : Int))), (7, .int (iI (bI (gd = true)))), (6, .int (iI ((k : Nat) : Int))), (5, .int (iI sum)), (4, .int (iI ((ra_qj d9 k : Nat) : Int))), (3, .int (iI ((ra_qi d9 k : Nat) : Int))), (2, .int (iI ((fr : Nat) : Int))), (1, .int (iI ((x : Nat) : Int))), (0, .ref mo)] [.int (iI (bI (decide (d9 k = 1) = true)))] [(mo, .inr (10, [.int (iI 0), .ref ml, .ref mz, .ref ms, .int (iI op), .int (iI mr), .int (iI (bI (ld = true))), .int (iI (bI (pt = true))), .int (iI ((x : Nat) : Int)), .ref mt, .int (iI ((sn : Nat) : Int)), .ref mb, .ref me, .ref bt, .ref wy, .ref lq, .ref df, .int (iI ((dn : Nat) : Int))])), (ml, .inl (tI, 192, .inl (iA (iN L)))), (mz, .inl (tI, 2, .inl (iA (iN Z)))), (ms, .inl (tI, 676, .inl (iA SC))), (df, .inl (tI, 200, .inl (iA (iN d9))))] 0 0 := by
                  refine r_istore hX (lv' := [(9, .int (iI (bI (decide (d9 k = 1) = true)))), (8, .int (iI ((nn : Nat) : Int))), (7, .int (iI (bI (gd = true)))), (6, .int (iI ((k : Nat) : Int))), (5, .int (iI sum)), (4, .int (iI ((ra_qj d9 k : Nat) : Int))), (3, .int (iI ((ra_qi d9 k : Nat) : Int))), (2, .int (iI ((fr : Nat) : Int))), (1, .int (iI ((x : Nat) : Int))), (0, .ref mo)]) d_Mo_worth_133 (by decide) rfl ?_
                  refine r_aload_n hX 9 d_Mo_worth_135 rfl ?_
                  refine r_get hX cf_Mo 0 rfl 16 (by decide) fl_Mo_45 rfl d_Mo_worth_136 ?_
                  refine r_iload hX 3 d_Mo_worth_139 rfl ?_
                  refine r_ialdN hX 4 0 rfl rfl (k) rfl (by omega) (by decide) d_Mo_worth_141 ?_
                  refine r_iconstN hX 2 d_Mo_worth_142 rfl ?_
                  have J154 : F 154 [(9, .int (iI (bI (decide (d9 k = 1) = true)))), (8, .int (iI ((nn : Nat) : Int))), (7, .int (iI (bI (gd = true)))), (6, .int (iI ((k : Nat) : Int))), (5, .int (iI sum)), (4, .int (iI ((ra_qj d9 k : Nat) : Int))), (3, .int (iI ((ra_qi d9 k : Nat) : Int))), (2, .int (iI ((fr : Nat) : Int))), (1, .int (iI ((x : Nat) : Int))), (0, .ref mo)] [.int (iI ((ra_qi d9 (k + nn) : Nat) : Int))] [(mo, .inr (10, [.int (iI 0), .ref ml, .ref mz, .ref ms, .int (iI op), .int (iI mr), .int (iI (bI (ld = true))), .int (iI (bI (pt = true))), .int (iI ((x : Nat) : Int)), .ref mt, .int (iI ((sn : Nat) : Int)), .ref mb, .ref me, .ref bt, .ref wy, .ref lq, .ref df, .int (iI ((dn : Nat) : Int))])), (ml, .inl (tI, 192, .inl (iA (iN L)))), (mz, .inl (tI, 2, .inl (iA (iN Z)))), (ms, .inl (tI, 676, .inl (iA SC))), (df, .inl (tI, 200, .inl (iA (iN d9))))] 0 0 := by
                    refine r_aload_n hX 9 d_Mo_worth_154 rfl ?_
                    refine r_get hX cf_Mo 0 rfl 2 (by decide) fl_Mo_13 rfl d_Mo_worth_155 ?_
                    refine r_iconstN hX 0 d_Mo_worth_158 rfl ?_
                    refine r_ialdN hX 2 0 rfl rfl (0) rfl (by omega) (by decide) d_Mo_worth_159 ?_
                    have J192 : F 192 [(9, .int (iI (bI (decide (d9 k = 1) = true)))), (8, .int (iI ((nn : Nat) : Int))), (7, .int (iI (bI (gd = true)))), (6, .int (iI ((k : Nat) : Int))), (5, .int (iI sum)), (4, .int (iI ((ra_qj d9 k : Nat) : Int))), (3, .int (iI ((ra_qi d9 k : Nat) : Int))), (2, .int (iI ((fr : Nat) : Int))), (1, .int (iI ((x : Nat) : Int))), (0, .ref mo)] [.int (iI (bI (decide (ra_qi d9 (k + nn) ≤ Z 0 ∧ ra_qj d9 (k + nn) ≤ Z 1) = true)))] [(mo, .inr (10, [.int (iI 0), .ref ml, .ref mz, .ref ms, .int (iI op), .int (iI mr), .int (iI (bI (ld = true))), .int (iI (bI (pt = true))), .int (iI ((x : Nat) : Int)), .ref mt, .int (iI ((sn : Nat) : Int)), .ref mb, .ref me, .ref bt, .ref wy, .ref lq, .ref df, .int (iI ((dn : Nat) : Int))])), (ml, .inl (tI, 192, .inl (iA (iN L)))), (mz, .inl (tI, 2, .inl (iA (iN Z)))), (ms, .inl (tI, 676, .inl (iA SC))), (df, .inl (tI, 200, .inl (iA (iN d9))))] 0 0 := by
                      refine r_istore hX (lv' := [(7, .int (iI (bI (decide (ra_qi d9 (k + nn) ≤ Z 0 ∧ ra_qj d9 (k + nn) ≤ Z 1) = true)))), (9, .int (iI (bI (decide (d9 k = 1) = true)))), (8, .int (iI ((nn : Nat) : Int))), (6, .int (iI ((k : Nat) : Int))), (5, .int (iI sum)), (4, .int (iI ((ra_qj d9 k : Nat) : Int))), (3, .int (iI ((ra_qi d9 k : Nat) : Int))), (2, .int (iI ((fr : Nat) : Int))), (1, .int (iI ((x : Nat) : Int))), (0, .ref mo)]) d_Mo_worth_192 (by decide) rfl ?_
                      refine r_iload hX 0 d_Mo_worth_194 rfl ?_
                      have J236 : ∀ (s2 : Int), ((ra_qi d9 (k + nn) ≤ Z 0 ∧ ra_qj d9 (k + nn) ≤ Z 1) → ra_qi d9 dn = Z 0 ∧ ra_qj d9 dn = Z 1 → s2 = ra_cs (ra_mg Z L SC op mr x pt) d9 (k + nn)) → F 236 [(7, .int (iI (bI (decide (ra_qi d9 (k + nn) ≤ Z 0 ∧ ra_qj d9 (k + nn) ≤ Z 1) = true)))), (9, .int (iI (bI (decide (d9 k = 1) = true)))), (8, .int (iI ((nn : Nat) : Int))), (6, .int (iI ((k : Nat) : Int))), (5, .int (iI s2)), (4, .int (iI ((ra_qj d9 k : Nat) : Int))), (3, .int (iI ((ra_qi d9 k : Nat) : Int))), (2, .int (iI ((fr : Nat) : Int))), (1, .int (iI ((x : Nat) : Int))), (0, .ref mo)] [] [(mo, .inr (10, [.int (iI 0), .ref ml, .ref mz, .ref ms, .int (iI op), .int (iI mr), .int (iI (bI (ld = true))), .int (iI (bI (pt = true))), .int (iI ((x : Nat) : Int)), .ref mt, .int (iI ((sn : Nat) : Int)), .ref mb, .ref me, .ref bt, .ref wy, .ref lq, .ref df, .int (iI ((dn : Nat) : Int))])), (ml, .inl (tI, 192, .inl (iA (iN L)))), (mz, .inl (tI, 2, .inl (iA (iN Z)))), (ms, .inl (tI, 676, .inl (iA SC))), (df, .inl (tI, 200, .inl (iA (iN d9))))] 0 0 := by
                        intro s2 hs2
                        refine r_aload_n hX 9 d_Mo_worth_236 rfl ?_
                        refine r_get hX cf_Mo 0 rfl 16 (by decide) fl_Mo_45 rfl d_Mo_worth_237 ?_
                        refine r_iload hX 3 d_Mo_worth_240 rfl ?_
                        refine r_ialdN hX 4 0 rfl rfl (k) rfl (by omega) (by decide) d_Mo_worth_242 ?_
                        refine r_iconstN hX 2 d_Mo_worth_243 rfl ?_
                        have J255 : F 255 [(7, .int (iI (bI (decide (ra_qi d9 (k + nn) ≤ Z 0 ∧ ra_qj d9 (k + nn) ≤ Z 1) = true)))), (9, .int (iI (bI (decide (d9 k = 1) = true)))), (8, .int (iI ((nn : Nat) : Int))), (6, .int (iI ((k : Nat) : Int))), (5, .int (iI s2)), (4, .int (iI ((ra_qj d9 k : Nat) : Int))), (3, .int (iI ((ra_qi d9 k : Nat) : Int))), (2, .int (iI ((fr : Nat) : Int))), (1, .int (iI ((x : Nat) : Int))), (0, .ref mo)] [.int (iI ((ra_qi d9 (k + nn) : Nat) : Int))] [(mo, .inr (10, [.int (iI 0), .ref ml, .ref mz, .ref ms, .int (iI op), .int (iI mr), .int (iI (bI (ld = true))), .int (iI (bI (pt = true))), .int (iI ((x : Nat) : Int)), .ref mt, .int (iI ((sn : Nat) : Int)), .ref mb, .ref me, .ref bt, .ref wy, .ref lq, .ref df, .int (iI ((dn : Nat) : Int))])), (ml, .inl (tI, 192, .inl (iA (iN L)))), (mz, .inl (tI, 2, .inl (iA (iN Z)))), (ms, .inl (tI, 676, .inl (iA SC))), (df, .inl (tI, 200, .inl (iA (iN d9))))] 0 0 := by
                          refine r_istore_n hX (lv' := [(3, .int (iI ((ra_qi d9 (k + nn) : Nat) : Int))), (7, .int (iI (bI (decide (ra_qi d9 (k + nn) ≤ Z 0 ∧ ra_qj d9 (k + nn) ≤ Z 1) = true)))), (9, .int (iI (bI (decide (d9 k = 1) = true)))), (8, .int (iI ((nn : Nat) : Int))), (6, .int (iI ((k : Nat) : Int))), (5, .int (iI s2)), (4, .int (iI ((ra_qj d9 k : Nat) : Int))), (2, .int (iI ((fr : Nat) : Int))), (1, .int (iI ((x : Nat) : Int))), (0, .ref mo)]) d_Mo_worth_255 rfl (by decide) rfl ?_
                          refine r_iload hX 2 d_Mo_worth_256 rfl ?_
                          have J271 : F 271 [(3, .int (iI ((ra_qi d9 (k + nn) : Nat) : Int))), (7, .int (iI (bI (decide (ra_qi d9 (k + nn) ≤ Z 0 ∧ ra_qj d9 (k + nn) ≤ Z 1) = true)))), (9, .int (iI (bI (decide (d9 k = 1) = true)))), (8, .int (iI ((nn : Nat) : Int))), (6, .int (iI ((k : Nat) : Int))), (5, .int (iI s2)), (4, .int (iI ((ra_qj d9 k : Nat) : Int))), (2, .int (iI ((fr : Nat) : Int))), (1, .int (iI ((x : Nat) : Int))), (0, .ref mo)] [.int (iI ((ra_qj d9 (k + nn) : Nat) : Int))] [(mo, .inr (10, [.int (iI 0), .ref ml, .ref mz, .ref ms, .int (iI op), .int (iI mr), .int (iI (bI (ld = true))), .int (iI (bI (pt = true))), .int (iI ((x : Nat) : Int)), .ref mt, .int (iI ((sn : Nat) : Int)), .ref mb, .ref me, .ref bt, .ref wy, .ref lq, .ref df, .int (iI ((dn : Nat) : Int))])), (ml, .inl (tI, 192, .inl (iA (iN L)))), (mz, .inl (tI, 2, .inl (iA (iN Z)))), (ms, .inl (tI, 676, .inl (iA SC))), (df, .inl (tI, 200, .inl (iA (iN d9))))] 0 0 := by
                            refine r_istore hX (lv' := [(4, .int (iI ((ra_qj d9 (k + nn) : Nat) : Int))), (3, .int (iI ((ra_qi d9 (k + nn) : Nat) : Int))), (7, .int (iI (bI (decide (ra_qi d9 (k + nn) ≤ Z 0 ∧ ra_qj d9 (k + nn) ≤ Z 1) = true)))), (9, .int (iI (bI (decide (d9 k = 1) = true)))), (8, .int (iI ((nn : Nat) : Int))), (6, .int (iI ((k : Nat) : Int))), (5, .int (iI s2)), (2, .int (iI ((fr : Nat) : Int))), (1, .int (iI ((x : Nat) : Int))), (0, .ref mo)]) d_Mo_worth_271 (by decide) rfl ?_
                            refine r_iload hX 5 d_Mo_worth_273 rfl ?_
                            refine r_iload hX 4 d_Mo_worth_275 rfl ?_
                            refine r_iaddN hX d_Mo_worth_277 ?_
                            refine r_istore hX (lv' := [(6, .int (iI ((k + nn : Nat) : Int))), (4, .int (iI ((ra_qj d9 (k + nn) : Nat) : Int))), (3, .int (iI ((ra_qi d9 (k + nn) : Nat) : Int))), (7, .int (iI (bI (decide (ra_qi d9 (k + nn) ≤ Z 0 ∧ ra_qj d9 (k + nn) ≤ Z 1) = true)))), (9, .int (iI (bI (decide (d9 k = 1) = true)))), (8, .int (iI ((nn : Nat) : Int))), (5, .int (iI s2)), (2, .int (iI ((fr : Nat) : Int))), (1, .int (iI ((x : Nat) : Int))), (0, .ref mo)]) d_Mo_worth_278 (by decide) rfl ?_
                            refine r_goto hX 52 d_Mo_worth_280 (by decide) ?_
                            refine r_lv hX (lv' := [(7, .int (iI (bI (decide (ra_qi d9 (k + nn) ≤ Z 0 ∧ ra_qj d9 (k + nn) ≤ Z 1) = true)))), (6, .int (iI ((k + nn : Nat) : Int))), (5, .int (iI s2)), (4, .int (iI ((ra_qj d9 (k + nn) : Nat) : Int))), (3, .int (iI ((ra_qi d9 (k + nn) : Nat) : Int))), (2, .int (iI ((fr : Nat) : Int))), (1, .int (iI ((x : Nat) : Int))), (0, .ref mo)]) [3, 0, 6, 1, 2, 7, 8, 9] rfl ?_
                            refine r_eq (lv2 := [(7, .int (iI (bI ((decide (ra_qi d9 (k + nn) ≤ Z 0 ∧ ra_qj d9 (k + nn) ≤ Z 1)) = true)))), (6, .int (iI ((k + nn : Nat) : Int))), (5, .int (iI s2)), (4, .int (iI ((ra_qj d9 (k + nn) : Nat) : Int))), (3, .int (iI ((ra_qi d9 (k + nn) : Nat) : Int))), (2, .int (iI ((fr : Nat) : Int))), (1, .int (iI ((x : Nat) : Int))), (0, .ref mo)]) (st2 := []) (ws2 := [(mo, .inr (10, [.int (iI 0), .ref ml, .ref mz, .ref ms, .int (iI op), .int (iI mr), .int (iI (bI (ld = true))), .int (iI (bI (pt = true))), .int (iI ((x : Nat) : Int)), .ref mt, .int (iI ((sn : Nat) : Int)), .ref mb, .ref me, .ref bt, .ref wy, .ref lq, .ref df, .int (iI ((dn : Nat) : Int))])), (ml, .inl (tI, 192, .inl (iA (iN L)))), (mz, .inl (tI, 2, .inl (iA (iN Z)))), (ms, .inl (tI, 676, .inl (iA SC))), (df, .inl (tI, 200, .inl (iA (iN d9))))]) rfl rfl rfl ?_
                            exact ih52 _ (by omega) (k + nn) (decide (ra_qi d9 (k + nn) ≤ Z 0 ∧ ra_qj d9 (k + nn) ≤ Z 1)) s2 rfl (by omega) (fun q => have q9 := of_decide_eq_true q; ⟨q9, ra_bf_next hnn h0 hr hex, hs2 q9⟩) (fun q w => q (decide_eq_true ⟨by omega, by omega⟩))
                          refine rb_if_eq hX 266 d_Mo_worth_258 (by decide) (fun h258 => ?_) (fun h258 => ?_)
                          · refine r_iload hX 6 d_Mo_worth_266 rfl ?_
                            refine r_iload hX 3 d_Mo_worth_268 rfl ?_
                            refine r_iaddN hX d_Mo_worth_270 ?_
                            exact rj_e (by first | exact congrArg (fun z : Nat => (z : Int)) (hqq.2.2.1 (hde.1 (by assumption))).symm | exact congrArg (fun z : Nat => (z : Int)) (hqq.2.2.2 (fun q => (by assumption : ¬ (decide (d9 k = 1)) = true) (hde.2 q))).symm) J271
                          · refine r_iload hX 6 d_Mo_worth_261 rfl ?_
                            refine r_goto hX 271 d_Mo_worth_263 (by decide) ?_
                            exact rj_e (by first | exact congrArg (fun z : Nat => (z : Int)) (hqq.2.2.1 (hde.1 (by assumption))).symm | exact congrArg (fun z : Nat => (z : Int)) (hqq.2.2.2 (fun q => (by assumption : ¬ (decide (d9 k = 1)) = true) (hde.2 q))).symm) J271
                        refine r_icmp_ne hX 251 d_Mo_worth_244 (by decide) (by unfold iR; omega) (by unfold iR; omega) (fun h244 => ?_) (fun h244 => ?_)
                        · refine r_iload_n hX 6 d_Mo_worth_251 rfl ?_
                          refine r_iload hX 2 d_Mo_worth_252 rfl ?_
                          refine r_iaddN hX d_Mo_worth_254 ?_
                          exact rj_e (by first | exact congrArg (fun z : Nat => (z : Int)) (hqq.1 (by omega)).symm | exact congrArg (fun z : Nat => (z : Int)) (hqq.2.1 (by omega)).symm) J255
                        · refine r_iload_n hX 6 d_Mo_worth_247 rfl ?_
                          refine r_goto hX 255 d_Mo_worth_248 (by decide) ?_
                          exact rj_e (by first | exact congrArg (fun z : Nat => (z : Int)) (hqq.1 (by omega)).symm | exact congrArg (fun z : Nat => (z : Int)) (hqq.2.1 (by omega)).symm) J255
                      refine rb_if_eq hX 236 d_Mo_worth_196 (by decide) (fun h196 => ?_) (fun h196 => ?_)
                      · exact J236 sum (fun q _ => absurd (decide_eq_true q) h196)
                      · have hgd := of_decide_eq_true h196
                        have hgd1 := hgd.1
                        have hgd2 := hgd.2
                        refine r_iload hX 4 d_Mo_worth_199 rfl ?_
                        refine r_aload_n hX 9 d_Mo_worth_201 rfl ?_
                        refine r_get hX cf_Mo 0 rfl 16 (by decide) fl_Mo_45 rfl d_Mo_worth_202 ?_
                        refine r_iload hX 3 d_Mo_worth_205 rfl ?_
                        refine r_ialdN hX 4 0 rfl rfl (k) rfl (by omega) (by decide) d_Mo_worth_207 ?_
                        refine r_if_ne hX 221 d_Mo_worth_208 (by decide) (by unfold iR; omega) (fun h208 => ?_) (fun h208 => ?_)
                        · refine r_aload_n hX 9 d_Mo_worth_221 rfl ?_
                          refine r_iload hX 1 d_Mo_worth_222 rfl ?_
                          refine r_iload_n hX 6 d_Mo_worth_224 rfl ?_
                          refine r_iload hX 5 d_Mo_worth_225 rfl ?_
                          refine r_iload hX 2 d_Mo_worth_227 rfl ?_
                          refine r_invV_i0 (st := [.int (iI sum)]) (As := [.int (iI (bI (decide (d9 k = 1) = true))), .int (iI ((ra_qi d9 k : Nat) : Int)), .int (iI ((ra_qj d9 k : Nat) : Int)), .int (iI ((nn : Nat) : Int))]) (wr := [(ml, .inl (tI, 192, .inl (iA (iN L)))), (ms, .inl (tI, 676, .inl (iA SC))), (df, .inl (tI, 200, .inl (iA (iN d9))))]) hX (c_Mo_gap_b l D tI tJ tZ mo ml mz ms mt mb me bt wy lq df 0 op mr ld pt x sn dn Z L SC (ra_qi d9 k) (ra_qj d9 k) nn (decide (d9 k = 1)) (by omega) (by omega) (by omega) hza hzb hf) "RowAlignerModel" 0 10 cf_Mo rfl yn_Mo_gap ml_Mo_88 im_Mo_gap se_Mo_gap co_Mo_gap in_Mo (by decide) (by decide) (by decide) [0, 2] [1, 3, 4] rfl rfl rfl rfl rfl (by decide) rfl rfl (Nat.le_of_ble_eq_true rfl) d_Mo_worth_229 [3, 0, 4, 1, 2] rfl (w2 := fun _ => [(mo, .inr (10, [.int (iI 0), .ref ml, .ref mz, .ref ms, .int (iI op), .int (iI mr), .int (iI (bI (ld = true))), .int (iI (bI (pt = true))), .int (iI ((x : Nat) : Int)), .ref mt, .int (iI ((sn : Nat) : Int)), .ref mb, .ref me, .ref bt, .ref wy, .ref lq, .ref df, .int (iI ((dn : Nat) : Int))])), (ml, .inl (tI, 192, .inl (iA (iN L)))), (mz, .inl (tI, 2, .inl (iA (iN Z)))), (ms, .inl (tI, 676, .inl (iA SC))), (df, .inl (tI, 200, .inl (iA (iN d9))))]) (fun _ => rfl) (fun r229 _ e229 => ?_)
                          subst e229
                          refine r_ineg hX d_Mo_worth_232 ?_
                          refine r_iadd hX d_Mo_worth_233 ?_
                          refine r_istore hX (lv' := [(5, .int (iI ((sum) + (-(if (decide (d9 k = 1)) = true then ra_g1 (ra_mg Z L SC op mr x pt) (ra_qi d9 k) (ra_qj d9 k) nn else ra_g2 (ra_mg Z L SC op mr x pt) (ra_qi d9 k) (ra_qj d9 k) nn))))), (7, .int (iI (bI (decide (ra_qi d9 (k + nn) ≤ Z 0 ∧ ra_qj d9 (k + nn) ≤ Z 1) = true)))), (9, .int (iI (bI (decide (d9 k = 1) = true)))), (8, .int (iI ((nn : Nat) : Int))), (6, .int (iI ((k : Nat) : Int))), (4, .int (iI ((ra_qj d9 k : Nat) : Int))), (3, .int (iI ((ra_qi d9 k : Nat) : Int))), (2, .int (iI ((fr : Nat) : Int))), (1, .int (iI ((x : Nat) : Int))), (0, .ref mo)]) d_Mo_worth_234 (by decide) rfl ?_
                          refine r_lv hX (lv' := [(7, .int (iI (bI (decide (ra_qi d9 (k + nn) ≤ Z 0 ∧ ra_qj d9 (k + nn) ≤ Z 1) = true)))), (9, .int (iI (bI (decide (d9 k = 1) = true)))), (8, .int (iI ((nn : Nat) : Int))), (6, .int (iI ((k : Nat) : Int))), (5, .int (iI ((sum) + (-(if (decide (d9 k = 1)) = true then ra_g1 (ra_mg Z L SC op mr x pt) (ra_qi d9 k) (ra_qj d9 k) nn else ra_g2 (ra_mg Z L SC op mr x pt) (ra_qi d9 k) (ra_qj d9 k) nn))))), (4, .int (iI ((ra_qj d9 k : Nat) : Int))), (3, .int (iI ((ra_qi d9 k : Nat) : Int))), (2, .int (iI ((fr : Nat) : Int))), (1, .int (iI ((x : Nat) : Int))), (0, .ref mo)]) [1, 2, 3, 4, 0, 5, 6, 7, 8, 9] rfl ?_
                          exact J236 ((sum) + (-(if (decide (d9 k = 1)) = true then ra_g1 (ra_mg Z L SC op mr x pt) (ra_qi d9 k) (ra_qj d9 k) nn else ra_g2 (ra_mg Z L SC op mr x pt) (ra_qi d9 k) (ra_qj d9 k) nn))) (fun _ w => ra_wo_sg hd (by omega) w hnn hkn hrb hr hex (hsm w))
                        · have hn1 := h0 (by omega)
                          have hqx := hqq.2.1 (by omega)
                          have hqy := hqq.2.2.2 (by omega)
                          refine r_aload_n hX 9 d_Mo_worth_211 rfl ?_
                          refine r_iload_n hX 6 d_Mo_worth_212 rfl ?_
                          refine r_iload hX 5 d_Mo_worth_213 rfl ?_
                          refine r_invV_i0 (st := [.int (iI sum)]) (As := [.int (iI ((ra_qi d9 k : Nat) : Int)), .int (iI ((ra_qj d9 k : Nat) : Int))]) (wr := [(mz, .inl (tI, 2, .inl (iA (iN Z)))), (df, .inl (tI, 200, .inl (iA (iN d9))))]) hX (c_Mo_scoreAt l D tI tJ tZ mo ml mz ms mt mb me bt wy lq df 0 op mr ld pt x sn dn L SC (ra_qi d9 k) (ra_qj d9 k) hL (by omega) (by omega)) "RowAlignerModel" 0 10 cf_Mo rfl yn_Mo_scoreAt ml_Mo_80 im_Mo_scoreAt se_Mo_scoreAt co_Mo_scoreAt in_Mo (by decide) (by decide) (by decide) [0, 1, 3] [2, 4] rfl rfl rfl rfl rfl (by decide) rfl rfl (Nat.le_of_ble_eq_true rfl) d_Mo_worth_215 [2, 3, 0, 4, 1] rfl (w2 := fun _ => [(mo, .inr (10, [.int (iI 0), .ref ml, .ref mz, .ref ms, .int (iI op), .int (iI mr), .int (iI (bI (ld = true))), .int (iI (bI (pt = true))), .int (iI ((x : Nat) : Int)), .ref mt, .int (iI ((sn : Nat) : Int)), .ref mb, .ref me, .ref bt, .ref wy, .ref lq, .ref df, .int (iI ((dn : Nat) : Int))])), (ml, .inl (tI, 192, .inl (iA (iN L)))), (mz, .inl (tI, 2, .inl (iA (iN Z)))), (ms, .inl (tI, 676, .inl (iA SC))), (df, .inl (tI, 200, .inl (iA (iN d9))))]) (fun _ => rfl) (fun r215 _ e215 => ?_)
                          subst e215
                          refine r_goto hX 233 d_Mo_worth_218 (by decide) ?_
                          refine r_iadd hX d_Mo_worth_233 ?_
                          refine r_istore hX (lv' := [(5, .int (iI ((sum) + (SC (L (ra_qi d9 k) * 26 + L (96 + (ra_qj d9 k))))))), (7, .int (iI (bI (decide (ra_qi d9 (k + nn) ≤ Z 0 ∧ ra_qj d9 (k + nn) ≤ Z 1) = true)))), (9, .int (iI (bI (decide (d9 k = 1) = true)))), (8, .int (iI ((nn : Nat) : Int))), (6, .int (iI ((k : Nat) : Int))), (4, .int (iI ((ra_qj d9 k : Nat) : Int))), (3, .int (iI ((ra_qi d9 k : Nat) : Int))), (2, .int (iI ((fr : Nat) : Int))), (1, .int (iI ((x : Nat) : Int))), (0, .ref mo)]) d_Mo_worth_234 (by decide) rfl ?_
                          refine r_lv hX (lv' := [(7, .int (iI (bI (decide (ra_qi d9 (k + nn) ≤ Z 0 ∧ ra_qj d9 (k + nn) ≤ Z 1) = true)))), (9, .int (iI (bI (decide (d9 k = 1) = true)))), (8, .int (iI ((nn : Nat) : Int))), (6, .int (iI ((k : Nat) : Int))), (5, .int (iI ((sum) + (SC (L (ra_qi d9 k) * 26 + L (96 + (ra_qj d9 k))))))), (4, .int (iI ((ra_qj d9 k : Nat) : Int))), (3, .int (iI ((ra_qi d9 k : Nat) : Int))), (2, .int (iI ((fr : Nat) : Int))), (1, .int (iI ((x : Nat) : Int))), (0, .ref mo)]) [1, 2, 3, 4, 0, 5, 6, 7, 8, 9] rfl ?_
                          exact J236 ((sum) + (SC (L (ra_qi d9 k) * 26 + L (96 + (ra_qj d9 k))))) (fun _ w => ra_wo_s0 (by omega) hn1 (hsm w))
                    refine r_icmp_gt hX 191 d_Mo_worth_160 (by decide) (by unfold iR; omega) (by unfold iR; omega) (fun h160 => ?_) (fun h160 => ?_)
                    · refine r_iconstN hX 0 d_Mo_worth_191 rfl ?_
                      exact rj_0 (by first | exact decide_eq_true ⟨by omega, by omega⟩ | (intro q; have q9 := of_decide_eq_true q; omega)) J192
                    · refine r_iload hX 0 d_Mo_worth_163 rfl ?_
                      have J178 : F 178 [(9, .int (iI (bI (decide (d9 k = 1) = true)))), (8, .int (iI ((nn : Nat) : Int))), (7, .int (iI (bI (gd = true)))), (6, .int (iI ((k : Nat) : Int))), (5, .int (iI sum)), (4, .int (iI ((ra_qj d9 k : Nat) : Int))), (3, .int (iI ((ra_qi d9 k : Nat) : Int))), (2, .int (iI ((fr : Nat) : Int))), (1, .int (iI ((x : Nat) : Int))), (0, .ref mo)] [.int (iI ((ra_qj d9 (k + nn) : Nat) : Int))] [(mo, .inr (10, [.int (iI 0), .ref ml, .ref mz, .ref ms, .int (iI op), .int (iI mr), .int (iI (bI (ld = true))), .int (iI (bI (pt = true))), .int (iI ((x : Nat) : Int)), .ref mt, .int (iI ((sn : Nat) : Int)), .ref mb, .ref me, .ref bt, .ref wy, .ref lq, .ref df, .int (iI ((dn : Nat) : Int))])), (ml, .inl (tI, 192, .inl (iA (iN L)))), (mz, .inl (tI, 2, .inl (iA (iN Z)))), (ms, .inl (tI, 676, .inl (iA SC))), (df, .inl (tI, 200, .inl (iA (iN d9))))] 0 0 := by
                        refine r_aload_n hX 9 d_Mo_worth_178 rfl ?_
                        refine r_get hX cf_Mo 0 rfl 2 (by decide) fl_Mo_13 rfl d_Mo_worth_179 ?_
                        refine r_iconstN hX 1 d_Mo_worth_182 rfl ?_
                        refine r_ialdN hX 2 0 rfl rfl (1) rfl (by omega) (by decide) d_Mo_worth_183 ?_
                        refine r_icmp_gt hX 191 d_Mo_worth_184 (by decide) (by unfold iR; omega) (by unfold iR; omega) (fun h184 => ?_) (fun h184 => ?_)
                        · refine r_iconstN hX 0 d_Mo_worth_191 rfl ?_
                          exact rj_0 (by first | exact decide_eq_true ⟨by omega, by omega⟩ | (intro q; have q9 := of_decide_eq_true q; omega)) J192
                        · refine r_iconstN hX 1 d_Mo_worth_187 rfl ?_
                          refine r_goto hX 192 d_Mo_worth_188 (by decide) ?_
                          exact rj_1 (by first | exact decide_eq_true ⟨by omega, by omega⟩ | (intro q; have q9 := of_decide_eq_true q; omega)) J192
                      refine rb_if_eq hX 173 d_Mo_worth_165 (by decide) (fun h165 => ?_) (fun h165 => ?_)
                      · refine r_iload hX 5 d_Mo_worth_173 rfl ?_
                        refine r_iload hX 1 d_Mo_worth_175 rfl ?_
                        refine r_iaddN hX d_Mo_worth_177 ?_
                        exact rj_e (by first | exact congrArg (fun z : Nat => (z : Int)) (hqq.2.2.1 (hde.1 (by assumption))).symm | exact congrArg (fun z : Nat => (z : Int)) (hqq.2.2.2 (fun q => (by assumption : ¬ (decide (d9 k = 1)) = true) (hde.2 q))).symm) J178
                      · refine r_iload hX 5 d_Mo_worth_168 rfl ?_
                        refine r_goto hX 178 d_Mo_worth_170 (by decide) ?_
                        exact rj_e (by first | exact congrArg (fun z : Nat => (z : Int)) (hqq.2.2.1 (hde.1 (by assumption))).symm | exact congrArg (fun z : Nat => (z : Int)) (hqq.2.2.2 (fun q => (by assumption : ¬ (decide (d9 k = 1)) = true) (hde.2 q))).symm) J178
                  refine r_icmp_ne hX 150 d_Mo_worth_143 (by decide) (by unfold iR; omega) (by unfold iR; omega) (fun h143 => ?_) (fun h143 => ?_)
                  · refine r_iload_n hX 6 d_Mo_worth_150 rfl ?_
                    refine r_iload hX 1 d_Mo_worth_151 rfl ?_
                    refine r_iaddN hX d_Mo_worth_153 ?_
                    exact rj_e (by first | exact congrArg (fun z : Nat => (z : Int)) (hqq.1 (by omega)).symm | exact congrArg (fun z : Nat => (z : Int)) (hqq.2.1 (by omega)).symm) J154
                  · refine r_iload_n hX 6 d_Mo_worth_146 rfl ?_
                    refine r_goto hX 154 d_Mo_worth_147 (by decide) ?_
                    exact rj_e (by first | exact congrArg (fun z : Nat => (z : Int)) (hqq.1 (by omega)).symm | exact congrArg (fun z : Nat => (z : Int)) (hqq.2.1 (by omega)).symm) J154
                refine r_icmp_ne hX 132 d_Mo_worth_125 (by decide) (by unfold iR; omega) (by unfold iR; omega) (fun h125 => ?_) (fun h125 => ?_)
                · refine r_iconstN hX 0 d_Mo_worth_132 rfl ?_
                  exact rj_0 (by first | exact decide_eq_true (by omega) | (intro q; have := of_decide_eq_true q; omega)) J133
                · refine r_iconstN hX 1 d_Mo_worth_128 rfl ?_
                  refine r_goto hX 133 d_Mo_worth_129 (by decide) ?_
                  exact rj_1 (by first | exact decide_eq_true (by omega) | (intro q; have := of_decide_eq_true q; omega)) J133
              refine r_aload_n hX 8 d_Mo_worth_69 rfl ?_
              refine r_get hX cf_Mo 0 rfl 16 (by decide) fl_Mo_45 rfl d_Mo_worth_70 ?_
              refine r_iload hX 2 d_Mo_worth_73 rfl ?_
              refine r_ialdN hX 4 0 rfl rfl (k) rfl (by omega) (by decide) d_Mo_worth_75 ?_
              refine r_if_eq hX 117 d_Mo_worth_76 (by decide) (by unfold iR; omega) (fun h76 => ?_) (fun h76 => ?_)
              · exact J117 (()) (by omega)
              · refine r_iload hX 2 d_Mo_worth_79 rfl ?_
                refine r_iload hX 0 d_Mo_worth_81 rfl ?_
                refine r_iaddN hX d_Mo_worth_83 ?_
                refine r_aload_n hX 8 d_Mo_worth_84 rfl ?_
                refine r_get hX cf_Mo 0 rfl 17 (by decide) fl_Mo_145 rfl d_Mo_worth_85 ?_
                refine r_icmp_ge hX 117 d_Mo_worth_88 (by decide) (by unfold iR; omega) (by unfold iR; omega) (fun h88 => ?_) (fun h88 => ?_)
                · exact J117 (()) (by omega)
                · have hdk2 := hd (k + nn)
                  refine r_aload_n hX 8 d_Mo_worth_91 rfl ?_
                  refine r_get hX cf_Mo 0 rfl 16 (by decide) fl_Mo_45 rfl d_Mo_worth_92 ?_
                  refine r_iload hX 2 d_Mo_worth_95 rfl ?_
                  refine r_iload hX 0 d_Mo_worth_97 rfl ?_
                  refine r_iaddN hX d_Mo_worth_99 ?_
                  refine r_ialdN hX 4 0 rfl rfl (k + nn) rfl (by omega) (by decide) d_Mo_worth_100 ?_
                  refine r_aload_n hX 8 d_Mo_worth_101 rfl ?_
                  refine r_get hX cf_Mo 0 rfl 16 (by decide) fl_Mo_45 rfl d_Mo_worth_102 ?_
                  refine r_iload hX 2 d_Mo_worth_105 rfl ?_
                  refine r_ialdN hX 4 0 rfl rfl (k) rfl (by omega) (by decide) d_Mo_worth_107 ?_
                  refine r_icmp_ne hX 117 d_Mo_worth_108 (by decide) (by unfold iR; omega) (by unfold iR; omega) (fun h108 => ?_) (fun h108 => ?_)
                  · exact J117 (()) (by omega)
                  · refine r_iincN hX (lv' := [(8, .int (iI ((nn + 1 : Nat) : Int))), (7, .int (iI (bI (gd = true)))), (6, .int (iI ((k : Nat) : Int))), (5, .int (iI sum)), (4, .int (iI ((ra_qj d9 k : Nat) : Int))), (3, .int (iI ((ra_qi d9 k : Nat) : Int))), (2, .int (iI ((fr : Nat) : Int))), (1, .int (iI ((x : Nat) : Int))), (0, .ref mo)]) 0 d_Mo_worth_111 rfl (by decide) rfl ?_
                    refine r_goto hX 69 d_Mo_worth_114 (by decide) ?_
                    exact ih69 _ (by omega) (nn + 1) rfl (by omega) (by omega) (fun q => absurd q (by omega)) (fun t ht => by by_cases c : t = nn; (rw [c]; omega); exact hr t (by omega))
          exact L69 _ 1 rfl (by omega) (by omega) (fun _ => rfl) (fun t ht => by rw [show t = 0 by omega]; rfl)
  refine r_lv hX (lv' := [(7, .int (iI ((1 : Nat) : Int))), (6, .int (iI ((0 : Nat) : Int))), (5, .int (iI ((0 : Nat) : Int))), (4, .int (iI ((0 : Nat) : Int))), (3, .int (iI ((0 : Nat) : Int))), (2, .int (iI ((fr : Nat) : Int))), (1, .int (iI ((x : Nat) : Int))), (0, .ref mo)]) [0, 1, 2, 3, 4, 5, 7, 6] rfl ?_
  refine r_eq (lv2 := [(7, .int (iI (bI (true = true)))), (6, .int (iI ((0 : Nat) : Int))), (5, .int (iI 0)), (4, .int (iI ((ra_qj d9 0 : Nat) : Int))), (3, .int (iI ((ra_qi d9 0 : Nat) : Int))), (2, .int (iI ((fr : Nat) : Int))), (1, .int (iI ((x : Nat) : Int))), (0, .ref mo)]) (st2 := []) (ws2 := [(mo, .inr (10, [.int (iI 0), .ref ml, .ref mz, .ref ms, .int (iI op), .int (iI mr), .int (iI (bI (ld = true))), .int (iI (bI (pt = true))), .int (iI ((x : Nat) : Int)), .ref mt, .int (iI ((sn : Nat) : Int)), .ref mb, .ref me, .ref bt, .ref wy, .ref lq, .ref df, .int (iI ((dn : Nat) : Int))])), (ml, .inl (tI, 192, .inl (iA (iN L)))), (mz, .inl (tI, 2, .inl (iA (iN Z)))), (ms, .inl (tI, 676, .inl (iA SC))), (df, .inl (tI, 200, .inl (iA (iN d9))))]) rfl rfl rfl ?_
  exact L52 _ 0 true 0 rfl (by omega) (fun _ => ⟨⟨Nat.zero_le _, Nat.zero_le _⟩, fun _ => by have := hd 0; by_cases c : d9 0 = 0; exact Or.inl c; exact Or.inr (fun q => c q.symm), fun _ => rfl⟩) (fun q => absurd rfl q)
