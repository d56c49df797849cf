abbrev rm_Mo_lead : Room := { frames := 1, cells := 0, slots := 0, locals := 22 }
set_option maxHeartbeats 4000000 in
set_option maxRecDepth 100000 in
theorem c_Mo_lead (l : Launch) (D : va_G) (tI tJ tZ : ClassId) (mo : Nat) (ml : Nat) (mz : Nat) (ms : Nat) (mt : Nat) (mb : Nat) (me : Nat) (bt : Nat) (wy : Nat) (lq : Nat) (df : Nat) (cd : Int) (op : Int) (mr : Int) (ld : Bool) (pt : Bool) (fr : Nat) (sn : Nat) (dn : Nat) (Y : Nat → Int) (i : Nat) (j : Nat) (bb : Nat) (w : Int) (hw : iR w) (hv : iR (Y ((97 * i + j) * 3 + bb))) (hx : ((97 * i + j) * 3 + bb) < 28227) : rCv l y_Mo_lead prog_12_method_37_code 6 rm_Mo_lead D (tysA tI tJ tZ) [.ref mo, .int (iI ((i : Nat) : Int)), .int (iI ((j : Nat) : Int)), .int (iI ((bb : Nat) : Int)), .int (iI w)] [(mo, .inr (10, [.int (iI cd), .ref ml, .ref mz, .ref ms, .int (iI op), .int (iI mr), .int (iI (bI (ld = true))), .int (iI (bI (pt = true))), .int (iI ((fr : Nat) : Int)), .ref mt, .int (iI ((sn : Nat) : Int)), .ref mb, .ref me, .ref bt, .ref wy, .ref lq, .ref df, .int (iI ((dn : Nat) : Int))])), (lq, .inl (tI, 28227, .inl (iA Y)))] (fun (_ : Unit) => True) (fun (_ : Unit) => [(mo, .inr (10, [.int (iI cd), .ref ml, .ref mz, .ref ms, .int (iI op), .int (iI mr), .int (iI (bI (ld = true))), .int (iI (bI (pt = true))), .int (iI ((fr : Nat) : Int)), .ref mt, .int (iI ((sn : Nat) : Int)), .ref mb, .ref me, .ref bt, .ref wy, .ref lq, .ref df, .int (iI ((dn : Nat) : Int))])), (lq, .inl (tI, 28227, .inl (iA (iU Y ((97 * i + j) * 3 + bb) (if Y ((97 * i + j) * 3 + bb) < w then w else Y ((97 * i + j) * 3 + bb))))))]) := by
  intro sz
  refine r_met (by decide) (Nat.le_of_ble_eq_true rfl) ?_
  intro F p e s m args below meth c Q A hX hT hAe hsz hin
  subst hAe
  replace hX : rOK F p l e rm_Mo_lead s m args below meth c Q prog_12_method_37_code 6 "RowAlignerModel" D (tysA tI tJ tZ) _ := hX
  unfold iR at hw hv
  show F 0 [(0, .ref mo), (1, .int (iI ((i : Nat) : Int))), (2, .int (iI ((j : Nat) : Int))), (3, .int (iI ((bb : Nat) : Int))), (4, .int (iI w))] [] [(mo, .inr (10, [.int (iI cd), .ref ml, .ref mz, .ref ms, .int (iI op), .int (iI mr), .int (iI (bI (ld = true))), .int (iI (bI (pt = true))), .int (iI ((fr : Nat) : Int)), .ref mt, .int (iI ((sn : Nat) : Int)), .ref mb, .ref me, .ref bt, .ref wy, .ref lq, .ref df, .int (iI ((dn : Nat) : Int))])), (lq, .inl (tI, 28227, .inl (iA Y)))] 0 0
  refine r_iload_n hX 1 d_Mo_lead_0 rfl ?_
  refine r_iload_n hX 2 d_Mo_lead_1 rfl ?_
  refine r_iload_n hX 3 d_Mo_lead_2 rfl ?_
  refine r_invS_i0 (st := []) (As := [.int (iI ((i : Nat) : Int)), .int (iI ((j : Nat) : Int)), .int (iI ((bb : Nat) : Int))]) (wr := [(mo, .inr (10, [.int (iI cd), .ref ml, .ref mz, .ref ms, .int (iI op), .int (iI mr), .int (iI (bI (ld = true))), .int (iI (bI (pt = true))), .int (iI ((fr : Nat) : Int)), .ref mt, .int (iI ((sn : Nat) : Int)), .ref mb, .ref me, .ref bt, .ref wy, .ref lq, .ref df, .int (iI ((dn : Nat) : Int))])), (lq, .inl (tI, 28227, .inl (iA Y)))]) hX (c_Mo_at l D tI tJ tZ i j bb) yn_Mo_at ml_Mo_72 st_Mo_at co_Mo_at in_Mo (by decide) (by decide) (by decide) [] [0, 1] rfl rfl rfl rfl rfl (by decide) rfl rfl (Nat.le_of_ble_eq_true rfl) d_Mo_lead_3 [0, 1] rfl (w2 := fun _ => [(mo, .inr (10, [.int (iI cd), .ref ml, .ref mz, .ref ms, .int (iI op), .int (iI mr), .int (iI (bI (ld = true))), .int (iI (bI (pt = true))), .int (iI ((fr : Nat) : Int)), .ref mt, .int (iI ((sn : Nat) : Int)), .ref mb, .ref me, .ref bt, .ref wy, .ref lq, .ref df, .int (iI ((dn : Nat) : Int))])), (lq, .inl (tI, 28227, .inl (iA Y)))]) (fun _ => rfl) (fun r3 _ e3 => ?_)
  subst e3
  refine r_istore hX (lv' := [(5, .int (iI (((97 * i + j) * 3 + bb : Nat) : Int))), (0, .ref mo), (1, .int (iI ((i : Nat) : Int))), (2, .int (iI ((j : Nat) : Int))), (3, .int (iI ((bb : Nat) : Int))), (4, .int (iI w))]) d_Mo_lead_6 (by decide) rfl ?_
  refine r_aload_n hX 1 d_Mo_lead_8 rfl ?_
  refine r_get hX cf_Mo 0 rfl 15 (by decide) fl_Mo_42 rfl d_Mo_lead_9 ?_
  refine r_iload hX 0 d_Mo_lead_12 rfl ?_
  refine r_iload hX 5 d_Mo_lead_14 rfl ?_
  refine r_aload_n hX 1 d_Mo_lead_16 rfl ?_
  refine r_get hX cf_Mo 0 rfl 15 (by decide) fl_Mo_42 rfl d_Mo_lead_17 ?_
  refine r_iload hX 0 d_Mo_lead_20 rfl ?_
  refine r_iald hX 1 0 rfl rfl ((97 * i + j) * 3 + bb) rfl (by omega) (by decide) d_Mo_lead_22 ?_
  have J38 : F 38 [(5, .int (iI (((97 * i + j) * 3 + bb : Nat) : Int))), (0, .ref mo), (1, .int (iI ((i : Nat) : Int))), (2, .int (iI ((j : Nat) : Int))), (3, .int (iI ((bb : Nat) : Int))), (4, .int (iI w))] [.int (iI (if Y ((97 * i + j) * 3 + bb) < w then w else Y ((97 * i + j) * 3 + bb))), .int (iI (((97 * i + j) * 3 + bb : Nat) : Int)), .ref lq] [(mo, .inr (10, [.int (iI cd), .ref ml, .ref mz, .ref ms, .int (iI op), .int (iI mr), .int (iI (bI (ld = true))), .int (iI (bI (pt = true))), .int (iI ((fr : Nat) : Int)), .ref mt, .int (iI ((sn : Nat) : Int)), .ref mb, .ref me, .ref bt, .ref wy, .ref lq, .ref df, .int (iI ((dn : Nat) : Int))])), (lq, .inl (tI, 28227, .inl (iA Y)))] 0 0 := by
    refine r_iast hX (ws' := [(mo, .inr (10, [.int (iI cd), .ref ml, .ref mz, .ref ms, .int (iI op), .int (iI mr), .int (iI (bI (ld = true))), .int (iI (bI (pt = true))), .int (iI ((fr : Nat) : Int)), .ref mt, .int (iI ((sn : Nat) : Int)), .ref mb, .ref me, .ref bt, .ref wy, .ref lq, .ref df, .int (iI ((dn : Nat) : Int))])), (lq, .inl (tI, 28227, .inl (iA (iU Y ((97 * i + j) * 3 + bb) ((if Y ((97 * i + j) * 3 + bb) < w then w else Y ((97 * i + j) * 3 + bb)))))))]) 1 0 rfl rfl ((97 * i + j) * 3 + bb) rfl (by omega) (by decide) rfl d_Mo_lead_38 ?_
    exact r_vret hX hT () trivial rfl (by decide) (by decide) d_Mo_lead_39
  refine r_icmp_le hX 31 d_Mo_lead_23 (by decide) (by unfold iR; omega) (by unfold iR; omega) (fun h23 => ?_) (fun h23 => ?_)
  · refine r_aload_n hX 1 d_Mo_lead_31 rfl ?_
    refine r_get hX cf_Mo 0 rfl 15 (by decide) fl_Mo_42 rfl d_Mo_lead_32 ?_
    refine r_iload hX 0 d_Mo_lead_35 rfl ?_
    refine r_iald hX 1 0 rfl rfl ((97 * i + j) * 3 + bb) rfl (by omega) (by decide) d_Mo_lead_37 ?_
    exact rj_e (by first | rw [if_pos (by omega)] | rw [if_neg (by omega)]) J38
  · refine r_iload hX 5 d_Mo_lead_26 rfl ?_
    refine r_goto hX 38 d_Mo_lead_28 (by decide) ?_
    exact rj_e (by first | rw [if_pos (by omega)] | rw [if_neg (by omega)]) J38

abbrev rm_Mo_leadFrom : Room := { frames := 2, cells := 0, slots := 0, locals := 47 }
set_option maxHeartbeats 4000000 in
set_option maxRecDepth 100000 in
theorem c_Mo_leadFrom (l : Launch) (D : va_G) (tI tJ tZ : ClassId) (mo : Nat) (ml : Nat) (mz : Nat) (ms : Nat) (mt : Nat) (mb : Nat) (me : Nat) (bt : Nat) (wy : Nat) (lq : Nat) (df : Nat) (cd : Int) (op : Int) (mr : Int) (ld : Bool) (pt : Bool) (fr : Nat) (sn : Nat) (dn : Nat) (L : Nat → Nat) (Z : Nat → Nat) (SC : Nat → Int) (Y : Nat → Int) (i : Nat) (j : Nat) (bf : Nat) (hM : raM Z L SC op mr fr) (hi : i ≤ Z 0) (hj : j ≤ Z 1) (hbf : bf < 3) (hYb : ∀ t, -100000000 ≤ Y t ∧ Y t ≤ 400000) : rCv l y_Mo_leadFrom prog_12_method_38_code 6 rm_Mo_leadFrom D (tysA tI tJ tZ) [.ref mo, .int (iI ((i : Nat) : Int)), .int (iI ((j : Nat) : Int)), .int (iI ((bf : Nat) : Int))] [(mo, .inr (10, [.int (iI cd), .ref ml, .ref mz, .ref ms, .int (iI op), .int (iI mr), .int (iI (bI (ld = true))), .int (iI (bI (pt = true))), .int (iI ((fr : Nat) : Int)), .ref mt, .int (iI ((sn : Nat) : Int)), .ref mb, .ref me, .ref bt, .ref wy, .ref lq, .ref df, .int (iI ((dn : Nat) : Int))])), (ml, .inl (tI, 192, .inl (iA (iN L)))), (mz, .inl (tI, 2, .inl (iA (iN Z)))), (ms, .inl (tI, 676, .inl (iA SC))), (lq, .inl (tI, 28227, .inl (iA Y)))] (fun u => (Y ((97 * i + j) * 3 + bf) = -100000000 → u = Y) ∧ (¬ Y ((97 * i + j) * 3 + bf) = -100000000 → ra_LR (ra_mg Z L SC op mr fr pt) Y u i j bf (fun _ _ => True))) (fun (u : Nat → Int) => [(mo, .inr (10, [.int (iI cd), .ref ml, .ref mz, .ref ms, .int (iI op), .int (iI mr), .int (iI (bI (ld = true))), .int (iI (bI (pt = true))), .int (iI ((fr : Nat) : Int)), .ref mt, .int (iI ((sn : Nat) : Int)), .ref mb, .ref me, .ref bt, .ref wy, .ref lq, .ref df, .int (iI ((dn : Nat) : Int))])), (ml, .inl (tI, 192, .inl (iA (iN L)))), (mz, .inl (tI, 2, .inl (iA (iN Z)))), (ms, .inl (tI, 676, .inl (iA SC))), (lq, .inl (tI, 28227, .inl (iA u)))]) := by
  intro sz
  refine r_met (by decide) (Nat.le_of_ble_eq_true rfl) ?_
  intro F p e s m args below meth c Q A hX hT hAe hsz hin
  subst hAe
  replace hX : rOK F p l e rm_Mo_leadFrom s m args below meth c Q prog_12_method_38_code 6 "RowAlignerModel" D (tysA tI tJ tZ) _ := hX
  have hM9 := hM
  obtain ⟨hza, hzb, hL, hL2, hS, ho0, ho1, hm0, hm1, hf⟩ := hM9
  have hbd : ra_bd (ra_mg Z L SC op mr fr pt) := hM.bd pt
  have hY0 := hYb ((97 * i + j) * 3 + bf)
  show F 0 [(0, .ref mo), (1, .int (iI ((i : Nat) : Int))), (2, .int (iI ((j : Nat) : Int))), (3, .int (iI ((bf : Nat) : Int)))] [] [(mo, .inr (10, [.int (iI cd), .ref ml, .ref mz, .ref ms, .int (iI op), .int (iI mr), .int (iI (bI (ld = true))), .int (iI (bI (pt = true))), .int (iI ((fr : Nat) : Int)), .ref mt, .int (iI ((sn : Nat) : Int)), .ref mb, .ref me, .ref bt, .ref wy, .ref lq, .ref df, .int (iI ((dn : Nat) : Int))])), (ml, .inl (tI, 192, .inl (iA (iN L)))), (mz, .inl (tI, 2, .inl (iA (iN Z)))), (ms, .inl (tI, 676, .inl (iA SC))), (lq, .inl (tI, 28227, .inl (iA Y)))] 0 0
  refine r_aload_n hX 0 d_Mo_leadFrom_0 rfl ?_
  refine r_get hX cf_Mo 0 rfl 15 (by decide) fl_Mo_42 rfl d_Mo_leadFrom_1 ?_
  refine r_iload_n hX 1 d_Mo_leadFrom_4 rfl ?_
  refine r_iload_n hX 2 d_Mo_leadFrom_5 rfl ?_
  refine r_iload_n hX 3 d_Mo_leadFrom_6 rfl ?_
  refine r_invS_i0 (st := [.ref lq]) (As := [.int (iI ((i : Nat) : Int)), .int (iI ((j : Nat) : Int)), .int (iI ((bf : Nat) : Int))]) (wr := [(mo, .inr (10, [.int (iI cd), .ref ml, .ref mz, .ref ms, .int (iI op), .int (iI mr), .int (iI (bI (ld = true))), .int (iI (bI (pt = true))), .int (iI ((fr : Nat) : Int)), .ref mt, .int (iI ((sn : Nat) : Int)), .ref mb, .ref me, .ref bt, .ref wy, .ref lq, .ref df, .int (iI ((dn : Nat) : Int))])), (ml, .inl (tI, 192, .inl (iA (iN L)))), (mz, .inl (tI, 2, .inl (iA (iN Z)))), (ms, .inl (tI, 676, .inl (iA SC))), (lq, .inl (tI, 28227, .inl (iA Y)))]) hX (c_Mo_at l D tI tJ tZ i j bf) yn_Mo_at ml_Mo_72 st_Mo_at co_Mo_at in_Mo (by decide) (by decide) (by decide) [] [0, 1, 2, 3, 4] rfl rfl rfl rfl rfl (by decide) rfl rfl (Nat.le_of_ble_eq_true rfl) d_Mo_leadFrom_7 [0, 1, 2, 3, 4] rfl (w2 := fun _ => [(mo, .inr (10, [.int (iI cd), .ref ml, .ref mz, .ref ms, .int (iI op), .int (iI mr), .int (iI (bI (ld = true))), .int (iI (bI (pt = true))), .int (iI ((fr : Nat) : Int)), .ref mt, .int (iI ((sn : Nat) : Int)), .ref mb, .ref me, .ref bt, .ref wy, .ref lq, .ref df, .int (iI ((dn : Nat) : Int))])), (ml, .inl (tI, 192, .inl (iA (iN L)))), (mz, .inl (tI, 2, .inl (iA (iN Z)))), (ms, .inl (tI, 676, .inl (iA SC))), (lq, .inl (tI, 28227, .inl (iA Y)))]) (fun _ => rfl) (fun r7 _ e7 => ?_)
  subst e7
  refine r_iald hX 4 0 rfl rfl ((97 * i + j) * 3 + bf) rfl (by omega) (by decide) d_Mo_leadFrom_10 ?_
  refine r_istore hX (lv' := [(4, .int (iI (Y ((97 * i + j) * 3 + bf)))), (0, .ref mo), (1, .int (iI ((i : Nat) : Int))), (2, .int (iI ((j : Nat) : Int))), (3, .int (iI ((bf : Nat) : Int)))]) d_Mo_leadFrom_11 (by decide) rfl ?_
  refine r_iload hX 0 d_Mo_leadFrom_13 rfl ?_
  refine r_ldc hX (-100000000) ct_Mo_79 (by decide) d_Mo_leadFrom_15 ?_
  refine r_icmp_ne hX 21 d_Mo_leadFrom_17 (by decide) (by unfold iR; omega) (by unfold iR; omega) (fun h17 => ?_) (fun h17 => ?_)
  · refine r_iload_n hX 2 d_Mo_leadFrom_21 rfl ?_
    refine r_aload_n hX 1 d_Mo_leadFrom_22 rfl ?_
    refine r_get hX cf_Mo 0 rfl 2 (by decide) fl_Mo_13 rfl d_Mo_leadFrom_23 ?_
    refine r_iconstN hX 0 d_Mo_leadFrom_26 rfl ?_
    refine r_ialdN hX 2 0 rfl rfl (0) rfl (by omega) (by decide) d_Mo_leadFrom_27 ?_
    have J61 : ∀ (y1 : Nat → Int), (ra_LR (ra_mg Z L SC op mr fr pt) Y y1 i j bf (ra_d1 1)) → F 61 [(4, .int (iI (Y ((97 * i + j) * 3 + bf)))), (0, .ref mo), (1, .int (iI ((i : Nat) : Int))), (2, .int (iI ((j : Nat) : Int))), (3, .int (iI ((bf : Nat) : Int)))] [] [(mo, .inr (10, [.int (iI cd), .ref ml, .ref mz, .ref ms, .int (iI op), .int (iI mr), .int (iI (bI (ld = true))), .int (iI (bI (pt = true))), .int (iI ((fr : Nat) : Int)), .ref mt, .int (iI ((sn : Nat) : Int)), .ref mb, .ref me, .ref bt, .ref wy, .ref lq, .ref df, .int (iI ((dn : Nat) : Int))])), (ml, .inl (tI, 192, .inl (iA (iN L)))), (mz, .inl (tI, 2, .inl (iA (iN Z)))), (ms, .inl (tI, 676, .inl (iA SC))), (lq, .inl (tI, 28227, .inl (iA y1)))] 0 0 := by
      intro y1 hR1
      refine r_iconstN hX 1 d_Mo_leadFrom_61 rfl ?_
      refine r_istore hX (lv' := [(5, .int (iI ((1 : Nat) : Int))), (4, .int (iI (Y ((97 * i + j) * 3 + bf)))), (0, .ref mo), (1, .int (iI ((i : Nat) : Int))), (2, .int (iI ((j : Nat) : Int))), (3, .int (iI ((bf : Nat) : Int)))]) d_Mo_leadFrom_62 (by decide) rfl ?_
      have L64 : ∀ (dd : Nat) (nn : Nat) (y2 : Nat → Int), Z 0 + 1 - nn = dd → (1 ≤ nn ∧ nn ≤ 97) → (ra_LR (ra_mg Z L SC op mr fr pt) Y y2 i j bf (ra_d1 nn)) → F 64 [(5, .int (iI ((nn : Nat) : Int))), (4, .int (iI (Y ((97 * i + j) * 3 + bf)))), (3, .int (iI ((bf : Nat) : Int))), (2, .int (iI ((j : Nat) : Int))), (1, .int (iI ((i : Nat) : Int))), (0, .ref mo)] [] [(mo, .inr (10, [.int (iI cd), .ref ml, .ref mz, .ref ms, .int (iI op), .int (iI mr), .int (iI (bI (ld = true))), .int (iI (bI (pt = true))), .int (iI ((fr : Nat) : Int)), .ref mt, .int (iI ((sn : Nat) : Int)), .ref mb, .ref me, .ref bt, .ref wy, .ref lq, .ref df, .int (iI ((dn : Nat) : Int))])), (ml, .inl (tI, 192, .inl (iA (iN L)))), (mz, .inl (tI, 2, .inl (iA (iN Z)))), (ms, .inl (tI, 676, .inl (iA SC))), (lq, .inl (tI, 28227, .inl (iA y2)))] 0 0 := by
        intro dd
        induction dd using Nat.strongRecOn with
        | _ dd ih64 =>
          intro nn y2 hmu64 hnn hR2
          have J110 : ∀ (y3 : Nat → Int), (ra_LR (ra_mg Z L SC op mr fr pt) Y y3 i j bf (ra_d2 1)) → F 110 [(5, .int (iI ((nn : Nat) : Int))), (4, .int (iI (Y ((97 * i + j) * 3 + bf)))), (3, .int (iI ((bf : Nat) : Int))), (2, .int (iI ((j : Nat) : Int))), (1, .int (iI ((i : Nat) : Int))), (0, .ref mo)] [] [(mo, .inr (10, [.int (iI cd), .ref ml, .ref mz, .ref ms, .int (iI op), .int (iI mr), .int (iI (bI (ld = true))), .int (iI (bI (pt = true))), .int (iI ((fr : Nat) : Int)), .ref mt, .int (iI ((sn : Nat) : Int)), .ref mb, .ref me, .ref bt, .ref wy, .ref lq, .ref df, .int (iI ((dn : Nat) : Int))])), (ml, .inl (tI, 192, .inl (iA (iN L)))), (mz, .inl (tI, 2, .inl (iA (iN Z)))), (ms, .inl (tI, 676, .inl (iA SC))), (lq, .inl (tI, 28227, .inl (iA y3)))] 0 0 := by
            intro y3 hR3
            refine r_iconstN hX 1 d_Mo_leadFrom_110 rfl ?_
            refine r_istore hX (lv' := [(5, .int (iI ((1 : Nat) : Int))), (4, .int (iI (Y ((97 * i + j) * 3 + bf)))), (3, .int (iI ((bf : Nat) : Int))), (2, .int (iI ((j : Nat) : Int))), (1, .int (iI ((i : Nat) : Int))), (0, .ref mo)]) d_Mo_leadFrom_111 (by decide) rfl ?_
            have L113 : ∀ (dd : Nat) (nn : Nat) (y4 : Nat → Int), Z 1 + 1 - nn = dd → (1 ≤ nn ∧ nn ≤ 97) → (ra_LR (ra_mg Z L SC op mr fr pt) Y y4 i j bf (ra_d2 nn)) → F 113 [(5, .int (iI ((nn : Nat) : Int))), (4, .int (iI (Y ((97 * i + j) * 3 + bf)))), (3, .int (iI ((bf : Nat) : Int))), (2, .int (iI ((j : Nat) : Int))), (1, .int (iI ((i : Nat) : Int))), (0, .ref mo)] [] [(mo, .inr (10, [.int (iI cd), .ref ml, .ref mz, .ref ms, .int (iI op), .int (iI mr), .int (iI (bI (ld = true))), .int (iI (bI (pt = true))), .int (iI ((fr : Nat) : Int)), .ref mt, .int (iI ((sn : Nat) : Int)), .ref mb, .ref me, .ref bt, .ref wy, .ref lq, .ref df, .int (iI ((dn : Nat) : Int))])), (ml, .inl (tI, 192, .inl (iA (iN L)))), (mz, .inl (tI, 2, .inl (iA (iN Z)))), (ms, .inl (tI, 676, .inl (iA SC))), (lq, .inl (tI, 28227, .inl (iA y4)))] 0 0 := by
              intro dd
              induction dd using Nat.strongRecOn with
              | _ dd ih113 =>
                intro nn y4 hmu113 hnn hR4
                refine r_iload_n hX 2 d_Mo_leadFrom_113 rfl ?_
                refine r_iconstN hX 2 d_Mo_leadFrom_114 rfl ?_
                refine r_icmp_eq hX 159 d_Mo_leadFrom_115 (by decide) (by unfold iR; omega) (by unfold iR; omega) (fun h115 => ?_) (fun h115 => ?_)
                · exact r_vret hX hT y4 ⟨fun q => absurd q h17, fun _ => ra_LR_all hR4 (by first | exact Or.inl (by omega) | exact Or.inr (show Z 1 < j + nn by omega))⟩ rfl (by decide) (by decide) d_Mo_leadFrom_159
                · refine r_iload_n hX 3 d_Mo_leadFrom_118 rfl ?_
                  refine r_iload hX 0 d_Mo_leadFrom_119 rfl ?_
                  refine r_iaddN hX d_Mo_leadFrom_121 ?_
                  refine r_aload_n hX 5 d_Mo_leadFrom_122 rfl ?_
                  refine r_get hX cf_Mo 0 rfl 2 (by decide) fl_Mo_13 rfl d_Mo_leadFrom_123 ?_
                  refine r_iconstN hX 1 d_Mo_leadFrom_126 rfl ?_
                  refine r_ialdN hX 2 0 rfl rfl (1) rfl (by omega) (by decide) d_Mo_leadFrom_127 ?_
                  refine r_icmp_gt hX 159 d_Mo_leadFrom_128 (by decide) (by unfold iR; omega) (by unfold iR; omega) (fun h128 => ?_) (fun h128 => ?_)
                  · exact r_vret hX hT y4 ⟨fun q => absurd q h17, fun _ => ra_LR_all hR4 (by first | exact Or.inl (by omega) | exact Or.inr (show Z 1 < j + nn by omega))⟩ rfl (by decide) (by decide) d_Mo_leadFrom_159
                  · have hg2 := ra_g2_bd hbd (i := i) (j := j) (t := nn) hnn.1 (by omega)
                    have hyb := ra_LR_bd hbd hR4 hYb ((97 * i + (j + nn)) * 3 + 2)
                    refine r_aload_n hX 5 d_Mo_leadFrom_131 rfl ?_
                    refine r_iload_n hX 4 d_Mo_leadFrom_132 rfl ?_
                    refine r_iload_n hX 3 d_Mo_leadFrom_133 rfl ?_
                    refine r_iload hX 0 d_Mo_leadFrom_134 rfl ?_
                    refine r_iaddN hX d_Mo_leadFrom_136 ?_
                    refine r_iconstN hX 2 d_Mo_leadFrom_137 rfl ?_
                    refine r_iload hX 1 d_Mo_leadFrom_138 rfl ?_
                    refine r_aload_n hX 5 d_Mo_leadFrom_140 rfl ?_
                    refine r_iconstN hX 0 d_Mo_leadFrom_141 rfl ?_
                    refine r_iload_n hX 4 d_Mo_leadFrom_142 rfl ?_
                    refine r_iload_n hX 3 d_Mo_leadFrom_143 rfl ?_
                    refine r_iload hX 0 d_Mo_leadFrom_144 rfl ?_
                    refine r_invV_i0 (st := [.int (iI (Y ((97 * i + j) * 3 + bf))), .int (iI ((2 : Nat) : Int)), .int (iI ((j + nn : Nat) : Int)), .int (iI ((i : Nat) : Int)), .ref mo]) (As := [.int (iI ((0 : Nat) : Int)), .int (iI ((i : Nat) : Int)), .int (iI ((j : Nat) : Int)), .int (iI ((nn : Nat) : Int))]) (wr := [(ml, .inl (tI, 192, .inl (iA (iN L)))), (ms, .inl (tI, 676, .inl (iA SC))), (lq, .inl (tI, 28227, .inl (iA y4)))]) hX (c_Mo_gap_0 l D tI tJ tZ mo ml mz ms mt mb me bt wy lq df cd op mr ld pt fr sn dn Z L SC i j nn (by omega) (by omega) (by omega) hza hzb hf) "RowAlignerModel" 0 10 cf_Mo rfl yn_Mo_gap ml_Mo_88 im_Mo_gap se_Mo_gap co_Mo_gap in_Mo (by decide) (by decide) (by decide) [0, 2] [1, 3, 4] rfl rfl rfl rfl rfl (by decide) rfl rfl (Nat.le_of_ble_eq_true rfl) d_Mo_leadFrom_146 [3, 0, 4, 1, 2] rfl (w2 := fun _ => [(mo, .inr (10, [.int (iI cd), .ref ml, .ref mz, .ref ms, .int (iI op), .int (iI mr), .int (iI (bI (ld = true))), .int (iI (bI (pt = true))), .int (iI ((fr : Nat) : Int)), .ref mt, .int (iI ((sn : Nat) : Int)), .ref mb, .ref me, .ref bt, .ref wy, .ref lq, .ref df, .int (iI ((dn : Nat) : Int))])), (ml, .inl (tI, 192, .inl (iA (iN L)))), (mz, .inl (tI, 2, .inl (iA (iN Z)))), (ms, .inl (tI, 676, .inl (iA SC))), (lq, .inl (tI, 28227, .inl (iA y4)))]) (fun _ => rfl) (fun r146 _ e146 => ?_)
                    subst e146
                    refine r_isub hX d_Mo_leadFrom_149 ?_
                    refine r_invV_v0 (st := []) (As := [.int (iI ((i : Nat) : Int)), .int (iI ((j + nn : Nat) : Int)), .int (iI ((2 : Nat) : Int)), .int (iI ((Y ((97 * i + j) * 3 + bf)) - (ra_g2 (ra_mg Z L SC op mr fr pt) i j nn)))]) (wr := [(ml, .inl (tI, 192, .inl (iA (iN L)))), (mz, .inl (tI, 2, .inl (iA (iN Z)))), (ms, .inl (tI, 676, .inl (iA SC)))]) hX (c_Mo_lead l D tI tJ tZ mo ml mz ms mt mb me bt wy lq df cd op mr ld pt fr sn dn y4 i (j + nn) 2 ((Y ((97 * i + j) * 3 + bf)) - (ra_g2 (ra_mg Z L SC op mr fr pt) i j nn)) (by unfold iR; omega) (by unfold iR; omega) (by omega)) "RowAlignerModel" 0 10 cf_Mo rfl yn_Mo_lead ml_Mo_131 im_Mo_lead se_Mo_lead co_Mo_lead in_Mo (by decide) (by decide) (by decide) [0, 4] [1, 2, 3] rfl rfl rfl rfl rfl (by decide) rfl rfl (Nat.le_of_ble_eq_true rfl) d_Mo_leadFrom_150 [3, 0, 1, 2, 4] rfl (w2 := fun _ => [(mo, .inr (10, [.int (iI cd), .ref ml, .ref mz, .ref ms, .int (iI op), .int (iI mr), .int (iI (bI (ld = true))), .int (iI (bI (pt = true))), .int (iI ((fr : Nat) : Int)), .ref mt, .int (iI ((sn : Nat) : Int)), .ref mb, .ref me, .ref bt, .ref wy, .ref lq, .ref df, .int (iI ((dn : Nat) : Int))])), (ml, .inl (tI, 192, .inl (iA (iN L)))), (mz, .inl (tI, 2, .inl (iA (iN Z)))), (ms, .inl (tI, 676, .inl (iA SC))), (lq, .inl (tI, 28227, .inl (iA (iU y4 ((97 * i + (j + nn)) * 3 + 2) (if y4 ((97 * i + (j + nn)) * 3 + 2) < ((Y ((97 * i + j) * 3 + bf)) - (ra_g2 (ra_mg Z L SC op mr fr pt) i j nn)) then ((Y ((97 * i + j) * 3 + bf)) - (ra_g2 (ra_mg Z L SC op mr fr pt) i j nn)) else y4 ((97 * i + (j + nn)) * 3 + 2))))))]) (fun _ => rfl) (fun _ _ => ?_)
                    refine r_iincN hX (lv' := [(5, .int (iI ((nn + 1 : Nat) : Int))), (4, .int (iI (Y ((97 * i + j) * 3 + bf)))), (3, .int (iI ((bf : Nat) : Int))), (2, .int (iI ((j : Nat) : Int))), (1, .int (iI ((i : Nat) : Int))), (0, .ref mo)]) 0 d_Mo_leadFrom_153 rfl (by decide) rfl ?_
                    refine r_goto hX 113 d_Mo_leadFrom_156 (by decide) ?_
                    exact ih113 _ (by omega) (nn + 1) (iU y4 ((97 * i + (j + nn)) * 3 + 2) (if y4 ((97 * i + (j + nn)) * 3 + 2) < ((Y ((97 * i + j) * 3 + bf)) - (ra_g2 (ra_mg Z L SC op mr fr pt) i j nn)) then ((Y ((97 * i + j) * 3 + bf)) - (ra_g2 (ra_mg Z L SC op mr fr pt) i j nn)) else y4 ((97 * i + (j + nn)) * 3 + 2))) rfl (by omega) (ra_LR_other hR4 (by omega) hnn.1 (show j + nn ≤ Z 1 by omega) rfl)
            exact L113 _ 1 y3 rfl (by omega) hR3
          refine r_iload_n hX 2 d_Mo_leadFrom_64 rfl ?_
          refine r_iconstN hX 1 d_Mo_leadFrom_65 rfl ?_
          refine r_icmp_eq hX 110 d_Mo_leadFrom_66 (by decide) (by unfold iR; omega) (by unfold iR; omega) (fun h66 => ?_) (fun h66 => ?_)
          · exact J110 y2 (ra_LR_ones hR2 (by first | exact Or.inl (by omega) | exact Or.inr (show Z 0 < i + nn by omega)))
          · refine r_iload_n hX 4 d_Mo_leadFrom_69 rfl ?_
            refine r_iload hX 0 d_Mo_leadFrom_70 rfl ?_
            refine r_iaddN hX d_Mo_leadFrom_72 ?_
            refine r_aload_n hX 5 d_Mo_leadFrom_73 rfl ?_
            refine r_get hX cf_Mo 0 rfl 2 (by decide) fl_Mo_13 rfl d_Mo_leadFrom_74 ?_
            refine r_iconstN hX 0 d_Mo_leadFrom_77 rfl ?_
            refine r_ialdN hX 2 0 rfl rfl (0) rfl (by omega) (by decide) d_Mo_leadFrom_78 ?_
            refine r_icmp_gt hX 110 d_Mo_leadFrom_79 (by decide) (by unfold iR; omega) (by unfold iR; omega) (fun h79 => ?_) (fun h79 => ?_)
            · exact J110 y2 (ra_LR_ones hR2 (by first | exact Or.inl (by omega) | exact Or.inr (show Z 0 < i + nn by omega)))
            · have hg1 := ra_g1_bd hbd (i := i) (j := j) (t := nn) hnn.1 (by omega)
              have hyb := ra_LR_bd hbd hR2 hYb ((97 * (i + nn) + j) * 3 + 1)
              refine r_aload_n hX 5 d_Mo_leadFrom_82 rfl ?_
              refine r_iload_n hX 4 d_Mo_leadFrom_83 rfl ?_
              refine r_iload hX 0 d_Mo_leadFrom_84 rfl ?_
              refine r_iaddN hX d_Mo_leadFrom_86 ?_
              refine r_iload_n hX 3 d_Mo_leadFrom_87 rfl ?_
              refine r_iconstN hX 1 d_Mo_leadFrom_88 rfl ?_
              refine r_iload hX 1 d_Mo_leadFrom_89 rfl ?_
              refine r_aload_n hX 5 d_Mo_leadFrom_91 rfl ?_
              refine r_iconstN hX 1 d_Mo_leadFrom_92 rfl ?_
              refine r_iload_n hX 4 d_Mo_leadFrom_93 rfl ?_
              refine r_iload_n hX 3 d_Mo_leadFrom_94 rfl ?_
              refine r_iload hX 0 d_Mo_leadFrom_95 rfl ?_
              refine r_invV_i0 (st := [.int (iI (Y ((97 * i + j) * 3 + bf))), .int (iI ((1 : Nat) : Int)), .int (iI ((j : Nat) : Int)), .int (iI ((i + nn : Nat) : Int)), .ref mo]) (As := [.int (iI ((1 : Nat) : Int)), .int (iI ((i : Nat) : Int)), .int (iI ((j : Nat) : Int)), .int (iI ((nn : Nat) : Int))]) (wr := [(ml, .inl (tI, 192, .inl (iA (iN L)))), (ms, .inl (tI, 676, .inl (iA SC))), (lq, .inl (tI, 28227, .inl (iA y2)))]) hX (c_Mo_gap_1 l D tI tJ tZ mo ml mz ms mt mb me bt wy lq df cd op mr ld pt fr sn dn Z L SC i j nn (by omega) (by omega) (by omega) hza hzb hf) "RowAlignerModel" 0 10 cf_Mo rfl yn_Mo_gap ml_Mo_88 im_Mo_gap se_Mo_gap co_Mo_gap in_Mo (by decide) (by decide) (by decide) [0, 2] [1, 3, 4] rfl rfl rfl rfl rfl (by decide) rfl rfl (Nat.le_of_ble_eq_true rfl) d_Mo_leadFrom_97 [3, 0, 4, 1, 2] rfl (w2 := fun _ => [(mo, .inr (10, [.int (iI cd), .ref ml, .ref mz, .ref ms, .int (iI op), .int (iI mr), .int (iI (bI (ld = true))), .int (iI (bI (pt = true))), .int (iI ((fr : Nat) : Int)), .ref mt, .int (iI ((sn : Nat) : Int)), .ref mb, .ref me, .ref bt, .ref wy, .ref lq, .ref df, .int (iI ((dn : Nat) : Int))])), (ml, .inl (tI, 192, .inl (iA (iN L)))), (mz, .inl (tI, 2, .inl (iA (iN Z)))), (ms, .inl (tI, 676, .inl (iA SC))), (lq, .inl (tI, 28227, .inl (iA y2)))]) (fun _ => rfl) (fun r97 _ e97 => ?_)
              subst e97
              refine r_isub hX d_Mo_leadFrom_100 ?_
              refine r_invV_v0 (st := []) (As := [.int (iI ((i + nn : Nat) : Int)), .int (iI ((j : Nat) : Int)), .int (iI ((1 : Nat) : Int)), .int (iI ((Y ((97 * i + j) * 3 + bf)) - (ra_g1 (ra_mg Z L SC op mr fr pt) i j nn)))]) (wr := [(ml, .inl (tI, 192, .inl (iA (iN L)))), (mz, .inl (tI, 2, .inl (iA (iN Z)))), (ms, .inl (tI, 676, .inl (iA SC)))]) hX (c_Mo_lead l D tI tJ tZ mo ml mz ms mt mb me bt wy lq df cd op mr ld pt fr sn dn y2 (i + nn) j 1 ((Y ((97 * i + j) * 3 + bf)) - (ra_g1 (ra_mg Z L SC op mr fr pt) i j nn)) (by unfold iR; omega) (by unfold iR; omega) (by omega)) "RowAlignerModel" 0 10 cf_Mo rfl yn_Mo_lead ml_Mo_131 im_Mo_lead se_Mo_lead co_Mo_lead in_Mo (by decide) (by decide) (by decide) [0, 4] [1, 2, 3] rfl rfl rfl rfl rfl (by decide) rfl rfl (Nat.le_of_ble_eq_true rfl) d_Mo_leadFrom_101 [3, 0, 1, 2, 4] rfl (w2 := fun _ => [(mo, .inr (10, [.int (iI cd), .ref ml, .ref mz, .ref ms, .int (iI op), .int (iI mr), .int (iI (bI (ld = true))), .int (iI (bI (pt = true))), .int (iI ((fr : Nat) : Int)), .ref mt, .int (iI ((sn : Nat) : Int)), .ref mb, .ref me, .ref bt, .ref wy, .ref lq, .ref df, .int (iI ((dn : Nat) : Int))])), (ml, .inl (tI, 192, .inl (iA (iN L)))), (mz, .inl (tI, 2, .inl (iA (iN Z)))), (ms, .inl (tI, 676, .inl (iA SC))), (lq, .inl (tI, 28227, .inl (iA (iU y2 ((97 * (i + nn) + j) * 3 + 1) (if y2 ((97 * (i + nn) + j) * 3 + 1) < ((Y ((97 * i + j) * 3 + bf)) - (ra_g1 (ra_mg Z L SC op mr fr pt) i j nn)) then ((Y ((97 * i + j) * 3 + bf)) - (ra_g1 (ra_mg Z L SC op mr fr pt) i j nn)) else y2 ((97 * (i + nn) + j) * 3 + 1))))))]) (fun _ => rfl) (fun _ _ => ?_)
              refine r_iincN hX (lv' := [(5, .int (iI ((nn + 1 : Nat) : Int))), (4, .int (iI (Y ((97 * i + j) * 3 + bf)))), (3, .int (iI ((bf : Nat) : Int))), (2, .int (iI ((j : Nat) : Int))), (1, .int (iI ((i : Nat) : Int))), (0, .ref mo)]) 0 d_Mo_leadFrom_104 rfl (by decide) rfl ?_
              refine r_goto hX 64 d_Mo_leadFrom_107 (by decide) ?_
              exact ih64 _ (by omega) (nn + 1) (iU y2 ((97 * (i + nn) + j) * 3 + 1) (if y2 ((97 * (i + nn) + j) * 3 + 1) < ((Y ((97 * i + j) * 3 + bf)) - (ra_g1 (ra_mg Z L SC op mr fr pt) i j nn)) then ((Y ((97 * i + j) * 3 + bf)) - (ra_g1 (ra_mg Z L SC op mr fr pt) i j nn)) else y2 ((97 * (i + nn) + j) * 3 + 1))) rfl (by omega) (ra_LR_one hR2 (by omega) hnn.1 (show i + nn ≤ Z 0 by omega) rfl)
      refine r_lv hX (lv' := [(5, .int (iI ((1 : Nat) : Int))), (4, .int (iI (Y ((97 * i + j) * 3 + bf)))), (3, .int (iI ((bf : Nat) : Int))), (2, .int (iI ((j : Nat) : Int))), (1, .int (iI ((i : Nat) : Int))), (0, .ref mo)]) [0, 1, 5, 4, 3, 2] rfl ?_
      exact L64 _ 1 y1 rfl (by omega) hR1
    refine r_icmp_ge hX 61 d_Mo_leadFrom_28 (by decide) (by unfold iR; omega) (by unfold iR; omega) (fun h28 => ?_) (fun h28 => ?_)
    · exact J61 Y (ra_LR_nopair (ra_LR_0 _ _ _ _ _) (fun q => by have q1 : i < Z 0 := q.1; have q2 : j < Z 1 := q.2; omega))
    · refine r_iload_n hX 3 d_Mo_leadFrom_31 rfl ?_
      refine r_aload_n hX 1 d_Mo_leadFrom_32 rfl ?_
      refine r_get hX cf_Mo 0 rfl 2 (by decide) fl_Mo_13 rfl d_Mo_leadFrom_33 ?_
      refine r_iconstN hX 1 d_Mo_leadFrom_36 rfl ?_
      refine r_ialdN hX 2 0 rfl rfl (1) rfl (by omega) (by decide) d_Mo_leadFrom_37 ?_
      refine r_icmp_ge hX 61 d_Mo_leadFrom_38 (by decide) (by unfold iR; omega) (by unfold iR; omega) (fun h38 => ?_) (fun h38 => ?_)
      · exact J61 Y (ra_LR_nopair (ra_LR_0 _ _ _ _ _) (fun q => by have q1 : i < Z 0 := q.1; have q2 : j < Z 1 := q.2; omega))
      · have hsc := hS (L i * 26 + L (96 + j))
        have hyb := hYb ((97 * (i + 1) + (j + 1)) * 3 + 0)
        refine r_aload_n hX 1 d_Mo_leadFrom_41 rfl ?_
        refine r_iload_n hX 2 d_Mo_leadFrom_42 rfl ?_
        refine r_iconstN hX 1 d_Mo_leadFrom_43 rfl ?_
        refine r_iaddN hX d_Mo_leadFrom_44 ?_
        refine r_iload_n hX 3 d_Mo_leadFrom_45 rfl ?_
        refine r_iconstN hX 1 d_Mo_leadFrom_46 rfl ?_
        refine r_iaddN hX d_Mo_leadFrom_47 ?_
        refine r_iconstN hX 0 d_Mo_leadFrom_48 rfl ?_
        refine r_iload hX 0 d_Mo_leadFrom_49 rfl ?_
        refine r_aload_n hX 1 d_Mo_leadFrom_51 rfl ?_
        refine r_iload_n hX 2 d_Mo_leadFrom_52 rfl ?_
        refine r_iload_n hX 3 d_Mo_leadFrom_53 rfl ?_
        refine r_invV_i0 (st := [.int (iI (Y ((97 * i + j) * 3 + bf))), .int (iI ((0 : Nat) : Int)), .int (iI ((j + 1 : Nat) : Int)), .int (iI ((i + 1 : Nat) : Int)), .ref mo]) (As := [.int (iI ((i : Nat) : Int)), .int (iI ((j : Nat) : Int))]) (wr := [(mz, .inl (tI, 2, .inl (iA (iN Z)))), (lq, .inl (tI, 28227, .inl (iA Y)))]) hX (c_Mo_scoreAt l D tI tJ tZ mo ml mz ms mt mb me bt wy lq df cd op mr ld pt fr sn dn L SC i j hL (by omega) (by omega)) "RowAlignerModel" 0 10 cf_Mo rfl yn_Mo_scoreAt ml_Mo_80 im_Mo_scoreAt se_Mo_scoreAt co_Mo_scoreAt in_Mo (by decide) (by decide) (by decide) [0, 1, 3] [2, 4] rfl rfl rfl rfl rfl (by decide) rfl rfl (Nat.le_of_ble_eq_true rfl) d_Mo_leadFrom_54 [2, 3, 0, 4, 1] rfl (w2 := fun _ => [(mo, .inr (10, [.int (iI cd), .ref ml, .ref mz, .ref ms, .int (iI op), .int (iI mr), .int (iI (bI (ld = true))), .int (iI (bI (pt = true))), .int (iI ((fr : Nat) : Int)), .ref mt, .int (iI ((sn : Nat) : Int)), .ref mb, .ref me, .ref bt, .ref wy, .ref lq, .ref df, .int (iI ((dn : Nat) : Int))])), (ml, .inl (tI, 192, .inl (iA (iN L)))), (mz, .inl (tI, 2, .inl (iA (iN Z)))), (ms, .inl (tI, 676, .inl (iA SC))), (lq, .inl (tI, 28227, .inl (iA Y)))]) (fun _ => rfl) (fun r54 _ e54 => ?_)
        subst e54
        refine r_iadd hX d_Mo_leadFrom_57 ?_
        refine r_invV_v0 (st := []) (As := [.int (iI ((i + 1 : Nat) : Int)), .int (iI ((j + 1 : Nat) : Int)), .int (iI ((0 : Nat) : Int)), .int (iI ((Y ((97 * i + j) * 3 + bf)) + (SC (L i * 26 + L (96 + j)))))]) (wr := [(ml, .inl (tI, 192, .inl (iA (iN L)))), (mz, .inl (tI, 2, .inl (iA (iN Z)))), (ms, .inl (tI, 676, .inl (iA SC)))]) hX (c_Mo_lead l D tI tJ tZ mo ml mz ms mt mb me bt wy lq df cd op mr ld pt fr sn dn Y (i + 1) (j + 1) 0 ((Y ((97 * i + j) * 3 + bf)) + (SC (L i * 26 + L (96 + j)))) (by unfold iR; omega) (by unfold iR; omega) (by omega)) "RowAlignerModel" 0 10 cf_Mo rfl yn_Mo_lead ml_Mo_131 im_Mo_lead se_Mo_lead co_Mo_lead in_Mo (by decide) (by decide) (by decide) [0, 4] [1, 2, 3] rfl rfl rfl rfl rfl (by decide) rfl rfl (Nat.le_of_ble_eq_true rfl) d_Mo_leadFrom_58 [3, 0, 1, 2, 4] rfl (w2 := fun _ => [(mo, .inr (10, [.int (iI cd), .ref ml, .ref mz, .ref ms, .int (iI op), .int (iI mr), .int (iI (bI (ld = true))), .int (iI (bI (pt = true))), .int (iI ((fr : Nat) : Int)), .ref mt, .int (iI ((sn : Nat) : Int)), .ref mb, .ref me, .ref bt, .ref wy, .ref lq, .ref df, .int (iI ((dn : Nat) : Int))])), (ml, .inl (tI, 192, .inl (iA (iN L)))), (mz, .inl (tI, 2, .inl (iA (iN Z)))), (ms, .inl (tI, 676, .inl (iA SC))), (lq, .inl (tI, 28227, .inl (iA (iU Y ((97 * (i + 1) + (j + 1)) * 3 + 0) (if Y ((97 * (i + 1) + (j + 1)) * 3 + 0) < ((Y ((97 * i + j) * 3 + bf)) + (SC (L i * 26 + L (96 + j)))) then ((Y ((97 * i + j) * 3 + bf)) + (SC (L i * 26 + L (96 + j)))) else Y ((97 * (i + 1) + (j + 1)) * 3 + 0))))))]) (fun _ => rfl) (fun _ _ => ?_)
        exact J61 (iU Y ((97 * (i + 1) + (j + 1)) * 3 + 0) (if Y ((97 * (i + 1) + (j + 1)) * 3 + 0) < ((Y ((97 * i + j) * 3 + bf)) + (SC (L i * 26 + L (96 + j)))) then ((Y ((97 * i + j) * 3 + bf)) + (SC (L i * 26 + L (96 + j)))) else Y ((97 * (i + 1) + (j + 1)) * 3 + 0))) (ra_LR_pair (ra_LR_0 _ _ _ _ _) (show i < Z 0 by omega) (show j < Z 1 by omega) rfl)
  · exact r_vret hX hT Y ⟨fun _ => rfl, fun q => absurd h17 q⟩ rfl (by decide) (by decide) d_Mo_leadFrom_20
