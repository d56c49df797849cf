abbrev rm_Mo_crossesGap_1 : Room := { frames := 1, cells := 0, slots := 0, locals := 29 }
set_option maxHeartbeats 4000000 in
set_option maxRecDepth 100000 in
theorem c_Mo_crossesGap_1 (l : Launch) (D : va_G) (tI tJ tZ : ClassId) (mo : Nat) (ml : Nat) (mz : Nat) (ms : Nat) (mt : Nat) (mb : Nat) (me : Nat) (bt : Nat) (wy : Nat) (lq : Nat) (df : Nat) (cd : Int) (op : Int) (mr : Int) (ld : Bool) (pt : Bool) (fr : Nat) (sn : Nat) (dn : Nat) (L : Nat → Nat) (Z : Nat → Nat) (SC : Nat → Int) (T : Nat → Int) (Y : Nat → Int) (i : Nat) (j : Nat) (gl : Int) (hM : raM Z L SC op mr fr) (hi : i ≤ Z 0) (hj : j ≤ Z 1) (hg : -200000000 ≤ gl ∧ gl ≤ 200000000) (hTM : ra_TM (ra_mg Z L SC op mr fr pt) T) (hYb : ∀ t, -100000000 ≤ Y t ∧ Y t ≤ 400000) : rCi l y_Mo_crossesGap prog_12_method_40_code 16 .boolean rm_Mo_crossesGap_1 D (tysA tI tJ tZ) [.ref mo, .int (iI ((i : Nat) : Int)), .int (iI ((j : Nat) : Int)), .int (iI gl), .int (iI ((1 : Nat) : Int))] [(mo, .inr (10, [.int (iI cd), .ref ml, .ref mz, .ref ms, .int (iI op), .int (iI mr), .int (iI (bI (ld = true))), .int (iI (bI (pt = true))), .int (iI ((fr : Nat) : Int)), .ref mt, .int (iI ((sn : Nat) : Int)), .ref mb, .ref me, .ref bt, .ref wy, .ref lq, .ref df, .int (iI ((dn : Nat) : Int))])), (mz, .inl (tI, 2, .inl (iA (iN Z)))), (bt, .inl (tI, 28227, .inl (iA T))), (lq, .inl (tI, 28227, .inl (iA Y)))] (fun zz (_ : Unit) => zz = iI (bI (ra_tv (ra_XA (ra_mg Z L SC op mr fr pt) Y T gl i j) = true))) (fun (_ : Unit) => [(mo, .inr (10, [.int (iI cd), .ref ml, .ref mz, .ref ms, .int (iI op), .int (iI mr), .int (iI (bI (ld = true))), .int (iI (bI (pt = true))), .int (iI ((fr : Nat) : Int)), .ref mt, .int (iI ((sn : Nat) : Int)), .ref mb, .ref me, .ref bt, .ref wy, .ref lq, .ref df, .int (iI ((dn : Nat) : Int))])), (mz, .inl (tI, 2, .inl (iA (iN Z)))), (bt, .inl (tI, 28227, .inl (iA T))), (lq, .inl (tI, 28227, .inl (iA Y)))]) := by
  intro sz
  refine r_met (by decide) (Nat.le_of_ble_eq_true rfl) ?_
  intro F p e s m args below meth c Q A hX hT hAe hsz hin
  subst hAe
  replace hX : rOK F p l e rm_Mo_crossesGap_1 s m args below meth c Q prog_12_method_40_code 16 "RowAlignerModel" D (tysA tI tJ tZ) _ := hX
  have hM9 := hM
  obtain ⟨hza, hzb, hL, hL2, hS, ho0, ho1, hm0, hm1, hf⟩ := hM9
  have hbd : ra_bd (ra_mg Z L SC op mr fr pt) := hM.bd pt
  show F 0 [(0, .ref mo), (1, .int (iI ((i : Nat) : Int))), (2, .int (iI ((j : Nat) : Int))), (3, .int (iI gl)), (4, .int (iI ((1 : Nat) : Int)))] [] [(mo, .inr (10, [.int (iI cd), .ref ml, .ref mz, .ref ms, .int (iI op), .int (iI mr), .int (iI (bI (ld = true))), .int (iI (bI (pt = true))), .int (iI ((fr : Nat) : Int)), .ref mt, .int (iI ((sn : Nat) : Int)), .ref mb, .ref me, .ref bt, .ref wy, .ref lq, .ref df, .int (iI ((dn : Nat) : Int))])), (mz, .inl (tI, 2, .inl (iA (iN Z)))), (bt, .inl (tI, 28227, .inl (iA T))), (lq, .inl (tI, 28227, .inl (iA Y)))] 0 0
  refine r_iload hX 4 d_Mo_crossesGap_0 rfl ?_
  refine r_if_eq hX 9 d_Mo_crossesGap_2 (by decide) (by unfold iR; omega) (fun h2 => by exfalso; omega) (fun h2 => ?_)
  refine r_iload_n hX 1 d_Mo_crossesGap_5 rfl ?_
  refine r_goto hX 10 d_Mo_crossesGap_6 (by decide) ?_
  refine r_istore hX (lv' := [(5, .int (iI ((i : Nat) : Int))), (0, .ref mo), (1, .int (iI ((i : Nat) : Int))), (2, .int (iI ((j : Nat) : Int))), (3, .int (iI gl)), (4, .int (iI ((1 : Nat) : Int)))]) d_Mo_crossesGap_10 (by decide) rfl ?_
  refine r_iload hX 5 d_Mo_crossesGap_12 rfl ?_
  refine r_if_eq hX 28 d_Mo_crossesGap_14 (by decide) (by unfold iR; omega) (fun h14 => by exfalso; omega) (fun h14 => ?_)
  refine r_aload_n hX 1 d_Mo_crossesGap_17 rfl ?_
  refine r_get hX cf_Mo 0 rfl 2 (by decide) fl_Mo_13 rfl d_Mo_crossesGap_18 ?_
  refine r_iconstN hX 0 d_Mo_crossesGap_21 rfl ?_
  refine r_ialdN hX 1 0 rfl rfl (0) rfl (by omega) (by decide) d_Mo_crossesGap_22 ?_
  refine r_iload_n hX 2 d_Mo_crossesGap_23 rfl ?_
  refine r_isub hX d_Mo_crossesGap_24 ?_
  refine r_goto hX 36 d_Mo_crossesGap_25 (by decide) ?_
  refine r_istore hX (lv' := [(6, .int (iI (((Z 0 : Nat) : Int) - ((i : Nat) : Int)))), (5, .int (iI ((i : Nat) : Int))), (0, .ref mo), (1, .int (iI ((i : Nat) : Int))), (2, .int (iI ((j : Nat) : Int))), (3, .int (iI gl)), (4, .int (iI ((1 : Nat) : Int)))]) d_Mo_crossesGap_36 (by decide) rfl ?_
  refine r_iconstN hX 1 d_Mo_crossesGap_38 rfl ?_
  refine r_istore hX (lv' := [(7, .int (iI ((1 : Nat) : Int))), (6, .int (iI (((Z 0 : Nat) : Int) - ((i : Nat) : Int)))), (5, .int (iI ((i : Nat) : Int))), (0, .ref mo), (1, .int (iI ((i : Nat) : Int))), (2, .int (iI ((j : Nat) : Int))), (3, .int (iI gl)), (4, .int (iI ((1 : Nat) : Int)))]) d_Mo_crossesGap_39 (by decide) rfl ?_
  have L41 : ∀ (dd : Nat) (pp : Nat), i + 1 - pp = dd → (1 ≤ pp ∧ pp ≤ i + 1) → (ra_NA (ra_mg Z L SC op mr fr pt) Y T gl i j pp 1) → F 41 [(7, .int (iI ((pp : Nat) : Int))), (6, .int (iI (((Z 0 : Nat) : Int) - ((i : Nat) : Int)))), (5, .int (iI ((i : Nat) : Int))), (4, .int (iI ((1 : Nat) : Int))), (3, .int (iI gl)), (2, .int (iI ((j : Nat) : Int))), (1, .int (iI ((i : Nat) : Int))), (0, .ref mo)] [] [(mo, .inr (10, [.int (iI cd), .ref ml, .ref mz, .ref ms, .int (iI op), .int (iI mr), .int (iI (bI (ld = true))), .int (iI (bI (pt = true))), .int (iI ((fr : Nat) : Int)), .ref mt, .int (iI ((sn : Nat) : Int)), .ref mb, .ref me, .ref bt, .ref wy, .ref lq, .ref df, .int (iI ((dn : Nat) : Int))])), (mz, .inl (tI, 2, .inl (iA (iN Z)))), (bt, .inl (tI, 28227, .inl (iA T))), (lq, .inl (tI, 28227, .inl (iA Y)))] 0 0 := by
    intro dd
    induction dd using Nat.strongRecOn with
    | _ dd ih41 =>
      intro pp hmu41 hpp hNA
      refine r_iload hX 0 d_Mo_crossesGap_41 rfl ?_
      refine r_iload hX 2 d_Mo_crossesGap_43 rfl ?_
      refine r_icmp_gt hX 246 d_Mo_crossesGap_45 (by decide) (by unfold iR; omega) (by unfold iR; omega) (fun h45 => ?_) (fun h45 => ?_)
      · refine r_iconstN hX 0 d_Mo_crossesGap_246 rfl ?_
        exact r_zret hX hT (by decide) () (congrArg iI (bI_f (fun q => ra_NA_end hNA (by omega) (ra_tv_iff.1 q))).symm) rfl (by decide) (by decide) d_Mo_crossesGap_247
      · refine r_iconstN hX 1 d_Mo_crossesGap_48 rfl ?_
        refine r_istore hX (lv' := [(8, .int (iI ((1 : Nat) : Int))), (7, .int (iI ((pp : Nat) : Int))), (6, .int (iI (((Z 0 : Nat) : Int) - ((i : Nat) : Int)))), (5, .int (iI ((i : Nat) : Int))), (4, .int (iI ((1 : Nat) : Int))), (3, .int (iI gl)), (2, .int (iI ((j : Nat) : Int))), (1, .int (iI ((i : Nat) : Int))), (0, .ref mo)]) d_Mo_crossesGap_49 (by decide) rfl ?_
        have L51 : ∀ (dd : Nat) (ee : Nat), Z 0 + 1 - ee = dd → (1 ≤ ee ∧ ee ≤ 97) → (ra_NA (ra_mg Z L SC op mr fr pt) Y T gl i j pp ee) → F 51 [(8, .int (iI ((ee : Nat) : Int))), (7, .int (iI ((pp : Nat) : Int))), (6, .int (iI (((Z 0 : Nat) : Int) - ((i : Nat) : Int)))), (5, .int (iI ((i : Nat) : Int))), (4, .int (iI ((1 : Nat) : Int))), (3, .int (iI gl)), (2, .int (iI ((j : Nat) : Int))), (1, .int (iI ((i : Nat) : Int))), (0, .ref mo)] [] [(mo, .inr (10, [.int (iI cd), .ref ml, .ref mz, .ref ms, .int (iI op), .int (iI mr), .int (iI (bI (ld = true))), .int (iI (bI (pt = true))), .int (iI ((fr : Nat) : Int)), .ref mt, .int (iI ((sn : Nat) : Int)), .ref mb, .ref me, .ref bt, .ref wy, .ref lq, .ref df, .int (iI ((dn : Nat) : Int))])), (mz, .inl (tI, 2, .inl (iA (iN Z)))), (bt, .inl (tI, 28227, .inl (iA T))), (lq, .inl (tI, 28227, .inl (iA Y)))] 0 0 := by
          intro dd
          induction dd using Nat.strongRecOn with
          | _ dd ih51 =>
            intro ee hmu51 hee hNE
            refine r_iload hX 0 d_Mo_crossesGap_51 rfl ?_
            refine r_iload hX 2 d_Mo_crossesGap_53 rfl ?_
            refine r_icmp_gt hX 240 d_Mo_crossesGap_55 (by decide) (by unfold iR; omega) (by unfold iR; omega) (fun h55 => ?_) (fun h55 => ?_)
            · refine r_iincN hX (lv' := [(7, .int (iI ((pp + 1 : Nat) : Int))), (8, .int (iI ((ee : Nat) : Int))), (6, .int (iI (((Z 0 : Nat) : Int) - ((i : Nat) : Int)))), (5, .int (iI ((i : Nat) : Int))), (4, .int (iI ((1 : Nat) : Int))), (3, .int (iI gl)), (2, .int (iI ((j : Nat) : Int))), (1, .int (iI ((i : Nat) : Int))), (0, .ref mo)]) 1 d_Mo_crossesGap_240 rfl (by decide) rfl ?_
              refine r_goto hX 41 d_Mo_crossesGap_243 (by decide) ?_
              refine r_lv hX (lv' := [(7, .int (iI ((pp + 1 : Nat) : Int))), (6, .int (iI (((Z 0 : Nat) : Int) - ((i : Nat) : Int)))), (5, .int (iI ((i : Nat) : Int))), (4, .int (iI ((1 : Nat) : Int))), (3, .int (iI gl)), (2, .int (iI ((j : Nat) : Int))), (1, .int (iI ((i : Nat) : Int))), (0, .ref mo)]) [0, 2, 3, 4, 5, 6, 7, 8] rfl ?_
              exact ih41 _ (by omega) (pp + 1) rfl (by omega) (ra_NA_row hNE (show Z 0 < i + ee by omega))
            · have hTb : -200000000 ≤ T ((97 * (i + ee) + j) * 3 + 1) ∧ T ((97 * (i + ee) + j) * 3 + 1) ≤ 200000000 := ra_TM_bd hbd hTM (by omega) (by change _ ≤ Z 0; omega) (by change _ ≤ Z 1; omega)
              have hgb := ra_g1_bd hbd (i := i - pp) (j := j) (t := pp + ee) (by omega) (by omega)
              have hy0 := hYb ((97 * (i - pp) + j) * 3 + 0)
              have hy1 := hYb ((97 * (i - pp) + j) * 3 + (0 + 1))
              have hy2 := hYb ((97 * (i - pp) + j) * 3 + (0 + 1 + 1))
              refine r_iload hX 4 d_Mo_crossesGap_58 rfl ?_
              refine r_if_eq hX 70 d_Mo_crossesGap_60 (by decide) (by unfold iR; omega) (fun h60 => by exfalso; omega) (fun h60 => ?_)
              refine r_iload_n hX 7 d_Mo_crossesGap_63 rfl ?_
              refine r_iload hX 1 d_Mo_crossesGap_64 rfl ?_
              refine r_isub hX d_Mo_crossesGap_66 ?_
              refine r_goto hX 71 d_Mo_crossesGap_67 (by decide) ?_
              refine r_eq (lv2 := [(8, .int (iI ((ee : Nat) : Int))), (7, .int (iI ((pp : Nat) : Int))), (6, .int (iI (((Z 0 : Nat) : Int) - ((i : Nat) : Int)))), (5, .int (iI ((i : Nat) : Int))), (4, .int (iI ((1 : Nat) : Int))), (3, .int (iI gl)), (2, .int (iI ((j : Nat) : Int))), (1, .int (iI ((i : Nat) : Int))), (0, .ref mo)]) (st2 := [.int (iI ((i - pp : Nat) : Int))]) (ws2 := [(mo, .inr (10, [.int (iI cd), .ref ml, .ref mz, .ref ms, .int (iI op), .int (iI mr), .int (iI (bI (ld = true))), .int (iI (bI (pt = true))), .int (iI ((fr : Nat) : Int)), .ref mt, .int (iI ((sn : Nat) : Int)), .ref mb, .ref me, .ref bt, .ref wy, .ref lq, .ref df, .int (iI ((dn : Nat) : Int))])), (mz, .inl (tI, 2, .inl (iA (iN Z)))), (bt, .inl (tI, 28227, .inl (iA T))), (lq, .inl (tI, 28227, .inl (iA Y)))]) rfl (by rw [show ((i : Nat) : Int) - ((pp : Nat) : Int) = ((i - pp : Nat) : Int) by omega]) rfl ?_
              refine r_istore hX (lv' := [(9, .int (iI ((i - pp : Nat) : Int))), (8, .int (iI ((ee : Nat) : Int))), (7, .int (iI ((pp : Nat) : Int))), (6, .int (iI (((Z 0 : Nat) : Int) - ((i : Nat) : Int)))), (5, .int (iI ((i : Nat) : Int))), (4, .int (iI ((1 : Nat) : Int))), (3, .int (iI gl)), (2, .int (iI ((j : Nat) : Int))), (1, .int (iI ((i : Nat) : Int))), (0, .ref mo)]) d_Mo_crossesGap_71 (by decide) rfl ?_
              refine r_iload hX 5 d_Mo_crossesGap_73 rfl ?_
              refine r_if_eq hX 82 d_Mo_crossesGap_75 (by decide) (by unfold iR; omega) (fun h75 => by exfalso; omega) (fun h75 => ?_)
              refine r_iload_n hX 7 d_Mo_crossesGap_78 rfl ?_
              refine r_goto hX 86 d_Mo_crossesGap_79 (by decide) ?_
              refine r_istore hX (lv' := [(10, .int (iI ((j : Nat) : Int))), (9, .int (iI ((i - pp : Nat) : Int))), (8, .int (iI ((ee : Nat) : Int))), (7, .int (iI ((pp : Nat) : Int))), (6, .int (iI (((Z 0 : Nat) : Int) - ((i : Nat) : Int)))), (5, .int (iI ((i : Nat) : Int))), (4, .int (iI ((1 : Nat) : Int))), (3, .int (iI gl)), (2, .int (iI ((j : Nat) : Int))), (1, .int (iI ((i : Nat) : Int))), (0, .ref mo)]) d_Mo_crossesGap_86 (by decide) rfl ?_
              refine r_iload hX 6 d_Mo_crossesGap_88 rfl ?_
              refine r_if_eq hX 105 d_Mo_crossesGap_90 (by decide) (by unfold iR; omega) (fun h90 => by exfalso; omega) (fun h90 => ?_)
              refine r_iload_n hX 9 d_Mo_crossesGap_93 rfl ?_
              refine r_iload hX 2 d_Mo_crossesGap_94 rfl ?_
              refine r_iaddN hX d_Mo_crossesGap_96 ?_
              refine r_iload_n hX 8 d_Mo_crossesGap_97 rfl ?_
              refine r_iconstN hX 1 d_Mo_crossesGap_98 rfl ?_
              refine r_invS_i0 (st := []) (As := [.int (iI ((i + ee : Nat) : Int)), .int (iI ((j : Nat) : Int)), .int (iI ((1 : Nat) : Int))]) (wr := [(mo, .inr (10, [.int (iI cd), .ref ml, .ref mz, .ref ms, .int (iI op), .int (iI mr), .int (iI (bI (ld = true))), .int (iI (bI (pt = true))), .int (iI ((fr : Nat) : Int)), .ref mt, .int (iI ((sn : Nat) : Int)), .ref mb, .ref me, .ref bt, .ref wy, .ref lq, .ref df, .int (iI ((dn : Nat) : Int))])), (mz, .inl (tI, 2, .inl (iA (iN Z)))), (bt, .inl (tI, 28227, .inl (iA T))), (lq, .inl (tI, 28227, .inl (iA Y)))]) hX (c_Mo_at l D tI tJ tZ (i + ee) j 1) yn_Mo_at ml_Mo_72 st_Mo_at co_Mo_at in_Mo (by decide) (by decide) (by decide) [] [0, 1, 2, 3] rfl rfl rfl rfl rfl (by decide) rfl rfl (Nat.le_of_ble_eq_true rfl) d_Mo_crossesGap_99 [0, 1, 2, 3] rfl (w2 := fun _ => [(mo, .inr (10, [.int (iI cd), .ref ml, .ref mz, .ref ms, .int (iI op), .int (iI mr), .int (iI (bI (ld = true))), .int (iI (bI (pt = true))), .int (iI ((fr : Nat) : Int)), .ref mt, .int (iI ((sn : Nat) : Int)), .ref mb, .ref me, .ref bt, .ref wy, .ref lq, .ref df, .int (iI ((dn : Nat) : Int))])), (mz, .inl (tI, 2, .inl (iA (iN Z)))), (bt, .inl (tI, 28227, .inl (iA T))), (lq, .inl (tI, 28227, .inl (iA Y)))]) (fun _ => rfl) (fun r99 _ e99 => ?_)
              subst e99
              refine r_goto hX 114 d_Mo_crossesGap_102 (by decide) ?_
              refine r_istore hX (lv' := [(11, .int (iI (((97 * (i + ee) + j) * 3 + 1 : Nat) : Int))), (10, .int (iI ((j : Nat) : Int))), (9, .int (iI ((i - pp : Nat) : Int))), (8, .int (iI ((ee : Nat) : Int))), (7, .int (iI ((pp : Nat) : Int))), (6, .int (iI (((Z 0 : Nat) : Int) - ((i : Nat) : Int)))), (5, .int (iI ((i : Nat) : Int))), (4, .int (iI ((1 : Nat) : Int))), (3, .int (iI gl)), (2, .int (iI ((j : Nat) : Int))), (1, .int (iI ((i : Nat) : Int))), (0, .ref mo)]) d_Mo_crossesGap_114 (by decide) rfl ?_
              refine r_aload_n hX 11 d_Mo_crossesGap_116 rfl ?_
              refine r_iload hX 7 d_Mo_crossesGap_117 rfl ?_
              refine r_iload hX 2 d_Mo_crossesGap_119 rfl ?_
              refine r_iload hX 1 d_Mo_crossesGap_121 rfl ?_
              refine r_iload hX 4 d_Mo_crossesGap_123 rfl ?_
              refine r_iload hX 3 d_Mo_crossesGap_125 rfl ?_
              refine r_iaddN hX d_Mo_crossesGap_127 ?_
              refine r_invV_i0 (st := []) (As := [.int (iI ((1 : Nat) : Int)), .int (iI ((i - pp : Nat) : Int)), .int (iI ((j : Nat) : Int)), .int (iI ((pp + ee : Nat) : Int))]) (wr := [(bt, .inl (tI, 28227, .inl (iA T))), (lq, .inl (tI, 28227, .inl (iA Y)))]) hX (c_Mo_gap_1 l D tI tJ tZ mo ml mz ms mt mb me bt wy lq df cd op mr ld pt fr sn dn Z L SC (i - pp) j (pp + ee) (by omega) (by omega) (by omega) hza hzb hf) "RowAlignerModel" 0 10 cf_Mo rfl yn_Mo_gap ml_Mo_88 im_Mo_gap se_Mo_gap co_Mo_gap in_Mo (by decide) (by decide) (by decide) [0, 1] [2, 3] rfl rfl rfl rfl rfl (by decide) rfl rfl (Nat.le_of_ble_eq_true rfl) d_Mo_crossesGap_128 [2, 3, 0, 1] rfl (w2 := fun _ => [(mo, .inr (10, [.int (iI cd), .ref ml, .ref mz, .ref ms, .int (iI op), .int (iI mr), .int (iI (bI (ld = true))), .int (iI (bI (pt = true))), .int (iI ((fr : Nat) : Int)), .ref mt, .int (iI ((sn : Nat) : Int)), .ref mb, .ref me, .ref bt, .ref wy, .ref lq, .ref df, .int (iI ((dn : Nat) : Int))])), (mz, .inl (tI, 2, .inl (iA (iN Z)))), (bt, .inl (tI, 28227, .inl (iA T))), (lq, .inl (tI, 28227, .inl (iA Y)))]) (fun _ => rfl) (fun r128 _ e128 => ?_)
              subst e128
              refine r_istore hX (lv' := [(12, .int (iI (ra_g1 (ra_mg Z L SC op mr fr pt) (i - pp) j (pp + ee)))), (11, .int (iI (((97 * (i + ee) + j) * 3 + 1 : Nat) : Int))), (10, .int (iI ((j : Nat) : Int))), (9, .int (iI ((i - pp : Nat) : Int))), (8, .int (iI ((ee : Nat) : Int))), (7, .int (iI ((pp : Nat) : Int))), (6, .int (iI (((Z 0 : Nat) : Int) - ((i : Nat) : Int)))), (5, .int (iI ((i : Nat) : Int))), (4, .int (iI ((1 : Nat) : Int))), (3, .int (iI gl)), (2, .int (iI ((j : Nat) : Int))), (1, .int (iI ((i : Nat) : Int))), (0, .ref mo)]) d_Mo_crossesGap_131 (by decide) rfl ?_
              refine r_iconstN hX 0 d_Mo_crossesGap_133 rfl ?_
              refine r_istore hX (lv' := [(13, .int (iI ((0 : Nat) : Int))), (12, .int (iI (ra_g1 (ra_mg Z L SC op mr fr pt) (i - pp) j (pp + ee)))), (11, .int (iI (((97 * (i + ee) + j) * 3 + 1 : Nat) : Int))), (10, .int (iI ((j : Nat) : Int))), (9, .int (iI ((i - pp : Nat) : Int))), (8, .int (iI ((ee : Nat) : Int))), (7, .int (iI ((pp : Nat) : Int))), (6, .int (iI (((Z 0 : Nat) : Int) - ((i : Nat) : Int)))), (5, .int (iI ((i : Nat) : Int))), (4, .int (iI ((1 : Nat) : Int))), (3, .int (iI gl)), (2, .int (iI ((j : Nat) : Int))), (1, .int (iI ((i : Nat) : Int))), (0, .ref mo)]) d_Mo_crossesGap_134 (by decide) rfl ?_
              refine r_iload hX 0 d_Mo_crossesGap_136 rfl ?_
              refine r_iconstN hX 3 d_Mo_crossesGap_138 rfl ?_
              refine r_icmp_ge hX 234 d_Mo_crossesGap_139 (by decide) (by unfold iR; omega) (by unfold iR; omega) (fun h139 => by exfalso; omega) (fun h139 => ?_)
              refine r_iload hX 4 d_Mo_crossesGap_142 rfl ?_
              refine r_iload hX 3 d_Mo_crossesGap_144 rfl ?_
              refine r_iload hX 0 d_Mo_crossesGap_146 rfl ?_
              refine r_invS_i0 (st := []) (As := [.int (iI ((i - pp : Nat) : Int)), .int (iI ((j : Nat) : Int)), .int (iI ((0 : Nat) : Int))]) (wr := [(mo, .inr (10, [.int (iI cd), .ref ml, .ref mz, .ref ms, .int (iI op), .int (iI mr), .int (iI (bI (ld = true))), .int (iI (bI (pt = true))), .int (iI ((fr : Nat) : Int)), .ref mt, .int (iI ((sn : Nat) : Int)), .ref mb, .ref me, .ref bt, .ref wy, .ref lq, .ref df, .int (iI ((dn : Nat) : Int))])), (mz, .inl (tI, 2, .inl (iA (iN Z)))), (bt, .inl (tI, 28227, .inl (iA T))), (lq, .inl (tI, 28227, .inl (iA Y)))]) hX (c_Mo_at l D tI tJ tZ (i - pp) j 0) yn_Mo_at ml_Mo_72 st_Mo_at co_Mo_at in_Mo (by decide) (by decide) (by decide) [] [0, 1, 2, 3] rfl rfl rfl rfl rfl (by decide) rfl rfl (Nat.le_of_ble_eq_true rfl) d_Mo_crossesGap_148 [0, 1, 2, 3] rfl (w2 := fun _ => [(mo, .inr (10, [.int (iI cd), .ref ml, .ref mz, .ref ms, .int (iI op), .int (iI mr), .int (iI (bI (ld = true))), .int (iI (bI (pt = true))), .int (iI ((fr : Nat) : Int)), .ref mt, .int (iI ((sn : Nat) : Int)), .ref mb, .ref me, .ref bt, .ref wy, .ref lq, .ref df, .int (iI ((dn : Nat) : Int))])), (mz, .inl (tI, 2, .inl (iA (iN Z)))), (bt, .inl (tI, 28227, .inl (iA T))), (lq, .inl (tI, 28227, .inl (iA Y)))]) (fun _ => rfl) (fun r148 _ e148 => ?_)
              subst e148
              refine r_istore hX (lv' := [(14, .int (iI (((97 * (i - pp) + j) * 3 + 0 : Nat) : Int))), (13, .int (iI ((0 : Nat) : Int))), (12, .int (iI (ra_g1 (ra_mg Z L SC op mr fr pt) (i - pp) j (pp + ee)))), (11, .int (iI (((97 * (i + ee) + j) * 3 + 1 : Nat) : Int))), (10, .int (iI ((j : Nat) : Int))), (9, .int (iI ((i - pp : Nat) : Int))), (8, .int (iI ((ee : Nat) : Int))), (7, .int (iI ((pp : Nat) : Int))), (6, .int (iI (((Z 0 : Nat) : Int) - ((i : Nat) : Int)))), (5, .int (iI ((i : Nat) : Int))), (4, .int (iI ((1 : Nat) : Int))), (3, .int (iI gl)), (2, .int (iI ((j : Nat) : Int))), (1, .int (iI ((i : Nat) : Int))), (0, .ref mo)]) d_Mo_crossesGap_151 (by decide) rfl ?_
              refine r_iload hX 1 d_Mo_crossesGap_153 rfl ?_
              refine r_iload hX 10 d_Mo_crossesGap_155 rfl ?_
              refine r_if_eq hX 164 d_Mo_crossesGap_157 (by decide) (by unfold iR; omega) (fun h157 => by exfalso; omega) (fun h157 => ?_)
              refine r_iconstN hX 1 d_Mo_crossesGap_160 rfl ?_
              refine r_goto hX 165 d_Mo_crossesGap_161 (by decide) ?_
              refine r_icmp_eq hX 196 d_Mo_crossesGap_165 (by decide) (by unfold iR; omega) (by unfold iR; omega) (fun h165 => by exfalso; omega) (fun h165 => ?_)
              refine r_aload_n hX 14 d_Mo_crossesGap_168 rfl ?_
              refine r_get hX cf_Mo 0 rfl 15 (by decide) fl_Mo_42 rfl d_Mo_crossesGap_169 ?_
              refine r_iload hX 0 d_Mo_crossesGap_172 rfl ?_
              refine r_iald hX 3 0 rfl rfl ((97 * (i - pp) + j) * 3 + 0) rfl (by omega) (by decide) d_Mo_crossesGap_174 ?_
              refine r_ldc hX (-100000000) ct_Mo_79 (by decide) d_Mo_crossesGap_175 ?_
              have J197 : F 197 [(14, .int (iI (((97 * (i - pp) + j) * 3 + 0 : Nat) : Int))), (13, .int (iI ((0 : Nat) : Int))), (12, .int (iI (ra_g1 (ra_mg Z L SC op mr fr pt) (i - pp) j (pp + ee)))), (11, .int (iI (((97 * (i + ee) + j) * 3 + 1 : Nat) : Int))), (10, .int (iI ((j : Nat) : Int))), (9, .int (iI ((i - pp : Nat) : Int))), (8, .int (iI ((ee : Nat) : Int))), (7, .int (iI ((pp : Nat) : Int))), (6, .int (iI (((Z 0 : Nat) : Int) - ((i : Nat) : Int)))), (5, .int (iI ((i : Nat) : Int))), (4, .int (iI ((1 : Nat) : Int))), (3, .int (iI gl)), (2, .int (iI ((j : Nat) : Int))), (1, .int (iI ((i : Nat) : Int))), (0, .ref mo)] [.int (iI (bI (¬ Y ((97 * (i - pp) + j) * 3 + 0) = -100000000 ∧ ¬ T ((97 * (i + ee) + j) * 3 + 1) = -100000000)))] [(mo, .inr (10, [.int (iI cd), .ref ml, .ref mz, .ref ms, .int (iI op), .int (iI mr), .int (iI (bI (ld = true))), .int (iI (bI (pt = true))), .int (iI ((fr : Nat) : Int)), .ref mt, .int (iI ((sn : Nat) : Int)), .ref mb, .ref me, .ref bt, .ref wy, .ref lq, .ref df, .int (iI ((dn : Nat) : Int))])), (mz, .inl (tI, 2, .inl (iA (iN Z)))), (bt, .inl (tI, 28227, .inl (iA T))), (lq, .inl (tI, 28227, .inl (iA Y)))] 0 0 := by
                refine r_istore hX (lv' := [(15, .int (iI (bI (¬ Y ((97 * (i - pp) + j) * 3 + 0) = -100000000 ∧ ¬ T ((97 * (i + ee) + j) * 3 + 1) = -100000000)))), (14, .int (iI (((97 * (i - pp) + j) * 3 + 0 : Nat) : Int))), (13, .int (iI ((0 : Nat) : Int))), (12, .int (iI (ra_g1 (ra_mg Z L SC op mr fr pt) (i - pp) j (pp + ee)))), (11, .int (iI (((97 * (i + ee) + j) * 3 + 1 : Nat) : Int))), (10, .int (iI ((j : Nat) : Int))), (9, .int (iI ((i - pp : Nat) : Int))), (8, .int (iI ((ee : Nat) : Int))), (7, .int (iI ((pp : Nat) : Int))), (6, .int (iI (((Z 0 : Nat) : Int) - ((i : Nat) : Int)))), (5, .int (iI ((i : Nat) : Int))), (4, .int (iI ((1 : Nat) : Int))), (3, .int (iI gl)), (2, .int (iI ((j : Nat) : Int))), (1, .int (iI ((i : Nat) : Int))), (0, .ref mo)]) d_Mo_crossesGap_197 (by decide) rfl ?_
                refine r_iload hX 0 d_Mo_crossesGap_199 rfl ?_
                have J228 : ∀ (uu : Unit), (¬ ra_cA (ra_mg Z L SC op mr fr pt) Y T gl i j pp ee 0) → F 228 [(15, .int (iI (bI (¬ Y ((97 * (i - pp) + j) * 3 + 0) = -100000000 ∧ ¬ T ((97 * (i + ee) + j) * 3 + 1) = -100000000)))), (14, .int (iI (((97 * (i - pp) + j) * 3 + 0 : Nat) : Int))), (13, .int (iI ((0 : Nat) : Int))), (12, .int (iI (ra_g1 (ra_mg Z L SC op mr fr pt) (i - pp) j (pp + ee)))), (11, .int (iI (((97 * (i + ee) + j) * 3 + 1 : Nat) : Int))), (10, .int (iI ((j : Nat) : Int))), (9, .int (iI ((i - pp : Nat) : Int))), (8, .int (iI ((ee : Nat) : Int))), (7, .int (iI ((pp : Nat) : Int))), (6, .int (iI (((Z 0 : Nat) : Int) - ((i : Nat) : Int)))), (5, .int (iI ((i : Nat) : Int))), (4, .int (iI ((1 : Nat) : Int))), (3, .int (iI gl)), (2, .int (iI ((j : Nat) : Int))), (1, .int (iI ((i : Nat) : Int))), (0, .ref mo)] [] [(mo, .inr (10, [.int (iI cd), .ref ml, .ref mz, .ref ms, .int (iI op), .int (iI mr), .int (iI (bI (ld = true))), .int (iI (bI (pt = true))), .int (iI ((fr : Nat) : Int)), .ref mt, .int (iI ((sn : Nat) : Int)), .ref mb, .ref me, .ref bt, .ref wy, .ref lq, .ref df, .int (iI ((dn : Nat) : Int))])), (mz, .inl (tI, 2, .inl (iA (iN Z)))), (bt, .inl (tI, 28227, .inl (iA T))), (lq, .inl (tI, 28227, .inl (iA Y)))] 0 0 := by
                  intro uu hc0
                  refine r_iincN hX (lv' := [(13, .int (iI ((0 + 1 : Nat) : Int))), (15, .int (iI (bI (¬ Y ((97 * (i - pp) + j) * 3 + 0) = -100000000 ∧ ¬ T ((97 * (i + ee) + j) * 3 + 1) = -100000000)))), (14, .int (iI (((97 * (i - pp) + j) * 3 + 0 : Nat) : Int))), (12, .int (iI (ra_g1 (ra_mg Z L SC op mr fr pt) (i - pp) j (pp + ee)))), (11, .int (iI (((97 * (i + ee) + j) * 3 + 1 : Nat) : Int))), (10, .int (iI ((j : Nat) : Int))), (9, .int (iI ((i - pp : Nat) : Int))), (8, .int (iI ((ee : Nat) : Int))), (7, .int (iI ((pp : Nat) : Int))), (6, .int (iI (((Z 0 : Nat) : Int) - ((i : Nat) : Int)))), (5, .int (iI ((i : Nat) : Int))), (4, .int (iI ((1 : Nat) : Int))), (3, .int (iI gl)), (2, .int (iI ((j : Nat) : Int))), (1, .int (iI ((i : Nat) : Int))), (0, .ref mo)]) 2 d_Mo_crossesGap_228 rfl (by decide) rfl ?_
                  refine r_goto hX 136 d_Mo_crossesGap_231 (by decide) ?_
                  refine r_iload hX 0 d_Mo_crossesGap_136 rfl ?_
                  refine r_iconstN hX 3 d_Mo_crossesGap_138 rfl ?_
                  refine r_icmp_ge hX 234 d_Mo_crossesGap_139 (by decide) (by unfold iR; omega) (by unfold iR; omega) (fun h139 => by exfalso; omega) (fun h139 => ?_)
                  refine r_iload hX 6 d_Mo_crossesGap_142 rfl ?_
                  refine r_iload hX 5 d_Mo_crossesGap_144 rfl ?_
                  refine r_iload hX 0 d_Mo_crossesGap_146 rfl ?_
                  refine r_invS_i0 (st := []) (As := [.int (iI ((i - pp : Nat) : Int)), .int (iI ((j : Nat) : Int)), .int (iI ((0 + 1 : Nat) : Int))]) (wr := [(mo, .inr (10, [.int (iI cd), .ref ml, .ref mz, .ref ms, .int (iI op), .int (iI mr), .int (iI (bI (ld = true))), .int (iI (bI (pt = true))), .int (iI ((fr : Nat) : Int)), .ref mt, .int (iI ((sn : Nat) : Int)), .ref mb, .ref me, .ref bt, .ref wy, .ref lq, .ref df, .int (iI ((dn : Nat) : Int))])), (mz, .inl (tI, 2, .inl (iA (iN Z)))), (bt, .inl (tI, 28227, .inl (iA T))), (lq, .inl (tI, 28227, .inl (iA Y)))]) hX (c_Mo_at l D tI tJ tZ (i - pp) j (0 + 1)) yn_Mo_at ml_Mo_72 st_Mo_at co_Mo_at in_Mo (by decide) (by decide) (by decide) [] [0, 1, 2, 3] rfl rfl rfl rfl rfl (by decide) rfl rfl (Nat.le_of_ble_eq_true rfl) d_Mo_crossesGap_148 [0, 1, 2, 3] rfl (w2 := fun _ => [(mo, .inr (10, [.int (iI cd), .ref ml, .ref mz, .ref ms, .int (iI op), .int (iI mr), .int (iI (bI (ld = true))), .int (iI (bI (pt = true))), .int (iI ((fr : Nat) : Int)), .ref mt, .int (iI ((sn : Nat) : Int)), .ref mb, .ref me, .ref bt, .ref wy, .ref lq, .ref df, .int (iI ((dn : Nat) : Int))])), (mz, .inl (tI, 2, .inl (iA (iN Z)))), (bt, .inl (tI, 28227, .inl (iA T))), (lq, .inl (tI, 28227, .inl (iA Y)))]) (fun _ => rfl) (fun r148 _ e148 => ?_)
                  subst e148
                  refine r_istore hX (lv' := [(14, .int (iI (((97 * (i - pp) + j) * 3 + (0 + 1) : Nat) : Int))), (13, .int (iI ((0 + 1 : Nat) : Int))), (15, .int (iI (bI (¬ Y ((97 * (i - pp) + j) * 3 + 0) = -100000000 ∧ ¬ T ((97 * (i + ee) + j) * 3 + 1) = -100000000)))), (12, .int (iI (ra_g1 (ra_mg Z L SC op mr fr pt) (i - pp) j (pp + ee)))), (11, .int (iI (((97 * (i + ee) + j) * 3 + 1 : Nat) : Int))), (10, .int (iI ((j : Nat) : Int))), (9, .int (iI ((i - pp : Nat) : Int))), (8, .int (iI ((ee : Nat) : Int))), (7, .int (iI ((pp : Nat) : Int))), (6, .int (iI (((Z 0 : Nat) : Int) - ((i : Nat) : Int)))), (5, .int (iI ((i : Nat) : Int))), (4, .int (iI ((1 : Nat) : Int))), (3, .int (iI gl)), (2, .int (iI ((j : Nat) : Int))), (1, .int (iI ((i : Nat) : Int))), (0, .ref mo)]) d_Mo_crossesGap_151 (by decide) rfl ?_
                  refine r_iload hX 1 d_Mo_crossesGap_153 rfl ?_
                  refine r_iload hX 11 d_Mo_crossesGap_155 rfl ?_
                  refine r_if_eq hX 164 d_Mo_crossesGap_157 (by decide) (by unfold iR; omega) (fun h157 => by exfalso; omega) (fun h157 => ?_)
                  refine r_iconstN hX 1 d_Mo_crossesGap_160 rfl ?_
                  refine r_goto hX 165 d_Mo_crossesGap_161 (by decide) ?_
                  refine r_icmp_eq hX 196 d_Mo_crossesGap_165 (by decide) (by unfold iR; omega) (by unfold iR; omega) (fun h165 => ?_) (fun h165 => by exfalso; omega)
                  refine r_iconstN hX 0 d_Mo_crossesGap_196 rfl ?_
                  refine r_istore hX (lv' := [(15, .int (iI ((0 : Nat) : Int))), (14, .int (iI (((97 * (i - pp) + j) * 3 + (0 + 1) : Nat) : Int))), (13, .int (iI ((0 + 1 : Nat) : Int))), (12, .int (iI (ra_g1 (ra_mg Z L SC op mr fr pt) (i - pp) j (pp + ee)))), (11, .int (iI (((97 * (i + ee) + j) * 3 + 1 : Nat) : Int))), (10, .int (iI ((j : Nat) : Int))), (9, .int (iI ((i - pp : Nat) : Int))), (8, .int (iI ((ee : Nat) : Int))), (7, .int (iI ((pp : Nat) : Int))), (6, .int (iI (((Z 0 : Nat) : Int) - ((i : Nat) : Int)))), (5, .int (iI ((i : Nat) : Int))), (4, .int (iI ((1 : Nat) : Int))), (3, .int (iI gl)), (2, .int (iI ((j : Nat) : Int))), (1, .int (iI ((i : Nat) : Int))), (0, .ref mo)]) d_Mo_crossesGap_197 (by decide) rfl ?_
                  refine r_iload hX 0 d_Mo_crossesGap_199 rfl ?_
                  have J228_3 : ∀ (uu : Unit), (¬ ra_cA (ra_mg Z L SC op mr fr pt) Y T gl i j pp ee (0 + 1)) → F 228 [(15, .int (iI ((0 : Nat) : Int))), (14, .int (iI (((97 * (i - pp) + j) * 3 + (0 + 1) : Nat) : Int))), (13, .int (iI ((0 + 1 : Nat) : Int))), (12, .int (iI (ra_g1 (ra_mg Z L SC op mr fr pt) (i - pp) j (pp + ee)))), (11, .int (iI (((97 * (i + ee) + j) * 3 + 1 : Nat) : Int))), (10, .int (iI ((j : Nat) : Int))), (9, .int (iI ((i - pp : Nat) : Int))), (8, .int (iI ((ee : Nat) : Int))), (7, .int (iI ((pp : Nat) : Int))), (6, .int (iI (((Z 0 : Nat) : Int) - ((i : Nat) : Int)))), (5, .int (iI ((i : Nat) : Int))), (4, .int (iI ((1 : Nat) : Int))), (3, .int (iI gl)), (2, .int (iI ((j : Nat) : Int))), (1, .int (iI ((i : Nat) : Int))), (0, .ref mo)] [] [(mo, .inr (10, [.int (iI cd), .ref ml, .ref mz, .ref ms, .int (iI op), .int (iI mr), .int (iI (bI (ld = true))), .int (iI (bI (pt = true))), .int (iI ((fr : Nat) : Int)), .ref mt, .int (iI ((sn : Nat) : Int)), .ref mb, .ref me, .ref bt, .ref wy, .ref lq, .ref df, .int (iI ((dn : Nat) : Int))])), (mz, .inl (tI, 2, .inl (iA (iN Z)))), (bt, .inl (tI, 28227, .inl (iA T))), (lq, .inl (tI, 28227, .inl (iA Y)))] 0 0 := by
                    intro uu hc1
                    refine r_iincN hX (lv' := [(13, .int (iI ((0 + 1 + 1 : Nat) : Int))), (15, .int (iI ((0 : Nat) : Int))), (14, .int (iI (((97 * (i - pp) + j) * 3 + (0 + 1) : Nat) : Int))), (12, .int (iI (ra_g1 (ra_mg Z L SC op mr fr pt) (i - pp) j (pp + ee)))), (11, .int (iI (((97 * (i + ee) + j) * 3 + 1 : Nat) : Int))), (10, .int (iI ((j : Nat) : Int))), (9, .int (iI ((i - pp : Nat) : Int))), (8, .int (iI ((ee : Nat) : Int))), (7, .int (iI ((pp : Nat) : Int))), (6, .int (iI (((Z 0 : Nat) : Int) - ((i : Nat) : Int)))), (5, .int (iI ((i : Nat) : Int))), (4, .int (iI ((1 : Nat) : Int))), (3, .int (iI gl)), (2, .int (iI ((j : Nat) : Int))), (1, .int (iI ((i : Nat) : Int))), (0, .ref mo)]) 2 d_Mo_crossesGap_228 rfl (by decide) rfl ?_
                    refine r_goto hX 136 d_Mo_crossesGap_231 (by decide) ?_
                    refine r_iload hX 0 d_Mo_crossesGap_136 rfl ?_
                    refine r_iconstN hX 3 d_Mo_crossesGap_138 rfl ?_
                    refine r_icmp_ge hX 234 d_Mo_crossesGap_139 (by decide) (by unfold iR; omega) (by unfold iR; omega) (fun h139 => by exfalso; omega) (fun h139 => ?_)
                    refine r_iload hX 6 d_Mo_crossesGap_142 rfl ?_
                    refine r_iload hX 5 d_Mo_crossesGap_144 rfl ?_
                    refine r_iload hX 0 d_Mo_crossesGap_146 rfl ?_
                    refine r_invS_i0 (st := []) (As := [.int (iI ((i - pp : Nat) : Int)), .int (iI ((j : Nat) : Int)), .int (iI ((0 + 1 + 1 : Nat) : Int))]) (wr := [(mo, .inr (10, [.int (iI cd), .ref ml, .ref mz, .ref ms, .int (iI op), .int (iI mr), .int (iI (bI (ld = true))), .int (iI (bI (pt = true))), .int (iI ((fr : Nat) : Int)), .ref mt, .int (iI ((sn : Nat) : Int)), .ref mb, .ref me, .ref bt, .ref wy, .ref lq, .ref df, .int (iI ((dn : Nat) : Int))])), (mz, .inl (tI, 2, .inl (iA (iN Z)))), (bt, .inl (tI, 28227, .inl (iA T))), (lq, .inl (tI, 28227, .inl (iA Y)))]) hX (c_Mo_at l D tI tJ tZ (i - pp) j (0 + 1 + 1)) yn_Mo_at ml_Mo_72 st_Mo_at co_Mo_at in_Mo (by decide) (by decide) (by decide) [] [0, 1, 2, 3] rfl rfl rfl rfl rfl (by decide) rfl rfl (Nat.le_of_ble_eq_true rfl) d_Mo_crossesGap_148 [0, 1, 2, 3] rfl (w2 := fun _ => [(mo, .inr (10, [.int (iI cd), .ref ml, .ref mz, .ref ms, .int (iI op), .int (iI mr), .int (iI (bI (ld = true))), .int (iI (bI (pt = true))), .int (iI ((fr : Nat) : Int)), .ref mt, .int (iI ((sn : Nat) : Int)), .ref mb, .ref me, .ref bt, .ref wy, .ref lq, .ref df, .int (iI ((dn : Nat) : Int))])), (mz, .inl (tI, 2, .inl (iA (iN Z)))), (bt, .inl (tI, 28227, .inl (iA T))), (lq, .inl (tI, 28227, .inl (iA Y)))]) (fun _ => rfl) (fun r148 _ e148 => ?_)
                    subst e148
                    refine r_istore hX (lv' := [(14, .int (iI (((97 * (i - pp) + j) * 3 + (0 + 1 + 1) : Nat) : Int))), (13, .int (iI ((0 + 1 + 1 : Nat) : Int))), (15, .int (iI ((0 : Nat) : Int))), (12, .int (iI (ra_g1 (ra_mg Z L SC op mr fr pt) (i - pp) j (pp + ee)))), (11, .int (iI (((97 * (i + ee) + j) * 3 + 1 : Nat) : Int))), (10, .int (iI ((j : Nat) : Int))), (9, .int (iI ((i - pp : Nat) : Int))), (8, .int (iI ((ee : Nat) : Int))), (7, .int (iI ((pp : Nat) : Int))), (6, .int (iI (((Z 0 : Nat) : Int) - ((i : Nat) : Int)))), (5, .int (iI ((i : Nat) : Int))), (4, .int (iI ((1 : Nat) : Int))), (3, .int (iI gl)), (2, .int (iI ((j : Nat) : Int))), (1, .int (iI ((i : Nat) : Int))), (0, .ref mo)]) d_Mo_crossesGap_151 (by decide) rfl ?_
                    refine r_iload hX 1 d_Mo_crossesGap_153 rfl ?_
                    refine r_iload hX 11 d_Mo_crossesGap_155 rfl ?_
                    refine r_if_eq hX 164 d_Mo_crossesGap_157 (by decide) (by unfold iR; omega) (fun h157 => by exfalso; omega) (fun h157 => ?_)
                    refine r_iconstN hX 1 d_Mo_crossesGap_160 rfl ?_
                    refine r_goto hX 165 d_Mo_crossesGap_161 (by decide) ?_
                    refine r_icmp_eq hX 196 d_Mo_crossesGap_165 (by decide) (by unfold iR; omega) (by unfold iR; omega) (fun h165 => by exfalso; omega) (fun h165 => ?_)
                    refine r_aload_n hX 15 d_Mo_crossesGap_168 rfl ?_
                    refine r_get hX cf_Mo 0 rfl 15 (by decide) fl_Mo_42 rfl d_Mo_crossesGap_169 ?_
                    refine r_iload hX 0 d_Mo_crossesGap_172 rfl ?_
                    refine r_iald hX 3 0 rfl rfl ((97 * (i - pp) + j) * 3 + (0 + 1 + 1)) rfl (by omega) (by decide) d_Mo_crossesGap_174 ?_
                    refine r_ldc hX (-100000000) ct_Mo_79 (by decide) d_Mo_crossesGap_175 ?_
                    have J197_4 : F 197 [(14, .int (iI (((97 * (i - pp) + j) * 3 + (0 + 1 + 1) : Nat) : Int))), (13, .int (iI ((0 + 1 + 1 : Nat) : Int))), (15, .int (iI ((0 : Nat) : Int))), (12, .int (iI (ra_g1 (ra_mg Z L SC op mr fr pt) (i - pp) j (pp + ee)))), (11, .int (iI (((97 * (i + ee) + j) * 3 + 1 : Nat) : Int))), (10, .int (iI ((j : Nat) : Int))), (9, .int (iI ((i - pp : Nat) : Int))), (8, .int (iI ((ee : Nat) : Int))), (7, .int (iI ((pp : Nat) : Int))), (6, .int (iI (((Z 0 : Nat) : Int) - ((i : Nat) : Int)))), (5, .int (iI ((i : Nat) : Int))), (4, .int (iI ((1 : Nat) : Int))), (3, .int (iI gl)), (2, .int (iI ((j : Nat) : Int))), (1, .int (iI ((i : Nat) : Int))), (0, .ref mo)] [.int (iI (bI (¬ Y ((97 * (i - pp) + j) * 3 + (0 + 1 + 1)) = -100000000 ∧ ¬ T ((97 * (i + ee) + j) * 3 + 1) = -100000000)))] [(mo, .inr (10, [.int (iI cd), .ref ml, .ref mz, .ref ms, .int (iI op), .int (iI mr), .int (iI (bI (ld = true))), .int (iI (bI (pt = true))), .int (iI ((fr : Nat) : Int)), .ref mt, .int (iI ((sn : Nat) : Int)), .ref mb, .ref me, .ref bt, .ref wy, .ref lq, .ref df, .int (iI ((dn : Nat) : Int))])), (mz, .inl (tI, 2, .inl (iA (iN Z)))), (bt, .inl (tI, 28227, .inl (iA T))), (lq, .inl (tI, 28227, .inl (iA Y)))] 0 0 := by
                      refine r_istore hX (lv' := [(15, .int (iI (bI (¬ Y ((97 * (i - pp) + j) * 3 + (0 + 1 + 1)) = -100000000 ∧ ¬ T ((97 * (i + ee) + j) * 3 + 1) = -100000000)))), (14, .int (iI (((97 * (i - pp) + j) * 3 + (0 + 1 + 1) : Nat) : Int))), (13, .int (iI ((0 + 1 + 1 : Nat) : Int))), (12, .int (iI (ra_g1 (ra_mg Z L SC op mr fr pt) (i - pp) j (pp + ee)))), (11, .int (iI (((97 * (i + ee) + j) * 3 + 1 : Nat) : Int))), (10, .int (iI ((j : Nat) : Int))), (9, .int (iI ((i - pp : Nat) : Int))), (8, .int (iI ((ee : Nat) : Int))), (7, .int (iI ((pp : Nat) : Int))), (6, .int (iI (((Z 0 : Nat) : Int) - ((i : Nat) : Int)))), (5, .int (iI ((i : Nat) : Int))), (4, .int (iI ((1 : Nat) : Int))), (3, .int (iI gl)), (2, .int (iI ((j : Nat) : Int))), (1, .int (iI ((i : Nat) : Int))), (0, .ref mo)]) d_Mo_crossesGap_197 (by decide) rfl ?_
                      refine r_iload hX 0 d_Mo_crossesGap_199 rfl ?_
                      have J228_5 : ∀ (uu : Unit), (¬ ra_cA (ra_mg Z L SC op mr fr pt) Y T gl i j pp ee (0 + 1 + 1)) → F 228 [(15, .int (iI (bI (¬ Y ((97 * (i - pp) + j) * 3 + (0 + 1 + 1)) = -100000000 ∧ ¬ T ((97 * (i + ee) + j) * 3 + 1) = -100000000)))), (14, .int (iI (((97 * (i - pp) + j) * 3 + (0 + 1 + 1) : Nat) : Int))), (13, .int (iI ((0 + 1 + 1 : Nat) : Int))), (12, .int (iI (ra_g1 (ra_mg Z L SC op mr fr pt) (i - pp) j (pp + ee)))), (11, .int (iI (((97 * (i + ee) + j) * 3 + 1 : Nat) : Int))), (10, .int (iI ((j : Nat) : Int))), (9, .int (iI ((i - pp : Nat) : Int))), (8, .int (iI ((ee : Nat) : Int))), (7, .int (iI ((pp : Nat) : Int))), (6, .int (iI (((Z 0 : Nat) : Int) - ((i : Nat) : Int)))), (5, .int (iI ((i : Nat) : Int))), (4, .int (iI ((1 : Nat) : Int))), (3, .int (iI gl)), (2, .int (iI ((j : Nat) : Int))), (1, .int (iI ((i : Nat) : Int))), (0, .ref mo)] [] [(mo, .inr (10, [.int (iI cd), .ref ml, .ref mz, .ref ms, .int (iI op), .int (iI mr), .int (iI (bI (ld = true))), .int (iI (bI (pt = true))), .int (iI ((fr : Nat) : Int)), .ref mt, .int (iI ((sn : Nat) : Int)), .ref mb, .ref me, .ref bt, .ref wy, .ref lq, .ref df, .int (iI ((dn : Nat) : Int))])), (mz, .inl (tI, 2, .inl (iA (iN Z)))), (bt, .inl (tI, 28227, .inl (iA T))), (lq, .inl (tI, 28227, .inl (iA Y)))] 0 0 := by
                        intro uu hc2
                        refine r_iincN hX (lv' := [(13, .int (iI ((0 + 1 + 1 + 1 : Nat) : Int))), (15, .int (iI (bI (¬ Y ((97 * (i - pp) + j) * 3 + (0 + 1 + 1)) = -100000000 ∧ ¬ T ((97 * (i + ee) + j) * 3 + 1) = -100000000)))), (14, .int (iI (((97 * (i - pp) + j) * 3 + (0 + 1 + 1) : Nat) : Int))), (12, .int (iI (ra_g1 (ra_mg Z L SC op mr fr pt) (i - pp) j (pp + ee)))), (11, .int (iI (((97 * (i + ee) + j) * 3 + 1 : Nat) : Int))), (10, .int (iI ((j : Nat) : Int))), (9, .int (iI ((i - pp : Nat) : Int))), (8, .int (iI ((ee : Nat) : Int))), (7, .int (iI ((pp : Nat) : Int))), (6, .int (iI (((Z 0 : Nat) : Int) - ((i : Nat) : Int)))), (5, .int (iI ((i : Nat) : Int))), (4, .int (iI ((1 : Nat) : Int))), (3, .int (iI gl)), (2, .int (iI ((j : Nat) : Int))), (1, .int (iI ((i : Nat) : Int))), (0, .ref mo)]) 2 d_Mo_crossesGap_228 rfl (by decide) rfl ?_
                        refine r_goto hX 136 d_Mo_crossesGap_231 (by decide) ?_
                        refine r_iload hX 0 d_Mo_crossesGap_136 rfl ?_
                        refine r_iconstN hX 3 d_Mo_crossesGap_138 rfl ?_
                        refine r_icmp_ge hX 234 d_Mo_crossesGap_139 (by decide) (by unfold iR; omega) (by unfold iR; omega) (fun h139 => ?_) (fun h139 => by exfalso; omega)
                        refine r_iincN hX (lv' := [(8, .int (iI ((ee + 1 : Nat) : Int))), (13, .int (iI ((0 + 1 + 1 + 1 : Nat) : Int))), (15, .int (iI (bI (¬ Y ((97 * (i - pp) + j) * 3 + (0 + 1 + 1)) = -100000000 ∧ ¬ T ((97 * (i + ee) + j) * 3 + 1) = -100000000)))), (14, .int (iI (((97 * (i - pp) + j) * 3 + (0 + 1 + 1) : Nat) : Int))), (12, .int (iI (ra_g1 (ra_mg Z L SC op mr fr pt) (i - pp) j (pp + ee)))), (11, .int (iI (((97 * (i + ee) + j) * 3 + 1 : Nat) : Int))), (10, .int (iI ((j : Nat) : Int))), (9, .int (iI ((i - pp : Nat) : Int))), (7, .int (iI ((pp : Nat) : Int))), (6, .int (iI (((Z 0 : Nat) : Int) - ((i : Nat) : Int)))), (5, .int (iI ((i : Nat) : Int))), (4, .int (iI ((1 : Nat) : Int))), (3, .int (iI gl)), (2, .int (iI ((j : Nat) : Int))), (1, .int (iI ((i : Nat) : Int))), (0, .ref mo)]) 7 d_Mo_crossesGap_234 rfl (by decide) rfl ?_
                        refine r_goto hX 51 d_Mo_crossesGap_237 (by decide) ?_
                        refine r_lv hX (lv' := [(8, .int (iI ((ee + 1 : Nat) : Int))), (7, .int (iI ((pp : Nat) : Int))), (6, .int (iI (((Z 0 : Nat) : Int) - ((i : Nat) : Int)))), (5, .int (iI ((i : Nat) : Int))), (4, .int (iI ((1 : Nat) : Int))), (3, .int (iI gl)), (2, .int (iI ((j : Nat) : Int))), (1, .int (iI ((i : Nat) : Int))), (0, .ref mo)]) [0, 8, 9, 10, 11, 12, 13, 14, 15] rfl ?_
                        exact ih51 _ (by omega) (ee + 1) rfl (by omega) (ra_NA_s hNE hc0 hc1 hc2)
                      refine rb_if_eq hX 228 d_Mo_crossesGap_201 (by decide) (fun h201 => ?_) (fun h201 => ?_)
                      · exact J228_5 (()) (fun q => by first | exact h201 q.2.1 | exact h223 q.2.2)
                      · refine r_aload_n hX 15 d_Mo_crossesGap_204 rfl ?_
                        refine r_get hX cf_Mo 0 rfl 15 (by decide) fl_Mo_42 rfl d_Mo_crossesGap_205 ?_
                        refine r_iload hX 1 d_Mo_crossesGap_208 rfl ?_
                        refine r_iald hX 3 0 rfl rfl ((97 * (i - pp) + j) * 3 + (0 + 1 + 1)) rfl (by omega) (by decide) d_Mo_crossesGap_210 ?_
                        refine r_iload hX 3 d_Mo_crossesGap_211 rfl ?_
                        refine r_isub hX d_Mo_crossesGap_213 ?_
                        refine r_aload_n hX 15 d_Mo_crossesGap_214 rfl ?_
                        refine r_get hX cf_Mo 0 rfl 13 (by decide) fl_Mo_35 rfl d_Mo_crossesGap_215 ?_
                        refine r_iload hX 4 d_Mo_crossesGap_218 rfl ?_
                        refine r_iald hX 2 0 rfl rfl ((97 * (i + ee) + j) * 3 + 1) rfl (by omega) (by decide) d_Mo_crossesGap_220 ?_
                        refine r_iadd hX d_Mo_crossesGap_221 ?_
                        refine r_iload_n hX 12 d_Mo_crossesGap_222 rfl ?_
                        refine r_icmp_ne hX 228 d_Mo_crossesGap_223 (by decide) (by unfold iR; omega) (by unfold iR; omega) (fun h223 => ?_) (fun h223 => ?_)
                        · exact J228_5 (()) (fun q => by first | exact h201 q.2.1 | exact h223 q.2.2)
                        · refine r_iconstN hX 1 d_Mo_crossesGap_226 rfl ?_
                          exact r_zret hX hT (by decide) () (congrArg iI (bI_t (ra_tv_iff.2 ⟨pp, ee, 0 + 1 + 1, by omega, by omega, by omega, (show i + ee ≤ Z 0 by omega), ⟨by omega, by omega⟩, h201, h223⟩)).symm) rfl (by decide) (by decide) d_Mo_crossesGap_227
                    refine r_icmp_eq hX 196 d_Mo_crossesGap_177 (by decide) (by unfold iR; omega) (by unfold iR; omega) (fun h177 => ?_) (fun h177 => ?_)
                    · refine r_iconstN hX 0 d_Mo_crossesGap_196 rfl ?_
                      exact rj_0 (by omega) J197_4
                    · refine r_aload_n hX 15 d_Mo_crossesGap_180 rfl ?_
                      refine r_get hX cf_Mo 0 rfl 13 (by decide) fl_Mo_35 rfl d_Mo_crossesGap_181 ?_
                      refine r_iload hX 4 d_Mo_crossesGap_184 rfl ?_
                      refine r_iald hX 2 0 rfl rfl ((97 * (i + ee) + j) * 3 + 1) rfl (by omega) (by decide) d_Mo_crossesGap_186 ?_
                      refine r_ldc hX (-100000000) ct_Mo_79 (by decide) d_Mo_crossesGap_187 ?_
                      refine r_icmp_eq hX 196 d_Mo_crossesGap_189 (by decide) (by unfold iR; omega) (by unfold iR; omega) (fun h189 => ?_) (fun h189 => ?_)
                      · refine r_iconstN hX 0 d_Mo_crossesGap_196 rfl ?_
                        exact rj_0 (by omega) J197_4
                      · refine r_iconstN hX 1 d_Mo_crossesGap_192 rfl ?_
                        refine r_goto hX 197 d_Mo_crossesGap_193 (by decide) ?_
                        exact rj_1 (by omega) J197_4
                  refine r_if_eq hX 228 d_Mo_crossesGap_201 (by decide) (by unfold iR; omega) (fun h201 => ?_) (fun h201 => by exfalso; omega)
                  exact J228_3 (()) (fun q => q.1.2 rfl)
                refine rb_if_eq hX 228 d_Mo_crossesGap_201 (by decide) (fun h201 => ?_) (fun h201 => ?_)
                · exact J228 (()) (fun q => by first | exact h201 q.2.1 | exact h223 q.2.2)
                · refine r_aload_n hX 15 d_Mo_crossesGap_204 rfl ?_
                  refine r_get hX cf_Mo 0 rfl 15 (by decide) fl_Mo_42 rfl d_Mo_crossesGap_205 ?_
                  refine r_iload hX 1 d_Mo_crossesGap_208 rfl ?_
                  refine r_iald hX 3 0 rfl rfl ((97 * (i - pp) + j) * 3 + 0) rfl (by omega) (by decide) d_Mo_crossesGap_210 ?_
                  refine r_iload hX 3 d_Mo_crossesGap_211 rfl ?_
                  refine r_isub hX d_Mo_crossesGap_213 ?_
                  refine r_aload_n hX 15 d_Mo_crossesGap_214 rfl ?_
                  refine r_get hX cf_Mo 0 rfl 13 (by decide) fl_Mo_35 rfl d_Mo_crossesGap_215 ?_
                  refine r_iload hX 4 d_Mo_crossesGap_218 rfl ?_
                  refine r_iald hX 2 0 rfl rfl ((97 * (i + ee) + j) * 3 + 1) rfl (by omega) (by decide) d_Mo_crossesGap_220 ?_
                  refine r_iadd hX d_Mo_crossesGap_221 ?_
                  refine r_iload_n hX 12 d_Mo_crossesGap_222 rfl ?_
                  refine r_icmp_ne hX 228 d_Mo_crossesGap_223 (by decide) (by unfold iR; omega) (by unfold iR; omega) (fun h223 => ?_) (fun h223 => ?_)
                  · exact J228 (()) (fun q => by first | exact h201 q.2.1 | exact h223 q.2.2)
                  · refine r_iconstN hX 1 d_Mo_crossesGap_226 rfl ?_
                    exact r_zret hX hT (by decide) () (congrArg iI (bI_t (ra_tv_iff.2 ⟨pp, ee, 0, by omega, by omega, by omega, (show i + ee ≤ Z 0 by omega), ⟨by omega, by omega⟩, h201, h223⟩)).symm) rfl (by decide) (by decide) d_Mo_crossesGap_227
              refine r_icmp_eq hX 196 d_Mo_crossesGap_177 (by decide) (by unfold iR; omega) (by unfold iR; omega) (fun h177 => ?_) (fun h177 => ?_)
              · refine r_iconstN hX 0 d_Mo_crossesGap_196 rfl ?_
                exact rj_0 (by omega) J197
              · refine r_aload_n hX 14 d_Mo_crossesGap_180 rfl ?_
                refine r_get hX cf_Mo 0 rfl 13 (by decide) fl_Mo_35 rfl d_Mo_crossesGap_181 ?_
                refine r_iload hX 3 d_Mo_crossesGap_184 rfl ?_
                refine r_iald hX 2 0 rfl rfl ((97 * (i + ee) + j) * 3 + 1) rfl (by omega) (by decide) d_Mo_crossesGap_186 ?_
                refine r_ldc hX (-100000000) ct_Mo_79 (by decide) d_Mo_crossesGap_187 ?_
                refine r_icmp_eq hX 196 d_Mo_crossesGap_189 (by decide) (by unfold iR; omega) (by unfold iR; omega) (fun h189 => ?_) (fun h189 => ?_)
                · refine r_iconstN hX 0 d_Mo_crossesGap_196 rfl ?_
                  exact rj_0 (by omega) J197
                · refine r_iconstN hX 1 d_Mo_crossesGap_192 rfl ?_
                  refine r_goto hX 197 d_Mo_crossesGap_193 (by decide) ?_
                  exact rj_1 (by omega) J197
        exact L51 _ 1 rfl (by omega) hNA
  refine r_lv hX (lv' := [(7, .int (iI ((1 : Nat) : Int))), (6, .int (iI (((Z 0 : Nat) : Int) - ((i : Nat) : Int)))), (5, .int (iI ((i : Nat) : Int))), (4, .int (iI ((1 : Nat) : Int))), (3, .int (iI gl)), (2, .int (iI ((j : Nat) : Int))), (1, .int (iI ((i : Nat) : Int))), (0, .ref mo)]) [0, 1, 2, 7, 6, 5, 4, 3] rfl ?_
  exact L41 _ 1 rfl (by omega) (ra_NA_0 _ _ _ _ _ _)

abbrev rm_Mo_crossesGap_0 : Room := { frames := 1, cells := 0, slots := 0, locals := 29 }
set_option maxHeartbeats 4000000 in
set_option maxRecDepth 100000 in
theorem c_Mo_crossesGap_0 (l : Launch) (D : va_G) (tI tJ tZ : ClassId) (mo : Nat) (ml : Nat) (mz : Nat) (ms : Nat) (mt : Nat) (mb : Nat) (me : Nat) (bt : Nat) (wy : Nat) (lq : Nat) (df : Nat) (cd : Int) (op : Int) (mr : Int) (ld : Bool) (pt : Bool) (fr : Nat) (sn : Nat) (dn : Nat) (L : Nat → Nat) (Z : Nat → Nat) (SC : Nat → Int) (T : Nat → Int) (Y : Nat → Int) (i : Nat) (j : Nat) (gl : Int) (hM : raM Z L SC op mr fr) (hi : i ≤ Z 0) (hj : j ≤ Z 1) (hg : -200000000 ≤ gl ∧ gl ≤ 200000000) (hTM : ra_TM (ra_mg Z L SC op mr fr pt) T) (hYb : ∀ t, -100000000 ≤ Y t ∧ Y t ≤ 400000) : rCi l y_Mo_crossesGap prog_12_method_40_code 16 .boolean rm_Mo_crossesGap_0 D (tysA tI tJ tZ) [.ref mo, .int (iI ((i : Nat) : Int)), .int (iI ((j : Nat) : Int)), .int (iI gl), .int (iI ((0 : Nat) : Int))] [(mo, .inr (10, [.int (iI cd), .ref ml, .ref mz, .ref ms, .int (iI op), .int (iI mr), .int (iI (bI (ld = true))), .int (iI (bI (pt = true))), .int (iI ((fr : Nat) : Int)), .ref mt, .int (iI ((sn : Nat) : Int)), .ref mb, .ref me, .ref bt, .ref wy, .ref lq, .ref df, .int (iI ((dn : Nat) : Int))])), (mz, .inl (tI, 2, .inl (iA (iN Z)))), (bt, .inl (tI, 28227, .inl (iA T))), (lq, .inl (tI, 28227, .inl (iA Y)))] (fun zz (_ : Unit) => zz = iI (bI (ra_tv (ra_XB (ra_mg Z L SC op mr fr pt) Y T gl i j) = true))) (fun (_ : Unit) => [(mo, .inr (10, [.int (iI cd), .ref ml, .ref mz, .ref ms, .int (iI op), .int (iI mr), .int (iI (bI (ld = true))), .int (iI (bI (pt = true))), .int (iI ((fr : Nat) : Int)), .ref mt, .int (iI ((sn : Nat) : Int)), .ref mb, .ref me, .ref bt, .ref wy, .ref lq, .ref df, .int (iI ((dn : Nat) : Int))])), (mz, .inl (tI, 2, .inl (iA (iN Z)))), (bt, .inl (tI, 28227, .inl (iA T))), (lq, .inl (tI, 28227, .inl (iA Y)))]) := by
  intro sz
  refine r_met (by decide) (Nat.le_of_ble_eq_true rfl) ?_
  intro F p e s m args below meth c Q A hX hT hAe hsz hin
  subst hAe
  replace hX : rOK F p l e rm_Mo_crossesGap_0 s m args below meth c Q prog_12_method_40_code 16 "RowAlignerModel" D (tysA tI tJ tZ) _ := hX
  have hM9 := hM
  obtain ⟨hza, hzb, hL, hL2, hS, ho0, ho1, hm0, hm1, hf⟩ := hM9
  have hbd : ra_bd (ra_mg Z L SC op mr fr pt) := hM.bd pt
  show F 0 [(0, .ref mo), (1, .int (iI ((i : Nat) : Int))), (2, .int (iI ((j : Nat) : Int))), (3, .int (iI gl)), (4, .int (iI ((0 : Nat) : Int)))] [] [(mo, .inr (10, [.int (iI cd), .ref ml, .ref mz, .ref ms, .int (iI op), .int (iI mr), .int (iI (bI (ld = true))), .int (iI (bI (pt = true))), .int (iI ((fr : Nat) : Int)), .ref mt, .int (iI ((sn : Nat) : Int)), .ref mb, .ref me, .ref bt, .ref wy, .ref lq, .ref df, .int (iI ((dn : Nat) : Int))])), (mz, .inl (tI, 2, .inl (iA (iN Z)))), (bt, .inl (tI, 28227, .inl (iA T))), (lq, .inl (tI, 28227, .inl (iA Y)))] 0 0
  refine r_iload hX 4 d_Mo_crossesGap_0 rfl ?_
  refine r_if_eq hX 9 d_Mo_crossesGap_2 (by decide) (by unfold iR; omega) (fun h2 => ?_) (fun h2 => by exfalso; omega)
  refine r_iload_n hX 2 d_Mo_crossesGap_9 rfl ?_
  refine r_istore hX (lv' := [(5, .int (iI ((j : Nat) : Int))), (0, .ref mo), (1, .int (iI ((i : Nat) : Int))), (2, .int (iI ((j : Nat) : Int))), (3, .int (iI gl)), (4, .int (iI ((0 : Nat) : Int)))]) d_Mo_crossesGap_10 (by decide) rfl ?_
  refine r_iload hX 5 d_Mo_crossesGap_12 rfl ?_
  refine r_if_eq hX 28 d_Mo_crossesGap_14 (by decide) (by unfold iR; omega) (fun h14 => ?_) (fun h14 => by exfalso; omega)
  refine r_aload_n hX 1 d_Mo_crossesGap_28 rfl ?_
  refine r_get hX cf_Mo 0 rfl 2 (by decide) fl_Mo_13 rfl d_Mo_crossesGap_29 ?_
  refine r_iconstN hX 1 d_Mo_crossesGap_32 rfl ?_
  refine r_ialdN hX 1 0 rfl rfl (1) rfl (by omega) (by decide) d_Mo_crossesGap_33 ?_
  refine r_iload_n hX 3 d_Mo_crossesGap_34 rfl ?_
  refine r_isub hX d_Mo_crossesGap_35 ?_
  refine r_istore hX (lv' := [(6, .int (iI (((Z 1 : Nat) : Int) - ((j : Nat) : Int)))), (5, .int (iI ((j : Nat) : Int))), (0, .ref mo), (1, .int (iI ((i : Nat) : Int))), (2, .int (iI ((j : Nat) : Int))), (3, .int (iI gl)), (4, .int (iI ((0 : Nat) : Int)))]) d_Mo_crossesGap_36 (by decide) rfl ?_
  refine r_iconstN hX 1 d_Mo_crossesGap_38 rfl ?_
  refine r_istore hX (lv' := [(7, .int (iI ((1 : Nat) : Int))), (6, .int (iI (((Z 1 : Nat) : Int) - ((j : Nat) : Int)))), (5, .int (iI ((j : Nat) : Int))), (0, .ref mo), (1, .int (iI ((i : Nat) : Int))), (2, .int (iI ((j : Nat) : Int))), (3, .int (iI gl)), (4, .int (iI ((0 : Nat) : Int)))]) d_Mo_crossesGap_39 (by decide) rfl ?_
  have L41 : ∀ (dd : Nat) (pp : Nat), j + 1 - pp = dd → (1 ≤ pp ∧ pp ≤ j + 1) → (ra_NB (ra_mg Z L SC op mr fr pt) Y T gl i j pp 1) → F 41 [(7, .int (iI ((pp : Nat) : Int))), (6, .int (iI (((Z 1 : Nat) : Int) - ((j : Nat) : Int)))), (5, .int (iI ((j : Nat) : Int))), (4, .int (iI ((0 : Nat) : Int))), (3, .int (iI gl)), (2, .int (iI ((j : Nat) : Int))), (1, .int (iI ((i : Nat) : Int))), (0, .ref mo)] [] [(mo, .inr (10, [.int (iI cd), .ref ml, .ref mz, .ref ms, .int (iI op), .int (iI mr), .int (iI (bI (ld = true))), .int (iI (bI (pt = true))), .int (iI ((fr : Nat) : Int)), .ref mt, .int (iI ((sn : Nat) : Int)), .ref mb, .ref me, .ref bt, .ref wy, .ref lq, .ref df, .int (iI ((dn : Nat) : Int))])), (mz, .inl (tI, 2, .inl (iA (iN Z)))), (bt, .inl (tI, 28227, .inl (iA T))), (lq, .inl (tI, 28227, .inl (iA Y)))] 0 0 := by
    intro dd
    induction dd using Nat.strongRecOn with
    | _ dd ih41 =>
      intro pp hmu41 hpp hNA
      refine r_iload hX 0 d_Mo_crossesGap_41 rfl ?_
      refine r_iload hX 2 d_Mo_crossesGap_43 rfl ?_
      refine r_icmp_gt hX 246 d_Mo_crossesGap_45 (by decide) (by unfold iR; omega) (by unfold iR; omega) (fun h45 => ?_) (fun h45 => ?_)
      · refine r_iconstN hX 0 d_Mo_crossesGap_246 rfl ?_
        exact r_zret hX hT (by decide) () (congrArg iI (bI_f (fun q => ra_NB_end hNA (by omega) (ra_tv_iff.1 q))).symm) rfl (by decide) (by decide) d_Mo_crossesGap_247
      · refine r_iconstN hX 1 d_Mo_crossesGap_48 rfl ?_
        refine r_istore hX (lv' := [(8, .int (iI ((1 : Nat) : Int))), (7, .int (iI ((pp : Nat) : Int))), (6, .int (iI (((Z 1 : Nat) : Int) - ((j : Nat) : Int)))), (5, .int (iI ((j : Nat) : Int))), (4, .int (iI ((0 : Nat) : Int))), (3, .int (iI gl)), (2, .int (iI ((j : Nat) : Int))), (1, .int (iI ((i : Nat) : Int))), (0, .ref mo)]) d_Mo_crossesGap_49 (by decide) rfl ?_
        have L51 : ∀ (dd : Nat) (ee : Nat), Z 1 + 1 - ee = dd → (1 ≤ ee ∧ ee ≤ 97) → (ra_NB (ra_mg Z L SC op mr fr pt) Y T gl i j pp ee) → F 51 [(8, .int (iI ((ee : Nat) : Int))), (7, .int (iI ((pp : Nat) : Int))), (6, .int (iI (((Z 1 : Nat) : Int) - ((j : Nat) : Int)))), (5, .int (iI ((j : Nat) : Int))), (4, .int (iI ((0 : Nat) : Int))), (3, .int (iI gl)), (2, .int (iI ((j : Nat) : Int))), (1, .int (iI ((i : Nat) : Int))), (0, .ref mo)] [] [(mo, .inr (10, [.int (iI cd), .ref ml, .ref mz, .ref ms, .int (iI op), .int (iI mr), .int (iI (bI (ld = true))), .int (iI (bI (pt = true))), .int (iI ((fr : Nat) : Int)), .ref mt, .int (iI ((sn : Nat) : Int)), .ref mb, .ref me, .ref bt, .ref wy, .ref lq, .ref df, .int (iI ((dn : Nat) : Int))])), (mz, .inl (tI, 2, .inl (iA (iN Z)))), (bt, .inl (tI, 28227, .inl (iA T))), (lq, .inl (tI, 28227, .inl (iA Y)))] 0 0 := by
          intro dd
          induction dd using Nat.strongRecOn with
          | _ dd ih51 =>
            intro ee hmu51 hee hNE
            refine r_iload hX 0 d_Mo_crossesGap_51 rfl ?_
            refine r_iload hX 2 d_Mo_crossesGap_53 rfl ?_
            refine r_icmp_gt hX 240 d_Mo_crossesGap_55 (by decide) (by unfold iR; omega) (by unfold iR; omega) (fun h55 => ?_) (fun h55 => ?_)
            · refine r_iincN hX (lv' := [(7, .int (iI ((pp + 1 : Nat) : Int))), (8, .int (iI ((ee : Nat) : Int))), (6, .int (iI (((Z 1 : Nat) : Int) - ((j : Nat) : Int)))), (5, .int (iI ((j : Nat) : Int))), (4, .int (iI ((0 : Nat) : Int))), (3, .int (iI gl)), (2, .int (iI ((j : Nat) : Int))), (1, .int (iI ((i : Nat) : Int))), (0, .ref mo)]) 1 d_Mo_crossesGap_240 rfl (by decide) rfl ?_
              refine r_goto hX 41 d_Mo_crossesGap_243 (by decide) ?_
              refine r_lv hX (lv' := [(7, .int (iI ((pp + 1 : Nat) : Int))), (6, .int (iI (((Z 1 : Nat) : Int) - ((j : Nat) : Int)))), (5, .int (iI ((j : Nat) : Int))), (4, .int (iI ((0 : Nat) : Int))), (3, .int (iI gl)), (2, .int (iI ((j : Nat) : Int))), (1, .int (iI ((i : Nat) : Int))), (0, .ref mo)]) [0, 2, 3, 4, 5, 6, 7, 8] rfl ?_
              exact ih41 _ (by omega) (pp + 1) rfl (by omega) (ra_NB_row hNE (show Z 1 < j + ee by omega))
            · have hTb : -200000000 ≤ T ((97 * i + (j + ee)) * 3 + 2) ∧ T ((97 * i + (j + ee)) * 3 + 2) ≤ 200000000 := ra_TM_bd hbd hTM (by omega) (by change _ ≤ Z 0; omega) (by change _ ≤ Z 1; omega)
              have hgb := ra_g2_bd hbd (i := i) (j := j - pp) (t := pp + ee) (by omega) (by omega)
              have hy0 := hYb ((97 * i + (j - pp)) * 3 + 0)
              have hy1 := hYb ((97 * i + (j - pp)) * 3 + (0 + 1))
              have hy2 := hYb ((97 * i + (j - pp)) * 3 + (0 + 1 + 1))
              refine r_iload hX 4 d_Mo_crossesGap_58 rfl ?_
              refine r_if_eq hX 70 d_Mo_crossesGap_60 (by decide) (by unfold iR; omega) (fun h60 => ?_) (fun h60 => by exfalso; omega)
              refine r_iload_n hX 7 d_Mo_crossesGap_70 rfl ?_
              refine r_istore hX (lv' := [(9, .int (iI ((i : Nat) : Int))), (8, .int (iI ((ee : Nat) : Int))), (7, .int (iI ((pp : Nat) : Int))), (6, .int (iI (((Z 1 : Nat) : Int) - ((j : Nat) : Int)))), (5, .int (iI ((j : Nat) : Int))), (4, .int (iI ((0 : Nat) : Int))), (3, .int (iI gl)), (2, .int (iI ((j : Nat) : Int))), (1, .int (iI ((i : Nat) : Int))), (0, .ref mo)]) d_Mo_crossesGap_71 (by decide) rfl ?_
              refine r_iload hX 5 d_Mo_crossesGap_73 rfl ?_
              refine r_if_eq hX 82 d_Mo_crossesGap_75 (by decide) (by unfold iR; omega) (fun h75 => ?_) (fun h75 => by exfalso; omega)
              refine r_iload_n hX 7 d_Mo_crossesGap_82 rfl ?_
              refine r_iload hX 2 d_Mo_crossesGap_83 rfl ?_
              refine r_isub hX d_Mo_crossesGap_85 ?_
              refine r_eq (lv2 := [(9, .int (iI ((i : Nat) : Int))), (8, .int (iI ((ee : Nat) : Int))), (7, .int (iI ((pp : Nat) : Int))), (6, .int (iI (((Z 1 : Nat) : Int) - ((j : Nat) : Int)))), (5, .int (iI ((j : Nat) : Int))), (4, .int (iI ((0 : Nat) : Int))), (3, .int (iI gl)), (2, .int (iI ((j : Nat) : Int))), (1, .int (iI ((i : Nat) : Int))), (0, .ref mo)]) (st2 := [.int (iI ((j - pp : Nat) : Int))]) (ws2 := [(mo, .inr (10, [.int (iI cd), .ref ml, .ref mz, .ref ms, .int (iI op), .int (iI mr), .int (iI (bI (ld = true))), .int (iI (bI (pt = true))), .int (iI ((fr : Nat) : Int)), .ref mt, .int (iI ((sn : Nat) : Int)), .ref mb, .ref me, .ref bt, .ref wy, .ref lq, .ref df, .int (iI ((dn : Nat) : Int))])), (mz, .inl (tI, 2, .inl (iA (iN Z)))), (bt, .inl (tI, 28227, .inl (iA T))), (lq, .inl (tI, 28227, .inl (iA Y)))]) rfl (by rw [show ((j : Nat) : Int) - ((pp : Nat) : Int) = ((j - pp : Nat) : Int) by omega]) rfl ?_
              refine r_istore hX (lv' := [(10, .int (iI ((j - pp : Nat) : Int))), (9, .int (iI ((i : Nat) : Int))), (8, .int (iI ((ee : Nat) : Int))), (7, .int (iI ((pp : Nat) : Int))), (6, .int (iI (((Z 1 : Nat) : Int) - ((j : Nat) : Int)))), (5, .int (iI ((j : Nat) : Int))), (4, .int (iI ((0 : Nat) : Int))), (3, .int (iI gl)), (2, .int (iI ((j : Nat) : Int))), (1, .int (iI ((i : Nat) : Int))), (0, .ref mo)]) d_Mo_crossesGap_86 (by decide) rfl ?_
              refine r_iload hX 6 d_Mo_crossesGap_88 rfl ?_
              refine r_if_eq hX 105 d_Mo_crossesGap_90 (by decide) (by unfold iR; omega) (fun h90 => ?_) (fun h90 => by exfalso; omega)
              refine r_iload_n hX 9 d_Mo_crossesGap_105 rfl ?_
              refine r_iload_n hX 8 d_Mo_crossesGap_106 rfl ?_
              refine r_iload hX 2 d_Mo_crossesGap_107 rfl ?_
              refine r_iaddN hX d_Mo_crossesGap_109 ?_
              refine r_iconstN hX 2 d_Mo_crossesGap_110 rfl ?_
              refine r_invS_i0 (st := []) (As := [.int (iI ((i : Nat) : Int)), .int (iI ((j + ee : Nat) : Int)), .int (iI ((2 : Nat) : Int))]) (wr := [(mo, .inr (10, [.int (iI cd), .ref ml, .ref mz, .ref ms, .int (iI op), .int (iI mr), .int (iI (bI (ld = true))), .int (iI (bI (pt = true))), .int (iI ((fr : Nat) : Int)), .ref mt, .int (iI ((sn : Nat) : Int)), .ref mb, .ref me, .ref bt, .ref wy, .ref lq, .ref df, .int (iI ((dn : Nat) : Int))])), (mz, .inl (tI, 2, .inl (iA (iN Z)))), (bt, .inl (tI, 28227, .inl (iA T))), (lq, .inl (tI, 28227, .inl (iA Y)))]) hX (c_Mo_at l D tI tJ tZ i (j + ee) 2) yn_Mo_at ml_Mo_72 st_Mo_at co_Mo_at in_Mo (by decide) (by decide) (by decide) [] [0, 1, 2, 3] rfl rfl rfl rfl rfl (by decide) rfl rfl (Nat.le_of_ble_eq_true rfl) d_Mo_crossesGap_111 [0, 1, 2, 3] rfl (w2 := fun _ => [(mo, .inr (10, [.int (iI cd), .ref ml, .ref mz, .ref ms, .int (iI op), .int (iI mr), .int (iI (bI (ld = true))), .int (iI (bI (pt = true))), .int (iI ((fr : Nat) : Int)), .ref mt, .int (iI ((sn : Nat) : Int)), .ref mb, .ref me, .ref bt, .ref wy, .ref lq, .ref df, .int (iI ((dn : Nat) : Int))])), (mz, .inl (tI, 2, .inl (iA (iN Z)))), (bt, .inl (tI, 28227, .inl (iA T))), (lq, .inl (tI, 28227, .inl (iA Y)))]) (fun _ => rfl) (fun r111 _ e111 => ?_)
              subst e111
              refine r_istore hX (lv' := [(11, .int (iI (((97 * i + (j + ee)) * 3 + 2 : Nat) : Int))), (10, .int (iI ((j - pp : Nat) : Int))), (9, .int (iI ((i : Nat) : Int))), (8, .int (iI ((ee : Nat) : Int))), (7, .int (iI ((pp : Nat) : Int))), (6, .int (iI (((Z 1 : Nat) : Int) - ((j : Nat) : Int)))), (5, .int (iI ((j : Nat) : Int))), (4, .int (iI ((0 : Nat) : Int))), (3, .int (iI gl)), (2, .int (iI ((j : Nat) : Int))), (1, .int (iI ((i : Nat) : Int))), (0, .ref mo)]) d_Mo_crossesGap_114 (by decide) rfl ?_
              refine r_aload_n hX 11 d_Mo_crossesGap_116 rfl ?_
              refine r_iload hX 7 d_Mo_crossesGap_117 rfl ?_
              refine r_iload hX 2 d_Mo_crossesGap_119 rfl ?_
              refine r_iload hX 1 d_Mo_crossesGap_121 rfl ?_
              refine r_iload hX 4 d_Mo_crossesGap_123 rfl ?_
              refine r_iload hX 3 d_Mo_crossesGap_125 rfl ?_
              refine r_iaddN hX d_Mo_crossesGap_127 ?_
              refine r_invV_i0 (st := []) (As := [.int (iI ((0 : Nat) : Int)), .int (iI ((i : Nat) : Int)), .int (iI ((j - pp : Nat) : Int)), .int (iI ((pp + ee : Nat) : Int))]) (wr := [(bt, .inl (tI, 28227, .inl (iA T))), (lq, .inl (tI, 28227, .inl (iA Y)))]) hX (c_Mo_gap_0 l D tI tJ tZ mo ml mz ms mt mb me bt wy lq df cd op mr ld pt fr sn dn Z L SC i (j - pp) (pp + ee) (by omega) (by omega) (by omega) hza hzb hf) "RowAlignerModel" 0 10 cf_Mo rfl yn_Mo_gap ml_Mo_88 im_Mo_gap se_Mo_gap co_Mo_gap in_Mo (by decide) (by decide) (by decide) [0, 1] [2, 3] rfl rfl rfl rfl rfl (by decide) rfl rfl (Nat.le_of_ble_eq_true rfl) d_Mo_crossesGap_128 [2, 3, 0, 1] rfl (w2 := fun _ => [(mo, .inr (10, [.int (iI cd), .ref ml, .ref mz, .ref ms, .int (iI op), .int (iI mr), .int (iI (bI (ld = true))), .int (iI (bI (pt = true))), .int (iI ((fr : Nat) : Int)), .ref mt, .int (iI ((sn : Nat) : Int)), .ref mb, .ref me, .ref bt, .ref wy, .ref lq, .ref df, .int (iI ((dn : Nat) : Int))])), (mz, .inl (tI, 2, .inl (iA (iN Z)))), (bt, .inl (tI, 28227, .inl (iA T))), (lq, .inl (tI, 28227, .inl (iA Y)))]) (fun _ => rfl) (fun r128 _ e128 => ?_)
              subst e128
              refine r_istore hX (lv' := [(12, .int (iI (ra_g2 (ra_mg Z L SC op mr fr pt) i (j - pp) (pp + ee)))), (11, .int (iI (((97 * i + (j + ee)) * 3 + 2 : Nat) : Int))), (10, .int (iI ((j - pp : Nat) : Int))), (9, .int (iI ((i : Nat) : Int))), (8, .int (iI ((ee : Nat) : Int))), (7, .int (iI ((pp : Nat) : Int))), (6, .int (iI (((Z 1 : Nat) : Int) - ((j : Nat) : Int)))), (5, .int (iI ((j : Nat) : Int))), (4, .int (iI ((0 : Nat) : Int))), (3, .int (iI gl)), (2, .int (iI ((j : Nat) : Int))), (1, .int (iI ((i : Nat) : Int))), (0, .ref mo)]) d_Mo_crossesGap_131 (by decide) rfl ?_
              refine r_iconstN hX 0 d_Mo_crossesGap_133 rfl ?_
              refine r_istore hX (lv' := [(13, .int (iI ((0 : Nat) : Int))), (12, .int (iI (ra_g2 (ra_mg Z L SC op mr fr pt) i (j - pp) (pp + ee)))), (11, .int (iI (((97 * i + (j + ee)) * 3 + 2 : Nat) : Int))), (10, .int (iI ((j - pp : Nat) : Int))), (9, .int (iI ((i : Nat) : Int))), (8, .int (iI ((ee : Nat) : Int))), (7, .int (iI ((pp : Nat) : Int))), (6, .int (iI (((Z 1 : Nat) : Int) - ((j : Nat) : Int)))), (5, .int (iI ((j : Nat) : Int))), (4, .int (iI ((0 : Nat) : Int))), (3, .int (iI gl)), (2, .int (iI ((j : Nat) : Int))), (1, .int (iI ((i : Nat) : Int))), (0, .ref mo)]) d_Mo_crossesGap_134 (by decide) rfl ?_
              refine r_iload hX 0 d_Mo_crossesGap_136 rfl ?_
              refine r_iconstN hX 3 d_Mo_crossesGap_138 rfl ?_
              refine r_icmp_ge hX 234 d_Mo_crossesGap_139 (by decide) (by unfold iR; omega) (by unfold iR; omega) (fun h139 => by exfalso; omega) (fun h139 => ?_)
              refine r_iload hX 4 d_Mo_crossesGap_142 rfl ?_
              refine r_iload hX 3 d_Mo_crossesGap_144 rfl ?_
              refine r_iload hX 0 d_Mo_crossesGap_146 rfl ?_
              refine r_invS_i0 (st := []) (As := [.int (iI ((i : Nat) : Int)), .int (iI ((j - pp : Nat) : Int)), .int (iI ((0 : Nat) : Int))]) (wr := [(mo, .inr (10, [.int (iI cd), .ref ml, .ref mz, .ref ms, .int (iI op), .int (iI mr), .int (iI (bI (ld = true))), .int (iI (bI (pt = true))), .int (iI ((fr : Nat) : Int)), .ref mt, .int (iI ((sn : Nat) : Int)), .ref mb, .ref me, .ref bt, .ref wy, .ref lq, .ref df, .int (iI ((dn : Nat) : Int))])), (mz, .inl (tI, 2, .inl (iA (iN Z)))), (bt, .inl (tI, 28227, .inl (iA T))), (lq, .inl (tI, 28227, .inl (iA Y)))]) hX (c_Mo_at l D tI tJ tZ i (j - pp) 0) yn_Mo_at ml_Mo_72 st_Mo_at co_Mo_at in_Mo (by decide) (by decide) (by decide) [] [0, 1, 2, 3] rfl rfl rfl rfl rfl (by decide) rfl rfl (Nat.le_of_ble_eq_true rfl) d_Mo_crossesGap_148 [0, 1, 2, 3] rfl (w2 := fun _ => [(mo, .inr (10, [.int (iI cd), .ref ml, .ref mz, .ref ms, .int (iI op), .int (iI mr), .int (iI (bI (ld = true))), .int (iI (bI (pt = true))), .int (iI ((fr : Nat) : Int)), .ref mt, .int (iI ((sn : Nat) : Int)), .ref mb, .ref me, .ref bt, .ref wy, .ref lq, .ref df, .int (iI ((dn : Nat) : Int))])), (mz, .inl (tI, 2, .inl (iA (iN Z)))), (bt, .inl (tI, 28227, .inl (iA T))), (lq, .inl (tI, 28227, .inl (iA Y)))]) (fun _ => rfl) (fun r148 _ e148 => ?_)
              subst e148
              refine r_istore hX (lv' := [(14, .int (iI (((97 * i + (j - pp)) * 3 + 0 : Nat) : Int))), (13, .int (iI ((0 : Nat) : Int))), (12, .int (iI (ra_g2 (ra_mg Z L SC op mr fr pt) i (j - pp) (pp + ee)))), (11, .int (iI (((97 * i + (j + ee)) * 3 + 2 : Nat) : Int))), (10, .int (iI ((j - pp : Nat) : Int))), (9, .int (iI ((i : Nat) : Int))), (8, .int (iI ((ee : Nat) : Int))), (7, .int (iI ((pp : Nat) : Int))), (6, .int (iI (((Z 1 : Nat) : Int) - ((j : Nat) : Int)))), (5, .int (iI ((j : Nat) : Int))), (4, .int (iI ((0 : Nat) : Int))), (3, .int (iI gl)), (2, .int (iI ((j : Nat) : Int))), (1, .int (iI ((i : Nat) : Int))), (0, .ref mo)]) d_Mo_crossesGap_151 (by decide) rfl ?_
              refine r_iload hX 1 d_Mo_crossesGap_153 rfl ?_
              refine r_iload hX 10 d_Mo_crossesGap_155 rfl ?_
              refine r_if_eq hX 164 d_Mo_crossesGap_157 (by decide) (by unfold iR; omega) (fun h157 => ?_) (fun h157 => by exfalso; omega)
              refine r_iconstN hX 2 d_Mo_crossesGap_164 rfl ?_
              refine r_icmp_eq hX 196 d_Mo_crossesGap_165 (by decide) (by unfold iR; omega) (by unfold iR; omega) (fun h165 => by exfalso; omega) (fun h165 => ?_)
              refine r_aload_n hX 14 d_Mo_crossesGap_168 rfl ?_
              refine r_get hX cf_Mo 0 rfl 15 (by decide) fl_Mo_42 rfl d_Mo_crossesGap_169 ?_
              refine r_iload hX 0 d_Mo_crossesGap_172 rfl ?_
              refine r_iald hX 3 0 rfl rfl ((97 * i + (j - pp)) * 3 + 0) rfl (by omega) (by decide) d_Mo_crossesGap_174 ?_
              refine r_ldc hX (-100000000) ct_Mo_79 (by decide) d_Mo_crossesGap_175 ?_
              have J197 : F 197 [(14, .int (iI (((97 * i + (j - pp)) * 3 + 0 : Nat) : Int))), (13, .int (iI ((0 : Nat) : Int))), (12, .int (iI (ra_g2 (ra_mg Z L SC op mr fr pt) i (j - pp) (pp + ee)))), (11, .int (iI (((97 * i + (j + ee)) * 3 + 2 : Nat) : Int))), (10, .int (iI ((j - pp : Nat) : Int))), (9, .int (iI ((i : Nat) : Int))), (8, .int (iI ((ee : Nat) : Int))), (7, .int (iI ((pp : Nat) : Int))), (6, .int (iI (((Z 1 : Nat) : Int) - ((j : Nat) : Int)))), (5, .int (iI ((j : Nat) : Int))), (4, .int (iI ((0 : Nat) : Int))), (3, .int (iI gl)), (2, .int (iI ((j : Nat) : Int))), (1, .int (iI ((i : Nat) : Int))), (0, .ref mo)] [.int (iI (bI (¬ Y ((97 * i + (j - pp)) * 3 + 0) = -100000000 ∧ ¬ T ((97 * i + (j + ee)) * 3 + 2) = -100000000)))] [(mo, .inr (10, [.int (iI cd), .ref ml, .ref mz, .ref ms, .int (iI op), .int (iI mr), .int (iI (bI (ld = true))), .int (iI (bI (pt = true))), .int (iI ((fr : Nat) : Int)), .ref mt, .int (iI ((sn : Nat) : Int)), .ref mb, .ref me, .ref bt, .ref wy, .ref lq, .ref df, .int (iI ((dn : Nat) : Int))])), (mz, .inl (tI, 2, .inl (iA (iN Z)))), (bt, .inl (tI, 28227, .inl (iA T))), (lq, .inl (tI, 28227, .inl (iA Y)))] 0 0 := by
                refine r_istore hX (lv' := [(15, .int (iI (bI (¬ Y ((97 * i + (j - pp)) * 3 + 0) = -100000000 ∧ ¬ T ((97 * i + (j + ee)) * 3 + 2) = -100000000)))), (14, .int (iI (((97 * i + (j - pp)) * 3 + 0 : Nat) : Int))), (13, .int (iI ((0 : Nat) : Int))), (12, .int (iI (ra_g2 (ra_mg Z L SC op mr fr pt) i (j - pp) (pp + ee)))), (11, .int (iI (((97 * i + (j + ee)) * 3 + 2 : Nat) : Int))), (10, .int (iI ((j - pp : Nat) : Int))), (9, .int (iI ((i : Nat) : Int))), (8, .int (iI ((ee : Nat) : Int))), (7, .int (iI ((pp : Nat) : Int))), (6, .int (iI (((Z 1 : Nat) : Int) - ((j : Nat) : Int)))), (5, .int (iI ((j : Nat) : Int))), (4, .int (iI ((0 : Nat) : Int))), (3, .int (iI gl)), (2, .int (iI ((j : Nat) : Int))), (1, .int (iI ((i : Nat) : Int))), (0, .ref mo)]) d_Mo_crossesGap_197 (by decide) rfl ?_
                refine r_iload hX 0 d_Mo_crossesGap_199 rfl ?_
                have J228 : ∀ (uu : Unit), (¬ ra_cB (ra_mg Z L SC op mr fr pt) Y T gl i j pp ee 0) → F 228 [(15, .int (iI (bI (¬ Y ((97 * i + (j - pp)) * 3 + 0) = -100000000 ∧ ¬ T ((97 * i + (j + ee)) * 3 + 2) = -100000000)))), (14, .int (iI (((97 * i + (j - pp)) * 3 + 0 : Nat) : Int))), (13, .int (iI ((0 : Nat) : Int))), (12, .int (iI (ra_g2 (ra_mg Z L SC op mr fr pt) i (j - pp) (pp + ee)))), (11, .int (iI (((97 * i + (j + ee)) * 3 + 2 : Nat) : Int))), (10, .int (iI ((j - pp : Nat) : Int))), (9, .int (iI ((i : Nat) : Int))), (8, .int (iI ((ee : Nat) : Int))), (7, .int (iI ((pp : Nat) : Int))), (6, .int (iI (((Z 1 : Nat) : Int) - ((j : Nat) : Int)))), (5, .int (iI ((j : Nat) : Int))), (4, .int (iI ((0 : Nat) : Int))), (3, .int (iI gl)), (2, .int (iI ((j : Nat) : Int))), (1, .int (iI ((i : Nat) : Int))), (0, .ref mo)] [] [(mo, .inr (10, [.int (iI cd), .ref ml, .ref mz, .ref ms, .int (iI op), .int (iI mr), .int (iI (bI (ld = true))), .int (iI (bI (pt = true))), .int (iI ((fr : Nat) : Int)), .ref mt, .int (iI ((sn : Nat) : Int)), .ref mb, .ref me, .ref bt, .ref wy, .ref lq, .ref df, .int (iI ((dn : Nat) : Int))])), (mz, .inl (tI, 2, .inl (iA (iN Z)))), (bt, .inl (tI, 28227, .inl (iA T))), (lq, .inl (tI, 28227, .inl (iA Y)))] 0 0 := by
                  intro uu hc0
                  refine r_iincN hX (lv' := [(13, .int (iI ((0 + 1 : Nat) : Int))), (15, .int (iI (bI (¬ Y ((97 * i + (j - pp)) * 3 + 0) = -100000000 ∧ ¬ T ((97 * i + (j + ee)) * 3 + 2) = -100000000)))), (14, .int (iI (((97 * i + (j - pp)) * 3 + 0 : Nat) : Int))), (12, .int (iI (ra_g2 (ra_mg Z L SC op mr fr pt) i (j - pp) (pp + ee)))), (11, .int (iI (((97 * i + (j + ee)) * 3 + 2 : Nat) : Int))), (10, .int (iI ((j - pp : Nat) : Int))), (9, .int (iI ((i : Nat) : Int))), (8, .int (iI ((ee : Nat) : Int))), (7, .int (iI ((pp : Nat) : Int))), (6, .int (iI (((Z 1 : Nat) : Int) - ((j : Nat) : Int)))), (5, .int (iI ((j : Nat) : Int))), (4, .int (iI ((0 : Nat) : Int))), (3, .int (iI gl)), (2, .int (iI ((j : Nat) : Int))), (1, .int (iI ((i : Nat) : Int))), (0, .ref mo)]) 2 d_Mo_crossesGap_228 rfl (by decide) rfl ?_
                  refine r_goto hX 136 d_Mo_crossesGap_231 (by decide) ?_
                  refine r_iload hX 0 d_Mo_crossesGap_136 rfl ?_
                  refine r_iconstN hX 3 d_Mo_crossesGap_138 rfl ?_
                  refine r_icmp_ge hX 234 d_Mo_crossesGap_139 (by decide) (by unfold iR; omega) (by unfold iR; omega) (fun h139 => by exfalso; omega) (fun h139 => ?_)
                  refine r_iload hX 6 d_Mo_crossesGap_142 rfl ?_
                  refine r_iload hX 5 d_Mo_crossesGap_144 rfl ?_
                  refine r_iload hX 0 d_Mo_crossesGap_146 rfl ?_
                  refine r_invS_i0 (st := []) (As := [.int (iI ((i : Nat) : Int)), .int (iI ((j - pp : Nat) : Int)), .int (iI ((0 + 1 : Nat) : Int))]) (wr := [(mo, .inr (10, [.int (iI cd), .ref ml, .ref mz, .ref ms, .int (iI op), .int (iI mr), .int (iI (bI (ld = true))), .int (iI (bI (pt = true))), .int (iI ((fr : Nat) : Int)), .ref mt, .int (iI ((sn : Nat) : Int)), .ref mb, .ref me, .ref bt, .ref wy, .ref lq, .ref df, .int (iI ((dn : Nat) : Int))])), (mz, .inl (tI, 2, .inl (iA (iN Z)))), (bt, .inl (tI, 28227, .inl (iA T))), (lq, .inl (tI, 28227, .inl (iA Y)))]) hX (c_Mo_at l D tI tJ tZ i (j - pp) (0 + 1)) yn_Mo_at ml_Mo_72 st_Mo_at co_Mo_at in_Mo (by decide) (by decide) (by decide) [] [0, 1, 2, 3] rfl rfl rfl rfl rfl (by decide) rfl rfl (Nat.le_of_ble_eq_true rfl) d_Mo_crossesGap_148 [0, 1, 2, 3] rfl (w2 := fun _ => [(mo, .inr (10, [.int (iI cd), .ref ml, .ref mz, .ref ms, .int (iI op), .int (iI mr), .int (iI (bI (ld = true))), .int (iI (bI (pt = true))), .int (iI ((fr : Nat) : Int)), .ref mt, .int (iI ((sn : Nat) : Int)), .ref mb, .ref me, .ref bt, .ref wy, .ref lq, .ref df, .int (iI ((dn : Nat) : Int))])), (mz, .inl (tI, 2, .inl (iA (iN Z)))), (bt, .inl (tI, 28227, .inl (iA T))), (lq, .inl (tI, 28227, .inl (iA Y)))]) (fun _ => rfl) (fun r148 _ e148 => ?_)
                  subst e148
                  refine r_istore hX (lv' := [(14, .int (iI (((97 * i + (j - pp)) * 3 + (0 + 1) : Nat) : Int))), (13, .int (iI ((0 + 1 : Nat) : Int))), (15, .int (iI (bI (¬ Y ((97 * i + (j - pp)) * 3 + 0) = -100000000 ∧ ¬ T ((97 * i + (j + ee)) * 3 + 2) = -100000000)))), (12, .int (iI (ra_g2 (ra_mg Z L SC op mr fr pt) i (j - pp) (pp + ee)))), (11, .int (iI (((97 * i + (j + ee)) * 3 + 2 : Nat) : Int))), (10, .int (iI ((j - pp : Nat) : Int))), (9, .int (iI ((i : Nat) : Int))), (8, .int (iI ((ee : Nat) : Int))), (7, .int (iI ((pp : Nat) : Int))), (6, .int (iI (((Z 1 : Nat) : Int) - ((j : Nat) : Int)))), (5, .int (iI ((j : Nat) : Int))), (4, .int (iI ((0 : Nat) : Int))), (3, .int (iI gl)), (2, .int (iI ((j : Nat) : Int))), (1, .int (iI ((i : Nat) : Int))), (0, .ref mo)]) d_Mo_crossesGap_151 (by decide) rfl ?_
                  refine r_iload hX 1 d_Mo_crossesGap_153 rfl ?_
                  refine r_iload hX 11 d_Mo_crossesGap_155 rfl ?_
                  refine r_if_eq hX 164 d_Mo_crossesGap_157 (by decide) (by unfold iR; omega) (fun h157 => ?_) (fun h157 => by exfalso; omega)
                  refine r_iconstN hX 2 d_Mo_crossesGap_164 rfl ?_
                  refine r_icmp_eq hX 196 d_Mo_crossesGap_165 (by decide) (by unfold iR; omega) (by unfold iR; omega) (fun h165 => by exfalso; omega) (fun h165 => ?_)
                  refine r_aload_n hX 15 d_Mo_crossesGap_168 rfl ?_
                  refine r_get hX cf_Mo 0 rfl 15 (by decide) fl_Mo_42 rfl d_Mo_crossesGap_169 ?_
                  refine r_iload hX 0 d_Mo_crossesGap_172 rfl ?_
                  refine r_iald hX 3 0 rfl rfl ((97 * i + (j - pp)) * 3 + (0 + 1)) rfl (by omega) (by decide) d_Mo_crossesGap_174 ?_
                  refine r_ldc hX (-100000000) ct_Mo_79 (by decide) d_Mo_crossesGap_175 ?_
                  have J197_3 : F 197 [(14, .int (iI (((97 * i + (j - pp)) * 3 + (0 + 1) : Nat) : Int))), (13, .int (iI ((0 + 1 : Nat) : Int))), (15, .int (iI (bI (¬ Y ((97 * i + (j - pp)) * 3 + 0) = -100000000 ∧ ¬ T ((97 * i + (j + ee)) * 3 + 2) = -100000000)))), (12, .int (iI (ra_g2 (ra_mg Z L SC op mr fr pt) i (j - pp) (pp + ee)))), (11, .int (iI (((97 * i + (j + ee)) * 3 + 2 : Nat) : Int))), (10, .int (iI ((j - pp : Nat) : Int))), (9, .int (iI ((i : Nat) : Int))), (8, .int (iI ((ee : Nat) : Int))), (7, .int (iI ((pp : Nat) : Int))), (6, .int (iI (((Z 1 : Nat) : Int) - ((j : Nat) : Int)))), (5, .int (iI ((j : Nat) : Int))), (4, .int (iI ((0 : Nat) : Int))), (3, .int (iI gl)), (2, .int (iI ((j : Nat) : Int))), (1, .int (iI ((i : Nat) : Int))), (0, .ref mo)] [.int (iI (bI (¬ Y ((97 * i + (j - pp)) * 3 + (0 + 1)) = -100000000 ∧ ¬ T ((97 * i + (j + ee)) * 3 + 2) = -100000000)))] [(mo, .inr (10, [.int (iI cd), .ref ml, .ref mz, .ref ms, .int (iI op), .int (iI mr), .int (iI (bI (ld = true))), .int (iI (bI (pt = true))), .int (iI ((fr : Nat) : Int)), .ref mt, .int (iI ((sn : Nat) : Int)), .ref mb, .ref me, .ref bt, .ref wy, .ref lq, .ref df, .int (iI ((dn : Nat) : Int))])), (mz, .inl (tI, 2, .inl (iA (iN Z)))), (bt, .inl (tI, 28227, .inl (iA T))), (lq, .inl (tI, 28227, .inl (iA Y)))] 0 0 := by
                    refine r_istore hX (lv' := [(15, .int (iI (bI (¬ Y ((97 * i + (j - pp)) * 3 + (0 + 1)) = -100000000 ∧ ¬ T ((97 * i + (j + ee)) * 3 + 2) = -100000000)))), (14, .int (iI (((97 * i + (j - pp)) * 3 + (0 + 1) : Nat) : Int))), (13, .int (iI ((0 + 1 : Nat) : Int))), (12, .int (iI (ra_g2 (ra_mg Z L SC op mr fr pt) i (j - pp) (pp + ee)))), (11, .int (iI (((97 * i + (j + ee)) * 3 + 2 : Nat) : Int))), (10, .int (iI ((j - pp : Nat) : Int))), (9, .int (iI ((i : Nat) : Int))), (8, .int (iI ((ee : Nat) : Int))), (7, .int (iI ((pp : Nat) : Int))), (6, .int (iI (((Z 1 : Nat) : Int) - ((j : Nat) : Int)))), (5, .int (iI ((j : Nat) : Int))), (4, .int (iI ((0 : Nat) : Int))), (3, .int (iI gl)), (2, .int (iI ((j : Nat) : Int))), (1, .int (iI ((i : Nat) : Int))), (0, .ref mo)]) d_Mo_crossesGap_197 (by decide) rfl ?_
                    refine r_iload hX 0 d_Mo_crossesGap_199 rfl ?_
                    have J228_4 : ∀ (uu : Unit), (¬ ra_cB (ra_mg Z L SC op mr fr pt) Y T gl i j pp ee (0 + 1)) → F 228 [(15, .int (iI (bI (¬ Y ((97 * i + (j - pp)) * 3 + (0 + 1)) = -100000000 ∧ ¬ T ((97 * i + (j + ee)) * 3 + 2) = -100000000)))), (14, .int (iI (((97 * i + (j - pp)) * 3 + (0 + 1) : Nat) : Int))), (13, .int (iI ((0 + 1 : Nat) : Int))), (12, .int (iI (ra_g2 (ra_mg Z L SC op mr fr pt) i (j - pp) (pp + ee)))), (11, .int (iI (((97 * i + (j + ee)) * 3 + 2 : Nat) : Int))), (10, .int (iI ((j - pp : Nat) : Int))), (9, .int (iI ((i : Nat) : Int))), (8, .int (iI ((ee : Nat) : Int))), (7, .int (iI ((pp : Nat) : Int))), (6, .int (iI (((Z 1 : Nat) : Int) - ((j : Nat) : Int)))), (5, .int (iI ((j : Nat) : Int))), (4, .int (iI ((0 : Nat) : Int))), (3, .int (iI gl)), (2, .int (iI ((j : Nat) : Int))), (1, .int (iI ((i : Nat) : Int))), (0, .ref mo)] [] [(mo, .inr (10, [.int (iI cd), .ref ml, .ref mz, .ref ms, .int (iI op), .int (iI mr), .int (iI (bI (ld = true))), .int (iI (bI (pt = true))), .int (iI ((fr : Nat) : Int)), .ref mt, .int (iI ((sn : Nat) : Int)), .ref mb, .ref me, .ref bt, .ref wy, .ref lq, .ref df, .int (iI ((dn : Nat) : Int))])), (mz, .inl (tI, 2, .inl (iA (iN Z)))), (bt, .inl (tI, 28227, .inl (iA T))), (lq, .inl (tI, 28227, .inl (iA Y)))] 0 0 := by
                      intro uu hc1
                      refine r_iincN hX (lv' := [(13, .int (iI ((0 + 1 + 1 : Nat) : Int))), (15, .int (iI (bI (¬ Y ((97 * i + (j - pp)) * 3 + (0 + 1)) = -100000000 ∧ ¬ T ((97 * i + (j + ee)) * 3 + 2) = -100000000)))), (14, .int (iI (((97 * i + (j - pp)) * 3 + (0 + 1) : Nat) : Int))), (12, .int (iI (ra_g2 (ra_mg Z L SC op mr fr pt) i (j - pp) (pp + ee)))), (11, .int (iI (((97 * i + (j + ee)) * 3 + 2 : Nat) : Int))), (10, .int (iI ((j - pp : Nat) : Int))), (9, .int (iI ((i : Nat) : Int))), (8, .int (iI ((ee : Nat) : Int))), (7, .int (iI ((pp : Nat) : Int))), (6, .int (iI (((Z 1 : Nat) : Int) - ((j : Nat) : Int)))), (5, .int (iI ((j : Nat) : Int))), (4, .int (iI ((0 : Nat) : Int))), (3, .int (iI gl)), (2, .int (iI ((j : Nat) : Int))), (1, .int (iI ((i : Nat) : Int))), (0, .ref mo)]) 2 d_Mo_crossesGap_228 rfl (by decide) rfl ?_
                      refine r_goto hX 136 d_Mo_crossesGap_231 (by decide) ?_
                      refine r_iload hX 0 d_Mo_crossesGap_136 rfl ?_
                      refine r_iconstN hX 3 d_Mo_crossesGap_138 rfl ?_
                      refine r_icmp_ge hX 234 d_Mo_crossesGap_139 (by decide) (by unfold iR; omega) (by unfold iR; omega) (fun h139 => by exfalso; omega) (fun h139 => ?_)
                      refine r_iload hX 6 d_Mo_crossesGap_142 rfl ?_
                      refine r_iload hX 5 d_Mo_crossesGap_144 rfl ?_
                      refine r_iload hX 0 d_Mo_crossesGap_146 rfl ?_
                      refine r_invS_i0 (st := []) (As := [.int (iI ((i : Nat) : Int)), .int (iI ((j - pp : Nat) : Int)), .int (iI ((0 + 1 + 1 : Nat) : Int))]) (wr := [(mo, .inr (10, [.int (iI cd), .ref ml, .ref mz, .ref ms, .int (iI op), .int (iI mr), .int (iI (bI (ld = true))), .int (iI (bI (pt = true))), .int (iI ((fr : Nat) : Int)), .ref mt, .int (iI ((sn : Nat) : Int)), .ref mb, .ref me, .ref bt, .ref wy, .ref lq, .ref df, .int (iI ((dn : Nat) : Int))])), (mz, .inl (tI, 2, .inl (iA (iN Z)))), (bt, .inl (tI, 28227, .inl (iA T))), (lq, .inl (tI, 28227, .inl (iA Y)))]) hX (c_Mo_at l D tI tJ tZ i (j - pp) (0 + 1 + 1)) yn_Mo_at ml_Mo_72 st_Mo_at co_Mo_at in_Mo (by decide) (by decide) (by decide) [] [0, 1, 2, 3] rfl rfl rfl rfl rfl (by decide) rfl rfl (Nat.le_of_ble_eq_true rfl) d_Mo_crossesGap_148 [0, 1, 2, 3] rfl (w2 := fun _ => [(mo, .inr (10, [.int (iI cd), .ref ml, .ref mz, .ref ms, .int (iI op), .int (iI mr), .int (iI (bI (ld = true))), .int (iI (bI (pt = true))), .int (iI ((fr : Nat) : Int)), .ref mt, .int (iI ((sn : Nat) : Int)), .ref mb, .ref me, .ref bt, .ref wy, .ref lq, .ref df, .int (iI ((dn : Nat) : Int))])), (mz, .inl (tI, 2, .inl (iA (iN Z)))), (bt, .inl (tI, 28227, .inl (iA T))), (lq, .inl (tI, 28227, .inl (iA Y)))]) (fun _ => rfl) (fun r148 _ e148 => ?_)
                      subst e148
                      refine r_istore hX (lv' := [(14, .int (iI (((97 * i + (j - pp)) * 3 + (0 + 1 + 1) : Nat) : Int))), (13, .int (iI ((0 + 1 + 1 : Nat) : Int))), (15, .int (iI (bI (¬ Y ((97 * i + (j - pp)) * 3 + (0 + 1)) = -100000000 ∧ ¬ T ((97 * i + (j + ee)) * 3 + 2) = -100000000)))), (12, .int (iI (ra_g2 (ra_mg Z L SC op mr fr pt) i (j - pp) (pp + ee)))), (11, .int (iI (((97 * i + (j + ee)) * 3 + 2 : Nat) : Int))), (10, .int (iI ((j - pp : Nat) : Int))), (9, .int (iI ((i : Nat) : Int))), (8, .int (iI ((ee : Nat) : Int))), (7, .int (iI ((pp : Nat) : Int))), (6, .int (iI (((Z 1 : Nat) : Int) - ((j : Nat) : Int)))), (5, .int (iI ((j : Nat) : Int))), (4, .int (iI ((0 : Nat) : Int))), (3, .int (iI gl)), (2, .int (iI ((j : Nat) : Int))), (1, .int (iI ((i : Nat) : Int))), (0, .ref mo)]) d_Mo_crossesGap_151 (by decide) rfl ?_
                      refine r_iload hX 1 d_Mo_crossesGap_153 rfl ?_
                      refine r_iload hX 11 d_Mo_crossesGap_155 rfl ?_
                      refine r_if_eq hX 164 d_Mo_crossesGap_157 (by decide) (by unfold iR; omega) (fun h157 => ?_) (fun h157 => by exfalso; omega)
                      refine r_iconstN hX 2 d_Mo_crossesGap_164 rfl ?_
                      refine r_icmp_eq hX 196 d_Mo_crossesGap_165 (by decide) (by unfold iR; omega) (by unfold iR; omega) (fun h165 => ?_) (fun h165 => by exfalso; omega)
                      refine r_iconstN hX 0 d_Mo_crossesGap_196 rfl ?_
                      refine r_istore hX (lv' := [(15, .int (iI ((0 : Nat) : Int))), (14, .int (iI (((97 * i + (j - pp)) * 3 + (0 + 1 + 1) : Nat) : Int))), (13, .int (iI ((0 + 1 + 1 : Nat) : Int))), (12, .int (iI (ra_g2 (ra_mg Z L SC op mr fr pt) i (j - pp) (pp + ee)))), (11, .int (iI (((97 * i + (j + ee)) * 3 + 2 : Nat) : Int))), (10, .int (iI ((j - pp : Nat) : Int))), (9, .int (iI ((i : Nat) : Int))), (8, .int (iI ((ee : Nat) : Int))), (7, .int (iI ((pp : Nat) : Int))), (6, .int (iI (((Z 1 : Nat) : Int) - ((j : Nat) : Int)))), (5, .int (iI ((j : Nat) : Int))), (4, .int (iI ((0 : Nat) : Int))), (3, .int (iI gl)), (2, .int (iI ((j : Nat) : Int))), (1, .int (iI ((i : Nat) : Int))), (0, .ref mo)]) d_Mo_crossesGap_197 (by decide) rfl ?_
                      refine r_iload hX 0 d_Mo_crossesGap_199 rfl ?_
                      have J228_5 : ∀ (uu : Unit), (¬ ra_cB (ra_mg Z L SC op mr fr pt) Y T gl i j pp ee (0 + 1 + 1)) → F 228 [(15, .int (iI ((0 : Nat) : Int))), (14, .int (iI (((97 * i + (j - pp)) * 3 + (0 + 1 + 1) : Nat) : Int))), (13, .int (iI ((0 + 1 + 1 : Nat) : Int))), (12, .int (iI (ra_g2 (ra_mg Z L SC op mr fr pt) i (j - pp) (pp + ee)))), (11, .int (iI (((97 * i + (j + ee)) * 3 + 2 : Nat) : Int))), (10, .int (iI ((j - pp : Nat) : Int))), (9, .int (iI ((i : Nat) : Int))), (8, .int (iI ((ee : Nat) : Int))), (7, .int (iI ((pp : Nat) : Int))), (6, .int (iI (((Z 1 : Nat) : Int) - ((j : Nat) : Int)))), (5, .int (iI ((j : Nat) : Int))), (4, .int (iI ((0 : Nat) : Int))), (3, .int (iI gl)), (2, .int (iI ((j : Nat) : Int))), (1, .int (iI ((i : Nat) : Int))), (0, .ref mo)] [] [(mo, .inr (10, [.int (iI cd), .ref ml, .ref mz, .ref ms, .int (iI op), .int (iI mr), .int (iI (bI (ld = true))), .int (iI (bI (pt = true))), .int (iI ((fr : Nat) : Int)), .ref mt, .int (iI ((sn : Nat) : Int)), .ref mb, .ref me, .ref bt, .ref wy, .ref lq, .ref df, .int (iI ((dn : Nat) : Int))])), (mz, .inl (tI, 2, .inl (iA (iN Z)))), (bt, .inl (tI, 28227, .inl (iA T))), (lq, .inl (tI, 28227, .inl (iA Y)))] 0 0 := by
                        intro uu hc2
                        refine r_iincN hX (lv' := [(13, .int (iI ((0 + 1 + 1 + 1 : Nat) : Int))), (15, .int (iI ((0 : Nat) : Int))), (14, .int (iI (((97 * i + (j - pp)) * 3 + (0 + 1 + 1) : Nat) : Int))), (12, .int (iI (ra_g2 (ra_mg Z L SC op mr fr pt) i (j - pp) (pp + ee)))), (11, .int (iI (((97 * i + (j + ee)) * 3 + 2 : Nat) : Int))), (10, .int (iI ((j - pp : Nat) : Int))), (9, .int (iI ((i : Nat) : Int))), (8, .int (iI ((ee : Nat) : Int))), (7, .int (iI ((pp : Nat) : Int))), (6, .int (iI (((Z 1 : Nat) : Int) - ((j : Nat) : Int)))), (5, .int (iI ((j : Nat) : Int))), (4, .int (iI ((0 : Nat) : Int))), (3, .int (iI gl)), (2, .int (iI ((j : Nat) : Int))), (1, .int (iI ((i : Nat) : Int))), (0, .ref mo)]) 2 d_Mo_crossesGap_228 rfl (by decide) rfl ?_
                        refine r_goto hX 136 d_Mo_crossesGap_231 (by decide) ?_
                        refine r_iload hX 0 d_Mo_crossesGap_136 rfl ?_
                        refine r_iconstN hX 3 d_Mo_crossesGap_138 rfl ?_
                        refine r_icmp_ge hX 234 d_Mo_crossesGap_139 (by decide) (by unfold iR; omega) (by unfold iR; omega) (fun h139 => ?_) (fun h139 => by exfalso; omega)
                        refine r_iincN hX (lv' := [(8, .int (iI ((ee + 1 : Nat) : Int))), (13, .int (iI ((0 + 1 + 1 + 1 : Nat) : Int))), (15, .int (iI ((0 : Nat) : Int))), (14, .int (iI (((97 * i + (j - pp)) * 3 + (0 + 1 + 1) : Nat) : Int))), (12, .int (iI (ra_g2 (ra_mg Z L SC op mr fr pt) i (j - pp) (pp + ee)))), (11, .int (iI (((97 * i + (j + ee)) * 3 + 2 : Nat) : Int))), (10, .int (iI ((j - pp : Nat) : Int))), (9, .int (iI ((i : Nat) : Int))), (7, .int (iI ((pp : Nat) : Int))), (6, .int (iI (((Z 1 : Nat) : Int) - ((j : Nat) : Int)))), (5, .int (iI ((j : Nat) : Int))), (4, .int (iI ((0 : Nat) : Int))), (3, .int (iI gl)), (2, .int (iI ((j : Nat) : Int))), (1, .int (iI ((i : Nat) : Int))), (0, .ref mo)]) 7 d_Mo_crossesGap_234 rfl (by decide) rfl ?_
                        refine r_goto hX 51 d_Mo_crossesGap_237 (by decide) ?_
                        refine r_lv hX (lv' := [(8, .int (iI ((ee + 1 : Nat) : Int))), (7, .int (iI ((pp : Nat) : Int))), (6, .int (iI (((Z 1 : Nat) : Int) - ((j : Nat) : Int)))), (5, .int (iI ((j : Nat) : Int))), (4, .int (iI ((0 : Nat) : Int))), (3, .int (iI gl)), (2, .int (iI ((j : Nat) : Int))), (1, .int (iI ((i : Nat) : Int))), (0, .ref mo)]) [0, 8, 9, 10, 11, 12, 13, 14, 15] rfl ?_
                        exact ih51 _ (by omega) (ee + 1) rfl (by omega) (ra_NB_s hNE hc0 hc1 hc2)
                      refine r_if_eq hX 228 d_Mo_crossesGap_201 (by decide) (by unfold iR; omega) (fun h201 => ?_) (fun h201 => by exfalso; omega)
                      exact J228_5 (()) (fun q => q.1.2 rfl)
                    refine rb_if_eq hX 228 d_Mo_crossesGap_201 (by decide) (fun h201 => ?_) (fun h201 => ?_)
                    · exact J228_4 (()) (fun q => by first | exact h201 q.2.1 | exact h223 q.2.2)
                    · refine r_aload_n hX 15 d_Mo_crossesGap_204 rfl ?_
                      refine r_get hX cf_Mo 0 rfl 15 (by decide) fl_Mo_42 rfl d_Mo_crossesGap_205 ?_
                      refine r_iload hX 1 d_Mo_crossesGap_208 rfl ?_
                      refine r_iald hX 3 0 rfl rfl ((97 * i + (j - pp)) * 3 + (0 + 1)) rfl (by omega) (by decide) d_Mo_crossesGap_210 ?_
                      refine r_iload hX 3 d_Mo_crossesGap_211 rfl ?_
                      refine r_isub hX d_Mo_crossesGap_213 ?_
                      refine r_aload_n hX 15 d_Mo_crossesGap_214 rfl ?_
                      refine r_get hX cf_Mo 0 rfl 13 (by decide) fl_Mo_35 rfl d_Mo_crossesGap_215 ?_
                      refine r_iload hX 4 d_Mo_crossesGap_218 rfl ?_
                      refine r_iald hX 2 0 rfl rfl ((97 * i + (j + ee)) * 3 + 2) rfl (by omega) (by decide) d_Mo_crossesGap_220 ?_
                      refine r_iadd hX d_Mo_crossesGap_221 ?_
                      refine r_iload_n hX 12 d_Mo_crossesGap_222 rfl ?_
                      refine r_icmp_ne hX 228 d_Mo_crossesGap_223 (by decide) (by unfold iR; omega) (by unfold iR; omega) (fun h223 => ?_) (fun h223 => ?_)
                      · exact J228_4 (()) (fun q => by first | exact h201 q.2.1 | exact h223 q.2.2)
                      · refine r_iconstN hX 1 d_Mo_crossesGap_226 rfl ?_
                        exact r_zret hX hT (by decide) () (congrArg iI (bI_t (ra_tv_iff.2 ⟨pp, ee, 0 + 1, by omega, by omega, by omega, (show j + ee ≤ Z 1 by omega), ⟨by omega, by omega⟩, h201, h223⟩)).symm) rfl (by decide) (by decide) d_Mo_crossesGap_227
                  refine r_icmp_eq hX 196 d_Mo_crossesGap_177 (by decide) (by unfold iR; omega) (by unfold iR; omega) (fun h177 => ?_) (fun h177 => ?_)
                  · refine r_iconstN hX 0 d_Mo_crossesGap_196 rfl ?_
                    exact rj_0 (by omega) J197_3
                  · refine r_aload_n hX 15 d_Mo_crossesGap_180 rfl ?_
                    refine r_get hX cf_Mo 0 rfl 13 (by decide) fl_Mo_35 rfl d_Mo_crossesGap_181 ?_
                    refine r_iload hX 4 d_Mo_crossesGap_184 rfl ?_
                    refine r_iald hX 2 0 rfl rfl ((97 * i + (j + ee)) * 3 + 2) rfl (by omega) (by decide) d_Mo_crossesGap_186 ?_
                    refine r_ldc hX (-100000000) ct_Mo_79 (by decide) d_Mo_crossesGap_187 ?_
                    refine r_icmp_eq hX 196 d_Mo_crossesGap_189 (by decide) (by unfold iR; omega) (by unfold iR; omega) (fun h189 => ?_) (fun h189 => ?_)
                    · refine r_iconstN hX 0 d_Mo_crossesGap_196 rfl ?_
                      exact rj_0 (by omega) J197_3
                    · refine r_iconstN hX 1 d_Mo_crossesGap_192 rfl ?_
                      refine r_goto hX 197 d_Mo_crossesGap_193 (by decide) ?_
                      exact rj_1 (by omega) J197_3
                refine rb_if_eq hX 228 d_Mo_crossesGap_201 (by decide) (fun h201 => ?_) (fun h201 => ?_)
                · exact J228 (()) (fun q => by first | exact h201 q.2.1 | exact h223 q.2.2)
                · refine r_aload_n hX 15 d_Mo_crossesGap_204 rfl ?_
                  refine r_get hX cf_Mo 0 rfl 15 (by decide) fl_Mo_42 rfl d_Mo_crossesGap_205 ?_
                  refine r_iload hX 1 d_Mo_crossesGap_208 rfl ?_
                  refine r_iald hX 3 0 rfl rfl ((97 * i + (j - pp)) * 3 + 0) rfl (by omega) (by decide) d_Mo_crossesGap_210 ?_
                  refine r_iload hX 3 d_Mo_crossesGap_211 rfl ?_
                  refine r_isub hX d_Mo_crossesGap_213 ?_
                  refine r_aload_n hX 15 d_Mo_crossesGap_214 rfl ?_
                  refine r_get hX cf_Mo 0 rfl 13 (by decide) fl_Mo_35 rfl d_Mo_crossesGap_215 ?_
                  refine r_iload hX 4 d_Mo_crossesGap_218 rfl ?_
                  refine r_iald hX 2 0 rfl rfl ((97 * i + (j + ee)) * 3 + 2) rfl (by omega) (by decide) d_Mo_crossesGap_220 ?_
                  refine r_iadd hX d_Mo_crossesGap_221 ?_
                  refine r_iload_n hX 12 d_Mo_crossesGap_222 rfl ?_
                  refine r_icmp_ne hX 228 d_Mo_crossesGap_223 (by decide) (by unfold iR; omega) (by unfold iR; omega) (fun h223 => ?_) (fun h223 => ?_)
                  · exact J228 (()) (fun q => by first | exact h201 q.2.1 | exact h223 q.2.2)
                  · refine r_iconstN hX 1 d_Mo_crossesGap_226 rfl ?_
                    exact r_zret hX hT (by decide) () (congrArg iI (bI_t (ra_tv_iff.2 ⟨pp, ee, 0, by omega, by omega, by omega, (show j + ee ≤ Z 1 by omega), ⟨by omega, by omega⟩, h201, h223⟩)).symm) rfl (by decide) (by decide) d_Mo_crossesGap_227
              refine r_icmp_eq hX 196 d_Mo_crossesGap_177 (by decide) (by unfold iR; omega) (by unfold iR; omega) (fun h177 => ?_) (fun h177 => ?_)
              · refine r_iconstN hX 0 d_Mo_crossesGap_196 rfl ?_
                exact rj_0 (by omega) J197
              · refine r_aload_n hX 14 d_Mo_crossesGap_180 rfl ?_
                refine r_get hX cf_Mo 0 rfl 13 (by decide) fl_Mo_35 rfl d_Mo_crossesGap_181 ?_
                refine r_iload hX 3 d_Mo_crossesGap_184 rfl ?_
                refine r_iald hX 2 0 rfl rfl ((97 * i + (j + ee)) * 3 + 2) rfl (by omega) (by decide) d_Mo_crossesGap_186 ?_
                refine r_ldc hX (-100000000) ct_Mo_79 (by decide) d_Mo_crossesGap_187 ?_
                refine r_icmp_eq hX 196 d_Mo_crossesGap_189 (by decide) (by unfold iR; omega) (by unfold iR; omega) (fun h189 => ?_) (fun h189 => ?_)
                · refine r_iconstN hX 0 d_Mo_crossesGap_196 rfl ?_
                  exact rj_0 (by omega) J197
                · refine r_iconstN hX 1 d_Mo_crossesGap_192 rfl ?_
                  refine r_goto hX 197 d_Mo_crossesGap_193 (by decide) ?_
                  exact rj_1 (by omega) J197
        exact L51 _ 1 rfl (by omega) hNA
  refine r_lv hX (lv' := [(7, .int (iI ((1 : Nat) : Int))), (6, .int (iI (((Z 1 : Nat) : Int) - ((j : Nat) : Int)))), (5, .int (iI ((j : Nat) : Int))), (4, .int (iI ((0 : Nat) : Int))), (3, .int (iI gl)), (2, .int (iI ((j : Nat) : Int))), (1, .int (iI ((i : Nat) : Int))), (0, .ref mo)]) [0, 1, 2, 7, 6, 5, 4, 3] rfl ?_
  exact L41 _ 1 rfl (by omega) (ra_NB_0 _ _ _ _ _ _)

abbrev rm_Mo_crosses : Room := { frames := 2, cells := 0, slots := 0, locals := 64 }
set_option maxHeartbeats 4000000 in
set_option maxRecDepth 100000 in
theorem c_Mo_crosses (l : Launch) (D : va_G) (tI tJ tZ : ClassId) (mo : Nat) (ml : Nat) (mz : Nat) (ms : Nat) (mt : Nat) (mb : Nat) (me : Nat) (bt : Nat) (wy : Nat) (lq : Nat) (df : Nat) (cd : Int) (op : Int) (mr : Int) (ld : Bool) (pt : Bool) (fr : Nat) (sn : Nat) (dn : Nat) (L : Nat → Nat) (Z : Nat → Nat) (SC : Nat → Int) (T : Nat → Int) (Y : Nat → Int) (i : Nat) (j : Nat) (gl : Int) (hM : raM Z L SC op mr fr) (hi : i ≤ Z 0) (hj : j ≤ Z 1) (hg : -200000000 ≤ gl ∧ gl ≤ 200000000) (hTM : ra_TM (ra_mg Z L SC op mr fr pt) T) (hYb : ∀ t, -100000000 ≤ Y t ∧ Y t ≤ 400000) : rCi l y_Mo_crosses prog_12_method_39_code 6 .boolean rm_Mo_crosses D (tysA tI tJ tZ) [.ref mo, .int (iI ((i : Nat) : Int)), .int (iI ((j : Nat) : Int)), .int (iI gl)] [(mo, .inr (10, [.int (iI cd), .ref ml, .ref mz, .ref ms, .int (iI op), .int (iI mr), .int (iI (bI (ld = true))), .int (iI (bI (pt = true))), .int (iI ((fr : Nat) : Int)), .ref mt, .int (iI ((sn : Nat) : Int)), .ref mb, .ref me, .ref bt, .ref wy, .ref lq, .ref df, .int (iI ((dn : Nat) : Int))])), (mz, .inl (tI, 2, .inl (iA (iN Z)))), (bt, .inl (tI, 28227, .inl (iA T))), (lq, .inl (tI, 28227, .inl (iA Y)))] (fun zz (_ : Unit) => zz = iI (bI (ra_tv (ra_X (ra_mg Z L SC op mr fr pt) (ra_l9 Y) gl i j) = true))) (fun (_ : Unit) => [(mo, .inr (10, [.int (iI cd), .ref ml, .ref mz, .ref ms, .int (iI op), .int (iI mr), .int (iI (bI (ld = true))), .int (iI (bI (pt = true))), .int (iI ((fr : Nat) : Int)), .ref mt, .int (iI ((sn : Nat) : Int)), .ref mb, .ref me, .ref bt, .ref wy, .ref lq, .ref df, .int (iI ((dn : Nat) : Int))])), (mz, .inl (tI, 2, .inl (iA (iN Z)))), (bt, .inl (tI, 28227, .inl (iA T))), (lq, .inl (tI, 28227, .inl (iA Y)))]) := by
  intro sz
  refine r_met (by decide) (Nat.le_of_ble_eq_true rfl) ?_
  intro F p e s m args below meth c Q A hX hT hAe hsz hin
  subst hAe
  replace hX : rOK F p l e rm_Mo_crosses s m args below meth c Q prog_12_method_39_code 6 "RowAlignerModel" D (tysA tI tJ tZ) _ := hX
  have hM9 := hM
  obtain ⟨hza, hzb, hL, hL2, hS, ho0, ho1, hm0, hm1, hf⟩ := hM9
  have hbd : ra_bd (ra_mg Z L SC op mr fr pt) := hM.bd pt
  have hXo := ra_X_of (Y := Y) hTM (gl := gl) (i := i) (j := j) hi hj
  have hy0 := hYb ((97 * i + j) * 3 + 0)
  have ht0 : -200000000 ≤ T ((97 * i + j) * 3 + 0) ∧ T ((97 * i + j) * 3 + 0) ≤ 200000000 := ra_TM_bd hbd hTM (by omega) hi hj
  have hy1 := hYb ((97 * i + j) * 3 + (0 + 1))
  have ht1 : -200000000 ≤ T ((97 * i + j) * 3 + (0 + 1)) ∧ T ((97 * i + j) * 3 + (0 + 1)) ≤ 200000000 := ra_TM_bd hbd hTM (by omega) hi hj
  have hy2 := hYb ((97 * i + j) * 3 + (0 + 1 + 1))
  have ht2 : -200000000 ≤ T ((97 * i + j) * 3 + (0 + 1 + 1)) ∧ T ((97 * i + j) * 3 + (0 + 1 + 1)) ≤ 200000000 := ra_TM_bd hbd hTM (by omega) hi hj
  show F 0 [(0, .ref mo), (1, .int (iI ((i : Nat) : Int))), (2, .int (iI ((j : Nat) : Int))), (3, .int (iI gl))] [] [(mo, .inr (10, [.int (iI cd), .ref ml, .ref mz, .ref ms, .int (iI op), .int (iI mr), .int (iI (bI (ld = true))), .int (iI (bI (pt = true))), .int (iI ((fr : Nat) : Int)), .ref mt, .int (iI ((sn : Nat) : Int)), .ref mb, .ref me, .ref bt, .ref wy, .ref lq, .ref df, .int (iI ((dn : Nat) : Int))])), (mz, .inl (tI, 2, .inl (iA (iN Z)))), (bt, .inl (tI, 28227, .inl (iA T))), (lq, .inl (tI, 28227, .inl (iA Y)))] 0 0
  refine r_iconstN hX 0 d_Mo_crosses_0 rfl ?_
  refine r_istore hX (lv' := [(4, .int (iI ((0 : Nat) : Int))), (0, .ref mo), (1, .int (iI ((i : Nat) : Int))), (2, .int (iI ((j : Nat) : Int))), (3, .int (iI gl))]) d_Mo_crosses_1 (by decide) rfl ?_
  refine r_iload hX 0 d_Mo_crosses_3 rfl ?_
  refine r_iconstN hX 3 d_Mo_crosses_5 rfl ?_
  refine r_icmp_ge hX 69 d_Mo_crosses_6 (by decide) (by unfold iR; omega) (by unfold iR; omega) (fun h6 => by exfalso; omega) (fun h6 => ?_)
  refine r_iload_n hX 2 d_Mo_crosses_9 rfl ?_
  refine r_iload_n hX 3 d_Mo_crosses_10 rfl ?_
  refine r_iload hX 0 d_Mo_crosses_11 rfl ?_
  refine r_invS_i0 (st := []) (As := [.int (iI ((i : Nat) : Int)), .int (iI ((j : Nat) : Int)), .int (iI ((0 : Nat) : Int))]) (wr := [(mo, .inr (10, [.int (iI cd), .ref ml, .ref mz, .ref ms, .int (iI op), .int (iI mr), .int (iI (bI (ld = true))), .int (iI (bI (pt = true))), .int (iI ((fr : Nat) : Int)), .ref mt, .int (iI ((sn : Nat) : Int)), .ref mb, .ref me, .ref bt, .ref wy, .ref lq, .ref df, .int (iI ((dn : Nat) : Int))])), (mz, .inl (tI, 2, .inl (iA (iN Z)))), (bt, .inl (tI, 28227, .inl (iA T))), (lq, .inl (tI, 28227, .inl (iA Y)))]) hX (c_Mo_at l D tI tJ tZ i j 0) yn_Mo_at ml_Mo_72 st_Mo_at co_Mo_at in_Mo (by decide) (by decide) (by decide) [] [0, 1, 2, 3] rfl rfl rfl rfl rfl (by decide) rfl rfl (Nat.le_of_ble_eq_true rfl) d_Mo_crosses_13 [0, 1, 2, 3] rfl (w2 := fun _ => [(mo, .inr (10, [.int (iI cd), .ref ml, .ref mz, .ref ms, .int (iI op), .int (iI mr), .int (iI (bI (ld = true))), .int (iI (bI (pt = true))), .int (iI ((fr : Nat) : Int)), .ref mt, .int (iI ((sn : Nat) : Int)), .ref mb, .ref me, .ref bt, .ref wy, .ref lq, .ref df, .int (iI ((dn : Nat) : Int))])), (mz, .inl (tI, 2, .inl (iA (iN Z)))), (bt, .inl (tI, 28227, .inl (iA T))), (lq, .inl (tI, 28227, .inl (iA Y)))]) (fun _ => rfl) (fun r13 _ e13 => ?_)
  subst e13
  refine r_istore hX (lv' := [(5, .int (iI (((97 * i + j) * 3 + 0 : Nat) : Int))), (4, .int (iI ((0 : Nat) : Int))), (0, .ref mo), (1, .int (iI ((i : Nat) : Int))), (2, .int (iI ((j : Nat) : Int))), (3, .int (iI gl))]) d_Mo_crosses_16 (by decide) rfl ?_
  refine r_aload_n hX 2 d_Mo_crosses_18 rfl ?_
  refine r_get hX cf_Mo 0 rfl 15 (by decide) fl_Mo_42 rfl d_Mo_crosses_19 ?_
  refine r_iload hX 0 d_Mo_crosses_22 rfl ?_
  refine r_iald hX 3 0 rfl rfl ((97 * i + j) * 3 + 0) rfl (by omega) (by decide) d_Mo_crosses_24 ?_
  refine r_ldc hX (-100000000) ct_Mo_79 (by decide) d_Mo_crosses_25 ?_
  have J63 : ∀ (uu : Unit), (¬ (¬ Y ((97 * i + j) * 3 + 0) = -100000000 ∧ ¬ T ((97 * i + j) * 3 + 0) = -100000000 ∧ Y ((97 * i + j) * 3 + 0) + T ((97 * i + j) * 3 + 0) = gl)) → F 63 [(5, .int (iI (((97 * i + j) * 3 + 0 : Nat) : Int))), (4, .int (iI ((0 : Nat) : Int))), (0, .ref mo), (1, .int (iI ((i : Nat) : Int))), (2, .int (iI ((j : Nat) : Int))), (3, .int (iI gl))] [] [(mo, .inr (10, [.int (iI cd), .ref ml, .ref mz, .ref ms, .int (iI op), .int (iI mr), .int (iI (bI (ld = true))), .int (iI (bI (pt = true))), .int (iI ((fr : Nat) : Int)), .ref mt, .int (iI ((sn : Nat) : Int)), .ref mb, .ref me, .ref bt, .ref wy, .ref lq, .ref df, .int (iI ((dn : Nat) : Int))])), (mz, .inl (tI, 2, .inl (iA (iN Z)))), (bt, .inl (tI, 28227, .inl (iA T))), (lq, .inl (tI, 28227, .inl (iA Y)))] 0 0 := by
    intro uu hc0
    refine r_iincN hX (lv' := [(4, .int (iI ((0 + 1 : Nat) : Int))), (5, .int (iI (((97 * i + j) * 3 + 0 : Nat) : Int))), (0, .ref mo), (1, .int (iI ((i : Nat) : Int))), (2, .int (iI ((j : Nat) : Int))), (3, .int (iI gl))]) 1 d_Mo_crosses_63 rfl (by decide) rfl ?_
    refine r_goto hX 3 d_Mo_crosses_66 (by decide) ?_
    refine r_iload hX 0 d_Mo_crosses_3 rfl ?_
    refine r_iconstN hX 3 d_Mo_crosses_5 rfl ?_
    refine r_icmp_ge hX 69 d_Mo_crosses_6 (by decide) (by unfold iR; omega) (by unfold iR; omega) (fun h6 => by exfalso; omega) (fun h6 => ?_)
    refine r_iload_n hX 3 d_Mo_crosses_9 rfl ?_
    refine r_iload_n hX 4 d_Mo_crosses_10 rfl ?_
    refine r_iload hX 0 d_Mo_crosses_11 rfl ?_
    refine r_invS_i0 (st := []) (As := [.int (iI ((i : Nat) : Int)), .int (iI ((j : Nat) : Int)), .int (iI ((0 + 1 : Nat) : Int))]) (wr := [(mo, .inr (10, [.int (iI cd), .ref ml, .ref mz, .ref ms, .int (iI op), .int (iI mr), .int (iI (bI (ld = true))), .int (iI (bI (pt = true))), .int (iI ((fr : Nat) : Int)), .ref mt, .int (iI ((sn : Nat) : Int)), .ref mb, .ref me, .ref bt, .ref wy, .ref lq, .ref df, .int (iI ((dn : Nat) : Int))])), (mz, .inl (tI, 2, .inl (iA (iN Z)))), (bt, .inl (tI, 28227, .inl (iA T))), (lq, .inl (tI, 28227, .inl (iA Y)))]) hX (c_Mo_at l D tI tJ tZ i j (0 + 1)) yn_Mo_at ml_Mo_72 st_Mo_at co_Mo_at in_Mo (by decide) (by decide) (by decide) [] [0, 1, 2, 3] rfl rfl rfl rfl rfl (by decide) rfl rfl (Nat.le_of_ble_eq_true rfl) d_Mo_crosses_13 [0, 1, 2, 3] rfl (w2 := fun _ => [(mo, .inr (10, [.int (iI cd), .ref ml, .ref mz, .ref ms, .int (iI op), .int (iI mr), .int (iI (bI (ld = true))), .int (iI (bI (pt = true))), .int (iI ((fr : Nat) : Int)), .ref mt, .int (iI ((sn : Nat) : Int)), .ref mb, .ref me, .ref bt, .ref wy, .ref lq, .ref df, .int (iI ((dn : Nat) : Int))])), (mz, .inl (tI, 2, .inl (iA (iN Z)))), (bt, .inl (tI, 28227, .inl (iA T))), (lq, .inl (tI, 28227, .inl (iA Y)))]) (fun _ => rfl) (fun r13 _ e13 => ?_)
    subst e13
    refine r_istore hX (lv' := [(5, .int (iI (((97 * i + j) * 3 + (0 + 1) : Nat) : Int))), (4, .int (iI ((0 + 1 : Nat) : Int))), (0, .ref mo), (1, .int (iI ((i : Nat) : Int))), (2, .int (iI ((j : Nat) : Int))), (3, .int (iI gl))]) d_Mo_crosses_16 (by decide) rfl ?_
    refine r_aload_n hX 2 d_Mo_crosses_18 rfl ?_
    refine r_get hX cf_Mo 0 rfl 15 (by decide) fl_Mo_42 rfl d_Mo_crosses_19 ?_
    refine r_iload hX 0 d_Mo_crosses_22 rfl ?_
    refine r_iald hX 3 0 rfl rfl ((97 * i + j) * 3 + (0 + 1)) rfl (by omega) (by decide) d_Mo_crosses_24 ?_
    refine r_ldc hX (-100000000) ct_Mo_79 (by decide) d_Mo_crosses_25 ?_
    have J63_2 : ∀ (uu : Unit), (¬ (¬ Y ((97 * i + j) * 3 + (0 + 1)) = -100000000 ∧ ¬ T ((97 * i + j) * 3 + (0 + 1)) = -100000000 ∧ Y ((97 * i + j) * 3 + (0 + 1)) + T ((97 * i + j) * 3 + (0 + 1)) = gl)) → F 63 [(5, .int (iI (((97 * i + j) * 3 + (0 + 1) : Nat) : Int))), (4, .int (iI ((0 + 1 : Nat) : Int))), (0, .ref mo), (1, .int (iI ((i : Nat) : Int))), (2, .int (iI ((j : Nat) : Int))), (3, .int (iI gl))] [] [(mo, .inr (10, [.int (iI cd), .ref ml, .ref mz, .ref ms, .int (iI op), .int (iI mr), .int (iI (bI (ld = true))), .int (iI (bI (pt = true))), .int (iI ((fr : Nat) : Int)), .ref mt, .int (iI ((sn : Nat) : Int)), .ref mb, .ref me, .ref bt, .ref wy, .ref lq, .ref df, .int (iI ((dn : Nat) : Int))])), (mz, .inl (tI, 2, .inl (iA (iN Z)))), (bt, .inl (tI, 28227, .inl (iA T))), (lq, .inl (tI, 28227, .inl (iA Y)))] 0 0 := by
      intro uu hc1
      refine r_iincN hX (lv' := [(4, .int (iI ((0 + 1 + 1 : Nat) : Int))), (5, .int (iI (((97 * i + j) * 3 + (0 + 1) : Nat) : Int))), (0, .ref mo), (1, .int (iI ((i : Nat) : Int))), (2, .int (iI ((j : Nat) : Int))), (3, .int (iI gl))]) 1 d_Mo_crosses_63 rfl (by decide) rfl ?_
      refine r_goto hX 3 d_Mo_crosses_66 (by decide) ?_
      refine r_iload hX 0 d_Mo_crosses_3 rfl ?_
      refine r_iconstN hX 3 d_Mo_crosses_5 rfl ?_
      refine r_icmp_ge hX 69 d_Mo_crosses_6 (by decide) (by unfold iR; omega) (by unfold iR; omega) (fun h6 => by exfalso; omega) (fun h6 => ?_)
      refine r_iload_n hX 3 d_Mo_crosses_9 rfl ?_
      refine r_iload_n hX 4 d_Mo_crosses_10 rfl ?_
      refine r_iload hX 0 d_Mo_crosses_11 rfl ?_
      refine r_invS_i0 (st := []) (As := [.int (iI ((i : Nat) : Int)), .int (iI ((j : Nat) : Int)), .int (iI ((0 + 1 + 1 : Nat) : Int))]) (wr := [(mo, .inr (10, [.int (iI cd), .ref ml, .ref mz, .ref ms, .int (iI op), .int (iI mr), .int (iI (bI (ld = true))), .int (iI (bI (pt = true))), .int (iI ((fr : Nat) : Int)), .ref mt, .int (iI ((sn : Nat) : Int)), .ref mb, .ref me, .ref bt, .ref wy, .ref lq, .ref df, .int (iI ((dn : Nat) : Int))])), (mz, .inl (tI, 2, .inl (iA (iN Z)))), (bt, .inl (tI, 28227, .inl (iA T))), (lq, .inl (tI, 28227, .inl (iA Y)))]) hX (c_Mo_at l D tI tJ tZ i j (0 + 1 + 1)) yn_Mo_at ml_Mo_72 st_Mo_at co_Mo_at in_Mo (by decide) (by decide) (by decide) [] [0, 1, 2, 3] rfl rfl rfl rfl rfl (by decide) rfl rfl (Nat.le_of_ble_eq_true rfl) d_Mo_crosses_13 [0, 1, 2, 3] rfl (w2 := fun _ => [(mo, .inr (10, [.int (iI cd), .ref ml, .ref mz, .ref ms, .int (iI op), .int (iI mr), .int (iI (bI (ld = true))), .int (iI (bI (pt = true))), .int (iI ((fr : Nat) : Int)), .ref mt, .int (iI ((sn : Nat) : Int)), .ref mb, .ref me, .ref bt, .ref wy, .ref lq, .ref df, .int (iI ((dn : Nat) : Int))])), (mz, .inl (tI, 2, .inl (iA (iN Z)))), (bt, .inl (tI, 28227, .inl (iA T))), (lq, .inl (tI, 28227, .inl (iA Y)))]) (fun _ => rfl) (fun r13 _ e13 => ?_)
      subst e13
      refine r_istore hX (lv' := [(5, .int (iI (((97 * i + j) * 3 + (0 + 1 + 1) : Nat) : Int))), (4, .int (iI ((0 + 1 + 1 : Nat) : Int))), (0, .ref mo), (1, .int (iI ((i : Nat) : Int))), (2, .int (iI ((j : Nat) : Int))), (3, .int (iI gl))]) d_Mo_crosses_16 (by decide) rfl ?_
      refine r_aload_n hX 2 d_Mo_crosses_18 rfl ?_
      refine r_get hX cf_Mo 0 rfl 15 (by decide) fl_Mo_42 rfl d_Mo_crosses_19 ?_
      refine r_iload hX 0 d_Mo_crosses_22 rfl ?_
      refine r_iald hX 3 0 rfl rfl ((97 * i + j) * 3 + (0 + 1 + 1)) rfl (by omega) (by decide) d_Mo_crosses_24 ?_
      refine r_ldc hX (-100000000) ct_Mo_79 (by decide) d_Mo_crosses_25 ?_
      have J63_3 : ∀ (uu : Unit), (¬ (¬ Y ((97 * i + j) * 3 + (0 + 1 + 1)) = -100000000 ∧ ¬ T ((97 * i + j) * 3 + (0 + 1 + 1)) = -100000000 ∧ Y ((97 * i + j) * 3 + (0 + 1 + 1)) + T ((97 * i + j) * 3 + (0 + 1 + 1)) = gl)) → F 63 [(5, .int (iI (((97 * i + j) * 3 + (0 + 1 + 1) : Nat) : Int))), (4, .int (iI ((0 + 1 + 1 : Nat) : Int))), (0, .ref mo), (1, .int (iI ((i : Nat) : Int))), (2, .int (iI ((j : Nat) : Int))), (3, .int (iI gl))] [] [(mo, .inr (10, [.int (iI cd), .ref ml, .ref mz, .ref ms, .int (iI op), .int (iI mr), .int (iI (bI (ld = true))), .int (iI (bI (pt = true))), .int (iI ((fr : Nat) : Int)), .ref mt, .int (iI ((sn : Nat) : Int)), .ref mb, .ref me, .ref bt, .ref wy, .ref lq, .ref df, .int (iI ((dn : Nat) : Int))])), (mz, .inl (tI, 2, .inl (iA (iN Z)))), (bt, .inl (tI, 28227, .inl (iA T))), (lq, .inl (tI, 28227, .inl (iA Y)))] 0 0 := by
        intro uu hc2
        refine r_iincN hX (lv' := [(4, .int (iI ((0 + 1 + 1 + 1 : Nat) : Int))), (5, .int (iI (((97 * i + j) * 3 + (0 + 1 + 1) : Nat) : Int))), (0, .ref mo), (1, .int (iI ((i : Nat) : Int))), (2, .int (iI ((j : Nat) : Int))), (3, .int (iI gl))]) 1 d_Mo_crosses_63 rfl (by decide) rfl ?_
        refine r_goto hX 3 d_Mo_crosses_66 (by decide) ?_
        refine r_iload hX 0 d_Mo_crosses_3 rfl ?_
        refine r_iconstN hX 3 d_Mo_crosses_5 rfl ?_
        refine r_icmp_ge hX 69 d_Mo_crosses_6 (by decide) (by unfold iR; omega) (by unfold iR; omega) (fun h6 => ?_) (fun h6 => by exfalso; omega)
        refine r_aload_n hX 2 d_Mo_crosses_69 rfl ?_
        refine r_iload_n hX 3 d_Mo_crosses_70 rfl ?_
        refine r_iload_n hX 4 d_Mo_crosses_71 rfl ?_
        refine r_iload_n hX 5 d_Mo_crosses_72 rfl ?_
        refine r_iconstN hX 1 d_Mo_crosses_73 rfl ?_
        refine r_invV_i0 (st := []) (As := [.int (iI ((i : Nat) : Int)), .int (iI ((j : Nat) : Int)), .int (iI gl), .int (iI ((1 : Nat) : Int))]) (wr := []) hX (c_Mo_crossesGap_1 l D tI tJ tZ mo ml mz ms mt mb me bt wy lq df cd op mr ld pt fr sn dn L Z SC T Y i j gl hM hi hj hg hTM hYb) "RowAlignerModel" 0 10 cf_Mo rfl yn_Mo_crossesGap ml_Mo_135 im_Mo_crossesGap se_Mo_crossesGap co_Mo_crossesGap in_Mo (by decide) (by decide) (by decide) [0, 1, 2, 3] [] rfl rfl rfl rfl rfl (by decide) rfl rfl (Nat.le_of_ble_eq_true rfl) d_Mo_crosses_74 [0, 1, 2, 3] rfl (w2 := fun _ => [(mo, .inr (10, [.int (iI cd), .ref ml, .ref mz, .ref ms, .int (iI op), .int (iI mr), .int (iI (bI (ld = true))), .int (iI (bI (pt = true))), .int (iI ((fr : Nat) : Int)), .ref mt, .int (iI ((sn : Nat) : Int)), .ref mb, .ref me, .ref bt, .ref wy, .ref lq, .ref df, .int (iI ((dn : Nat) : Int))])), (mz, .inl (tI, 2, .inl (iA (iN Z)))), (bt, .inl (tI, 28227, .inl (iA T))), (lq, .inl (tI, 28227, .inl (iA Y)))]) (fun _ => rfl) (fun r74 _ e74 => ?_)
        subst e74
        have J96 : F 96 [(4, .int (iI ((0 + 1 + 1 + 1 : Nat) : Int))), (5, .int (iI (((97 * i + j) * 3 + (0 + 1 + 1) : Nat) : Int))), (0, .ref mo), (1, .int (iI ((i : Nat) : Int))), (2, .int (iI ((j : Nat) : Int))), (3, .int (iI gl))] [.int (iI (bI (ra_tv (ra_X (ra_mg Z L SC op mr fr pt) (ra_l9 Y) gl i j) = true)))] [(mo, .inr (10, [.int (iI cd), .ref ml, .ref mz, .ref ms, .int (iI op), .int (iI mr), .int (iI (bI (ld = true))), .int (iI (bI (pt = true))), .int (iI ((fr : Nat) : Int)), .ref mt, .int (iI ((sn : Nat) : Int)), .ref mb, .ref me, .ref bt, .ref wy, .ref lq, .ref df, .int (iI ((dn : Nat) : Int))])), (mz, .inl (tI, 2, .inl (iA (iN Z)))), (bt, .inl (tI, 28227, .inl (iA T))), (lq, .inl (tI, 28227, .inl (iA Y)))] 0 0 := by
          exact r_zret hX hT (bI_01 _) () rfl rfl (by decide) (by decide) d_Mo_crosses_96
        refine rb_if_ne hX 91 d_Mo_crosses_77 (by decide) (fun h77 => ?_) (fun h77 => ?_)
        · refine r_iconstN hX 1 d_Mo_crosses_91 rfl ?_
          refine r_goto hX 96 d_Mo_crosses_92 (by decide) ?_
          exact rj_1 (by first | exact ra_tv_iff.2 (hXo.2 (Or.inr (Or.inl (ra_tv_iff.1 h77)))) | exact ra_tv_iff.2 (hXo.2 (Or.inr (Or.inr (ra_tv_iff.1 h88)))) | (intro q9; rcases hXo.1 (ra_tv_iff.1 q9) with ⟨b9, q1, q2⟩ | q1 | q1; (have cs : b9 = 0 ∨ b9 = 1 ∨ b9 = 2 := (by omega); rcases cs with rfl | rfl | rfl; (exact hc0 q2); (exact hc1 q2); (exact hc2 q2)); (exact h77 (ra_tv_iff.2 q1)); (exact h88 (ra_tv_iff.2 q1)))) J96
        · refine r_aload_n hX 2 d_Mo_crosses_80 rfl ?_
          refine r_iload_n hX 3 d_Mo_crosses_81 rfl ?_
          refine r_iload_n hX 4 d_Mo_crosses_82 rfl ?_
          refine r_iload_n hX 5 d_Mo_crosses_83 rfl ?_
          refine r_iconstN hX 0 d_Mo_crosses_84 rfl ?_
          refine r_invV_i0 (st := []) (As := [.int (iI ((i : Nat) : Int)), .int (iI ((j : Nat) : Int)), .int (iI gl), .int (iI ((0 : Nat) : Int))]) (wr := []) hX (c_Mo_crossesGap_0 l D tI tJ tZ mo ml mz ms mt mb me bt wy lq df cd op mr ld pt fr sn dn L Z SC T Y i j gl hM hi hj hg hTM hYb) "RowAlignerModel" 0 10 cf_Mo rfl yn_Mo_crossesGap ml_Mo_135 im_Mo_crossesGap se_Mo_crossesGap co_Mo_crossesGap in_Mo (by decide) (by decide) (by decide) [0, 1, 2, 3] [] rfl rfl rfl rfl rfl (by decide) rfl rfl (Nat.le_of_ble_eq_true rfl) d_Mo_crosses_85 [0, 1, 2, 3] rfl (w2 := fun _ => [(mo, .inr (10, [.int (iI cd), .ref ml, .ref mz, .ref ms, .int (iI op), .int (iI mr), .int (iI (bI (ld = true))), .int (iI (bI (pt = true))), .int (iI ((fr : Nat) : Int)), .ref mt, .int (iI ((sn : Nat) : Int)), .ref mb, .ref me, .ref bt, .ref wy, .ref lq, .ref df, .int (iI ((dn : Nat) : Int))])), (mz, .inl (tI, 2, .inl (iA (iN Z)))), (bt, .inl (tI, 28227, .inl (iA T))), (lq, .inl (tI, 28227, .inl (iA Y)))]) (fun _ => rfl) (fun r85 _ e85 => ?_)
          subst e85
          refine rb_if_eq hX 95 d_Mo_crosses_88 (by decide) (fun h88 => ?_) (fun h88 => ?_)
          · refine r_iconstN hX 0 d_Mo_crosses_95 rfl ?_
            exact rj_0 (by first | exact ra_tv_iff.2 (hXo.2 (Or.inr (Or.inl (ra_tv_iff.1 h77)))) | exact ra_tv_iff.2 (hXo.2 (Or.inr (Or.inr (ra_tv_iff.1 h88)))) | (intro q9; rcases hXo.1 (ra_tv_iff.1 q9) with ⟨b9, q1, q2⟩ | q1 | q1; (have cs : b9 = 0 ∨ b9 = 1 ∨ b9 = 2 := (by omega); rcases cs with rfl | rfl | rfl; (exact hc0 q2); (exact hc1 q2); (exact hc2 q2)); (exact h77 (ra_tv_iff.2 q1)); (exact h88 (ra_tv_iff.2 q1)))) J96
          · refine r_iconstN hX 1 d_Mo_crosses_91 rfl ?_
            refine r_goto hX 96 d_Mo_crosses_92 (by decide) ?_
            exact rj_1 (by first | exact ra_tv_iff.2 (hXo.2 (Or.inr (Or.inl (ra_tv_iff.1 h77)))) | exact ra_tv_iff.2 (hXo.2 (Or.inr (Or.inr (ra_tv_iff.1 h88)))) | (intro q9; rcases hXo.1 (ra_tv_iff.1 q9) with ⟨b9, q1, q2⟩ | q1 | q1; (have cs : b9 = 0 ∨ b9 = 1 ∨ b9 = 2 := (by omega); rcases cs with rfl | rfl | rfl; (exact hc0 q2); (exact hc1 q2); (exact hc2 q2)); (exact h77 (ra_tv_iff.2 q1)); (exact h88 (ra_tv_iff.2 q1)))) J96
      refine r_icmp_eq hX 63 d_Mo_crosses_27 (by decide) (by unfold iR; omega) (by unfold iR; omega) (fun h27 => ?_) (fun h27 => ?_)
      · exact J63_3 (()) (by omega)
      · refine r_aload_n hX 2 d_Mo_crosses_30 rfl ?_
        refine r_get hX cf_Mo 0 rfl 13 (by decide) fl_Mo_35 rfl d_Mo_crosses_31 ?_
        refine r_iload hX 0 d_Mo_crosses_34 rfl ?_
        refine r_iald hX 2 0 rfl rfl ((97 * i + j) * 3 + (0 + 1 + 1)) rfl (by omega) (by decide) d_Mo_crosses_36 ?_
        refine r_ldc hX (-100000000) ct_Mo_79 (by decide) d_Mo_crosses_37 ?_
        refine r_icmp_eq hX 63 d_Mo_crosses_39 (by decide) (by unfold iR; omega) (by unfold iR; omega) (fun h39 => ?_) (fun h39 => ?_)
        · exact J63_3 (()) (by omega)
        · refine r_aload_n hX 2 d_Mo_crosses_42 rfl ?_
          refine r_get hX cf_Mo 0 rfl 15 (by decide) fl_Mo_42 rfl d_Mo_crosses_43 ?_
          refine r_iload hX 0 d_Mo_crosses_46 rfl ?_
          refine r_iald hX 3 0 rfl rfl ((97 * i + j) * 3 + (0 + 1 + 1)) rfl (by omega) (by decide) d_Mo_crosses_48 ?_
          refine r_aload_n hX 2 d_Mo_crosses_49 rfl ?_
          refine r_get hX cf_Mo 0 rfl 13 (by decide) fl_Mo_35 rfl d_Mo_crosses_50 ?_
          refine r_iload hX 0 d_Mo_crosses_53 rfl ?_
          refine r_iald hX 2 0 rfl rfl ((97 * i + j) * 3 + (0 + 1 + 1)) rfl (by omega) (by decide) d_Mo_crosses_55 ?_
          refine r_iadd hX d_Mo_crosses_56 ?_
          refine r_iload_n hX 5 d_Mo_crosses_57 rfl ?_
          refine r_icmp_ne hX 63 d_Mo_crosses_58 (by decide) (by unfold iR; omega) (by unfold iR; omega) (fun h58 => ?_) (fun h58 => ?_)
          · exact J63_3 (()) (by omega)
          · refine r_iconstN hX 1 d_Mo_crosses_61 rfl ?_
            exact r_zret hX hT (by decide) () (congrArg iI (bI_t (ra_tv_iff.2 (hXo.2 (Or.inl ⟨0 + 1 + 1, by omega, h27, h39, h58⟩)))).symm) rfl (by decide) (by decide) d_Mo_crosses_62
    refine r_icmp_eq hX 63 d_Mo_crosses_27 (by decide) (by unfold iR; omega) (by unfold iR; omega) (fun h27 => ?_) (fun h27 => ?_)
    · exact J63_2 (()) (by omega)
    · refine r_aload_n hX 2 d_Mo_crosses_30 rfl ?_
      refine r_get hX cf_Mo 0 rfl 13 (by decide) fl_Mo_35 rfl d_Mo_crosses_31 ?_
      refine r_iload hX 0 d_Mo_crosses_34 rfl ?_
      refine r_iald hX 2 0 rfl rfl ((97 * i + j) * 3 + (0 + 1)) rfl (by omega) (by decide) d_Mo_crosses_36 ?_
      refine r_ldc hX (-100000000) ct_Mo_79 (by decide) d_Mo_crosses_37 ?_
      refine r_icmp_eq hX 63 d_Mo_crosses_39 (by decide) (by unfold iR; omega) (by unfold iR; omega) (fun h39 => ?_) (fun h39 => ?_)
      · exact J63_2 (()) (by omega)
      · refine r_aload_n hX 2 d_Mo_crosses_42 rfl ?_
        refine r_get hX cf_Mo 0 rfl 15 (by decide) fl_Mo_42 rfl d_Mo_crosses_43 ?_
        refine r_iload hX 0 d_Mo_crosses_46 rfl ?_
        refine r_iald hX 3 0 rfl rfl ((97 * i + j) * 3 + (0 + 1)) rfl (by omega) (by decide) d_Mo_crosses_48 ?_
        refine r_aload_n hX 2 d_Mo_crosses_49 rfl ?_
        refine r_get hX cf_Mo 0 rfl 13 (by decide) fl_Mo_35 rfl d_Mo_crosses_50 ?_
        refine r_iload hX 0 d_Mo_crosses_53 rfl ?_
        refine r_iald hX 2 0 rfl rfl ((97 * i + j) * 3 + (0 + 1)) rfl (by omega) (by decide) d_Mo_crosses_55 ?_
        refine r_iadd hX d_Mo_crosses_56 ?_
        refine r_iload_n hX 5 d_Mo_crosses_57 rfl ?_
        refine r_icmp_ne hX 63 d_Mo_crosses_58 (by decide) (by unfold iR; omega) (by unfold iR; omega) (fun h58 => ?_) (fun h58 => ?_)
        · exact J63_2 (()) (by omega)
        · refine r_iconstN hX 1 d_Mo_crosses_61 rfl ?_
          exact r_zret hX hT (by decide) () (congrArg iI (bI_t (ra_tv_iff.2 (hXo.2 (Or.inl ⟨0 + 1, by omega, h27, h39, h58⟩)))).symm) rfl (by decide) (by decide) d_Mo_crosses_62
  refine r_icmp_eq hX 63 d_Mo_crosses_27 (by decide) (by unfold iR; omega) (by unfold iR; omega) (fun h27 => ?_) (fun h27 => ?_)
  · exact J63 (()) (by omega)
  · refine r_aload_n hX 2 d_Mo_crosses_30 rfl ?_
    refine r_get hX cf_Mo 0 rfl 13 (by decide) fl_Mo_35 rfl d_Mo_crosses_31 ?_
    refine r_iload hX 0 d_Mo_crosses_34 rfl ?_
    refine r_iald hX 2 0 rfl rfl ((97 * i + j) * 3 + 0) rfl (by omega) (by decide) d_Mo_crosses_36 ?_
    refine r_ldc hX (-100000000) ct_Mo_79 (by decide) d_Mo_crosses_37 ?_
    refine r_icmp_eq hX 63 d_Mo_crosses_39 (by decide) (by unfold iR; omega) (by unfold iR; omega) (fun h39 => ?_) (fun h39 => ?_)
    · exact J63 (()) (by omega)
    · refine r_aload_n hX 2 d_Mo_crosses_42 rfl ?_
      refine r_get hX cf_Mo 0 rfl 15 (by decide) fl_Mo_42 rfl d_Mo_crosses_43 ?_
      refine r_iload hX 0 d_Mo_crosses_46 rfl ?_
      refine r_iald hX 3 0 rfl rfl ((97 * i + j) * 3 + 0) rfl (by omega) (by decide) d_Mo_crosses_48 ?_
      refine r_aload_n hX 2 d_Mo_crosses_49 rfl ?_
      refine r_get hX cf_Mo 0 rfl 13 (by decide) fl_Mo_35 rfl d_Mo_crosses_50 ?_
      refine r_iload hX 0 d_Mo_crosses_53 rfl ?_
      refine r_iald hX 2 0 rfl rfl ((97 * i + j) * 3 + 0) rfl (by omega) (by decide) d_Mo_crosses_55 ?_
      refine r_iadd hX d_Mo_crosses_56 ?_
      refine r_iload_n hX 5 d_Mo_crosses_57 rfl ?_
      refine r_icmp_ne hX 63 d_Mo_crosses_58 (by decide) (by unfold iR; omega) (by unfold iR; omega) (fun h58 => ?_) (fun h58 => ?_)
      · exact J63 (()) (by omega)
      · refine r_iconstN hX 1 d_Mo_crosses_61 rfl ?_
        exact r_zret hX hT (by decide) () (congrArg iI (bI_t (ra_tv_iff.2 (hXo.2 (Or.inl ⟨0, by omega, h27, h39, h58⟩)))).symm) rfl (by decide) (by decide) d_Mo_crosses_62
