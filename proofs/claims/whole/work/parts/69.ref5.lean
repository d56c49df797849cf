abbrev rm_Mo_samePairs : Room := { frames := 0, cells := 0, slots := 0, locals := 0 }
set_option maxHeartbeats 4000000 in
set_option maxRecDepth 100000 in
theorem c_Mo_samePairs (l : Launch) (D : va_G) (tI tJ tZ : ClassId) (mo : Nat) (ml : Nat) (mz : Nat) (ms : Nat) (mt : Nat) (mb : Nat) (me : Nat) (bt : Nat) (wy : Nat) (lq : Nat) (df : Nat) (cd : Int) (op : Int) (mr : Int) (ld : Bool) (pt : Bool) (fr : Nat) (sn : Nat) (dn : Nat) (L : Nat → Nat) (d : Nat → Nat) (B : Nat → Nat) (hL : ∀ k, L k < 26) (hs : sn ≤ 192) (hd : ∀ t, d t < 3) (hB : B 0 ≤ 96 ∧ B 1 ≤ 96) (hpos : ∀ k, k < sn → d k = 0 → B 0 + ra_qi d k < 96 ∧ B 1 + ra_qj d k < 96) : rCi l y_Mo_samePairs prog_12_method_31_code 6 .int rm_Mo_samePairs D (tysA tI tJ tZ) [.ref mo] [(mo, .inr (10, [.int (iI cd), .ref ml, .ref mz, .ref ms, .int (iI op), .int (iI mr), .int (iI (bI (ld = true))), .int (iI (bI (pt = true))), .int (iI ((fr : Nat) : Int)), .ref mt, .int (iI ((sn : Nat) : Int)), .ref mb, .ref me, .ref bt, .ref wy, .ref lq, .ref df, .int (iI ((dn : Nat) : Int))])), (ml, .inl (tI, 192, .inl (iA (iN L)))), (mt, .inl (tI, 192, .inl (iA (iN d)))), (mb, .inl (tI, 2, .inl (iA (iN B))))] (fun zz (_ : Unit) => zz = iI (((ra_cp L (fun q => L (96 + q)) d (B 0) (B 1) sn : Nat) : Int))) (fun (_ : Unit) => [(mo, .inr (10, [.int (iI cd), .ref ml, .ref mz, .ref ms, .int (iI op), .int (iI mr), .int (iI (bI (ld = true))), .int (iI (bI (pt = true))), .int (iI ((fr : Nat) : Int)), .ref mt, .int (iI ((sn : Nat) : Int)), .ref mb, .ref me, .ref bt, .ref wy, .ref lq, .ref df, .int (iI ((dn : Nat) : Int))])), (ml, .inl (tI, 192, .inl (iA (iN L)))), (mt, .inl (tI, 192, .inl (iA (iN d)))), (mb, .inl (tI, 2, .inl (iA (iN B))))]) := by
  intro sz
  refine r_met (by decide) (Nat.le_of_ble_eq_true rfl) ?_
  intro F p e s m args below meth c Q A hX hT hAe hsz hin
  subst hAe
  replace hX : rOK F p l e rm_Mo_samePairs s m args below meth c Q prog_12_method_31_code 6 "RowAlignerModel" D (tysA tI tJ tZ) _ := hX
  show F 0 [(0, .ref mo)] [] [(mo, .inr (10, [.int (iI cd), .ref ml, .ref mz, .ref ms, .int (iI op), .int (iI mr), .int (iI (bI (ld = true))), .int (iI (bI (pt = true))), .int (iI ((fr : Nat) : Int)), .ref mt, .int (iI ((sn : Nat) : Int)), .ref mb, .ref me, .ref bt, .ref wy, .ref lq, .ref df, .int (iI ((dn : Nat) : Int))])), (ml, .inl (tI, 192, .inl (iA (iN L)))), (mt, .inl (tI, 192, .inl (iA (iN d)))), (mb, .inl (tI, 2, .inl (iA (iN B))))] 0 0
  refine r_aload_n hX 0 d_Mo_samePairs_0 rfl ?_
  refine r_get hX cf_Mo 0 rfl 11 (by decide) fl_Mo_29 rfl d_Mo_samePairs_1 ?_
  refine r_iconstN hX 0 d_Mo_samePairs_4 rfl ?_
  refine r_ialdN hX 3 0 rfl rfl (0) rfl (by omega) (by decide) d_Mo_samePairs_5 ?_
  refine r_istore_n hX (lv' := [(1, .int (iI ((B 0 : Nat) : Int))), (0, .ref mo)]) d_Mo_samePairs_6 rfl (by decide) rfl ?_
  refine r_aload_n hX 1 d_Mo_samePairs_7 rfl ?_
  refine r_get hX cf_Mo 0 rfl 11 (by decide) fl_Mo_29 rfl d_Mo_samePairs_8 ?_
  refine r_iconstN hX 1 d_Mo_samePairs_11 rfl ?_
  refine r_ialdN hX 3 0 rfl rfl (1) rfl (by omega) (by decide) d_Mo_samePairs_12 ?_
  refine r_istore_n hX (lv' := [(2, .int (iI ((B 1 : Nat) : Int))), (1, .int (iI ((B 0 : Nat) : Int))), (0, .ref mo)]) d_Mo_samePairs_13 rfl (by decide) rfl ?_
  refine r_iconstN hX 0 d_Mo_samePairs_14 rfl ?_
  refine r_istore_n hX (lv' := [(3, .int (iI ((0 : Nat) : Int))), (2, .int (iI ((B 1 : Nat) : Int))), (1, .int (iI ((B 0 : Nat) : Int))), (0, .ref mo)]) d_Mo_samePairs_15 rfl (by decide) rfl ?_
  refine r_iconstN hX 0 d_Mo_samePairs_16 rfl ?_
  refine r_istore hX (lv' := [(4, .int (iI ((0 : Nat) : Int))), (3, .int (iI ((0 : Nat) : Int))), (2, .int (iI ((B 1 : Nat) : Int))), (1, .int (iI ((B 0 : Nat) : Int))), (0, .ref mo)]) d_Mo_samePairs_17 (by decide) rfl ?_
  have L19 : ∀ (dd : Nat) (k : Nat), sn - k = dd → (k ≤ sn) → F 19 [(4, .int (iI ((k : Nat) : Int))), (3, .int (iI ((ra_cp L (fun q => L (96 + q)) d (B 0) (B 1) k : Nat) : Int))), (2, .int (iI ((B 1 + ra_qj d k : Nat) : Int))), (1, .int (iI ((B 0 + ra_qi d k : Nat) : Int))), (0, .ref mo)] [] [(mo, .inr (10, [.int (iI cd), .ref ml, .ref mz, .ref ms, .int (iI op), .int (iI mr), .int (iI (bI (ld = true))), .int (iI (bI (pt = true))), .int (iI ((fr : Nat) : Int)), .ref mt, .int (iI ((sn : Nat) : Int)), .ref mb, .ref me, .ref bt, .ref wy, .ref lq, .ref df, .int (iI ((dn : Nat) : Int))])), (ml, .inl (tI, 192, .inl (iA (iN L)))), (mt, .inl (tI, 192, .inl (iA (iN d)))), (mb, .inl (tI, 2, .inl (iA (iN B))))] 0 0 := by
    intro dd
    induction dd using Nat.strongRecOn with
    | _ dd ih19 =>
      intro k hmu19 hk
      refine r_iload hX 0 d_Mo_samePairs_19 rfl ?_
      refine r_aload_n hX 4 d_Mo_samePairs_21 rfl ?_
      refine r_get hX cf_Mo 0 rfl 10 (by decide) fl_Mo_98 rfl d_Mo_samePairs_22 ?_
      refine r_icmp_ge hX 120 d_Mo_samePairs_25 (by decide) (by unfold iR; omega) (by unfold iR; omega) (fun h25 => ?_) (fun h25 => ?_)
      · refine r_iload_n hX 1 d_Mo_samePairs_120 rfl ?_
        exact r_iret hX hT () (by rw [show k = sn by omega]) rfl (by decide) (by decide) d_Mo_samePairs_121
      · have hcl := ra_cp_le L (fun q => L (96 + q)) d (B 0) (B 1) k
        have hd1 := hd k
        have hq1 := ra_qi_le d k
        have hq2 := ra_qj_le d k
        have hp9 := hpos k (by omega)
        refine r_aload_n hX 4 d_Mo_samePairs_28 rfl ?_
        refine r_get hX cf_Mo 0 rfl 9 (by decide) fl_Mo_26 rfl d_Mo_samePairs_29 ?_
        refine r_iload hX 0 d_Mo_samePairs_32 rfl ?_
        refine r_ialdN hX 2 0 rfl rfl (k) rfl (by omega) (by decide) d_Mo_samePairs_34 ?_
        have J43 : F 43 [(4, .int (iI ((k : Nat) : Int))), (3, .int (iI ((ra_cp L (fun q => L (96 + q)) d (B 0) (B 1) k : Nat) : Int))), (2, .int (iI ((B 1 + ra_qj d k : Nat) : Int))), (1, .int (iI ((B 0 + ra_qi d k : Nat) : Int))), (0, .ref mo)] [.int (iI (bI (d k = 0)))] [(mo, .inr (10, [.int (iI cd), .ref ml, .ref mz, .ref ms, .int (iI op), .int (iI mr), .int (iI (bI (ld = true))), .int (iI (bI (pt = true))), .int (iI ((fr : Nat) : Int)), .ref mt, .int (iI ((sn : Nat) : Int)), .ref mb, .ref me, .ref bt, .ref wy, .ref lq, .ref df, .int (iI ((dn : Nat) : Int))])), (ml, .inl (tI, 192, .inl (iA (iN L)))), (mt, .inl (tI, 192, .inl (iA (iN d)))), (mb, .inl (tI, 2, .inl (iA (iN B))))] 0 0 := by
          refine r_istore hX (lv' := [(5, .int (iI (bI (d k = 0)))), (4, .int (iI ((k : Nat) : Int))), (3, .int (iI ((ra_cp L (fun q => L (96 + q)) d (B 0) (B 1) k : Nat) : Int))), (2, .int (iI ((B 1 + ra_qj d k : Nat) : Int))), (1, .int (iI ((B 0 + ra_qi d k : Nat) : Int))), (0, .ref mo)]) d_Mo_samePairs_43 (by decide) rfl ?_
          refine r_iload hX 0 d_Mo_samePairs_45 rfl ?_
          have J75 : F 75 [(5, .int (iI (bI (d k = 0)))), (4, .int (iI ((k : Nat) : Int))), (3, .int (iI ((ra_cp L (fun q => L (96 + q)) d (B 0) (B 1) k : Nat) : Int))), (2, .int (iI ((B 1 + ra_qj d k : Nat) : Int))), (1, .int (iI ((B 0 + ra_qi d k : Nat) : Int))), (0, .ref mo)] [.int (iI ((ra_cp L (fun q => L (96 + q)) d (B 0) (B 1) (k + 1) : Nat) : Int))] [(mo, .inr (10, [.int (iI cd), .ref ml, .ref mz, .ref ms, .int (iI op), .int (iI mr), .int (iI (bI (ld = true))), .int (iI (bI (pt = true))), .int (iI ((fr : Nat) : Int)), .ref mt, .int (iI ((sn : Nat) : Int)), .ref mb, .ref me, .ref bt, .ref wy, .ref lq, .ref df, .int (iI ((dn : Nat) : Int))])), (ml, .inl (tI, 192, .inl (iA (iN L)))), (mt, .inl (tI, 192, .inl (iA (iN d)))), (mb, .inl (tI, 2, .inl (iA (iN B))))] 0 0 := by
            refine r_istore_n hX (lv' := [(3, .int (iI ((ra_cp L (fun q => L (96 + q)) d (B 0) (B 1) (k + 1) : Nat) : Int))), (5, .int (iI (bI (d k = 0)))), (4, .int (iI ((k : Nat) : Int))), (2, .int (iI ((B 1 + ra_qj d k : Nat) : Int))), (1, .int (iI ((B 0 + ra_qi d k : Nat) : Int))), (0, .ref mo)]) d_Mo_samePairs_75 rfl (by decide) rfl ?_
            refine r_aload_n hX 5 d_Mo_samePairs_76 rfl ?_
            refine r_get hX cf_Mo 0 rfl 9 (by decide) fl_Mo_26 rfl d_Mo_samePairs_77 ?_
            refine r_iload hX 2 d_Mo_samePairs_80 rfl ?_
            refine r_ialdN hX 2 0 rfl rfl (k) rfl (by omega) (by decide) d_Mo_samePairs_82 ?_
            refine r_iconstN hX 2 d_Mo_samePairs_83 rfl ?_
            have J94 : F 94 [(3, .int (iI ((ra_cp L (fun q => L (96 + q)) d (B 0) (B 1) (k + 1) : Nat) : Int))), (5, .int (iI (bI (d k = 0)))), (4, .int (iI ((k : Nat) : Int))), (2, .int (iI ((B 1 + ra_qj d k : Nat) : Int))), (1, .int (iI ((B 0 + ra_qi d k : Nat) : Int))), (0, .ref mo)] [.int (iI ((B 0 + ra_qi d (k + 1) : Nat) : Int))] [(mo, .inr (10, [.int (iI cd), .ref ml, .ref mz, .ref ms, .int (iI op), .int (iI mr), .int (iI (bI (ld = true))), .int (iI (bI (pt = true))), .int (iI ((fr : Nat) : Int)), .ref mt, .int (iI ((sn : Nat) : Int)), .ref mb, .ref me, .ref bt, .ref wy, .ref lq, .ref df, .int (iI ((dn : Nat) : Int))])), (ml, .inl (tI, 192, .inl (iA (iN L)))), (mt, .inl (tI, 192, .inl (iA (iN d)))), (mb, .inl (tI, 2, .inl (iA (iN B))))] 0 0 := by
              refine r_istore_n hX (lv' := [(1, .int (iI ((B 0 + ra_qi d (k + 1) : Nat) : Int))), (3, .int (iI ((ra_cp L (fun q => L (96 + q)) d (B 0) (B 1) (k + 1) : Nat) : Int))), (5, .int (iI (bI (d k = 0)))), (4, .int (iI ((k : Nat) : Int))), (2, .int (iI ((B 1 + ra_qj d k : Nat) : Int))), (0, .ref mo)]) d_Mo_samePairs_94 rfl (by decide) rfl ?_
              refine r_aload_n hX 5 d_Mo_samePairs_95 rfl ?_
              refine r_get hX cf_Mo 0 rfl 9 (by decide) fl_Mo_26 rfl d_Mo_samePairs_96 ?_
              refine r_iload hX 3 d_Mo_samePairs_99 rfl ?_
              refine r_ialdN hX 2 0 rfl rfl (k) rfl (by omega) (by decide) d_Mo_samePairs_101 ?_
              refine r_iconstN hX 1 d_Mo_samePairs_102 rfl ?_
              have J113 : F 113 [(1, .int (iI ((B 0 + ra_qi d (k + 1) : Nat) : Int))), (3, .int (iI ((ra_cp L (fun q => L (96 + q)) d (B 0) (B 1) (k + 1) : Nat) : Int))), (5, .int (iI (bI (d k = 0)))), (4, .int (iI ((k : Nat) : Int))), (2, .int (iI ((B 1 + ra_qj d k : Nat) : Int))), (0, .ref mo)] [.int (iI ((B 1 + ra_qj d (k + 1) : Nat) : Int))] [(mo, .inr (10, [.int (iI cd), .ref ml, .ref mz, .ref ms, .int (iI op), .int (iI mr), .int (iI (bI (ld = true))), .int (iI (bI (pt = true))), .int (iI ((fr : Nat) : Int)), .ref mt, .int (iI ((sn : Nat) : Int)), .ref mb, .ref me, .ref bt, .ref wy, .ref lq, .ref df, .int (iI ((dn : Nat) : Int))])), (ml, .inl (tI, 192, .inl (iA (iN L)))), (mt, .inl (tI, 192, .inl (iA (iN d)))), (mb, .inl (tI, 2, .inl (iA (iN B))))] 0 0 := by
                refine r_istore_n hX (lv' := [(2, .int (iI ((B 1 + ra_qj d (k + 1) : Nat) : Int))), (1, .int (iI ((B 0 + ra_qi d (k + 1) : Nat) : Int))), (3, .int (iI ((ra_cp L (fun q => L (96 + q)) d (B 0) (B 1) (k + 1) : Nat) : Int))), (5, .int (iI (bI (d k = 0)))), (4, .int (iI ((k : Nat) : Int))), (0, .ref mo)]) d_Mo_samePairs_113 rfl (by decide) rfl ?_
                refine r_iincN hX (lv' := [(4, .int (iI ((k + 1 : Nat) : Int))), (2, .int (iI ((B 1 + ra_qj d (k + 1) : Nat) : Int))), (1, .int (iI ((B 0 + ra_qi d (k + 1) : Nat) : Int))), (3, .int (iI ((ra_cp L (fun q => L (96 + q)) d (B 0) (B 1) (k + 1) : Nat) : Int))), (5, .int (iI (bI (d k = 0)))), (0, .ref mo)]) 4 d_Mo_samePairs_114 rfl (by decide) rfl ?_
                refine r_goto hX 19 d_Mo_samePairs_117 (by decide) ?_
                refine r_lv hX (lv' := [(4, .int (iI ((k + 1 : Nat) : Int))), (3, .int (iI ((ra_cp L (fun q => L (96 + q)) d (B 0) (B 1) (k + 1) : Nat) : Int))), (2, .int (iI ((B 1 + ra_qj d (k + 1) : Nat) : Int))), (1, .int (iI ((B 0 + ra_qi d (k + 1) : Nat) : Int))), (0, .ref mo)]) [0, 3, 1, 2, 5] rfl ?_
                exact ih19 _ (by omega) (k + 1) rfl (by omega)
              refine r_icmp_ne hX 110 d_Mo_samePairs_103 (by decide) (by unfold iR; omega) (by unfold iR; omega) (fun h103 => ?_) (fun h103 => ?_)
              · refine r_iload_n hX 4 d_Mo_samePairs_110 rfl ?_
                refine r_iconstN hX 1 d_Mo_samePairs_111 rfl ?_
                refine r_iaddN hX d_Mo_samePairs_112 ?_
                exact rj_e (by first | exact congrArg (fun z : Nat => (z : Int)) (ra_qj_1 (B 1) (by omega)) | exact congrArg (fun z : Nat => (z : Int)) (ra_qj_n (B 1) (by omega))) J113
              · refine r_iload_n hX 4 d_Mo_samePairs_106 rfl ?_
                refine r_goto hX 113 d_Mo_samePairs_107 (by decide) ?_
                exact rj_e (by first | exact congrArg (fun z : Nat => (z : Int)) (ra_qj_1 (B 1) (by omega)) | exact congrArg (fun z : Nat => (z : Int)) (ra_qj_n (B 1) (by omega))) J113
            refine r_icmp_ne hX 91 d_Mo_samePairs_84 (by decide) (by unfold iR; omega) (by unfold iR; omega) (fun h84 => ?_) (fun h84 => ?_)
            · refine r_iload_n hX 4 d_Mo_samePairs_91 rfl ?_
              refine r_iconstN hX 1 d_Mo_samePairs_92 rfl ?_
              refine r_iaddN hX d_Mo_samePairs_93 ?_
              exact rj_e (by first | exact congrArg (fun z : Nat => (z : Int)) (ra_qi_2 (B 0) (by omega)) | exact congrArg (fun z : Nat => (z : Int)) (ra_qi_n (B 0) (by omega))) J94
            · refine r_iload_n hX 4 d_Mo_samePairs_87 rfl ?_
              refine r_goto hX 94 d_Mo_samePairs_88 (by decide) ?_
              exact rj_e (by first | exact congrArg (fun z : Nat => (z : Int)) (ra_qi_2 (B 0) (by omega)) | exact congrArg (fun z : Nat => (z : Int)) (ra_qi_n (B 0) (by omega))) J94
          refine rb_if_eq hX 74 d_Mo_samePairs_47 (by decide) (fun h47 => ?_) (fun h47 => ?_)
          · refine r_iload_n hX 2 d_Mo_samePairs_74 rfl ?_
            exact rj_e (by first | exact congrArg (fun z : Nat => (z : Int)) (ra_cp_t h47 (by show L _ = L (96 + _); omega)).symm | exact congrArg (fun z : Nat => (z : Int)) (ra_cp_f (fun q => h47 q.1)).symm | exact congrArg (fun z : Nat => (z : Int)) (ra_cp_f (fun q => h65 (by have q2 : L _ = L (96 + _) := q.2; omega))).symm) J75
          · have hp8 := hp9 h47
            have hl1 := hL (B 0 + ra_qi d k)
            have hl2 := hL (96 + (B 1 + ra_qj d k))
            refine r_aload_n hX 5 d_Mo_samePairs_50 rfl ?_
            refine r_get hX cf_Mo 0 rfl 1 (by decide) fl_Mo_7 rfl d_Mo_samePairs_51 ?_
            refine r_iload_n hX 4 d_Mo_samePairs_54 rfl ?_
            refine r_ialdN hX 1 0 rfl rfl (B 0 + ra_qi d k) rfl (by omega) (by decide) d_Mo_samePairs_55 ?_
            refine r_aload_n hX 5 d_Mo_samePairs_56 rfl ?_
            refine r_get hX cf_Mo 0 rfl 1 (by decide) fl_Mo_7 rfl d_Mo_samePairs_57 ?_
            refine r_bipushN hX 96 d_Mo_samePairs_60 rfl (by decide) ?_
            refine r_iload_n hX 3 d_Mo_samePairs_62 rfl ?_
            refine r_iaddN hX d_Mo_samePairs_63 ?_
            refine r_ialdN hX 1 0 rfl rfl (96 + (B 1 + ra_qj d k)) rfl (by omega) (by decide) d_Mo_samePairs_64 ?_
            refine r_icmp_ne hX 74 d_Mo_samePairs_65 (by decide) (by unfold iR; omega) (by unfold iR; omega) (fun h65 => ?_) (fun h65 => ?_)
            · refine r_iload_n hX 2 d_Mo_samePairs_74 rfl ?_
              exact rj_e (by first | exact congrArg (fun z : Nat => (z : Int)) (ra_cp_t h47 (by show L _ = L (96 + _); omega)).symm | exact congrArg (fun z : Nat => (z : Int)) (ra_cp_f (fun q => h47 q.1)).symm | exact congrArg (fun z : Nat => (z : Int)) (ra_cp_f (fun q => h65 (by have q2 : L _ = L (96 + _) := q.2; omega))).symm) J75
            · refine r_iload_n hX 2 d_Mo_samePairs_68 rfl ?_
              refine r_iconstN hX 1 d_Mo_samePairs_69 rfl ?_
              refine r_iaddN hX d_Mo_samePairs_70 ?_
              refine r_goto hX 75 d_Mo_samePairs_71 (by decide) ?_
              exact rj_e (by first | exact congrArg (fun z : Nat => (z : Int)) (ra_cp_t h47 (by show L _ = L (96 + _); omega)).symm | exact congrArg (fun z : Nat => (z : Int)) (ra_cp_f (fun q => h47 q.1)).symm | exact congrArg (fun z : Nat => (z : Int)) (ra_cp_f (fun q => h65 (by have q2 : L _ = L (96 + _) := q.2; omega))).symm) J75
        refine r_if_ne hX 42 d_Mo_samePairs_35 (by decide) (by unfold iR; omega) (fun h35 => ?_) (fun h35 => ?_)
        · refine r_iconstN hX 0 d_Mo_samePairs_42 rfl ?_
          exact rj_0 (by omega) J43
        · refine r_iconstN hX 1 d_Mo_samePairs_38 rfl ?_
          refine r_goto hX 43 d_Mo_samePairs_39 (by decide) ?_
          exact rj_1 (by omega) J43
  refine r_eq (lv2 := [(4, .int (iI ((0 : Nat) : Int))), (3, .int (iI ((ra_cp L (fun q => L (96 + q)) d (B 0) (B 1) 0 : Nat) : Int))), (2, .int (iI ((B 1 + ra_qj d 0 : Nat) : Int))), (1, .int (iI ((B 0 + ra_qi d 0 : Nat) : Int))), (0, .ref mo)]) (st2 := []) (ws2 := [(mo, .inr (10, [.int (iI cd), .ref ml, .ref mz, .ref ms, .int (iI op), .int (iI mr), .int (iI (bI (ld = true))), .int (iI (bI (pt = true))), .int (iI ((fr : Nat) : Int)), .ref mt, .int (iI ((sn : Nat) : Int)), .ref mb, .ref me, .ref bt, .ref wy, .ref lq, .ref df, .int (iI ((dn : Nat) : Int))])), (ml, .inl (tI, 192, .inl (iA (iN L)))), (mt, .inl (tI, 192, .inl (iA (iN d)))), (mb, .inl (tI, 2, .inl (iA (iN B))))]) rfl rfl rfl ?_
  exact L19 _ 0 rfl (by omega)

abbrev rm_Mo_count_r : Room := { frames := 1, cells := 0, slots := 0, locals := 22 }
set_option maxHeartbeats 4000000 in
set_option maxRecDepth 100000 in
theorem c_Mo_count_r (l : Launch) (D : va_G) (tI tJ tZ : ClassId) (mo : Nat) (ml : Nat) (mz : Nat) (ms : Nat) (mt : Nat) (mb : Nat) (me : Nat) (bt : Nat) (wy : Nat) (lq : Nat) (df : Nat) (cd : Int) (op : Int) (mr : Int) (ld : Bool) (pt : Bool) (fr : Nat) (sn : Nat) (dn : Nat) (x : Int) (hx : iR x) (hr : x < 0 ∨ 3 < x) : rCi l y_Mo_count prog_12_method_34_code 2 .int rm_Mo_count_r D (tysA tI tJ tZ) [.ref mo, .int (iI x)] [(mo, .inr (10, [.int (iI cd), .ref ml, .ref mz, .ref ms, .int (iI op), .int (iI mr), .int (iI (bI (ld = true))), .int (iI (bI (pt = true))), .int (iI ((fr : Nat) : Int)), .ref mt, .int (iI ((sn : Nat) : Int)), .ref mb, .ref me, .ref bt, .ref wy, .ref lq, .ref df, .int (iI ((dn : Nat) : Int))]))] (fun zz (_ : Unit) => zz = iI (((0 : Nat) : Int))) (fun (_ : Unit) => [(mo, .inr (10, [.int (iI 1), .ref ml, .ref mz, .ref ms, .int (iI op), .int (iI mr), .int (iI (bI (ld = true))), .int (iI (bI (pt = true))), .int (iI ((fr : Nat) : Int)), .ref mt, .int (iI ((sn : Nat) : Int)), .ref mb, .ref me, .ref bt, .ref wy, .ref lq, .ref df, .int (iI ((dn : Nat) : Int))]))]) := by
  intro sz
  refine r_met (by decide) (Nat.le_of_ble_eq_true rfl) ?_
  intro F p e s m args below meth c Q A hX hT hAe hsz hin
  subst hAe
  replace hX : rOK F p l e rm_Mo_count_r s m args below meth c Q prog_12_method_34_code 2 "RowAlignerModel" D (tysA tI tJ tZ) _ := hX
  unfold iR at hx
  show F 0 [(0, .ref mo), (1, .int (iI x))] [] [(mo, .inr (10, [.int (iI cd), .ref ml, .ref mz, .ref ms, .int (iI op), .int (iI mr), .int (iI (bI (ld = true))), .int (iI (bI (pt = true))), .int (iI ((fr : Nat) : Int)), .ref mt, .int (iI ((sn : Nat) : Int)), .ref mb, .ref me, .ref bt, .ref wy, .ref lq, .ref df, .int (iI ((dn : Nat) : Int))]))] 0 0
  refine r_aload_n hX 0 d_Mo_count_0 rfl ?_
  refine r_iload_n hX 1 d_Mo_count_1 rfl ?_
  refine r_iconstN hX 0 d_Mo_count_2 rfl ?_
  refine r_iconstN hX 3 d_Mo_count_3 rfl ?_
  refine r_invS_i0 (st := [.ref mo]) (As := [.int (iI x), .int (iI ((0 : Nat) : Int)), .int (iI ((3 : Nat) : Int))]) (wr := [(mo, .inr (10, [.int (iI cd), .ref ml, .ref mz, .ref ms, .int (iI op), .int (iI mr), .int (iI (bI (ld = true))), .int (iI (bI (pt = true))), .int (iI ((fr : Nat) : Int)), .ref mt, .int (iI ((sn : Nat) : Int)), .ref mb, .ref me, .ref bt, .ref wy, .ref lq, .ref df, .int (iI ((dn : Nat) : Int))]))]) hX (c_Mo_isIn l D tI tJ tZ x (((0 : Nat) : Int)) (((3 : Nat) : Int)) (by unfold iR; omega) (by unfold iR; omega) (by unfold iR; omega)) yn_Mo_isIn ml_Mo_65 st_Mo_isIn co_Mo_isIn in_Mo (by decide) (by decide) (by decide) [] [0] rfl rfl rfl rfl rfl (by decide) rfl rfl (Nat.le_of_ble_eq_true rfl) d_Mo_count_4 [0] rfl (w2 := fun _ => [(mo, .inr (10, [.int (iI cd), .ref ml, .ref mz, .ref ms, .int (iI op), .int (iI mr), .int (iI (bI (ld = true))), .int (iI (bI (pt = true))), .int (iI ((fr : Nat) : Int)), .ref mt, .int (iI ((sn : Nat) : Int)), .ref mb, .ref me, .ref bt, .ref wy, .ref lq, .ref df, .int (iI ((dn : Nat) : Int))]))]) (fun _ => rfl) (fun r4 _ e4 => ?_)
  subst e4
  refine rb_if_ne hX 14 d_Mo_count_7 (by decide) (fun h7 => by exfalso; omega) (fun h7 => ?_)
  refine r_iconstN hX 1 d_Mo_count_10 rfl ?_
  refine r_goto hX 26 d_Mo_count_11 (by decide) ?_
  refine r_put hX (ws' := [(mo, .inr (10, [.int (iI ((1 : Nat) : Int)), .ref ml, .ref mz, .ref ms, .int (iI op), .int (iI mr), .int (iI (bI (ld = true))), .int (iI (bI (pt = true))), .int (iI ((fr : Nat) : Int)), .ref mt, .int (iI ((sn : Nat) : Int)), .ref mb, .ref me, .ref bt, .ref wy, .ref lq, .ref df, .int (iI ((dn : Nat) : Int))]))]) cf_Mo 0 rfl 0 (by decide) fl_Mo_52 rfl rfl rfl (Nat.le_of_ble_eq_true rfl) rfl d_Mo_count_26 ?_
  refine r_aload_n hX 0 d_Mo_count_29 rfl ?_
  refine r_get hX cf_Mo 0 rfl 0 (by decide) fl_Mo_52 rfl d_Mo_count_30 ?_
  refine r_if_le hX 40 d_Mo_count_33 (by decide) (by unfold iR; omega) (fun h33 => by exfalso; omega) (fun h33 => ?_)
  refine r_iconstN hX 0 d_Mo_count_36 rfl ?_
  refine r_goto hX 79 d_Mo_count_37 (by decide) ?_
  exact r_iret hX hT () rfl rfl (by decide) (by decide) d_Mo_count_79

abbrev rm_Mo_count_n : Room := { frames := 1, cells := 0, slots := 0, locals := 22 }
set_option maxHeartbeats 4000000 in
set_option maxRecDepth 100000 in
theorem c_Mo_count_n (l : Launch) (D : va_G) (tI tJ tZ : ClassId) (mo : Nat) (ml : Nat) (mz : Nat) (ms : Nat) (mt : Nat) (mb : Nat) (me : Nat) (bt : Nat) (wy : Nat) (lq : Nat) (df : Nat) (cd : Int) (op : Int) (mr : Int) (ld : Bool) (pt : Bool) (fr : Nat) (sn : Nat) (dn : Nat) (x : Nat) (hr : x < 4) (hl : ¬ ld = true) : rCi l y_Mo_count prog_12_method_34_code 2 .int rm_Mo_count_n D (tysA tI tJ tZ) [.ref mo, .int (iI ((x : Nat) : Int))] [(mo, .inr (10, [.int (iI cd), .ref ml, .ref mz, .ref ms, .int (iI op), .int (iI mr), .int (iI (bI (ld = true))), .int (iI (bI (pt = true))), .int (iI ((fr : Nat) : Int)), .ref mt, .int (iI ((sn : Nat) : Int)), .ref mb, .ref me, .ref bt, .ref wy, .ref lq, .ref df, .int (iI ((dn : Nat) : Int))]))] (fun zz (_ : Unit) => zz = iI (((0 : Nat) : Int))) (fun (_ : Unit) => [(mo, .inr (10, [.int (iI 2), .ref ml, .ref mz, .ref ms, .int (iI op), .int (iI mr), .int (iI (bI (ld = true))), .int (iI (bI (pt = true))), .int (iI ((fr : Nat) : Int)), .ref mt, .int (iI ((sn : Nat) : Int)), .ref mb, .ref me, .ref bt, .ref wy, .ref lq, .ref df, .int (iI ((dn : Nat) : Int))]))]) := by
  intro sz
  refine r_met (by decide) (Nat.le_of_ble_eq_true rfl) ?_
  intro F p e s m args below meth c Q A hX hT hAe hsz hin
  subst hAe
  replace hX : rOK F p l e rm_Mo_count_n s m args below meth c Q prog_12_method_34_code 2 "RowAlignerModel" D (tysA tI tJ tZ) _ := hX
  show F 0 [(0, .ref mo), (1, .int (iI ((x : Nat) : Int)))] [] [(mo, .inr (10, [.int (iI cd), .ref ml, .ref mz, .ref ms, .int (iI op), .int (iI mr), .int (iI (bI (ld = true))), .int (iI (bI (pt = true))), .int (iI ((fr : Nat) : Int)), .ref mt, .int (iI ((sn : Nat) : Int)), .ref mb, .ref me, .ref bt, .ref wy, .ref lq, .ref df, .int (iI ((dn : Nat) : Int))]))] 0 0
  refine r_aload_n hX 0 d_Mo_count_0 rfl ?_
  refine r_iload_n hX 1 d_Mo_count_1 rfl ?_
  refine r_iconstN hX 0 d_Mo_count_2 rfl ?_
  refine r_iconstN hX 3 d_Mo_count_3 rfl ?_
  refine r_invS_i0 (st := [.ref mo]) (As := [.int (iI ((x : Nat) : Int)), .int (iI ((0 : Nat) : Int)), .int (iI ((3 : Nat) : Int))]) (wr := [(mo, .inr (10, [.int (iI cd), .ref ml, .ref mz, .ref ms, .int (iI op), .int (iI mr), .int (iI (bI (ld = true))), .int (iI (bI (pt = true))), .int (iI ((fr : Nat) : Int)), .ref mt, .int (iI ((sn : Nat) : Int)), .ref mb, .ref me, .ref bt, .ref wy, .ref lq, .ref df, .int (iI ((dn : Nat) : Int))]))]) hX (c_Mo_isIn l D tI tJ tZ (((x : Nat) : Int)) (((0 : Nat) : Int)) (((3 : Nat) : Int)) (by unfold iR; omega) (by unfold iR; omega) (by unfold iR; omega)) yn_Mo_isIn ml_Mo_65 st_Mo_isIn co_Mo_isIn in_Mo (by decide) (by decide) (by decide) [] [0] rfl rfl rfl rfl rfl (by decide) rfl rfl (Nat.le_of_ble_eq_true rfl) d_Mo_count_4 [0] rfl (w2 := fun _ => [(mo, .inr (10, [.int (iI cd), .ref ml, .ref mz, .ref ms, .int (iI op), .int (iI mr), .int (iI (bI (ld = true))), .int (iI (bI (pt = true))), .int (iI ((fr : Nat) : Int)), .ref mt, .int (iI ((sn : Nat) : Int)), .ref mb, .ref me, .ref bt, .ref wy, .ref lq, .ref df, .int (iI ((dn : Nat) : Int))]))]) (fun _ => rfl) (fun r4 _ e4 => ?_)
  subst e4
  refine rb_if_ne hX 14 d_Mo_count_7 (by decide) (fun h7 => ?_) (fun h7 => by exfalso; omega)
  refine r_aload_n hX 0 d_Mo_count_14 rfl ?_
  refine r_get hX cf_Mo 0 rfl 6 (by decide) fl_Mo_61 rfl d_Mo_count_15 ?_
  refine rb_if_eq hX 25 d_Mo_count_18 (by decide) (fun h18 => ?_) (fun h18 => by exfalso; exact hl h18)
  refine r_iconstN hX 2 d_Mo_count_25 rfl ?_
  refine r_put hX (ws' := [(mo, .inr (10, [.int (iI ((2 : Nat) : Int)), .ref ml, .ref mz, .ref ms, .int (iI op), .int (iI mr), .int (iI (bI (ld = true))), .int (iI (bI (pt = true))), .int (iI ((fr : Nat) : Int)), .ref mt, .int (iI ((sn : Nat) : Int)), .ref mb, .ref me, .ref bt, .ref wy, .ref lq, .ref df, .int (iI ((dn : Nat) : Int))]))]) cf_Mo 0 rfl 0 (by decide) fl_Mo_52 rfl rfl rfl (Nat.le_of_ble_eq_true rfl) rfl d_Mo_count_26 ?_
  refine r_aload_n hX 0 d_Mo_count_29 rfl ?_
  refine r_get hX cf_Mo 0 rfl 0 (by decide) fl_Mo_52 rfl d_Mo_count_30 ?_
  refine r_if_le hX 40 d_Mo_count_33 (by decide) (by unfold iR; omega) (fun h33 => by exfalso; omega) (fun h33 => ?_)
  refine r_iconstN hX 0 d_Mo_count_36 rfl ?_
  refine r_goto hX 79 d_Mo_count_37 (by decide) ?_
  exact r_iret hX hT () rfl rfl (by decide) (by decide) d_Mo_count_79

abbrev rm_Mo_count_0 : Room := { frames := 1, cells := 0, slots := 0, locals := 22 }
set_option maxHeartbeats 4000000 in
set_option maxRecDepth 100000 in
theorem c_Mo_count_0 (l : Launch) (D : va_G) (tI tJ tZ : ClassId) (mo : Nat) (ml : Nat) (mz : Nat) (ms : Nat) (mt : Nat) (mb : Nat) (me : Nat) (bt : Nat) (wy : Nat) (lq : Nat) (df : Nat) (cd : Int) (op : Int) (mr : Int) (ld : Bool) (pt : Bool) (fr : Nat) (sn : Nat) (dn : Nat) (d : Nat → Nat) (hl : ld = true) (hs : sn ≤ 192) (hd : ∀ t, d t < 3) : rCi l y_Mo_count prog_12_method_34_code 2 .int rm_Mo_count_0 D (tysA tI tJ tZ) [.ref mo, .int (iI ((0 : Nat) : Int))] [(mo, .inr (10, [.int (iI cd), .ref ml, .ref mz, .ref ms, .int (iI op), .int (iI mr), .int (iI (bI (ld = true))), .int (iI (bI (pt = true))), .int (iI ((fr : Nat) : Int)), .ref mt, .int (iI ((sn : Nat) : Int)), .ref mb, .ref me, .ref bt, .ref wy, .ref lq, .ref df, .int (iI ((dn : Nat) : Int))])), (mt, .inl (tI, 192, .inl (iA (iN d))))] (fun zz (_ : Unit) => zz = iI (((ra_cr d sn : Nat) : Int))) (fun (_ : Unit) => [(mo, .inr (10, [.int (iI 0), .ref ml, .ref mz, .ref ms, .int (iI op), .int (iI mr), .int (iI (bI (ld = true))), .int (iI (bI (pt = true))), .int (iI ((fr : Nat) : Int)), .ref mt, .int (iI ((sn : Nat) : Int)), .ref mb, .ref me, .ref bt, .ref wy, .ref lq, .ref df, .int (iI ((dn : Nat) : Int))])), (mt, .inl (tI, 192, .inl (iA (iN d))))]) := by
  intro sz
  refine r_met (by decide) (Nat.le_of_ble_eq_true rfl) ?_
  intro F p e s m args below meth c Q A hX hT hAe hsz hin
  subst hAe
  replace hX : rOK F p l e rm_Mo_count_0 s m args below meth c Q prog_12_method_34_code 2 "RowAlignerModel" D (tysA tI tJ tZ) _ := hX
  show F 0 [(0, .ref mo), (1, .int (iI ((0 : Nat) : Int)))] [] [(mo, .inr (10, [.int (iI cd), .ref ml, .ref mz, .ref ms, .int (iI op), .int (iI mr), .int (iI (bI (ld = true))), .int (iI (bI (pt = true))), .int (iI ((fr : Nat) : Int)), .ref mt, .int (iI ((sn : Nat) : Int)), .ref mb, .ref me, .ref bt, .ref wy, .ref lq, .ref df, .int (iI ((dn : Nat) : Int))])), (mt, .inl (tI, 192, .inl (iA (iN d))))] 0 0
  refine r_aload_n hX 0 d_Mo_count_0 rfl ?_
  refine r_iload_n hX 1 d_Mo_count_1 rfl ?_
  refine r_iconstN hX 0 d_Mo_count_2 rfl ?_
  refine r_iconstN hX 3 d_Mo_count_3 rfl ?_
  refine r_invS_i0 (st := [.ref mo]) (As := [.int (iI ((0 : Nat) : Int)), .int (iI ((0 : Nat) : Int)), .int (iI ((3 : Nat) : Int))]) (wr := [(mo, .inr (10, [.int (iI cd), .ref ml, .ref mz, .ref ms, .int (iI op), .int (iI mr), .int (iI (bI (ld = true))), .int (iI (bI (pt = true))), .int (iI ((fr : Nat) : Int)), .ref mt, .int (iI ((sn : Nat) : Int)), .ref mb, .ref me, .ref bt, .ref wy, .ref lq, .ref df, .int (iI ((dn : Nat) : Int))])), (mt, .inl (tI, 192, .inl (iA (iN d))))]) hX (c_Mo_isIn l D tI tJ tZ (((0 : Nat) : Int)) (((0 : Nat) : Int)) (((3 : Nat) : Int)) (by unfold iR; omega) (by unfold iR; omega) (by unfold iR; omega)) yn_Mo_isIn ml_Mo_65 st_Mo_isIn co_Mo_isIn in_Mo (by decide) (by decide) (by decide) [] [0, 1] rfl rfl rfl rfl rfl (by decide) rfl rfl (Nat.le_of_ble_eq_true rfl) d_Mo_count_4 [0, 1] rfl (w2 := fun _ => [(mo, .inr (10, [.int (iI cd), .ref ml, .ref mz, .ref ms, .int (iI op), .int (iI mr), .int (iI (bI (ld = true))), .int (iI (bI (pt = true))), .int (iI ((fr : Nat) : Int)), .ref mt, .int (iI ((sn : Nat) : Int)), .ref mb, .ref me, .ref bt, .ref wy, .ref lq, .ref df, .int (iI ((dn : Nat) : Int))])), (mt, .inl (tI, 192, .inl (iA (iN d))))]) (fun _ => rfl) (fun r4 _ e4 => ?_)
  subst e4
  refine rb_if_ne hX 14 d_Mo_count_7 (by decide) (fun h7 => ?_) (fun h7 => by exfalso; omega)
  refine r_aload_n hX 0 d_Mo_count_14 rfl ?_
  refine r_get hX cf_Mo 0 rfl 6 (by decide) fl_Mo_61 rfl d_Mo_count_15 ?_
  refine rb_if_eq hX 25 d_Mo_count_18 (by decide) (fun h18 => by exfalso; exact h18 hl) (fun h18 => ?_)
  refine r_iconstN hX 0 d_Mo_count_21 rfl ?_
  refine r_goto hX 26 d_Mo_count_22 (by decide) ?_
  refine r_put hX (ws' := [(mo, .inr (10, [.int (iI ((0 : Nat) : Int)), .ref ml, .ref mz, .ref ms, .int (iI op), .int (iI mr), .int (iI (bI (ld = true))), .int (iI (bI (pt = true))), .int (iI ((fr : Nat) : Int)), .ref mt, .int (iI ((sn : Nat) : Int)), .ref mb, .ref me, .ref bt, .ref wy, .ref lq, .ref df, .int (iI ((dn : Nat) : Int))])), (mt, .inl (tI, 192, .inl (iA (iN d))))]) cf_Mo 0 rfl 0 (by decide) fl_Mo_52 rfl rfl rfl (Nat.le_of_ble_eq_true rfl) rfl d_Mo_count_26 ?_
  refine r_aload_n hX 0 d_Mo_count_29 rfl ?_
  refine r_get hX cf_Mo 0 rfl 0 (by decide) fl_Mo_52 rfl d_Mo_count_30 ?_
  refine r_if_le hX 40 d_Mo_count_33 (by decide) (by unfold iR; omega) (fun h33 => ?_) (fun h33 => by exfalso; omega)
  refine r_iload_n hX 1 d_Mo_count_40 rfl ?_
  refine r_if_ne hX 51 d_Mo_count_41 (by decide) (by unfold iR; omega) (fun h41 => by exfalso; omega) (fun h41 => ?_)
  refine r_aload_n hX 0 d_Mo_count_44 rfl ?_
  refine r_invV_i0 (st := []) (As := []) (wr := []) hX (c_Mo_runsNow l D tI tJ tZ mo ml mz ms mt mb me bt wy lq df (((0 : Nat) : Int)) op mr ld pt fr sn dn d hs hd) "RowAlignerModel" 0 10 cf_Mo rfl yn_Mo_runsNow ml_Mo_116 im_Mo_runsNow se_Mo_runsNow co_Mo_runsNow in_Mo (by decide) (by decide) (by decide) [0, 1] [] rfl rfl rfl rfl rfl (by decide) rfl rfl (Nat.le_of_ble_eq_true rfl) d_Mo_count_45 [0, 1] rfl (w2 := fun _ => [(mo, .inr (10, [.int (iI ((0 : Nat) : Int)), .ref ml, .ref mz, .ref ms, .int (iI op), .int (iI mr), .int (iI (bI (ld = true))), .int (iI (bI (pt = true))), .int (iI ((fr : Nat) : Int)), .ref mt, .int (iI ((sn : Nat) : Int)), .ref mb, .ref me, .ref bt, .ref wy, .ref lq, .ref df, .int (iI ((dn : Nat) : Int))])), (mt, .inl (tI, 192, .inl (iA (iN d))))]) (fun _ => rfl) (fun r45 _ e45 => ?_)
  subst e45
  refine r_goto hX 79 d_Mo_count_48 (by decide) ?_
  exact r_iret hX hT () rfl rfl (by decide) (by decide) d_Mo_count_79

abbrev rm_Mo_count_2 : Room := { frames := 1, cells := 0, slots := 0, locals := 22 }
set_option maxHeartbeats 4000000 in
set_option maxRecDepth 100000 in
theorem c_Mo_count_2 (l : Launch) (D : va_G) (tI tJ tZ : ClassId) (mo : Nat) (ml : Nat) (mz : Nat) (ms : Nat) (mt : Nat) (mb : Nat) (me : Nat) (bt : Nat) (wy : Nat) (lq : Nat) (df : Nat) (cd : Int) (op : Int) (mr : Int) (ld : Bool) (pt : Bool) (fr : Nat) (sn : Nat) (dn : Nat) (d : Nat → Nat) (hl : ld = true) (hs : sn ≤ 192) (hd : ∀ t, d t < 3) : rCi l y_Mo_count prog_12_method_34_code 2 .int rm_Mo_count_2 D (tysA tI tJ tZ) [.ref mo, .int (iI ((2 : Nat) : Int))] [(mo, .inr (10, [.int (iI cd), .ref ml, .ref mz, .ref ms, .int (iI op), .int (iI mr), .int (iI (bI (ld = true))), .int (iI (bI (pt = true))), .int (iI ((fr : Nat) : Int)), .ref mt, .int (iI ((sn : Nat) : Int)), .ref mb, .ref me, .ref bt, .ref wy, .ref lq, .ref df, .int (iI ((dn : Nat) : Int))])), (mt, .inl (tI, 192, .inl (iA (iN d))))] (fun zz (_ : Unit) => zz = iI (((ra_cg d sn : Nat) : Int))) (fun (_ : Unit) => [(mo, .inr (10, [.int (iI 0), .ref ml, .ref mz, .ref ms, .int (iI op), .int (iI mr), .int (iI (bI (ld = true))), .int (iI (bI (pt = true))), .int (iI ((fr : Nat) : Int)), .ref mt, .int (iI ((sn : Nat) : Int)), .ref mb, .ref me, .ref bt, .ref wy, .ref lq, .ref df, .int (iI ((dn : Nat) : Int))])), (mt, .inl (tI, 192, .inl (iA (iN d))))]) := by
  intro sz
  refine r_met (by decide) (Nat.le_of_ble_eq_true rfl) ?_
  intro F p e s m args below meth c Q A hX hT hAe hsz hin
  subst hAe
  replace hX : rOK F p l e rm_Mo_count_2 s m args below meth c Q prog_12_method_34_code 2 "RowAlignerModel" D (tysA tI tJ tZ) _ := hX
  show F 0 [(0, .ref mo), (1, .int (iI ((2 : Nat) : Int)))] [] [(mo, .inr (10, [.int (iI cd), .ref ml, .ref mz, .ref ms, .int (iI op), .int (iI mr), .int (iI (bI (ld = true))), .int (iI (bI (pt = true))), .int (iI ((fr : Nat) : Int)), .ref mt, .int (iI ((sn : Nat) : Int)), .ref mb, .ref me, .ref bt, .ref wy, .ref lq, .ref df, .int (iI ((dn : Nat) : Int))])), (mt, .inl (tI, 192, .inl (iA (iN d))))] 0 0
  refine r_aload_n hX 0 d_Mo_count_0 rfl ?_
  refine r_iload_n hX 1 d_Mo_count_1 rfl ?_
  refine r_iconstN hX 0 d_Mo_count_2 rfl ?_
  refine r_iconstN hX 3 d_Mo_count_3 rfl ?_
  refine r_invS_i0 (st := [.ref mo]) (As := [.int (iI ((2 : Nat) : Int)), .int (iI ((0 : Nat) : Int)), .int (iI ((3 : Nat) : Int))]) (wr := [(mo, .inr (10, [.int (iI cd), .ref ml, .ref mz, .ref ms, .int (iI op), .int (iI mr), .int (iI (bI (ld = true))), .int (iI (bI (pt = true))), .int (iI ((fr : Nat) : Int)), .ref mt, .int (iI ((sn : Nat) : Int)), .ref mb, .ref me, .ref bt, .ref wy, .ref lq, .ref df, .int (iI ((dn : Nat) : Int))])), (mt, .inl (tI, 192, .inl (iA (iN d))))]) hX (c_Mo_isIn l D tI tJ tZ (((2 : Nat) : Int)) (((0 : Nat) : Int)) (((3 : Nat) : Int)) (by unfold iR; omega) (by unfold iR; omega) (by unfold iR; omega)) yn_Mo_isIn ml_Mo_65 st_Mo_isIn co_Mo_isIn in_Mo (by decide) (by decide) (by decide) [] [0, 1] rfl rfl rfl rfl rfl (by decide) rfl rfl (Nat.le_of_ble_eq_true rfl) d_Mo_count_4 [0, 1] rfl (w2 := fun _ => [(mo, .inr (10, [.int (iI cd), .ref ml, .ref mz, .ref ms, .int (iI op), .int (iI mr), .int (iI (bI (ld = true))), .int (iI (bI (pt = true))), .int (iI ((fr : Nat) : Int)), .ref mt, .int (iI ((sn : Nat) : Int)), .ref mb, .ref me, .ref bt, .ref wy, .ref lq, .ref df, .int (iI ((dn : Nat) : Int))])), (mt, .inl (tI, 192, .inl (iA (iN d))))]) (fun _ => rfl) (fun r4 _ e4 => ?_)
  subst e4
  refine rb_if_ne hX 14 d_Mo_count_7 (by decide) (fun h7 => ?_) (fun h7 => by exfalso; omega)
  refine r_aload_n hX 0 d_Mo_count_14 rfl ?_
  refine r_get hX cf_Mo 0 rfl 6 (by decide) fl_Mo_61 rfl d_Mo_count_15 ?_
  refine rb_if_eq hX 25 d_Mo_count_18 (by decide) (fun h18 => by exfalso; exact h18 hl) (fun h18 => ?_)
  refine r_iconstN hX 0 d_Mo_count_21 rfl ?_
  refine r_goto hX 26 d_Mo_count_22 (by decide) ?_
  refine r_put hX (ws' := [(mo, .inr (10, [.int (iI ((0 : Nat) : Int)), .ref ml, .ref mz, .ref ms, .int (iI op), .int (iI mr), .int (iI (bI (ld = true))), .int (iI (bI (pt = true))), .int (iI ((fr : Nat) : Int)), .ref mt, .int (iI ((sn : Nat) : Int)), .ref mb, .ref me, .ref bt, .ref wy, .ref lq, .ref df, .int (iI ((dn : Nat) : Int))])), (mt, .inl (tI, 192, .inl (iA (iN d))))]) cf_Mo 0 rfl 0 (by decide) fl_Mo_52 rfl rfl rfl (Nat.le_of_ble_eq_true rfl) rfl d_Mo_count_26 ?_
  refine r_aload_n hX 0 d_Mo_count_29 rfl ?_
  refine r_get hX cf_Mo 0 rfl 0 (by decide) fl_Mo_52 rfl d_Mo_count_30 ?_
  refine r_if_le hX 40 d_Mo_count_33 (by decide) (by unfold iR; omega) (fun h33 => ?_) (fun h33 => by exfalso; omega)
  refine r_iload_n hX 1 d_Mo_count_40 rfl ?_
  refine r_if_ne hX 51 d_Mo_count_41 (by decide) (by unfold iR; omega) (fun h41 => ?_) (fun h41 => by exfalso; omega)
  refine r_iload_n hX 1 d_Mo_count_51 rfl ?_
  refine r_iconstN hX 1 d_Mo_count_52 rfl ?_
  refine r_icmp_ne hX 63 d_Mo_count_53 (by decide) (by unfold iR; omega) (by unfold iR; omega) (fun h53 => ?_) (fun h53 => by exfalso; omega)
  refine r_iload_n hX 1 d_Mo_count_63 rfl ?_
  refine r_iconstN hX 2 d_Mo_count_64 rfl ?_
  refine r_icmp_ne hX 75 d_Mo_count_65 (by decide) (by unfold iR; omega) (by unfold iR; omega) (fun h65 => by exfalso; omega) (fun h65 => ?_)
  refine r_aload_n hX 0 d_Mo_count_68 rfl ?_
  refine r_invV_i0 (st := []) (As := []) (wr := []) hX (c_Mo_gapsNow l D tI tJ tZ mo ml mz ms mt mb me bt wy lq df (((0 : Nat) : Int)) op mr ld pt fr sn dn d hs hd) "RowAlignerModel" 0 10 cf_Mo rfl yn_Mo_gapsNow ml_Mo_123 im_Mo_gapsNow se_Mo_gapsNow co_Mo_gapsNow in_Mo (by decide) (by decide) (by decide) [0, 1] [] rfl rfl rfl rfl rfl (by decide) rfl rfl (Nat.le_of_ble_eq_true rfl) d_Mo_count_69 [0, 1] rfl (w2 := fun _ => [(mo, .inr (10, [.int (iI ((0 : Nat) : Int)), .ref ml, .ref mz, .ref ms, .int (iI op), .int (iI mr), .int (iI (bI (ld = true))), .int (iI (bI (pt = true))), .int (iI ((fr : Nat) : Int)), .ref mt, .int (iI ((sn : Nat) : Int)), .ref mb, .ref me, .ref bt, .ref wy, .ref lq, .ref df, .int (iI ((dn : Nat) : Int))])), (mt, .inl (tI, 192, .inl (iA (iN d))))]) (fun _ => rfl) (fun r69 _ e69 => ?_)
  subst e69
  refine r_goto hX 79 d_Mo_count_72 (by decide) ?_
  exact r_iret hX hT () rfl rfl (by decide) (by decide) d_Mo_count_79

abbrev rm_Mo_count_3 : Room := { frames := 1, cells := 0, slots := 0, locals := 22 }
set_option maxHeartbeats 4000000 in
set_option maxRecDepth 100000 in
theorem c_Mo_count_3 (l : Launch) (D : va_G) (tI tJ tZ : ClassId) (mo : Nat) (ml : Nat) (mz : Nat) (ms : Nat) (mt : Nat) (mb : Nat) (me : Nat) (bt : Nat) (wy : Nat) (lq : Nat) (df : Nat) (cd : Int) (op : Int) (mr : Int) (ld : Bool) (pt : Bool) (fr : Nat) (sn : Nat) (dn : Nat) (d : Nat → Nat) (hl : ld = true) (hs : sn ≤ 192) (hd : ∀ t, d t < 3) : rCi l y_Mo_count prog_12_method_34_code 2 .int rm_Mo_count_3 D (tysA tI tJ tZ) [.ref mo, .int (iI ((3 : Nat) : Int))] [(mo, .inr (10, [.int (iI cd), .ref ml, .ref mz, .ref ms, .int (iI op), .int (iI mr), .int (iI (bI (ld = true))), .int (iI (bI (pt = true))), .int (iI ((fr : Nat) : Int)), .ref mt, .int (iI ((sn : Nat) : Int)), .ref mb, .ref me, .ref bt, .ref wy, .ref lq, .ref df, .int (iI ((dn : Nat) : Int))])), (mt, .inl (tI, 192, .inl (iA (iN d))))] (fun zz (_ : Unit) => zz = iI (((ra_cl9 d sn : Nat) : Int))) (fun (_ : Unit) => [(mo, .inr (10, [.int (iI 0), .ref ml, .ref mz, .ref ms, .int (iI op), .int (iI mr), .int (iI (bI (ld = true))), .int (iI (bI (pt = true))), .int (iI ((fr : Nat) : Int)), .ref mt, .int (iI ((sn : Nat) : Int)), .ref mb, .ref me, .ref bt, .ref wy, .ref lq, .ref df, .int (iI ((dn : Nat) : Int))])), (mt, .inl (tI, 192, .inl (iA (iN d))))]) := by
  intro sz
  refine r_met (by decide) (Nat.le_of_ble_eq_true rfl) ?_
  intro F p e s m args below meth c Q A hX hT hAe hsz hin
  subst hAe
  replace hX : rOK F p l e rm_Mo_count_3 s m args below meth c Q prog_12_method_34_code 2 "RowAlignerModel" D (tysA tI tJ tZ) _ := hX
  show F 0 [(0, .ref mo), (1, .int (iI ((3 : Nat) : Int)))] [] [(mo, .inr (10, [.int (iI cd), .ref ml, .ref mz, .ref ms, .int (iI op), .int (iI mr), .int (iI (bI (ld = true))), .int (iI (bI (pt = true))), .int (iI ((fr : Nat) : Int)), .ref mt, .int (iI ((sn : Nat) : Int)), .ref mb, .ref me, .ref bt, .ref wy, .ref lq, .ref df, .int (iI ((dn : Nat) : Int))])), (mt, .inl (tI, 192, .inl (iA (iN d))))] 0 0
  refine r_aload_n hX 0 d_Mo_count_0 rfl ?_
  refine r_iload_n hX 1 d_Mo_count_1 rfl ?_
  refine r_iconstN hX 0 d_Mo_count_2 rfl ?_
  refine r_iconstN hX 3 d_Mo_count_3 rfl ?_
  refine r_invS_i0 (st := [.ref mo]) (As := [.int (iI ((3 : Nat) : Int)), .int (iI ((0 : Nat) : Int)), .int (iI ((3 : Nat) : Int))]) (wr := [(mo, .inr (10, [.int (iI cd), .ref ml, .ref mz, .ref ms, .int (iI op), .int (iI mr), .int (iI (bI (ld = true))), .int (iI (bI (pt = true))), .int (iI ((fr : Nat) : Int)), .ref mt, .int (iI ((sn : Nat) : Int)), .ref mb, .ref me, .ref bt, .ref wy, .ref lq, .ref df, .int (iI ((dn : Nat) : Int))])), (mt, .inl (tI, 192, .inl (iA (iN d))))]) hX (c_Mo_isIn l D tI tJ tZ (((3 : Nat) : Int)) (((0 : Nat) : Int)) (((3 : Nat) : Int)) (by unfold iR; omega) (by unfold iR; omega) (by unfold iR; omega)) yn_Mo_isIn ml_Mo_65 st_Mo_isIn co_Mo_isIn in_Mo (by decide) (by decide) (by decide) [] [0, 1] rfl rfl rfl rfl rfl (by decide) rfl rfl (Nat.le_of_ble_eq_true rfl) d_Mo_count_4 [0, 1] rfl (w2 := fun _ => [(mo, .inr (10, [.int (iI cd), .ref ml, .ref mz, .ref ms, .int (iI op), .int (iI mr), .int (iI (bI (ld = true))), .int (iI (bI (pt = true))), .int (iI ((fr : Nat) : Int)), .ref mt, .int (iI ((sn : Nat) : Int)), .ref mb, .ref me, .ref bt, .ref wy, .ref lq, .ref df, .int (iI ((dn : Nat) : Int))])), (mt, .inl (tI, 192, .inl (iA (iN d))))]) (fun _ => rfl) (fun r4 _ e4 => ?_)
  subst e4
  refine rb_if_ne hX 14 d_Mo_count_7 (by decide) (fun h7 => ?_) (fun h7 => by exfalso; omega)
  refine r_aload_n hX 0 d_Mo_count_14 rfl ?_
  refine r_get hX cf_Mo 0 rfl 6 (by decide) fl_Mo_61 rfl d_Mo_count_15 ?_
  refine rb_if_eq hX 25 d_Mo_count_18 (by decide) (fun h18 => by exfalso; exact h18 hl) (fun h18 => ?_)
  refine r_iconstN hX 0 d_Mo_count_21 rfl ?_
  refine r_goto hX 26 d_Mo_count_22 (by decide) ?_
  refine r_put hX (ws' := [(mo, .inr (10, [.int (iI ((0 : Nat) : Int)), .ref ml, .ref mz, .ref ms, .int (iI op), .int (iI mr), .int (iI (bI (ld = true))), .int (iI (bI (pt = true))), .int (iI ((fr : Nat) : Int)), .ref mt, .int (iI ((sn : Nat) : Int)), .ref mb, .ref me, .ref bt, .ref wy, .ref lq, .ref df, .int (iI ((dn : Nat) : Int))])), (mt, .inl (tI, 192, .inl (iA (iN d))))]) cf_Mo 0 rfl 0 (by decide) fl_Mo_52 rfl rfl rfl (Nat.le_of_ble_eq_true rfl) rfl d_Mo_count_26 ?_
  refine r_aload_n hX 0 d_Mo_count_29 rfl ?_
  refine r_get hX cf_Mo 0 rfl 0 (by decide) fl_Mo_52 rfl d_Mo_count_30 ?_
  refine r_if_le hX 40 d_Mo_count_33 (by decide) (by unfold iR; omega) (fun h33 => ?_) (fun h33 => by exfalso; omega)
  refine r_iload_n hX 1 d_Mo_count_40 rfl ?_
  refine r_if_ne hX 51 d_Mo_count_41 (by decide) (by unfold iR; omega) (fun h41 => ?_) (fun h41 => by exfalso; omega)
  refine r_iload_n hX 1 d_Mo_count_51 rfl ?_
  refine r_iconstN hX 1 d_Mo_count_52 rfl ?_
  refine r_icmp_ne hX 63 d_Mo_count_53 (by decide) (by unfold iR; omega) (by unfold iR; omega) (fun h53 => ?_) (fun h53 => by exfalso; omega)
  refine r_iload_n hX 1 d_Mo_count_63 rfl ?_
  refine r_iconstN hX 2 d_Mo_count_64 rfl ?_
  refine r_icmp_ne hX 75 d_Mo_count_65 (by decide) (by unfold iR; omega) (by unfold iR; omega) (fun h65 => ?_) (fun h65 => by exfalso; omega)
  refine r_aload_n hX 0 d_Mo_count_75 rfl ?_
  refine r_invV_i0 (st := []) (As := []) (wr := []) hX (c_Mo_lettersInGaps l D tI tJ tZ mo ml mz ms mt mb me bt wy lq df (((0 : Nat) : Int)) op mr ld pt fr sn dn d hs hd) "RowAlignerModel" 0 10 cf_Mo rfl yn_Mo_lettersInGaps ml_Mo_126 im_Mo_lettersInGaps se_Mo_lettersInGaps co_Mo_lettersInGaps in_Mo (by decide) (by decide) (by decide) [0, 1] [] rfl rfl rfl rfl rfl (by decide) rfl rfl (Nat.le_of_ble_eq_true rfl) d_Mo_count_76 [0, 1] rfl (w2 := fun _ => [(mo, .inr (10, [.int (iI ((0 : Nat) : Int)), .ref ml, .ref mz, .ref ms, .int (iI op), .int (iI mr), .int (iI (bI (ld = true))), .int (iI (bI (pt = true))), .int (iI ((fr : Nat) : Int)), .ref mt, .int (iI ((sn : Nat) : Int)), .ref mb, .ref me, .ref bt, .ref wy, .ref lq, .ref df, .int (iI ((dn : Nat) : Int))])), (mt, .inl (tI, 192, .inl (iA (iN d))))]) (fun _ => rfl) (fun r76 _ e76 => ?_)
  subst e76
  exact r_iret hX hT () rfl rfl (by decide) (by decide) d_Mo_count_79

abbrev rm_Mo_count_1 : Room := { frames := 1, cells := 0, slots := 0, locals := 25 }
set_option maxHeartbeats 4000000 in
set_option maxRecDepth 100000 in
theorem c_Mo_count_1 (l : Launch) (D : va_G) (tI tJ tZ : ClassId) (mo : Nat) (ml : Nat) (mz : Nat) (ms : Nat) (mt : Nat) (mb : Nat) (me : Nat) (bt : Nat) (wy : Nat) (lq : Nat) (df : Nat) (cd : Int) (op : Int) (mr : Int) (ld : Bool) (pt : Bool) (fr : Nat) (sn : Nat) (dn : Nat) (L : Nat → Nat) (d : Nat → Nat) (B : Nat → Nat) (hl : ld = true) (hL : ∀ k, L k < 26) (hs : sn ≤ 192) (hd : ∀ t, d t < 3) (hB : B 0 ≤ 96 ∧ B 1 ≤ 96) (hpos : ∀ k, k < sn → d k = 0 → B 0 + ra_qi d k < 96 ∧ B 1 + ra_qj d k < 96) : rCi l y_Mo_count prog_12_method_34_code 2 .int rm_Mo_count_1 D (tysA tI tJ tZ) [.ref mo, .int (iI ((1 : Nat) : Int))] [(mo, .inr (10, [.int (iI cd), .ref ml, .ref mz, .ref ms, .int (iI op), .int (iI mr), .int (iI (bI (ld = true))), .int (iI (bI (pt = true))), .int (iI ((fr : Nat) : Int)), .ref mt, .int (iI ((sn : Nat) : Int)), .ref mb, .ref me, .ref bt, .ref wy, .ref lq, .ref df, .int (iI ((dn : Nat) : Int))])), (ml, .inl (tI, 192, .inl (iA (iN L)))), (mt, .inl (tI, 192, .inl (iA (iN d)))), (mb, .inl (tI, 2, .inl (iA (iN B))))] (fun zz (_ : Unit) => zz = iI (((ra_cp L (fun q => L (96 + q)) d (B 0) (B 1) sn : Nat) : Int))) (fun (_ : Unit) => [(mo, .inr (10, [.int (iI 0), .ref ml, .ref mz, .ref ms, .int (iI op), .int (iI mr), .int (iI (bI (ld = true))), .int (iI (bI (pt = true))), .int (iI ((fr : Nat) : Int)), .ref mt, .int (iI ((sn : Nat) : Int)), .ref mb, .ref me, .ref bt, .ref wy, .ref lq, .ref df, .int (iI ((dn : Nat) : Int))])), (ml, .inl (tI, 192, .inl (iA (iN L)))), (mt, .inl (tI, 192, .inl (iA (iN d)))), (mb, .inl (tI, 2, .inl (iA (iN B))))]) := by
  intro sz
  refine r_met (by decide) (Nat.le_of_ble_eq_true rfl) ?_
  intro F p e s m args below meth c Q A hX hT hAe hsz hin
  subst hAe
  replace hX : rOK F p l e rm_Mo_count_1 s m args below meth c Q prog_12_method_34_code 2 "RowAlignerModel" D (tysA tI tJ tZ) _ := hX
  show F 0 [(0, .ref mo), (1, .int (iI ((1 : Nat) : Int)))] [] [(mo, .inr (10, [.int (iI cd), .ref ml, .ref mz, .ref ms, .int (iI op), .int (iI mr), .int (iI (bI (ld = true))), .int (iI (bI (pt = true))), .int (iI ((fr : Nat) : Int)), .ref mt, .int (iI ((sn : Nat) : Int)), .ref mb, .ref me, .ref bt, .ref wy, .ref lq, .ref df, .int (iI ((dn : Nat) : Int))])), (ml, .inl (tI, 192, .inl (iA (iN L)))), (mt, .inl (tI, 192, .inl (iA (iN d)))), (mb, .inl (tI, 2, .inl (iA (iN B))))] 0 0
  refine r_aload_n hX 0 d_Mo_count_0 rfl ?_
  refine r_iload_n hX 1 d_Mo_count_1 rfl ?_
  refine r_iconstN hX 0 d_Mo_count_2 rfl ?_
  refine r_iconstN hX 3 d_Mo_count_3 rfl ?_
  refine r_invS_i0 (st := [.ref mo]) (As := [.int (iI ((1 : Nat) : Int)), .int (iI ((0 : Nat) : Int)), .int (iI ((3 : Nat) : Int))]) (wr := [(mo, .inr (10, [.int (iI cd), .ref ml, .ref mz, .ref ms, .int (iI op), .int (iI mr), .int (iI (bI (ld = true))), .int (iI (bI (pt = true))), .int (iI ((fr : Nat) : Int)), .ref mt, .int (iI ((sn : Nat) : Int)), .ref mb, .ref me, .ref bt, .ref wy, .ref lq, .ref df, .int (iI ((dn : Nat) : Int))])), (ml, .inl (tI, 192, .inl (iA (iN L)))), (mt, .inl (tI, 192, .inl (iA (iN d)))), (mb, .inl (tI, 2, .inl (iA (iN B))))]) hX (c_Mo_isIn l D tI tJ tZ (((1 : Nat) : Int)) (((0 : Nat) : Int)) (((3 : Nat) : Int)) (by unfold iR; omega) (by unfold iR; omega) (by unfold iR; omega)) yn_Mo_isIn ml_Mo_65 st_Mo_isIn co_Mo_isIn in_Mo (by decide) (by decide) (by decide) [] [0, 1, 2, 3] rfl rfl rfl rfl rfl (by decide) rfl rfl (Nat.le_of_ble_eq_true rfl) d_Mo_count_4 [0, 1, 2, 3] rfl (w2 := fun _ => [(mo, .inr (10, [.int (iI cd), .ref ml, .ref mz, .ref ms, .int (iI op), .int (iI mr), .int (iI (bI (ld = true))), .int (iI (bI (pt = true))), .int (iI ((fr : Nat) : Int)), .ref mt, .int (iI ((sn : Nat) : Int)), .ref mb, .ref me, .ref bt, .ref wy, .ref lq, .ref df, .int (iI ((dn : Nat) : Int))])), (ml, .inl (tI, 192, .inl (iA (iN L)))), (mt, .inl (tI, 192, .inl (iA (iN d)))), (mb, .inl (tI, 2, .inl (iA (iN B))))]) (fun _ => rfl) (fun r4 _ e4 => ?_)
  subst e4
  refine rb_if_ne hX 14 d_Mo_count_7 (by decide) (fun h7 => ?_) (fun h7 => by exfalso; omega)
  refine r_aload_n hX 0 d_Mo_count_14 rfl ?_
  refine r_get hX cf_Mo 0 rfl 6 (by decide) fl_Mo_61 rfl d_Mo_count_15 ?_
  refine rb_if_eq hX 25 d_Mo_count_18 (by decide) (fun h18 => by exfalso; exact h18 hl) (fun h18 => ?_)
  refine r_iconstN hX 0 d_Mo_count_21 rfl ?_
  refine r_goto hX 26 d_Mo_count_22 (by decide) ?_
  refine r_put hX (ws' := [(mo, .inr (10, [.int (iI ((0 : Nat) : Int)), .ref ml, .ref mz, .ref ms, .int (iI op), .int (iI mr), .int (iI (bI (ld = true))), .int (iI (bI (pt = true))), .int (iI ((fr : Nat) : Int)), .ref mt, .int (iI ((sn : Nat) : Int)), .ref mb, .ref me, .ref bt, .ref wy, .ref lq, .ref df, .int (iI ((dn : Nat) : Int))])), (ml, .inl (tI, 192, .inl (iA (iN L)))), (mt, .inl (tI, 192, .inl (iA (iN d)))), (mb, .inl (tI, 2, .inl (iA (iN B))))]) cf_Mo 0 rfl 0 (by decide) fl_Mo_52 rfl rfl rfl (Nat.le_of_ble_eq_true rfl) rfl d_Mo_count_26 ?_
  refine r_aload_n hX 0 d_Mo_count_29 rfl ?_
  refine r_get hX cf_Mo 0 rfl 0 (by decide) fl_Mo_52 rfl d_Mo_count_30 ?_
  refine r_if_le hX 40 d_Mo_count_33 (by decide) (by unfold iR; omega) (fun h33 => ?_) (fun h33 => by exfalso; omega)
  refine r_iload_n hX 1 d_Mo_count_40 rfl ?_
  refine r_if_ne hX 51 d_Mo_count_41 (by decide) (by unfold iR; omega) (fun h41 => ?_) (fun h41 => by exfalso; omega)
  refine r_iload_n hX 1 d_Mo_count_51 rfl ?_
  refine r_iconstN hX 1 d_Mo_count_52 rfl ?_
  refine r_icmp_ne hX 63 d_Mo_count_53 (by decide) (by unfold iR; omega) (by unfold iR; omega) (fun h53 => by exfalso; omega) (fun h53 => ?_)
  refine r_aload_n hX 0 d_Mo_count_56 rfl ?_
  refine r_invV_i0 (st := []) (As := []) (wr := []) hX (c_Mo_samePairs l D tI tJ tZ mo ml mz ms mt mb me bt wy lq df (((0 : Nat) : Int)) op mr ld pt fr sn dn L d B hL hs hd hB hpos) "RowAlignerModel" 0 10 cf_Mo rfl yn_Mo_samePairs ml_Mo_120 im_Mo_samePairs se_Mo_samePairs co_Mo_samePairs in_Mo (by decide) (by decide) (by decide) [0, 1, 2, 3] [] rfl rfl rfl rfl rfl (by decide) rfl rfl (Nat.le_of_ble_eq_true rfl) d_Mo_count_57 [0, 1, 2, 3] rfl (w2 := fun _ => [(mo, .inr (10, [.int (iI ((0 : Nat) : Int)), .ref ml, .ref mz, .ref ms, .int (iI op), .int (iI mr), .int (iI (bI (ld = true))), .int (iI (bI (pt = true))), .int (iI ((fr : Nat) : Int)), .ref mt, .int (iI ((sn : Nat) : Int)), .ref mb, .ref me, .ref bt, .ref wy, .ref lq, .ref df, .int (iI ((dn : Nat) : Int))])), (ml, .inl (tI, 192, .inl (iA (iN L)))), (mt, .inl (tI, 192, .inl (iA (iN d)))), (mb, .inl (tI, 2, .inl (iA (iN B))))]) (fun _ => rfl) (fun r57 _ e57 => ?_)
  subst e57
  refine r_goto hX 79 d_Mo_count_60 (by decide) ?_
  exact r_iret hX hT () rfl rfl (by decide) (by decide) d_Mo_count_79

abbrev rm_Mo_run_r : Room := { frames := 1, cells := 0, slots := 0, locals := 22 }
set_option maxHeartbeats 4000000 in
set_option maxRecDepth 100000 in
theorem c_Mo_run_r (l : Launch) (D : va_G) (tI tJ tZ : ClassId) (mo : Nat) (ml : Nat) (mz : Nat) (ms : Nat) (mt : Nat) (mb : Nat) (me : Nat) (bt : Nat) (wy : Nat) (lq : Nat) (df : Nat) (cd : Int) (op : Int) (mr : Int) (ld : Bool) (pt : Bool) (fr : Nat) (sn : Nat) (dn : Nat) (x : Int) (y : Int) (hy : iR y) (hr : y < 0 ∨ 1 < y) : rCi l y_Mo_run prog_12_method_35_code 7 .int rm_Mo_run_r D (tysA tI tJ tZ) [.ref mo, .int (iI x), .int (iI y)] [(mo, .inr (10, [.int (iI cd), .ref ml, .ref mz, .ref ms, .int (iI op), .int (iI mr), .int (iI (bI (ld = true))), .int (iI (bI (pt = true))), .int (iI ((fr : Nat) : Int)), .ref mt, .int (iI ((sn : Nat) : Int)), .ref mb, .ref me, .ref bt, .ref wy, .ref lq, .ref df, .int (iI ((dn : Nat) : Int))]))] (fun zz (_ : Unit) => zz = iI (((0 : Nat) : Int))) (fun (_ : Unit) => [(mo, .inr (10, [.int (iI 1), .ref ml, .ref mz, .ref ms, .int (iI op), .int (iI mr), .int (iI (bI (ld = true))), .int (iI (bI (pt = true))), .int (iI ((fr : Nat) : Int)), .ref mt, .int (iI ((sn : Nat) : Int)), .ref mb, .ref me, .ref bt, .ref wy, .ref lq, .ref df, .int (iI ((dn : Nat) : Int))]))]) := by
  intro sz
  refine r_met (by decide) (Nat.le_of_ble_eq_true rfl) ?_
  intro F p e s m args below meth c Q A hX hT hAe hsz hin
  subst hAe
  replace hX : rOK F p l e rm_Mo_run_r s m args below meth c Q prog_12_method_35_code 7 "RowAlignerModel" D (tysA tI tJ tZ) _ := hX
  unfold iR at hy
  show F 0 [(0, .ref mo), (1, .int (iI x)), (2, .int (iI y))] [] [(mo, .inr (10, [.int (iI cd), .ref ml, .ref mz, .ref ms, .int (iI op), .int (iI mr), .int (iI (bI (ld = true))), .int (iI (bI (pt = true))), .int (iI ((fr : Nat) : Int)), .ref mt, .int (iI ((sn : Nat) : Int)), .ref mb, .ref me, .ref bt, .ref wy, .ref lq, .ref df, .int (iI ((dn : Nat) : Int))]))] 0 0
  refine r_aload_n hX 0 d_Mo_run_0 rfl ?_
  refine r_iload_n hX 2 d_Mo_run_1 rfl ?_
  refine r_iconstN hX 0 d_Mo_run_2 rfl ?_
  refine r_iconstN hX 1 d_Mo_run_3 rfl ?_
  refine r_invS_i0 (st := [.ref mo]) (As := [.int (iI y), .int (iI ((0 : Nat) : Int)), .int (iI ((1 : Nat) : Int))]) (wr := [(mo, .inr (10, [.int (iI cd), .ref ml, .ref mz, .ref ms, .int (iI op), .int (iI mr), .int (iI (bI (ld = true))), .int (iI (bI (pt = true))), .int (iI ((fr : Nat) : Int)), .ref mt, .int (iI ((sn : Nat) : Int)), .ref mb, .ref me, .ref bt, .ref wy, .ref lq, .ref df, .int (iI ((dn : Nat) : Int))]))]) hX (c_Mo_isIn l D tI tJ tZ y (((0 : Nat) : Int)) (((1 : Nat) : Int)) (by unfold iR; omega) (by unfold iR; omega) (by unfold iR; omega)) yn_Mo_isIn ml_Mo_65 st_Mo_isIn co_Mo_isIn in_Mo (by decide) (by decide) (by decide) [] [0] rfl rfl rfl rfl rfl (by decide) rfl rfl (Nat.le_of_ble_eq_true rfl) d_Mo_run_4 [0] rfl (w2 := fun _ => [(mo, .inr (10, [.int (iI cd), .ref ml, .ref mz, .ref ms, .int (iI op), .int (iI mr), .int (iI (bI (ld = true))), .int (iI (bI (pt = true))), .int (iI ((fr : Nat) : Int)), .ref mt, .int (iI ((sn : Nat) : Int)), .ref mb, .ref me, .ref bt, .ref wy, .ref lq, .ref df, .int (iI ((dn : Nat) : Int))]))]) (fun _ => rfl) (fun r4 _ e4 => ?_)
  subst e4
  refine rb_if_ne hX 14 d_Mo_run_7 (by decide) (fun h7 => by exfalso; omega) (fun h7 => ?_)
  refine r_iconstN hX 1 d_Mo_run_10 rfl ?_
  refine r_goto hX 42 d_Mo_run_11 (by decide) ?_
  refine r_put hX (ws' := [(mo, .inr (10, [.int (iI ((1 : Nat) : Int)), .ref ml, .ref mz, .ref ms, .int (iI op), .int (iI mr), .int (iI (bI (ld = true))), .int (iI (bI (pt = true))), .int (iI ((fr : Nat) : Int)), .ref mt, .int (iI ((sn : Nat) : Int)), .ref mb, .ref me, .ref bt, .ref wy, .ref lq, .ref df, .int (iI ((dn : Nat) : Int))]))]) cf_Mo 0 rfl 0 (by decide) fl_Mo_52 rfl rfl rfl (Nat.le_of_ble_eq_true rfl) rfl d_Mo_run_42 ?_
  refine r_aload_n hX 0 d_Mo_run_45 rfl ?_
  refine r_get hX cf_Mo 0 rfl 0 (by decide) fl_Mo_52 rfl d_Mo_run_46 ?_
  refine r_if_le hX 54 d_Mo_run_49 (by decide) (by unfold iR; omega) (fun h49 => by exfalso; omega) (fun h49 => ?_)
  refine r_iconstN hX 0 d_Mo_run_52 rfl ?_
  exact r_iret hX hT () rfl rfl (by decide) (by decide) d_Mo_run_53

abbrev rm_Mo_run_n : Room := { frames := 1, cells := 0, slots := 0, locals := 22 }
set_option maxHeartbeats 4000000 in
set_option maxRecDepth 100000 in
theorem c_Mo_run_n (l : Launch) (D : va_G) (tI tJ tZ : ClassId) (mo : Nat) (ml : Nat) (mz : Nat) (ms : Nat) (mt : Nat) (mb : Nat) (me : Nat) (bt : Nat) (wy : Nat) (lq : Nat) (df : Nat) (cd : Int) (op : Int) (mr : Int) (ld : Bool) (pt : Bool) (fr : Nat) (sn : Nat) (dn : Nat) (x : Int) (y : Nat) (hr : y < 2) (hl : ¬ ld = true) : rCi l y_Mo_run prog_12_method_35_code 7 .int rm_Mo_run_n D (tysA tI tJ tZ) [.ref mo, .int (iI x), .int (iI ((y : Nat) : Int))] [(mo, .inr (10, [.int (iI cd), .ref ml, .ref mz, .ref ms, .int (iI op), .int (iI mr), .int (iI (bI (ld = true))), .int (iI (bI (pt = true))), .int (iI ((fr : Nat) : Int)), .ref mt, .int (iI ((sn : Nat) : Int)), .ref mb, .ref me, .ref bt, .ref wy, .ref lq, .ref df, .int (iI ((dn : Nat) : Int))]))] (fun zz (_ : Unit) => zz = iI (((0 : Nat) : Int))) (fun (_ : Unit) => [(mo, .inr (10, [.int (iI 2), .ref ml, .ref mz, .ref ms, .int (iI op), .int (iI mr), .int (iI (bI (ld = true))), .int (iI (bI (pt = true))), .int (iI ((fr : Nat) : Int)), .ref mt, .int (iI ((sn : Nat) : Int)), .ref mb, .ref me, .ref bt, .ref wy, .ref lq, .ref df, .int (iI ((dn : Nat) : Int))]))]) := by
  intro sz
  refine r_met (by decide) (Nat.le_of_ble_eq_true rfl) ?_
  intro F p e s m args below meth c Q A hX hT hAe hsz hin
  subst hAe
  replace hX : rOK F p l e rm_Mo_run_n s m args below meth c Q prog_12_method_35_code 7 "RowAlignerModel" D (tysA tI tJ tZ) _ := hX
  show F 0 [(0, .ref mo), (1, .int (iI x)), (2, .int (iI ((y : Nat) : Int)))] [] [(mo, .inr (10, [.int (iI cd), .ref ml, .ref mz, .ref ms, .int (iI op), .int (iI mr), .int (iI (bI (ld = true))), .int (iI (bI (pt = true))), .int (iI ((fr : Nat) : Int)), .ref mt, .int (iI ((sn : Nat) : Int)), .ref mb, .ref me, .ref bt, .ref wy, .ref lq, .ref df, .int (iI ((dn : Nat) : Int))]))] 0 0
  refine r_aload_n hX 0 d_Mo_run_0 rfl ?_
  refine r_iload_n hX 2 d_Mo_run_1 rfl ?_
  refine r_iconstN hX 0 d_Mo_run_2 rfl ?_
  refine r_iconstN hX 1 d_Mo_run_3 rfl ?_
  refine r_invS_i0 (st := [.ref mo]) (As := [.int (iI ((y : Nat) : Int)), .int (iI ((0 : Nat) : Int)), .int (iI ((1 : Nat) : Int))]) (wr := [(mo, .inr (10, [.int (iI cd), .ref ml, .ref mz, .ref ms, .int (iI op), .int (iI mr), .int (iI (bI (ld = true))), .int (iI (bI (pt = true))), .int (iI ((fr : Nat) : Int)), .ref mt, .int (iI ((sn : Nat) : Int)), .ref mb, .ref me, .ref bt, .ref wy, .ref lq, .ref df, .int (iI ((dn : Nat) : Int))]))]) hX (c_Mo_isIn l D tI tJ tZ (((y : Nat) : Int)) (((0 : Nat) : Int)) (((1 : Nat) : Int)) (by unfold iR; omega) (by unfold iR; omega) (by unfold iR; omega)) yn_Mo_isIn ml_Mo_65 st_Mo_isIn co_Mo_isIn in_Mo (by decide) (by decide) (by decide) [] [0] rfl rfl rfl rfl rfl (by decide) rfl rfl (Nat.le_of_ble_eq_true rfl) d_Mo_run_4 [0] rfl (w2 := fun _ => [(mo, .inr (10, [.int (iI cd), .ref ml, .ref mz, .ref ms, .int (iI op), .int (iI mr), .int (iI (bI (ld = true))), .int (iI (bI (pt = true))), .int (iI ((fr : Nat) : Int)), .ref mt, .int (iI ((sn : Nat) : Int)), .ref mb, .ref me, .ref bt, .ref wy, .ref lq, .ref df, .int (iI ((dn : Nat) : Int))]))]) (fun _ => rfl) (fun r4 _ e4 => ?_)
  subst e4
  refine rb_if_ne hX 14 d_Mo_run_7 (by decide) (fun h7 => ?_) (fun h7 => by exfalso; omega)
  refine r_aload_n hX 0 d_Mo_run_14 rfl ?_
  refine r_get hX cf_Mo 0 rfl 6 (by decide) fl_Mo_61 rfl d_Mo_run_15 ?_
  refine rb_if_ne hX 25 d_Mo_run_18 (by decide) (fun h18 => by exfalso; exact hl h18) (fun h18 => ?_)
  refine r_iconstN hX 2 d_Mo_run_21 rfl ?_
  refine r_goto hX 42 d_Mo_run_22 (by decide) ?_
  refine r_put hX (ws' := [(mo, .inr (10, [.int (iI ((2 : Nat) : Int)), .ref ml, .ref mz, .ref ms, .int (iI op), .int (iI mr), .int (iI (bI (ld = true))), .int (iI (bI (pt = true))), .int (iI ((fr : Nat) : Int)), .ref mt, .int (iI ((sn : Nat) : Int)), .ref mb, .ref me, .ref bt, .ref wy, .ref lq, .ref df, .int (iI ((dn : Nat) : Int))]))]) cf_Mo 0 rfl 0 (by decide) fl_Mo_52 rfl rfl rfl (Nat.le_of_ble_eq_true rfl) rfl d_Mo_run_42 ?_
  refine r_aload_n hX 0 d_Mo_run_45 rfl ?_
  refine r_get hX cf_Mo 0 rfl 0 (by decide) fl_Mo_52 rfl d_Mo_run_46 ?_
  refine r_if_le hX 54 d_Mo_run_49 (by decide) (by unfold iR; omega) (fun h49 => by exfalso; omega) (fun h49 => ?_)
  refine r_iconstN hX 0 d_Mo_run_52 rfl ?_
  exact r_iret hX hT () rfl rfl (by decide) (by decide) d_Mo_run_53

abbrev rm_Mo_run_i : Room := { frames := 1, cells := 0, slots := 0, locals := 22 }
set_option maxHeartbeats 4000000 in
set_option maxRecDepth 100000 in
theorem c_Mo_run_i (l : Launch) (D : va_G) (tI tJ tZ : ClassId) (mo : Nat) (ml : Nat) (mz : Nat) (ms : Nat) (mt : Nat) (mb : Nat) (me : Nat) (bt : Nat) (wy : Nat) (lq : Nat) (df : Nat) (cd : Int) (op : Int) (mr : Int) (ld : Bool) (pt : Bool) (fr : Nat) (sn : Nat) (dn : Nat) (d : Nat → Nat) (x : Int) (y : Nat) (hx : iR x) (hr : y < 2) (hl : ld = true) (hs : sn ≤ 192) (hd : ∀ t, d t < 3) (hn : x < 0 ∨ ((ra_cr d sn : Nat) : Int) ≤ x) : rCi l y_Mo_run prog_12_method_35_code 7 .int rm_Mo_run_i D (tysA tI tJ tZ) [.ref mo, .int (iI x), .int (iI ((y : Nat) : Int))] [(mo, .inr (10, [.int (iI cd), .ref ml, .ref mz, .ref ms, .int (iI op), .int (iI mr), .int (iI (bI (ld = true))), .int (iI (bI (pt = true))), .int (iI ((fr : Nat) : Int)), .ref mt, .int (iI ((sn : Nat) : Int)), .ref mb, .ref me, .ref bt, .ref wy, .ref lq, .ref df, .int (iI ((dn : Nat) : Int))])), (mt, .inl (tI, 192, .inl (iA (iN d))))] (fun zz (_ : Unit) => zz = iI (((0 : Nat) : Int))) (fun (_ : Unit) => [(mo, .inr (10, [.int (iI 3), .ref ml, .ref mz, .ref ms, .int (iI op), .int (iI mr), .int (iI (bI (ld = true))), .int (iI (bI (pt = true))), .int (iI ((fr : Nat) : Int)), .ref mt, .int (iI ((sn : Nat) : Int)), .ref mb, .ref me, .ref bt, .ref wy, .ref lq, .ref df, .int (iI ((dn : Nat) : Int))])), (mt, .inl (tI, 192, .inl (iA (iN d))))]) := by
  intro sz
  refine r_met (by decide) (Nat.le_of_ble_eq_true rfl) ?_
  intro F p e s m args below meth c Q A hX hT hAe hsz hin
  subst hAe
  replace hX : rOK F p l e rm_Mo_run_i s m args below meth c Q prog_12_method_35_code 7 "RowAlignerModel" D (tysA tI tJ tZ) _ := hX
  unfold iR at hx
  have hcs := ra_cr_le d sn
  show F 0 [(0, .ref mo), (1, .int (iI x)), (2, .int (iI ((y : Nat) : Int)))] [] [(mo, .inr (10, [.int (iI cd), .ref ml, .ref mz, .ref ms, .int (iI op), .int (iI mr), .int (iI (bI (ld = true))), .int (iI (bI (pt = true))), .int (iI ((fr : Nat) : Int)), .ref mt, .int (iI ((sn : Nat) : Int)), .ref mb, .ref me, .ref bt, .ref wy, .ref lq, .ref df, .int (iI ((dn : Nat) : Int))])), (mt, .inl (tI, 192, .inl (iA (iN d))))] 0 0
  refine r_aload_n hX 0 d_Mo_run_0 rfl ?_
  refine r_iload_n hX 2 d_Mo_run_1 rfl ?_
  refine r_iconstN hX 0 d_Mo_run_2 rfl ?_
  refine r_iconstN hX 1 d_Mo_run_3 rfl ?_
  refine r_invS_i0 (st := [.ref mo]) (As := [.int (iI ((y : Nat) : Int)), .int (iI ((0 : Nat) : Int)), .int (iI ((1 : Nat) : Int))]) (wr := [(mo, .inr (10, [.int (iI cd), .ref ml, .ref mz, .ref ms, .int (iI op), .int (iI mr), .int (iI (bI (ld = true))), .int (iI (bI (pt = true))), .int (iI ((fr : Nat) : Int)), .ref mt, .int (iI ((sn : Nat) : Int)), .ref mb, .ref me, .ref bt, .ref wy, .ref lq, .ref df, .int (iI ((dn : Nat) : Int))])), (mt, .inl (tI, 192, .inl (iA (iN d))))]) hX (c_Mo_isIn l D tI tJ tZ (((y : Nat) : Int)) (((0 : Nat) : Int)) (((1 : Nat) : Int)) (by unfold iR; omega) (by unfold iR; omega) (by unfold iR; omega)) yn_Mo_isIn ml_Mo_65 st_Mo_isIn co_Mo_isIn in_Mo (by decide) (by decide) (by decide) [] [0, 1] rfl rfl rfl rfl rfl (by decide) rfl rfl (Nat.le_of_ble_eq_true rfl) d_Mo_run_4 [0, 1] rfl (w2 := fun _ => [(mo, .inr (10, [.int (iI cd), .ref ml, .ref mz, .ref ms, .int (iI op), .int (iI mr), .int (iI (bI (ld = true))), .int (iI (bI (pt = true))), .int (iI ((fr : Nat) : Int)), .ref mt, .int (iI ((sn : Nat) : Int)), .ref mb, .ref me, .ref bt, .ref wy, .ref lq, .ref df, .int (iI ((dn : Nat) : Int))])), (mt, .inl (tI, 192, .inl (iA (iN d))))]) (fun _ => rfl) (fun r4 _ e4 => ?_)
  subst e4
  refine rb_if_ne hX 14 d_Mo_run_7 (by decide) (fun h7 => ?_) (fun h7 => by exfalso; omega)
  refine r_aload_n hX 0 d_Mo_run_14 rfl ?_
  refine r_get hX cf_Mo 0 rfl 6 (by decide) fl_Mo_61 rfl d_Mo_run_15 ?_
  refine rb_if_ne hX 25 d_Mo_run_18 (by decide) (fun h18 => ?_) (fun h18 => by exfalso; exact h18 hl)
  refine r_iload_n hX 1 d_Mo_run_25 rfl ?_
  have J42 : F 42 [(0, .ref mo), (1, .int (iI x)), (2, .int (iI ((y : Nat) : Int)))] [.int (iI 3), .ref mo] [(mo, .inr (10, [.int (iI cd), .ref ml, .ref mz, .ref ms, .int (iI op), .int (iI mr), .int (iI (bI (ld = true))), .int (iI (bI (pt = true))), .int (iI ((fr : Nat) : Int)), .ref mt, .int (iI ((sn : Nat) : Int)), .ref mb, .ref me, .ref bt, .ref wy, .ref lq, .ref df, .int (iI ((dn : Nat) : Int))])), (mt, .inl (tI, 192, .inl (iA (iN d))))] 0 0 := by
    refine r_put hX (ws' := [(mo, .inr (10, [.int (iI 3), .ref ml, .ref mz, .ref ms, .int (iI op), .int (iI mr), .int (iI (bI (ld = true))), .int (iI (bI (pt = true))), .int (iI ((fr : Nat) : Int)), .ref mt, .int (iI ((sn : Nat) : Int)), .ref mb, .ref me, .ref bt, .ref wy, .ref lq, .ref df, .int (iI ((dn : Nat) : Int))])), (mt, .inl (tI, 192, .inl (iA (iN d))))]) cf_Mo 0 rfl 0 (by decide) fl_Mo_52 rfl rfl rfl (Nat.le_of_ble_eq_true rfl) rfl d_Mo_run_42 ?_
    refine r_aload_n hX 0 d_Mo_run_45 rfl ?_
    refine r_get hX cf_Mo 0 rfl 0 (by decide) fl_Mo_52 rfl d_Mo_run_46 ?_
    refine r_if_le hX 54 d_Mo_run_49 (by decide) (by unfold iR; omega) (fun h49 => by exfalso; omega) (fun h49 => ?_)
    refine r_iconstN hX 0 d_Mo_run_52 rfl ?_
    exact r_iret hX hT () rfl rfl (by decide) (by decide) d_Mo_run_53
  refine r_if_lt hX 37 d_Mo_run_26 (by decide) (by unfold iR; omega) (fun h26 => ?_) (fun h26 => ?_)
  · refine r_iconstN hX 3 d_Mo_run_37 rfl ?_
    refine r_goto hX 42 d_Mo_run_38 (by decide) ?_
    exact rj_e (by rfl) J42
  · refine r_iload_n hX 1 d_Mo_run_29 rfl ?_
    refine r_aload_n hX 0 d_Mo_run_30 rfl ?_
    refine r_invV_i0 (st := [.int (iI x), .ref mo]) (As := []) (wr := []) hX (c_Mo_runsNow l D tI tJ tZ mo ml mz ms mt mb me bt wy lq df cd op mr ld pt fr sn dn d hs hd) "RowAlignerModel" 0 10 cf_Mo rfl yn_Mo_runsNow ml_Mo_116 im_Mo_runsNow se_Mo_runsNow co_Mo_runsNow in_Mo (by decide) (by decide) (by decide) [0, 1] [] rfl rfl rfl rfl rfl (by decide) rfl rfl (Nat.le_of_ble_eq_true rfl) d_Mo_run_31 [0, 1] rfl (w2 := fun _ => [(mo, .inr (10, [.int (iI cd), .ref ml, .ref mz, .ref ms, .int (iI op), .int (iI mr), .int (iI (bI (ld = true))), .int (iI (bI (pt = true))), .int (iI ((fr : Nat) : Int)), .ref mt, .int (iI ((sn : Nat) : Int)), .ref mb, .ref me, .ref bt, .ref wy, .ref lq, .ref df, .int (iI ((dn : Nat) : Int))])), (mt, .inl (tI, 192, .inl (iA (iN d))))]) (fun _ => rfl) (fun r31 _ e31 => ?_)
    subst e31
    refine r_icmp_lt hX 41 d_Mo_run_34 (by decide) (by unfold iR; omega) (by unfold iR; omega) (fun h34 => by exfalso; omega) (fun h34 => ?_)
    refine r_iconstN hX 3 d_Mo_run_37 rfl ?_
    refine r_goto hX 42 d_Mo_run_38 (by decide) ?_
    exact rj_e (by rfl) J42

abbrev rm_Mo_run_0 : Room := { frames := 1, cells := 0, slots := 0, locals := 22 }
set_option maxHeartbeats 4000000 in
set_option maxRecDepth 100000 in
theorem c_Mo_run_0 (l : Launch) (D : va_G) (tI tJ tZ : ClassId) (mo : Nat) (ml : Nat) (mz : Nat) (ms : Nat) (mt : Nat) (mb : Nat) (me : Nat) (bt : Nat) (wy : Nat) (lq : Nat) (df : Nat) (cd : Int) (op : Int) (mr : Int) (ld : Bool) (pt : Bool) (fr : Nat) (sn : Nat) (dn : Nat) (d : Nat → Nat) (x : Nat) (hl : ld = true) (hs : sn ≤ 192) (hd : ∀ t, d t < 3) (hn : x < ra_cr d sn) : rCi l y_Mo_run prog_12_method_35_code 7 .int rm_Mo_run_0 D (tysA tI tJ tZ) [.ref mo, .int (iI ((x : Nat) : Int)), .int (iI ((0 : Nat) : Int))] [(mo, .inr (10, [.int (iI cd), .ref ml, .ref mz, .ref ms, .int (iI op), .int (iI mr), .int (iI (bI (ld = true))), .int (iI (bI (pt = true))), .int (iI ((fr : Nat) : Int)), .ref mt, .int (iI ((sn : Nat) : Int)), .ref mb, .ref me, .ref bt, .ref wy, .ref lq, .ref df, .int (iI ((dn : Nat) : Int))])), (mt, .inl (tI, 192, .inl (iA (iN d))))] (fun zz (_ : Unit) => zz = iI (((ra_rk d x sn : Nat) : Int))) (fun (_ : Unit) => [(mo, .inr (10, [.int (iI 0), .ref ml, .ref mz, .ref ms, .int (iI op), .int (iI mr), .int (iI (bI (ld = true))), .int (iI (bI (pt = true))), .int (iI ((fr : Nat) : Int)), .ref mt, .int (iI ((sn : Nat) : Int)), .ref mb, .ref me, .ref bt, .ref wy, .ref lq, .ref df, .int (iI ((dn : Nat) : Int))])), (mt, .inl (tI, 192, .inl (iA (iN d))))]) := by
  intro sz
  refine r_met (by decide) (Nat.le_of_ble_eq_true rfl) ?_
  intro F p e s m args below meth c Q A hX hT hAe hsz hin
  subst hAe
  replace hX : rOK F p l e rm_Mo_run_0 s m args below meth c Q prog_12_method_35_code 7 "RowAlignerModel" D (tysA tI tJ tZ) _ := hX
  have hcs := ra_cr_le d sn
  show F 0 [(0, .ref mo), (1, .int (iI ((x : Nat) : Int))), (2, .int (iI ((0 : Nat) : Int)))] [] [(mo, .inr (10, [.int (iI cd), .ref ml, .ref mz, .ref ms, .int (iI op), .int (iI mr), .int (iI (bI (ld = true))), .int (iI (bI (pt = true))), .int (iI ((fr : Nat) : Int)), .ref mt, .int (iI ((sn : Nat) : Int)), .ref mb, .ref me, .ref bt, .ref wy, .ref lq, .ref df, .int (iI ((dn : Nat) : Int))])), (mt, .inl (tI, 192, .inl (iA (iN d))))] 0 0
  refine r_aload_n hX 0 d_Mo_run_0 rfl ?_
  refine r_iload_n hX 2 d_Mo_run_1 rfl ?_
  refine r_iconstN hX 0 d_Mo_run_2 rfl ?_
  refine r_iconstN hX 1 d_Mo_run_3 rfl ?_
  refine r_invS_i0 (st := [.ref mo]) (As := [.int (iI ((0 : Nat) : Int)), .int (iI ((0 : Nat) : Int)), .int (iI ((1 : Nat) : Int))]) (wr := [(mo, .inr (10, [.int (iI cd), .ref ml, .ref mz, .ref ms, .int (iI op), .int (iI mr), .int (iI (bI (ld = true))), .int (iI (bI (pt = true))), .int (iI ((fr : Nat) : Int)), .ref mt, .int (iI ((sn : Nat) : Int)), .ref mb, .ref me, .ref bt, .ref wy, .ref lq, .ref df, .int (iI ((dn : Nat) : Int))])), (mt, .inl (tI, 192, .inl (iA (iN d))))]) hX (c_Mo_isIn l D tI tJ tZ (((0 : Nat) : Int)) (((0 : Nat) : Int)) (((1 : Nat) : Int)) (by unfold iR; omega) (by unfold iR; omega) (by unfold iR; omega)) yn_Mo_isIn ml_Mo_65 st_Mo_isIn co_Mo_isIn in_Mo (by decide) (by decide) (by decide) [] [0, 1] rfl rfl rfl rfl rfl (by decide) rfl rfl (Nat.le_of_ble_eq_true rfl) d_Mo_run_4 [0, 1] rfl (w2 := fun _ => [(mo, .inr (10, [.int (iI cd), .ref ml, .ref mz, .ref ms, .int (iI op), .int (iI mr), .int (iI (bI (ld = true))), .int (iI (bI (pt = true))), .int (iI ((fr : Nat) : Int)), .ref mt, .int (iI ((sn : Nat) : Int)), .ref mb, .ref me, .ref bt, .ref wy, .ref lq, .ref df, .int (iI ((dn : Nat) : Int))])), (mt, .inl (tI, 192, .inl (iA (iN d))))]) (fun _ => rfl) (fun r4 _ e4 => ?_)
  subst e4
  refine rb_if_ne hX 14 d_Mo_run_7 (by decide) (fun h7 => ?_) (fun h7 => by exfalso; omega)
  refine r_aload_n hX 0 d_Mo_run_14 rfl ?_
  refine r_get hX cf_Mo 0 rfl 6 (by decide) fl_Mo_61 rfl d_Mo_run_15 ?_
  refine rb_if_ne hX 25 d_Mo_run_18 (by decide) (fun h18 => ?_) (fun h18 => by exfalso; exact h18 hl)
  refine r_iload_n hX 1 d_Mo_run_25 rfl ?_
  refine r_if_lt hX 37 d_Mo_run_26 (by decide) (by unfold iR; omega) (fun h26 => by exfalso; omega) (fun h26 => ?_)
  refine r_iload_n hX 1 d_Mo_run_29 rfl ?_
  refine r_aload_n hX 0 d_Mo_run_30 rfl ?_
  refine r_invV_i0 (st := [.int (iI ((x : Nat) : Int)), .ref mo]) (As := []) (wr := []) hX (c_Mo_runsNow l D tI tJ tZ mo ml mz ms mt mb me bt wy lq df cd op mr ld pt fr sn dn d hs hd) "RowAlignerModel" 0 10 cf_Mo rfl yn_Mo_runsNow ml_Mo_116 im_Mo_runsNow se_Mo_runsNow co_Mo_runsNow in_Mo (by decide) (by decide) (by decide) [0, 1] [] rfl rfl rfl rfl rfl (by decide) rfl rfl (Nat.le_of_ble_eq_true rfl) d_Mo_run_31 [0, 1] rfl (w2 := fun _ => [(mo, .inr (10, [.int (iI cd), .ref ml, .ref mz, .ref ms, .int (iI op), .int (iI mr), .int (iI (bI (ld = true))), .int (iI (bI (pt = true))), .int (iI ((fr : Nat) : Int)), .ref mt, .int (iI ((sn : Nat) : Int)), .ref mb, .ref me, .ref bt, .ref wy, .ref lq, .ref df, .int (iI ((dn : Nat) : Int))])), (mt, .inl (tI, 192, .inl (iA (iN d))))]) (fun _ => rfl) (fun r31 _ e31 => ?_)
  subst e31
  refine r_icmp_lt hX 41 d_Mo_run_34 (by decide) (by unfold iR; omega) (by unfold iR; omega) (fun h34 => ?_) (fun h34 => by exfalso; omega)
  refine r_iconstN hX 0 d_Mo_run_41 rfl ?_
  refine r_put hX (ws' := [(mo, .inr (10, [.int (iI ((0 : Nat) : Int)), .ref ml, .ref mz, .ref ms, .int (iI op), .int (iI mr), .int (iI (bI (ld = true))), .int (iI (bI (pt = true))), .int (iI ((fr : Nat) : Int)), .ref mt, .int (iI ((sn : Nat) : Int)), .ref mb, .ref me, .ref bt, .ref wy, .ref lq, .ref df, .int (iI ((dn : Nat) : Int))])), (mt, .inl (tI, 192, .inl (iA (iN d))))]) cf_Mo 0 rfl 0 (by decide) fl_Mo_52 rfl rfl rfl (Nat.le_of_ble_eq_true rfl) rfl d_Mo_run_42 ?_
  refine r_aload_n hX 0 d_Mo_run_45 rfl ?_
  refine r_get hX cf_Mo 0 rfl 0 (by decide) fl_Mo_52 rfl d_Mo_run_46 ?_
  refine r_if_le hX 54 d_Mo_run_49 (by decide) (by unfold iR; omega) (fun h49 => ?_) (fun h49 => by exfalso; omega)
  refine r_iconst hX d_Mo_run_54 ?_
  refine r_istore_n hX (lv' := [(3, .int (iI (-1))), (0, .ref mo), (1, .int (iI ((x : Nat) : Int))), (2, .int (iI ((0 : Nat) : Int)))]) d_Mo_run_55 rfl (by decide) rfl ?_
  refine r_iconstN hX 0 d_Mo_run_56 rfl ?_
  refine r_istore hX (lv' := [(4, .int (iI ((0 : Nat) : Int))), (3, .int (iI (-1))), (0, .ref mo), (1, .int (iI ((x : Nat) : Int))), (2, .int (iI ((0 : Nat) : Int)))]) d_Mo_run_57 (by decide) rfl ?_
  refine r_iconstN hX 0 d_Mo_run_59 rfl ?_
  refine r_istore hX (lv' := [(5, .int (iI ((0 : Nat) : Int))), (4, .int (iI ((0 : Nat) : Int))), (3, .int (iI (-1))), (0, .ref mo), (1, .int (iI ((x : Nat) : Int))), (2, .int (iI ((0 : Nat) : Int)))]) d_Mo_run_60 (by decide) rfl ?_
  refine r_iconstN hX 0 d_Mo_run_62 rfl ?_
  refine r_istore hX (lv' := [(6, .int (iI ((0 : Nat) : Int))), (5, .int (iI ((0 : Nat) : Int))), (4, .int (iI ((0 : Nat) : Int))), (3, .int (iI (-1))), (0, .ref mo), (1, .int (iI ((x : Nat) : Int))), (2, .int (iI ((0 : Nat) : Int)))]) d_Mo_run_63 (by decide) rfl ?_
  have L65 : ∀ (dd : Nat) (k : Nat), sn - k = dd → (k ≤ sn) → F 65 [(6, .int (iI ((k : Nat) : Int))), (5, .int (iI ((ra_rm d x k : Nat) : Int))), (4, .int (iI ((ra_rk d x k : Nat) : Int))), (3, .int (iI (((ra_cr d k : Nat) : Int) - 1))), (2, .int (iI ((0 : Nat) : Int))), (1, .int (iI ((x : Nat) : Int))), (0, .ref mo)] [] [(mo, .inr (10, [.int (iI 0), .ref ml, .ref mz, .ref ms, .int (iI op), .int (iI mr), .int (iI (bI (ld = true))), .int (iI (bI (pt = true))), .int (iI ((fr : Nat) : Int)), .ref mt, .int (iI ((sn : Nat) : Int)), .ref mb, .ref me, .ref bt, .ref wy, .ref lq, .ref df, .int (iI ((dn : Nat) : Int))])), (mt, .inl (tI, 192, .inl (iA (iN d))))] 0 0 := by
    intro dd
    induction dd using Nat.strongRecOn with
    | _ dd ih65 =>
      intro k hmu65 hk
      refine r_iload hX 0 d_Mo_run_65 rfl ?_
      refine r_aload_n hX 6 d_Mo_run_67 rfl ?_
      refine r_get hX cf_Mo 0 rfl 10 (by decide) fl_Mo_98 rfl d_Mo_run_68 ?_
      refine r_icmp_ge hX 147 d_Mo_run_71 (by decide) (by unfold iR; omega) (by unfold iR; omega) (fun h71 => ?_) (fun h71 => ?_)
      · refine r_iload_n hX 4 d_Mo_run_147 rfl ?_
        refine r_if_ne hX 156 d_Mo_run_148 (by decide) (by unfold iR; omega) (fun h148 => by exfalso; omega) (fun h148 => ?_)
        refine r_iload hX 2 d_Mo_run_151 rfl ?_
        refine r_goto hX 158 d_Mo_run_153 (by decide) ?_
        exact r_iret hX hT () (by rw [show k = sn by omega]) rfl (by decide) (by decide) d_Mo_run_158
      · have hle := ra_cr_le d (k + 1)
        have hle2 := ra_cr_le d k
        have hd1 := hd k
        have hd2 := hd (k - 1)
        refine r_iload hX 0 d_Mo_run_74 rfl ?_
        have J105 : F 105 [(6, .int (iI ((k : Nat) : Int))), (5, .int (iI ((ra_rm d x k : Nat) : Int))), (4, .int (iI ((ra_rk d x k : Nat) : Int))), (3, .int (iI (((ra_cr d k : Nat) : Int) - 1))), (2, .int (iI ((0 : Nat) : Int))), (1, .int (iI ((x : Nat) : Int))), (0, .ref mo)] [.int (iI (((ra_cr d (k + 1) : Nat) : Int) - 1))] [(mo, .inr (10, [.int (iI 0), .ref ml, .ref mz, .ref ms, .int (iI op), .int (iI mr), .int (iI (bI (ld = true))), .int (iI (bI (pt = true))), .int (iI ((fr : Nat) : Int)), .ref mt, .int (iI ((sn : Nat) : Int)), .ref mb, .ref me, .ref bt, .ref wy, .ref lq, .ref df, .int (iI ((dn : Nat) : Int))])), (mt, .inl (tI, 192, .inl (iA (iN d))))] 0 0 := by
          refine r_istore_n hX (lv' := [(3, .int (iI (((ra_cr d (k + 1) : Nat) : Int) - 1))), (6, .int (iI ((k : Nat) : Int))), (5, .int (iI ((ra_rm d x k : Nat) : Int))), (4, .int (iI ((ra_rk d x k : Nat) : Int))), (2, .int (iI ((0 : Nat) : Int))), (1, .int (iI ((x : Nat) : Int))), (0, .ref mo)]) d_Mo_run_105 rfl (by decide) rfl ?_
          refine r_iload_n hX 0 d_Mo_run_106 rfl ?_
          refine r_iload_n hX 5 d_Mo_run_107 rfl ?_
          have J123 : F 123 [(3, .int (iI (((ra_cr d (k + 1) : Nat) : Int) - 1))), (6, .int (iI ((k : Nat) : Int))), (5, .int (iI ((ra_rm d x k : Nat) : Int))), (4, .int (iI ((ra_rk d x k : Nat) : Int))), (2, .int (iI ((0 : Nat) : Int))), (1, .int (iI ((x : Nat) : Int))), (0, .ref mo)] [.int (iI ((ra_rk d x (k + 1) : Nat) : Int))] [(mo, .inr (10, [.int (iI 0), .ref ml, .ref mz, .ref ms, .int (iI op), .int (iI mr), .int (iI (bI (ld = true))), .int (iI (bI (pt = true))), .int (iI ((fr : Nat) : Int)), .ref mt, .int (iI ((sn : Nat) : Int)), .ref mb, .ref me, .ref bt, .ref wy, .ref lq, .ref df, .int (iI ((dn : Nat) : Int))])), (mt, .inl (tI, 192, .inl (iA (iN d))))] 0 0 := by
            refine r_istore hX (lv' := [(4, .int (iI ((ra_rk d x (k + 1) : Nat) : Int))), (3, .int (iI (((ra_cr d (k + 1) : Nat) : Int) - 1))), (6, .int (iI ((k : Nat) : Int))), (5, .int (iI ((ra_rm d x k : Nat) : Int))), (2, .int (iI ((0 : Nat) : Int))), (1, .int (iI ((x : Nat) : Int))), (0, .ref mo)]) d_Mo_run_123 (by decide) rfl ?_
            refine r_iload_n hX 1 d_Mo_run_125 rfl ?_
            refine r_iload_n hX 5 d_Mo_run_126 rfl ?_
            have J139 : F 139 [(4, .int (iI ((ra_rk d x (k + 1) : Nat) : Int))), (3, .int (iI (((ra_cr d (k + 1) : Nat) : Int) - 1))), (6, .int (iI ((k : Nat) : Int))), (5, .int (iI ((ra_rm d x k : Nat) : Int))), (2, .int (iI ((0 : Nat) : Int))), (1, .int (iI ((x : Nat) : Int))), (0, .ref mo)] [.int (iI ((ra_rm d x (k + 1) : Nat) : Int))] [(mo, .inr (10, [.int (iI 0), .ref ml, .ref mz, .ref ms, .int (iI op), .int (iI mr), .int (iI (bI (ld = true))), .int (iI (bI (pt = true))), .int (iI ((fr : Nat) : Int)), .ref mt, .int (iI ((sn : Nat) : Int)), .ref mb, .ref me, .ref bt, .ref wy, .ref lq, .ref df, .int (iI ((dn : Nat) : Int))])), (mt, .inl (tI, 192, .inl (iA (iN d))))] 0 0 := by
              refine r_istore hX (lv' := [(5, .int (iI ((ra_rm d x (k + 1) : Nat) : Int))), (4, .int (iI ((ra_rk d x (k + 1) : Nat) : Int))), (3, .int (iI (((ra_cr d (k + 1) : Nat) : Int) - 1))), (6, .int (iI ((k : Nat) : Int))), (2, .int (iI ((0 : Nat) : Int))), (1, .int (iI ((x : Nat) : Int))), (0, .ref mo)]) d_Mo_run_139 (by decide) rfl ?_
              refine r_iincN hX (lv' := [(6, .int (iI ((k + 1 : Nat) : Int))), (5, .int (iI ((ra_rm d x (k + 1) : Nat) : Int))), (4, .int (iI ((ra_rk d x (k + 1) : Nat) : Int))), (3, .int (iI (((ra_cr d (k + 1) : Nat) : Int) - 1))), (2, .int (iI ((0 : Nat) : Int))), (1, .int (iI ((x : Nat) : Int))), (0, .ref mo)]) 3 d_Mo_run_141 rfl (by decide) rfl ?_
              refine r_goto hX 65 d_Mo_run_144 (by decide) ?_
              exact ih65 _ (by omega) (k + 1) rfl (by omega)
            refine r_icmp_ne hX 137 d_Mo_run_127 (by decide) (by unfold iR; omega) (by unfold iR; omega) (fun h127 => ?_) (fun h127 => ?_)
            · refine r_iload hX 3 d_Mo_run_137 rfl ?_
              exact rj_e (by first | exact congrArg (fun z : Nat => (z : Int)) (ra_rm_t (by omega)).symm | exact congrArg (fun z : Nat => (z : Int)) (ra_rm_f (by omega)).symm) J139
            · refine r_iload hX 3 d_Mo_run_130 rfl ?_
              refine r_iconstN hX 1 d_Mo_run_132 rfl ?_
              refine r_iaddN hX d_Mo_run_133 ?_
              refine r_goto hX 139 d_Mo_run_134 (by decide) ?_
              exact rj_e (by first | exact congrArg (fun z : Nat => (z : Int)) (ra_rm_t (by omega)).symm | exact congrArg (fun z : Nat => (z : Int)) (ra_rm_f (by omega)).symm) J139
          refine r_icmp_ne hX 121 d_Mo_run_108 (by decide) (by unfold iR; omega) (by unfold iR; omega) (fun h108 => ?_) (fun h108 => ?_)
          · refine r_iload hX 3 d_Mo_run_121 rfl ?_
            exact rj_e (by first | exact congrArg (fun z : Nat => (z : Int)) (ra_rk_t (by omega)).symm | exact congrArg (fun z : Nat => (z : Int)) (ra_rk_f (by omega)).symm) J123
          · refine r_aload_n hX 6 d_Mo_run_111 rfl ?_
            refine r_get hX cf_Mo 0 rfl 9 (by decide) fl_Mo_26 rfl d_Mo_run_112 ?_
            refine r_iload hX 1 d_Mo_run_115 rfl ?_
            refine r_ialdN hX 1 0 rfl rfl (k) rfl (by omega) (by decide) d_Mo_run_117 ?_
            refine r_goto hX 123 d_Mo_run_118 (by decide) ?_
            exact rj_e (by first | exact congrArg (fun z : Nat => (z : Int)) (ra_rk_t (by omega)).symm | exact congrArg (fun z : Nat => (z : Int)) (ra_rk_f (by omega)).symm) J123
        refine r_if_eq hX 98 d_Mo_run_76 (by decide) (by unfold iR; omega) (fun h76 => ?_) (fun h76 => ?_)
        · refine r_iload_n hX 3 d_Mo_run_98 rfl ?_
          refine r_iconstN hX 1 d_Mo_run_99 rfl ?_
          refine r_iadd hX d_Mo_run_100 ?_
          refine r_goto hX 105 d_Mo_run_101 (by decide) ?_
          exact rj_e (by first | (have q := ra_cr_t (d := d) (k := k) (Or.inl (by omega)); omega) | (have q := ra_cr_t (d := d) (k := k) (Or.inr (by omega)); omega) | (have q := ra_cr_f (d := d) (k := k) (by omega); omega)) J105
        · refine r_aload_n hX 6 d_Mo_run_79 rfl ?_
          refine r_get hX cf_Mo 0 rfl 9 (by decide) fl_Mo_26 rfl d_Mo_run_80 ?_
          refine r_iload hX 0 d_Mo_run_83 rfl ?_
          refine r_ialdN hX 1 0 rfl rfl (k) rfl (by omega) (by decide) d_Mo_run_85 ?_
          refine r_aload_n hX 6 d_Mo_run_86 rfl ?_
          refine r_get hX cf_Mo 0 rfl 9 (by decide) fl_Mo_26 rfl d_Mo_run_87 ?_
          refine r_iload hX 0 d_Mo_run_90 rfl ?_
          refine r_iconstN hX 1 d_Mo_run_92 rfl ?_
          refine r_isub hX d_Mo_run_93 ?_
          refine r_ialdN hX 1 0 rfl rfl (k - 1) (by omega) (by omega) (by decide) d_Mo_run_94 ?_
          refine r_icmp_eq hX 104 d_Mo_run_95 (by decide) (by unfold iR; omega) (by unfold iR; omega) (fun h95 => ?_) (fun h95 => ?_)
          · refine r_iload_n hX 3 d_Mo_run_104 rfl ?_
            exact rj_e (by first | (have q := ra_cr_t (d := d) (k := k) (Or.inl (by omega)); omega) | (have q := ra_cr_t (d := d) (k := k) (Or.inr (by omega)); omega) | (have q := ra_cr_f (d := d) (k := k) (by omega); omega)) J105
          · refine r_iload_n hX 3 d_Mo_run_98 rfl ?_
            refine r_iconstN hX 1 d_Mo_run_99 rfl ?_
            refine r_iadd hX d_Mo_run_100 ?_
            refine r_goto hX 105 d_Mo_run_101 (by decide) ?_
            exact rj_e (by first | (have q := ra_cr_t (d := d) (k := k) (Or.inl (by omega)); omega) | (have q := ra_cr_t (d := d) (k := k) (Or.inr (by omega)); omega) | (have q := ra_cr_f (d := d) (k := k) (by omega); omega)) J105
  refine r_lv hX (lv' := [(6, .int (iI ((0 : Nat) : Int))), (5, .int (iI ((0 : Nat) : Int))), (4, .int (iI ((0 : Nat) : Int))), (3, .int (iI (-1))), (2, .int (iI ((0 : Nat) : Int))), (1, .int (iI ((x : Nat) : Int))), (0, .ref mo)]) [0, 1, 2, 3, 6, 5, 4] rfl ?_
  refine r_eq (lv2 := [(6, .int (iI ((0 : Nat) : Int))), (5, .int (iI ((ra_rm d x 0 : Nat) : Int))), (4, .int (iI ((ra_rk d x 0 : Nat) : Int))), (3, .int (iI (((ra_cr d 0 : Nat) : Int) - 1))), (2, .int (iI ((0 : Nat) : Int))), (1, .int (iI ((x : Nat) : Int))), (0, .ref mo)]) (st2 := []) (ws2 := [(mo, .inr (10, [.int (iI 0), .ref ml, .ref mz, .ref ms, .int (iI op), .int (iI mr), .int (iI (bI (ld = true))), .int (iI (bI (pt = true))), .int (iI ((fr : Nat) : Int)), .ref mt, .int (iI ((sn : Nat) : Int)), .ref mb, .ref me, .ref bt, .ref wy, .ref lq, .ref df, .int (iI ((dn : Nat) : Int))])), (mt, .inl (tI, 192, .inl (iA (iN d))))]) rfl rfl rfl ?_
  exact L65 _ 0 rfl (by omega)

abbrev rm_Mo_run_1 : Room := { frames := 1, cells := 0, slots := 0, locals := 22 }
set_option maxHeartbeats 4000000 in
set_option maxRecDepth 100000 in
theorem c_Mo_run_1 (l : Launch) (D : va_G) (tI tJ tZ : ClassId) (mo : Nat) (ml : Nat) (mz : Nat) (ms : Nat) (mt : Nat) (mb : Nat) (me : Nat) (bt : Nat) (wy : Nat) (lq : Nat) (df : Nat) (cd : Int) (op : Int) (mr : Int) (ld : Bool) (pt : Bool) (fr : Nat) (sn : Nat) (dn : Nat) (d : Nat → Nat) (x : Nat) (hl : ld = true) (hs : sn ≤ 192) (hd : ∀ t, d t < 3) (hn : x < ra_cr d sn) : rCi l y_Mo_run prog_12_method_35_code 7 .int rm_Mo_run_1 D (tysA tI tJ tZ) [.ref mo, .int (iI ((x : Nat) : Int)), .int (iI ((1 : Nat) : Int))] [(mo, .inr (10, [.int (iI cd), .ref ml, .ref mz, .ref ms, .int (iI op), .int (iI mr), .int (iI (bI (ld = true))), .int (iI (bI (pt = true))), .int (iI ((fr : Nat) : Int)), .ref mt, .int (iI ((sn : Nat) : Int)), .ref mb, .ref me, .ref bt, .ref wy, .ref lq, .ref df, .int (iI ((dn : Nat) : Int))])), (mt, .inl (tI, 192, .inl (iA (iN d))))] (fun zz (_ : Unit) => zz = iI (((ra_rm d x sn : Nat) : Int))) (fun (_ : Unit) => [(mo, .inr (10, [.int (iI 0), .ref ml, .ref mz, .ref ms, .int (iI op), .int (iI mr), .int (iI (bI (ld = true))), .int (iI (bI (pt = true))), .int (iI ((fr : Nat) : Int)), .ref mt, .int (iI ((sn : Nat) : Int)), .ref mb, .ref me, .ref bt, .ref wy, .ref lq, .ref df, .int (iI ((dn : Nat) : Int))])), (mt, .inl (tI, 192, .inl (iA (iN d))))]) := by
  intro sz
  refine r_met (by decide) (Nat.le_of_ble_eq_true rfl) ?_
  intro F p e s m args below meth c Q A hX hT hAe hsz hin
  subst hAe
  replace hX : rOK F p l e rm_Mo_run_1 s m args below meth c Q prog_12_method_35_code 7 "RowAlignerModel" D (tysA tI tJ tZ) _ := hX
  have hcs := ra_cr_le d sn
  show F 0 [(0, .ref mo), (1, .int (iI ((x : Nat) : Int))), (2, .int (iI ((1 : Nat) : Int)))] [] [(mo, .inr (10, [.int (iI cd), .ref ml, .ref mz, .ref ms, .int (iI op), .int (iI mr), .int (iI (bI (ld = true))), .int (iI (bI (pt = true))), .int (iI ((fr : Nat) : Int)), .ref mt, .int (iI ((sn : Nat) : Int)), .ref mb, .ref me, .ref bt, .ref wy, .ref lq, .ref df, .int (iI ((dn : Nat) : Int))])), (mt, .inl (tI, 192, .inl (iA (iN d))))] 0 0
  refine r_aload_n hX 0 d_Mo_run_0 rfl ?_
  refine r_iload_n hX 2 d_Mo_run_1 rfl ?_
  refine r_iconstN hX 0 d_Mo_run_2 rfl ?_
  refine r_iconstN hX 1 d_Mo_run_3 rfl ?_
  refine r_invS_i0 (st := [.ref mo]) (As := [.int (iI ((1 : Nat) : Int)), .int (iI ((0 : Nat) : Int)), .int (iI ((1 : Nat) : Int))]) (wr := [(mo, .inr (10, [.int (iI cd), .ref ml, .ref mz, .ref ms, .int (iI op), .int (iI mr), .int (iI (bI (ld = true))), .int (iI (bI (pt = true))), .int (iI ((fr : Nat) : Int)), .ref mt, .int (iI ((sn : Nat) : Int)), .ref mb, .ref me, .ref bt, .ref wy, .ref lq, .ref df, .int (iI ((dn : Nat) : Int))])), (mt, .inl (tI, 192, .inl (iA (iN d))))]) hX (c_Mo_isIn l D tI tJ tZ (((1 : Nat) : Int)) (((0 : Nat) : Int)) (((1 : Nat) : Int)) (by unfold iR; omega) (by unfold iR; omega) (by unfold iR; omega)) yn_Mo_isIn ml_Mo_65 st_Mo_isIn co_Mo_isIn in_Mo (by decide) (by decide) (by decide) [] [0, 1] rfl rfl rfl rfl rfl (by decide) rfl rfl (Nat.le_of_ble_eq_true rfl) d_Mo_run_4 [0, 1] rfl (w2 := fun _ => [(mo, .inr (10, [.int (iI cd), .ref ml, .ref mz, .ref ms, .int (iI op), .int (iI mr), .int (iI (bI (ld = true))), .int (iI (bI (pt = true))), .int (iI ((fr : Nat) : Int)), .ref mt, .int (iI ((sn : Nat) : Int)), .ref mb, .ref me, .ref bt, .ref wy, .ref lq, .ref df, .int (iI ((dn : Nat) : Int))])), (mt, .inl (tI, 192, .inl (iA (iN d))))]) (fun _ => rfl) (fun r4 _ e4 => ?_)
  subst e4
  refine rb_if_ne hX 14 d_Mo_run_7 (by decide) (fun h7 => ?_) (fun h7 => by exfalso; omega)
  refine r_aload_n hX 0 d_Mo_run_14 rfl ?_
  refine r_get hX cf_Mo 0 rfl 6 (by decide) fl_Mo_61 rfl d_Mo_run_15 ?_
  refine rb_if_ne hX 25 d_Mo_run_18 (by decide) (fun h18 => ?_) (fun h18 => by exfalso; exact h18 hl)
  refine r_iload_n hX 1 d_Mo_run_25 rfl ?_
  refine r_if_lt hX 37 d_Mo_run_26 (by decide) (by unfold iR; omega) (fun h26 => by exfalso; omega) (fun h26 => ?_)
  refine r_iload_n hX 1 d_Mo_run_29 rfl ?_
  refine r_aload_n hX 0 d_Mo_run_30 rfl ?_
  refine r_invV_i0 (st := [.int (iI ((x : Nat) : Int)), .ref mo]) (As := []) (wr := []) hX (c_Mo_runsNow l D tI tJ tZ mo ml mz ms mt mb me bt wy lq df cd op mr ld pt fr sn dn d hs hd) "RowAlignerModel" 0 10 cf_Mo rfl yn_Mo_runsNow ml_Mo_116 im_Mo_runsNow se_Mo_runsNow co_Mo_runsNow in_Mo (by decide) (by decide) (by decide) [0, 1] [] rfl rfl rfl rfl rfl (by decide) rfl rfl (Nat.le_of_ble_eq_true rfl) d_Mo_run_31 [0, 1] rfl (w2 := fun _ => [(mo, .inr (10, [.int (iI cd), .ref ml, .ref mz, .ref ms, .int (iI op), .int (iI mr), .int (iI (bI (ld = true))), .int (iI (bI (pt = true))), .int (iI ((fr : Nat) : Int)), .ref mt, .int (iI ((sn : Nat) : Int)), .ref mb, .ref me, .ref bt, .ref wy, .ref lq, .ref df, .int (iI ((dn : Nat) : Int))])), (mt, .inl (tI, 192, .inl (iA (iN d))))]) (fun _ => rfl) (fun r31 _ e31 => ?_)
  subst e31
  refine r_icmp_lt hX 41 d_Mo_run_34 (by decide) (by unfold iR; omega) (by unfold iR; omega) (fun h34 => ?_) (fun h34 => by exfalso; omega)
  refine r_iconstN hX 0 d_Mo_run_41 rfl ?_
  refine r_put hX (ws' := [(mo, .inr (10, [.int (iI ((0 : Nat) : Int)), .ref ml, .ref mz, .ref ms, .int (iI op), .int (iI mr), .int (iI (bI (ld = true))), .int (iI (bI (pt = true))), .int (iI ((fr : Nat) : Int)), .ref mt, .int (iI ((sn : Nat) : Int)), .ref mb, .ref me, .ref bt, .ref wy, .ref lq, .ref df, .int (iI ((dn : Nat) : Int))])), (mt, .inl (tI, 192, .inl (iA (iN d))))]) cf_Mo 0 rfl 0 (by decide) fl_Mo_52 rfl rfl rfl (Nat.le_of_ble_eq_true rfl) rfl d_Mo_run_42 ?_
  refine r_aload_n hX 0 d_Mo_run_45 rfl ?_
  refine r_get hX cf_Mo 0 rfl 0 (by decide) fl_Mo_52 rfl d_Mo_run_46 ?_
  refine r_if_le hX 54 d_Mo_run_49 (by decide) (by unfold iR; omega) (fun h49 => ?_) (fun h49 => by exfalso; omega)
  refine r_iconst hX d_Mo_run_54 ?_
  refine r_istore_n hX (lv' := [(3, .int (iI (-1))), (0, .ref mo), (1, .int (iI ((x : Nat) : Int))), (2, .int (iI ((1 : Nat) : Int)))]) d_Mo_run_55 rfl (by decide) rfl ?_
  refine r_iconstN hX 0 d_Mo_run_56 rfl ?_
  refine r_istore hX (lv' := [(4, .int (iI ((0 : Nat) : Int))), (3, .int (iI (-1))), (0, .ref mo), (1, .int (iI ((x : Nat) : Int))), (2, .int (iI ((1 : Nat) : Int)))]) d_Mo_run_57 (by decide) rfl ?_
  refine r_iconstN hX 0 d_Mo_run_59 rfl ?_
  refine r_istore hX (lv' := [(5, .int (iI ((0 : Nat) : Int))), (4, .int (iI ((0 : Nat) : Int))), (3, .int (iI (-1))), (0, .ref mo), (1, .int (iI ((x : Nat) : Int))), (2, .int (iI ((1 : Nat) : Int)))]) d_Mo_run_60 (by decide) rfl ?_
  refine r_iconstN hX 0 d_Mo_run_62 rfl ?_
  refine r_istore hX (lv' := [(6, .int (iI ((0 : Nat) : Int))), (5, .int (iI ((0 : Nat) : Int))), (4, .int (iI ((0 : Nat) : Int))), (3, .int (iI (-1))), (0, .ref mo), (1, .int (iI ((x : Nat) : Int))), (2, .int (iI ((1 : Nat) : Int)))]) d_Mo_run_63 (by decide) rfl ?_
  have L65 : ∀ (dd : Nat) (k : Nat), sn - k = dd → (k ≤ sn) → F 65 [(6, .int (iI ((k : Nat) : Int))), (5, .int (iI ((ra_rm d x k : Nat) : Int))), (4, .int (iI ((ra_rk d x k : Nat) : Int))), (3, .int (iI (((ra_cr d k : Nat) : Int) - 1))), (2, .int (iI ((1 : Nat) : Int))), (1, .int (iI ((x : Nat) : Int))), (0, .ref mo)] [] [(mo, .inr (10, [.int (iI 0), .ref ml, .ref mz, .ref ms, .int (iI op), .int (iI mr), .int (iI (bI (ld = true))), .int (iI (bI (pt = true))), .int (iI ((fr : Nat) : Int)), .ref mt, .int (iI ((sn : Nat) : Int)), .ref mb, .ref me, .ref bt, .ref wy, .ref lq, .ref df, .int (iI ((dn : Nat) : Int))])), (mt, .inl (tI, 192, .inl (iA (iN d))))] 0 0 := by
    intro dd
    induction dd using Nat.strongRecOn with
    | _ dd ih65 =>
      intro k hmu65 hk
      refine r_iload hX 0 d_Mo_run_65 rfl ?_
      refine r_aload_n hX 6 d_Mo_run_67 rfl ?_
      refine r_get hX cf_Mo 0 rfl 10 (by decide) fl_Mo_98 rfl d_Mo_run_68 ?_
      refine r_icmp_ge hX 147 d_Mo_run_71 (by decide) (by unfold iR; omega) (by unfold iR; omega) (fun h71 => ?_) (fun h71 => ?_)
      · refine r_iload_n hX 4 d_Mo_run_147 rfl ?_
        refine r_if_ne hX 156 d_Mo_run_148 (by decide) (by unfold iR; omega) (fun h148 => ?_) (fun h148 => by exfalso; omega)
        refine r_iload hX 1 d_Mo_run_156 rfl ?_
        exact r_iret hX hT () (by rw [show k = sn by omega]) rfl (by decide) (by decide) d_Mo_run_158
      · have hle := ra_cr_le d (k + 1)
        have hle2 := ra_cr_le d k
        have hd1 := hd k
        have hd2 := hd (k - 1)
        refine r_iload hX 0 d_Mo_run_74 rfl ?_
        have J105 : F 105 [(6, .int (iI ((k : Nat) : Int))), (5, .int (iI ((ra_rm d x k : Nat) : Int))), (4, .int (iI ((ra_rk d x k : Nat) : Int))), (3, .int (iI (((ra_cr d k : Nat) : Int) - 1))), (2, .int (iI ((1 : Nat) : Int))), (1, .int (iI ((x : Nat) : Int))), (0, .ref mo)] [.int (iI (((ra_cr d (k + 1) : Nat) : Int) - 1))] [(mo, .inr (10, [.int (iI 0), .ref ml, .ref mz, .ref ms, .int (iI op), .int (iI mr), .int (iI (bI (ld = true))), .int (iI (bI (pt = true))), .int (iI ((fr : Nat) : Int)), .ref mt, .int (iI ((sn : Nat) : Int)), .ref mb, .ref me, .ref bt, .ref wy, .ref lq, .ref df, .int (iI ((dn : Nat) : Int))])), (mt, .inl (tI, 192, .inl (iA (iN d))))] 0 0 := by
          refine r_istore_n hX (lv' := [(3, .int (iI (((ra_cr d (k + 1) : Nat) : Int) - 1))), (6, .int (iI ((k : Nat) : Int))), (5, .int (iI ((ra_rm d x k : Nat) : Int))), (4, .int (iI ((ra_rk d x k : Nat) : Int))), (2, .int (iI ((1 : Nat) : Int))), (1, .int (iI ((x : Nat) : Int))), (0, .ref mo)]) d_Mo_run_105 rfl (by decide) rfl ?_
          refine r_iload_n hX 0 d_Mo_run_106 rfl ?_
          refine r_iload_n hX 5 d_Mo_run_107 rfl ?_
          have J123 : F 123 [(3, .int (iI (((ra_cr d (k + 1) : Nat) : Int) - 1))), (6, .int (iI ((k : Nat) : Int))), (5, .int (iI ((ra_rm d x k : Nat) : Int))), (4, .int (iI ((ra_rk d x k : Nat) : Int))), (2, .int (iI ((1 : Nat) : Int))), (1, .int (iI ((x : Nat) : Int))), (0, .ref mo)] [.int (iI ((ra_rk d x (k + 1) : Nat) : Int))] [(mo, .inr (10, [.int (iI 0), .ref ml, .ref mz, .ref ms, .int (iI op), .int (iI mr), .int (iI (bI (ld = true))), .int (iI (bI (pt = true))), .int (iI ((fr : Nat) : Int)), .ref mt, .int (iI ((sn : Nat) : Int)), .ref mb, .ref me, .ref bt, .ref wy, .ref lq, .ref df, .int (iI ((dn : Nat) : Int))])), (mt, .inl (tI, 192, .inl (iA (iN d))))] 0 0 := by
            refine r_istore hX (lv' := [(4, .int (iI ((ra_rk d x (k + 1) : Nat) : Int))), (3, .int (iI (((ra_cr d (k + 1) : Nat) : Int) - 1))), (6, .int (iI ((k : Nat) : Int))), (5, .int (iI ((ra_rm d x k : Nat) : Int))), (2, .int (iI ((1 : Nat) : Int))), (1, .int (iI ((x : Nat) : Int))), (0, .ref mo)]) d_Mo_run_123 (by decide) rfl ?_
            refine r_iload_n hX 1 d_Mo_run_125 rfl ?_
            refine r_iload_n hX 5 d_Mo_run_126 rfl ?_
            have J139 : F 139 [(4, .int (iI ((ra_rk d x (k + 1) : Nat) : Int))), (3, .int (iI (((ra_cr d (k + 1) : Nat) : Int) - 1))), (6, .int (iI ((k : Nat) : Int))), (5, .int (iI ((ra_rm d x k : Nat) : Int))), (2, .int (iI ((1 : Nat) : Int))), (1, .int (iI ((x : Nat) : Int))), (0, .ref mo)] [.int (iI ((ra_rm d x (k + 1) : Nat) : Int))] [(mo, .inr (10, [.int (iI 0), .ref ml, .ref mz, .ref ms, .int (iI op), .int (iI mr), .int (iI (bI (ld = true))), .int (iI (bI (pt = true))), .int (iI ((fr : Nat) : Int)), .ref mt, .int (iI ((sn : Nat) : Int)), .ref mb, .ref me, .ref bt, .ref wy, .ref lq, .ref df, .int (iI ((dn : Nat) : Int))])), (mt, .inl (tI, 192, .inl (iA (iN d))))] 0 0 := by
              refine r_istore hX (lv' := [(5, .int (iI ((ra_rm d x (k + 1) : Nat) : Int))), (4, .int (iI ((ra_rk d x (k + 1) : Nat) : Int))), (3, .int (iI (((ra_cr d (k + 1) : Nat) : Int) - 1))), (6, .int (iI ((k : Nat) : Int))), (2, .int (iI ((1 : Nat) : Int))), (1, .int (iI ((x : Nat) : Int))), (0, .ref mo)]) d_Mo_run_139 (by decide) rfl ?_
              refine r_iincN hX (lv' := [(6, .int (iI ((k + 1 : Nat) : Int))), (5, .int (iI ((ra_rm d x (k + 1) : Nat) : Int))), (4, .int (iI ((ra_rk d x (k + 1) : Nat) : Int))), (3, .int (iI (((ra_cr d (k + 1) : Nat) : Int) - 1))), (2, .int (iI ((1 : Nat) : Int))), (1, .int (iI ((x : Nat) : Int))), (0, .ref mo)]) 3 d_Mo_run_141 rfl (by decide) rfl ?_
              refine r_goto hX 65 d_Mo_run_144 (by decide) ?_
              exact ih65 _ (by omega) (k + 1) rfl (by omega)
            refine r_icmp_ne hX 137 d_Mo_run_127 (by decide) (by unfold iR; omega) (by unfold iR; omega) (fun h127 => ?_) (fun h127 => ?_)
            · refine r_iload hX 3 d_Mo_run_137 rfl ?_
              exact rj_e (by first | exact congrArg (fun z : Nat => (z : Int)) (ra_rm_t (by omega)).symm | exact congrArg (fun z : Nat => (z : Int)) (ra_rm_f (by omega)).symm) J139
            · refine r_iload hX 3 d_Mo_run_130 rfl ?_
              refine r_iconstN hX 1 d_Mo_run_132 rfl ?_
              refine r_iaddN hX d_Mo_run_133 ?_
              refine r_goto hX 139 d_Mo_run_134 (by decide) ?_
              exact rj_e (by first | exact congrArg (fun z : Nat => (z : Int)) (ra_rm_t (by omega)).symm | exact congrArg (fun z : Nat => (z : Int)) (ra_rm_f (by omega)).symm) J139
          refine r_icmp_ne hX 121 d_Mo_run_108 (by decide) (by unfold iR; omega) (by unfold iR; omega) (fun h108 => ?_) (fun h108 => ?_)
          · refine r_iload hX 3 d_Mo_run_121 rfl ?_
            exact rj_e (by first | exact congrArg (fun z : Nat => (z : Int)) (ra_rk_t (by omega)).symm | exact congrArg (fun z : Nat => (z : Int)) (ra_rk_f (by omega)).symm) J123
          · refine r_aload_n hX 6 d_Mo_run_111 rfl ?_
            refine r_get hX cf_Mo 0 rfl 9 (by decide) fl_Mo_26 rfl d_Mo_run_112 ?_
            refine r_iload hX 1 d_Mo_run_115 rfl ?_
            refine r_ialdN hX 1 0 rfl rfl (k) rfl (by omega) (by decide) d_Mo_run_117 ?_
            refine r_goto hX 123 d_Mo_run_118 (by decide) ?_
            exact rj_e (by first | exact congrArg (fun z : Nat => (z : Int)) (ra_rk_t (by omega)).symm | exact congrArg (fun z : Nat => (z : Int)) (ra_rk_f (by omega)).symm) J123
        refine r_if_eq hX 98 d_Mo_run_76 (by decide) (by unfold iR; omega) (fun h76 => ?_) (fun h76 => ?_)
        · refine r_iload_n hX 3 d_Mo_run_98 rfl ?_
          refine r_iconstN hX 1 d_Mo_run_99 rfl ?_
          refine r_iadd hX d_Mo_run_100 ?_
          refine r_goto hX 105 d_Mo_run_101 (by decide) ?_
          exact rj_e (by first | (have q := ra_cr_t (d := d) (k := k) (Or.inl (by omega)); omega) | (have q := ra_cr_t (d := d) (k := k) (Or.inr (by omega)); omega) | (have q := ra_cr_f (d := d) (k := k) (by omega); omega)) J105
        · refine r_aload_n hX 6 d_Mo_run_79 rfl ?_
          refine r_get hX cf_Mo 0 rfl 9 (by decide) fl_Mo_26 rfl d_Mo_run_80 ?_
          refine r_iload hX 0 d_Mo_run_83 rfl ?_
          refine r_ialdN hX 1 0 rfl rfl (k) rfl (by omega) (by decide) d_Mo_run_85 ?_
          refine r_aload_n hX 6 d_Mo_run_86 rfl ?_
          refine r_get hX cf_Mo 0 rfl 9 (by decide) fl_Mo_26 rfl d_Mo_run_87 ?_
          refine r_iload hX 0 d_Mo_run_90 rfl ?_
          refine r_iconstN hX 1 d_Mo_run_92 rfl ?_
          refine r_isub hX d_Mo_run_93 ?_
          refine r_ialdN hX 1 0 rfl rfl (k - 1) (by omega) (by omega) (by decide) d_Mo_run_94 ?_
          refine r_icmp_eq hX 104 d_Mo_run_95 (by decide) (by unfold iR; omega) (by unfold iR; omega) (fun h95 => ?_) (fun h95 => ?_)
          · refine r_iload_n hX 3 d_Mo_run_104 rfl ?_
            exact rj_e (by first | (have q := ra_cr_t (d := d) (k := k) (Or.inl (by omega)); omega) | (have q := ra_cr_t (d := d) (k := k) (Or.inr (by omega)); omega) | (have q := ra_cr_f (d := d) (k := k) (by omega); omega)) J105
          · refine r_iload_n hX 3 d_Mo_run_98 rfl ?_
            refine r_iconstN hX 1 d_Mo_run_99 rfl ?_
            refine r_iadd hX d_Mo_run_100 ?_
            refine r_goto hX 105 d_Mo_run_101 (by decide) ?_
            exact rj_e (by first | (have q := ra_cr_t (d := d) (k := k) (Or.inl (by omega)); omega) | (have q := ra_cr_t (d := d) (k := k) (Or.inr (by omega)); omega) | (have q := ra_cr_f (d := d) (k := k) (by omega); omega)) J105
  refine r_lv hX (lv' := [(6, .int (iI ((0 : Nat) : Int))), (5, .int (iI ((0 : Nat) : Int))), (4, .int (iI ((0 : Nat) : Int))), (3, .int (iI (-1))), (2, .int (iI ((1 : Nat) : Int))), (1, .int (iI ((x : Nat) : Int))), (0, .ref mo)]) [0, 1, 2, 3, 6, 5, 4] rfl ?_
  refine r_eq (lv2 := [(6, .int (iI ((0 : Nat) : Int))), (5, .int (iI ((ra_rm d x 0 : Nat) : Int))), (4, .int (iI ((ra_rk d x 0 : Nat) : Int))), (3, .int (iI (((ra_cr d 0 : Nat) : Int) - 1))), (2, .int (iI ((1 : Nat) : Int))), (1, .int (iI ((x : Nat) : Int))), (0, .ref mo)]) (st2 := []) (ws2 := [(mo, .inr (10, [.int (iI 0), .ref ml, .ref mz, .ref ms, .int (iI op), .int (iI mr), .int (iI (bI (ld = true))), .int (iI (bI (pt = true))), .int (iI ((fr : Nat) : Int)), .ref mt, .int (iI ((sn : Nat) : Int)), .ref mb, .ref me, .ref bt, .ref wy, .ref lq, .ref df, .int (iI ((dn : Nat) : Int))])), (mt, .inl (tI, 192, .inl (iA (iN d))))]) rfl rfl rfl ?_
  exact L65 _ 0 rfl (by omega)

abbrev rm_Mo_whole_r : Room := { frames := 1, cells := 0, slots := 0, locals := 22 }
set_option maxHeartbeats 4000000 in
set_option maxRecDepth 100000 in
theorem c_Mo_whole_r (l : Launch) (D : va_G) (tI tJ tZ : ClassId) (mo : Nat) (ml : Nat) (mz : Nat) (ms : Nat) (mt : Nat) (mb : Nat) (me : Nat) (bt : Nat) (wy : Nat) (lq : Nat) (df : Nat) (cd : Int) (op : Int) (mr : Int) (ld : Bool) (pt : Bool) (fr : Nat) (sn : Nat) (dn : Nat) (x : Int) (hx : iR x) (hr : x < 0 ∨ 15 < x) : rCi l y_Mo_whole prog_12_method_25_code 2 .int rm_Mo_whole_r D (tysA tI tJ tZ) [.ref mo, .int (iI x)] [(mo, .inr (10, [.int (iI cd), .ref ml, .ref mz, .ref ms, .int (iI op), .int (iI mr), .int (iI (bI (ld = true))), .int (iI (bI (pt = true))), .int (iI ((fr : Nat) : Int)), .ref mt, .int (iI ((sn : Nat) : Int)), .ref mb, .ref me, .ref bt, .ref wy, .ref lq, .ref df, .int (iI ((dn : Nat) : Int))]))] (fun zz (_ : Unit) => zz = iI (((0 : Nat) : Int))) (fun (_ : Unit) => [(mo, .inr (10, [.int (iI 1), .ref ml, .ref mz, .ref ms, .int (iI op), .int (iI mr), .int (iI (bI (ld = true))), .int (iI (bI (pt = true))), .int (iI ((fr : Nat) : Int)), .ref mt, .int (iI ((sn : Nat) : Int)), .ref mb, .ref me, .ref bt, .ref wy, .ref lq, .ref df, .int (iI ((dn : Nat) : Int))]))]) := by
  intro sz
  refine r_met (by decide) (Nat.le_of_ble_eq_true rfl) ?_
  intro F p e s m args below meth c Q A hX hT hAe hsz hin
  subst hAe
  replace hX : rOK F p l e rm_Mo_whole_r s m args below meth c Q prog_12_method_25_code 2 "RowAlignerModel" D (tysA tI tJ tZ) _ := hX
  unfold iR at hx
  show F 0 [(0, .ref mo), (1, .int (iI x))] [] [(mo, .inr (10, [.int (iI cd), .ref ml, .ref mz, .ref ms, .int (iI op), .int (iI mr), .int (iI (bI (ld = true))), .int (iI (bI (pt = true))), .int (iI ((fr : Nat) : Int)), .ref mt, .int (iI ((sn : Nat) : Int)), .ref mb, .ref me, .ref bt, .ref wy, .ref lq, .ref df, .int (iI ((dn : Nat) : Int))]))] 0 0
  refine r_aload_n hX 0 d_Mo_whole_0 rfl ?_
  refine r_iload_n hX 1 d_Mo_whole_1 rfl ?_
  refine r_iconstN hX 0 d_Mo_whole_2 rfl ?_
  refine r_bipushN hX 15 d_Mo_whole_3 rfl (by decide) ?_
  refine r_invS_i0 (st := [.ref mo]) (As := [.int (iI x), .int (iI ((0 : Nat) : Int)), .int (iI ((15 : Nat) : Int))]) (wr := [(mo, .inr (10, [.int (iI cd), .ref ml, .ref mz, .ref ms, .int (iI op), .int (iI mr), .int (iI (bI (ld = true))), .int (iI (bI (pt = true))), .int (iI ((fr : Nat) : Int)), .ref mt, .int (iI ((sn : Nat) : Int)), .ref mb, .ref me, .ref bt, .ref wy, .ref lq, .ref df, .int (iI ((dn : Nat) : Int))]))]) hX (c_Mo_isIn l D tI tJ tZ x (((0 : Nat) : Int)) (((15 : Nat) : Int)) (by unfold iR; omega) (by unfold iR; omega) (by unfold iR; omega)) yn_Mo_isIn ml_Mo_65 st_Mo_isIn co_Mo_isIn in_Mo (by decide) (by decide) (by decide) [] [0] rfl rfl rfl rfl rfl (by decide) rfl rfl (Nat.le_of_ble_eq_true rfl) d_Mo_whole_5 [0] rfl (w2 := fun _ => [(mo, .inr (10, [.int (iI cd), .ref ml, .ref mz, .ref ms, .int (iI op), .int (iI mr), .int (iI (bI (ld = true))), .int (iI (bI (pt = true))), .int (iI ((fr : Nat) : Int)), .ref mt, .int (iI ((sn : Nat) : Int)), .ref mb, .ref me, .ref bt, .ref wy, .ref lq, .ref df, .int (iI ((dn : Nat) : Int))]))]) (fun _ => rfl) (fun r5 _ e5 => ?_)
  subst e5
  refine rb_if_eq hX 15 d_Mo_whole_8 (by decide) (fun h8 => ?_) (fun h8 => by exfalso; omega)
  refine r_iconstN hX 1 d_Mo_whole_15 rfl ?_
  refine r_put hX (ws' := [(mo, .inr (10, [.int (iI ((1 : Nat) : Int)), .ref ml, .ref mz, .ref ms, .int (iI op), .int (iI mr), .int (iI (bI (ld = true))), .int (iI (bI (pt = true))), .int (iI ((fr : Nat) : Int)), .ref mt, .int (iI ((sn : Nat) : Int)), .ref mb, .ref me, .ref bt, .ref wy, .ref lq, .ref df, .int (iI ((dn : Nat) : Int))]))]) cf_Mo 0 rfl 0 (by decide) fl_Mo_52 rfl rfl rfl (Nat.le_of_ble_eq_true rfl) rfl d_Mo_whole_16 ?_
  refine r_aload_n hX 0 d_Mo_whole_19 rfl ?_
  refine r_get hX cf_Mo 0 rfl 0 (by decide) fl_Mo_52 rfl d_Mo_whole_20 ?_
  refine r_if_le hX 28 d_Mo_whole_23 (by decide) (by unfold iR; omega) (fun h23 => by exfalso; omega) (fun h23 => ?_)
  refine r_iconstN hX 0 d_Mo_whole_26 rfl ?_
  exact r_iret hX hT () rfl rfl (by decide) (by decide) d_Mo_whole_27

abbrev rm_Mo_whole : Room := { frames := 3, cells := 0, slots := 0, locals := 87 }
set_option maxHeartbeats 4000000 in
set_option maxRecDepth 100000 in
theorem c_Mo_whole (l : Launch) (D : va_G) (tI tJ tZ : ClassId) (mo : Nat) (ml : Nat) (mz : Nat) (ms : Nat) (mt : Nat) (mb : Nat) (me : Nat) (bt : Nat) (wy : Nat) (lq : Nat) (df : Nat) (cd : Int) (op : Int) (mr : Int) (ld : Bool) (pt : Bool) (fr : Nat) (sn : Nat) (dn : Nat) (L : Nat → Nat) (Z : Nat → Nat) (SC : Nat → Int) (T : Nat → Int) (K : Nat → Int64) (d : Nat → Nat) (B : Nat → Nat) (E : Nat → Nat) (x : Nat) (hM : raM Z L SC op mr x) (hd : ∀ t, d t < 3) : rCi l y_Mo_whole prog_12_method_25_code 2 .int rm_Mo_whole D (tysA tI tJ tZ) [.ref mo, .int (iI ((x : Nat) : Int))] [(mo, .inr (10, [.int (iI cd), .ref ml, .ref mz, .ref ms, .int (iI op), .int (iI mr), .int (iI (bI (ld = true))), .int (iI (bI (pt = true))), .int (iI ((fr : Nat) : Int)), .ref mt, .int (iI ((sn : Nat) : Int)), .ref mb, .ref me, .ref bt, .ref wy, .ref lq, .ref df, .int (iI ((dn : Nat) : Int))])), (ml, .inl (tI, 192, .inl (iA (iN L)))), (mz, .inl (tI, 2, .inl (iA (iN Z)))), (ms, .inl (tI, 676, .inl (iA SC))), (bt, .inl (tI, 28227, .inl (iA T))), (wy, .inl (tJ, 28227, .inr (.inl K))), (mt, .inl (tI, 192, .inl (iA (iN d)))), (mb, .inl (tI, 2, .inl (iA (iN B)))), (me, .inl (tI, 2, .inl (iA (iN E))))] (fun zz (u : (Nat → Int) × (Nat → Int64) × (Nat → Nat)) => zz = iI (u.1 0) ∧ ra_MD (ra_mg Z L SC op mr x false) u.1 u.2.1 0 0 0 ∧ (∀ t, t < (ra_pth (ra_mg Z L SC op mr x false) 0 0 0).length → (ra_pth (ra_mg Z L SC op mr x false) 0 0 0)[t]? = some (u.2.2 t)) ∧ (∀ t, u.2.2 t < 3)) (fun (u : (Nat → Int) × (Nat → Int64) × (Nat → Nat)) => [(mo, .inr (10, [.int (iI 0), .ref ml, .ref mz, .ref ms, .int (iI op), .int (iI mr), .int (iI (bI (true = true))), .int (iI (bI (false = true))), .int (iI ((x : Nat) : Int)), .ref mt, .int (iI (((ra_pth (ra_mg Z L SC op mr x false) 0 0 0).length : Nat) : Int)), .ref mb, .ref me, .ref bt, .ref wy, .ref lq, .ref df, .int (iI ((dn : Nat) : Int))])), (ml, .inl (tI, 192, .inl (iA (iN L)))), (mz, .inl (tI, 2, .inl (iA (iN Z)))), (ms, .inl (tI, 676, .inl (iA SC))), (bt, .inl (tI, 28227, .inl (iA (u.1)))), (wy, .inl (tJ, 28227, .inr (.inl (u.2.1)))), (mt, .inl (tI, 192, .inl (iA (iN (u.2.2))))), (mb, .inl (tI, 2, .inl (iA (iN (iU (iU B 0 0) 1 0))))), (me, .inl (tI, 2, .inl (iA (iN (iU (iU E 0 (0 + ra_qi u.2.2 (ra_pth (ra_mg Z L SC op mr x false) 0 0 0).length)) 1 (0 + ra_qj u.2.2 (ra_pth (ra_mg Z L SC op mr x false) 0 0 0).length))))))]) := by
  intro sz
  refine r_met (by decide) (Nat.le_of_ble_eq_true rfl) ?_
  intro F p e s m args below meth c Q A hX hT hAe hsz hin
  subst hAe
  replace hX : rOK F p l e rm_Mo_whole s m args below meth c Q prog_12_method_25_code 2 "RowAlignerModel" D (tysA tI tJ tZ) _ := hX
  have hx9 : x < 16 := hM.2.2.2.2.2.2.2.2.2
  show F 0 [(0, .ref mo), (1, .int (iI ((x : Nat) : Int)))] [] [(mo, .inr (10, [.int (iI cd), .ref ml, .ref mz, .ref ms, .int (iI op), .int (iI mr), .int (iI (bI (ld = true))), .int (iI (bI (pt = true))), .int (iI ((fr : Nat) : Int)), .ref mt, .int (iI ((sn : Nat) : Int)), .ref mb, .ref me, .ref bt, .ref wy, .ref lq, .ref df, .int (iI ((dn : Nat) : Int))])), (ml, .inl (tI, 192, .inl (iA (iN L)))), (mz, .inl (tI, 2, .inl (iA (iN Z)))), (ms, .inl (tI, 676, .inl (iA SC))), (bt, .inl (tI, 28227, .inl (iA T))), (wy, .inl (tJ, 28227, .inr (.inl K))), (mt, .inl (tI, 192, .inl (iA (iN d)))), (mb, .inl (tI, 2, .inl (iA (iN B)))), (me, .inl (tI, 2, .inl (iA (iN E))))] 0 0
  refine r_aload_n hX 0 d_Mo_whole_0 rfl ?_
  refine r_iload_n hX 1 d_Mo_whole_1 rfl ?_
  refine r_iconstN hX 0 d_Mo_whole_2 rfl ?_
  refine r_bipushN hX 15 d_Mo_whole_3 rfl (by decide) ?_
  refine r_invS_i0 (st := [.ref mo]) (As := [.int (iI ((x : Nat) : Int)), .int (iI ((0 : Nat) : Int)), .int (iI ((15 : Nat) : Int))]) (wr := [(mo, .inr (10, [.int (iI cd), .ref ml, .ref mz, .ref ms, .int (iI op), .int (iI mr), .int (iI (bI (ld = true))), .int (iI (bI (pt = true))), .int (iI ((fr : Nat) : Int)), .ref mt, .int (iI ((sn : Nat) : Int)), .ref mb, .ref me, .ref bt, .ref wy, .ref lq, .ref df, .int (iI ((dn : Nat) : Int))])), (ml, .inl (tI, 192, .inl (iA (iN L)))), (mz, .inl (tI, 2, .inl (iA (iN Z)))), (ms, .inl (tI, 676, .inl (iA SC))), (bt, .inl (tI, 28227, .inl (iA T))), (wy, .inl (tJ, 28227, .inr (.inl K))), (mt, .inl (tI, 192, .inl (iA (iN d)))), (mb, .inl (tI, 2, .inl (iA (iN B)))), (me, .inl (tI, 2, .inl (iA (iN E))))]) hX (c_Mo_isIn l D tI tJ tZ (((x : Nat) : Int)) (((0 : Nat) : Int)) (((15 : Nat) : Int)) (by unfold iR; omega) (by unfold iR; omega) (by unfold iR; omega)) yn_Mo_isIn ml_Mo_65 st_Mo_isIn co_Mo_isIn in_Mo (by decide) (by decide) (by decide) [] [0, 1, 2, 3, 4, 5, 6, 7, 8] rfl rfl rfl rfl rfl (by decide) rfl rfl (Nat.le_of_ble_eq_true rfl) d_Mo_whole_5 [0, 1, 2, 3, 4, 5, 6, 7, 8] rfl (w2 := fun _ => [(mo, .inr (10, [.int (iI cd), .ref ml, .ref mz, .ref ms, .int (iI op), .int (iI mr), .int (iI (bI (ld = true))), .int (iI (bI (pt = true))), .int (iI ((fr : Nat) : Int)), .ref mt, .int (iI ((sn : Nat) : Int)), .ref mb, .ref me, .ref bt, .ref wy, .ref lq, .ref df, .int (iI ((dn : Nat) : Int))])), (ml, .inl (tI, 192, .inl (iA (iN L)))), (mz, .inl (tI, 2, .inl (iA (iN Z)))), (ms, .inl (tI, 676, .inl (iA SC))), (bt, .inl (tI, 28227, .inl (iA T))), (wy, .inl (tJ, 28227, .inr (.inl K))), (mt, .inl (tI, 192, .inl (iA (iN d)))), (mb, .inl (tI, 2, .inl (iA (iN B)))), (me, .inl (tI, 2, .inl (iA (iN E))))]) (fun _ => rfl) (fun r5 _ e5 => ?_)
  subst e5
  refine rb_if_eq hX 15 d_Mo_whole_8 (by decide) (fun h8 => by exfalso; omega) (fun h8 => ?_)
  refine r_iconstN hX 0 d_Mo_whole_11 rfl ?_
  refine r_goto hX 16 d_Mo_whole_12 (by decide) ?_
  refine r_put hX (ws' := [(mo, .inr (10, [.int (iI ((0 : Nat) : Int)), .ref ml, .ref mz, .ref ms, .int (iI op), .int (iI mr), .int (iI (bI (ld = true))), .int (iI (bI (pt = true))), .int (iI ((fr : Nat) : Int)), .ref mt, .int (iI ((sn : Nat) : Int)), .ref mb, .ref me, .ref bt, .ref wy, .ref lq, .ref df, .int (iI ((dn : Nat) : Int))])), (ml, .inl (tI, 192, .inl (iA (iN L)))), (mz, .inl (tI, 2, .inl (iA (iN Z)))), (ms, .inl (tI, 676, .inl (iA SC))), (bt, .inl (tI, 28227, .inl (iA T))), (wy, .inl (tJ, 28227, .inr (.inl K))), (mt, .inl (tI, 192, .inl (iA (iN d)))), (mb, .inl (tI, 2, .inl (iA (iN B)))), (me, .inl (tI, 2, .inl (iA (iN E))))]) cf_Mo 0 rfl 0 (by decide) fl_Mo_52 rfl rfl rfl (Nat.le_of_ble_eq_true rfl) rfl d_Mo_whole_16 ?_
  refine r_aload_n hX 0 d_Mo_whole_19 rfl ?_
  refine r_get hX cf_Mo 0 rfl 0 (by decide) fl_Mo_52 rfl d_Mo_whole_20 ?_
  refine r_if_le hX 28 d_Mo_whole_23 (by decide) (by unfold iR; omega) (fun h23 => ?_) (fun h23 => by exfalso; omega)
  refine r_aload_n hX 0 d_Mo_whole_28 rfl ?_
  refine r_iload_n hX 1 d_Mo_whole_29 rfl ?_
  refine r_put hX (ws' := [(mo, .inr (10, [.int (iI ((0 : Nat) : Int)), .ref ml, .ref mz, .ref ms, .int (iI op), .int (iI mr), .int (iI (bI (ld = true))), .int (iI (bI (pt = true))), .int (iI ((x : Nat) : Int)), .ref mt, .int (iI ((sn : Nat) : Int)), .ref mb, .ref me, .ref bt, .ref wy, .ref lq, .ref df, .int (iI ((dn : Nat) : Int))])), (ml, .inl (tI, 192, .inl (iA (iN L)))), (mz, .inl (tI, 2, .inl (iA (iN Z)))), (ms, .inl (tI, 676, .inl (iA SC))), (bt, .inl (tI, 28227, .inl (iA T))), (wy, .inl (tJ, 28227, .inr (.inl K))), (mt, .inl (tI, 192, .inl (iA (iN d)))), (mb, .inl (tI, 2, .inl (iA (iN B)))), (me, .inl (tI, 2, .inl (iA (iN E))))]) cf_Mo 0 rfl 8 (by decide) fl_Mo_69 rfl rfl rfl (Nat.le_of_ble_eq_true rfl) rfl d_Mo_whole_30 ?_
  refine r_aload_n hX 0 d_Mo_whole_33 rfl ?_
  refine r_iconstN hX 0 d_Mo_whole_34 rfl ?_
  refine r_eq (lv2 := [(0, .ref mo), (1, .int (iI ((x : Nat) : Int)))]) (st2 := [.int (iI (bI (false = true))), .ref mo]) (ws2 := [(mo, .inr (10, [.int (iI ((0 : Nat) : Int)), .ref ml, .ref mz, .ref ms, .int (iI op), .int (iI mr), .int (iI (bI (ld = true))), .int (iI (bI (pt = true))), .int (iI ((x : Nat) : Int)), .ref mt, .int (iI ((sn : Nat) : Int)), .ref mb, .ref me, .ref bt, .ref wy, .ref lq, .ref df, .int (iI ((dn : Nat) : Int))])), (ml, .inl (tI, 192, .inl (iA (iN L)))), (mz, .inl (tI, 2, .inl (iA (iN Z)))), (ms, .inl (tI, 676, .inl (iA SC))), (bt, .inl (tI, 28227, .inl (iA T))), (wy, .inl (tJ, 28227, .inr (.inl K))), (mt, .inl (tI, 192, .inl (iA (iN d)))), (mb, .inl (tI, 2, .inl (iA (iN B)))), (me, .inl (tI, 2, .inl (iA (iN E))))]) rfl rfl rfl ?_
  refine r_put hX (ws' := [(mo, .inr (10, [.int (iI ((0 : Nat) : Int)), .ref ml, .ref mz, .ref ms, .int (iI op), .int (iI mr), .int (iI (bI (ld = true))), .int (iI (bI (false = true))), .int (iI ((x : Nat) : Int)), .ref mt, .int (iI ((sn : Nat) : Int)), .ref mb, .ref me, .ref bt, .ref wy, .ref lq, .ref df, .int (iI ((dn : Nat) : Int))])), (ml, .inl (tI, 192, .inl (iA (iN L)))), (mz, .inl (tI, 2, .inl (iA (iN Z)))), (ms, .inl (tI, 676, .inl (iA SC))), (bt, .inl (tI, 28227, .inl (iA T))), (wy, .inl (tJ, 28227, .inr (.inl K))), (mt, .inl (tI, 192, .inl (iA (iN d)))), (mb, .inl (tI, 2, .inl (iA (iN B)))), (me, .inl (tI, 2, .inl (iA (iN E))))]) cf_Mo 0 rfl 7 (by decide) fl_Mo_76 rfl (nz_b _) (fz_b _) (Nat.le_of_ble_eq_true rfl) rfl d_Mo_whole_35 ?_
  refine r_aload_n hX 0 d_Mo_whole_38 rfl ?_
  refine r_invV_v0 (st := []) (As := []) (wr := [(mt, .inl (tI, 192, .inl (iA (iN d)))), (mb, .inl (tI, 2, .inl (iA (iN B)))), (me, .inl (tI, 2, .inl (iA (iN E))))]) hX (c_Mo_reckonAll l D tI tJ tZ mo ml mz ms mt mb me bt wy lq df (((0 : Nat) : Int)) op mr ld false x sn dn L Z SC T K hM) "RowAlignerModel" 0 10 cf_Mo rfl yn_Mo_reckonAll ml_Mo_110 im_Mo_reckonAll se_Mo_reckonAll co_Mo_reckonAll in_Mo (by decide) (by decide) (by decide) [0, 1, 2, 3, 4, 5] [6, 7, 8] rfl rfl rfl rfl rfl (by decide) rfl rfl (Nat.le_of_ble_eq_true rfl) d_Mo_whole_39 [3, 4, 5, 6, 7, 8, 0, 1, 2] rfl (w2 := fun u39 => [(mo, .inr (10, [.int (iI ((0 : Nat) : Int)), .ref ml, .ref mz, .ref ms, .int (iI op), .int (iI mr), .int (iI (bI (ld = true))), .int (iI (bI (false = true))), .int (iI ((x : Nat) : Int)), .ref mt, .int (iI ((sn : Nat) : Int)), .ref mb, .ref me, .ref bt, .ref wy, .ref lq, .ref df, .int (iI ((dn : Nat) : Int))])), (ml, .inl (tI, 192, .inl (iA (iN L)))), (mz, .inl (tI, 2, .inl (iA (iN Z)))), (ms, .inl (tI, 676, .inl (iA SC))), (bt, .inl (tI, 28227, .inl (iA (u39.1)))), (wy, .inl (tJ, 28227, .inr (.inl (u39.2)))), (mt, .inl (tI, 192, .inl (iA (iN d)))), (mb, .inl (tI, 2, .inl (iA (iN B)))), (me, .inl (tI, 2, .inl (iA (iN E))))]) (fun _ => rfl) (fun u39 hu39 => ?_)
  refine r_aload_n hX 0 d_Mo_whole_42 rfl ?_
  refine r_get hX cf_Mo 0 rfl 11 (by decide) fl_Mo_29 rfl d_Mo_whole_43 ?_
  refine r_iconstN hX 0 d_Mo_whole_46 rfl ?_
  refine r_iconstN hX 0 d_Mo_whole_47 rfl ?_
  refine r_iastN hX (ws' := [(mo, .inr (10, [.int (iI ((0 : Nat) : Int)), .ref ml, .ref mz, .ref ms, .int (iI op), .int (iI mr), .int (iI (bI (ld = true))), .int (iI (bI (false = true))), .int (iI ((x : Nat) : Int)), .ref mt, .int (iI ((sn : Nat) : Int)), .ref mb, .ref me, .ref bt, .ref wy, .ref lq, .ref df, .int (iI ((dn : Nat) : Int))])), (ml, .inl (tI, 192, .inl (iA (iN L)))), (mz, .inl (tI, 2, .inl (iA (iN Z)))), (ms, .inl (tI, 676, .inl (iA SC))), (bt, .inl (tI, 28227, .inl (iA (u39.1)))), (wy, .inl (tJ, 28227, .inr (.inl (u39.2)))), (mt, .inl (tI, 192, .inl (iA (iN d)))), (mb, .inl (tI, 2, .inl (iA (iN (iU B 0 0))))), (me, .inl (tI, 2, .inl (iA (iN E))))]) 7 0 rfl rfl (0) rfl (by omega) (by decide) rfl d_Mo_whole_48 ?_
  refine r_aload_n hX 0 d_Mo_whole_49 rfl ?_
  refine r_get hX cf_Mo 0 rfl 11 (by decide) fl_Mo_29 rfl d_Mo_whole_50 ?_
  refine r_iconstN hX 1 d_Mo_whole_53 rfl ?_
  refine r_iconstN hX 0 d_Mo_whole_54 rfl ?_
  refine r_iastN hX (ws' := [(mo, .inr (10, [.int (iI ((0 : Nat) : Int)), .ref ml, .ref mz, .ref ms, .int (iI op), .int (iI mr), .int (iI (bI (ld = true))), .int (iI (bI (false = true))), .int (iI ((x : Nat) : Int)), .ref mt, .int (iI ((sn : Nat) : Int)), .ref mb, .ref me, .ref bt, .ref wy, .ref lq, .ref df, .int (iI ((dn : Nat) : Int))])), (ml, .inl (tI, 192, .inl (iA (iN L)))), (mz, .inl (tI, 2, .inl (iA (iN Z)))), (ms, .inl (tI, 676, .inl (iA SC))), (bt, .inl (tI, 28227, .inl (iA (u39.1)))), (wy, .inl (tJ, 28227, .inr (.inl (u39.2)))), (mt, .inl (tI, 192, .inl (iA (iN d)))), (mb, .inl (tI, 2, .inl (iA (iN (iU (iU B 0 0) 1 0))))), (me, .inl (tI, 2, .inl (iA (iN E))))]) 7 0 rfl rfl (1) rfl (by omega) (by decide) rfl d_Mo_whole_55 ?_
  refine r_aload_n hX 0 d_Mo_whole_56 rfl ?_
  refine r_iconstN hX 0 d_Mo_whole_57 rfl ?_
  refine r_iconstN hX 0 d_Mo_whole_58 rfl ?_
  refine r_invV_v0 (st := []) (As := [.int (iI ((0 : Nat) : Int)), .int (iI ((0 : Nat) : Int))]) (wr := [(wy, .inl (tJ, 28227, .inr (.inl (u39.2)))), (mb, .inl (tI, 2, .inl (iA (iN (iU (iU B 0 0) 1 0)))))]) hX (c_Mo_follow l D tI tJ tZ mo ml mz ms mt mb me bt wy lq df ((0 : Nat) : Int) op mr ld false x sn dn L Z SC (u39.1) d E 0 0 hM (fun q => Bool.noConfusion q) (Nat.zero_le _) (Nat.zero_le _) (Or.inr (Or.inl ⟨rfl, Or.inl ⟨rfl, rfl⟩⟩)) (ra_MD_TM hu39) hd) "RowAlignerModel" 0 10 cf_Mo rfl yn_Mo_follow ml_Mo_113 im_Mo_follow se_Mo_follow co_Mo_follow in_Mo (by decide) (by decide) (by decide) [0, 1, 2, 3, 4, 6, 8] [5, 7] rfl rfl rfl rfl rfl (by decide) rfl rfl (Nat.le_of_ble_eq_true rfl) d_Mo_whole_59 [2, 3, 4, 5, 6, 0, 7, 1, 8] rfl (w2 := fun u59 => [(mo, .inr (10, [.int (iI ((0 : Nat) : Int)), .ref ml, .ref mz, .ref ms, .int (iI op), .int (iI mr), .int (iI (bI (ld = true))), .int (iI (bI (false = true))), .int (iI ((x : Nat) : Int)), .ref mt, .int (iI (((ra_pth (ra_mg Z L SC op mr x false) 0 0 0).length : Nat) : Int)), .ref mb, .ref me, .ref bt, .ref wy, .ref lq, .ref df, .int (iI ((dn : Nat) : Int))])), (ml, .inl (tI, 192, .inl (iA (iN L)))), (mz, .inl (tI, 2, .inl (iA (iN Z)))), (ms, .inl (tI, 676, .inl (iA SC))), (bt, .inl (tI, 28227, .inl (iA (u39.1)))), (wy, .inl (tJ, 28227, .inr (.inl (u39.2)))), (mt, .inl (tI, 192, .inl (iA (iN u59)))), (mb, .inl (tI, 2, .inl (iA (iN (iU (iU B 0 0) 1 0))))), (me, .inl (tI, 2, .inl (iA (iN (iU (iU E 0 (0 + ra_qi u59 (ra_pth (ra_mg Z L SC op mr x false) 0 0 0).length)) 1 (0 + ra_qj u59 (ra_pth (ra_mg Z L SC op mr x false) 0 0 0).length))))))]) (fun _ => rfl) (fun u59 hu59 => ?_)
  refine r_aload_n hX 0 d_Mo_whole_62 rfl ?_
  refine r_iconstN hX 1 d_Mo_whole_63 rfl ?_
  refine r_eq (lv2 := [(0, .ref mo), (1, .int (iI ((x : Nat) : Int)))]) (st2 := [.int (iI (bI (true = true))), .ref mo]) (ws2 := [(mo, .inr (10, [.int (iI ((0 : Nat) : Int)), .ref ml, .ref mz, .ref ms, .int (iI op), .int (iI mr), .int (iI (bI (ld = true))), .int (iI (bI (false = true))), .int (iI ((x : Nat) : Int)), .ref mt, .int (iI (((ra_pth (ra_mg Z L SC op mr x false) 0 0 0).length : Nat) : Int)), .ref mb, .ref me, .ref bt, .ref wy, .ref lq, .ref df, .int (iI ((dn : Nat) : Int))])), (ml, .inl (tI, 192, .inl (iA (iN L)))), (mz, .inl (tI, 2, .inl (iA (iN Z)))), (ms, .inl (tI, 676, .inl (iA SC))), (bt, .inl (tI, 28227, .inl (iA (u39.1)))), (wy, .inl (tJ, 28227, .inr (.inl (u39.2)))), (mt, .inl (tI, 192, .inl (iA (iN u59)))), (mb, .inl (tI, 2, .inl (iA (iN (iU (iU B 0 0) 1 0))))), (me, .inl (tI, 2, .inl (iA (iN (iU (iU E 0 (0 + ra_qi u59 (ra_pth (ra_mg Z L SC op mr x false) 0 0 0).length)) 1 (0 + ra_qj u59 (ra_pth (ra_mg Z L SC op mr x false) 0 0 0).length))))))]) rfl rfl rfl ?_
  refine r_put hX (ws' := [(mo, .inr (10, [.int (iI ((0 : Nat) : Int)), .ref ml, .ref mz, .ref ms, .int (iI op), .int (iI mr), .int (iI (bI (true = true))), .int (iI (bI (false = true))), .int (iI ((x : Nat) : Int)), .ref mt, .int (iI (((ra_pth (ra_mg Z L SC op mr x false) 0 0 0).length : Nat) : Int)), .ref mb, .ref me, .ref bt, .ref wy, .ref lq, .ref df, .int (iI ((dn : Nat) : Int))])), (ml, .inl (tI, 192, .inl (iA (iN L)))), (mz, .inl (tI, 2, .inl (iA (iN Z)))), (ms, .inl (tI, 676, .inl (iA SC))), (bt, .inl (tI, 28227, .inl (iA (u39.1)))), (wy, .inl (tJ, 28227, .inr (.inl (u39.2)))), (mt, .inl (tI, 192, .inl (iA (iN u59)))), (mb, .inl (tI, 2, .inl (iA (iN (iU (iU B 0 0) 1 0))))), (me, .inl (tI, 2, .inl (iA (iN (iU (iU E 0 (0 + ra_qi u59 (ra_pth (ra_mg Z L SC op mr x false) 0 0 0).length)) 1 (0 + ra_qj u59 (ra_pth (ra_mg Z L SC op mr x false) 0 0 0).length))))))]) cf_Mo 0 rfl 6 (by decide) fl_Mo_61 rfl (nz_b _) (fz_b _) (Nat.le_of_ble_eq_true rfl) rfl d_Mo_whole_64 ?_
  refine r_aload_n hX 0 d_Mo_whole_67 rfl ?_
  refine r_get hX cf_Mo 0 rfl 13 (by decide) fl_Mo_35 rfl d_Mo_whole_68 ?_
  refine r_iconstN hX 0 d_Mo_whole_71 rfl ?_
  refine r_iald hX 4 0 rfl rfl (0) rfl (by omega) (by decide) d_Mo_whole_72 ?_
  exact r_iret hX hT (u39.1, u39.2, u59) ⟨rfl, hu39, hu59⟩ rfl (by decide) (by decide) d_Mo_whole_73

abbrev rm_Mo_parts : Room := { frames := 3, cells := 0, slots := 0, locals := 87 }
set_option maxHeartbeats 4000000 in
set_option maxRecDepth 100000 in
theorem c_Mo_parts (l : Launch) (D : va_G) (tI tJ tZ : ClassId) (mo : Nat) (ml : Nat) (mz : Nat) (ms : Nat) (mt : Nat) (mb : Nat) (me : Nat) (bt : Nat) (wy : Nat) (lq : Nat) (df : Nat) (cd : Int) (op : Int) (mr : Int) (ld : Bool) (pt : Bool) (fr : Nat) (sn : Nat) (dn : Nat) (L : Nat → Nat) (Z : Nat → Nat) (SC : Nat → Int) (T : Nat → Int) (K : Nat → Int64) (d : Nat → Nat) (B : Nat → Nat) (E : Nat → Nat) (hM : raM Z L SC op mr 0) (hd : ∀ t, d t < 3) : rCi l y_Mo_parts prog_12_method_26_code 5 .int rm_Mo_parts D (tysA tI tJ tZ) [.ref mo] [(mo, .inr (10, [.int (iI cd), .ref ml, .ref mz, .ref ms, .int (iI op), .int (iI mr), .int (iI (bI (ld = true))), .int (iI (bI (pt = true))), .int (iI ((fr : Nat) : Int)), .ref mt, .int (iI ((sn : Nat) : Int)), .ref mb, .ref me, .ref bt, .ref wy, .ref lq, .ref df, .int (iI ((dn : Nat) : Int))])), (ml, .inl (tI, 192, .inl (iA (iN L)))), (mz, .inl (tI, 2, .inl (iA (iN Z)))), (ms, .inl (tI, 676, .inl (iA SC))), (bt, .inl (tI, 28227, .inl (iA T))), (wy, .inl (tJ, 28227, .inr (.inl K))), (mt, .inl (tI, 192, .inl (iA (iN d)))), (mb, .inl (tI, 2, .inl (iA (iN B)))), (me, .inl (tI, 2, .inl (iA (iN E))))] (fun zz (u : (Nat → Int) × (Nat → Int64) × (Nat → Nat) × Nat × Nat) => zz = iI (u.1 ((97 * u.2.2.2.1 + u.2.2.2.2) * 3 + 0)) ∧ ra_MD (ra_mg Z L SC op mr 0 true) u.1 u.2.1 0 0 0 ∧ ra_FB (fun i j => u.1 ((97 * i + j) * 3 + 0)) (Z 0) (Z 1) u.2.2.2.1 u.2.2.2.2 ∧ (∀ t, t < (ra_pth (ra_mg Z L SC op mr 0 true) 0 u.2.2.2.1 u.2.2.2.2).length → (ra_pth (ra_mg Z L SC op mr 0 true) 0 u.2.2.2.1 u.2.2.2.2)[t]? = some (u.2.2.1 t)) ∧ (∀ t, u.2.2.1 t < 3)) (fun (u : (Nat → Int) × (Nat → Int64) × (Nat → Nat) × Nat × Nat) => [(mo, .inr (10, [.int (iI 0), .ref ml, .ref mz, .ref ms, .int (iI op), .int (iI mr), .int (iI (bI (true = true))), .int (iI (bI (true = true))), .int (iI ((0 : Nat) : Int)), .ref mt, .int (iI (((ra_pth (ra_mg Z L SC op mr 0 true) 0 u.2.2.2.1 u.2.2.2.2).length : Nat) : Int)), .ref mb, .ref me, .ref bt, .ref wy, .ref lq, .ref df, .int (iI ((dn : Nat) : Int))])), (ml, .inl (tI, 192, .inl (iA (iN L)))), (mz, .inl (tI, 2, .inl (iA (iN Z)))), (ms, .inl (tI, 676, .inl (iA SC))), (bt, .inl (tI, 28227, .inl (iA (u.1)))), (wy, .inl (tJ, 28227, .inr (.inl (u.2.1)))), (mt, .inl (tI, 192, .inl (iA (iN (u.2.2.1))))), (mb, .inl (tI, 2, .inl (iA (iN (iU (iU B 0 u.2.2.2.1) 1 u.2.2.2.2))))), (me, .inl (tI, 2, .inl (iA (iN (iU (iU E 0 (u.2.2.2.1 + ra_qi u.2.2.1 (ra_pth (ra_mg Z L SC op mr 0 true) 0 u.2.2.2.1 u.2.2.2.2).length)) 1 (u.2.2.2.2 + ra_qj u.2.2.1 (ra_pth (ra_mg Z L SC op mr 0 true) 0 u.2.2.2.1 u.2.2.2.2).length))))))]) := by
  intro sz
  refine r_met (by decide) (Nat.le_of_ble_eq_true rfl) ?_
  intro F p e s m args below meth c Q A hX hT hAe hsz hin
  subst hAe
  replace hX : rOK F p l e rm_Mo_parts s m args below meth c Q prog_12_method_26_code 5 "RowAlignerModel" D (tysA tI tJ tZ) _ := hX
  have hza := hM.1
  have hzb := hM.2.1
  have hbd : ra_bd (ra_mg Z L SC op mr 0 true) := hM.bd true
  show F 0 [(0, .ref mo)] [] [(mo, .inr (10, [.int (iI cd), .ref ml, .ref mz, .ref ms, .int (iI op), .int (iI mr), .int (iI (bI (ld = true))), .int (iI (bI (pt = true))), .int (iI ((fr : Nat) : Int)), .ref mt, .int (iI ((sn : Nat) : Int)), .ref mb, .ref me, .ref bt, .ref wy, .ref lq, .ref df, .int (iI ((dn : Nat) : Int))])), (ml, .inl (tI, 192, .inl (iA (iN L)))), (mz, .inl (tI, 2, .inl (iA (iN Z)))), (ms, .inl (tI, 676, .inl (iA SC))), (bt, .inl (tI, 28227, .inl (iA T))), (wy, .inl (tJ, 28227, .inr (.inl K))), (mt, .inl (tI, 192, .inl (iA (iN d)))), (mb, .inl (tI, 2, .inl (iA (iN B)))), (me, .inl (tI, 2, .inl (iA (iN E))))] 0 0
  refine r_aload_n hX 0 d_Mo_parts_0 rfl ?_
  refine r_iconstN hX 0 d_Mo_parts_1 rfl ?_
  refine r_put hX (ws' := [(mo, .inr (10, [.int (iI ((0 : Nat) : Int)), .ref ml, .ref mz, .ref ms, .int (iI op), .int (iI mr), .int (iI (bI (ld = true))), .int (iI (bI (pt = true))), .int (iI ((fr : Nat) : Int)), .ref mt, .int (iI ((sn : Nat) : Int)), .ref mb, .ref me, .ref bt, .ref wy, .ref lq, .ref df, .int (iI ((dn : Nat) : Int))])), (ml, .inl (tI, 192, .inl (iA (iN L)))), (mz, .inl (tI, 2, .inl (iA (iN Z)))), (ms, .inl (tI, 676, .inl (iA SC))), (bt, .inl (tI, 28227, .inl (iA T))), (wy, .inl (tJ, 28227, .inr (.inl K))), (mt, .inl (tI, 192, .inl (iA (iN d)))), (mb, .inl (tI, 2, .inl (iA (iN B)))), (me, .inl (tI, 2, .inl (iA (iN E))))]) cf_Mo 0 rfl 0 (by decide) fl_Mo_52 rfl rfl rfl (Nat.le_of_ble_eq_true rfl) rfl d_Mo_parts_2 ?_
  refine r_aload_n hX 0 d_Mo_parts_5 rfl ?_
  refine r_iconstN hX 0 d_Mo_parts_6 rfl ?_
  refine r_put hX (ws' := [(mo, .inr (10, [.int (iI ((0 : Nat) : Int)), .ref ml, .ref mz, .ref ms, .int (iI op), .int (iI mr), .int (iI (bI (ld = true))), .int (iI (bI (pt = true))), .int (iI ((0 : Nat) : Int)), .ref mt, .int (iI ((sn : Nat) : Int)), .ref mb, .ref me, .ref bt, .ref wy, .ref lq, .ref df, .int (iI ((dn : Nat) : Int))])), (ml, .inl (tI, 192, .inl (iA (iN L)))), (mz, .inl (tI, 2, .inl (iA (iN Z)))), (ms, .inl (tI, 676, .inl (iA SC))), (bt, .inl (tI, 28227, .inl (iA T))), (wy, .inl (tJ, 28227, .inr (.inl K))), (mt, .inl (tI, 192, .inl (iA (iN d)))), (mb, .inl (tI, 2, .inl (iA (iN B)))), (me, .inl (tI, 2, .inl (iA (iN E))))]) cf_Mo 0 rfl 8 (by decide) fl_Mo_69 rfl rfl rfl (Nat.le_of_ble_eq_true rfl) rfl d_Mo_parts_7 ?_
  refine r_aload_n hX 0 d_Mo_parts_10 rfl ?_
  refine r_iconstN hX 1 d_Mo_parts_11 rfl ?_
  refine r_eq (lv2 := [(0, .ref mo)]) (st2 := [.int (iI (bI (true = true))), .ref mo]) (ws2 := [(mo, .inr (10, [.int (iI ((0 : Nat) : Int)), .ref ml, .ref mz, .ref ms, .int (iI op), .int (iI mr), .int (iI (bI (ld = true))), .int (iI (bI (pt = true))), .int (iI ((0 : Nat) : Int)), .ref mt, .int (iI ((sn : Nat) : Int)), .ref mb, .ref me, .ref bt, .ref wy, .ref lq, .ref df, .int (iI ((dn : Nat) : Int))])), (ml, .inl (tI, 192, .inl (iA (iN L)))), (mz, .inl (tI, 2, .inl (iA (iN Z)))), (ms, .inl (tI, 676, .inl (iA SC))), (bt, .inl (tI, 28227, .inl (iA T))), (wy, .inl (tJ, 28227, .inr (.inl K))), (mt, .inl (tI, 192, .inl (iA (iN d)))), (mb, .inl (tI, 2, .inl (iA (iN B)))), (me, .inl (tI, 2, .inl (iA (iN E))))]) rfl rfl rfl ?_
  refine r_put hX (ws' := [(mo, .inr (10, [.int (iI ((0 : Nat) : Int)), .ref ml, .ref mz, .ref ms, .int (iI op), .int (iI mr), .int (iI (bI (ld = true))), .int (iI (bI (true = true))), .int (iI ((0 : Nat) : Int)), .ref mt, .int (iI ((sn : Nat) : Int)), .ref mb, .ref me, .ref bt, .ref wy, .ref lq, .ref df, .int (iI ((dn : Nat) : Int))])), (ml, .inl (tI, 192, .inl (iA (iN L)))), (mz, .inl (tI, 2, .inl (iA (iN Z)))), (ms, .inl (tI, 676, .inl (iA SC))), (bt, .inl (tI, 28227, .inl (iA T))), (wy, .inl (tJ, 28227, .inr (.inl K))), (mt, .inl (tI, 192, .inl (iA (iN d)))), (mb, .inl (tI, 2, .inl (iA (iN B)))), (me, .inl (tI, 2, .inl (iA (iN E))))]) cf_Mo 0 rfl 7 (by decide) fl_Mo_76 rfl (nz_b _) (fz_b _) (Nat.le_of_ble_eq_true rfl) rfl d_Mo_parts_12 ?_
  refine r_aload_n hX 0 d_Mo_parts_15 rfl ?_
  refine r_invV_v0 (st := []) (As := []) (wr := [(mt, .inl (tI, 192, .inl (iA (iN d)))), (mb, .inl (tI, 2, .inl (iA (iN B)))), (me, .inl (tI, 2, .inl (iA (iN E))))]) hX (c_Mo_reckonAll l D tI tJ tZ mo ml mz ms mt mb me bt wy lq df (((0 : Nat) : Int)) op mr ld true 0 sn dn L Z SC T K hM) "RowAlignerModel" 0 10 cf_Mo rfl yn_Mo_reckonAll ml_Mo_110 im_Mo_reckonAll se_Mo_reckonAll co_Mo_reckonAll in_Mo (by decide) (by decide) (by decide) [0, 1, 2, 3, 4, 5] [6, 7, 8] rfl rfl rfl rfl rfl (by decide) rfl rfl (Nat.le_of_ble_eq_true rfl) d_Mo_parts_16 [3, 4, 5, 6, 7, 8, 0, 1, 2] rfl (w2 := fun u16 => [(mo, .inr (10, [.int (iI ((0 : Nat) : Int)), .ref ml, .ref mz, .ref ms, .int (iI op), .int (iI mr), .int (iI (bI (ld = true))), .int (iI (bI (true = true))), .int (iI ((0 : Nat) : Int)), .ref mt, .int (iI ((sn : Nat) : Int)), .ref mb, .ref me, .ref bt, .ref wy, .ref lq, .ref df, .int (iI ((dn : Nat) : Int))])), (ml, .inl (tI, 192, .inl (iA (iN L)))), (mz, .inl (tI, 2, .inl (iA (iN Z)))), (ms, .inl (tI, 676, .inl (iA SC))), (bt, .inl (tI, 28227, .inl (iA (u16.1)))), (wy, .inl (tJ, 28227, .inr (.inl (u16.2)))), (mt, .inl (tI, 192, .inl (iA (iN d)))), (mb, .inl (tI, 2, .inl (iA (iN B)))), (me, .inl (tI, 2, .inl (iA (iN E))))]) (fun _ => rfl) (fun u16 hu16 => ?_)
  have hTM := ra_MD_TM hu16
  refine r_iconstN hX 0 d_Mo_parts_19 rfl ?_
  refine r_istore_n hX (lv' := [(1, .int (iI ((0 : Nat) : Int))), (0, .ref mo)]) d_Mo_parts_20 rfl (by decide) rfl ?_
  refine r_iconstN hX 0 d_Mo_parts_21 rfl ?_
  refine r_istore_n hX (lv' := [(2, .int (iI ((0 : Nat) : Int))), (1, .int (iI ((0 : Nat) : Int))), (0, .ref mo)]) d_Mo_parts_22 rfl (by decide) rfl ?_
  refine r_iconstN hX 0 d_Mo_parts_23 rfl ?_
  refine r_istore_n hX (lv' := [(3, .int (iI ((0 : Nat) : Int))), (2, .int (iI ((0 : Nat) : Int))), (1, .int (iI ((0 : Nat) : Int))), (0, .ref mo)]) d_Mo_parts_24 rfl (by decide) rfl ?_
  have L25 : ∀ (dd : Nat) (ii : Nat) (p : Nat) (q : Nat), Z 0 + 1 - ii = dd → (ii ≤ Z 0 + 1) → (ra_FI (fun i j => u16.1 ((97 * i + j) * 3 + 0)) (Z 0) (Z 1) ii 0 p q) → F 25 [(3, .int (iI ((ii : Nat) : Int))), (2, .int (iI ((q : Nat) : Int))), (1, .int (iI ((p : Nat) : Int))), (0, .ref mo)] [] [(mo, .inr (10, [.int (iI ((0 : Nat) : Int)), .ref ml, .ref mz, .ref ms, .int (iI op), .int (iI mr), .int (iI (bI (ld = true))), .int (iI (bI (true = true))), .int (iI ((0 : Nat) : Int)), .ref mt, .int (iI ((sn : Nat) : Int)), .ref mb, .ref me, .ref bt, .ref wy, .ref lq, .ref df, .int (iI ((dn : Nat) : Int))])), (ml, .inl (tI, 192, .inl (iA (iN L)))), (mz, .inl (tI, 2, .inl (iA (iN Z)))), (ms, .inl (tI, 676, .inl (iA SC))), (bt, .inl (tI, 28227, .inl (iA (u16.1)))), (wy, .inl (tJ, 28227, .inr (.inl (u16.2)))), (mt, .inl (tI, 192, .inl (iA (iN d)))), (mb, .inl (tI, 2, .inl (iA (iN B)))), (me, .inl (tI, 2, .inl (iA (iN E))))] 0 0 := by
    intro dd
    induction dd using Nat.strongRecOn with
    | _ dd ih25 =>
      intro ii p q hmu25 hii hF
      refine r_iload_n hX 0 d_Mo_parts_25 rfl ?_
      refine r_aload_n hX 3 d_Mo_parts_26 rfl ?_
      refine r_get hX cf_Mo 0 rfl 2 (by decide) fl_Mo_13 rfl d_Mo_parts_27 ?_
      refine r_iconstN hX 0 d_Mo_parts_30 rfl ?_
      refine r_ialdN hX 2 0 rfl rfl (0) rfl (by omega) (by decide) d_Mo_parts_31 ?_
      refine r_icmp_gt hX 92 d_Mo_parts_32 (by decide) (by unfold iR; omega) (by unfold iR; omega) (fun h32 => ?_) (fun h32 => ?_)
      · have hFB := ra_FI_end hF (show Z 0 < ii by omega)
        have hp1 : p ≤ Z 0 := hFB.1
        have hp2 : q ≤ Z 1 := hFB.2.1
        refine r_aload_n hX 3 d_Mo_parts_92 rfl ?_
        refine r_get hX cf_Mo 0 rfl 11 (by decide) fl_Mo_29 rfl d_Mo_parts_93 ?_
        refine r_iconstN hX 0 d_Mo_parts_96 rfl ?_
        refine r_iload_n hX 2 d_Mo_parts_97 rfl ?_
        refine r_iastN hX (ws' := [(mo, .inr (10, [.int (iI ((0 : Nat) : Int)), .ref ml, .ref mz, .ref ms, .int (iI op), .int (iI mr), .int (iI (bI (ld = true))), .int (iI (bI (true = true))), .int (iI ((0 : Nat) : Int)), .ref mt, .int (iI ((sn : Nat) : Int)), .ref mb, .ref me, .ref bt, .ref wy, .ref lq, .ref df, .int (iI ((dn : Nat) : Int))])), (ml, .inl (tI, 192, .inl (iA (iN L)))), (mz, .inl (tI, 2, .inl (iA (iN Z)))), (ms, .inl (tI, 676, .inl (iA SC))), (bt, .inl (tI, 28227, .inl (iA (u16.1)))), (wy, .inl (tJ, 28227, .inr (.inl (u16.2)))), (mt, .inl (tI, 192, .inl (iA (iN d)))), (mb, .inl (tI, 2, .inl (iA (iN (iU B 0 p))))), (me, .inl (tI, 2, .inl (iA (iN E))))]) 7 0 rfl rfl (0) rfl (by omega) (by decide) rfl d_Mo_parts_98 ?_
        refine r_aload_n hX 3 d_Mo_parts_99 rfl ?_
        refine r_get hX cf_Mo 0 rfl 11 (by decide) fl_Mo_29 rfl d_Mo_parts_100 ?_
        refine r_iconstN hX 1 d_Mo_parts_103 rfl ?_
        refine r_iload_n hX 1 d_Mo_parts_104 rfl ?_
        refine r_iastN hX (ws' := [(mo, .inr (10, [.int (iI ((0 : Nat) : Int)), .ref ml, .ref mz, .ref ms, .int (iI op), .int (iI mr), .int (iI (bI (ld = true))), .int (iI (bI (true = true))), .int (iI ((0 : Nat) : Int)), .ref mt, .int (iI ((sn : Nat) : Int)), .ref mb, .ref me, .ref bt, .ref wy, .ref lq, .ref df, .int (iI ((dn : Nat) : Int))])), (ml, .inl (tI, 192, .inl (iA (iN L)))), (mz, .inl (tI, 2, .inl (iA (iN Z)))), (ms, .inl (tI, 676, .inl (iA SC))), (bt, .inl (tI, 28227, .inl (iA (u16.1)))), (wy, .inl (tJ, 28227, .inr (.inl (u16.2)))), (mt, .inl (tI, 192, .inl (iA (iN d)))), (mb, .inl (tI, 2, .inl (iA (iN (iU (iU B 0 p) 1 q))))), (me, .inl (tI, 2, .inl (iA (iN E))))]) 7 0 rfl rfl (1) rfl (by omega) (by decide) rfl d_Mo_parts_105 ?_
        refine r_aload_n hX 3 d_Mo_parts_106 rfl ?_
        refine r_iload_n hX 2 d_Mo_parts_107 rfl ?_
        refine r_iload_n hX 1 d_Mo_parts_108 rfl ?_
        refine r_invV_v0 (st := []) (As := [.int (iI ((p : Nat) : Int)), .int (iI ((q : Nat) : Int))]) (wr := [(wy, .inl (tJ, 28227, .inr (.inl (u16.2)))), (mb, .inl (tI, 2, .inl (iA (iN (iU (iU B 0 p) 1 q)))))]) hX (c_Mo_follow l D tI tJ tZ mo ml mz ms mt mb me bt wy lq df (((0 : Nat) : Int)) op mr ld true 0 sn dn L Z SC (u16.1) d E p q hM (fun _ => rfl) hp1 hp2 (Or.inl rfl) hTM hd) "RowAlignerModel" 0 10 cf_Mo rfl yn_Mo_follow ml_Mo_113 im_Mo_follow se_Mo_follow co_Mo_follow in_Mo (by decide) (by decide) (by decide) [0, 1, 2, 3, 4, 6, 8] [5, 7] rfl rfl rfl rfl rfl (by decide) rfl rfl (Nat.le_of_ble_eq_true rfl) d_Mo_parts_109 [2, 3, 4, 5, 6, 0, 7, 1, 8] rfl (w2 := fun u109 => [(mo, .inr (10, [.int (iI ((0 : Nat) : Int)), .ref ml, .ref mz, .ref ms, .int (iI op), .int (iI mr), .int (iI (bI (ld = true))), .int (iI (bI (true = true))), .int (iI ((0 : Nat) : Int)), .ref mt, .int (iI (((ra_pth (ra_mg Z L SC op mr 0 true) 0 p q).length : Nat) : Int)), .ref mb, .ref me, .ref bt, .ref wy, .ref lq, .ref df, .int (iI ((dn : Nat) : Int))])), (ml, .inl (tI, 192, .inl (iA (iN L)))), (mz, .inl (tI, 2, .inl (iA (iN Z)))), (ms, .inl (tI, 676, .inl (iA SC))), (bt, .inl (tI, 28227, .inl (iA (u16.1)))), (wy, .inl (tJ, 28227, .inr (.inl (u16.2)))), (mt, .inl (tI, 192, .inl (iA (iN u109)))), (mb, .inl (tI, 2, .inl (iA (iN (iU (iU B 0 p) 1 q))))), (me, .inl (tI, 2, .inl (iA (iN (iU (iU E 0 (p + ra_qi u109 (ra_pth (ra_mg Z L SC op mr 0 true) 0 p q).length)) 1 (q + ra_qj u109 (ra_pth (ra_mg Z L SC op mr 0 true) 0 p q).length))))))]) (fun _ => rfl) (fun u109 hu109 => ?_)
        refine r_aload_n hX 3 d_Mo_parts_112 rfl ?_
        refine r_iconstN hX 1 d_Mo_parts_113 rfl ?_
        refine r_put hX (ws' := [(mo, .inr (10, [.int (iI ((0 : Nat) : Int)), .ref ml, .ref mz, .ref ms, .int (iI op), .int (iI mr), .int (iI ((1 : Nat) : Int)), .int (iI (bI (true = true))), .int (iI ((0 : Nat) : Int)), .ref mt, .int (iI (((ra_pth (ra_mg Z L SC op mr 0 true) 0 p q).length : Nat) : Int)), .ref mb, .ref me, .ref bt, .ref wy, .ref lq, .ref df, .int (iI ((dn : Nat) : Int))])), (ml, .inl (tI, 192, .inl (iA (iN L)))), (mz, .inl (tI, 2, .inl (iA (iN Z)))), (ms, .inl (tI, 676, .inl (iA SC))), (bt, .inl (tI, 28227, .inl (iA (u16.1)))), (wy, .inl (tJ, 28227, .inr (.inl (u16.2)))), (mt, .inl (tI, 192, .inl (iA (iN u109)))), (mb, .inl (tI, 2, .inl (iA (iN (iU (iU B 0 p) 1 q))))), (me, .inl (tI, 2, .inl (iA (iN (iU (iU E 0 (p + ra_qi u109 (ra_pth (ra_mg Z L SC op mr 0 true) 0 p q).length)) 1 (q + ra_qj u109 (ra_pth (ra_mg Z L SC op mr 0 true) 0 p q).length))))))]) cf_Mo 0 rfl 6 (by decide) fl_Mo_61 rfl (by decide +kernel) (by decide +kernel) (Nat.le_of_ble_eq_true rfl) rfl d_Mo_parts_114 ?_
        refine r_aload_n hX 3 d_Mo_parts_117 rfl ?_
        refine r_get hX cf_Mo 0 rfl 13 (by decide) fl_Mo_35 rfl d_Mo_parts_118 ?_
        refine r_iload_n hX 2 d_Mo_parts_121 rfl ?_
        refine r_iload_n hX 1 d_Mo_parts_122 rfl ?_
        refine r_iconstN hX 0 d_Mo_parts_123 rfl ?_
        refine r_invS_i0 (st := [.ref bt]) (As := [.int (iI ((p : Nat) : Int)), .int (iI ((q : Nat) : Int)), .int (iI ((0 : Nat) : Int))]) (wr := [(mo, .inr (10, [.int (iI ((0 : Nat) : Int)), .ref ml, .ref mz, .ref ms, .int (iI op), .int (iI mr), .int (iI ((1 : Nat) : Int)), .int (iI (bI (true = true))), .int (iI ((0 : Nat) : Int)), .ref mt, .int (iI (((ra_pth (ra_mg Z L SC op mr 0 true) 0 p q).length : Nat) : Int)), .ref mb, .ref me, .ref bt, .ref wy, .ref lq, .ref df, .int (iI ((dn : Nat) : Int))])), (ml, .inl (tI, 192, .inl (iA (iN L)))), (mz, .inl (tI, 2, .inl (iA (iN Z)))), (ms, .inl (tI, 676, .inl (iA SC))), (bt, .inl (tI, 28227, .inl (iA (u16.1)))), (wy, .inl (tJ, 28227, .inr (.inl (u16.2)))), (mt, .inl (tI, 192, .inl (iA (iN u109)))), (mb, .inl (tI, 2, .inl (iA (iN (iU (iU B 0 p) 1 q))))), (me, .inl (tI, 2, .inl (iA (iN (iU (iU E 0 (p + ra_qi u109 (ra_pth (ra_mg Z L SC op mr 0 true) 0 p q).length)) 1 (q + ra_qj u109 (ra_pth (ra_mg Z L SC op mr 0 true) 0 p q).length))))))]) hX (c_Mo_at l D tI tJ tZ p q 0) yn_Mo_at ml_Mo_72 st_Mo_at co_Mo_at in_Mo (by decide) (by decide) (by decide) [] [0, 1, 2, 3, 4, 5, 6, 7, 8] rfl rfl rfl rfl rfl (by decide) rfl rfl (Nat.le_of_ble_eq_true rfl) d_Mo_parts_124 [0, 1, 2, 3, 4, 5, 6, 7, 8] rfl (w2 := fun _ => [(mo, .inr (10, [.int (iI ((0 : Nat) : Int)), .ref ml, .ref mz, .ref ms, .int (iI op), .int (iI mr), .int (iI ((1 : Nat) : Int)), .int (iI (bI (true = true))), .int (iI ((0 : Nat) : Int)), .ref mt, .int (iI (((ra_pth (ra_mg Z L SC op mr 0 true) 0 p q).length : Nat) : Int)), .ref mb, .ref me, .ref bt, .ref wy, .ref lq, .ref df, .int (iI ((dn : Nat) : Int))])), (ml, .inl (tI, 192, .inl (iA (iN L)))), (mz, .inl (tI, 2, .inl (iA (iN Z)))), (ms, .inl (tI, 676, .inl (iA SC))), (bt, .inl (tI, 28227, .inl (iA (u16.1)))), (wy, .inl (tJ, 28227, .inr (.inl (u16.2)))), (mt, .inl (tI, 192, .inl (iA (iN u109)))), (mb, .inl (tI, 2, .inl (iA (iN (iU (iU B 0 p) 1 q))))), (me, .inl (tI, 2, .inl (iA (iN (iU (iU E 0 (p + ra_qi u109 (ra_pth (ra_mg Z L SC op mr 0 true) 0 p q).length)) 1 (q + ra_qj u109 (ra_pth (ra_mg Z L SC op mr 0 true) 0 p q).length))))))]) (fun _ => rfl) (fun r124 _ e124 => ?_)
        subst e124
        refine r_iald hX 4 0 rfl rfl ((97 * p + q) * 3 + 0) rfl (by omega) (by decide) d_Mo_parts_127 ?_
        exact r_iret hX hT (u16.1, u16.2, u109, p, q) ⟨rfl, hu16, hFB, hu109⟩ rfl (by decide) (by decide) d_Mo_parts_128
      · refine r_iconstN hX 0 d_Mo_parts_35 rfl ?_
        refine r_istore hX (lv' := [(4, .int (iI ((0 : Nat) : Int))), (3, .int (iI ((ii : Nat) : Int))), (2, .int (iI ((q : Nat) : Int))), (1, .int (iI ((p : Nat) : Int))), (0, .ref mo)]) d_Mo_parts_36 (by decide) rfl ?_
        have L38 : ∀ (dd : Nat) (jj : Nat) (p : Nat) (q : Nat), Z 1 + 1 - jj = dd → (jj ≤ Z 1 + 1) → (ra_FI (fun i j => u16.1 ((97 * i + j) * 3 + 0)) (Z 0) (Z 1) ii jj p q) → F 38 [(4, .int (iI ((jj : Nat) : Int))), (3, .int (iI ((ii : Nat) : Int))), (2, .int (iI ((q : Nat) : Int))), (1, .int (iI ((p : Nat) : Int))), (0, .ref mo)] [] [(mo, .inr (10, [.int (iI ((0 : Nat) : Int)), .ref ml, .ref mz, .ref ms, .int (iI op), .int (iI mr), .int (iI (bI (ld = true))), .int (iI (bI (true = true))), .int (iI ((0 : Nat) : Int)), .ref mt, .int (iI ((sn : Nat) : Int)), .ref mb, .ref me, .ref bt, .ref wy, .ref lq, .ref df, .int (iI ((dn : Nat) : Int))])), (ml, .inl (tI, 192, .inl (iA (iN L)))), (mz, .inl (tI, 2, .inl (iA (iN Z)))), (ms, .inl (tI, 676, .inl (iA SC))), (bt, .inl (tI, 28227, .inl (iA (u16.1)))), (wy, .inl (tJ, 28227, .inr (.inl (u16.2)))), (mt, .inl (tI, 192, .inl (iA (iN d)))), (mb, .inl (tI, 2, .inl (iA (iN B)))), (me, .inl (tI, 2, .inl (iA (iN E))))] 0 0 := by
          intro dd
          induction dd using Nat.strongRecOn with
          | _ dd ih38 =>
            intro jj p q hmu38 hjj hF2
            refine r_iload hX 0 d_Mo_parts_38 rfl ?_
            refine r_aload_n hX 4 d_Mo_parts_40 rfl ?_
            refine r_get hX cf_Mo 0 rfl 2 (by decide) fl_Mo_13 rfl d_Mo_parts_41 ?_
            refine r_iconstN hX 1 d_Mo_parts_44 rfl ?_
            refine r_ialdN hX 2 0 rfl rfl (1) rfl (by omega) (by decide) d_Mo_parts_45 ?_
            refine r_icmp_gt hX 86 d_Mo_parts_46 (by decide) (by unfold iR; omega) (by unfold iR; omega) (fun h46 => ?_) (fun h46 => ?_)
            · refine r_iincN hX (lv' := [(3, .int (iI ((ii + 1 : Nat) : Int))), (4, .int (iI ((jj : Nat) : Int))), (2, .int (iI ((q : Nat) : Int))), (1, .int (iI ((p : Nat) : Int))), (0, .ref mo)]) 1 d_Mo_parts_86 rfl (by decide) rfl ?_
              refine r_goto hX 25 d_Mo_parts_89 (by decide) ?_
              refine r_lv hX (lv' := [(3, .int (iI ((ii + 1 : Nat) : Int))), (2, .int (iI ((q : Nat) : Int))), (1, .int (iI ((p : Nat) : Int))), (0, .ref mo)]) [0, 2, 3, 4] rfl ?_
              exact ih25 _ (by omega) (ii + 1) p q rfl (by omega) (ra_FI_row hF2 (by omega))
            · have hb1 := ra_TM_bd hbd hTM (b := 0) (i := ii) (j := jj) (by omega) (by change ii ≤ Z 0; omega) (by change jj ≤ Z 1; omega)
              have hp1 : p ≤ Z 0 := hF2.1
              have hp2 : q ≤ Z 1 := hF2.2.1
              have hb2 := ra_TM_bd hbd hTM (b := 0) (i := p) (j := q) (by omega) hp1 hp2
              refine r_aload_n hX 4 d_Mo_parts_49 rfl ?_
              refine r_get hX cf_Mo 0 rfl 13 (by decide) fl_Mo_35 rfl d_Mo_parts_50 ?_
              refine r_iload_n hX 1 d_Mo_parts_53 rfl ?_
              refine r_iload hX 0 d_Mo_parts_54 rfl ?_
              refine r_iconstN hX 0 d_Mo_parts_56 rfl ?_
              refine r_invS_i0 (st := [.ref bt]) (As := [.int (iI ((ii : Nat) : Int)), .int (iI ((jj : Nat) : Int)), .int (iI ((0 : Nat) : Int))]) (wr := [(mo, .inr (10, [.int (iI ((0 : Nat) : Int)), .ref ml, .ref mz, .ref ms, .int (iI op), .int (iI mr), .int (iI (bI (ld = true))), .int (iI (bI (true = true))), .int (iI ((0 : Nat) : Int)), .ref mt, .int (iI ((sn : Nat) : Int)), .ref mb, .ref me, .ref bt, .ref wy, .ref lq, .ref df, .int (iI ((dn : Nat) : Int))])), (ml, .inl (tI, 192, .inl (iA (iN L)))), (mz, .inl (tI, 2, .inl (iA (iN Z)))), (ms, .inl (tI, 676, .inl (iA SC))), (bt, .inl (tI, 28227, .inl (iA (u16.1)))), (wy, .inl (tJ, 28227, .inr (.inl (u16.2)))), (mt, .inl (tI, 192, .inl (iA (iN d)))), (mb, .inl (tI, 2, .inl (iA (iN B)))), (me, .inl (tI, 2, .inl (iA (iN E))))]) hX (c_Mo_at l D tI tJ tZ ii jj 0) yn_Mo_at ml_Mo_72 st_Mo_at co_Mo_at in_Mo (by decide) (by decide) (by decide) [] [0, 1, 2, 3, 4, 5, 6, 7, 8] rfl rfl rfl rfl rfl (by decide) rfl rfl (Nat.le_of_ble_eq_true rfl) d_Mo_parts_57 [0, 1, 2, 3, 4, 5, 6, 7, 8] rfl (w2 := fun _ => [(mo, .inr (10, [.int (iI ((0 : Nat) : Int)), .ref ml, .ref mz, .ref ms, .int (iI op), .int (iI mr), .int (iI (bI (ld = true))), .int (iI (bI (true = true))), .int (iI ((0 : Nat) : Int)), .ref mt, .int (iI ((sn : Nat) : Int)), .ref mb, .ref me, .ref bt, .ref wy, .ref lq, .ref df, .int (iI ((dn : Nat) : Int))])), (ml, .inl (tI, 192, .inl (iA (iN L)))), (mz, .inl (tI, 2, .inl (iA (iN Z)))), (ms, .inl (tI, 676, .inl (iA SC))), (bt, .inl (tI, 28227, .inl (iA (u16.1)))), (wy, .inl (tJ, 28227, .inr (.inl (u16.2)))), (mt, .inl (tI, 192, .inl (iA (iN d)))), (mb, .inl (tI, 2, .inl (iA (iN B)))), (me, .inl (tI, 2, .inl (iA (iN E))))]) (fun _ => rfl) (fun r57 _ e57 => ?_)
              subst e57
              refine r_iald hX 4 0 rfl rfl ((97 * ii + jj) * 3 + 0) rfl (by omega) (by decide) d_Mo_parts_60 ?_
              refine r_aload_n hX 4 d_Mo_parts_61 rfl ?_
              refine r_get hX cf_Mo 0 rfl 13 (by decide) fl_Mo_35 rfl d_Mo_parts_62 ?_
              refine r_iload_n hX 3 d_Mo_parts_65 rfl ?_
              refine r_iload_n hX 2 d_Mo_parts_66 rfl ?_
              refine r_iconstN hX 0 d_Mo_parts_67 rfl ?_
              refine r_invS_i0 (st := [.ref bt, .int (iI ((u16.1) ((97 * ii + jj) * 3 + 0)))]) (As := [.int (iI ((p : Nat) : Int)), .int (iI ((q : Nat) : Int)), .int (iI ((0 : Nat) : Int))]) (wr := [(mo, .inr (10, [.int (iI ((0 : Nat) : Int)), .ref ml, .ref mz, .ref ms, .int (iI op), .int (iI mr), .int (iI (bI (ld = true))), .int (iI (bI (true = true))), .int (iI ((0 : Nat) : Int)), .ref mt, .int (iI ((sn : Nat) : Int)), .ref mb, .ref me, .ref bt, .ref wy, .ref lq, .ref df, .int (iI ((dn : Nat) : Int))])), (ml, .inl (tI, 192, .inl (iA (iN L)))), (mz, .inl (tI, 2, .inl (iA (iN Z)))), (ms, .inl (tI, 676, .inl (iA SC))), (bt, .inl (tI, 28227, .inl (iA (u16.1)))), (wy, .inl (tJ, 28227, .inr (.inl (u16.2)))), (mt, .inl (tI, 192, .inl (iA (iN d)))), (mb, .inl (tI, 2, .inl (iA (iN B)))), (me, .inl (tI, 2, .inl (iA (iN E))))]) hX (c_Mo_at l D tI tJ tZ p q 0) yn_Mo_at ml_Mo_72 st_Mo_at co_Mo_at in_Mo (by decide) (by decide) (by decide) [] [0, 1, 2, 3, 4, 5, 6, 7, 8] rfl rfl rfl rfl rfl (by decide) rfl rfl (Nat.le_of_ble_eq_true rfl) d_Mo_parts_68 [0, 1, 2, 3, 4, 5, 6, 7, 8] rfl (w2 := fun _ => [(mo, .inr (10, [.int (iI ((0 : Nat) : Int)), .ref ml, .ref mz, .ref ms, .int (iI op), .int (iI mr), .int (iI (bI (ld = true))), .int (iI (bI (true = true))), .int (iI ((0 : Nat) : Int)), .ref mt, .int (iI ((sn : Nat) : Int)), .ref mb, .ref me, .ref bt, .ref wy, .ref lq, .ref df, .int (iI ((dn : Nat) : Int))])), (ml, .inl (tI, 192, .inl (iA (iN L)))), (mz, .inl (tI, 2, .inl (iA (iN Z)))), (ms, .inl (tI, 676, .inl (iA SC))), (bt, .inl (tI, 28227, .inl (iA (u16.1)))), (wy, .inl (tJ, 28227, .inr (.inl (u16.2)))), (mt, .inl (tI, 192, .inl (iA (iN d)))), (mb, .inl (tI, 2, .inl (iA (iN B)))), (me, .inl (tI, 2, .inl (iA (iN E))))]) (fun _ => rfl) (fun r68 _ e68 => ?_)
              subst e68
              refine r_iald hX 4 0 rfl rfl ((97 * p + q) * 3 + 0) rfl (by omega) (by decide) d_Mo_parts_71 ?_
              refine r_icmp_le hX 80 d_Mo_parts_72 (by decide) (by unfold iR; omega) (by unfold iR; omega) (fun h72 => ?_) (fun h72 => ?_)
              · refine r_iincN hX (lv' := [(4, .int (iI ((jj + 1 : Nat) : Int))), (3, .int (iI ((ii : Nat) : Int))), (2, .int (iI ((q : Nat) : Int))), (1, .int (iI ((p : Nat) : Int))), (0, .ref mo)]) 0 d_Mo_parts_80 rfl (by decide) rfl ?_
                refine r_goto hX 38 d_Mo_parts_83 (by decide) ?_
                exact ih38 _ (by omega) (jj + 1) p q rfl (by omega) (ra_FI_keep hF2 h72)
              · refine r_iload_n hX 1 d_Mo_parts_75 rfl ?_
                refine r_istore_n hX (lv' := [(1, .int (iI ((ii : Nat) : Int))), (4, .int (iI ((jj : Nat) : Int))), (3, .int (iI ((ii : Nat) : Int))), (2, .int (iI ((q : Nat) : Int))), (0, .ref mo)]) d_Mo_parts_76 rfl (by decide) rfl ?_
                refine r_iload hX 1 d_Mo_parts_77 rfl ?_
                refine r_istore_n hX (lv' := [(2, .int (iI ((jj : Nat) : Int))), (1, .int (iI ((ii : Nat) : Int))), (4, .int (iI ((jj : Nat) : Int))), (3, .int (iI ((ii : Nat) : Int))), (0, .ref mo)]) d_Mo_parts_79 rfl (by decide) rfl ?_
                refine r_iincN hX (lv' := [(4, .int (iI ((jj + 1 : Nat) : Int))), (2, .int (iI ((jj : Nat) : Int))), (1, .int (iI ((ii : Nat) : Int))), (3, .int (iI ((ii : Nat) : Int))), (0, .ref mo)]) 2 d_Mo_parts_80 rfl (by decide) rfl ?_
                refine r_goto hX 38 d_Mo_parts_83 (by decide) ?_
                refine r_lv hX (lv' := [(4, .int (iI ((jj + 1 : Nat) : Int))), (3, .int (iI ((ii : Nat) : Int))), (2, .int (iI ((jj : Nat) : Int))), (1, .int (iI ((ii : Nat) : Int))), (0, .ref mo)]) [0, 3, 1, 2, 4] rfl ?_
                exact ih38 _ (by omega) (jj + 1) ii jj rfl (by omega) (ra_FI_set hF2 (by omega) (by omega) (Int.not_le.1 h72))
        exact L38 _ 0 p q rfl (by omega) hF
  refine r_eq (lv2 := [(3, .int (iI ((0 : Nat) : Int))), (2, .int (iI ((0 : Nat) : Int))), (1, .int (iI ((0 : Nat) : Int))), (0, .ref mo)]) (st2 := []) (ws2 := [(mo, .inr (10, [.int (iI ((0 : Nat) : Int)), .ref ml, .ref mz, .ref ms, .int (iI op), .int (iI mr), .int (iI (bI (ld = true))), .int (iI (bI (true = true))), .int (iI ((0 : Nat) : Int)), .ref mt, .int (iI ((sn : Nat) : Int)), .ref mb, .ref me, .ref bt, .ref wy, .ref lq, .ref df, .int (iI ((dn : Nat) : Int))])), (ml, .inl (tI, 192, .inl (iA (iN L)))), (mz, .inl (tI, 2, .inl (iA (iN Z)))), (ms, .inl (tI, 676, .inl (iA SC))), (bt, .inl (tI, 28227, .inl (iA (u16.1)))), (wy, .inl (tJ, 28227, .inr (.inl (u16.2)))), (mt, .inl (tI, 192, .inl (iA (iN d)))), (mb, .inl (tI, 2, .inl (iA (iN B)))), (me, .inl (tI, 2, .inl (iA (iN E))))]) rfl rfl rfl ?_
  exact L25 _ 0 0 0 rfl (by omega) ra_FI_start

abbrev rm_Mo_ways_n : Room := { frames := 0, cells := 0, slots := 0, locals := 0 }
set_option maxHeartbeats 4000000 in
set_option maxRecDepth 100000 in
theorem c_Mo_ways_n (l : Launch) (D : va_G) (tI tJ tZ : ClassId) (mo : Nat) (ml : Nat) (mz : Nat) (ms : Nat) (mt : Nat) (mb : Nat) (me : Nat) (bt : Nat) (wy : Nat) (lq : Nat) (df : Nat) (cd : Int) (op : Int) (mr : Int) (ld : Bool) (pt : Bool) (fr : Nat) (sn : Nat) (dn : Nat) (hl : ¬ ld = true) : rCl l y_Mo_ways prog_12_method_36_code 6 rm_Mo_ways_n D (tysA tI tJ tZ) [.ref mo] [(mo, .inr (10, [.int (iI cd), .ref ml, .ref mz, .ref ms, .int (iI op), .int (iI mr), .int (iI (bI (ld = true))), .int (iI (bI (pt = true))), .int (iI ((fr : Nat) : Int)), .ref mt, .int (iI ((sn : Nat) : Int)), .ref mb, .ref me, .ref bt, .ref wy, .ref lq, .ref df, .int (iI ((dn : Nat) : Int))]))] (fun zz (_ : Unit) => zz = (0 : Int64)) (fun (_ : Unit) => [(mo, .inr (10, [.int (iI 1), .ref ml, .ref mz, .ref ms, .int (iI op), .int (iI mr), .int (iI (bI (ld = true))), .int (iI (bI (pt = true))), .int (iI ((fr : Nat) : Int)), .ref mt, .int (iI ((sn : Nat) : Int)), .ref mb, .ref me, .ref bt, .ref wy, .ref lq, .ref df, .int (iI ((dn : Nat) : Int))]))]) := by
  intro sz
  refine r_met (by decide) (Nat.le_of_ble_eq_true rfl) ?_
  intro F p e s m args below meth c Q A hX hT hAe hsz hin
  subst hAe
  replace hX : rOK F p l e rm_Mo_ways_n s m args below meth c Q prog_12_method_36_code 6 "RowAlignerModel" D (tysA tI tJ tZ) _ := hX
  show F 0 [(0, .ref mo)] [] [(mo, .inr (10, [.int (iI cd), .ref ml, .ref mz, .ref ms, .int (iI op), .int (iI mr), .int (iI (bI (ld = true))), .int (iI (bI (pt = true))), .int (iI ((fr : Nat) : Int)), .ref mt, .int (iI ((sn : Nat) : Int)), .ref mb, .ref me, .ref bt, .ref wy, .ref lq, .ref df, .int (iI ((dn : Nat) : Int))]))] 0 0
  refine r_aload_n hX 0 d_Mo_ways_0 rfl ?_
  refine r_aload_n hX 0 d_Mo_ways_1 rfl ?_
  refine r_get hX cf_Mo 0 rfl 6 (by decide) fl_Mo_61 rfl d_Mo_ways_2 ?_
  refine rb_if_eq hX 12 d_Mo_ways_5 (by decide) (fun h5 => ?_) (fun h5 => by exfalso; exact hl h5)
  refine r_iconstN hX 1 d_Mo_ways_12 rfl ?_
  refine r_put hX (ws' := [(mo, .inr (10, [.int (iI ((1 : Nat) : Int)), .ref ml, .ref mz, .ref ms, .int (iI op), .int (iI mr), .int (iI (bI (ld = true))), .int (iI (bI (pt = true))), .int (iI ((fr : Nat) : Int)), .ref mt, .int (iI ((sn : Nat) : Int)), .ref mb, .ref me, .ref bt, .ref wy, .ref lq, .ref df, .int (iI ((dn : Nat) : Int))]))]) cf_Mo 0 rfl 0 (by decide) fl_Mo_52 rfl rfl rfl (Nat.le_of_ble_eq_true rfl) rfl d_Mo_ways_13 ?_
  refine r_aload_n hX 0 d_Mo_ways_16 rfl ?_
  refine r_get hX cf_Mo 0 rfl 0 (by decide) fl_Mo_52 rfl d_Mo_ways_17 ?_
  refine r_if_le hX 25 d_Mo_ways_20 (by decide) (by unfold iR; omega) (fun h20 => by exfalso; omega) (fun h20 => ?_)
  refine r_lconst hX (v := 0) d_Mo_ways_23 (by decide) ?_
  exact r_lret hX hT () rfl rfl (by decide) (by decide) d_Mo_ways_24

abbrev rm_Mo_ways_w : Room := { frames := 0, cells := 0, slots := 0, locals := 0 }
set_option maxHeartbeats 4000000 in
set_option maxRecDepth 100000 in
theorem c_Mo_ways_w (l : Launch) (D : va_G) (tI tJ tZ : ClassId) (mo : Nat) (ml : Nat) (mz : Nat) (ms : Nat) (mt : Nat) (mb : Nat) (me : Nat) (bt : Nat) (wy : Nat) (lq : Nat) (df : Nat) (cd : Int) (op : Int) (mr : Int) (ld : Bool) (pt : Bool) (fr : Nat) (sn : Nat) (dn : Nat) (K : Nat → Int64) (hl : ld = true) (hp : ¬ pt = true) : rCl l y_Mo_ways prog_12_method_36_code 6 rm_Mo_ways_w D (tysA tI tJ tZ) [.ref mo] [(mo, .inr (10, [.int (iI cd), .ref ml, .ref mz, .ref ms, .int (iI op), .int (iI mr), .int (iI (bI (ld = true))), .int (iI (bI (pt = true))), .int (iI ((fr : Nat) : Int)), .ref mt, .int (iI ((sn : Nat) : Int)), .ref mb, .ref me, .ref bt, .ref wy, .ref lq, .ref df, .int (iI ((dn : Nat) : Int))])), (wy, .inl (tJ, 28227, .inr (.inl K)))] (fun zz (_ : Unit) => zz = K 0 &&& (9223372036854775807 : Int64)) (fun (_ : Unit) => [(mo, .inr (10, [.int (iI 0), .ref ml, .ref mz, .ref ms, .int (iI op), .int (iI mr), .int (iI (bI (ld = true))), .int (iI (bI (pt = true))), .int (iI ((fr : Nat) : Int)), .ref mt, .int (iI ((sn : Nat) : Int)), .ref mb, .ref me, .ref bt, .ref wy, .ref lq, .ref df, .int (iI ((dn : Nat) : Int))])), (wy, .inl (tJ, 28227, .inr (.inl K)))]) := by
  intro sz
  refine r_met (by decide) (Nat.le_of_ble_eq_true rfl) ?_
  intro F p e s m args below meth c Q A hX hT hAe hsz hin
  subst hAe
  replace hX : rOK F p l e rm_Mo_ways_w s m args below meth c Q prog_12_method_36_code 6 "RowAlignerModel" D (tysA tI tJ tZ) _ := hX
  show F 0 [(0, .ref mo)] [] [(mo, .inr (10, [.int (iI cd), .ref ml, .ref mz, .ref ms, .int (iI op), .int (iI mr), .int (iI (bI (ld = true))), .int (iI (bI (pt = true))), .int (iI ((fr : Nat) : Int)), .ref mt, .int (iI ((sn : Nat) : Int)), .ref mb, .ref me, .ref bt, .ref wy, .ref lq, .ref df, .int (iI ((dn : Nat) : Int))])), (wy, .inl (tJ, 28227, .inr (.inl K)))] 0 0
  refine r_aload_n hX 0 d_Mo_ways_0 rfl ?_
  refine r_aload_n hX 0 d_Mo_ways_1 rfl ?_
  refine r_get hX cf_Mo 0 rfl 6 (by decide) fl_Mo_61 rfl d_Mo_ways_2 ?_
  refine rb_if_eq hX 12 d_Mo_ways_5 (by decide) (fun h5 => by exfalso; exact h5 hl) (fun h5 => ?_)
  refine r_iconstN hX 0 d_Mo_ways_8 rfl ?_
  refine r_goto hX 13 d_Mo_ways_9 (by decide) ?_
  refine r_put hX (ws' := [(mo, .inr (10, [.int (iI ((0 : Nat) : Int)), .ref ml, .ref mz, .ref ms, .int (iI op), .int (iI mr), .int (iI (bI (ld = true))), .int (iI (bI (pt = true))), .int (iI ((fr : Nat) : Int)), .ref mt, .int (iI ((sn : Nat) : Int)), .ref mb, .ref me, .ref bt, .ref wy, .ref lq, .ref df, .int (iI ((dn : Nat) : Int))])), (wy, .inl (tJ, 28227, .inr (.inl K)))]) cf_Mo 0 rfl 0 (by decide) fl_Mo_52 rfl rfl rfl (Nat.le_of_ble_eq_true rfl) rfl d_Mo_ways_13 ?_
  refine r_aload_n hX 0 d_Mo_ways_16 rfl ?_
  refine r_get hX cf_Mo 0 rfl 0 (by decide) fl_Mo_52 rfl d_Mo_ways_17 ?_
  refine r_if_le hX 25 d_Mo_ways_20 (by decide) (by unfold iR; omega) (fun h20 => ?_) (fun h20 => by exfalso; omega)
  refine r_aload_n hX 0 d_Mo_ways_25 rfl ?_
  refine r_get hX cf_Mo 0 rfl 7 (by decide) fl_Mo_76 rfl d_Mo_ways_26 ?_
  refine rb_if_ne hX 43 d_Mo_ways_29 (by decide) (fun h29 => by exfalso; exact hp h29) (fun h29 => ?_)
  refine r_aload_n hX 0 d_Mo_ways_32 rfl ?_
  refine r_get hX cf_Mo 0 rfl 14 (by decide) fl_Mo_38 rfl d_Mo_ways_33 ?_
  refine r_iconstN hX 0 d_Mo_ways_36 rfl ?_
  refine r_lald hX 1 1 rfl rfl (0) rfl (by omega) (by decide) d_Mo_ways_37 ?_
  refine r_ldc2 hX cL_Mo_129 d_Mo_ways_38 ?_
  refine r_land hX d_Mo_ways_41 ?_
  exact r_lret hX hT () rfl rfl (by decide) (by decide) d_Mo_ways_42

abbrev rm_Mo_ways_p : Room := { frames := 1, cells := 0, slots := 0, locals := 22 }
set_option maxHeartbeats 4000000 in
set_option maxRecDepth 100000 in
theorem c_Mo_ways_p (l : Launch) (D : va_G) (tI tJ tZ : ClassId) (mo : Nat) (ml : Nat) (mz : Nat) (ms : Nat) (mt : Nat) (mb : Nat) (me : Nat) (bt : Nat) (wy : Nat) (lq : Nat) (df : Nat) (cd : Int) (op : Int) (mr : Int) (ld : Bool) (pt : Bool) (fr : Nat) (sn : Nat) (dn : Nat) (Z : Nat → Nat) (T : Nat → Int) (K : Nat → Int64) (B : Nat → Nat) (hl : ld = true) (hp : pt = true) (hz0 : Z 0 ≤ 96) (hz1 : Z 1 ≤ 96) (hB : B 0 ≤ Z 0 ∧ B 1 ≤ Z 1) (hTb : ∀ i j, i ≤ Z 0 → j ≤ Z 1 → -200000000 ≤ T ((97 * i + j) * 3 + 0) ∧ T ((97 * i + j) * 3 + 0) ≤ 200000000) : rCl l y_Mo_ways prog_12_method_36_code 6 rm_Mo_ways_p D (tysA tI tJ tZ) [.ref mo] [(mo, .inr (10, [.int (iI cd), .ref ml, .ref mz, .ref ms, .int (iI op), .int (iI mr), .int (iI (bI (ld = true))), .int (iI (bI (pt = true))), .int (iI ((fr : Nat) : Int)), .ref mt, .int (iI ((sn : Nat) : Int)), .ref mb, .ref me, .ref bt, .ref wy, .ref lq, .ref df, .int (iI ((dn : Nat) : Int))])), (mz, .inl (tI, 2, .inl (iA (iN Z)))), (bt, .inl (tI, 28227, .inl (iA T))), (wy, .inl (tJ, 28227, .inr (.inl K))), (mb, .inl (tI, 2, .inl (iA (iN B))))] (fun zz (_ : Unit) => zz = ra_ma T K (T ((97 * B 0 + B 1) * 3 + 0)) (Z 1) (Z 0 + 1) 0 &&& (9223372036854775807 : Int64)) (fun (_ : Unit) => [(mo, .inr (10, [.int (iI 0), .ref ml, .ref mz, .ref ms, .int (iI op), .int (iI mr), .int (iI (bI (ld = true))), .int (iI (bI (pt = true))), .int (iI ((fr : Nat) : Int)), .ref mt, .int (iI ((sn : Nat) : Int)), .ref mb, .ref me, .ref bt, .ref wy, .ref lq, .ref df, .int (iI ((dn : Nat) : Int))])), (mz, .inl (tI, 2, .inl (iA (iN Z)))), (bt, .inl (tI, 28227, .inl (iA T))), (wy, .inl (tJ, 28227, .inr (.inl K))), (mb, .inl (tI, 2, .inl (iA (iN B))))]) := by
  intro sz
  refine r_met (by decide) (Nat.le_of_ble_eq_true rfl) ?_
  intro F p e s m args below meth c Q A hX hT hAe hsz hin
  subst hAe
  replace hX : rOK F p l e rm_Mo_ways_p s m args below meth c Q prog_12_method_36_code 6 "RowAlignerModel" D (tysA tI tJ tZ) _ := hX
  have hg := hTb (B 0) (B 1) hB.1 hB.2
  show F 0 [(0, .ref mo)] [] [(mo, .inr (10, [.int (iI cd), .ref ml, .ref mz, .ref ms, .int (iI op), .int (iI mr), .int (iI (bI (ld = true))), .int (iI (bI (pt = true))), .int (iI ((fr : Nat) : Int)), .ref mt, .int (iI ((sn : Nat) : Int)), .ref mb, .ref me, .ref bt, .ref wy, .ref lq, .ref df, .int (iI ((dn : Nat) : Int))])), (mz, .inl (tI, 2, .inl (iA (iN Z)))), (bt, .inl (tI, 28227, .inl (iA T))), (wy, .inl (tJ, 28227, .inr (.inl K))), (mb, .inl (tI, 2, .inl (iA (iN B))))] 0 0
  refine r_aload_n hX 0 d_Mo_ways_0 rfl ?_
  refine r_aload_n hX 0 d_Mo_ways_1 rfl ?_
  refine r_get hX cf_Mo 0 rfl 6 (by decide) fl_Mo_61 rfl d_Mo_ways_2 ?_
  refine rb_if_eq hX 12 d_Mo_ways_5 (by decide) (fun h5 => by exfalso; exact h5 hl) (fun h5 => ?_)
  refine r_iconstN hX 0 d_Mo_ways_8 rfl ?_
  refine r_goto hX 13 d_Mo_ways_9 (by decide) ?_
  refine r_put hX (ws' := [(mo, .inr (10, [.int (iI ((0 : Nat) : Int)), .ref ml, .ref mz, .ref ms, .int (iI op), .int (iI mr), .int (iI (bI (ld = true))), .int (iI (bI (pt = true))), .int (iI ((fr : Nat) : Int)), .ref mt, .int (iI ((sn : Nat) : Int)), .ref mb, .ref me, .ref bt, .ref wy, .ref lq, .ref df, .int (iI ((dn : Nat) : Int))])), (mz, .inl (tI, 2, .inl (iA (iN Z)))), (bt, .inl (tI, 28227, .inl (iA T))), (wy, .inl (tJ, 28227, .inr (.inl K))), (mb, .inl (tI, 2, .inl (iA (iN B))))]) cf_Mo 0 rfl 0 (by decide) fl_Mo_52 rfl rfl rfl (Nat.le_of_ble_eq_true rfl) rfl d_Mo_ways_13 ?_
  refine r_aload_n hX 0 d_Mo_ways_16 rfl ?_
  refine r_get hX cf_Mo 0 rfl 0 (by decide) fl_Mo_52 rfl d_Mo_ways_17 ?_
  refine r_if_le hX 25 d_Mo_ways_20 (by decide) (by unfold iR; omega) (fun h20 => ?_) (fun h20 => by exfalso; omega)
  refine r_aload_n hX 0 d_Mo_ways_25 rfl ?_
  refine r_get hX cf_Mo 0 rfl 7 (by decide) fl_Mo_76 rfl d_Mo_ways_26 ?_
  refine rb_if_ne hX 43 d_Mo_ways_29 (by decide) (fun h29 => ?_) (fun h29 => by exfalso; exact h29 hp)
  refine r_aload_n hX 0 d_Mo_ways_43 rfl ?_
  refine r_get hX cf_Mo 0 rfl 13 (by decide) fl_Mo_35 rfl d_Mo_ways_44 ?_
  refine r_aload_n hX 0 d_Mo_ways_47 rfl ?_
  refine r_get hX cf_Mo 0 rfl 11 (by decide) fl_Mo_29 rfl d_Mo_ways_48 ?_
  refine r_iconstN hX 0 d_Mo_ways_51 rfl ?_
  refine r_ialdN hX 4 0 rfl rfl (0) rfl (by omega) (by decide) d_Mo_ways_52 ?_
  refine r_aload_n hX 0 d_Mo_ways_53 rfl ?_
  refine r_get hX cf_Mo 0 rfl 11 (by decide) fl_Mo_29 rfl d_Mo_ways_54 ?_
  refine r_iconstN hX 1 d_Mo_ways_57 rfl ?_
  refine r_ialdN hX 4 0 rfl rfl (1) rfl (by omega) (by decide) d_Mo_ways_58 ?_
  refine r_iconstN hX 0 d_Mo_ways_59 rfl ?_
  refine r_invS_i0 (st := [.ref bt]) (As := [.int (iI ((B 0 : Nat) : Int)), .int (iI ((B 1 : Nat) : Int)), .int (iI ((0 : Nat) : Int))]) (wr := [(mo, .inr (10, [.int (iI ((0 : Nat) : Int)), .ref ml, .ref mz, .ref ms, .int (iI op), .int (iI mr), .int (iI (bI (ld = true))), .int (iI (bI (pt = true))), .int (iI ((fr : Nat) : Int)), .ref mt, .int (iI ((sn : Nat) : Int)), .ref mb, .ref me, .ref bt, .ref wy, .ref lq, .ref df, .int (iI ((dn : Nat) : Int))])), (mz, .inl (tI, 2, .inl (iA (iN Z)))), (bt, .inl (tI, 28227, .inl (iA T))), (wy, .inl (tJ, 28227, .inr (.inl K))), (mb, .inl (tI, 2, .inl (iA (iN B))))]) hX (c_Mo_at l D tI tJ tZ (B 0) (B 1) 0) yn_Mo_at ml_Mo_72 st_Mo_at co_Mo_at in_Mo (by decide) (by decide) (by decide) [] [0, 1, 2, 3, 4] rfl rfl rfl rfl rfl (by decide) rfl rfl (Nat.le_of_ble_eq_true rfl) d_Mo_ways_60 [0, 1, 2, 3, 4] rfl (w2 := fun _ => [(mo, .inr (10, [.int (iI ((0 : Nat) : Int)), .ref ml, .ref mz, .ref ms, .int (iI op), .int (iI mr), .int (iI (bI (ld = true))), .int (iI (bI (pt = true))), .int (iI ((fr : Nat) : Int)), .ref mt, .int (iI ((sn : Nat) : Int)), .ref mb, .ref me, .ref bt, .ref wy, .ref lq, .ref df, .int (iI ((dn : Nat) : Int))])), (mz, .inl (tI, 2, .inl (iA (iN Z)))), (bt, .inl (tI, 28227, .inl (iA T))), (wy, .inl (tJ, 28227, .inr (.inl K))), (mb, .inl (tI, 2, .inl (iA (iN B))))]) (fun _ => rfl) (fun r60 _ e60 => ?_)
  subst e60
  refine r_iald hX 2 0 rfl rfl ((97 * (B 0) + (B 1)) * 3 + 0) rfl (by omega) (by decide) d_Mo_ways_63 ?_
  refine r_istore_n hX (lv' := [(1, .int (iI (T ((97 * (B 0) + (B 1)) * 3 + 0)))), (0, .ref mo)]) d_Mo_ways_64 rfl (by decide) rfl ?_
  refine r_lconst hX (v := 0) d_Mo_ways_65 (by decide) ?_
  refine r_lstore_n hX (lv' := [(2, .long ((0 : Int64))), (1, .int (iI (T ((97 * (B 0) + (B 1)) * 3 + 0)))), (0, .ref mo)]) d_Mo_ways_66 rfl (by decide) rfl ?_
  refine r_eq (lv2 := [(2, .long (ra_ma T K (T ((97 * B 0 + B 1) * 3 + 0)) (Z 1) 0 0)), (1, .int (iI (T ((97 * (B 0) + (B 1)) * 3 + 0)))), (0, .ref mo)]) (st2 := []) (ws2 := [(mo, .inr (10, [.int (iI ((0 : Nat) : Int)), .ref ml, .ref mz, .ref ms, .int (iI op), .int (iI mr), .int (iI (bI (ld = true))), .int (iI (bI (pt = true))), .int (iI ((fr : Nat) : Int)), .ref mt, .int (iI ((sn : Nat) : Int)), .ref mb, .ref me, .ref bt, .ref wy, .ref lq, .ref df, .int (iI ((dn : Nat) : Int))])), (mz, .inl (tI, 2, .inl (iA (iN Z)))), (bt, .inl (tI, 28227, .inl (iA T))), (wy, .inl (tJ, 28227, .inr (.inl K))), (mb, .inl (tI, 2, .inl (iA (iN B))))]) rfl rfl rfl ?_
  refine r_iconstN hX 0 d_Mo_ways_67 rfl ?_
  refine r_istore hX (lv' := [(4, .int (iI ((0 : Nat) : Int))), (2, .long (ra_ma T K (T ((97 * B 0 + B 1) * 3 + 0)) (Z 1) 0 0)), (1, .int (iI (T ((97 * (B 0) + (B 1)) * 3 + 0)))), (0, .ref mo)]) d_Mo_ways_68 (by decide) rfl ?_
  have L70 : ∀ (dd : Nat) (ii : Nat), Z 0 + 1 - ii = dd → (ii ≤ Z 0 + 1) → F 70 [(4, .int (iI ((ii : Nat) : Int))), (2, .long (ra_ma T K (T ((97 * B 0 + B 1) * 3 + 0)) (Z 1) ii 0)), (1, .int (iI (T ((97 * B 0 + B 1) * 3 + 0)))), (0, .ref mo)] [] [(mo, .inr (10, [.int (iI 0), .ref ml, .ref mz, .ref ms, .int (iI op), .int (iI mr), .int (iI (bI (ld = true))), .int (iI (bI (pt = true))), .int (iI ((fr : Nat) : Int)), .ref mt, .int (iI ((sn : Nat) : Int)), .ref mb, .ref me, .ref bt, .ref wy, .ref lq, .ref df, .int (iI ((dn : Nat) : Int))])), (mz, .inl (tI, 2, .inl (iA (iN Z)))), (bt, .inl (tI, 28227, .inl (iA T))), (wy, .inl (tJ, 28227, .inr (.inl K))), (mb, .inl (tI, 2, .inl (iA (iN B))))] 0 0 := by
    intro dd
    induction dd using Nat.strongRecOn with
    | _ dd ih70 =>
      intro ii hmu70 hii
      refine r_iload hX 0 d_Mo_ways_70 rfl ?_
      refine r_aload_n hX 3 d_Mo_ways_72 rfl ?_
      refine r_get hX cf_Mo 0 rfl 2 (by decide) fl_Mo_13 rfl d_Mo_ways_73 ?_
      refine r_iconstN hX 0 d_Mo_ways_76 rfl ?_
      refine r_ialdN hX 1 0 rfl rfl (0) rfl (by omega) (by decide) d_Mo_ways_77 ?_
      refine r_icmp_gt hX 144 d_Mo_ways_78 (by decide) (by unfold iR; omega) (by unfold iR; omega) (fun h78 => ?_) (fun h78 => ?_)
      · refine r_lload_n hX 1 d_Mo_ways_144 rfl ?_
        refine r_ldc2 hX cL_Mo_129 d_Mo_ways_145 ?_
        refine r_land hX d_Mo_ways_148 ?_
        exact r_lret hX hT () (by rw [show ii = Z 0 + 1 by omega]) rfl (by decide) (by decide) d_Mo_ways_149
      · refine r_iconstN hX 0 d_Mo_ways_81 rfl ?_
        refine r_istore hX (lv' := [(5, .int (iI ((0 : Nat) : Int))), (4, .int (iI ((ii : Nat) : Int))), (2, .long (ra_ma T K (T ((97 * B 0 + B 1) * 3 + 0)) (Z 1) ii 0)), (1, .int (iI (T ((97 * B 0 + B 1) * 3 + 0)))), (0, .ref mo)]) d_Mo_ways_82 (by decide) rfl ?_
        have L84 : ∀ (dd : Nat) (jj : Nat), Z 1 + 1 - jj = dd → (jj ≤ Z 1 + 1) → F 84 [(5, .int (iI ((jj : Nat) : Int))), (4, .int (iI ((ii : Nat) : Int))), (2, .long (ra_ma T K (T ((97 * B 0 + B 1) * 3 + 0)) (Z 1) ii jj)), (1, .int (iI (T ((97 * B 0 + B 1) * 3 + 0)))), (0, .ref mo)] [] [(mo, .inr (10, [.int (iI 0), .ref ml, .ref mz, .ref ms, .int (iI op), .int (iI mr), .int (iI (bI (ld = true))), .int (iI (bI (pt = true))), .int (iI ((fr : Nat) : Int)), .ref mt, .int (iI ((sn : Nat) : Int)), .ref mb, .ref me, .ref bt, .ref wy, .ref lq, .ref df, .int (iI ((dn : Nat) : Int))])), (mz, .inl (tI, 2, .inl (iA (iN Z)))), (bt, .inl (tI, 28227, .inl (iA T))), (wy, .inl (tJ, 28227, .inr (.inl K))), (mb, .inl (tI, 2, .inl (iA (iN B))))] 0 0 := by
          intro dd
          induction dd using Nat.strongRecOn with
          | _ dd ih84 =>
            intro jj hmu84 hjj
            refine r_iload hX 0 d_Mo_ways_84 rfl ?_
            refine r_aload_n hX 4 d_Mo_ways_86 rfl ?_
            refine r_get hX cf_Mo 0 rfl 2 (by decide) fl_Mo_13 rfl d_Mo_ways_87 ?_
            refine r_iconstN hX 1 d_Mo_ways_90 rfl ?_
            refine r_ialdN hX 1 0 rfl rfl (1) rfl (by omega) (by decide) d_Mo_ways_91 ?_
            refine r_icmp_gt hX 138 d_Mo_ways_92 (by decide) (by unfold iR; omega) (by unfold iR; omega) (fun h92 => ?_) (fun h92 => ?_)
            · refine r_iincN hX (lv' := [(4, .int (iI ((ii + 1 : Nat) : Int))), (5, .int (iI ((jj : Nat) : Int))), (2, .long (ra_ma T K (T ((97 * B 0 + B 1) * 3 + 0)) (Z 1) ii jj)), (1, .int (iI (T ((97 * B 0 + B 1) * 3 + 0)))), (0, .ref mo)]) 1 d_Mo_ways_138 rfl (by decide) rfl ?_
              refine r_goto hX 70 d_Mo_ways_141 (by decide) ?_
              refine r_lv hX (lv' := [(4, .int (iI ((ii + 1 : Nat) : Int))), (2, .long (ra_ma T K (T ((97 * B 0 + B 1) * 3 + 0)) (Z 1) ii jj)), (1, .int (iI (T ((97 * B 0 + B 1) * 3 + 0)))), (0, .ref mo)]) [0, 2, 3, 4] rfl ?_
              refine r_eq (lv2 := [(4, .int (iI ((ii + 1 : Nat) : Int))), (2, .long (ra_ma T K (T ((97 * B 0 + B 1) * 3 + 0)) (Z 1) (ii + 1) 0)), (1, .int (iI (T ((97 * B 0 + B 1) * 3 + 0)))), (0, .ref mo)]) (st2 := []) (ws2 := [(mo, .inr (10, [.int (iI 0), .ref ml, .ref mz, .ref ms, .int (iI op), .int (iI mr), .int (iI (bI (ld = true))), .int (iI (bI (pt = true))), .int (iI ((fr : Nat) : Int)), .ref mt, .int (iI ((sn : Nat) : Int)), .ref mb, .ref me, .ref bt, .ref wy, .ref lq, .ref df, .int (iI ((dn : Nat) : Int))])), (mz, .inl (tI, 2, .inl (iA (iN Z)))), (bt, .inl (tI, 28227, .inl (iA T))), (wy, .inl (tJ, 28227, .inr (.inl K))), (mb, .inl (tI, 2, .inl (iA (iN B))))]) (by rw [show jj = Z 1 + 1 by omega, ra_ma_row]) rfl rfl ?_
              exact ih70 _ (by omega) (ii + 1) rfl (by omega)
            · have hb1 := hTb ii jj (by omega) (by omega)
              refine r_aload_n hX 4 d_Mo_ways_95 rfl ?_
              refine r_get hX cf_Mo 0 rfl 13 (by decide) fl_Mo_35 rfl d_Mo_ways_96 ?_
              refine r_iload hX 1 d_Mo_ways_99 rfl ?_
              refine r_iload hX 0 d_Mo_ways_101 rfl ?_
              refine r_iconstN hX 0 d_Mo_ways_103 rfl ?_
              refine r_invS_i0 (st := [.ref bt]) (As := [.int (iI ((ii : Nat) : Int)), .int (iI ((jj : Nat) : Int)), .int (iI ((0 : Nat) : Int))]) (wr := [(mo, .inr (10, [.int (iI 0), .ref ml, .ref mz, .ref ms, .int (iI op), .int (iI mr), .int (iI (bI (ld = true))), .int (iI (bI (pt = true))), .int (iI ((fr : Nat) : Int)), .ref mt, .int (iI ((sn : Nat) : Int)), .ref mb, .ref me, .ref bt, .ref wy, .ref lq, .ref df, .int (iI ((dn : Nat) : Int))])), (mz, .inl (tI, 2, .inl (iA (iN Z)))), (bt, .inl (tI, 28227, .inl (iA T))), (wy, .inl (tJ, 28227, .inr (.inl K))), (mb, .inl (tI, 2, .inl (iA (iN B))))]) hX (c_Mo_at l D tI tJ tZ ii jj 0) yn_Mo_at ml_Mo_72 st_Mo_at co_Mo_at in_Mo (by decide) (by decide) (by decide) [] [0, 1, 2, 3, 4] rfl rfl rfl rfl rfl (by decide) rfl rfl (Nat.le_of_ble_eq_true rfl) d_Mo_ways_104 [0, 1, 2, 3, 4] rfl (w2 := fun _ => [(mo, .inr (10, [.int (iI 0), .ref ml, .ref mz, .ref ms, .int (iI op), .int (iI mr), .int (iI (bI (ld = true))), .int (iI (bI (pt = true))), .int (iI ((fr : Nat) : Int)), .ref mt, .int (iI ((sn : Nat) : Int)), .ref mb, .ref me, .ref bt, .ref wy, .ref lq, .ref df, .int (iI ((dn : Nat) : Int))])), (mz, .inl (tI, 2, .inl (iA (iN Z)))), (bt, .inl (tI, 28227, .inl (iA T))), (wy, .inl (tJ, 28227, .inr (.inl K))), (mb, .inl (tI, 2, .inl (iA (iN B))))]) (fun _ => rfl) (fun r104 _ e104 => ?_)
              subst e104
              refine r_iald hX 2 0 rfl rfl ((97 * ii + jj) * 3 + 0) rfl (by omega) (by decide) d_Mo_ways_107 ?_
              refine r_iload_n hX 3 d_Mo_ways_108 rfl ?_
              have J131 : F 131 [(5, .int (iI ((jj : Nat) : Int))), (4, .int (iI ((ii : Nat) : Int))), (2, .long (ra_ma T K (T ((97 * B 0 + B 1) * 3 + 0)) (Z 1) ii jj)), (1, .int (iI (T ((97 * B 0 + B 1) * 3 + 0)))), (0, .ref mo)] [.long (ra_ma T K (T ((97 * B 0 + B 1) * 3 + 0)) (Z 1) ii (jj + 1))] [(mo, .inr (10, [.int (iI 0), .ref ml, .ref mz, .ref ms, .int (iI op), .int (iI mr), .int (iI (bI (ld = true))), .int (iI (bI (pt = true))), .int (iI ((fr : Nat) : Int)), .ref mt, .int (iI ((sn : Nat) : Int)), .ref mb, .ref me, .ref bt, .ref wy, .ref lq, .ref df, .int (iI ((dn : Nat) : Int))])), (mz, .inl (tI, 2, .inl (iA (iN Z)))), (bt, .inl (tI, 28227, .inl (iA T))), (wy, .inl (tJ, 28227, .inr (.inl K))), (mb, .inl (tI, 2, .inl (iA (iN B))))] 0 0 := by
                refine r_lstore_n hX (lv' := [(2, .long (ra_ma T K (T ((97 * B 0 + B 1) * 3 + 0)) (Z 1) ii (jj + 1))), (5, .int (iI ((jj : Nat) : Int))), (4, .int (iI ((ii : Nat) : Int))), (1, .int (iI (T ((97 * B 0 + B 1) * 3 + 0)))), (0, .ref mo)]) d_Mo_ways_131 rfl (by decide) rfl ?_
                refine r_iincN hX (lv' := [(5, .int (iI ((jj + 1 : Nat) : Int))), (2, .long (ra_ma T K (T ((97 * B 0 + B 1) * 3 + 0)) (Z 1) ii (jj + 1))), (4, .int (iI ((ii : Nat) : Int))), (1, .int (iI (T ((97 * B 0 + B 1) * 3 + 0)))), (0, .ref mo)]) 1 d_Mo_ways_132 rfl (by decide) rfl ?_
                refine r_goto hX 84 d_Mo_ways_135 (by decide) ?_
                refine r_lv hX (lv' := [(5, .int (iI ((jj + 1 : Nat) : Int))), (4, .int (iI ((ii : Nat) : Int))), (2, .long (ra_ma T K (T ((97 * B 0 + B 1) * 3 + 0)) (Z 1) ii (jj + 1))), (1, .int (iI (T ((97 * B 0 + B 1) * 3 + 0)))), (0, .ref mo)]) [0, 2, 1, 3, 4] rfl ?_
                exact ih84 _ (by omega) (jj + 1) rfl (by omega)
              refine r_icmp_ne hX 130 d_Mo_ways_109 (by decide) (by unfold iR; omega) (by unfold iR; omega) (fun h109 => ?_) (fun h109 => ?_)
              · refine r_lload_n hX 2 d_Mo_ways_130 rfl ?_
                exact r_topl (by first | exact ra_ma_t h109 | exact ra_ma_f h109) J131
              · refine r_lload_n hX 2 d_Mo_ways_112 rfl ?_
                refine r_aload_n hX 4 d_Mo_ways_113 rfl ?_
                refine r_get hX cf_Mo 0 rfl 14 (by decide) fl_Mo_38 rfl d_Mo_ways_114 ?_
                refine r_iload hX 1 d_Mo_ways_117 rfl ?_
                refine r_iload hX 0 d_Mo_ways_119 rfl ?_
                refine r_iconstN hX 0 d_Mo_ways_121 rfl ?_
                refine r_invS_i0 (st := [.ref wy, .long (ra_ma T K (T ((97 * B 0 + B 1) * 3 + 0)) (Z 1) ii jj)]) (As := [.int (iI ((ii : Nat) : Int)), .int (iI ((jj : Nat) : Int)), .int (iI ((0 : Nat) : Int))]) (wr := [(mo, .inr (10, [.int (iI 0), .ref ml, .ref mz, .ref ms, .int (iI op), .int (iI mr), .int (iI (bI (ld = true))), .int (iI (bI (pt = true))), .int (iI ((fr : Nat) : Int)), .ref mt, .int (iI ((sn : Nat) : Int)), .ref mb, .ref me, .ref bt, .ref wy, .ref lq, .ref df, .int (iI ((dn : Nat) : Int))])), (mz, .inl (tI, 2, .inl (iA (iN Z)))), (bt, .inl (tI, 28227, .inl (iA T))), (wy, .inl (tJ, 28227, .inr (.inl K))), (mb, .inl (tI, 2, .inl (iA (iN B))))]) hX (c_Mo_at l D tI tJ tZ ii jj 0) yn_Mo_at ml_Mo_72 st_Mo_at co_Mo_at in_Mo (by decide) (by decide) (by decide) [] [0, 1, 2, 3, 4] rfl rfl rfl rfl rfl (by decide) rfl rfl (Nat.le_of_ble_eq_true rfl) d_Mo_ways_122 [0, 1, 2, 3, 4] rfl (w2 := fun _ => [(mo, .inr (10, [.int (iI 0), .ref ml, .ref mz, .ref ms, .int (iI op), .int (iI mr), .int (iI (bI (ld = true))), .int (iI (bI (pt = true))), .int (iI ((fr : Nat) : Int)), .ref mt, .int (iI ((sn : Nat) : Int)), .ref mb, .ref me, .ref bt, .ref wy, .ref lq, .ref df, .int (iI ((dn : Nat) : Int))])), (mz, .inl (tI, 2, .inl (iA (iN Z)))), (bt, .inl (tI, 28227, .inl (iA T))), (wy, .inl (tJ, 28227, .inr (.inl K))), (mb, .inl (tI, 2, .inl (iA (iN B))))]) (fun _ => rfl) (fun r122 _ e122 => ?_)
                subst e122
                refine r_lald hX 3 1 rfl rfl ((97 * ii + jj) * 3 + 0) rfl (by omega) (by decide) d_Mo_ways_125 ?_
                refine r_ladd hX d_Mo_ways_126 ?_
                refine r_goto hX 131 d_Mo_ways_127 (by decide) ?_
                exact r_topl (by first | exact ra_ma_t h109 | exact ra_ma_f h109) J131
        exact L84 _ 0 rfl (by omega)
  refine r_eq (lv2 := [(4, .int (iI ((0 : Nat) : Int))), (2, .long (ra_ma T K (T ((97 * B 0 + B 1) * 3 + 0)) (Z 1) 0 0)), (1, .int (iI (T ((97 * B 0 + B 1) * 3 + 0)))), (0, .ref mo)]) (st2 := []) (ws2 := [(mo, .inr (10, [.int (iI 0), .ref ml, .ref mz, .ref ms, .int (iI op), .int (iI mr), .int (iI (bI (ld = true))), .int (iI (bI (pt = true))), .int (iI ((fr : Nat) : Int)), .ref mt, .int (iI ((sn : Nat) : Int)), .ref mb, .ref me, .ref bt, .ref wy, .ref lq, .ref df, .int (iI ((dn : Nat) : Int))])), (mz, .inl (tI, 2, .inl (iA (iN Z)))), (bt, .inl (tI, 28227, .inl (iA T))), (wy, .inl (tJ, 28227, .inr (.inl K))), (mb, .inl (tI, 2, .inl (iA (iN B))))]) rfl rfl rfl ?_
  exact L70 _ 0 rfl (by omega)
