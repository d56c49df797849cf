abbrev rm_La_beginsRun : Room := { frames := 0, cells := 0, slots := 0, locals := 0 }
set_option maxHeartbeats 4000000 in
set_option maxRecDepth 100000 in
theorem c_La_beginsRun (l : Launch) (D : va_G) (tI tJ tZ : ClassId) (ly : Nat) (st9 : Nat) (ln : Nat) (sa : Nat) (sb : Nat) (ea : Nat) (eb : Nat) (d : Nat → Nat) (k : Nat) (hk : k < 192) (hd : ∀ t, d t < 3) : rCi l y_La_beginsRun prog_5_method_3_code 2 .boolean rm_La_beginsRun D (tysA tI tJ tZ) [.ref ly, .int (iI ((k : Nat) : Int))] [(ly, .inr (6, [.ref st9, .int (iI ((ln : Nat) : Int)), .int (iI ((sa : Nat) : Int)), .int (iI ((sb : Nat) : Int)), .int (iI ((ea : Nat) : Int)), .int (iI ((eb : Nat) : Int))])), (st9, .inl (tI, 192, .inl (iA (iN d))))] (fun zz (_ : Unit) => zz = iI (bI (ra_bg d k))) (fun (_ : Unit) => [(ly, .inr (6, [.ref st9, .int (iI ((ln : Nat) : Int)), .int (iI ((sa : Nat) : Int)), .int (iI ((sb : Nat) : Int)), .int (iI ((ea : Nat) : Int)), .int (iI ((eb : Nat) : Int))])), (st9, .inl (tI, 192, .inl (iA (iN d))))]) := by
  intro sz
  refine r_met (by decide) (Nat.le_of_ble_eq_true rfl) ?_
  intro F p e s m args below meth c Q A hX hT hAe hsz hin
  subst hAe
  replace hX : rOK F p l e rm_La_beginsRun s m args below meth c Q prog_5_method_3_code 2 "RowAligner$Laying" D (tysA tI tJ tZ) _ := hX
  show F 0 [(0, .ref ly), (1, .int (iI ((k : Nat) : Int)))] [] [(ly, .inr (6, [.ref st9, .int (iI ((ln : Nat) : Int)), .int (iI ((sa : Nat) : Int)), .int (iI ((sb : Nat) : Int)), .int (iI ((ea : Nat) : Int)), .int (iI ((eb : Nat) : Int))])), (st9, .inl (tI, 192, .inl (iA (iN d))))] 0 0
  refine r_iload_n hX 1 d_La_beginsRun_0 rfl ?_
  have J26 : F 26 [(0, .ref ly), (1, .int (iI ((k : Nat) : Int)))] [.int (iI (bI (ra_bg d k)))] [(ly, .inr (6, [.ref st9, .int (iI ((ln : Nat) : Int)), .int (iI ((sa : Nat) : Int)), .int (iI ((sb : Nat) : Int)), .int (iI ((ea : Nat) : Int)), .int (iI ((eb : Nat) : Int))])), (st9, .inl (tI, 192, .inl (iA (iN d))))] 0 0 := by
    exact r_zret hX hT (bI_01 _) () rfl rfl (by decide) (by decide) d_La_beginsRun_26
  refine r_if_eq hX 21 d_La_beginsRun_1 (by decide) (by unfold iR; omega) (fun h1 => ?_) (fun h1 => ?_)
  · refine r_iconstN hX 1 d_La_beginsRun_21 rfl ?_
    refine r_goto hX 26 d_La_beginsRun_22 (by decide) ?_
    exact rj_1 (by first | exact Or.inl (by omega) | exact Or.inr (by omega) | (rintro (q | q) <;> omega)) J26
  · refine r_aload_n hX 0 d_La_beginsRun_4 rfl ?_
    refine r_get hX cf_La 0 rfl 0 (by decide) fl_La_9 rfl d_La_beginsRun_5 ?_
    refine r_iload_n hX 1 d_La_beginsRun_8 rfl ?_
    refine r_ialdN hX 1 0 rfl rfl (k) rfl (by omega) (by decide) d_La_beginsRun_9 ?_
    refine r_aload_n hX 0 d_La_beginsRun_10 rfl ?_
    refine r_get hX cf_La 0 rfl 0 (by decide) fl_La_9 rfl d_La_beginsRun_11 ?_
    refine r_iload_n hX 1 d_La_beginsRun_14 rfl ?_
    refine r_iconstN hX 1 d_La_beginsRun_15 rfl ?_
    refine r_isub hX d_La_beginsRun_16 ?_
    refine r_ialdN hX 1 0 rfl rfl (k - 1) (by omega) (by omega) (by decide) d_La_beginsRun_17 ?_
    have hd1 := hd k
    have hd2 := hd (k - 1)
    refine r_icmp_eq hX 25 d_La_beginsRun_18 (by decide) (by unfold iR; omega) (by unfold iR; omega) (fun h18 => ?_) (fun h18 => ?_)
    · refine r_iconstN hX 0 d_La_beginsRun_25 rfl ?_
      exact rj_0 (by first | exact Or.inl (by omega) | exact Or.inr (by omega) | (rintro (q | q) <;> omega)) J26
    · refine r_iconstN hX 1 d_La_beginsRun_21 rfl ?_
      refine r_goto hX 26 d_La_beginsRun_22 (by decide) ?_
      exact rj_1 (by first | exact Or.inl (by omega) | exact Or.inr (by omega) | (rintro (q | q) <;> omega)) J26

abbrev rm_La_countRuns : Room := { frames := 1, cells := 0, slots := 0, locals := 21 }
set_option maxHeartbeats 4000000 in
set_option maxRecDepth 100000 in
theorem c_La_countRuns (l : Launch) (D : va_G) (tI tJ tZ : ClassId) (ly : Nat) (st9 : Nat) (ln : Nat) (sa : Nat) (sb : Nat) (ea : Nat) (eb : Nat) (d : Nat → Nat) (hln : ln ≤ 192) (hd : ∀ t, d t < 3) : rCi l y_La_countRuns prog_5_method_4_code 3 .int rm_La_countRuns D (tysA tI tJ tZ) [.ref ly] [(ly, .inr (6, [.ref st9, .int (iI ((ln : Nat) : Int)), .int (iI ((sa : Nat) : Int)), .int (iI ((sb : Nat) : Int)), .int (iI ((ea : Nat) : Int)), .int (iI ((eb : Nat) : Int))])), (st9, .inl (tI, 192, .inl (iA (iN d))))] (fun zz (_ : Unit) => zz = iI (((ra_cr d ln : Nat) : Int))) (fun (_ : Unit) => [(ly, .inr (6, [.ref st9, .int (iI ((ln : Nat) : Int)), .int (iI ((sa : Nat) : Int)), .int (iI ((sb : Nat) : Int)), .int (iI ((ea : Nat) : Int)), .int (iI ((eb : Nat) : Int))])), (st9, .inl (tI, 192, .inl (iA (iN d))))]) := by
  intro sz
  refine r_met (by decide) (Nat.le_of_ble_eq_true rfl) ?_
  intro F p e s m args below meth c Q A hX hT hAe hsz hin
  subst hAe
  replace hX : rOK F p l e rm_La_countRuns s m args below meth c Q prog_5_method_4_code 3 "RowAligner$Laying" D (tysA tI tJ tZ) _ := hX
  show F 0 [(0, .ref ly)] [] [(ly, .inr (6, [.ref st9, .int (iI ((ln : Nat) : Int)), .int (iI ((sa : Nat) : Int)), .int (iI ((sb : Nat) : Int)), .int (iI ((ea : Nat) : Int)), .int (iI ((eb : Nat) : Int))])), (st9, .inl (tI, 192, .inl (iA (iN d))))] 0 0
  refine r_iconstN hX 0 d_La_countRuns_0 rfl ?_
  refine r_istore_n hX (lv' := [(1, .int (iI ((0 : Nat) : Int))), (0, .ref ly)]) d_La_countRuns_1 rfl (by decide) rfl ?_
  refine r_iconstN hX 0 d_La_countRuns_2 rfl ?_
  refine r_istore_n hX (lv' := [(2, .int (iI ((0 : Nat) : Int))), (1, .int (iI ((0 : Nat) : Int))), (0, .ref ly)]) d_La_countRuns_3 rfl (by decide) rfl ?_
  have L4 : ∀ (dd : Nat) (k : Nat), ln - k = dd → (k ≤ ln) → F 4 [(2, .int (iI ((k : Nat) : Int))), (1, .int (iI ((ra_cr d k : Nat) : Int))), (0, .ref ly)] [] [(ly, .inr (6, [.ref st9, .int (iI ((ln : Nat) : Int)), .int (iI ((sa : Nat) : Int)), .int (iI ((sb : Nat) : Int)), .int (iI ((ea : Nat) : Int)), .int (iI ((eb : Nat) : Int))])), (st9, .inl (tI, 192, .inl (iA (iN d))))] 0 0 := by
    intro dd
    induction dd using Nat.strongRecOn with
    | _ dd ih4 =>
      intro k hmu4 hk
      refine r_iload_n hX 0 d_La_countRuns_4 rfl ?_
      refine r_aload_n hX 2 d_La_countRuns_5 rfl ?_
      refine r_get hX cf_La 0 rfl 1 (by decide) fl_La_32 rfl d_La_countRuns_6 ?_
      refine r_icmp_ge hX 34 d_La_countRuns_9 (by decide) (by unfold iR; omega) (by unfold iR; omega) (fun h9 => ?_) (fun h9 => ?_)
      · refine r_iload_n hX 1 d_La_countRuns_34 rfl ?_
        exact r_iret hX hT () (congrArg iI (by rw [show k = ln by omega])) rfl (by decide) (by decide) d_La_countRuns_35
      · refine r_iload_n hX 1 d_La_countRuns_12 rfl ?_
        refine r_aload_n hX 2 d_La_countRuns_13 rfl ?_
        refine r_iload_n hX 0 d_La_countRuns_14 rfl ?_
        refine r_invV_i0 (st := [.int (iI ((ra_cr d k : Nat) : Int))]) (As := [.int (iI ((k : Nat) : Int))]) (wr := []) hX (c_La_beginsRun l D tI tJ tZ ly st9 ln sa sb ea eb d k (by omega) hd) "RowAligner$Laying" 0 6 cf_La rfl yn_La_beginsRun ml_La_55 im_La_beginsRun se_La_beginsRun co_La_beginsRun in_La (by decide) (by decide) (by decide) [0, 1] [] rfl rfl rfl rfl rfl (by decide) rfl rfl (Nat.le_of_ble_eq_true rfl) d_La_countRuns_15 [0, 1] rfl (w2 := fun _ => [(ly, .inr (6, [.ref st9, .int (iI ((ln : Nat) : Int)), .int (iI ((sa : Nat) : Int)), .int (iI ((sb : Nat) : Int)), .int (iI ((ea : Nat) : Int)), .int (iI ((eb : Nat) : Int))])), (st9, .inl (tI, 192, .inl (iA (iN d))))]) (fun _ => rfl) (fun r15 _ e15 => ?_)
        subst e15
        have J26 : F 26 [(2, .int (iI ((k : Nat) : Int))), (1, .int (iI ((ra_cr d k : Nat) : Int))), (0, .ref ly)] [.int (iI (((if ra_bg d k then 1 else 0) : Nat) : Int)), .int (iI ((ra_cr d k : Nat) : Int))] [(ly, .inr (6, [.ref st9, .int (iI ((ln : Nat) : Int)), .int (iI ((sa : Nat) : Int)), .int (iI ((sb : Nat) : Int)), .int (iI ((ea : Nat) : Int)), .int (iI ((eb : Nat) : Int))])), (st9, .inl (tI, 192, .inl (iA (iN d))))] 0 0 := by
          refine r_iaddN hX d_La_countRuns_26 ?_
          refine r_istore_n hX (lv' := [(1, .int (iI ((ra_cr d k + ((if ra_bg d k then 1 else 0)) : Nat) : Int))), (2, .int (iI ((k : Nat) : Int))), (0, .ref ly)]) d_La_countRuns_27 rfl (by decide) rfl ?_
          refine r_iincN hX (lv' := [(2, .int (iI ((k + 1 : Nat) : Int))), (1, .int (iI ((ra_cr d k + ((if ra_bg d k then 1 else 0)) : Nat) : Int))), (0, .ref ly)]) 1 d_La_countRuns_28 rfl (by decide) rfl ?_
          refine r_goto hX 4 d_La_countRuns_31 (by decide) ?_
          refine r_eq (lv2 := [(2, .int (iI ((k + 1 : Nat) : Int))), (1, .int (iI ((ra_cr d (k + 1) : Nat) : Int))), (0, .ref ly)]) (st2 := []) (ws2 := [(ly, .inr (6, [.ref st9, .int (iI ((ln : Nat) : Int)), .int (iI ((sa : Nat) : Int)), .int (iI ((sb : Nat) : Int)), .int (iI ((ea : Nat) : Int)), .int (iI ((eb : Nat) : Int))])), (st9, .inl (tI, 192, .inl (iA (iN d))))]) rfl rfl rfl ?_
          exact ih4 _ (by omega) (k + 1) rfl (by omega)
        refine rb_if_eq hX 25 d_La_countRuns_18 (by decide) (fun h18 => ?_) (fun h18 => ?_)
        · refine r_iconstN hX 0 d_La_countRuns_25 rfl ?_
          exact rj_e (by first | (rw [if_pos h18]) | (rw [if_neg h18])) J26
        · refine r_iconstN hX 1 d_La_countRuns_21 rfl ?_
          refine r_goto hX 26 d_La_countRuns_22 (by decide) ?_
          exact rj_e (by first | (rw [if_pos h18]) | (rw [if_neg h18])) J26
  refine r_eq (lv2 := [(2, .int (iI ((0 : Nat) : Int))), (1, .int (iI ((ra_cr d 0 : Nat) : Int))), (0, .ref ly)]) (st2 := []) (ws2 := [(ly, .inr (6, [.ref st9, .int (iI ((ln : Nat) : Int)), .int (iI ((sa : Nat) : Int)), .int (iI ((sb : Nat) : Int)), .int (iI ((ea : Nat) : Int)), .int (iI ((eb : Nat) : Int))])), (st9, .inl (tI, 192, .inl (iA (iN d))))]) rfl rfl rfl ?_
  exact L4 _ 0 rfl (by omega)

abbrev rm_La_countGapLetters : Room := { frames := 0, cells := 0, slots := 0, locals := 0 }
set_option maxHeartbeats 4000000 in
set_option maxRecDepth 100000 in
theorem c_La_countGapLetters (l : Launch) (D : va_G) (tI tJ tZ : ClassId) (ly : Nat) (st9 : Nat) (ln : Nat) (sa : Nat) (sb : Nat) (ea : Nat) (eb : Nat) (d : Nat → Nat) (hln : ln ≤ 192) (hd : ∀ t, d t < 3) : rCi l y_La_countGapLetters prog_5_method_6_code 3 .int rm_La_countGapLetters D (tysA tI tJ tZ) [.ref ly] [(ly, .inr (6, [.ref st9, .int (iI ((ln : Nat) : Int)), .int (iI ((sa : Nat) : Int)), .int (iI ((sb : Nat) : Int)), .int (iI ((ea : Nat) : Int)), .int (iI ((eb : Nat) : Int))])), (st9, .inl (tI, 192, .inl (iA (iN d))))] (fun zz (_ : Unit) => zz = iI (((ra_cl9 d ln : Nat) : Int))) (fun (_ : Unit) => [(ly, .inr (6, [.ref st9, .int (iI ((ln : Nat) : Int)), .int (iI ((sa : Nat) : Int)), .int (iI ((sb : Nat) : Int)), .int (iI ((ea : Nat) : Int)), .int (iI ((eb : Nat) : Int))])), (st9, .inl (tI, 192, .inl (iA (iN d))))]) := by
  intro sz
  refine r_met (by decide) (Nat.le_of_ble_eq_true rfl) ?_
  intro F p e s m args below meth c Q A hX hT hAe hsz hin
  subst hAe
  replace hX : rOK F p l e rm_La_countGapLetters s m args below meth c Q prog_5_method_6_code 3 "RowAligner$Laying" D (tysA tI tJ tZ) _ := hX
  show F 0 [(0, .ref ly)] [] [(ly, .inr (6, [.ref st9, .int (iI ((ln : Nat) : Int)), .int (iI ((sa : Nat) : Int)), .int (iI ((sb : Nat) : Int)), .int (iI ((ea : Nat) : Int)), .int (iI ((eb : Nat) : Int))])), (st9, .inl (tI, 192, .inl (iA (iN d))))] 0 0
  refine r_iconstN hX 0 d_La_countGapLetters_0 rfl ?_
  refine r_istore_n hX (lv' := [(1, .int (iI ((0 : Nat) : Int))), (0, .ref ly)]) d_La_countGapLetters_1 rfl (by decide) rfl ?_
  refine r_iconstN hX 0 d_La_countGapLetters_2 rfl ?_
  refine r_istore_n hX (lv' := [(2, .int (iI ((0 : Nat) : Int))), (1, .int (iI ((0 : Nat) : Int))), (0, .ref ly)]) d_La_countGapLetters_3 rfl (by decide) rfl ?_
  have L4 : ∀ (dd : Nat) (k : Nat), ln - k = dd → (k ≤ ln) → F 4 [(2, .int (iI ((k : Nat) : Int))), (1, .int (iI ((ra_cl9 d k : Nat) : Int))), (0, .ref ly)] [] [(ly, .inr (6, [.ref st9, .int (iI ((ln : Nat) : Int)), .int (iI ((sa : Nat) : Int)), .int (iI ((sb : Nat) : Int)), .int (iI ((ea : Nat) : Int)), .int (iI ((eb : Nat) : Int))])), (st9, .inl (tI, 192, .inl (iA (iN d))))] 0 0 := by
    intro dd
    induction dd using Nat.strongRecOn with
    | _ dd ih4 =>
      intro k hmu4 hk
      refine r_iload_n hX 0 d_La_countGapLetters_4 rfl ?_
      refine r_aload_n hX 2 d_La_countGapLetters_5 rfl ?_
      refine r_get hX cf_La 0 rfl 1 (by decide) fl_La_32 rfl d_La_countGapLetters_6 ?_
      refine r_icmp_ge hX 35 d_La_countGapLetters_9 (by decide) (by unfold iR; omega) (by unfold iR; omega) (fun h9 => ?_) (fun h9 => ?_)
      · refine r_iload_n hX 1 d_La_countGapLetters_35 rfl ?_
        exact r_iret hX hT () (congrArg iI (by rw [show k = ln by omega])) rfl (by decide) (by decide) d_La_countGapLetters_36
      · refine r_iload_n hX 1 d_La_countGapLetters_12 rfl ?_
        refine r_aload_n hX 2 d_La_countGapLetters_13 rfl ?_
        refine r_get hX cf_La 0 rfl 0 (by decide) fl_La_9 rfl d_La_countGapLetters_14 ?_
        refine r_iload_n hX 0 d_La_countGapLetters_17 rfl ?_
        refine r_ialdN hX 1 0 rfl rfl (k) rfl (by omega) (by decide) d_La_countGapLetters_18 ?_
        have hd1 := hd k
        have J27 : F 27 [(2, .int (iI ((k : Nat) : Int))), (1, .int (iI ((ra_cl9 d k : Nat) : Int))), (0, .ref ly)] [.int (iI (((if ¬ d k = 0 then 1 else 0) : Nat) : Int)), .int (iI ((ra_cl9 d k : Nat) : Int))] [(ly, .inr (6, [.ref st9, .int (iI ((ln : Nat) : Int)), .int (iI ((sa : Nat) : Int)), .int (iI ((sb : Nat) : Int)), .int (iI ((ea : Nat) : Int)), .int (iI ((eb : Nat) : Int))])), (st9, .inl (tI, 192, .inl (iA (iN d))))] 0 0 := by
          refine r_iaddN hX d_La_countGapLetters_27 ?_
          refine r_istore_n hX (lv' := [(1, .int (iI ((ra_cl9 d k + ((if ¬ d k = 0 then 1 else 0)) : Nat) : Int))), (2, .int (iI ((k : Nat) : Int))), (0, .ref ly)]) d_La_countGapLetters_28 rfl (by decide) rfl ?_
          refine r_iincN hX (lv' := [(2, .int (iI ((k + 1 : Nat) : Int))), (1, .int (iI ((ra_cl9 d k + ((if ¬ d k = 0 then 1 else 0)) : Nat) : Int))), (0, .ref ly)]) 1 d_La_countGapLetters_29 rfl (by decide) rfl ?_
          refine r_goto hX 4 d_La_countGapLetters_32 (by decide) ?_
          refine r_eq (lv2 := [(2, .int (iI ((k + 1 : Nat) : Int))), (1, .int (iI ((ra_cl9 d (k + 1) : Nat) : Int))), (0, .ref ly)]) (st2 := []) (ws2 := [(ly, .inr (6, [.ref st9, .int (iI ((ln : Nat) : Int)), .int (iI ((sa : Nat) : Int)), .int (iI ((sb : Nat) : Int)), .int (iI ((ea : Nat) : Int)), .int (iI ((eb : Nat) : Int))])), (st9, .inl (tI, 192, .inl (iA (iN d))))]) rfl rfl rfl ?_
          exact ih4 _ (by omega) (k + 1) rfl (by omega)
        have hd1 := hd k
        refine r_if_eq hX 26 d_La_countGapLetters_19 (by decide) (by unfold iR; omega) (fun h19 => ?_) (fun h19 => ?_)
        · refine r_iconstN hX 0 d_La_countGapLetters_26 rfl ?_
          exact rj_e (by first | rw [if_pos (by omega)] | rw [if_neg (by omega)]) J27
        · refine r_iconstN hX 1 d_La_countGapLetters_22 rfl ?_
          refine r_goto hX 27 d_La_countGapLetters_23 (by decide) ?_
          exact rj_e (by first | rw [if_pos (by omega)] | rw [if_neg (by omega)]) J27
  refine r_eq (lv2 := [(2, .int (iI ((0 : Nat) : Int))), (1, .int (iI ((ra_cl9 d 0 : Nat) : Int))), (0, .ref ly)]) (st2 := []) (ws2 := [(ly, .inr (6, [.ref st9, .int (iI ((ln : Nat) : Int)), .int (iI ((sa : Nat) : Int)), .int (iI ((sb : Nat) : Int)), .int (iI ((ea : Nat) : Int)), .int (iI ((eb : Nat) : Int))])), (st9, .inl (tI, 192, .inl (iA (iN d))))]) rfl rfl rfl ?_
  exact L4 _ 0 rfl (by omega)

abbrev rm_La_countGaps : Room := { frames := 1, cells := 0, slots := 0, locals := 21 }
set_option maxHeartbeats 4000000 in
set_option maxRecDepth 100000 in
theorem c_La_countGaps (l : Launch) (D : va_G) (tI tJ tZ : ClassId) (ly : Nat) (st9 : Nat) (ln : Nat) (sa : Nat) (sb : Nat) (ea : Nat) (eb : Nat) (d : Nat → Nat) (hln : ln ≤ 192) (hd : ∀ t, d t < 3) : rCi l y_La_countGaps prog_5_method_5_code 3 .int rm_La_countGaps D (tysA tI tJ tZ) [.ref ly] [(ly, .inr (6, [.ref st9, .int (iI ((ln : Nat) : Int)), .int (iI ((sa : Nat) : Int)), .int (iI ((sb : Nat) : Int)), .int (iI ((ea : Nat) : Int)), .int (iI ((eb : Nat) : Int))])), (st9, .inl (tI, 192, .inl (iA (iN d))))] (fun zz (_ : Unit) => zz = iI (((ra_cg d ln : Nat) : Int))) (fun (_ : Unit) => [(ly, .inr (6, [.ref st9, .int (iI ((ln : Nat) : Int)), .int (iI ((sa : Nat) : Int)), .int (iI ((sb : Nat) : Int)), .int (iI ((ea : Nat) : Int)), .int (iI ((eb : Nat) : Int))])), (st9, .inl (tI, 192, .inl (iA (iN d))))]) := by
  intro sz
  refine r_met (by decide) (Nat.le_of_ble_eq_true rfl) ?_
  intro F p e s m args below meth c Q A hX hT hAe hsz hin
  subst hAe
  replace hX : rOK F p l e rm_La_countGaps s m args below meth c Q prog_5_method_5_code 3 "RowAligner$Laying" D (tysA tI tJ tZ) _ := hX
  show F 0 [(0, .ref ly)] [] [(ly, .inr (6, [.ref st9, .int (iI ((ln : Nat) : Int)), .int (iI ((sa : Nat) : Int)), .int (iI ((sb : Nat) : Int)), .int (iI ((ea : Nat) : Int)), .int (iI ((eb : Nat) : Int))])), (st9, .inl (tI, 192, .inl (iA (iN d))))] 0 0
  refine r_iconstN hX 0 d_La_countGaps_0 rfl ?_
  refine r_istore_n hX (lv' := [(1, .int (iI ((0 : Nat) : Int))), (0, .ref ly)]) d_La_countGaps_1 rfl (by decide) rfl ?_
  refine r_iconstN hX 0 d_La_countGaps_2 rfl ?_
  refine r_istore_n hX (lv' := [(2, .int (iI ((0 : Nat) : Int))), (1, .int (iI ((0 : Nat) : Int))), (0, .ref ly)]) d_La_countGaps_3 rfl (by decide) rfl ?_
  have L4 : ∀ (dd : Nat) (k : Nat), ln - k = dd → (k ≤ ln) → F 4 [(2, .int (iI ((k : Nat) : Int))), (1, .int (iI ((ra_cg d k : Nat) : Int))), (0, .ref ly)] [] [(ly, .inr (6, [.ref st9, .int (iI ((ln : Nat) : Int)), .int (iI ((sa : Nat) : Int)), .int (iI ((sb : Nat) : Int)), .int (iI ((ea : Nat) : Int)), .int (iI ((eb : Nat) : Int))])), (st9, .inl (tI, 192, .inl (iA (iN d))))] 0 0 := by
    intro dd
    induction dd using Nat.strongRecOn with
    | _ dd ih4 =>
      intro k hmu4 hk
      refine r_iload_n hX 0 d_La_countGaps_4 rfl ?_
      refine r_aload_n hX 2 d_La_countGaps_5 rfl ?_
      refine r_get hX cf_La 0 rfl 1 (by decide) fl_La_32 rfl d_La_countGaps_6 ?_
      refine r_icmp_ge hX 43 d_La_countGaps_9 (by decide) (by unfold iR; omega) (by unfold iR; omega) (fun h9 => ?_) (fun h9 => ?_)
      · refine r_iload_n hX 1 d_La_countGaps_43 rfl ?_
        exact r_iret hX hT () (congrArg iI (by rw [show k = ln by omega])) rfl (by decide) (by decide) d_La_countGaps_44
      · refine r_iload_n hX 1 d_La_countGaps_12 rfl ?_
        refine r_aload_n hX 2 d_La_countGaps_13 rfl ?_
        refine r_get hX cf_La 0 rfl 0 (by decide) fl_La_9 rfl d_La_countGaps_14 ?_
        refine r_iload_n hX 0 d_La_countGaps_17 rfl ?_
        refine r_ialdN hX 1 0 rfl rfl (k) rfl (by omega) (by decide) d_La_countGaps_18 ?_
        have hd1 := hd k
        have J35 : F 35 [(2, .int (iI ((k : Nat) : Int))), (1, .int (iI ((ra_cg d k : Nat) : Int))), (0, .ref ly)] [.int (iI (((if ¬ d k = 0 ∧ ra_bg d k then 1 else 0) : Nat) : Int)), .int (iI ((ra_cg d k : Nat) : Int))] [(ly, .inr (6, [.ref st9, .int (iI ((ln : Nat) : Int)), .int (iI ((sa : Nat) : Int)), .int (iI ((sb : Nat) : Int)), .int (iI ((ea : Nat) : Int)), .int (iI ((eb : Nat) : Int))])), (st9, .inl (tI, 192, .inl (iA (iN d))))] 0 0 := by
          refine r_iaddN hX d_La_countGaps_35 ?_
          refine r_istore_n hX (lv' := [(1, .int (iI ((ra_cg d k + ((if ¬ d k = 0 ∧ ra_bg d k then 1 else 0)) : Nat) : Int))), (2, .int (iI ((k : Nat) : Int))), (0, .ref ly)]) d_La_countGaps_36 rfl (by decide) rfl ?_
          refine r_iincN hX (lv' := [(2, .int (iI ((k + 1 : Nat) : Int))), (1, .int (iI ((ra_cg d k + ((if ¬ d k = 0 ∧ ra_bg d k then 1 else 0)) : Nat) : Int))), (0, .ref ly)]) 1 d_La_countGaps_37 rfl (by decide) rfl ?_
          refine r_goto hX 4 d_La_countGaps_40 (by decide) ?_
          refine r_eq (lv2 := [(2, .int (iI ((k + 1 : Nat) : Int))), (1, .int (iI ((ra_cg d (k + 1) : Nat) : Int))), (0, .ref ly)]) (st2 := []) (ws2 := [(ly, .inr (6, [.ref st9, .int (iI ((ln : Nat) : Int)), .int (iI ((sa : Nat) : Int)), .int (iI ((sb : Nat) : Int)), .int (iI ((ea : Nat) : Int)), .int (iI ((eb : Nat) : Int))])), (st9, .inl (tI, 192, .inl (iA (iN d))))]) rfl rfl rfl ?_
          exact ih4 _ (by omega) (k + 1) rfl (by omega)
        have hd1 := hd k
        refine r_if_eq hX 34 d_La_countGaps_19 (by decide) (by unfold iR; omega) (fun h19 => ?_) (fun h19 => ?_)
        · refine r_iconstN hX 0 d_La_countGaps_34 rfl ?_
          exact rj_e (by first | exact congrArg (fun z : Nat => (z : Int)) (if_pos ⟨by omega, h27⟩).symm | exact congrArg (fun z : Nat => (z : Int)) (if_neg (fun q => h27 q.2)).symm | exact congrArg (fun z : Nat => (z : Int)) (if_neg (fun q => q.1 (by omega))).symm) J35
        · refine r_aload_n hX 2 d_La_countGaps_22 rfl ?_
          refine r_iload_n hX 0 d_La_countGaps_23 rfl ?_
          refine r_invV_i0 (st := [.int (iI ((ra_cg d k : Nat) : Int))]) (As := [.int (iI ((k : Nat) : Int))]) (wr := []) hX (c_La_beginsRun l D tI tJ tZ ly st9 ln sa sb ea eb d k (by omega) hd) "RowAligner$Laying" 0 6 cf_La rfl yn_La_beginsRun ml_La_55 im_La_beginsRun se_La_beginsRun co_La_beginsRun in_La (by decide) (by decide) (by decide) [0, 1] [] rfl rfl rfl rfl rfl (by decide) rfl rfl (Nat.le_of_ble_eq_true rfl) d_La_countGaps_24 [0, 1] rfl (w2 := fun _ => [(ly, .inr (6, [.ref st9, .int (iI ((ln : Nat) : Int)), .int (iI ((sa : Nat) : Int)), .int (iI ((sb : Nat) : Int)), .int (iI ((ea : Nat) : Int)), .int (iI ((eb : Nat) : Int))])), (st9, .inl (tI, 192, .inl (iA (iN d))))]) (fun _ => rfl) (fun r24 _ e24 => ?_)
          subst e24
          refine rb_if_eq hX 34 d_La_countGaps_27 (by decide) (fun h27 => ?_) (fun h27 => ?_)
          · refine r_iconstN hX 0 d_La_countGaps_34 rfl ?_
            exact rj_e (by first | exact congrArg (fun z : Nat => (z : Int)) (if_pos ⟨by omega, h27⟩).symm | exact congrArg (fun z : Nat => (z : Int)) (if_neg (fun q => h27 q.2)).symm | exact congrArg (fun z : Nat => (z : Int)) (if_neg (fun q => q.1 (by omega))).symm) J35
          · refine r_iconstN hX 1 d_La_countGaps_30 rfl ?_
            refine r_goto hX 35 d_La_countGaps_31 (by decide) ?_
            exact rj_e (by first | exact congrArg (fun z : Nat => (z : Int)) (if_pos ⟨by omega, h27⟩).symm | exact congrArg (fun z : Nat => (z : Int)) (if_neg (fun q => h27 q.2)).symm | exact congrArg (fun z : Nat => (z : Int)) (if_neg (fun q => q.1 (by omega))).symm) J35
  refine r_eq (lv2 := [(2, .int (iI ((0 : Nat) : Int))), (1, .int (iI ((ra_cg d 0 : Nat) : Int))), (0, .ref ly)]) (st2 := []) (ws2 := [(ly, .inr (6, [.ref st9, .int (iI ((ln : Nat) : Int)), .int (iI ((sa : Nat) : Int)), .int (iI ((sb : Nat) : Int)), .int (iI ((ea : Nat) : Int)), .int (iI ((eb : Nat) : Int))])), (st9, .inl (tI, 192, .inl (iA (iN d))))]) rfl rfl rfl ?_
  exact L4 _ 0 rfl (by omega)

abbrev rm_La_countSamePairs : Room := { frames := 1, cells := 0, slots := 0, locals := 20 }
set_option maxHeartbeats 4000000 in
set_option maxRecDepth 100000 in
theorem c_La_countSamePairs (l : Launch) (D : va_G) (tI tJ tZ : ClassId) (ly : Nat) (st9 : Nat) (ln : Nat) (sa : Nat) (sb : Nat) (ea : Nat) (eb : Nat) (d : Nat → Nat) (gr : Nat) (ra : Nat) (qa : Nat) (rb : Nat) (qb : Nat) (pr : Nat) (la : Nat) (lb : Nat) (LA : Nat → Nat) (LB : Nat → Nat) (hln : ln ≤ 192) (hd : ∀ t, d t < 3) (hA : ∀ k, LA k < 26) (hB : ∀ k, LB k < 26) (hnn : ∀ k, k < ln → d k = 0 → sa + ra_qi d k < 96 ∧ sb + ra_qj d k < 96) (hpos : ∀ k, k ≤ ln → sa + ra_qi d k ≤ 96 ∧ sb + ra_qj d k ≤ 96) : rCi l y_La_countSamePairs prog_5_method_7_code 6 .int rm_La_countSamePairs D (tysA tI tJ tZ) [.ref ly, .ref gr] [(ly, .inr (6, [.ref st9, .int (iI ((ln : Nat) : Int)), .int (iI ((sa : Nat) : Int)), .int (iI ((sb : Nat) : Int)), .int (iI ((ea : Nat) : Int)), .int (iI ((eb : Nat) : Int))])), (st9, .inl (tI, 192, .inl (iA (iN d)))), (gr, .inr (1, [.ref ra, .ref rb, .ref pr])), (ra, .inr (2, [.ref qa, .int (iI ((la : Nat) : Int))])), (qa, .inl (tI, 96, .inl (iA (iN LA)))), (rb, .inr (2, [.ref qb, .int (iI ((lb : Nat) : Int))])), (qb, .inl (tI, 96, .inl (iA (iN LB))))] (fun zz (_ : Unit) => zz = iI (((ra_cp LA LB d sa sb ln : Nat) : Int))) (fun (_ : Unit) => [(ly, .inr (6, [.ref st9, .int (iI ((ln : Nat) : Int)), .int (iI ((sa : Nat) : Int)), .int (iI ((sb : Nat) : Int)), .int (iI ((ea : Nat) : Int)), .int (iI ((eb : Nat) : Int))])), (st9, .inl (tI, 192, .inl (iA (iN d)))), (gr, .inr (1, [.ref ra, .ref rb, .ref pr])), (ra, .inr (2, [.ref qa, .int (iI ((la : Nat) : Int))])), (qa, .inl (tI, 96, .inl (iA (iN LA)))), (rb, .inr (2, [.ref qb, .int (iI ((lb : Nat) : Int))])), (qb, .inl (tI, 96, .inl (iA (iN LB))))]) := by
  intro sz
  refine r_met (by decide) (Nat.le_of_ble_eq_true rfl) ?_
  intro F p e s m args below meth c Q A hX hT hAe hsz hin
  subst hAe
  replace hX : rOK F p l e rm_La_countSamePairs s m args below meth c Q prog_5_method_7_code 6 "RowAligner$Laying" D (tysA tI tJ tZ) _ := hX
  show F 0 [(0, .ref ly), (1, .ref gr)] [] [(ly, .inr (6, [.ref st9, .int (iI ((ln : Nat) : Int)), .int (iI ((sa : Nat) : Int)), .int (iI ((sb : Nat) : Int)), .int (iI ((ea : Nat) : Int)), .int (iI ((eb : Nat) : Int))])), (st9, .inl (tI, 192, .inl (iA (iN d)))), (gr, .inr (1, [.ref ra, .ref rb, .ref pr])), (ra, .inr (2, [.ref qa, .int (iI ((la : Nat) : Int))])), (qa, .inl (tI, 96, .inl (iA (iN LA)))), (rb, .inr (2, [.ref qb, .int (iI ((lb : Nat) : Int))])), (qb, .inl (tI, 96, .inl (iA (iN LB))))] 0 0
  refine r_iconstN hX 0 d_La_countSamePairs_0 rfl ?_
  refine r_istore_n hX (lv' := [(2, .int (iI ((0 : Nat) : Int))), (0, .ref ly), (1, .ref gr)]) d_La_countSamePairs_1 rfl (by decide) rfl ?_
  refine r_aload_n hX 1 d_La_countSamePairs_2 rfl ?_
  refine r_get hX cf_La 0 rfl 2 (by decide) fl_La_21 rfl d_La_countSamePairs_3 ?_
  refine r_istore_n hX (lv' := [(3, .int (iI ((sa : Nat) : Int))), (2, .int (iI ((0 : Nat) : Int))), (0, .ref ly), (1, .ref gr)]) d_La_countSamePairs_6 rfl (by decide) rfl ?_
  refine r_aload_n hX 2 d_La_countSamePairs_7 rfl ?_
  refine r_get hX cf_La 0 rfl 3 (by decide) fl_La_25 rfl d_La_countSamePairs_8 ?_
  refine r_istore hX (lv' := [(4, .int (iI ((sb : Nat) : Int))), (3, .int (iI ((sa : Nat) : Int))), (2, .int (iI ((0 : Nat) : Int))), (0, .ref ly), (1, .ref gr)]) d_La_countSamePairs_11 (by decide) rfl ?_
  refine r_iconstN hX 0 d_La_countSamePairs_13 rfl ?_
  refine r_istore hX (lv' := [(5, .int (iI ((0 : Nat) : Int))), (4, .int (iI ((sb : Nat) : Int))), (3, .int (iI ((sa : Nat) : Int))), (2, .int (iI ((0 : Nat) : Int))), (0, .ref ly), (1, .ref gr)]) d_La_countSamePairs_14 (by decide) rfl ?_
  have L16 : ∀ (dd : Nat) (k : Nat), ln - k = dd → (k ≤ ln) → F 16 [(5, .int (iI ((k : Nat) : Int))), (4, .int (iI ((sb + ra_qj d k : Nat) : Int))), (3, .int (iI ((sa + ra_qi d k : Nat) : Int))), (2, .int (iI ((ra_cp LA LB d sa sb k : Nat) : Int))), (1, .ref gr), (0, .ref ly)] [] [(ly, .inr (6, [.ref st9, .int (iI ((ln : Nat) : Int)), .int (iI ((sa : Nat) : Int)), .int (iI ((sb : Nat) : Int)), .int (iI ((ea : Nat) : Int)), .int (iI ((eb : Nat) : Int))])), (st9, .inl (tI, 192, .inl (iA (iN d)))), (gr, .inr (1, [.ref ra, .ref rb, .ref pr])), (ra, .inr (2, [.ref qa, .int (iI ((la : Nat) : Int))])), (qa, .inl (tI, 96, .inl (iA (iN LA)))), (rb, .inr (2, [.ref qb, .int (iI ((lb : Nat) : Int))])), (qb, .inl (tI, 96, .inl (iA (iN LB))))] 0 0 := by
    intro dd
    induction dd using Nat.strongRecOn with
    | _ dd ih16 =>
      intro k hmu16 hk
      refine r_iload hX 0 d_La_countSamePairs_16 rfl ?_
      refine r_aload_n hX 5 d_La_countSamePairs_18 rfl ?_
      refine r_get hX cf_La 0 rfl 1 (by decide) fl_La_32 rfl d_La_countSamePairs_19 ?_
      refine r_icmp_ge hX 94 d_La_countSamePairs_22 (by decide) (by unfold iR; omega) (by unfold iR; omega) (fun h22 => ?_) (fun h22 => ?_)
      · refine r_iload_n hX 3 d_La_countSamePairs_94 rfl ?_
        exact r_iret hX hT () (congrArg iI (by rw [show k = ln by omega])) rfl (by decide) (by decide) d_La_countSamePairs_95
      · have hd1 := hd k
        have hcp := ra_cp_le LA LB d sa sb k
        refine r_aload_n hX 5 d_La_countSamePairs_25 rfl ?_
        refine r_get hX cf_La 0 rfl 0 (by decide) fl_La_9 rfl d_La_countSamePairs_26 ?_
        refine r_iload hX 0 d_La_countSamePairs_29 rfl ?_
        refine r_ialdN hX 1 0 rfl rfl (k) rfl (by omega) (by decide) d_La_countSamePairs_31 ?_
        have J60 : F 60 [(5, .int (iI ((k : Nat) : Int))), (4, .int (iI ((sb + ra_qj d k : Nat) : Int))), (3, .int (iI ((sa + ra_qi d k : Nat) : Int))), (2, .int (iI ((ra_cp LA LB d sa sb (k + 1) : Nat) : Int))), (1, .ref gr), (0, .ref ly)] [] [(ly, .inr (6, [.ref st9, .int (iI ((ln : Nat) : Int)), .int (iI ((sa : Nat) : Int)), .int (iI ((sb : Nat) : Int)), .int (iI ((ea : Nat) : Int)), .int (iI ((eb : Nat) : Int))])), (st9, .inl (tI, 192, .inl (iA (iN d)))), (gr, .inr (1, [.ref ra, .ref rb, .ref pr])), (ra, .inr (2, [.ref qa, .int (iI ((la : Nat) : Int))])), (qa, .inl (tI, 96, .inl (iA (iN LA)))), (rb, .inr (2, [.ref qb, .int (iI ((lb : Nat) : Int))])), (qb, .inl (tI, 96, .inl (iA (iN LB))))] 0 0 := by
          refine r_iload_n hX 2 d_La_countSamePairs_60 rfl ?_
          refine r_aload_n hX 5 d_La_countSamePairs_61 rfl ?_
          refine r_get hX cf_La 0 rfl 0 (by decide) fl_La_9 rfl d_La_countSamePairs_62 ?_
          refine r_iload hX 0 d_La_countSamePairs_65 rfl ?_
          refine r_ialdN hX 1 0 rfl rfl (k) rfl (by omega) (by decide) d_La_countSamePairs_67 ?_
          refine r_invSN_i0 (st := [.int (iI ((sa + ra_qi d k : Nat) : Int))]) (As := [.int (iI ((d k : Nat) : Int))]) (wr := [(ly, .inr (6, [.ref st9, .int (iI ((ln : Nat) : Int)), .int (iI ((sa : Nat) : Int)), .int (iI ((sb : Nat) : Int)), .int (iI ((ea : Nat) : Int)), .int (iI ((eb : Nat) : Int))])), (st9, .inl (tI, 192, .inl (iA (iN d)))), (gr, .inr (1, [.ref ra, .ref rb, .ref pr])), (ra, .inr (2, [.ref qa, .int (iI ((la : Nat) : Int))])), (qa, .inl (tI, 96, .inl (iA (iN LA)))), (rb, .inr (2, [.ref qb, .int (iI ((lb : Nat) : Int))])), (qb, .inl (tI, 96, .inl (iA (iN LB))))]) hX (c_Ra_lettersOfA l D tI tJ tZ (d k) hd1) yn_Ra_lettersOfA mn_La_49 st_Ra_lettersOfA co_Ra_lettersOfA in_Ra (by decide) (by decide) (by decide) [] [0, 1, 2, 3, 4, 5, 6] rfl rfl rfl rfl rfl (by decide) rfl rfl (Nat.le_of_ble_eq_true rfl) d_La_countSamePairs_68 [0, 1, 2, 3, 4, 5, 6] rfl (w2 := fun _ => [(ly, .inr (6, [.ref st9, .int (iI ((ln : Nat) : Int)), .int (iI ((sa : Nat) : Int)), .int (iI ((sb : Nat) : Int)), .int (iI ((ea : Nat) : Int)), .int (iI ((eb : Nat) : Int))])), (st9, .inl (tI, 192, .inl (iA (iN d)))), (gr, .inr (1, [.ref ra, .ref rb, .ref pr])), (ra, .inr (2, [.ref qa, .int (iI ((la : Nat) : Int))])), (qa, .inl (tI, 96, .inl (iA (iN LA)))), (rb, .inr (2, [.ref qb, .int (iI ((lb : Nat) : Int))])), (qb, .inl (tI, 96, .inl (iA (iN LB))))]) (fun _ => rfl) (fun r68 _ e68 => ?_)
          subst e68
          refine r_iaddN hX d_La_countSamePairs_71 ?_
          refine r_istore_n hX (lv' := [(3, .int (iI ((sa + ra_qi d k + (ra_da (d k)) : Nat) : Int))), (5, .int (iI ((k : Nat) : Int))), (4, .int (iI ((sb + ra_qj d k : Nat) : Int))), (2, .int (iI ((ra_cp LA LB d sa sb (k + 1) : Nat) : Int))), (1, .ref gr), (0, .ref ly)]) d_La_countSamePairs_72 rfl (by decide) rfl ?_
          refine r_iload hX 2 d_La_countSamePairs_73 rfl ?_
          refine r_aload_n hX 5 d_La_countSamePairs_75 rfl ?_
          refine r_get hX cf_La 0 rfl 0 (by decide) fl_La_9 rfl d_La_countSamePairs_76 ?_
          refine r_iload hX 1 d_La_countSamePairs_79 rfl ?_
          refine r_ialdN hX 1 0 rfl rfl (k) rfl (by omega) (by decide) d_La_countSamePairs_81 ?_
          refine r_invSN_i0 (st := [.int (iI ((sb + ra_qj d k : Nat) : Int))]) (As := [.int (iI ((d k : Nat) : Int))]) (wr := [(ly, .inr (6, [.ref st9, .int (iI ((ln : Nat) : Int)), .int (iI ((sa : Nat) : Int)), .int (iI ((sb : Nat) : Int)), .int (iI ((ea : Nat) : Int)), .int (iI ((eb : Nat) : Int))])), (st9, .inl (tI, 192, .inl (iA (iN d)))), (gr, .inr (1, [.ref ra, .ref rb, .ref pr])), (ra, .inr (2, [.ref qa, .int (iI ((la : Nat) : Int))])), (qa, .inl (tI, 96, .inl (iA (iN LA)))), (rb, .inr (2, [.ref qb, .int (iI ((lb : Nat) : Int))])), (qb, .inl (tI, 96, .inl (iA (iN LB))))]) hX (c_Ra_lettersOfB l D tI tJ tZ (d k) hd1) yn_Ra_lettersOfB mn_La_52 st_Ra_lettersOfB co_Ra_lettersOfB in_Ra (by decide) (by decide) (by decide) [] [0, 1, 2, 3, 4, 5, 6] rfl rfl rfl rfl rfl (by decide) rfl rfl (Nat.le_of_ble_eq_true rfl) d_La_countSamePairs_82 [0, 1, 2, 3, 4, 5, 6] rfl (w2 := fun _ => [(ly, .inr (6, [.ref st9, .int (iI ((ln : Nat) : Int)), .int (iI ((sa : Nat) : Int)), .int (iI ((sb : Nat) : Int)), .int (iI ((ea : Nat) : Int)), .int (iI ((eb : Nat) : Int))])), (st9, .inl (tI, 192, .inl (iA (iN d)))), (gr, .inr (1, [.ref ra, .ref rb, .ref pr])), (ra, .inr (2, [.ref qa, .int (iI ((la : Nat) : Int))])), (qa, .inl (tI, 96, .inl (iA (iN LA)))), (rb, .inr (2, [.ref qb, .int (iI ((lb : Nat) : Int))])), (qb, .inl (tI, 96, .inl (iA (iN LB))))]) (fun _ => rfl) (fun r82 _ e82 => ?_)
          subst e82
          refine r_iaddN hX d_La_countSamePairs_85 ?_
          refine r_istore hX (lv' := [(4, .int (iI ((sb + ra_qj d k + (ra_db (d k)) : Nat) : Int))), (3, .int (iI ((sa + ra_qi d k + (ra_da (d k)) : Nat) : Int))), (5, .int (iI ((k : Nat) : Int))), (2, .int (iI ((ra_cp LA LB d sa sb (k + 1) : Nat) : Int))), (1, .ref gr), (0, .ref ly)]) d_La_countSamePairs_86 (by decide) rfl ?_
          refine r_iincN hX (lv' := [(5, .int (iI ((k + 1 : Nat) : Int))), (4, .int (iI ((sb + ra_qj d k + (ra_db (d k)) : Nat) : Int))), (3, .int (iI ((sa + ra_qi d k + (ra_da (d k)) : Nat) : Int))), (2, .int (iI ((ra_cp LA LB d sa sb (k + 1) : Nat) : Int))), (1, .ref gr), (0, .ref ly)]) 2 d_La_countSamePairs_88 rfl (by decide) rfl ?_
          refine r_goto hX 16 d_La_countSamePairs_91 (by decide) ?_
          refine r_eq (lv2 := [(5, .int (iI ((k + 1 : Nat) : Int))), (4, .int (iI ((sb + ra_qj d (k + 1) : Nat) : Int))), (3, .int (iI ((sa + ra_qi d (k + 1) : Nat) : Int))), (2, .int (iI ((ra_cp LA LB d sa sb (k + 1) : Nat) : Int))), (1, .ref gr), (0, .ref ly)]) (st2 := []) (ws2 := [(ly, .inr (6, [.ref st9, .int (iI ((ln : Nat) : Int)), .int (iI ((sa : Nat) : Int)), .int (iI ((sb : Nat) : Int)), .int (iI ((ea : Nat) : Int)), .int (iI ((eb : Nat) : Int))])), (st9, .inl (tI, 192, .inl (iA (iN d)))), (gr, .inr (1, [.ref ra, .ref rb, .ref pr])), (ra, .inr (2, [.ref qa, .int (iI ((la : Nat) : Int))])), (qa, .inl (tI, 96, .inl (iA (iN LA)))), (rb, .inr (2, [.ref qb, .int (iI ((lb : Nat) : Int))])), (qb, .inl (tI, 96, .inl (iA (iN LB))))]) (by rw [Nat.add_assoc, Nat.add_assoc]; rfl) rfl rfl ?_
          exact ih16 _ (by omega) (k + 1) rfl (by omega)
        refine r_if_ne hX 60 d_La_countSamePairs_32 (by decide) (by unfold iR; omega) (fun h32 => ?_) (fun h32 => ?_)
        · refine r_eq (lv2 := [(5, .int (iI ((k : Nat) : Int))), (4, .int (iI ((sb + ra_qj d k : Nat) : Int))), (3, .int (iI ((sa + ra_qi d k : Nat) : Int))), (2, .int (iI ((ra_cp LA LB d sa sb (k + 1) : Nat) : Int))), (1, .ref gr), (0, .ref ly)]) (st2 := []) (ws2 := [(ly, .inr (6, [.ref st9, .int (iI ((ln : Nat) : Int)), .int (iI ((sa : Nat) : Int)), .int (iI ((sb : Nat) : Int)), .int (iI ((ea : Nat) : Int)), .int (iI ((eb : Nat) : Int))])), (st9, .inl (tI, 192, .inl (iA (iN d)))), (gr, .inr (1, [.ref ra, .ref rb, .ref pr])), (ra, .inr (2, [.ref qa, .int (iI ((la : Nat) : Int))])), (qa, .inl (tI, 96, .inl (iA (iN LA)))), (rb, .inr (2, [.ref qb, .int (iI ((lb : Nat) : Int))])), (qb, .inl (tI, 96, .inl (iA (iN LB))))]) (by first | rw [ra_cp_t (by omega) (by omega)] | rw [ra_cp_f (by omega)]) rfl rfl ?_
          exact J60
        · refine r_aload_n hX 4 d_La_countSamePairs_35 rfl ?_
          refine r_get hX cf_Gr 2 rfl 0 (by decide) fl_La_59 rfl d_La_countSamePairs_36 ?_
          refine r_get hX cf_Ro 3 rfl 0 (by decide) fl_La_65 rfl d_La_countSamePairs_39 ?_
          have hin1 := hnn k (by omega) (by omega)
          have ha1 := hA (sa + ra_qi d k)
          have hb1 := hB (sb + ra_qj d k)
          refine r_iload_n hX 2 d_La_countSamePairs_42 rfl ?_
          refine r_ialdN hX 4 0 rfl rfl (sa + ra_qi d k) rfl (by omega) (by decide) d_La_countSamePairs_43 ?_
          refine r_aload_n hX 4 d_La_countSamePairs_44 rfl ?_
          refine r_get hX cf_Gr 2 rfl 1 (by decide) fl_La_70 rfl d_La_countSamePairs_45 ?_
          refine r_get hX cf_Ro 5 rfl 0 (by decide) fl_La_65 rfl d_La_countSamePairs_48 ?_
          refine r_iload hX 1 d_La_countSamePairs_51 rfl ?_
          refine r_ialdN hX 6 0 rfl rfl (sb + ra_qj d k) rfl (by omega) (by decide) d_La_countSamePairs_53 ?_
          refine r_icmp_ne hX 60 d_La_countSamePairs_54 (by decide) (by unfold iR; omega) (by unfold iR; omega) (fun h54 => ?_) (fun h54 => ?_)
          · refine r_eq (lv2 := [(5, .int (iI ((k : Nat) : Int))), (4, .int (iI ((sb + ra_qj d k : Nat) : Int))), (3, .int (iI ((sa + ra_qi d k : Nat) : Int))), (2, .int (iI ((ra_cp LA LB d sa sb (k + 1) : Nat) : Int))), (1, .ref gr), (0, .ref ly)]) (st2 := []) (ws2 := [(ly, .inr (6, [.ref st9, .int (iI ((ln : Nat) : Int)), .int (iI ((sa : Nat) : Int)), .int (iI ((sb : Nat) : Int)), .int (iI ((ea : Nat) : Int)), .int (iI ((eb : Nat) : Int))])), (st9, .inl (tI, 192, .inl (iA (iN d)))), (gr, .inr (1, [.ref ra, .ref rb, .ref pr])), (ra, .inr (2, [.ref qa, .int (iI ((la : Nat) : Int))])), (qa, .inl (tI, 96, .inl (iA (iN LA)))), (rb, .inr (2, [.ref qb, .int (iI ((lb : Nat) : Int))])), (qb, .inl (tI, 96, .inl (iA (iN LB))))]) (by first | rw [ra_cp_t (by omega) (by omega)] | rw [ra_cp_f (by omega)]) rfl rfl ?_
            exact J60
          · refine r_iincN hX (lv' := [(2, .int (iI ((ra_cp LA LB d sa sb k + 1 : Nat) : Int))), (5, .int (iI ((k : Nat) : Int))), (4, .int (iI ((sb + ra_qj d k : Nat) : Int))), (3, .int (iI ((sa + ra_qi d k : Nat) : Int))), (1, .ref gr), (0, .ref ly)]) 3 d_La_countSamePairs_57 rfl (by decide) rfl ?_
            refine r_lv hX (lv' := [(5, .int (iI ((k : Nat) : Int))), (4, .int (iI ((sb + ra_qj d k : Nat) : Int))), (3, .int (iI ((sa + ra_qi d k : Nat) : Int))), (2, .int (iI ((ra_cp LA LB d sa sb k + 1 : Nat) : Int))), (1, .ref gr), (0, .ref ly)]) [1, 2, 3, 0, 4, 5] rfl ?_
            refine r_eq (lv2 := [(5, .int (iI ((k : Nat) : Int))), (4, .int (iI ((sb + ra_qj d k : Nat) : Int))), (3, .int (iI ((sa + ra_qi d k : Nat) : Int))), (2, .int (iI ((ra_cp LA LB d sa sb (k + 1) : Nat) : Int))), (1, .ref gr), (0, .ref ly)]) (st2 := []) (ws2 := [(ly, .inr (6, [.ref st9, .int (iI ((ln : Nat) : Int)), .int (iI ((sa : Nat) : Int)), .int (iI ((sb : Nat) : Int)), .int (iI ((ea : Nat) : Int)), .int (iI ((eb : Nat) : Int))])), (st9, .inl (tI, 192, .inl (iA (iN d)))), (gr, .inr (1, [.ref ra, .ref rb, .ref pr])), (ra, .inr (2, [.ref qa, .int (iI ((la : Nat) : Int))])), (qa, .inl (tI, 96, .inl (iA (iN LA)))), (rb, .inr (2, [.ref qb, .int (iI ((lb : Nat) : Int))])), (qb, .inl (tI, 96, .inl (iA (iN LB))))]) (by first | rw [ra_cp_t (by omega) (by omega)] | rw [ra_cp_f (by omega)]) rfl rfl ?_
            exact J60
  refine r_lv hX (lv' := [(5, .int (iI ((0 : Nat) : Int))), (4, .int (iI ((sb : Nat) : Int))), (3, .int (iI ((sa : Nat) : Int))), (2, .int (iI ((0 : Nat) : Int))), (1, .ref gr), (0, .ref ly)]) [0, 1, 2, 3, 5, 4] rfl ?_
  refine r_eq (lv2 := [(5, .int (iI ((0 : Nat) : Int))), (4, .int (iI ((sb + ra_qj d 0 : Nat) : Int))), (3, .int (iI ((sa + ra_qi d 0 : Nat) : Int))), (2, .int (iI ((ra_cp LA LB d sa sb 0 : Nat) : Int))), (1, .ref gr), (0, .ref ly)]) (st2 := []) (ws2 := [(ly, .inr (6, [.ref st9, .int (iI ((ln : Nat) : Int)), .int (iI ((sa : Nat) : Int)), .int (iI ((sb : Nat) : Int)), .int (iI ((ea : Nat) : Int)), .int (iI ((eb : Nat) : Int))])), (st9, .inl (tI, 192, .inl (iA (iN d)))), (gr, .inr (1, [.ref ra, .ref rb, .ref pr])), (ra, .inr (2, [.ref qa, .int (iI ((la : Nat) : Int))])), (qa, .inl (tI, 96, .inl (iA (iN LA)))), (rb, .inr (2, [.ref qb, .int (iI ((lb : Nat) : Int))])), (qb, .inl (tI, 96, .inl (iA (iN LB))))]) rfl rfl rfl ?_
  exact L16 _ 0 rfl (by omega)

abbrev rm_La_startOfRun : Room := { frames := 1, cells := 0, slots := 0, locals := 21 }
set_option maxHeartbeats 4000000 in
set_option maxRecDepth 100000 in
theorem c_La_startOfRun (l : Launch) (D : va_G) (tI tJ tZ : ClassId) (ly : Nat) (st9 : Nat) (ln : Nat) (sa : Nat) (sb : Nat) (ea : Nat) (eb : Nat) (d : Nat → Nat) (x : Int) (hln : ln ≤ 192) (hd : ∀ t, d t < 3) (hx : iR x) : rCi l y_La_startOfRun prog_5_method_8_code 4 .int rm_La_startOfRun D (tysA tI tJ tZ) [.ref ly, .int (iI x)] [(ly, .inr (6, [.ref st9, .int (iI ((ln : Nat) : Int)), .int (iI ((sa : Nat) : Int)), .int (iI ((sb : Nat) : Int)), .int (iI ((ea : Nat) : Int)), .int (iI ((eb : Nat) : Int))])), (st9, .inl (tI, 192, .inl (iA (iN d))))] (fun zz u => zz = iI u ∧ ((u = -1 ∧ ∀ k, k < ln → ra_bg d k → ((ra_cr d k : Nat) : Int) ≠ x) ∨ (∃ k : Nat, k < ln ∧ u = (k : Int) ∧ ra_bg d k ∧ ((ra_cr d k : Nat) : Int) = x))) (fun (u : Int) => [(ly, .inr (6, [.ref st9, .int (iI ((ln : Nat) : Int)), .int (iI ((sa : Nat) : Int)), .int (iI ((sb : Nat) : Int)), .int (iI ((ea : Nat) : Int)), .int (iI ((eb : Nat) : Int))])), (st9, .inl (tI, 192, .inl (iA (iN d))))]) := by
  intro sz
  refine r_met (by decide) (Nat.le_of_ble_eq_true rfl) ?_
  intro F p e s m args below meth c Q A hX hT hAe hsz hin
  subst hAe
  replace hX : rOK F p l e rm_La_startOfRun s m args below meth c Q prog_5_method_8_code 4 "RowAligner$Laying" D (tysA tI tJ tZ) _ := hX
  show F 0 [(0, .ref ly), (1, .int (iI x))] [] [(ly, .inr (6, [.ref st9, .int (iI ((ln : Nat) : Int)), .int (iI ((sa : Nat) : Int)), .int (iI ((sb : Nat) : Int)), .int (iI ((ea : Nat) : Int)), .int (iI ((eb : Nat) : Int))])), (st9, .inl (tI, 192, .inl (iA (iN d))))] 0 0
  refine r_iconstN hX 0 d_La_startOfRun_0 rfl ?_
  refine r_istore_n hX (lv' := [(2, .int (iI ((0 : Nat) : Int))), (0, .ref ly), (1, .int (iI x))]) d_La_startOfRun_1 rfl (by decide) rfl ?_
  refine r_iconstN hX 0 d_La_startOfRun_2 rfl ?_
  refine r_istore_n hX (lv' := [(3, .int (iI ((0 : Nat) : Int))), (2, .int (iI ((0 : Nat) : Int))), (0, .ref ly), (1, .int (iI x))]) d_La_startOfRun_3 rfl (by decide) rfl ?_
  have L4 : ∀ (dd : Nat) (k : Nat), ln - k = dd → (k ≤ ln) → (∀ t, t < k → ra_bg d t → ((ra_cr d t : Nat) : Int) ≠ x) → F 4 [(3, .int (iI ((k : Nat) : Int))), (2, .int (iI ((ra_cr d k : Nat) : Int))), (1, .int (iI x)), (0, .ref ly)] [] [(ly, .inr (6, [.ref st9, .int (iI ((ln : Nat) : Int)), .int (iI ((sa : Nat) : Int)), .int (iI ((sb : Nat) : Int)), .int (iI ((ea : Nat) : Int)), .int (iI ((eb : Nat) : Int))])), (st9, .inl (tI, 192, .inl (iA (iN d))))] 0 0 := by
    intro dd
    induction dd using Nat.strongRecOn with
    | _ dd ih4 =>
      intro k hmu4 hk hno
      refine r_iload_n hX 0 d_La_startOfRun_4 rfl ?_
      refine r_aload_n hX 3 d_La_startOfRun_5 rfl ?_
      refine r_get hX cf_La 0 rfl 1 (by decide) fl_La_32 rfl d_La_startOfRun_6 ?_
      refine r_icmp_ge hX 36 d_La_startOfRun_9 (by decide) (by unfold iR; omega) (by unfold iR; omega) (fun h9 => ?_) (fun h9 => ?_)
      · refine r_iconst hX d_La_startOfRun_36 ?_
        exact r_iret hX hT (-1) ⟨rfl, Or.inl ⟨rfl, fun t ht hb => hno t (by omega) hb⟩⟩ rfl (by decide) (by decide) d_La_startOfRun_37
      · have hcr := ra_cr_le d k
        unfold iR at hx
        refine r_aload_n hX 3 d_La_startOfRun_12 rfl ?_
        refine r_iload_n hX 0 d_La_startOfRun_13 rfl ?_
        refine r_invV_i0 (st := []) (As := [.int (iI ((k : Nat) : Int))]) (wr := []) hX (c_La_beginsRun l D tI tJ tZ ly st9 ln sa sb ea eb d k (by omega) hd) "RowAligner$Laying" 0 6 cf_La rfl yn_La_beginsRun ml_La_55 im_La_beginsRun se_La_beginsRun co_La_beginsRun in_La (by decide) (by decide) (by decide) [0, 1] [] rfl rfl rfl rfl rfl (by decide) rfl rfl (Nat.le_of_ble_eq_true rfl) d_La_startOfRun_14 [0, 1] rfl (w2 := fun _ => [(ly, .inr (6, [.ref st9, .int (iI ((ln : Nat) : Int)), .int (iI ((sa : Nat) : Int)), .int (iI ((sb : Nat) : Int)), .int (iI ((ea : Nat) : Int)), .int (iI ((eb : Nat) : Int))])), (st9, .inl (tI, 192, .inl (iA (iN d))))]) (fun _ => rfl) (fun r14 _ e14 => ?_)
        subst e14
        refine rb_if_eq hX 30 d_La_startOfRun_17 (by decide) (fun h17 => ?_) (fun h17 => ?_)
        · refine r_iincN hX (lv' := [(3, .int (iI ((k + 1 : Nat) : Int))), (2, .int (iI ((ra_cr d k : Nat) : Int))), (1, .int (iI x)), (0, .ref ly)]) 0 d_La_startOfRun_30 rfl (by decide) rfl ?_
          refine r_goto hX 4 d_La_startOfRun_33 (by decide) ?_
          refine r_eq (lv2 := [(3, .int (iI ((k + 1 : Nat) : Int))), (2, .int (iI ((ra_cr d (k + 1) : Nat) : Int))), (1, .int (iI x)), (0, .ref ly)]) (st2 := []) (ws2 := [(ly, .inr (6, [.ref st9, .int (iI ((ln : Nat) : Int)), .int (iI ((sa : Nat) : Int)), .int (iI ((sb : Nat) : Int)), .int (iI ((ea : Nat) : Int)), .int (iI ((eb : Nat) : Int))])), (st9, .inl (tI, 192, .inl (iA (iN d))))]) (by first | rw [ra_cr_t h17] | rw [ra_cr_f h17]) rfl rfl ?_
          exact ih4 _ (by omega) (k + 1) rfl (by omega) (fun t ht hb => by by_cases e : t = k; (subst e; first | exact h22 | exact absurd hb h17); exact hno t (by omega) hb)
        · refine r_iload_n hX 1 d_La_startOfRun_20 rfl ?_
          refine r_iload_n hX 2 d_La_startOfRun_21 rfl ?_
          refine r_icmp_ne hX 27 d_La_startOfRun_22 (by decide) (by unfold iR; omega) (by unfold iR; omega) (fun h22 => ?_) (fun h22 => ?_)
          · refine r_iincN hX (lv' := [(2, .int (iI ((ra_cr d k + 1 : Nat) : Int))), (3, .int (iI ((k : Nat) : Int))), (1, .int (iI x)), (0, .ref ly)]) 1 d_La_startOfRun_27 rfl (by decide) rfl ?_
            refine r_iincN hX (lv' := [(3, .int (iI ((k + 1 : Nat) : Int))), (2, .int (iI ((ra_cr d k + 1 : Nat) : Int))), (1, .int (iI x)), (0, .ref ly)]) 1 d_La_startOfRun_30 rfl (by decide) rfl ?_
            refine r_goto hX 4 d_La_startOfRun_33 (by decide) ?_
            refine r_eq (lv2 := [(3, .int (iI ((k + 1 : Nat) : Int))), (2, .int (iI ((ra_cr d (k + 1) : Nat) : Int))), (1, .int (iI x)), (0, .ref ly)]) (st2 := []) (ws2 := [(ly, .inr (6, [.ref st9, .int (iI ((ln : Nat) : Int)), .int (iI ((sa : Nat) : Int)), .int (iI ((sb : Nat) : Int)), .int (iI ((ea : Nat) : Int)), .int (iI ((eb : Nat) : Int))])), (st9, .inl (tI, 192, .inl (iA (iN d))))]) (by first | rw [ra_cr_t h17] | rw [ra_cr_f h17]) rfl rfl ?_
            exact ih4 _ (by omega) (k + 1) rfl (by omega) (fun t ht hb => by by_cases e : t = k; (subst e; first | exact h22 | exact absurd hb h17); exact hno t (by omega) hb)
          · refine r_iload_n hX 0 d_La_startOfRun_25 rfl ?_
            exact r_iret hX hT (k : Int) ⟨rfl, Or.inr ⟨k, by omega, rfl, h17, by omega⟩⟩ rfl (by decide) (by decide) d_La_startOfRun_26
  refine r_lv hX (lv' := [(3, .int (iI ((0 : Nat) : Int))), (2, .int (iI ((0 : Nat) : Int))), (1, .int (iI x)), (0, .ref ly)]) [0, 1, 3, 2] rfl ?_
  refine r_eq (lv2 := [(3, .int (iI ((0 : Nat) : Int))), (2, .int (iI ((ra_cr d 0 : Nat) : Int))), (1, .int (iI x)), (0, .ref ly)]) (st2 := []) (ws2 := [(ly, .inr (6, [.ref st9, .int (iI ((ln : Nat) : Int)), .int (iI ((sa : Nat) : Int)), .int (iI ((sb : Nat) : Int)), .int (iI ((ea : Nat) : Int)), .int (iI ((eb : Nat) : Int))])), (st9, .inl (tI, 192, .inl (iA (iN d))))]) rfl rfl rfl ?_
  exact L4 _ 0 rfl (by omega) (fun t ht => absurd ht (by omega))

abbrev rm_La_lengthOfRunAt : Room := { frames := 1, cells := 0, slots := 0, locals := 21 }
set_option maxHeartbeats 4000000 in
set_option maxRecDepth 100000 in
theorem c_La_lengthOfRunAt (l : Launch) (D : va_G) (tI tJ tZ : ClassId) (ly : Nat) (st9 : Nat) (ln : Nat) (sa : Nat) (sb : Nat) (ea : Nat) (eb : Nat) (d : Nat → Nat) (k0 : Nat) (hln : ln ≤ 192) (hd : ∀ t, d t < 3) (hk0 : k0 < ln) : rCi l y_La_lengthOfRunAt prog_5_method_9_code 3 .int rm_La_lengthOfRunAt D (tysA tI tJ tZ) [.ref ly, .int (iI ((k0 : Nat) : Int))] [(ly, .inr (6, [.ref st9, .int (iI ((ln : Nat) : Int)), .int (iI ((sa : Nat) : Int)), .int (iI ((sb : Nat) : Int)), .int (iI ((ea : Nat) : Int)), .int (iI ((eb : Nat) : Int))])), (st9, .inl (tI, 192, .inl (iA (iN d))))] (fun zz u => zz = iI ((u - k0 : Nat) : Int) ∧ k0 < u ∧ u ≤ ln ∧ (∀ t, k0 < t → t < u → ¬ ra_bg d t) ∧ (u = ln ∨ ra_bg d u)) (fun (u : Nat) => [(ly, .inr (6, [.ref st9, .int (iI ((ln : Nat) : Int)), .int (iI ((sa : Nat) : Int)), .int (iI ((sb : Nat) : Int)), .int (iI ((ea : Nat) : Int)), .int (iI ((eb : Nat) : Int))])), (st9, .inl (tI, 192, .inl (iA (iN d))))]) := by
  intro sz
  refine r_met (by decide) (Nat.le_of_ble_eq_true rfl) ?_
  intro F p e s m args below meth c Q A hX hT hAe hsz hin
  subst hAe
  replace hX : rOK F p l e rm_La_lengthOfRunAt s m args below meth c Q prog_5_method_9_code 3 "RowAligner$Laying" D (tysA tI tJ tZ) _ := hX
  show F 0 [(0, .ref ly), (1, .int (iI ((k0 : Nat) : Int)))] [] [(ly, .inr (6, [.ref st9, .int (iI ((ln : Nat) : Int)), .int (iI ((sa : Nat) : Int)), .int (iI ((sb : Nat) : Int)), .int (iI ((ea : Nat) : Int)), .int (iI ((eb : Nat) : Int))])), (st9, .inl (tI, 192, .inl (iA (iN d))))] 0 0
  refine r_iload_n hX 1 d_La_lengthOfRunAt_0 rfl ?_
  refine r_iconstN hX 1 d_La_lengthOfRunAt_1 rfl ?_
  refine r_iaddN hX d_La_lengthOfRunAt_2 ?_
  refine r_istore_n hX (lv' := [(2, .int (iI ((k0 + 1 : Nat) : Int))), (0, .ref ly), (1, .int (iI ((k0 : Nat) : Int)))]) d_La_lengthOfRunAt_3 rfl (by decide) rfl ?_
  have L4 : ∀ (dd : Nat) (k : Nat), ln - k = dd → (k ≤ ln) → (k0 < k) → (∀ t, k0 < t → t < k → ¬ ra_bg d t) → F 4 [(2, .int (iI ((k : Nat) : Int))), (1, .int (iI ((k0 : Nat) : Int))), (0, .ref ly)] [] [(ly, .inr (6, [.ref st9, .int (iI ((ln : Nat) : Int)), .int (iI ((sa : Nat) : Int)), .int (iI ((sb : Nat) : Int)), .int (iI ((ea : Nat) : Int)), .int (iI ((eb : Nat) : Int))])), (st9, .inl (tI, 192, .inl (iA (iN d))))] 0 0 := by
    intro dd
    induction dd using Nat.strongRecOn with
    | _ dd ih4 =>
      intro k hmu4 hk hk1 hno
      refine r_iload_n hX 0 d_La_lengthOfRunAt_4 rfl ?_
      refine r_aload_n hX 2 d_La_lengthOfRunAt_5 rfl ?_
      refine r_get hX cf_La 0 rfl 1 (by decide) fl_La_32 rfl d_La_lengthOfRunAt_6 ?_
      refine r_icmp_ge hX 26 d_La_lengthOfRunAt_9 (by decide) (by unfold iR; omega) (by unfold iR; omega) (fun h9 => ?_) (fun h9 => ?_)
      · refine r_iload_n hX 0 d_La_lengthOfRunAt_26 rfl ?_
        refine r_iload_n hX 1 d_La_lengthOfRunAt_27 rfl ?_
        refine r_isub hX d_La_lengthOfRunAt_28 ?_
        exact r_iret hX hT k ⟨congrArg iI (by omega), hk1, hk, hno, by first | exact Or.inr h17 | exact Or.inl (by omega)⟩ rfl (by decide) (by decide) d_La_lengthOfRunAt_29
      · refine r_aload_n hX 2 d_La_lengthOfRunAt_12 rfl ?_
        refine r_iload_n hX 0 d_La_lengthOfRunAt_13 rfl ?_
        refine r_invV_i0 (st := []) (As := [.int (iI ((k : Nat) : Int))]) (wr := []) hX (c_La_beginsRun l D tI tJ tZ ly st9 ln sa sb ea eb d k (by omega) hd) "RowAligner$Laying" 0 6 cf_La rfl yn_La_beginsRun ml_La_55 im_La_beginsRun se_La_beginsRun co_La_beginsRun in_La (by decide) (by decide) (by decide) [0, 1] [] rfl rfl rfl rfl rfl (by decide) rfl rfl (Nat.le_of_ble_eq_true rfl) d_La_lengthOfRunAt_14 [0, 1] rfl (w2 := fun _ => [(ly, .inr (6, [.ref st9, .int (iI ((ln : Nat) : Int)), .int (iI ((sa : Nat) : Int)), .int (iI ((sb : Nat) : Int)), .int (iI ((ea : Nat) : Int)), .int (iI ((eb : Nat) : Int))])), (st9, .inl (tI, 192, .inl (iA (iN d))))]) (fun _ => rfl) (fun r14 _ e14 => ?_)
        subst e14
        refine rb_if_ne hX 26 d_La_lengthOfRunAt_17 (by decide) (fun h17 => ?_) (fun h17 => ?_)
        · refine r_iload_n hX 0 d_La_lengthOfRunAt_26 rfl ?_
          refine r_iload_n hX 1 d_La_lengthOfRunAt_27 rfl ?_
          refine r_isub hX d_La_lengthOfRunAt_28 ?_
          exact r_iret hX hT k ⟨congrArg iI (by omega), hk1, hk, hno, by first | exact Or.inr h17 | exact Or.inl (by omega)⟩ rfl (by decide) (by decide) d_La_lengthOfRunAt_29
        · refine r_iincN hX (lv' := [(2, .int (iI ((k + 1 : Nat) : Int))), (1, .int (iI ((k0 : Nat) : Int))), (0, .ref ly)]) 0 d_La_lengthOfRunAt_20 rfl (by decide) rfl ?_
          refine r_goto hX 4 d_La_lengthOfRunAt_23 (by decide) ?_
          exact ih4 _ (by omega) (k + 1) rfl (by omega) (by omega) (fun t h1 h2 => by by_cases e : t = k; (subst e; exact h17); exact hno t h1 (by omega))
  refine r_lv hX (lv' := [(2, .int (iI ((k0 + 1 : Nat) : Int))), (1, .int (iI ((k0 : Nat) : Int))), (0, .ref ly)]) [0, 2, 1] rfl ?_
  exact L4 _ (k0 + 1) rfl (by omega) (by omega) (fun t h1 h2 => absurd h1 (by omega))

abbrev rm_La_follow : Room := { frames := 3, cells := 0, slots := 0, locals := 70 }
set_option maxHeartbeats 4000000 in
set_option maxRecDepth 100000 in
theorem c_La_follow (l : Launch) (D : va_G) (tI tJ tZ : ClassId) (ly : Nat) (st9 : Nat) (ln : Nat) (sa : Nat) (sb : Nat) (ea : Nat) (eb : Nat) (d : Nat → Nat) (se : Nat) (ou : Nat) (rs : Nat) (gr : Nat) (ra : Nat) (qa : Nat) (rb : Nat) (qb : Nat) (pr : Nat) (pa : Nat) (la : Nat) (lb : Nat) (LA : Nat → Nat) (LB : Nat → Nat) (SC : Nat → Int) (op : Int) (mo : Int) (fr : Nat) (pt : Bool) (best : Int) (si : Nat) (sj : Nat) (T : Nat → Int) (x1 : Int) (x2 : Int) (x3 : Int) (x4 : Int) (x5 : Int) (x6 : Int) (hH : raH la lb LA LB SC op mo fr) (hTD : ra_TD (ra_mk la lb LA LB SC op mo fr pt) T 0 0) (hsi : si ≤ la) (hsj : sj ≤ lb) (hd : ∀ t, d t < 3) : rCv l y_La_follow prog_5_method_2_code 4 rm_La_follow D (tysA tI tJ tZ) [.ref ly, .ref se] [(ly, .inr (6, [.ref st9, .int (iI ((ln : Nat) : Int)), .int (iI ((sa : Nat) : Int)), .int (iI ((sb : Nat) : Int)), .int (iI ((ea : Nat) : Int)), .int (iI ((eb : Nat) : Int))])), (st9, .inl (tI, 192, .inl (iA (iN d)))), (se, .inr (4, [.ref gr, .ref ou, .ref rs, .int (iI ((fr : Nat) : Int)), .int (iI (bI (pt = true))), .int (iI best), .int (iI ((si : Nat) : Int)), .int (iI ((sj : Nat) : Int))])), (ou, .inr (5, [.int (iI x1), .int (iI x2), .int (iI x3), .int (iI x4), .int (iI x5), .int (iI x6)])), (rs, .inl (tI, 28227, .inl (iA T))), (gr, .inr (1, [.ref ra, .ref rb, .ref pr])), (ra, .inr (2, [.ref qa, .int (iI ((la : Nat) : Int))])), (qa, .inl (tI, 96, .inl (iA (iN LA)))), (rb, .inr (2, [.ref qb, .int (iI ((lb : Nat) : Int))])), (qb, .inl (tI, 96, .inl (iA (iN LB)))), (pr, .inr (3, [.ref pa, .int (iI op), .int (iI mo)])), (pa, .inl (tI, 676, .inl (iA SC)))] (fun u => (∀ t, t < (ra_pth (ra_mk la lb LA LB SC op mo fr pt) 0 si sj).length → (ra_pth (ra_mk la lb LA LB SC op mo fr pt) 0 si sj)[t]? = some (u.1 t)) ∧ (∀ t, u.1 t < 3)) (fun (u : (Nat → Nat) × Int × Int × Int × Int × Int × Int) => [(ly, .inr (6, [.ref st9, .int (iI (((ra_pth (ra_mk la lb LA LB SC op mo fr pt) 0 si sj).length : Nat) : Int)), .int (iI ((si : Nat) : Int)), .int (iI ((sj : Nat) : Int)), .int (iI ((si + ra_qi u.1 (ra_pth (ra_mk la lb LA LB SC op mo fr pt) 0 si sj).length : Nat) : Int)), .int (iI ((sj + ra_qj u.1 (ra_pth (ra_mk la lb LA LB SC op mo fr pt) 0 si sj).length : Nat) : Int))])), (st9, .inl (tI, 192, .inl (iA (iN (u.1))))), (se, .inr (4, [.ref gr, .ref ou, .ref rs, .int (iI ((fr : Nat) : Int)), .int (iI (bI (pt = true))), .int (iI best), .int (iI ((si : Nat) : Int)), .int (iI ((sj : Nat) : Int))])), (ou, .inr (5, [.int (iI (u.2.1)), .int (iI (u.2.2.1)), .int (iI (u.2.2.2.1)), .int (iI (u.2.2.2.2.1)), .int (iI (u.2.2.2.2.2.1)), .int (iI (u.2.2.2.2.2.2))])), (rs, .inl (tI, 28227, .inl (iA T))), (gr, .inr (1, [.ref ra, .ref rb, .ref pr])), (ra, .inr (2, [.ref qa, .int (iI ((la : Nat) : Int))])), (qa, .inl (tI, 96, .inl (iA (iN LA)))), (rb, .inr (2, [.ref qb, .int (iI ((lb : Nat) : Int))])), (qb, .inl (tI, 96, .inl (iA (iN LB)))), (pr, .inr (3, [.ref pa, .int (iI op), .int (iI mo)])), (pa, .inl (tI, 676, .inl (iA SC)))]) := by
  intro sz
  refine r_met (by decide) (Nat.le_of_ble_eq_true rfl) ?_
  intro F p e s m args below meth c Q A hX hT hAe hsz hin
  subst hAe
  replace hX : rOK F p l e rm_La_follow s m args below meth c Q prog_5_method_2_code 4 "RowAligner$Laying" D (tysA tI tJ tZ) _ := hX
  have hH9 := hH
  obtain ⟨hla, hlb, hA, hB, hS, ho0, ho1, hm0, hm1, hf⟩ := hH9
  show F 0 [(0, .ref ly), (1, .ref se)] [] [(ly, .inr (6, [.ref st9, .int (iI ((ln : Nat) : Int)), .int (iI ((sa : Nat) : Int)), .int (iI ((sb : Nat) : Int)), .int (iI ((ea : Nat) : Int)), .int (iI ((eb : Nat) : Int))])), (st9, .inl (tI, 192, .inl (iA (iN d)))), (se, .inr (4, [.ref gr, .ref ou, .ref rs, .int (iI ((fr : Nat) : Int)), .int (iI (bI (pt = true))), .int (iI best), .int (iI ((si : Nat) : Int)), .int (iI ((sj : Nat) : Int))])), (ou, .inr (5, [.int (iI x1), .int (iI x2), .int (iI x3), .int (iI x4), .int (iI x5), .int (iI x6)])), (rs, .inl (tI, 28227, .inl (iA T))), (gr, .inr (1, [.ref ra, .ref rb, .ref pr])), (ra, .inr (2, [.ref qa, .int (iI ((la : Nat) : Int))])), (qa, .inl (tI, 96, .inl (iA (iN LA)))), (rb, .inr (2, [.ref qb, .int (iI ((lb : Nat) : Int))])), (qb, .inl (tI, 96, .inl (iA (iN LB)))), (pr, .inr (3, [.ref pa, .int (iI op), .int (iI mo)])), (pa, .inl (tI, 676, .inl (iA SC)))] 0 0
  refine r_aload_n hX 0 d_La_follow_0 rfl ?_
  refine r_aload_n hX 1 d_La_follow_1 rfl ?_
  refine r_get hX cf_Se 2 rfl 6 (by decide) fl_La_15 rfl d_La_follow_2 ?_
  refine r_put hX (ws' := [(ly, .inr (6, [.ref st9, .int (iI ((ln : Nat) : Int)), .int (iI ((si : Nat) : Int)), .int (iI ((sb : Nat) : Int)), .int (iI ((ea : Nat) : Int)), .int (iI ((eb : Nat) : Int))])), (st9, .inl (tI, 192, .inl (iA (iN d)))), (se, .inr (4, [.ref gr, .ref ou, .ref rs, .int (iI ((fr : Nat) : Int)), .int (iI (bI (pt = true))), .int (iI best), .int (iI ((si : Nat) : Int)), .int (iI ((sj : Nat) : Int))])), (ou, .inr (5, [.int (iI x1), .int (iI x2), .int (iI x3), .int (iI x4), .int (iI x5), .int (iI x6)])), (rs, .inl (tI, 28227, .inl (iA T))), (gr, .inr (1, [.ref ra, .ref rb, .ref pr])), (ra, .inr (2, [.ref qa, .int (iI ((la : Nat) : Int))])), (qa, .inl (tI, 96, .inl (iA (iN LA)))), (rb, .inr (2, [.ref qb, .int (iI ((lb : Nat) : Int))])), (qb, .inl (tI, 96, .inl (iA (iN LB)))), (pr, .inr (3, [.ref pa, .int (iI op), .int (iI mo)])), (pa, .inl (tI, 676, .inl (iA SC)))]) cf_La 0 rfl 2 (by decide) fl_La_21 rfl rfl rfl (Nat.le_of_ble_eq_true rfl) rfl d_La_follow_5 ?_
  refine r_aload_n hX 0 d_La_follow_8 rfl ?_
  refine r_aload_n hX 1 d_La_follow_9 rfl ?_
  refine r_get hX cf_Se 2 rfl 7 (by decide) fl_La_22 rfl d_La_follow_10 ?_
  refine r_put hX (ws' := [(ly, .inr (6, [.ref st9, .int (iI ((ln : Nat) : Int)), .int (iI ((si : Nat) : Int)), .int (iI ((sj : Nat) : Int)), .int (iI ((ea : Nat) : Int)), .int (iI ((eb : Nat) : Int))])), (st9, .inl (tI, 192, .inl (iA (iN d)))), (se, .inr (4, [.ref gr, .ref ou, .ref rs, .int (iI ((fr : Nat) : Int)), .int (iI (bI (pt = true))), .int (iI best), .int (iI ((si : Nat) : Int)), .int (iI ((sj : Nat) : Int))])), (ou, .inr (5, [.int (iI x1), .int (iI x2), .int (iI x3), .int (iI x4), .int (iI x5), .int (iI x6)])), (rs, .inl (tI, 28227, .inl (iA T))), (gr, .inr (1, [.ref ra, .ref rb, .ref pr])), (ra, .inr (2, [.ref qa, .int (iI ((la : Nat) : Int))])), (qa, .inl (tI, 96, .inl (iA (iN LA)))), (rb, .inr (2, [.ref qb, .int (iI ((lb : Nat) : Int))])), (qb, .inl (tI, 96, .inl (iA (iN LB)))), (pr, .inr (3, [.ref pa, .int (iI op), .int (iI mo)])), (pa, .inl (tI, 676, .inl (iA SC)))]) cf_La 0 rfl 3 (by decide) fl_La_25 rfl rfl rfl (Nat.le_of_ble_eq_true rfl) rfl d_La_follow_13 ?_
  refine r_aload_n hX 0 d_La_follow_16 rfl ?_
  refine r_aload_n hX 0 d_La_follow_17 rfl ?_
  refine r_get hX cf_La 0 rfl 2 (by decide) fl_La_21 rfl d_La_follow_18 ?_
  refine r_put hX (ws' := [(ly, .inr (6, [.ref st9, .int (iI ((ln : Nat) : Int)), .int (iI ((si : Nat) : Int)), .int (iI ((sj : Nat) : Int)), .int (iI ((si : Nat) : Int)), .int (iI ((eb : Nat) : Int))])), (st9, .inl (tI, 192, .inl (iA (iN d)))), (se, .inr (4, [.ref gr, .ref ou, .ref rs, .int (iI ((fr : Nat) : Int)), .int (iI (bI (pt = true))), .int (iI best), .int (iI ((si : Nat) : Int)), .int (iI ((sj : Nat) : Int))])), (ou, .inr (5, [.int (iI x1), .int (iI x2), .int (iI x3), .int (iI x4), .int (iI x5), .int (iI x6)])), (rs, .inl (tI, 28227, .inl (iA T))), (gr, .inr (1, [.ref ra, .ref rb, .ref pr])), (ra, .inr (2, [.ref qa, .int (iI ((la : Nat) : Int))])), (qa, .inl (tI, 96, .inl (iA (iN LA)))), (rb, .inr (2, [.ref qb, .int (iI ((lb : Nat) : Int))])), (qb, .inl (tI, 96, .inl (iA (iN LB)))), (pr, .inr (3, [.ref pa, .int (iI op), .int (iI mo)])), (pa, .inl (tI, 676, .inl (iA SC)))]) cf_La 0 rfl 4 (by decide) fl_La_26 rfl rfl rfl (Nat.le_of_ble_eq_true rfl) rfl d_La_follow_21 ?_
  refine r_aload_n hX 0 d_La_follow_24 rfl ?_
  refine r_aload_n hX 0 d_La_follow_25 rfl ?_
  refine r_get hX cf_La 0 rfl 3 (by decide) fl_La_25 rfl d_La_follow_26 ?_
  refine r_put hX (ws' := [(ly, .inr (6, [.ref st9, .int (iI ((ln : Nat) : Int)), .int (iI ((si : Nat) : Int)), .int (iI ((sj : Nat) : Int)), .int (iI ((si : Nat) : Int)), .int (iI ((sj : Nat) : Int))])), (st9, .inl (tI, 192, .inl (iA (iN d)))), (se, .inr (4, [.ref gr, .ref ou, .ref rs, .int (iI ((fr : Nat) : Int)), .int (iI (bI (pt = true))), .int (iI best), .int (iI ((si : Nat) : Int)), .int (iI ((sj : Nat) : Int))])), (ou, .inr (5, [.int (iI x1), .int (iI x2), .int (iI x3), .int (iI x4), .int (iI x5), .int (iI x6)])), (rs, .inl (tI, 28227, .inl (iA T))), (gr, .inr (1, [.ref ra, .ref rb, .ref pr])), (ra, .inr (2, [.ref qa, .int (iI ((la : Nat) : Int))])), (qa, .inl (tI, 96, .inl (iA (iN LA)))), (rb, .inr (2, [.ref qb, .int (iI ((lb : Nat) : Int))])), (qb, .inl (tI, 96, .inl (iA (iN LB)))), (pr, .inr (3, [.ref pa, .int (iI op), .int (iI mo)])), (pa, .inl (tI, 676, .inl (iA SC)))]) cf_La 0 rfl 5 (by decide) fl_La_29 rfl rfl rfl (Nat.le_of_ble_eq_true rfl) rfl d_La_follow_29 ?_
  refine r_iconstN hX 0 d_La_follow_32 rfl ?_
  refine r_istore_n hX (lv' := [(2, .int (iI ((0 : Nat) : Int))), (0, .ref ly), (1, .ref se)]) d_La_follow_33 rfl (by decide) rfl ?_
  refine r_aload_n hX 1 d_La_follow_34 rfl ?_
  refine r_iconstN hX 0 d_La_follow_35 rfl ?_
  refine r_put hX (ws' := [(ly, .inr (6, [.ref st9, .int (iI ((0 : Nat) : Int)), .int (iI ((si : Nat) : Int)), .int (iI ((sj : Nat) : Int)), .int (iI ((si : Nat) : Int)), .int (iI ((sj : Nat) : Int))])), (st9, .inl (tI, 192, .inl (iA (iN d)))), (se, .inr (4, [.ref gr, .ref ou, .ref rs, .int (iI ((fr : Nat) : Int)), .int (iI (bI (pt = true))), .int (iI best), .int (iI ((si : Nat) : Int)), .int (iI ((sj : Nat) : Int))])), (ou, .inr (5, [.int (iI x1), .int (iI x2), .int (iI x3), .int (iI x4), .int (iI x5), .int (iI x6)])), (rs, .inl (tI, 28227, .inl (iA T))), (gr, .inr (1, [.ref ra, .ref rb, .ref pr])), (ra, .inr (2, [.ref qa, .int (iI ((la : Nat) : Int))])), (qa, .inl (tI, 96, .inl (iA (iN LA)))), (rb, .inr (2, [.ref qb, .int (iI ((lb : Nat) : Int))])), (qb, .inl (tI, 96, .inl (iA (iN LB)))), (pr, .inr (3, [.ref pa, .int (iI op), .int (iI mo)])), (pa, .inl (tI, 676, .inl (iA SC)))]) cf_La 0 rfl 1 (by decide) fl_La_32 rfl rfl rfl (Nat.le_of_ble_eq_true rfl) rfl d_La_follow_36 ?_
  have L39 : ∀ (dd : Nat) (k : Nat) (d : Nat → Nat) (bf : Nat) (i : Nat) (j : Nat) (x1 : Int) (x2 : Int) (x3 : Int) (x4 : Int) (x5 : Int) (x6 : Int), 192 - k = dd → (k ≤ 192) → (ra_FL (ra_mk la lb LA LB SC op mo fr pt) si sj k d bf i j) → (∀ t, d t < 3) → F 39 [(2, .int (iI ((bf : Nat) : Int))), (1, .ref se), (0, .ref ly)] [] [(ly, .inr (6, [.ref st9, .int (iI ((k : Nat) : Int)), .int (iI ((si : Nat) : Int)), .int (iI ((sj : Nat) : Int)), .int (iI ((i : Nat) : Int)), .int (iI ((j : Nat) : Int))])), (st9, .inl (tI, 192, .inl (iA (iN d)))), (se, .inr (4, [.ref gr, .ref ou, .ref rs, .int (iI ((fr : Nat) : Int)), .int (iI (bI (pt = true))), .int (iI best), .int (iI ((si : Nat) : Int)), .int (iI ((sj : Nat) : Int))])), (ou, .inr (5, [.int (iI x1), .int (iI x2), .int (iI x3), .int (iI x4), .int (iI x5), .int (iI x6)])), (rs, .inl (tI, 28227, .inl (iA T))), (gr, .inr (1, [.ref ra, .ref rb, .ref pr])), (ra, .inr (2, [.ref qa, .int (iI ((la : Nat) : Int))])), (qa, .inl (tI, 96, .inl (iA (iN LA)))), (rb, .inr (2, [.ref qb, .int (iI ((lb : Nat) : Int))])), (qb, .inl (tI, 96, .inl (iA (iN LB)))), (pr, .inr (3, [.ref pa, .int (iI op), .int (iI mo)])), (pa, .inl (tI, 676, .inl (iA SC)))] 0 0 := by
    intro dd
    induction dd using Nat.strongRecOn with
    | _ dd ih39 =>
      intro k d bf i j x1 x2 x3 x4 x5 x6 hmu39 hk hFL hd
      refine r_aload_n hX 2 d_La_follow_39 rfl ?_
      refine r_get hX cf_La 0 rfl 1 (by decide) fl_La_32 rfl d_La_follow_40 ?_
      refine r_aload_n hX 2 d_La_follow_43 rfl ?_
      refine r_get hX cf_La 0 rfl 0 (by decide) fl_La_9 rfl d_La_follow_44 ?_
      refine r_alen hX 1 0 rfl rfl d_La_follow_47 ?_
      refine r_icmp_ge hX 131 d_La_follow_48 (by decide) (by unfold iR; omega) (by unfold iR; omega) (fun h48 => ?_) (fun h48 => ?_)
      · refine r_eq (lv2 := [(2, .int (iI ((bf : Nat) : Int))), (1, .ref se), (0, .ref ly)]) (st2 := []) (ws2 := [(ly, .inr (6, [.ref st9, .int (iI ((k : Nat) : Int)), .int (iI ((si : Nat) : Int)), .int (iI ((sj : Nat) : Int)), .int (iI ((si + ra_qi d k : Nat) : Int)), .int (iI ((sj + ra_qj d k : Nat) : Int))])), (st9, .inl (tI, 192, .inl (iA (iN d)))), (se, .inr (4, [.ref gr, .ref ou, .ref rs, .int (iI ((fr : Nat) : Int)), .int (iI (bI (pt = true))), .int (iI best), .int (iI ((si : Nat) : Int)), .int (iI ((sj : Nat) : Int))])), (ou, .inr (5, [.int (iI x1), .int (iI x2), .int (iI x3), .int (iI x4), .int (iI x5), .int (iI x6)])), (rs, .inl (tI, 28227, .inl (iA T))), (gr, .inr (1, [.ref ra, .ref rb, .ref pr])), (ra, .inr (2, [.ref qa, .int (iI ((la : Nat) : Int))])), (qa, .inl (tI, 96, .inl (iA (iN LA)))), (rb, .inr (2, [.ref qb, .int (iI ((lb : Nat) : Int))])), (qb, .inl (tI, 96, .inl (iA (iN LB)))), (pr, .inr (3, [.ref pa, .int (iI op), .int (iI mo)])), (pa, .inl (tI, 676, .inl (iA SC)))]) rfl rfl (by rw [← hFL.2.2.2.1, ← hFL.2.2.2.2.1]) ?_
        exact r_vret hX hT (d, x1, x2, x3, x4, x5, x6) ⟨fun t ht => hFL.2.2.2.2.2.2 t (by rw [(ra_FL_full (hH.bd pt) hFL hsi hsj (by omega))] at ht; exact ht), hd⟩ (by rw [(ra_FL_full (hH.bd pt) hFL hsi hsj (by omega))]) (by decide) (by decide) d_La_follow_131
      · have hi9 := hFL.2.1
        have hj9 := hFL.2.2.1
        change i ≤ la at hi9
        change j ≤ lb at hj9
        have hb9 := hFL.1
        have hk9 := ra_lk_X (hH.bd pt) hFL.2.1 hFL.2.2.1
        refine r_aload_n hX 1 d_La_follow_51 rfl ?_
        refine r_aload_n hX 2 d_La_follow_52 rfl ?_
        refine r_get hX cf_La 0 rfl 4 (by decide) fl_La_26 rfl d_La_follow_53 ?_
        refine r_aload_n hX 2 d_La_follow_56 rfl ?_
        refine r_get hX cf_La 0 rfl 5 (by decide) fl_La_29 rfl d_La_follow_57 ?_
        refine r_invV_v0 (st := []) (As := [.int (iI ((i : Nat) : Int)), .int (iI ((j : Nat) : Int))]) (wr := [(ly, .inr (6, [.ref st9, .int (iI ((k : Nat) : Int)), .int (iI ((si : Nat) : Int)), .int (iI ((sj : Nat) : Int)), .int (iI ((i : Nat) : Int)), .int (iI ((j : Nat) : Int))])), (st9, .inl (tI, 192, .inl (iA (iN d))))]) hX (c_Se_lookFrom l D tI tJ tZ se ou rs gr ra qa rb qb pr pa la lb LA LB SC op mo fr pt best si sj T x1 x2 x3 x4 x5 x6 i j hH hi9 hj9 (ra_TD_all hTD hFL.2.1 hFL.2.2.1)) "RowAligner$Search" 2 4 cf_Se rfl yn_Se_lookFrom ml_La_35 im_Se_lookFrom se_Se_lookFrom co_Se_lookFrom in_Se (by decide) (by decide) (by decide) [2, 3, 4, 5, 6, 7, 8, 9, 10, 11] [0, 1] rfl rfl rfl rfl rfl (by decide) rfl rfl (Nat.le_of_ble_eq_true rfl) d_La_follow_60 [0, 1, 2, 3, 4, 5, 6, 7, 8, 9, 10, 11] rfl (w2 := fun _ => [(ly, .inr (6, [.ref st9, .int (iI ((k : Nat) : Int)), .int (iI ((si : Nat) : Int)), .int (iI ((sj : Nat) : Int)), .int (iI ((i : Nat) : Int)), .int (iI ((j : Nat) : Int))])), (st9, .inl (tI, 192, .inl (iA (iN d)))), (se, .inr (4, [.ref gr, .ref ou, .ref rs, .int (iI ((fr : Nat) : Int)), .int (iI (bI (pt = true))), .int (iI best), .int (iI ((si : Nat) : Int)), .int (iI ((sj : Nat) : Int))])), (ou, .inr (5, [.int (iI (ra_xe (ra_mk la lb LA LB SC op mo fr pt) i j)), .int (iI (ra_xp (ra_mk la lb LA LB SC op mo fr pt) i j)), .int (iI (ra_xo (ra_mk la lb LA LB SC op mo fr pt) i j)), .int (iI (ra_xt (ra_mk la lb LA LB SC op mo fr pt) i j)), .int (iI (ra_o1 (ra_mk la lb LA LB SC op mo fr pt) j)), .int (iI (ra_o2 (ra_mk la lb LA LB SC op mo fr pt) i))])), (rs, .inl (tI, 28227, .inl (iA T))), (gr, .inr (1, [.ref ra, .ref rb, .ref pr])), (ra, .inr (2, [.ref qa, .int (iI ((la : Nat) : Int))])), (qa, .inl (tI, 96, .inl (iA (iN LA)))), (rb, .inr (2, [.ref qb, .int (iI ((lb : Nat) : Int))])), (qb, .inl (tI, 96, .inl (iA (iN LB)))), (pr, .inr (3, [.ref pa, .int (iI op), .int (iI mo)])), (pa, .inl (tI, 676, .inl (iA SC)))]) (fun _ => rfl) (fun _ _ => ?_)
        refine r_aload_n hX 1 d_La_follow_63 rfl ?_
        refine r_get hX cf_Se 2 rfl 1 (by decide) fl_La_39 rfl d_La_follow_64 ?_
        refine r_iload_n hX 0 d_La_follow_67 rfl ?_
        refine r_invV_i0 (st := []) (As := [.int (iI ((bf : Nat) : Int))]) (wr := [(ly, .inr (6, [.ref st9, .int (iI ((k : Nat) : Int)), .int (iI ((si : Nat) : Int)), .int (iI ((sj : Nat) : Int)), .int (iI ((i : Nat) : Int)), .int (iI ((j : Nat) : Int))])), (st9, .inl (tI, 192, .inl (iA (iN d)))), (se, .inr (4, [.ref gr, .ref ou, .ref rs, .int (iI ((fr : Nat) : Int)), .int (iI (bI (pt = true))), .int (iI best), .int (iI ((si : Nat) : Int)), .int (iI ((sj : Nat) : Int))])), (rs, .inl (tI, 28227, .inl (iA T))), (gr, .inr (1, [.ref ra, .ref rb, .ref pr])), (ra, .inr (2, [.ref qa, .int (iI ((la : Nat) : Int))])), (qa, .inl (tI, 96, .inl (iA (iN LA)))), (rb, .inr (2, [.ref qb, .int (iI ((lb : Nat) : Int))])), (qb, .inl (tI, 96, .inl (iA (iN LB)))), (pr, .inr (3, [.ref pa, .int (iI op), .int (iI mo)])), (pa, .inl (tI, 676, .inl (iA SC)))]) hX (c_Ou_firstBestStep l D tI tJ tZ ou (ra_xe (ra_mk la lb LA LB SC op mo fr pt) i j) (ra_xp (ra_mk la lb LA LB SC op mo fr pt) i j) (ra_xo (ra_mk la lb LA LB SC op mo fr pt) i j) (ra_xt (ra_mk la lb LA LB SC op mo fr pt) i j) (ra_o1 (ra_mk la lb LA LB SC op mo fr pt) j) (ra_o2 (ra_mk la lb LA LB SC op mo fr pt) i) bf hb9 hk9.1 hk9.2.1 hk9.2.2.1 hk9.2.2.2.1 hk9.2.2.2.2.1 hk9.2.2.2.2.2) "RowAligner$Outlook" 3 5 cf_Ou rfl yn_Ou_firstBestStep ml_La_43 im_Ou_firstBestStep se_Ou_firstBestStep co_Ou_firstBestStep in_Ou (by decide) (by decide) (by decide) [3] [0, 1, 2, 4, 5, 6, 7, 8, 9, 10, 11] rfl rfl rfl rfl rfl (by decide) rfl rfl (Nat.le_of_ble_eq_true rfl) d_La_follow_68 [0, 1, 2, 11, 3, 4, 5, 6, 7, 8, 9, 10] rfl (w2 := fun _ => [(ly, .inr (6, [.ref st9, .int (iI ((k : Nat) : Int)), .int (iI ((si : Nat) : Int)), .int (iI ((sj : Nat) : Int)), .int (iI ((i : Nat) : Int)), .int (iI ((j : Nat) : Int))])), (st9, .inl (tI, 192, .inl (iA (iN d)))), (se, .inr (4, [.ref gr, .ref ou, .ref rs, .int (iI ((fr : Nat) : Int)), .int (iI (bI (pt = true))), .int (iI best), .int (iI ((si : Nat) : Int)), .int (iI ((sj : Nat) : Int))])), (ou, .inr (5, [.int (iI (ra_xe (ra_mk la lb LA LB SC op mo fr pt) i j)), .int (iI (ra_xp (ra_mk la lb LA LB SC op mo fr pt) i j)), .int (iI (ra_xo (ra_mk la lb LA LB SC op mo fr pt) i j)), .int (iI (ra_xt (ra_mk la lb LA LB SC op mo fr pt) i j)), .int (iI (ra_o1 (ra_mk la lb LA LB SC op mo fr pt) j)), .int (iI (ra_o2 (ra_mk la lb LA LB SC op mo fr pt) i))])), (rs, .inl (tI, 28227, .inl (iA T))), (gr, .inr (1, [.ref ra, .ref rb, .ref pr])), (ra, .inr (2, [.ref qa, .int (iI ((la : Nat) : Int))])), (qa, .inl (tI, 96, .inl (iA (iN LA)))), (rb, .inr (2, [.ref qb, .int (iI ((lb : Nat) : Int))])), (qb, .inl (tI, 96, .inl (iA (iN LB)))), (pr, .inr (3, [.ref pa, .int (iI op), .int (iI mo)])), (pa, .inl (tI, 676, .inl (iA SC)))]) (fun _ => rfl) (fun r68 _ e68 => ?_)
        subst e68
        refine r_istore_n hX (lv' := [(3, .int (iI (ra_fb bf (ra_xe (ra_mk la lb LA LB SC op mo fr pt) i j) (ra_xp (ra_mk la lb LA LB SC op mo fr pt) i j) (ra_xo (ra_mk la lb LA LB SC op mo fr pt) i j) (ra_xt (ra_mk la lb LA LB SC op mo fr pt) i j) (ra_o1 (ra_mk la lb LA LB SC op mo fr pt) j) (ra_o2 (ra_mk la lb LA LB SC op mo fr pt) i)))), (2, .int (iI ((bf : Nat) : Int))), (1, .ref se), (0, .ref ly)]) d_La_follow_71 rfl (by decide) rfl ?_
        have hst := ra_fb_st (hH.bd pt) (b := bf) hFL.2.1 hFL.2.2.1
        have hsle := ra_st_le (ra_mk la lb LA LB SC op mo fr pt) bf i j
        refine r_iload_n hX 0 d_La_follow_72 rfl ?_
        refine r_iconst hX d_La_follow_73 ?_
        refine r_icmp_ne hX 80 d_La_follow_74 (by decide) (by unfold iR; omega) (by unfold iR; omega) (fun h74 => ?_) (fun h74 => ?_)
        · have hs3 : ra_st (ra_mk la lb LA LB SC op mo fr pt) bf i j ≠ 3 := fun q => by rw [if_pos q] at hst; omega
          rw [if_neg hs3] at hst
          have hs2 : ra_st (ra_mk la lb LA LB SC op mo fr pt) bf i j < 3 := by omega
          refine r_eq (lv2 := [(3, .int (iI ((ra_st (ra_mk la lb LA LB SC op mo fr pt) bf i j : Nat) : Int))), (2, .int (iI ((bf : Nat) : Int))), (1, .ref se), (0, .ref ly)]) (st2 := []) (ws2 := [(ly, .inr (6, [.ref st9, .int (iI ((k : Nat) : Int)), .int (iI ((si : Nat) : Int)), .int (iI ((sj : Nat) : Int)), .int (iI ((i : Nat) : Int)), .int (iI ((j : Nat) : Int))])), (st9, .inl (tI, 192, .inl (iA (iN d)))), (se, .inr (4, [.ref gr, .ref ou, .ref rs, .int (iI ((fr : Nat) : Int)), .int (iI (bI (pt = true))), .int (iI best), .int (iI ((si : Nat) : Int)), .int (iI ((sj : Nat) : Int))])), (ou, .inr (5, [.int (iI (ra_xe (ra_mk la lb LA LB SC op mo fr pt) i j)), .int (iI (ra_xp (ra_mk la lb LA LB SC op mo fr pt) i j)), .int (iI (ra_xo (ra_mk la lb LA LB SC op mo fr pt) i j)), .int (iI (ra_xt (ra_mk la lb LA LB SC op mo fr pt) i j)), .int (iI (ra_o1 (ra_mk la lb LA LB SC op mo fr pt) j)), .int (iI (ra_o2 (ra_mk la lb LA LB SC op mo fr pt) i))])), (rs, .inl (tI, 28227, .inl (iA T))), (gr, .inr (1, [.ref ra, .ref rb, .ref pr])), (ra, .inr (2, [.ref qa, .int (iI ((la : Nat) : Int))])), (qa, .inl (tI, 96, .inl (iA (iN LA)))), (rb, .inr (2, [.ref qb, .int (iI ((lb : Nat) : Int))])), (qb, .inl (tI, 96, .inl (iA (iN LB)))), (pr, .inr (3, [.ref pa, .int (iI op), .int (iI mo)])), (pa, .inl (tI, 676, .inl (iA SC)))]) (by rw [hst]) rfl rfl ?_
          refine r_aload_n hX 3 d_La_follow_80 rfl ?_
          refine r_get hX cf_La 0 rfl 0 (by decide) fl_La_9 rfl d_La_follow_81 ?_
          refine r_aload_n hX 3 d_La_follow_84 rfl ?_
          refine r_get hX cf_La 0 rfl 1 (by decide) fl_La_32 rfl d_La_follow_85 ?_
          refine r_iload_n hX 0 d_La_follow_88 rfl ?_
          refine r_iastN hX (ws' := [(ly, .inr (6, [.ref st9, .int (iI ((k : Nat) : Int)), .int (iI ((si : Nat) : Int)), .int (iI ((sj : Nat) : Int)), .int (iI ((i : Nat) : Int)), .int (iI ((j : Nat) : Int))])), (st9, .inl (tI, 192, .inl (iA (iN (iU d k (ra_st (ra_mk la lb LA LB SC op mo fr pt) bf i j)))))), (se, .inr (4, [.ref gr, .ref ou, .ref rs, .int (iI ((fr : Nat) : Int)), .int (iI (bI (pt = true))), .int (iI best), .int (iI ((si : Nat) : Int)), .int (iI ((sj : Nat) : Int))])), (ou, .inr (5, [.int (iI (ra_xe (ra_mk la lb LA LB SC op mo fr pt) i j)), .int (iI (ra_xp (ra_mk la lb LA LB SC op mo fr pt) i j)), .int (iI (ra_xo (ra_mk la lb LA LB SC op mo fr pt) i j)), .int (iI (ra_xt (ra_mk la lb LA LB SC op mo fr pt) i j)), .int (iI (ra_o1 (ra_mk la lb LA LB SC op mo fr pt) j)), .int (iI (ra_o2 (ra_mk la lb LA LB SC op mo fr pt) i))])), (rs, .inl (tI, 28227, .inl (iA T))), (gr, .inr (1, [.ref ra, .ref rb, .ref pr])), (ra, .inr (2, [.ref qa, .int (iI ((la : Nat) : Int))])), (qa, .inl (tI, 96, .inl (iA (iN LA)))), (rb, .inr (2, [.ref qb, .int (iI ((lb : Nat) : Int))])), (qb, .inl (tI, 96, .inl (iA (iN LB)))), (pr, .inr (3, [.ref pa, .int (iI op), .int (iI mo)])), (pa, .inl (tI, 676, .inl (iA SC)))]) 1 0 rfl rfl (k) rfl (by omega) (by decide) rfl d_La_follow_89 ?_
          refine r_aload_n hX 3 d_La_follow_90 rfl ?_
          refine r_dup hX d_La_follow_91 rfl ?_
          refine r_get hX cf_La 0 rfl 4 (by decide) fl_La_26 rfl d_La_follow_92 ?_
          refine r_iload_n hX 0 d_La_follow_95 rfl ?_
          refine r_invSN_i0 (st := [.int (iI ((i : Nat) : Int)), .ref ly]) (As := [.int (iI ((ra_st (ra_mk la lb LA LB SC op mo fr pt) bf i j : Nat) : Int))]) (wr := [(ly, .inr (6, [.ref st9, .int (iI ((k : Nat) : Int)), .int (iI ((si : Nat) : Int)), .int (iI ((sj : Nat) : Int)), .int (iI ((i : Nat) : Int)), .int (iI ((j : Nat) : Int))])), (st9, .inl (tI, 192, .inl (iA (iN (iU d k (ra_st (ra_mk la lb LA LB SC op mo fr pt) bf i j)))))), (se, .inr (4, [.ref gr, .ref ou, .ref rs, .int (iI ((fr : Nat) : Int)), .int (iI (bI (pt = true))), .int (iI best), .int (iI ((si : Nat) : Int)), .int (iI ((sj : Nat) : Int))])), (ou, .inr (5, [.int (iI (ra_xe (ra_mk la lb LA LB SC op mo fr pt) i j)), .int (iI (ra_xp (ra_mk la lb LA LB SC op mo fr pt) i j)), .int (iI (ra_xo (ra_mk la lb LA LB SC op mo fr pt) i j)), .int (iI (ra_xt (ra_mk la lb LA LB SC op mo fr pt) i j)), .int (iI (ra_o1 (ra_mk la lb LA LB SC op mo fr pt) j)), .int (iI (ra_o2 (ra_mk la lb LA LB SC op mo fr pt) i))])), (rs, .inl (tI, 28227, .inl (iA T))), (gr, .inr (1, [.ref ra, .ref rb, .ref pr])), (ra, .inr (2, [.ref qa, .int (iI ((la : Nat) : Int))])), (qa, .inl (tI, 96, .inl (iA (iN LA)))), (rb, .inr (2, [.ref qb, .int (iI ((lb : Nat) : Int))])), (qb, .inl (tI, 96, .inl (iA (iN LB)))), (pr, .inr (3, [.ref pa, .int (iI op), .int (iI mo)])), (pa, .inl (tI, 676, .inl (iA SC)))]) hX (c_Ra_lettersOfA l D tI tJ tZ (ra_st (ra_mk la lb LA LB SC op mo fr pt) bf i j) hs2) yn_Ra_lettersOfA mn_La_49 st_Ra_lettersOfA co_Ra_lettersOfA in_Ra (by decide) (by decide) (by decide) [] [0, 1, 2, 3, 4, 5, 6, 7, 8, 9, 10, 11] rfl rfl rfl rfl rfl (by decide) rfl rfl (Nat.le_of_ble_eq_true rfl) d_La_follow_96 [0, 1, 2, 3, 4, 5, 6, 7, 8, 9, 10, 11] rfl (w2 := fun _ => [(ly, .inr (6, [.ref st9, .int (iI ((k : Nat) : Int)), .int (iI ((si : Nat) : Int)), .int (iI ((sj : Nat) : Int)), .int (iI ((i : Nat) : Int)), .int (iI ((j : Nat) : Int))])), (st9, .inl (tI, 192, .inl (iA (iN (iU d k (ra_st (ra_mk la lb LA LB SC op mo fr pt) bf i j)))))), (se, .inr (4, [.ref gr, .ref ou, .ref rs, .int (iI ((fr : Nat) : Int)), .int (iI (bI (pt = true))), .int (iI best), .int (iI ((si : Nat) : Int)), .int (iI ((sj : Nat) : Int))])), (ou, .inr (5, [.int (iI (ra_xe (ra_mk la lb LA LB SC op mo fr pt) i j)), .int (iI (ra_xp (ra_mk la lb LA LB SC op mo fr pt) i j)), .int (iI (ra_xo (ra_mk la lb LA LB SC op mo fr pt) i j)), .int (iI (ra_xt (ra_mk la lb LA LB SC op mo fr pt) i j)), .int (iI (ra_o1 (ra_mk la lb LA LB SC op mo fr pt) j)), .int (iI (ra_o2 (ra_mk la lb LA LB SC op mo fr pt) i))])), (rs, .inl (tI, 28227, .inl (iA T))), (gr, .inr (1, [.ref ra, .ref rb, .ref pr])), (ra, .inr (2, [.ref qa, .int (iI ((la : Nat) : Int))])), (qa, .inl (tI, 96, .inl (iA (iN LA)))), (rb, .inr (2, [.ref qb, .int (iI ((lb : Nat) : Int))])), (qb, .inl (tI, 96, .inl (iA (iN LB)))), (pr, .inr (3, [.ref pa, .int (iI op), .int (iI mo)])), (pa, .inl (tI, 676, .inl (iA SC)))]) (fun _ => rfl) (fun r96 _ e96 => ?_)
          subst e96
          refine r_iaddN hX d_La_follow_99 ?_
          refine r_put hX (ws' := [(ly, .inr (6, [.ref st9, .int (iI ((k : Nat) : Int)), .int (iI ((si : Nat) : Int)), .int (iI ((sj : Nat) : Int)), .int (iI ((i + (ra_da (ra_st (ra_mk la lb LA LB SC op mo fr pt) bf i j)) : Nat) : Int)), .int (iI ((j : Nat) : Int))])), (st9, .inl (tI, 192, .inl (iA (iN (iU d k (ra_st (ra_mk la lb LA LB SC op mo fr pt) bf i j)))))), (se, .inr (4, [.ref gr, .ref ou, .ref rs, .int (iI ((fr : Nat) : Int)), .int (iI (bI (pt = true))), .int (iI best), .int (iI ((si : Nat) : Int)), .int (iI ((sj : Nat) : Int))])), (ou, .inr (5, [.int (iI (ra_xe (ra_mk la lb LA LB SC op mo fr pt) i j)), .int (iI (ra_xp (ra_mk la lb LA LB SC op mo fr pt) i j)), .int (iI (ra_xo (ra_mk la lb LA LB SC op mo fr pt) i j)), .int (iI (ra_xt (ra_mk la lb LA LB SC op mo fr pt) i j)), .int (iI (ra_o1 (ra_mk la lb LA LB SC op mo fr pt) j)), .int (iI (ra_o2 (ra_mk la lb LA LB SC op mo fr pt) i))])), (rs, .inl (tI, 28227, .inl (iA T))), (gr, .inr (1, [.ref ra, .ref rb, .ref pr])), (ra, .inr (2, [.ref qa, .int (iI ((la : Nat) : Int))])), (qa, .inl (tI, 96, .inl (iA (iN LA)))), (rb, .inr (2, [.ref qb, .int (iI ((lb : Nat) : Int))])), (qb, .inl (tI, 96, .inl (iA (iN LB)))), (pr, .inr (3, [.ref pa, .int (iI op), .int (iI mo)])), (pa, .inl (tI, 676, .inl (iA SC)))]) cf_La 0 rfl 4 (by decide) fl_La_26 rfl rfl rfl (Nat.le_of_ble_eq_true rfl) rfl d_La_follow_100 ?_
          refine r_aload_n hX 3 d_La_follow_103 rfl ?_
          refine r_dup hX d_La_follow_104 rfl ?_
          refine r_get hX cf_La 0 rfl 5 (by decide) fl_La_29 rfl d_La_follow_105 ?_
          refine r_iload_n hX 0 d_La_follow_108 rfl ?_
          refine r_invSN_i0 (st := [.int (iI ((j : Nat) : Int)), .ref ly]) (As := [.int (iI ((ra_st (ra_mk la lb LA LB SC op mo fr pt) bf i j : Nat) : Int))]) (wr := [(ly, .inr (6, [.ref st9, .int (iI ((k : Nat) : Int)), .int (iI ((si : Nat) : Int)), .int (iI ((sj : Nat) : Int)), .int (iI ((i + (ra_da (ra_st (ra_mk la lb LA LB SC op mo fr pt) bf i j)) : Nat) : Int)), .int (iI ((j : Nat) : Int))])), (st9, .inl (tI, 192, .inl (iA (iN (iU d k (ra_st (ra_mk la lb LA LB SC op mo fr pt) bf i j)))))), (se, .inr (4, [.ref gr, .ref ou, .ref rs, .int (iI ((fr : Nat) : Int)), .int (iI (bI (pt = true))), .int (iI best), .int (iI ((si : Nat) : Int)), .int (iI ((sj : Nat) : Int))])), (ou, .inr (5, [.int (iI (ra_xe (ra_mk la lb LA LB SC op mo fr pt) i j)), .int (iI (ra_xp (ra_mk la lb LA LB SC op mo fr pt) i j)), .int (iI (ra_xo (ra_mk la lb LA LB SC op mo fr pt) i j)), .int (iI (ra_xt (ra_mk la lb LA LB SC op mo fr pt) i j)), .int (iI (ra_o1 (ra_mk la lb LA LB SC op mo fr pt) j)), .int (iI (ra_o2 (ra_mk la lb LA LB SC op mo fr pt) i))])), (rs, .inl (tI, 28227, .inl (iA T))), (gr, .inr (1, [.ref ra, .ref rb, .ref pr])), (ra, .inr (2, [.ref qa, .int (iI ((la : Nat) : Int))])), (qa, .inl (tI, 96, .inl (iA (iN LA)))), (rb, .inr (2, [.ref qb, .int (iI ((lb : Nat) : Int))])), (qb, .inl (tI, 96, .inl (iA (iN LB)))), (pr, .inr (3, [.ref pa, .int (iI op), .int (iI mo)])), (pa, .inl (tI, 676, .inl (iA SC)))]) hX (c_Ra_lettersOfB l D tI tJ tZ (ra_st (ra_mk la lb LA LB SC op mo fr pt) bf i j) hs2) yn_Ra_lettersOfB mn_La_52 st_Ra_lettersOfB co_Ra_lettersOfB in_Ra (by decide) (by decide) (by decide) [] [0, 1, 2, 3, 4, 5, 6, 7, 8, 9, 10, 11] rfl rfl rfl rfl rfl (by decide) rfl rfl (Nat.le_of_ble_eq_true rfl) d_La_follow_109 [0, 1, 2, 3, 4, 5, 6, 7, 8, 9, 10, 11] rfl (w2 := fun _ => [(ly, .inr (6, [.ref st9, .int (iI ((k : Nat) : Int)), .int (iI ((si : Nat) : Int)), .int (iI ((sj : Nat) : Int)), .int (iI ((i + (ra_da (ra_st (ra_mk la lb LA LB SC op mo fr pt) bf i j)) : Nat) : Int)), .int (iI ((j : Nat) : Int))])), (st9, .inl (tI, 192, .inl (iA (iN (iU d k (ra_st (ra_mk la lb LA LB SC op mo fr pt) bf i j)))))), (se, .inr (4, [.ref gr, .ref ou, .ref rs, .int (iI ((fr : Nat) : Int)), .int (iI (bI (pt = true))), .int (iI best), .int (iI ((si : Nat) : Int)), .int (iI ((sj : Nat) : Int))])), (ou, .inr (5, [.int (iI (ra_xe (ra_mk la lb LA LB SC op mo fr pt) i j)), .int (iI (ra_xp (ra_mk la lb LA LB SC op mo fr pt) i j)), .int (iI (ra_xo (ra_mk la lb LA LB SC op mo fr pt) i j)), .int (iI (ra_xt (ra_mk la lb LA LB SC op mo fr pt) i j)), .int (iI (ra_o1 (ra_mk la lb LA LB SC op mo fr pt) j)), .int (iI (ra_o2 (ra_mk la lb LA LB SC op mo fr pt) i))])), (rs, .inl (tI, 28227, .inl (iA T))), (gr, .inr (1, [.ref ra, .ref rb, .ref pr])), (ra, .inr (2, [.ref qa, .int (iI ((la : Nat) : Int))])), (qa, .inl (tI, 96, .inl (iA (iN LA)))), (rb, .inr (2, [.ref qb, .int (iI ((lb : Nat) : Int))])), (qb, .inl (tI, 96, .inl (iA (iN LB)))), (pr, .inr (3, [.ref pa, .int (iI op), .int (iI mo)])), (pa, .inl (tI, 676, .inl (iA SC)))]) (fun _ => rfl) (fun r109 _ e109 => ?_)
          subst e109
          refine r_iaddN hX d_La_follow_112 ?_
          refine r_put hX (ws' := [(ly, .inr (6, [.ref st9, .int (iI ((k : Nat) : Int)), .int (iI ((si : Nat) : Int)), .int (iI ((sj : Nat) : Int)), .int (iI ((i + (ra_da (ra_st (ra_mk la lb LA LB SC op mo fr pt) bf i j)) : Nat) : Int)), .int (iI ((j + (ra_db (ra_st (ra_mk la lb LA LB SC op mo fr pt) bf i j)) : Nat) : Int))])), (st9, .inl (tI, 192, .inl (iA (iN (iU d k (ra_st (ra_mk la lb LA LB SC op mo fr pt) bf i j)))))), (se, .inr (4, [.ref gr, .ref ou, .ref rs, .int (iI ((fr : Nat) : Int)), .int (iI (bI (pt = true))), .int (iI best), .int (iI ((si : Nat) : Int)), .int (iI ((sj : Nat) : Int))])), (ou, .inr (5, [.int (iI (ra_xe (ra_mk la lb LA LB SC op mo fr pt) i j)), .int (iI (ra_xp (ra_mk la lb LA LB SC op mo fr pt) i j)), .int (iI (ra_xo (ra_mk la lb LA LB SC op mo fr pt) i j)), .int (iI (ra_xt (ra_mk la lb LA LB SC op mo fr pt) i j)), .int (iI (ra_o1 (ra_mk la lb LA LB SC op mo fr pt) j)), .int (iI (ra_o2 (ra_mk la lb LA LB SC op mo fr pt) i))])), (rs, .inl (tI, 28227, .inl (iA T))), (gr, .inr (1, [.ref ra, .ref rb, .ref pr])), (ra, .inr (2, [.ref qa, .int (iI ((la : Nat) : Int))])), (qa, .inl (tI, 96, .inl (iA (iN LA)))), (rb, .inr (2, [.ref qb, .int (iI ((lb : Nat) : Int))])), (qb, .inl (tI, 96, .inl (iA (iN LB)))), (pr, .inr (3, [.ref pa, .int (iI op), .int (iI mo)])), (pa, .inl (tI, 676, .inl (iA SC)))]) cf_La 0 rfl 5 (by decide) fl_La_29 rfl rfl rfl (Nat.le_of_ble_eq_true rfl) rfl d_La_follow_113 ?_
          refine r_iload_n hX 0 d_La_follow_116 rfl ?_
          refine r_istore_n hX (lv' := [(2, .int (iI ((ra_st (ra_mk la lb LA LB SC op mo fr pt) bf i j : Nat) : Int))), (3, .int (iI ((ra_st (ra_mk la lb LA LB SC op mo fr pt) bf i j : Nat) : Int))), (1, .ref se), (0, .ref ly)]) d_La_follow_117 rfl (by decide) rfl ?_
          refine r_aload_n hX 3 d_La_follow_118 rfl ?_
          refine r_dup hX d_La_follow_119 rfl ?_
          refine r_get hX cf_La 0 rfl 1 (by decide) fl_La_32 rfl d_La_follow_120 ?_
          refine r_iconstN hX 1 d_La_follow_123 rfl ?_
          refine r_iaddN hX d_La_follow_124 ?_
          refine r_put hX (ws' := [(ly, .inr (6, [.ref st9, .int (iI ((k + 1 : Nat) : Int)), .int (iI ((si : Nat) : Int)), .int (iI ((sj : Nat) : Int)), .int (iI ((i + (ra_da (ra_st (ra_mk la lb LA LB SC op mo fr pt) bf i j)) : Nat) : Int)), .int (iI ((j + (ra_db (ra_st (ra_mk la lb LA LB SC op mo fr pt) bf i j)) : Nat) : Int))])), (st9, .inl (tI, 192, .inl (iA (iN (iU d k (ra_st (ra_mk la lb LA LB SC op mo fr pt) bf i j)))))), (se, .inr (4, [.ref gr, .ref ou, .ref rs, .int (iI ((fr : Nat) : Int)), .int (iI (bI (pt = true))), .int (iI best), .int (iI ((si : Nat) : Int)), .int (iI ((sj : Nat) : Int))])), (ou, .inr (5, [.int (iI (ra_xe (ra_mk la lb LA LB SC op mo fr pt) i j)), .int (iI (ra_xp (ra_mk la lb LA LB SC op mo fr pt) i j)), .int (iI (ra_xo (ra_mk la lb LA LB SC op mo fr pt) i j)), .int (iI (ra_xt (ra_mk la lb LA LB SC op mo fr pt) i j)), .int (iI (ra_o1 (ra_mk la lb LA LB SC op mo fr pt) j)), .int (iI (ra_o2 (ra_mk la lb LA LB SC op mo fr pt) i))])), (rs, .inl (tI, 28227, .inl (iA T))), (gr, .inr (1, [.ref ra, .ref rb, .ref pr])), (ra, .inr (2, [.ref qa, .int (iI ((la : Nat) : Int))])), (qa, .inl (tI, 96, .inl (iA (iN LA)))), (rb, .inr (2, [.ref qb, .int (iI ((lb : Nat) : Int))])), (qb, .inl (tI, 96, .inl (iA (iN LB)))), (pr, .inr (3, [.ref pa, .int (iI op), .int (iI mo)])), (pa, .inl (tI, 676, .inl (iA SC)))]) cf_La 0 rfl 1 (by decide) fl_La_32 rfl rfl rfl (Nat.le_of_ble_eq_true rfl) rfl d_La_follow_125 ?_
          refine r_goto hX 39 d_La_follow_128 (by decide) ?_
          refine r_lv hX (lv' := [(2, .int (iI ((ra_st (ra_mk la lb LA LB SC op mo fr pt) bf i j : Nat) : Int))), (1, .ref se), (0, .ref ly)]) [0, 2, 3] rfl ?_
          refine r_eq (lv2 := [(2, .int (iI ((ra_st (ra_mk la lb LA LB SC op mo fr pt) bf i j : Nat) : Int))), (1, .ref se), (0, .ref ly)]) (st2 := []) (ws2 := [(ly, .inr (6, [.ref st9, .int (iI ((k + 1 : Nat) : Int)), .int (iI ((si : Nat) : Int)), .int (iI ((sj : Nat) : Int)), .int (iI ((i + ra_da (ra_st (ra_mk la lb LA LB SC op mo fr pt) bf i j) : Nat) : Int)), .int (iI ((j + ra_db (ra_st (ra_mk la lb LA LB SC op mo fr pt) bf i j) : Nat) : Int))])), (st9, .inl (tI, 192, .inl (iA (iN (iU d k (ra_st (ra_mk la lb LA LB SC op mo fr pt) bf i j)))))), (se, .inr (4, [.ref gr, .ref ou, .ref rs, .int (iI ((fr : Nat) : Int)), .int (iI (bI (pt = true))), .int (iI best), .int (iI ((si : Nat) : Int)), .int (iI ((sj : Nat) : Int))])), (ou, .inr (5, [.int (iI (ra_xe (ra_mk la lb LA LB SC op mo fr pt) i j)), .int (iI (ra_xp (ra_mk la lb LA LB SC op mo fr pt) i j)), .int (iI (ra_xo (ra_mk la lb LA LB SC op mo fr pt) i j)), .int (iI (ra_xt (ra_mk la lb LA LB SC op mo fr pt) i j)), .int (iI (ra_o1 (ra_mk la lb LA LB SC op mo fr pt) j)), .int (iI (ra_o2 (ra_mk la lb LA LB SC op mo fr pt) i))])), (rs, .inl (tI, 28227, .inl (iA T))), (gr, .inr (1, [.ref ra, .ref rb, .ref pr])), (ra, .inr (2, [.ref qa, .int (iI ((la : Nat) : Int))])), (qa, .inl (tI, 96, .inl (iA (iN LA)))), (rb, .inr (2, [.ref qb, .int (iI ((lb : Nat) : Int))])), (qb, .inl (tI, 96, .inl (iA (iN LB)))), (pr, .inr (3, [.ref pa, .int (iI op), .int (iI mo)])), (pa, .inl (tI, 676, .inl (iA SC)))]) rfl rfl rfl ?_
          exact ih39 _ (by omega) (k + 1) (iU d k (ra_st (ra_mk la lb LA LB SC op mo fr pt) bf i j)) (ra_st (ra_mk la lb LA LB SC op mo fr pt) bf i j) (i + ra_da (ra_st (ra_mk la lb LA LB SC op mo fr pt) bf i j)) (j + ra_db (ra_st (ra_mk la lb LA LB SC op mo fr pt) bf i j)) (ra_xe (ra_mk la lb LA LB SC op mo fr pt) i j) (ra_xp (ra_mk la lb LA LB SC op mo fr pt) i j) (ra_xo (ra_mk la lb LA LB SC op mo fr pt) i j) (ra_xt (ra_mk la lb LA LB SC op mo fr pt) i j) (ra_o1 (ra_mk la lb LA LB SC op mo fr pt) j) (ra_o2 (ra_mk la lb LA LB SC op mo fr pt) i) rfl (by omega) (ra_FL_step (hH.bd pt) hFL hs3) (fun t => by unfold iU; split; (exact hs2); exact hd t)
        · have hs3 : ra_st (ra_mk la lb LA LB SC op mo fr pt) bf i j = 3 := Classical.byContradiction fun q => by rw [if_neg q] at hst; omega
          have hlen := ra_FL_stop (hH.bd pt) hFL hs3
          refine r_goto hX 131 d_La_follow_77 (by decide) ?_
          refine r_eq (lv2 := [(3, .int (iI (ra_fb bf (ra_xe (ra_mk la lb LA LB SC op mo fr pt) i j) (ra_xp (ra_mk la lb LA LB SC op mo fr pt) i j) (ra_xo (ra_mk la lb LA LB SC op mo fr pt) i j) (ra_xt (ra_mk la lb LA LB SC op mo fr pt) i j) (ra_o1 (ra_mk la lb LA LB SC op mo fr pt) j) (ra_o2 (ra_mk la lb LA LB SC op mo fr pt) i)))), (2, .int (iI ((bf : Nat) : Int))), (1, .ref se), (0, .ref ly)]) (st2 := []) (ws2 := [(ly, .inr (6, [.ref st9, .int (iI ((k : Nat) : Int)), .int (iI ((si : Nat) : Int)), .int (iI ((sj : Nat) : Int)), .int (iI ((si + ra_qi d k : Nat) : Int)), .int (iI ((sj + ra_qj d k : Nat) : Int))])), (st9, .inl (tI, 192, .inl (iA (iN d)))), (se, .inr (4, [.ref gr, .ref ou, .ref rs, .int (iI ((fr : Nat) : Int)), .int (iI (bI (pt = true))), .int (iI best), .int (iI ((si : Nat) : Int)), .int (iI ((sj : Nat) : Int))])), (ou, .inr (5, [.int (iI (ra_xe (ra_mk la lb LA LB SC op mo fr pt) i j)), .int (iI (ra_xp (ra_mk la lb LA LB SC op mo fr pt) i j)), .int (iI (ra_xo (ra_mk la lb LA LB SC op mo fr pt) i j)), .int (iI (ra_xt (ra_mk la lb LA LB SC op mo fr pt) i j)), .int (iI (ra_o1 (ra_mk la lb LA LB SC op mo fr pt) j)), .int (iI (ra_o2 (ra_mk la lb LA LB SC op mo fr pt) i))])), (rs, .inl (tI, 28227, .inl (iA T))), (gr, .inr (1, [.ref ra, .ref rb, .ref pr])), (ra, .inr (2, [.ref qa, .int (iI ((la : Nat) : Int))])), (qa, .inl (tI, 96, .inl (iA (iN LA)))), (rb, .inr (2, [.ref qb, .int (iI ((lb : Nat) : Int))])), (qb, .inl (tI, 96, .inl (iA (iN LB)))), (pr, .inr (3, [.ref pa, .int (iI op), .int (iI mo)])), (pa, .inl (tI, 676, .inl (iA SC)))]) rfl rfl (by rw [← hFL.2.2.2.1, ← hFL.2.2.2.2.1]) ?_
          exact r_vret hX hT (d, ra_xe (ra_mk la lb LA LB SC op mo fr pt) i j, ra_xp (ra_mk la lb LA LB SC op mo fr pt) i j, ra_xo (ra_mk la lb LA LB SC op mo fr pt) i j, ra_xt (ra_mk la lb LA LB SC op mo fr pt) i j, ra_o1 (ra_mk la lb LA LB SC op mo fr pt) j, ra_o2 (ra_mk la lb LA LB SC op mo fr pt) i) ⟨fun t ht => hFL.2.2.2.2.2.2 t (by rw [hlen] at ht; exact ht), hd⟩ (by rw [hlen]) (by decide) (by decide) d_La_follow_131
  refine r_lv hX (lv' := [(2, .int (iI ((0 : Nat) : Int))), (1, .ref se), (0, .ref ly)]) [0, 2, 1] rfl ?_
  exact L39 _ 0 d 0 si sj x1 x2 x3 x4 x5 x6 rfl (by omega) (ra_FL_0 d hsi hsj) hd
