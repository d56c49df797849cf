abbrev rmx_La_beginsRun : Room := { frames := 0, cells := 0, slots := 0, locals := 0 }
set_option maxHeartbeats 4000000 in
set_option maxRecDepth 100000 in
theorem x_La_beginsRun (l : Launch) (D : va_G) (tI tJ tZ : ClassId) (ly : Nat) (st9 : Nat) (ln : Nat) (sa : Nat) (sb : Nat) (ea : Nat) (eb : Nat) (d : Nat → Nat) (k : Nat) (hk : k < 192) (hd : ∀ t, d t < 3) : qCi l y_La_beginsRun prog_5_method_3_code 2 .boolean rmx_La_beginsRun D (tysA tI tJ tZ) [.ref ly, .int (iI ((k : Nat) : Int))] [(ly, .inr (6, [.ref st9, .int (iI ((ln : Nat) : Int)), .int (iI ((sa : Nat) : Int)), .int (iI ((sb : Nat) : Int)), .int (iI ((ea : Nat) : Int)), .int (iI ((eb : Nat) : Int))])), (st9, .inl (tI, 192, .inl (iA (iN d))))] (fun zz (_ : Unit) => zz = iI (bI (ra_bg d k))) := by
  intro sz
  refine Met.weak (q_wk_i (B := fun _ => rB D (tysA tI tJ tZ) (fun _ => True) [(ly, .inr (6, [.ref st9, .int (iI ((ln : Nat) : Int)), .int (iI ((sa : Nat) : Int)), .int (iI ((sb : Nat) : Int)), .int (iI ((ea : Nat) : Int)), .int (iI ((eb : Nat) : Int))])), (st9, .inl (tI, 192, .inl (iA (iN d))))])) (q_met (by decide) (Nat.le_of_ble_eq_true rfl) ?_)
  intro F p e s m args below meth c Q A hX hT hAe hsz hin
  subst hAe
  replace hX : qOK F p l e rmx_La_beginsRun s m args below meth c Q prog_5_method_3_code 2 "RowAligner$Laying" D (tysA tI tJ tZ) _ := hX
  show F 0 [(0, .ref ly), (1, .int (iI ((k : Nat) : Int)))] [] [(ly, .inr (6, [.ref st9, .int (iI ((ln : Nat) : Int)), .int (iI ((sa : Nat) : Int)), .int (iI ((sb : Nat) : Int)), .int (iI ((ea : Nat) : Int)), .int (iI ((eb : Nat) : Int))])), (st9, .inl (tI, 192, .inl (iA (iN d))))] 0 0
  refine q_iload_n hX 1 d_La_beginsRun_0 rfl ?_
  have J26 : F 26 [(0, .ref ly), (1, .int (iI ((k : Nat) : Int)))] [.int (iI (bI (ra_bg d k)))] [(ly, .inr (6, [.ref st9, .int (iI ((ln : Nat) : Int)), .int (iI ((sa : Nat) : Int)), .int (iI ((sb : Nat) : Int)), .int (iI ((ea : Nat) : Int)), .int (iI ((eb : Nat) : Int))])), (st9, .inl (tI, 192, .inl (iA (iN d))))] 0 0 := by
    exact q_zret hX hT (bI_01 _) () rfl rfl (by decide) (by decide) d_La_beginsRun_26
  refine q_if_eq hX 21 d_La_beginsRun_1 (by decide) (by unfold iR; omega) (fun h1 => ?_) (fun h1 => ?_)
  · refine q_iconstN hX 1 d_La_beginsRun_21 rfl ?_
    refine q_goto hX 26 d_La_beginsRun_22 (by decide) ?_
    exact rj_1 (by first | exact Or.inl (by omega) | exact Or.inr (by omega) | (rintro (q | q) <;> omega)) J26
  · refine q_aload_n hX 0 d_La_beginsRun_4 rfl ?_
    refine q_get hX cf_La 0 rfl 0 (by decide) fl_La_9 rfl d_La_beginsRun_5 ?_
    refine q_iload_n hX 1 d_La_beginsRun_8 rfl ?_
    refine q_ialdN hX 1 0 rfl rfl (k) rfl (by omega) (by decide) d_La_beginsRun_9 ?_
    refine q_aload_n hX 0 d_La_beginsRun_10 rfl ?_
    refine q_get hX cf_La 0 rfl 0 (by decide) fl_La_9 rfl d_La_beginsRun_11 ?_
    refine q_iload_n hX 1 d_La_beginsRun_14 rfl ?_
    refine q_iconstN hX 1 d_La_beginsRun_15 rfl ?_
    refine q_isub hX d_La_beginsRun_16 ?_
    refine q_ialdN hX 1 0 rfl rfl (k - 1) (by omega) (by omega) (by decide) d_La_beginsRun_17 ?_
    have hd1 := hd k
    have hd2 := hd (k - 1)
    refine q_icmp_eq hX 25 d_La_beginsRun_18 (by decide) (by unfold iR; omega) (by unfold iR; omega) (fun h18 => ?_) (fun h18 => ?_)
    · refine q_iconstN hX 0 d_La_beginsRun_25 rfl ?_
      exact rj_0 (by first | exact Or.inl (by omega) | exact Or.inr (by omega) | (rintro (q | q) <;> omega)) J26
    · refine q_iconstN hX 1 d_La_beginsRun_21 rfl ?_
      refine q_goto hX 26 d_La_beginsRun_22 (by decide) ?_
      exact rj_1 (by first | exact Or.inl (by omega) | exact Or.inr (by omega) | (rintro (q | q) <;> omega)) J26

abbrev rmx_La_startOfRun : Room := { frames := 1, cells := 0, slots := 0, locals := 21 }
set_option maxHeartbeats 4000000 in
set_option maxRecDepth 100000 in
theorem x_La_startOfRun (l : Launch) (D : va_G) (tI tJ tZ : ClassId) (ly : Nat) (st9 : Nat) (ln : Nat) (sa : Nat) (sb : Nat) (ea : Nat) (eb : Nat) (d : Nat → Nat) (x : Int) (hln : ln ≤ 192) (hd : ∀ t, d t < 3) (hx : iR x) : qCi l y_La_startOfRun prog_5_method_8_code 4 .int rmx_La_startOfRun D (tysA tI tJ tZ) [.ref ly, .int (iI x)] [(ly, .inr (6, [.ref st9, .int (iI ((ln : Nat) : Int)), .int (iI ((sa : Nat) : Int)), .int (iI ((sb : Nat) : Int)), .int (iI ((ea : Nat) : Int)), .int (iI ((eb : Nat) : Int))])), (st9, .inl (tI, 192, .inl (iA (iN d))))] (fun zz (u : Int) => zz = iI u ∧ ((u = -1 ∧ ∀ k, k < ln → ra_bg d k → ((ra_cr d k : Nat) : Int) ≠ x) ∨ (∃ k : Nat, k < ln ∧ u = (k : Int) ∧ ra_bg d k ∧ ((ra_cr d k : Nat) : Int) = x))) := by
  intro sz
  refine Met.weak (q_wk_i (B := fun _ => rB D (tysA tI tJ tZ) (fun _ => True) [(ly, .inr (6, [.ref st9, .int (iI ((ln : Nat) : Int)), .int (iI ((sa : Nat) : Int)), .int (iI ((sb : Nat) : Int)), .int (iI ((ea : Nat) : Int)), .int (iI ((eb : Nat) : Int))])), (st9, .inl (tI, 192, .inl (iA (iN d))))])) (q_met (by decide) (Nat.le_of_ble_eq_true rfl) ?_)
  intro F p e s m args below meth c Q A hX hT hAe hsz hin
  subst hAe
  replace hX : qOK F p l e rmx_La_startOfRun s m args below meth c Q prog_5_method_8_code 4 "RowAligner$Laying" D (tysA tI tJ tZ) _ := hX
  show F 0 [(0, .ref ly), (1, .int (iI x))] [] [(ly, .inr (6, [.ref st9, .int (iI ((ln : Nat) : Int)), .int (iI ((sa : Nat) : Int)), .int (iI ((sb : Nat) : Int)), .int (iI ((ea : Nat) : Int)), .int (iI ((eb : Nat) : Int))])), (st9, .inl (tI, 192, .inl (iA (iN d))))] 0 0
  refine q_iconstN hX 0 d_La_startOfRun_0 rfl ?_
  refine q_istore_n hX (lv' := [(2, .int (iI ((0 : Nat) : Int))), (0, .ref ly), (1, .int (iI x))]) d_La_startOfRun_1 rfl (by decide) rfl ?_
  refine q_iconstN hX 0 d_La_startOfRun_2 rfl ?_
  refine q_istore_n hX (lv' := [(3, .int (iI ((0 : Nat) : Int))), (2, .int (iI ((0 : Nat) : Int))), (0, .ref ly), (1, .int (iI x))]) d_La_startOfRun_3 rfl (by decide) rfl ?_
  have L4 : ∀ (dd : Nat) (k : Nat), ln - k = dd → (k ≤ ln) → (∀ t, t < k → ra_bg d t → ((ra_cr d t : Nat) : Int) ≠ x) → F 4 [(3, .int (iI ((k : Nat) : Int))), (2, .int (iI ((ra_cr d k : Nat) : Int))), (1, .int (iI x)), (0, .ref ly)] [] [(ly, .inr (6, [.ref st9, .int (iI ((ln : Nat) : Int)), .int (iI ((sa : Nat) : Int)), .int (iI ((sb : Nat) : Int)), .int (iI ((ea : Nat) : Int)), .int (iI ((eb : Nat) : Int))])), (st9, .inl (tI, 192, .inl (iA (iN d))))] 0 0 := by
    intro dd
    induction dd using Nat.strongRecOn with
    | _ dd ih4 =>
      intro k hmu4 hk hno
      refine q_iload_n hX 0 d_La_startOfRun_4 rfl ?_
      refine q_aload_n hX 3 d_La_startOfRun_5 rfl ?_
      refine q_get hX cf_La 0 rfl 1 (by decide) fl_La_32 rfl d_La_startOfRun_6 ?_
      refine q_icmp_ge hX 36 d_La_startOfRun_9 (by decide) (by unfold iR; omega) (by unfold iR; omega) (fun h9 => ?_) (fun h9 => ?_)
      · refine q_iconst hX d_La_startOfRun_36 ?_
        exact q_iret hX hT (-1) ⟨rfl, Or.inl ⟨rfl, fun t ht hb => hno t (by omega) hb⟩⟩ rfl (by decide) (by decide) d_La_startOfRun_37
      · have hcr := ra_cr_le d k
        unfold iR at hx
        refine q_aload_n hX 3 d_La_startOfRun_12 rfl ?_
        refine q_iload_n hX 0 d_La_startOfRun_13 rfl ?_
        refine q_invV_i0 (st := []) (As := [.int (iI ((k : Nat) : Int))]) hX (x_La_beginsRun l D tI tJ tZ ly st9 ln sa sb ea eb d k (by omega) hd) "RowAligner$Laying" 0 6 cf_La rfl yn_La_beginsRun ml_La_55 im_La_beginsRun se_La_beginsRun co_La_beginsRun in_La (by decide) (by decide) (by decide) [0, 1] rfl rfl rfl rfl rfl (Nat.le_of_ble_eq_true rfl) d_La_startOfRun_14 (fun r14 _ e14 => ?_)
        subst e14
        refine qb_if_eq hX 30 d_La_startOfRun_17 (by decide) (fun h17 => ?_) (fun h17 => ?_)
        · refine q_iincN hX (lv' := [(3, .int (iI ((k + 1 : Nat) : Int))), (2, .int (iI ((ra_cr d k : Nat) : Int))), (1, .int (iI x)), (0, .ref ly)]) 0 d_La_startOfRun_30 rfl (by decide) rfl ?_
          refine q_goto hX 4 d_La_startOfRun_33 (by decide) ?_
          refine r_eq (lv2 := [(3, .int (iI ((k + 1 : Nat) : Int))), (2, .int (iI ((ra_cr d (k + 1) : Nat) : Int))), (1, .int (iI x)), (0, .ref ly)]) (st2 := []) (ws2 := [(ly, .inr (6, [.ref st9, .int (iI ((ln : Nat) : Int)), .int (iI ((sa : Nat) : Int)), .int (iI ((sb : Nat) : Int)), .int (iI ((ea : Nat) : Int)), .int (iI ((eb : Nat) : Int))])), (st9, .inl (tI, 192, .inl (iA (iN d))))]) (by first | rw [ra_cr_t h17] | rw [ra_cr_f h17]) rfl rfl ?_
          exact ih4 _ (by omega) (k + 1) rfl (by omega) (fun t ht hb => by by_cases e : t = k; (subst e; first | exact h22 | exact absurd hb h17); exact hno t (by omega) hb)
        · refine q_iload_n hX 1 d_La_startOfRun_20 rfl ?_
          refine q_iload_n hX 2 d_La_startOfRun_21 rfl ?_
          refine q_icmp_ne hX 27 d_La_startOfRun_22 (by decide) (by unfold iR; omega) (by unfold iR; omega) (fun h22 => ?_) (fun h22 => ?_)
          · refine q_iincN hX (lv' := [(2, .int (iI ((ra_cr d k + 1 : Nat) : Int))), (3, .int (iI ((k : Nat) : Int))), (1, .int (iI x)), (0, .ref ly)]) 1 d_La_startOfRun_27 rfl (by decide) rfl ?_
            refine q_iincN hX (lv' := [(3, .int (iI ((k + 1 : Nat) : Int))), (2, .int (iI ((ra_cr d k + 1 : Nat) : Int))), (1, .int (iI x)), (0, .ref ly)]) 1 d_La_startOfRun_30 rfl (by decide) rfl ?_
            refine q_goto hX 4 d_La_startOfRun_33 (by decide) ?_
            refine r_eq (lv2 := [(3, .int (iI ((k + 1 : Nat) : Int))), (2, .int (iI ((ra_cr d (k + 1) : Nat) : Int))), (1, .int (iI x)), (0, .ref ly)]) (st2 := []) (ws2 := [(ly, .inr (6, [.ref st9, .int (iI ((ln : Nat) : Int)), .int (iI ((sa : Nat) : Int)), .int (iI ((sb : Nat) : Int)), .int (iI ((ea : Nat) : Int)), .int (iI ((eb : Nat) : Int))])), (st9, .inl (tI, 192, .inl (iA (iN d))))]) (by first | rw [ra_cr_t h17] | rw [ra_cr_f h17]) rfl rfl ?_
            exact ih4 _ (by omega) (k + 1) rfl (by omega) (fun t ht hb => by by_cases e : t = k; (subst e; first | exact h22 | exact absurd hb h17); exact hno t (by omega) hb)
          · refine q_iload_n hX 0 d_La_startOfRun_25 rfl ?_
            exact q_iret hX hT (k : Int) ⟨rfl, Or.inr ⟨k, by omega, rfl, h17, by omega⟩⟩ rfl (by decide) (by decide) d_La_startOfRun_26
  refine q_lv hX (lv' := [(3, .int (iI ((0 : Nat) : Int))), (2, .int (iI ((0 : Nat) : Int))), (1, .int (iI x)), (0, .ref ly)]) [0, 1, 3, 2] rfl ?_
  refine r_eq (lv2 := [(3, .int (iI ((0 : Nat) : Int))), (2, .int (iI ((ra_cr d 0 : Nat) : Int))), (1, .int (iI x)), (0, .ref ly)]) (st2 := []) (ws2 := [(ly, .inr (6, [.ref st9, .int (iI ((ln : Nat) : Int)), .int (iI ((sa : Nat) : Int)), .int (iI ((sb : Nat) : Int)), .int (iI ((ea : Nat) : Int)), .int (iI ((eb : Nat) : Int))])), (st9, .inl (tI, 192, .inl (iA (iN d))))]) rfl rfl rfl ?_
  exact L4 _ 0 rfl (by omega) (fun t ht => absurd ht (by omega))

abbrev rmx_Ra_refuseUnlaid : Room := { frames := 0, cells := 0, slots := 0, locals := 0 }
set_option maxHeartbeats 4000000 in
set_option maxRecDepth 100000 in
theorem x_Ra_refuseUnlaid (l : Launch) (D : va_G) (tI tJ tZ : ClassId) (rz : Nat) (gr : Nat) (se : Nat) (ly : Nat) (wc : Nat) (cf : Nat) (dr : Nat) (ld : Bool) (wn : Bool) (xf : Bool) (cw : Int64) (hl : ld = true) : qCv l y_Ra_refuseUnlaid prog_1_method_27_code 1 rmx_Ra_refuseUnlaid D (tysA tI tJ tZ) [.ref rz] [(rz, .inr (0, [.ref gr, .ref se, .ref ly, .ref wc, .ref cf, .ref dr, .int (iI (bI (ld = true))), .int (iI (bI (wn = true))), .int (iI (bI (xf = true))), .long cw]))] (fun (_ : Unit) => True) := by
  intro sz
  refine Met.weak (q_wk_v (B := fun _ => rB D (tysA tI tJ tZ) (fun _ => True) [(rz, .inr (0, [.ref gr, .ref se, .ref ly, .ref wc, .ref cf, .ref dr, .int (iI (bI (ld = true))), .int (iI (bI (wn = true))), .int (iI (bI (xf = true))), .long cw]))])) (q_met (by decide) (Nat.le_of_ble_eq_true rfl) ?_)
  intro F p e s m args below meth c Q A hX hT hAe hsz hin
  subst hAe
  replace hX : qOK F p l e rmx_Ra_refuseUnlaid s m args below meth c Q prog_1_method_27_code 1 "RowAligner" D (tysA tI tJ tZ) _ := hX
  show F 0 [(0, .ref rz)] [] [(rz, .inr (0, [.ref gr, .ref se, .ref ly, .ref wc, .ref cf, .ref dr, .int (iI (bI (ld = true))), .int (iI (bI (wn = true))), .int (iI (bI (xf = true))), .long cw]))] 0 0
  refine q_aload_n hX 0 d_Ra_refuseUnlaid_0 rfl ?_
  refine q_get hX cf_Ra 0 rfl 6 (by decide) fl_Ra_81 rfl d_Ra_refuseUnlaid_1 ?_
  refine qb_if_ne hX 15 d_Ra_refuseUnlaid_4 (by decide) (fun h4 => ?_) (fun h4 => by exfalso; exact h4 hl)
  exact q_vret hX hT () trivial rfl (by decide) (by decide) d_Ra_refuseUnlaid_15

abbrev rmx_Ra_existingRow_0 : Room := { frames := 1, cells := 0, slots := 0, locals := 20 }
set_option maxHeartbeats 4000000 in
set_option maxRecDepth 100000 in
theorem x_Ra_existingRow_0 (l : Launch) (D : va_G) (tI tJ tZ : ClassId) (rz : Nat) (gr : Nat) (se : Nat) (ly : Nat) (wc : Nat) (cf : Nat) (dr : Nat) (ld : Bool) (wn : Bool) (xf : Bool) (cw : Int64) (ra : Nat) (rb : Nat) (pr : Nat) : qCr l y_Ra_existingRow prog_1_method_23_code 2 (.object "RowAligner$Row") rmx_Ra_existingRow_0 D (tysA tI tJ tZ) [.ref rz, .int (iI ((0 : Nat) : Int))] [(rz, .inr (0, [.ref gr, .ref se, .ref ly, .ref wc, .ref cf, .ref dr, .int (iI (bI (ld = true))), .int (iI (bI (wn = true))), .int (iI (bI (xf = true))), .long cw])), (gr, .inr (1, [.ref ra, .ref rb, .ref pr]))] ra := by
  intro sz
  refine Met.weak (q_wk_r (B := rB D (tysA tI tJ tZ) (fun _ => True) [(rz, .inr (0, [.ref gr, .ref se, .ref ly, .ref wc, .ref cf, .ref dr, .int (iI (bI (ld = true))), .int (iI (bI (wn = true))), .int (iI (bI (xf = true))), .long cw])), (gr, .inr (1, [.ref ra, .ref rb, .ref pr]))])) (q_met (by decide) (Nat.le_of_ble_eq_true rfl) ?_)
  intro F p e s m args below meth c Q A hX hT hAe hsz hin
  subst hAe
  replace hX : qOK F p l e rmx_Ra_existingRow_0 s m args below meth c Q prog_1_method_23_code 2 "RowAligner" D (tysA tI tJ tZ) _ := hX
  show F 0 [(0, .ref rz), (1, .int (iI ((0 : Nat) : Int)))] [] [(rz, .inr (0, [.ref gr, .ref se, .ref ly, .ref wc, .ref cf, .ref dr, .int (iI (bI (ld = true))), .int (iI (bI (wn = true))), .int (iI (bI (xf = true))), .long cw])), (gr, .inr (1, [.ref ra, .ref rb, .ref pr]))] 0 0
  refine q_iload_n hX 1 d_Ra_existingRow_0 rfl ?_
  refine q_invS_v0 (st := []) (As := [.int (iI ((0 : Nat) : Int))]) hX (q_of_rv (c_Ra_refuseOtherRows l D tI tJ tZ 0 (by omega))) yn_Ra_refuseOtherRows ml_Ra_138 st_Ra_refuseOtherRows co_Ra_refuseOtherRows in_Ra (by decide) (by decide) (by decide) [] rfl rfl rfl rfl rfl (Nat.le_of_ble_eq_true rfl) d_Ra_existingRow_1 (fun _ _ => ?_)
  refine q_iload_n hX 1 d_Ra_existingRow_4 rfl ?_
  refine q_if_ne hX 18 d_Ra_existingRow_5 (by decide) (by unfold iR; omega) (fun h5 => by exfalso; omega) (fun h5 => ?_)
  refine q_aload_n hX 0 d_Ra_existingRow_8 rfl ?_
  refine q_get hX cf_Ra 0 rfl 0 (by decide) fl_Ra_12 rfl d_Ra_existingRow_9 ?_
  refine q_get hX cf_Gr 1 rfl 0 (by decide) fl_Ra_184 rfl d_Ra_existingRow_12 ?_
  refine q_goto hX 25 d_Ra_existingRow_15 (by decide) ?_
  exact q_aret hX hT rfl (by decide) (by decide) d_Ra_existingRow_25

abbrev rmx_Ra_existingRow_1 : Room := { frames := 1, cells := 0, slots := 0, locals := 20 }
set_option maxHeartbeats 4000000 in
set_option maxRecDepth 100000 in
theorem x_Ra_existingRow_1 (l : Launch) (D : va_G) (tI tJ tZ : ClassId) (rz : Nat) (gr : Nat) (se : Nat) (ly : Nat) (wc : Nat) (cf : Nat) (dr : Nat) (ld : Bool) (wn : Bool) (xf : Bool) (cw : Int64) (ra : Nat) (rb : Nat) (pr : Nat) : qCr l y_Ra_existingRow prog_1_method_23_code 2 (.object "RowAligner$Row") rmx_Ra_existingRow_1 D (tysA tI tJ tZ) [.ref rz, .int (iI ((1 : Nat) : Int))] [(rz, .inr (0, [.ref gr, .ref se, .ref ly, .ref wc, .ref cf, .ref dr, .int (iI (bI (ld = true))), .int (iI (bI (wn = true))), .int (iI (bI (xf = true))), .long cw])), (gr, .inr (1, [.ref ra, .ref rb, .ref pr]))] rb := by
  intro sz
  refine Met.weak (q_wk_r (B := rB D (tysA tI tJ tZ) (fun _ => True) [(rz, .inr (0, [.ref gr, .ref se, .ref ly, .ref wc, .ref cf, .ref dr, .int (iI (bI (ld = true))), .int (iI (bI (wn = true))), .int (iI (bI (xf = true))), .long cw])), (gr, .inr (1, [.ref ra, .ref rb, .ref pr]))])) (q_met (by decide) (Nat.le_of_ble_eq_true rfl) ?_)
  intro F p e s m args below meth c Q A hX hT hAe hsz hin
  subst hAe
  replace hX : qOK F p l e rmx_Ra_existingRow_1 s m args below meth c Q prog_1_method_23_code 2 "RowAligner" D (tysA tI tJ tZ) _ := hX
  show F 0 [(0, .ref rz), (1, .int (iI ((1 : Nat) : Int)))] [] [(rz, .inr (0, [.ref gr, .ref se, .ref ly, .ref wc, .ref cf, .ref dr, .int (iI (bI (ld = true))), .int (iI (bI (wn = true))), .int (iI (bI (xf = true))), .long cw])), (gr, .inr (1, [.ref ra, .ref rb, .ref pr]))] 0 0
  refine q_iload_n hX 1 d_Ra_existingRow_0 rfl ?_
  refine q_invS_v0 (st := []) (As := [.int (iI ((1 : Nat) : Int))]) hX (q_of_rv (c_Ra_refuseOtherRows l D tI tJ tZ 1 (by omega))) yn_Ra_refuseOtherRows ml_Ra_138 st_Ra_refuseOtherRows co_Ra_refuseOtherRows in_Ra (by decide) (by decide) (by decide) [] rfl rfl rfl rfl rfl (Nat.le_of_ble_eq_true rfl) d_Ra_existingRow_1 (fun _ _ => ?_)
  refine q_iload_n hX 1 d_Ra_existingRow_4 rfl ?_
  refine q_if_ne hX 18 d_Ra_existingRow_5 (by decide) (by unfold iR; omega) (fun h5 => ?_) (fun h5 => by exfalso; omega)
  refine q_aload_n hX 0 d_Ra_existingRow_18 rfl ?_
  refine q_get hX cf_Ra 0 rfl 0 (by decide) fl_Ra_12 rfl d_Ra_existingRow_19 ?_
  refine q_get hX cf_Gr 1 rfl 1 (by decide) fl_Ra_218 rfl d_Ra_existingRow_22 ?_
  exact q_aret hX hT rfl (by decide) (by decide) d_Ra_existingRow_25
