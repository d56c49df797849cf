abbrev rm_Ra_run_0 : Room := { frames := 2, cells := 0, slots := 0, locals := 44 }
set_option maxHeartbeats 4000000 in
set_option maxRecDepth 100000 in
theorem c_Ra_run_0 (l : Launch) (D : va_G) (tI tJ tZ : ClassId) (rz : Nat) (gr : Nat) (se : Nat) (ly : Nat) (wc : Nat) (cf : Nat) (dr : Nat) (ld : Bool) (wn : Bool) (xf : Bool) (cw : Int64) (st9 : Nat) (ln : Nat) (sa : Nat) (sb : Nat) (ea : Nat) (eb : Nat) (d : Nat → Nat) (x : Nat) (hl : ld = true) (hs : ln ≤ 192) (hd : ∀ t, d t < 3) (hn : x < ra_cr d ln) : rCi l y_Ra_run prog_1_method_16_code 4 .int rm_Ra_run_0 D (tysA tI tJ tZ) [.ref rz, .int (iI ((x : Nat) : Int)), .int (iI ((0 : Nat) : Int))] [(rz, .inr (0, [.ref gr, .ref se, .ref ly, .ref wc, .ref cf, .ref dr, .int (iI (bI (ld = true))), .int (iI (bI (wn = true))), .int (iI (bI (xf = true))), .long cw])), (ly, .inr (6, [.ref st9, .int (iI ((ln : Nat) : Int)), .int (iI ((sa : Nat) : Int)), .int (iI ((sb : Nat) : Int)), .int (iI ((ea : Nat) : Int)), .int (iI ((eb : Nat) : Int))])), (st9, .inl (tI, 192, .inl (iA (iN d))))] (fun zz (_ : Unit) => zz = iI (((ra_rk d x ln : Nat) : Int))) (fun (_ : Unit) => [(rz, .inr (0, [.ref gr, .ref se, .ref ly, .ref wc, .ref cf, .ref dr, .int (iI (bI (ld = true))), .int (iI (bI (wn = true))), .int (iI (bI (xf = true))), .long cw])), (ly, .inr (6, [.ref st9, .int (iI ((ln : Nat) : Int)), .int (iI ((sa : Nat) : Int)), .int (iI ((sb : Nat) : Int)), .int (iI ((ea : Nat) : Int)), .int (iI ((eb : Nat) : Int))])), (st9, .inl (tI, 192, .inl (iA (iN d))))]) := by
  intro sz
  refine r_met (by decide) (Nat.le_of_ble_eq_true rfl) ?_
  intro F p e s m args below meth c Q A hX hT hAe hsz hin
  subst hAe
  replace hX : rOK F p l e rm_Ra_run_0 s m args below meth c Q prog_1_method_16_code 4 "RowAligner" D (tysA tI tJ tZ) _ := hX
  have hcs := ra_cr_le d ln
  show F 0 [(0, .ref rz), (1, .int (iI ((x : Nat) : Int))), (2, .int (iI ((0 : Nat) : Int)))] [] [(rz, .inr (0, [.ref gr, .ref se, .ref ly, .ref wc, .ref cf, .ref dr, .int (iI (bI (ld = true))), .int (iI (bI (wn = true))), .int (iI (bI (xf = true))), .long cw])), (ly, .inr (6, [.ref st9, .int (iI ((ln : Nat) : Int)), .int (iI ((sa : Nat) : Int)), .int (iI ((sb : Nat) : Int)), .int (iI ((ea : Nat) : Int)), .int (iI ((eb : Nat) : Int))])), (st9, .inl (tI, 192, .inl (iA (iN d))))] 0 0
  refine r_iload_n hX 2 d_Ra_run_0 rfl ?_
  refine r_if_lt hX 9 d_Ra_run_1 (by decide) (by unfold iR; omega) (fun h1 => by exfalso; omega) (fun h1 => ?_)
  refine r_iload_n hX 2 d_Ra_run_4 rfl ?_
  refine r_iconstN hX 1 d_Ra_run_5 rfl ?_
  refine r_icmp_le hX 17 d_Ra_run_6 (by decide) (by unfold iR; omega) (by unfold iR; omega) (fun h6 => ?_) (fun h6 => by exfalso; omega)
  refine r_aload_n hX 0 d_Ra_run_17 rfl ?_
  refine r_invV_v0 (st := []) (As := []) (wr := [(ly, .inr (6, [.ref st9, .int (iI ((ln : Nat) : Int)), .int (iI ((sa : Nat) : Int)), .int (iI ((sb : Nat) : Int)), .int (iI ((ea : Nat) : Int)), .int (iI ((eb : Nat) : Int))])), (st9, .inl (tI, 192, .inl (iA (iN d))))]) hX (c_Ra_refuseUnlaid l D tI tJ tZ rz gr se ly wc cf dr ld wn xf cw hl) "RowAligner" 0 0 cf_Ra rfl yn_Ra_refuseUnlaid ml_Ra_131 im_Ra_refuseUnlaid se_Ra_refuseUnlaid co_Ra_refuseUnlaid in_Ra (by decide) (by decide) (by decide) [0] [1, 2] rfl rfl rfl rfl rfl (by decide) rfl rfl (Nat.le_of_ble_eq_true rfl) d_Ra_run_18 [2, 0, 1] rfl (w2 := fun _ => [(rz, .inr (0, [.ref gr, .ref se, .ref ly, .ref wc, .ref cf, .ref dr, .int (iI (bI (ld = true))), .int (iI (bI (wn = true))), .int (iI (bI (xf = true))), .long cw])), (ly, .inr (6, [.ref st9, .int (iI ((ln : Nat) : Int)), .int (iI ((sa : Nat) : Int)), .int (iI ((sb : Nat) : Int)), .int (iI ((ea : Nat) : Int)), .int (iI ((eb : Nat) : Int))])), (st9, .inl (tI, 192, .inl (iA (iN d))))]) (fun _ => rfl) (fun _ _ => ?_)
  refine r_aload_n hX 0 d_Ra_run_21 rfl ?_
  refine r_get hX cf_Ra 0 rfl 2 (by decide) fl_Ra_28 rfl d_Ra_run_22 ?_
  refine r_iload_n hX 1 d_Ra_run_25 rfl ?_
  refine r_invV_i0 (st := []) (As := [.int (iI ((x : Nat) : Int))]) (wr := [(rz, .inr (0, [.ref gr, .ref se, .ref ly, .ref wc, .ref cf, .ref dr, .int (iI (bI (ld = true))), .int (iI (bI (wn = true))), .int (iI (bI (xf = true))), .long cw]))]) hX (c_La_startOfRun l D tI tJ tZ ly st9 ln sa sb ea eb d (((x : Nat) : Int)) hs hd (by unfold iR; omega)) "RowAligner$Laying" 1 6 cf_La rfl yn_La_startOfRun ml_Ra_166 im_La_startOfRun se_La_startOfRun co_La_startOfRun in_La (by decide) (by decide) (by decide) [1, 2] [0] rfl rfl rfl rfl rfl (by decide) rfl rfl (Nat.le_of_ble_eq_true rfl) d_Ra_run_26 [0, 1, 2] rfl (w2 := fun u26 => [(rz, .inr (0, [.ref gr, .ref se, .ref ly, .ref wc, .ref cf, .ref dr, .int (iI (bI (ld = true))), .int (iI (bI (wn = true))), .int (iI (bI (xf = true))), .long cw])), (ly, .inr (6, [.ref st9, .int (iI ((ln : Nat) : Int)), .int (iI ((sa : Nat) : Int)), .int (iI ((sb : Nat) : Int)), .int (iI ((ea : Nat) : Int)), .int (iI ((eb : Nat) : Int))])), (st9, .inl (tI, 192, .inl (iA (iN d))))]) (fun _ => rfl) (fun r26 u26 hu26 => ?_)
  obtain ⟨e26, hu26⟩ := hu26
  subst e26
  obtain ⟨k9, hk9, e9, hbg, hcr9⟩ : ∃ k : Nat, k < ln ∧ u26 = (k : Int) ∧ ra_bg d k ∧ ((ra_cr d k : Nat) : Int) = ((x : Nat) : Int) := by rcases hu26 with z | z; (exfalso; obtain ⟨k9, z1, z2, z3⟩ := ra_run_ex ln hn; exact z.2 k9 z1 z2 (by omega)); exact z
  subst e9
  have hcr : ra_cr d k9 = x := by omega
  refine r_eq (lv2 := [(0, .ref rz), (1, .int (iI ((x : Nat) : Int))), (2, .int (iI ((0 : Nat) : Int)))]) (st2 := [.int (iI ((k9 : Nat) : Int))]) (ws2 := [(rz, .inr (0, [.ref gr, .ref se, .ref ly, .ref wc, .ref cf, .ref dr, .int (iI (bI (ld = true))), .int (iI (bI (wn = true))), .int (iI (bI (xf = true))), .long cw])), (ly, .inr (6, [.ref st9, .int (iI ((ln : Nat) : Int)), .int (iI ((sa : Nat) : Int)), .int (iI ((sb : Nat) : Int)), .int (iI ((ea : Nat) : Int)), .int (iI ((eb : Nat) : Int))])), (st9, .inl (tI, 192, .inl (iA (iN d))))]) rfl rfl rfl ?_
  refine r_istore_n hX (lv' := [(3, .int (iI ((k9 : Nat) : Int))), (0, .ref rz), (1, .int (iI ((x : Nat) : Int))), (2, .int (iI ((0 : Nat) : Int)))]) d_Ra_run_29 rfl (by decide) rfl ?_
  refine r_iload_n hX 0 d_Ra_run_30 rfl ?_
  refine r_iconst hX d_Ra_run_31 ?_
  refine r_icmp_ne hX 43 d_Ra_run_32 (by decide) (by unfold iR; omega) (by unfold iR; omega) (fun h32 => ?_) (fun h32 => by exfalso; omega)
  refine r_iload_n hX 3 d_Ra_run_43 rfl ?_
  refine r_if_ne hX 59 d_Ra_run_44 (by decide) (by unfold iR; omega) (fun h44 => by exfalso; omega) (fun h44 => ?_)
  refine r_aload_n hX 1 d_Ra_run_47 rfl ?_
  refine r_get hX cf_Ra 0 rfl 2 (by decide) fl_Ra_28 rfl d_Ra_run_48 ?_
  refine r_get hX cf_La 1 rfl 0 (by decide) fl_Ra_135 rfl d_Ra_run_51 ?_
  refine r_iload_n hX 0 d_Ra_run_54 rfl ?_
  refine r_ialdN hX 2 0 rfl rfl (k9) rfl (by omega) (by decide) d_Ra_run_55 ?_
  refine r_goto hX 67 d_Ra_run_56 (by decide) ?_
  exact r_iret hX hT () (congrArg (fun z : Nat => iI (z : Int)) (ra_run_kind hk9 hbg hcr).symm) rfl (by decide) (by decide) d_Ra_run_67

abbrev rm_Ra_run_1 : Room := { frames := 2, cells := 0, slots := 0, locals := 44 }
set_option maxHeartbeats 4000000 in
set_option maxRecDepth 100000 in
theorem c_Ra_run_1 (l : Launch) (D : va_G) (tI tJ tZ : ClassId) (rz : Nat) (gr : Nat) (se : Nat) (ly : Nat) (wc : Nat) (cf : Nat) (dr : Nat) (ld : Bool) (wn : Bool) (xf : Bool) (cw : Int64) (st9 : Nat) (ln : Nat) (sa : Nat) (sb : Nat) (ea : Nat) (eb : Nat) (d : Nat → Nat) (x : Nat) (hl : ld = true) (hs : ln ≤ 192) (hd : ∀ t, d t < 3) (hn : x < ra_cr d ln) : rCi l y_Ra_run prog_1_method_16_code 4 .int rm_Ra_run_1 D (tysA tI tJ tZ) [.ref rz, .int (iI ((x : Nat) : Int)), .int (iI ((1 : Nat) : Int))] [(rz, .inr (0, [.ref gr, .ref se, .ref ly, .ref wc, .ref cf, .ref dr, .int (iI (bI (ld = true))), .int (iI (bI (wn = true))), .int (iI (bI (xf = true))), .long cw])), (ly, .inr (6, [.ref st9, .int (iI ((ln : Nat) : Int)), .int (iI ((sa : Nat) : Int)), .int (iI ((sb : Nat) : Int)), .int (iI ((ea : Nat) : Int)), .int (iI ((eb : Nat) : Int))])), (st9, .inl (tI, 192, .inl (iA (iN d))))] (fun zz (_ : Unit) => zz = iI (((ra_rm d x ln : Nat) : Int))) (fun (_ : Unit) => [(rz, .inr (0, [.ref gr, .ref se, .ref ly, .ref wc, .ref cf, .ref dr, .int (iI (bI (ld = true))), .int (iI (bI (wn = true))), .int (iI (bI (xf = true))), .long cw])), (ly, .inr (6, [.ref st9, .int (iI ((ln : Nat) : Int)), .int (iI ((sa : Nat) : Int)), .int (iI ((sb : Nat) : Int)), .int (iI ((ea : Nat) : Int)), .int (iI ((eb : Nat) : Int))])), (st9, .inl (tI, 192, .inl (iA (iN d))))]) := by
  intro sz
  refine r_met (by decide) (Nat.le_of_ble_eq_true rfl) ?_
  intro F p e s m args below meth c Q A hX hT hAe hsz hin
  subst hAe
  replace hX : rOK F p l e rm_Ra_run_1 s m args below meth c Q prog_1_method_16_code 4 "RowAligner" D (tysA tI tJ tZ) _ := hX
  have hcs := ra_cr_le d ln
  show F 0 [(0, .ref rz), (1, .int (iI ((x : Nat) : Int))), (2, .int (iI ((1 : Nat) : Int)))] [] [(rz, .inr (0, [.ref gr, .ref se, .ref ly, .ref wc, .ref cf, .ref dr, .int (iI (bI (ld = true))), .int (iI (bI (wn = true))), .int (iI (bI (xf = true))), .long cw])), (ly, .inr (6, [.ref st9, .int (iI ((ln : Nat) : Int)), .int (iI ((sa : Nat) : Int)), .int (iI ((sb : Nat) : Int)), .int (iI ((ea : Nat) : Int)), .int (iI ((eb : Nat) : Int))])), (st9, .inl (tI, 192, .inl (iA (iN d))))] 0 0
  refine r_iload_n hX 2 d_Ra_run_0 rfl ?_
  refine r_if_lt hX 9 d_Ra_run_1 (by decide) (by unfold iR; omega) (fun h1 => by exfalso; omega) (fun h1 => ?_)
  refine r_iload_n hX 2 d_Ra_run_4 rfl ?_
  refine r_iconstN hX 1 d_Ra_run_5 rfl ?_
  refine r_icmp_le hX 17 d_Ra_run_6 (by decide) (by unfold iR; omega) (by unfold iR; omega) (fun h6 => ?_) (fun h6 => by exfalso; omega)
  refine r_aload_n hX 0 d_Ra_run_17 rfl ?_
  refine r_invV_v0 (st := []) (As := []) (wr := [(ly, .inr (6, [.ref st9, .int (iI ((ln : Nat) : Int)), .int (iI ((sa : Nat) : Int)), .int (iI ((sb : Nat) : Int)), .int (iI ((ea : Nat) : Int)), .int (iI ((eb : Nat) : Int))])), (st9, .inl (tI, 192, .inl (iA (iN d))))]) hX (c_Ra_refuseUnlaid l D tI tJ tZ rz gr se ly wc cf dr ld wn xf cw hl) "RowAligner" 0 0 cf_Ra rfl yn_Ra_refuseUnlaid ml_Ra_131 im_Ra_refuseUnlaid se_Ra_refuseUnlaid co_Ra_refuseUnlaid in_Ra (by decide) (by decide) (by decide) [0] [1, 2] rfl rfl rfl rfl rfl (by decide) rfl rfl (Nat.le_of_ble_eq_true rfl) d_Ra_run_18 [2, 0, 1] rfl (w2 := fun _ => [(rz, .inr (0, [.ref gr, .ref se, .ref ly, .ref wc, .ref cf, .ref dr, .int (iI (bI (ld = true))), .int (iI (bI (wn = true))), .int (iI (bI (xf = true))), .long cw])), (ly, .inr (6, [.ref st9, .int (iI ((ln : Nat) : Int)), .int (iI ((sa : Nat) : Int)), .int (iI ((sb : Nat) : Int)), .int (iI ((ea : Nat) : Int)), .int (iI ((eb : Nat) : Int))])), (st9, .inl (tI, 192, .inl (iA (iN d))))]) (fun _ => rfl) (fun _ _ => ?_)
  refine r_aload_n hX 0 d_Ra_run_21 rfl ?_
  refine r_get hX cf_Ra 0 rfl 2 (by decide) fl_Ra_28 rfl d_Ra_run_22 ?_
  refine r_iload_n hX 1 d_Ra_run_25 rfl ?_
  refine r_invV_i0 (st := []) (As := [.int (iI ((x : Nat) : Int))]) (wr := [(rz, .inr (0, [.ref gr, .ref se, .ref ly, .ref wc, .ref cf, .ref dr, .int (iI (bI (ld = true))), .int (iI (bI (wn = true))), .int (iI (bI (xf = true))), .long cw]))]) hX (c_La_startOfRun l D tI tJ tZ ly st9 ln sa sb ea eb d (((x : Nat) : Int)) hs hd (by unfold iR; omega)) "RowAligner$Laying" 1 6 cf_La rfl yn_La_startOfRun ml_Ra_166 im_La_startOfRun se_La_startOfRun co_La_startOfRun in_La (by decide) (by decide) (by decide) [1, 2] [0] rfl rfl rfl rfl rfl (by decide) rfl rfl (Nat.le_of_ble_eq_true rfl) d_Ra_run_26 [0, 1, 2] rfl (w2 := fun u26 => [(rz, .inr (0, [.ref gr, .ref se, .ref ly, .ref wc, .ref cf, .ref dr, .int (iI (bI (ld = true))), .int (iI (bI (wn = true))), .int (iI (bI (xf = true))), .long cw])), (ly, .inr (6, [.ref st9, .int (iI ((ln : Nat) : Int)), .int (iI ((sa : Nat) : Int)), .int (iI ((sb : Nat) : Int)), .int (iI ((ea : Nat) : Int)), .int (iI ((eb : Nat) : Int))])), (st9, .inl (tI, 192, .inl (iA (iN d))))]) (fun _ => rfl) (fun r26 u26 hu26 => ?_)
  obtain ⟨e26, hu26⟩ := hu26
  subst e26
  obtain ⟨k9, hk9, e9, hbg, hcr9⟩ : ∃ k : Nat, k < ln ∧ u26 = (k : Int) ∧ ra_bg d k ∧ ((ra_cr d k : Nat) : Int) = ((x : Nat) : Int) := by rcases hu26 with z | z; (exfalso; obtain ⟨k9, z1, z2, z3⟩ := ra_run_ex ln hn; exact z.2 k9 z1 z2 (by omega)); exact z
  subst e9
  have hcr : ra_cr d k9 = x := by omega
  refine r_eq (lv2 := [(0, .ref rz), (1, .int (iI ((x : Nat) : Int))), (2, .int (iI ((1 : Nat) : Int)))]) (st2 := [.int (iI ((k9 : Nat) : Int))]) (ws2 := [(rz, .inr (0, [.ref gr, .ref se, .ref ly, .ref wc, .ref cf, .ref dr, .int (iI (bI (ld = true))), .int (iI (bI (wn = true))), .int (iI (bI (xf = true))), .long cw])), (ly, .inr (6, [.ref st9, .int (iI ((ln : Nat) : Int)), .int (iI ((sa : Nat) : Int)), .int (iI ((sb : Nat) : Int)), .int (iI ((ea : Nat) : Int)), .int (iI ((eb : Nat) : Int))])), (st9, .inl (tI, 192, .inl (iA (iN d))))]) rfl rfl rfl ?_
  refine r_istore_n hX (lv' := [(3, .int (iI ((k9 : Nat) : Int))), (0, .ref rz), (1, .int (iI ((x : Nat) : Int))), (2, .int (iI ((1 : Nat) : Int)))]) d_Ra_run_29 rfl (by decide) rfl ?_
  refine r_iload_n hX 0 d_Ra_run_30 rfl ?_
  refine r_iconst hX d_Ra_run_31 ?_
  refine r_icmp_ne hX 43 d_Ra_run_32 (by decide) (by unfold iR; omega) (by unfold iR; omega) (fun h32 => ?_) (fun h32 => by exfalso; omega)
  refine r_iload_n hX 3 d_Ra_run_43 rfl ?_
  refine r_if_ne hX 59 d_Ra_run_44 (by decide) (by unfold iR; omega) (fun h44 => ?_) (fun h44 => by exfalso; omega)
  refine r_aload_n hX 1 d_Ra_run_59 rfl ?_
  refine r_get hX cf_Ra 0 rfl 2 (by decide) fl_Ra_28 rfl d_Ra_run_60 ?_
  refine r_iload_n hX 0 d_Ra_run_63 rfl ?_
  refine r_invV_i0 (st := []) (As := [.int (iI ((k9 : Nat) : Int))]) (wr := [(rz, .inr (0, [.ref gr, .ref se, .ref ly, .ref wc, .ref cf, .ref dr, .int (iI (bI (ld = true))), .int (iI (bI (wn = true))), .int (iI (bI (xf = true))), .long cw]))]) hX (c_La_lengthOfRunAt l D tI tJ tZ ly st9 ln sa sb ea eb d k9 hs hd hk9) "RowAligner$Laying" 1 6 cf_La rfl yn_La_lengthOfRunAt ml_Ra_170 im_La_lengthOfRunAt se_La_lengthOfRunAt co_La_lengthOfRunAt in_La (by decide) (by decide) (by decide) [1, 2] [0] rfl rfl rfl rfl rfl (by decide) rfl rfl (Nat.le_of_ble_eq_true rfl) d_Ra_run_64 [0, 1, 2] rfl (w2 := fun u64 => [(rz, .inr (0, [.ref gr, .ref se, .ref ly, .ref wc, .ref cf, .ref dr, .int (iI (bI (ld = true))), .int (iI (bI (wn = true))), .int (iI (bI (xf = true))), .long cw])), (ly, .inr (6, [.ref st9, .int (iI ((ln : Nat) : Int)), .int (iI ((sa : Nat) : Int)), .int (iI ((sb : Nat) : Int)), .int (iI ((ea : Nat) : Int)), .int (iI ((eb : Nat) : Int))])), (st9, .inl (tI, 192, .inl (iA (iN d))))]) (fun _ => rfl) (fun r64 u64 hu64 => ?_)
  obtain ⟨e64, hu64⟩ := hu64
  subst e64
  exact r_iret hX hT () (congrArg (fun z : Nat => iI (z : Int)) (ra_run_many hbg hcr hu64.1 hu64.2.1 hu64.2.2.1 hu64.2.2.2).symm) rfl (by decide) (by decide) d_Ra_run_67
