abbrev rm_Ro_reverse : Room := { frames := 0, cells := 0, slots := 0, locals := 0 }
set_option maxHeartbeats 4000000 in
set_option maxRecDepth 100000 in
theorem c_Ro_reverse (l : Launch) (D : va_G) (tI tJ tZ : ClassId) (h0 : Nat) (q1 : Nat) (f : Nat → Nat) (len : Nat) (hl : len ≤ 96) : rCv l y_Ro_reverse prog_8_method_3_code 4 rm_Ro_reverse D (tysA tI tJ tZ) [.ref h0] [(h0, .inr (2, [.ref q1, .int (iI ((len : Nat) : Int))])), (q1, .inl (tI, 96, .inl (iA (iN f))))] (fun (_ : Unit) => True) (fun (_ : Unit) => [(h0, .inr (2, [.ref q1, .int (iI ((len : Nat) : Int))])), (q1, .inl (tI, 96, .inl (iA (iN (ra_rv f len (len / 2))))))]) := by
  intro sz
  refine r_met (by decide) (Nat.le_of_ble_eq_true rfl) ?_
  intro F p e s m args below meth c Q A hX hT hAe hsz hin
  subst hAe
  replace hX : rOK F p l e rm_Ro_reverse s m args below meth c Q prog_8_method_3_code 4 "RowAligner$Row" D (tysA tI tJ tZ) _ := hX
  show F 0 [(0, .ref h0)] [] [(h0, .inr (2, [.ref q1, .int (iI ((len : Nat) : Int))])), (q1, .inl (tI, 96, .inl (iA (iN f))))] 0 0
  refine r_iconstN hX 0 d_Ro_reverse_0 rfl ?_
  refine r_istore_n hX (lv' := [(1, .int (iI ((0 : Nat) : Int))), (0, .ref h0)]) d_Ro_reverse_1 rfl (by decide) rfl ?_
  have L2 : ∀ (dd : Nat) (k : Nat), len / 2 - k = dd → (k ≤ len / 2) → F 2 [(1, .int (iI ((k : Nat) : Int))), (0, .ref h0)] [] [(h0, .inr (2, [.ref q1, .int (iI ((len : Nat) : Int))])), (q1, .inl (tI, 96, .inl (iA (iN (ra_rv f len k)))))] 0 0 := by
    intro dd
    induction dd using Nat.strongRecOn with
    | _ dd ih2 =>
      intro k hmu2 hk
      refine r_iload_n hX 0 d_Ro_reverse_2 rfl ?_
      refine r_aload_n hX 1 d_Ro_reverse_3 rfl ?_
      refine r_get hX cf_Ro 0 rfl 1 (by decide) fl_Ro_15 rfl d_Ro_reverse_4 ?_
      refine r_iconstN hX 2 d_Ro_reverse_7 rfl ?_
      refine r_idiv hX (((len / 2 : Nat) : Int)) (by decide) (i_div (by omega) (by omega) (by omega)) d_Ro_reverse_8 ?_
      refine r_icmp_ge hX 53 d_Ro_reverse_9 (by decide) (by unfold iR; omega) (by unfold iR; omega) (fun h9 => ?_) (fun h9 => ?_)
      · exact r_vret hX hT () trivial (by rw [show k = len / 2 by omega]) (by decide) (by decide) d_Ro_reverse_53
      · refine r_aload_n hX 1 d_Ro_reverse_12 rfl ?_
        refine r_get hX cf_Ro 0 rfl 1 (by decide) fl_Ro_15 rfl d_Ro_reverse_13 ?_
        refine r_iconstN hX 1 d_Ro_reverse_16 rfl ?_
        refine r_isub hX d_Ro_reverse_17 ?_
        refine r_iload_n hX 0 d_Ro_reverse_18 rfl ?_
        refine r_isub hX d_Ro_reverse_19 ?_
        refine r_istore_n hX (lv' := [(2, .int (iI ((((len : Nat) : Int) - ((1 : Nat) : Int)) - ((k : Nat) : Int)))), (1, .int (iI ((k : Nat) : Int))), (0, .ref h0)]) d_Ro_reverse_20 rfl (by decide) rfl ?_
        refine r_aload_n hX 2 d_Ro_reverse_21 rfl ?_
        refine r_get hX cf_Ro 0 rfl 0 (by decide) fl_Ro_9 rfl d_Ro_reverse_22 ?_
        refine r_iload_n hX 1 d_Ro_reverse_25 rfl ?_
        refine r_ialdN hX 1 0 rfl rfl (k) rfl (by omega) (by decide) d_Ro_reverse_26 ?_
        refine r_istore_n hX (lv' := [(3, .int (iI (((ra_rv f len k) k : Nat) : Int))), (2, .int (iI ((((len : Nat) : Int) - ((1 : Nat) : Int)) - ((k : Nat) : Int)))), (1, .int (iI ((k : Nat) : Int))), (0, .ref h0)]) d_Ro_reverse_27 rfl (by decide) rfl ?_
        refine r_aload_n hX 3 d_Ro_reverse_28 rfl ?_
        refine r_get hX cf_Ro 0 rfl 0 (by decide) fl_Ro_9 rfl d_Ro_reverse_29 ?_
        refine r_iload_n hX 2 d_Ro_reverse_32 rfl ?_
        refine r_aload_n hX 3 d_Ro_reverse_33 rfl ?_
        refine r_get hX cf_Ro 0 rfl 0 (by decide) fl_Ro_9 rfl d_Ro_reverse_34 ?_
        refine r_iload_n hX 1 d_Ro_reverse_37 rfl ?_
        refine r_ialdN hX 1 0 rfl rfl (len - 1 - k) (by omega) (by omega) (by decide) d_Ro_reverse_38 ?_
        refine r_iastN hX (ws' := [(h0, .inr (2, [.ref q1, .int (iI ((len : Nat) : Int))])), (q1, .inl (tI, 96, .inl (iA (iN (iU (ra_rv f len k) k ((ra_rv f len k) (len - 1 - k)))))))]) 1 0 rfl rfl (k) rfl (by omega) (by decide) rfl d_Ro_reverse_39 ?_
        refine r_aload_n hX 3 d_Ro_reverse_40 rfl ?_
        refine r_get hX cf_Ro 0 rfl 0 (by decide) fl_Ro_9 rfl d_Ro_reverse_41 ?_
        refine r_iload_n hX 1 d_Ro_reverse_44 rfl ?_
        refine r_iload_n hX 0 d_Ro_reverse_45 rfl ?_
        refine r_iastN hX (ws' := [(h0, .inr (2, [.ref q1, .int (iI ((len : Nat) : Int))])), (q1, .inl (tI, 96, .inl (iA (iN (iU (iU (ra_rv f len k) k ((ra_rv f len k) (len - 1 - k))) (len - 1 - k) ((ra_rv f len k) k))))))]) 1 0 rfl rfl (len - 1 - k) (by omega) (by omega) (by decide) rfl d_Ro_reverse_46 ?_
        refine r_iincN hX (lv' := [(1, .int (iI ((k + 1 : Nat) : Int))), (3, .int (iI (((ra_rv f len k) k : Nat) : Int))), (2, .int (iI ((((len : Nat) : Int) - ((1 : Nat) : Int)) - ((k : Nat) : Int)))), (0, .ref h0)]) 2 d_Ro_reverse_47 rfl (by decide) rfl ?_
        refine r_goto hX 2 d_Ro_reverse_50 (by decide) ?_
        refine r_lv hX (lv' := [(1, .int (iI ((k + 1 : Nat) : Int))), (0, .ref h0)]) [0, 3] rfl ?_
        refine r_eq (lv2 := [(1, .int (iI ((k + 1 : Nat) : Int))), (0, .ref h0)]) (st2 := []) (ws2 := [(h0, .inr (2, [.ref q1, .int (iI ((len : Nat) : Int))])), (q1, .inl (tI, 96, .inl (iA (iN (ra_rv f len (k + 1))))))]) rfl rfl (by rw [ra_rv_step f (by omega)]) ?_
        exact ih2 _ (by omega) (k + 1) rfl (by omega)
  refine r_eq (lv2 := [(1, .int (iI ((0 : Nat) : Int))), (0, .ref h0)]) (st2 := []) (ws2 := [(h0, .inr (2, [.ref q1, .int (iI ((len : Nat) : Int))])), (q1, .inl (tI, 96, .inl (iA (iN (ra_rv f len 0)))))]) rfl rfl (by rw [ra_rv_0]) ?_
  exact L2 _ 0 rfl (by omega)

abbrev rm_Pr_setAllPairs : Room := { frames := 1, cells := 0, slots := 0, locals := 23 }
set_option maxHeartbeats 4000000 in
set_option maxRecDepth 100000 in
theorem c_Pr_setAllPairs (l : Launch) (D : va_G) (tI tJ tZ : ClassId) (h0 : Nat) (q1 : Nat) (f : Nat → Int) (op : Int) (mo : Int) (same : Int) (others : Int) : rCv l y_Pr_setAllPairs prog_7_method_2_code 5 rm_Pr_setAllPairs D (tysA tI tJ tZ) [.ref h0, .int (iI same), .int (iI others)] [(h0, .inr (3, [.ref q1, .int (iI op), .int (iI mo)])), (q1, .inl (tI, 676, .inl (iA f)))] (fun (_ : Unit) => True) (fun (_ : Unit) => [(h0, .inr (3, [.ref q1, .int (iI op), .int (iI mo)])), (q1, .inl (tI, 676, .inl (iA (ra_sq f same others (676)))))]) := by
  intro sz
  refine r_met (by decide) (Nat.le_of_ble_eq_true rfl) ?_
  intro F p e s m args below meth c Q A hX hT hAe hsz hin
  subst hAe
  replace hX : rOK F p l e rm_Pr_setAllPairs s m args below meth c Q prog_7_method_2_code 5 "RowAligner$Prices" D (tysA tI tJ tZ) _ := hX
  show F 0 [(0, .ref h0), (1, .int (iI same)), (2, .int (iI others))] [] [(h0, .inr (3, [.ref q1, .int (iI op), .int (iI mo)])), (q1, .inl (tI, 676, .inl (iA f)))] 0 0
  refine r_iconstN hX 0 d_Pr_setAllPairs_0 rfl ?_
  refine r_istore_n hX (lv' := [(3, .int (iI ((0 : Nat) : Int))), (0, .ref h0), (1, .int (iI same)), (2, .int (iI others))]) d_Pr_setAllPairs_1 rfl (by decide) rfl ?_
  have L2 : ∀ (dd : Nat) (x : Nat), 26 - x = dd → (x ≤ 26) → F 2 [(3, .int (iI ((x : Nat) : Int))), (2, .int (iI others)), (1, .int (iI same)), (0, .ref h0)] [] [(h0, .inr (3, [.ref q1, .int (iI op), .int (iI mo)])), (q1, .inl (tI, 676, .inl (iA (ra_sq f same others (x * 26)))))] 0 0 := by
    intro dd
    induction dd using Nat.strongRecOn with
    | _ dd ih2 =>
      intro x hmu2 hx
      refine r_iload_n hX 0 d_Pr_setAllPairs_2 rfl ?_
      refine r_bipushN hX 26 d_Pr_setAllPairs_3 rfl (by decide) ?_
      refine r_icmp_ge hX 48 d_Pr_setAllPairs_5 (by decide) (by unfold iR; omega) (by unfold iR; omega) (fun h5 => ?_) (fun h5 => ?_)
      · exact r_vret hX hT () trivial (by rw [show x * 26 = 676 by omega]) (by decide) (by decide) d_Pr_setAllPairs_48
      · refine r_iconstN hX 0 d_Pr_setAllPairs_8 rfl ?_
        refine r_istore hX (lv' := [(4, .int (iI ((0 : Nat) : Int))), (3, .int (iI ((x : Nat) : Int))), (2, .int (iI others)), (1, .int (iI same)), (0, .ref h0)]) d_Pr_setAllPairs_9 (by decide) rfl ?_
        have L11 : ∀ (dd : Nat) (y : Nat), 26 - y = dd → (y ≤ 26) → F 11 [(4, .int (iI ((y : Nat) : Int))), (3, .int (iI ((x : Nat) : Int))), (2, .int (iI others)), (1, .int (iI same)), (0, .ref h0)] [] [(h0, .inr (3, [.ref q1, .int (iI op), .int (iI mo)])), (q1, .inl (tI, 676, .inl (iA (ra_sq f same others (x * 26 + y)))))] 0 0 := by
          intro dd
          induction dd using Nat.strongRecOn with
          | _ dd ih11 =>
            intro y hmu11 hy
            refine r_iload hX 0 d_Pr_setAllPairs_11 rfl ?_
            refine r_bipushN hX 26 d_Pr_setAllPairs_13 rfl (by decide) ?_
            refine r_icmp_ge hX 42 d_Pr_setAllPairs_15 (by decide) (by unfold iR; omega) (by unfold iR; omega) (fun h15 => ?_) (fun h15 => ?_)
            · refine r_iincN hX (lv' := [(3, .int (iI ((x + 1 : Nat) : Int))), (4, .int (iI ((y : Nat) : Int))), (2, .int (iI others)), (1, .int (iI same)), (0, .ref h0)]) 1 d_Pr_setAllPairs_42 rfl (by decide) rfl ?_
              refine r_goto hX 2 d_Pr_setAllPairs_45 (by decide) ?_
              refine r_lv hX (lv' := [(3, .int (iI ((x + 1 : Nat) : Int))), (2, .int (iI others)), (1, .int (iI same)), (0, .ref h0)]) [0, 2, 3, 4] rfl ?_
              refine r_eq (lv2 := [(3, .int (iI ((x + 1 : Nat) : Int))), (2, .int (iI others)), (1, .int (iI same)), (0, .ref h0)]) (st2 := []) (ws2 := [(h0, .inr (3, [.ref q1, .int (iI op), .int (iI mo)])), (q1, .inl (tI, 676, .inl (iA (ra_sq f same others ((x + 1) * 26)))))]) rfl rfl (by rw [show x * 26 + y = (x + 1) * 26 by omega]) ?_
              exact ih2 _ (by omega) (x + 1) rfl (by omega)
            · refine r_aload_n hX 4 d_Pr_setAllPairs_18 rfl ?_
              refine r_iload_n hX 1 d_Pr_setAllPairs_19 rfl ?_
              refine r_iload hX 0 d_Pr_setAllPairs_20 rfl ?_
              refine r_iload_n hX 1 d_Pr_setAllPairs_22 rfl ?_
              refine r_iload hX 0 d_Pr_setAllPairs_23 rfl ?_
              have J33 : F 33 [(4, .int (iI ((y : Nat) : Int))), (3, .int (iI ((x : Nat) : Int))), (2, .int (iI others)), (1, .int (iI same)), (0, .ref h0)] [.int (iI (if x = y then same else others)), .int (iI ((y : Nat) : Int)), .int (iI ((x : Nat) : Int)), .ref h0] [(h0, .inr (3, [.ref q1, .int (iI op), .int (iI mo)])), (q1, .inl (tI, 676, .inl (iA (ra_sq f same others (x * 26 + y)))))] 0 0 := by
                refine r_invV_v0 (st := []) (As := [.int (iI ((x : Nat) : Int)), .int (iI ((y : Nat) : Int)), .int (iI (if x = y then same else others))]) (wr := []) hX (c_Pr_setPair l D tI tJ tZ h0 q1 (ra_sq f same others (x * 26 + y)) op mo x y (if x = y then same else others) (by omega) (by omega)) "RowAligner$Prices" 0 3 cf_Pr rfl yn_Pr_setPair ml_Pr_26 im_Pr_setPair se_Pr_setPair co_Pr_setPair in_Pr (by decide) (by decide) (by decide) [0, 1] [] rfl rfl rfl rfl rfl (by decide) rfl rfl (Nat.le_of_ble_eq_true rfl) d_Pr_setAllPairs_33 [0, 1] rfl (w2 := fun _ => [(h0, .inr (3, [.ref q1, .int (iI op), .int (iI mo)])), (q1, .inl (tI, 676, .inl (iA (iU (ra_sq f same others (x * 26 + y)) (x * 26 + y) (if x = y then same else others)))))]) (fun _ => rfl) (fun _ _ => ?_)
                refine r_iincN hX (lv' := [(4, .int (iI ((y + 1 : Nat) : Int))), (3, .int (iI ((x : Nat) : Int))), (2, .int (iI others)), (1, .int (iI same)), (0, .ref h0)]) 0 d_Pr_setAllPairs_36 rfl (by decide) rfl ?_
                refine r_goto hX 11 d_Pr_setAllPairs_39 (by decide) ?_
                refine r_eq (lv2 := [(4, .int (iI ((y + 1 : Nat) : Int))), (3, .int (iI ((x : Nat) : Int))), (2, .int (iI others)), (1, .int (iI same)), (0, .ref h0)]) (st2 := []) (ws2 := [(h0, .inr (3, [.ref q1, .int (iI op), .int (iI mo)])), (q1, .inl (tI, 676, .inl (iA (ra_sq f same others (x * 26 + (y + 1))))))]) rfl rfl (by rw [ra_sq_step _ _ _ _ (by rw [show (x * 26 + y) / 26 = x by omega, show (x * 26 + y) % 26 = y by omega]), Nat.add_assoc]) ?_
                exact ih11 _ (by omega) (y + 1) rfl (by omega)
              refine r_icmp_ne hX 32 d_Pr_setAllPairs_25 (by decide) (by unfold iR; omega) (by unfold iR; omega) (fun h25 => ?_) (fun h25 => ?_)
              · refine r_iload_n hX 2 d_Pr_setAllPairs_32 rfl ?_
                exact rj_e (by first | rw [if_pos (by omega)] | rw [if_neg (by omega)]) J33
              · refine r_iload_n hX 3 d_Pr_setAllPairs_28 rfl ?_
                refine r_goto hX 33 d_Pr_setAllPairs_29 (by decide) ?_
                exact rj_e (by first | rw [if_pos (by omega)] | rw [if_neg (by omega)]) J33
        refine r_eq (lv2 := [(4, .int (iI ((0 : Nat) : Int))), (3, .int (iI ((x : Nat) : Int))), (2, .int (iI others)), (1, .int (iI same)), (0, .ref h0)]) (st2 := []) (ws2 := [(h0, .inr (3, [.ref q1, .int (iI op), .int (iI mo)])), (q1, .inl (tI, 676, .inl (iA (ra_sq f same others (x * 26 + 0)))))]) rfl rfl rfl ?_
        exact L11 _ 0 rfl (by omega)
  refine r_lv hX (lv' := [(3, .int (iI ((0 : Nat) : Int))), (2, .int (iI others)), (1, .int (iI same)), (0, .ref h0)]) [0, 3, 2, 1] rfl ?_
  refine r_eq (lv2 := [(3, .int (iI ((0 : Nat) : Int))), (2, .int (iI others)), (1, .int (iI same)), (0, .ref h0)]) (st2 := []) (ws2 := [(h0, .inr (3, [.ref q1, .int (iI op), .int (iI mo)])), (q1, .inl (tI, 676, .inl (iA (ra_sq f same others (0 * 26)))))]) rfl rfl (by rw [show (0 * 26 : Nat) = 0 from rfl, ra_sq_0]) ?_
  exact L2 _ 0 rfl (by omega)

abbrev rm_Dr_append : Room := { frames := 0, cells := 0, slots := 0, locals := 0 }
set_option maxHeartbeats 4000000 in
set_option maxRecDepth 100000 in
theorem c_Dr_append (l : Launch) (D : va_G) (tI tJ tZ : ClassId) (dr : Nat) (da : Nat) (dn : Nat) (d : Nat → Nat) (v : Nat) (hl : dn < 200) : rCv l y_Dr_append prog_3_method_2_code 2 rm_Dr_append D (tysA tI tJ tZ) [.ref dr, .int (iI ((v : Nat) : Int))] [(dr, .inr (9, [.ref da, .int (iI ((dn : Nat) : Int))])), (da, .inl (tI, 200, .inl (iA (iN d))))] (fun (_ : Unit) => True) (fun (_ : Unit) => [(dr, .inr (9, [.ref da, .int (iI ((dn + 1 : Nat) : Int))])), (da, .inl (tI, 200, .inl (iA (iN (iU d dn v)))))]) := by
  intro sz
  refine r_met (by decide) (Nat.le_of_ble_eq_true rfl) ?_
  intro F p e s m args below meth c Q A hX hT hAe hsz hin
  subst hAe
  replace hX : rOK F p l e rm_Dr_append s m args below meth c Q prog_3_method_2_code 2 "RowAligner$Draft" D (tysA tI tJ tZ) _ := hX
  show F 0 [(0, .ref dr), (1, .int (iI ((v : Nat) : Int)))] [] [(dr, .inr (9, [.ref da, .int (iI ((dn : Nat) : Int))])), (da, .inl (tI, 200, .inl (iA (iN d))))] 0 0
  refine r_aload_n hX 0 d_Dr_append_0 rfl ?_
  refine r_get hX cf_Dr 0 rfl 0 (by decide) fl_Dr_9 rfl d_Dr_append_1 ?_
  refine r_aload_n hX 0 d_Dr_append_4 rfl ?_
  refine r_get hX cf_Dr 0 rfl 1 (by decide) fl_Dr_15 rfl d_Dr_append_5 ?_
  refine r_iload_n hX 1 d_Dr_append_8 rfl ?_
  refine r_iastN hX (ws' := [(dr, .inr (9, [.ref da, .int (iI ((dn : Nat) : Int))])), (da, .inl (tI, 200, .inl (iA (iN (iU d dn v)))))]) 1 0 rfl rfl (dn) rfl (by omega) (by decide) rfl d_Dr_append_9 ?_
  refine r_aload_n hX 0 d_Dr_append_10 rfl ?_
  refine r_dup hX d_Dr_append_11 rfl ?_
  refine r_get hX cf_Dr 0 rfl 1 (by decide) fl_Dr_15 rfl d_Dr_append_12 ?_
  refine r_iconstN hX 1 d_Dr_append_15 rfl ?_
  refine r_iaddN hX d_Dr_append_16 ?_
  refine r_put hX (ws' := [(dr, .inr (9, [.ref da, .int (iI ((dn + 1 : Nat) : Int))])), (da, .inl (tI, 200, .inl (iA (iN (iU d dn v)))))]) cf_Dr 0 rfl 1 (by decide) fl_Dr_15 rfl rfl rfl (Nat.le_of_ble_eq_true rfl) rfl d_Dr_append_17 ?_
  exact r_vret hX hT () trivial rfl (by decide) (by decide) d_Dr_append_20

abbrev rm_Dr_isWholeLaying : Room := { frames := 1, cells := 0, slots := 0, locals := 20 }
set_option maxHeartbeats 4000000 in
set_option maxRecDepth 100000 in
theorem c_Dr_isWholeLaying (l : Launch) (D : va_G) (tI tJ tZ : ClassId) (dr : Nat) (da : Nat) (dn : Nat) (d : Nat → Nat) (gr : Nat) (ra : Nat) (rb : Nat) (pr : Nat) (qa : Nat) (qb : Nat) (la : Nat) (lb : Nat) (hn : dn ≤ 200) (hd : ∀ t, d t < 3) (hla : la ≤ 96) (hlb : lb ≤ 96) : rCi l y_Dr_isWholeLaying prog_3_method_3_code 5 .boolean rm_Dr_isWholeLaying D (tysA tI tJ tZ) [.ref dr, .ref gr] [(dr, .inr (9, [.ref da, .int (iI ((dn : Nat) : Int))])), (da, .inl (tI, 200, .inl (iA (iN d)))), (gr, .inr (1, [.ref ra, .ref rb, .ref pr])), (ra, .inr (2, [.ref qa, .int (iI ((la : Nat) : Int))])), (rb, .inr (2, [.ref qb, .int (iI ((lb : Nat) : Int))]))] (fun zz (_ : Unit) => zz = iI (bI (ra_qi d dn = la ∧ ra_qj d dn = lb))) (fun (_ : Unit) => [(dr, .inr (9, [.ref da, .int (iI ((dn : Nat) : Int))])), (da, .inl (tI, 200, .inl (iA (iN d)))), (gr, .inr (1, [.ref ra, .ref rb, .ref pr])), (ra, .inr (2, [.ref qa, .int (iI ((la : Nat) : Int))])), (rb, .inr (2, [.ref qb, .int (iI ((lb : Nat) : Int))]))]) := by
  intro sz
  refine r_met (by decide) (Nat.le_of_ble_eq_true rfl) ?_
  intro F p e s m args below meth c Q A hX hT hAe hsz hin
  subst hAe
  replace hX : rOK F p l e rm_Dr_isWholeLaying s m args below meth c Q prog_3_method_3_code 5 "RowAligner$Draft" D (tysA tI tJ tZ) _ := hX
  show F 0 [(0, .ref dr), (1, .ref gr)] [] [(dr, .inr (9, [.ref da, .int (iI ((dn : Nat) : Int))])), (da, .inl (tI, 200, .inl (iA (iN d)))), (gr, .inr (1, [.ref ra, .ref rb, .ref pr])), (ra, .inr (2, [.ref qa, .int (iI ((la : Nat) : Int))])), (rb, .inr (2, [.ref qb, .int (iI ((lb : Nat) : Int))]))] 0 0
  refine r_iconstN hX 0 d_Dr_isWholeLaying_0 rfl ?_
  refine r_istore_n hX (lv' := [(2, .int (iI ((0 : Nat) : Int))), (0, .ref dr), (1, .ref gr)]) d_Dr_isWholeLaying_1 rfl (by decide) rfl ?_
  refine r_iconstN hX 0 d_Dr_isWholeLaying_2 rfl ?_
  refine r_istore_n hX (lv' := [(3, .int (iI ((0 : Nat) : Int))), (2, .int (iI ((0 : Nat) : Int))), (0, .ref dr), (1, .ref gr)]) d_Dr_isWholeLaying_3 rfl (by decide) rfl ?_
  refine r_iconstN hX 0 d_Dr_isWholeLaying_4 rfl ?_
  refine r_istore hX (lv' := [(4, .int (iI ((0 : Nat) : Int))), (3, .int (iI ((0 : Nat) : Int))), (2, .int (iI ((0 : Nat) : Int))), (0, .ref dr), (1, .ref gr)]) d_Dr_isWholeLaying_5 (by decide) rfl ?_
  have L7 : ∀ (dd : Nat) (k : Nat), dn - k = dd → (k ≤ dn) → F 7 [(4, .int (iI ((k : Nat) : Int))), (3, .int (iI ((ra_qj d k : Nat) : Int))), (2, .int (iI ((ra_qi d k : Nat) : Int))), (1, .ref gr), (0, .ref dr)] [] [(dr, .inr (9, [.ref da, .int (iI ((dn : Nat) : Int))])), (da, .inl (tI, 200, .inl (iA (iN d)))), (gr, .inr (1, [.ref ra, .ref rb, .ref pr])), (ra, .inr (2, [.ref qa, .int (iI ((la : Nat) : Int))])), (rb, .inr (2, [.ref qb, .int (iI ((lb : Nat) : Int))]))] 0 0 := by
    intro dd
    induction dd using Nat.strongRecOn with
    | _ dd ih7 =>
      intro k hmu7 hk
      refine r_iload hX 0 d_Dr_isWholeLaying_7 rfl ?_
      refine r_aload_n hX 4 d_Dr_isWholeLaying_9 rfl ?_
      refine r_get hX cf_Dr 0 rfl 1 (by decide) fl_Dr_15 rfl d_Dr_isWholeLaying_10 ?_
      refine r_icmp_ge hX 48 d_Dr_isWholeLaying_13 (by decide) (by unfold iR; omega) (by unfold iR; omega) (fun h13 => ?_) (fun h13 => ?_)
      · have hkn : k = dn := by omega
        have hq1 := ra_qi_le d dn
        have hq2 := ra_qj_le d dn
        refine r_eq (lv2 := [(4, .int (iI ((k : Nat) : Int))), (3, .int (iI ((ra_qj d dn : Nat) : Int))), (2, .int (iI ((ra_qi d dn : Nat) : Int))), (1, .ref gr), (0, .ref dr)]) (st2 := []) (ws2 := [(dr, .inr (9, [.ref da, .int (iI ((dn : Nat) : Int))])), (da, .inl (tI, 200, .inl (iA (iN d)))), (gr, .inr (1, [.ref ra, .ref rb, .ref pr])), (ra, .inr (2, [.ref qa, .int (iI ((la : Nat) : Int))])), (rb, .inr (2, [.ref qb, .int (iI ((lb : Nat) : Int))]))]) (by rw [hkn]) rfl rfl ?_
        refine r_iload_n hX 2 d_Dr_isWholeLaying_48 rfl ?_
        refine r_aload_n hX 3 d_Dr_isWholeLaying_49 rfl ?_
        refine r_get hX cf_Gr 2 rfl 0 (by decide) fl_Dr_26 rfl d_Dr_isWholeLaying_50 ?_
        refine r_get hX cf_Ro 3 rfl 1 (by decide) fl_Dr_32 rfl d_Dr_isWholeLaying_53 ?_
        have J75 : F 75 [(4, .int (iI ((k : Nat) : Int))), (3, .int (iI ((ra_qj d dn : Nat) : Int))), (2, .int (iI ((ra_qi d dn : Nat) : Int))), (1, .ref gr), (0, .ref dr)] [.int (iI (bI (ra_qi d dn = la ∧ ra_qj d dn = lb)))] [(dr, .inr (9, [.ref da, .int (iI ((dn : Nat) : Int))])), (da, .inl (tI, 200, .inl (iA (iN d)))), (gr, .inr (1, [.ref ra, .ref rb, .ref pr])), (ra, .inr (2, [.ref qa, .int (iI ((la : Nat) : Int))])), (rb, .inr (2, [.ref qb, .int (iI ((lb : Nat) : Int))]))] 0 0 := by
          exact r_zret hX hT (bI_01 _) () rfl rfl (by decide) (by decide) d_Dr_isWholeLaying_75
        refine r_icmp_ne hX 74 d_Dr_isWholeLaying_56 (by decide) (by unfold iR; omega) (by unfold iR; omega) (fun h56 => ?_) (fun h56 => ?_)
        · refine r_iconstN hX 0 d_Dr_isWholeLaying_74 rfl ?_
          exact rj_0 (by omega) J75
        · refine r_iload_n hX 1 d_Dr_isWholeLaying_59 rfl ?_
          refine r_aload_n hX 3 d_Dr_isWholeLaying_60 rfl ?_
          refine r_get hX cf_Gr 2 rfl 1 (by decide) fl_Dr_35 rfl d_Dr_isWholeLaying_61 ?_
          refine r_get hX cf_Ro 4 rfl 1 (by decide) fl_Dr_32 rfl d_Dr_isWholeLaying_64 ?_
          refine r_icmp_ne hX 74 d_Dr_isWholeLaying_67 (by decide) (by unfold iR; omega) (by unfold iR; omega) (fun h67 => ?_) (fun h67 => ?_)
          · refine r_iconstN hX 0 d_Dr_isWholeLaying_74 rfl ?_
            exact rj_0 (by omega) J75
          · refine r_iconstN hX 1 d_Dr_isWholeLaying_70 rfl ?_
            refine r_goto hX 75 d_Dr_isWholeLaying_71 (by decide) ?_
            exact rj_1 (by omega) J75
      · have hd1 := hd k
        refine r_iload_n hX 2 d_Dr_isWholeLaying_16 rfl ?_
        refine r_aload_n hX 4 d_Dr_isWholeLaying_17 rfl ?_
        refine r_get hX cf_Dr 0 rfl 0 (by decide) fl_Dr_9 rfl d_Dr_isWholeLaying_18 ?_
        refine r_iload hX 0 d_Dr_isWholeLaying_21 rfl ?_
        refine r_ialdN hX 1 0 rfl rfl (k) rfl (by omega) (by decide) d_Dr_isWholeLaying_23 ?_
        refine r_invSN_i0 (st := [.int (iI ((ra_qi d k : Nat) : Int))]) (As := [.int (iI ((d k : Nat) : Int))]) (wr := [(dr, .inr (9, [.ref da, .int (iI ((dn : Nat) : Int))])), (da, .inl (tI, 200, .inl (iA (iN d)))), (gr, .inr (1, [.ref ra, .ref rb, .ref pr])), (ra, .inr (2, [.ref qa, .int (iI ((la : Nat) : Int))])), (rb, .inr (2, [.ref qb, .int (iI ((lb : Nat) : Int))]))]) hX (c_Ra_lettersOfA l D tI tJ tZ (d k) hd1) yn_Ra_lettersOfA mn_Dr_19 st_Ra_lettersOfA co_Ra_lettersOfA in_Ra (by decide) (by decide) (by decide) [] [0, 1, 2, 3, 4] rfl rfl rfl rfl rfl (by decide) rfl rfl (Nat.le_of_ble_eq_true rfl) d_Dr_isWholeLaying_24 [0, 1, 2, 3, 4] rfl (w2 := fun _ => [(dr, .inr (9, [.ref da, .int (iI ((dn : Nat) : Int))])), (da, .inl (tI, 200, .inl (iA (iN d)))), (gr, .inr (1, [.ref ra, .ref rb, .ref pr])), (ra, .inr (2, [.ref qa, .int (iI ((la : Nat) : Int))])), (rb, .inr (2, [.ref qb, .int (iI ((lb : Nat) : Int))]))]) (fun _ => rfl) (fun r24 _ e24 => ?_)
        subst e24
        refine r_iaddN hX d_Dr_isWholeLaying_27 ?_
        refine r_istore_n hX (lv' := [(2, .int (iI ((ra_qi d k + (ra_da (d k)) : Nat) : Int))), (4, .int (iI ((k : Nat) : Int))), (3, .int (iI ((ra_qj d k : Nat) : Int))), (1, .ref gr), (0, .ref dr)]) d_Dr_isWholeLaying_28 rfl (by decide) rfl ?_
        refine r_iload_n hX 2 d_Dr_isWholeLaying_29 rfl ?_
        refine r_aload_n hX 4 d_Dr_isWholeLaying_30 rfl ?_
        refine r_get hX cf_Dr 0 rfl 0 (by decide) fl_Dr_9 rfl d_Dr_isWholeLaying_31 ?_
        refine r_iload hX 1 d_Dr_isWholeLaying_34 rfl ?_
        refine r_ialdN hX 1 0 rfl rfl (k) rfl (by omega) (by decide) d_Dr_isWholeLaying_36 ?_
        refine r_invSN_i0 (st := [.int (iI ((ra_qj d k : Nat) : Int))]) (As := [.int (iI ((d k : Nat) : Int))]) (wr := [(dr, .inr (9, [.ref da, .int (iI ((dn : Nat) : Int))])), (da, .inl (tI, 200, .inl (iA (iN d)))), (gr, .inr (1, [.ref ra, .ref rb, .ref pr])), (ra, .inr (2, [.ref qa, .int (iI ((la : Nat) : Int))])), (rb, .inr (2, [.ref qb, .int (iI ((lb : Nat) : Int))]))]) hX (c_Ra_lettersOfB l D tI tJ tZ (d k) hd1) yn_Ra_lettersOfB mn_Dr_23 st_Ra_lettersOfB co_Ra_lettersOfB in_Ra (by decide) (by decide) (by decide) [] [0, 1, 2, 3, 4] rfl rfl rfl rfl rfl (by decide) rfl rfl (Nat.le_of_ble_eq_true rfl) d_Dr_isWholeLaying_37 [0, 1, 2, 3, 4] rfl (w2 := fun _ => [(dr, .inr (9, [.ref da, .int (iI ((dn : Nat) : Int))])), (da, .inl (tI, 200, .inl (iA (iN d)))), (gr, .inr (1, [.ref ra, .ref rb, .ref pr])), (ra, .inr (2, [.ref qa, .int (iI ((la : Nat) : Int))])), (rb, .inr (2, [.ref qb, .int (iI ((lb : Nat) : Int))]))]) (fun _ => rfl) (fun r37 _ e37 => ?_)
        subst e37
        refine r_iaddN hX d_Dr_isWholeLaying_40 ?_
        refine r_istore_n hX (lv' := [(3, .int (iI ((ra_qj d k + (ra_db (d k)) : Nat) : Int))), (2, .int (iI ((ra_qi d k + (ra_da (d k)) : Nat) : Int))), (4, .int (iI ((k : Nat) : Int))), (1, .ref gr), (0, .ref dr)]) d_Dr_isWholeLaying_41 rfl (by decide) rfl ?_
        refine r_iincN hX (lv' := [(4, .int (iI ((k + 1 : Nat) : Int))), (3, .int (iI ((ra_qj d k + (ra_db (d k)) : Nat) : Int))), (2, .int (iI ((ra_qi d k + (ra_da (d k)) : Nat) : Int))), (1, .ref gr), (0, .ref dr)]) 2 d_Dr_isWholeLaying_42 rfl (by decide) rfl ?_
        refine r_goto hX 7 d_Dr_isWholeLaying_45 (by decide) ?_
        refine r_eq (lv2 := [(4, .int (iI ((k + 1 : Nat) : Int))), (3, .int (iI ((ra_qj d (k + 1) : Nat) : Int))), (2, .int (iI ((ra_qi d (k + 1) : Nat) : Int))), (1, .ref gr), (0, .ref dr)]) (st2 := []) (ws2 := [(dr, .inr (9, [.ref da, .int (iI ((dn : Nat) : Int))])), (da, .inl (tI, 200, .inl (iA (iN d)))), (gr, .inr (1, [.ref ra, .ref rb, .ref pr])), (ra, .inr (2, [.ref qa, .int (iI ((la : Nat) : Int))])), (rb, .inr (2, [.ref qb, .int (iI ((lb : Nat) : Int))]))]) rfl rfl rfl ?_
        exact ih7 _ (by omega) (k + 1) rfl (by omega)
  refine r_lv hX (lv' := [(4, .int (iI ((0 : Nat) : Int))), (3, .int (iI ((0 : Nat) : Int))), (2, .int (iI ((0 : Nat) : Int))), (1, .ref gr), (0, .ref dr)]) [0, 1, 2, 4, 3] rfl ?_
  refine r_eq (lv2 := [(4, .int (iI ((0 : Nat) : Int))), (3, .int (iI ((ra_qj d 0 : Nat) : Int))), (2, .int (iI ((ra_qi d 0 : Nat) : Int))), (1, .ref gr), (0, .ref dr)]) (st2 := []) (ws2 := [(dr, .inr (9, [.ref da, .int (iI ((dn : Nat) : Int))])), (da, .inl (tI, 200, .inl (iA (iN d)))), (gr, .inr (1, [.ref ra, .ref rb, .ref pr])), (ra, .inr (2, [.ref qa, .int (iI ((la : Nat) : Int))])), (rb, .inr (2, [.ref qb, .int (iI ((lb : Nat) : Int))]))]) rfl rfl rfl ?_
  exact L7 _ 0 rfl (by omega)

abbrev rm_Dr_sumUp : Room := { frames := 2, cells := 0, slots := 0, locals := 44 }
set_option maxHeartbeats 4000000 in
set_option maxRecDepth 100000 in
theorem c_Dr_sumUp (l : Launch) (D : va_G) (tI tJ tZ : ClassId) (dr : Nat) (da : Nat) (dn : Nat) (d : Nat → Nat) (gr : Nat) (ra : Nat) (qa : Nat) (rb : Nat) (qb : Nat) (pr : Nat) (pa : Nat) (la : Nat) (lb : Nat) (LA : Nat → Nat) (LB : Nat → Nat) (SC : Nat → Int) (op : Int) (mo : Int) (fr : Nat) (pt : Bool) (hH : raH la lb LA LB SC op mo fr) (hn : dn ≤ 200) (hd : ∀ t, d t < 3) (hwh : ra_qi d dn = la ∧ ra_qj d dn = lb) : rCi l y_Dr_sumUp prog_3_method_4_code 9 .int rm_Dr_sumUp D (tysA tI tJ tZ) [.ref dr, .ref gr, .int (iI ((fr : Nat) : Int))] [(dr, .inr (9, [.ref da, .int (iI ((dn : Nat) : Int))])), (da, .inl (tI, 200, .inl (iA (iN d)))), (gr, .inr (1, [.ref ra, .ref rb, .ref pr])), (ra, .inr (2, [.ref qa, .int (iI ((la : Nat) : Int))])), (qa, .inl (tI, 96, .inl (iA (iN LA)))), (rb, .inr (2, [.ref qb, .int (iI ((lb : Nat) : Int))])), (qb, .inl (tI, 96, .inl (iA (iN LB)))), (pr, .inr (3, [.ref pa, .int (iI op), .int (iI mo)])), (pa, .inl (tI, 676, .inl (iA SC)))] (fun zz (_ : Unit) => zz = iI ((ra_cs (ra_mk la lb LA LB SC op mo fr pt) d dn))) (fun (_ : Unit) => [(dr, .inr (9, [.ref da, .int (iI ((dn : Nat) : Int))])), (da, .inl (tI, 200, .inl (iA (iN d)))), (gr, .inr (1, [.ref ra, .ref rb, .ref pr])), (ra, .inr (2, [.ref qa, .int (iI ((la : Nat) : Int))])), (qa, .inl (tI, 96, .inl (iA (iN LA)))), (rb, .inr (2, [.ref qb, .int (iI ((lb : Nat) : Int))])), (qb, .inl (tI, 96, .inl (iA (iN LB)))), (pr, .inr (3, [.ref pa, .int (iI op), .int (iI mo)])), (pa, .inl (tI, 676, .inl (iA SC)))]) := by
  intro sz
  refine r_met (by decide) (Nat.le_of_ble_eq_true rfl) ?_
  intro F p e s m args below meth c Q A hX hT hAe hsz hin
  subst hAe
  replace hX : rOK F p l e rm_Dr_sumUp s m args below meth c Q prog_3_method_4_code 9 "RowAligner$Draft" D (tysA tI tJ tZ) _ := hX
  have hH9 := hH
  obtain ⟨hla, hlb, hA, hB, hS, ho0, ho1, hm0, hm1, hf⟩ := hH9
  show F 0 [(0, .ref dr), (1, .ref gr), (2, .int (iI ((fr : Nat) : Int)))] [] [(dr, .inr (9, [.ref da, .int (iI ((dn : Nat) : Int))])), (da, .inl (tI, 200, .inl (iA (iN d)))), (gr, .inr (1, [.ref ra, .ref rb, .ref pr])), (ra, .inr (2, [.ref qa, .int (iI ((la : Nat) : Int))])), (qa, .inl (tI, 96, .inl (iA (iN LA)))), (rb, .inr (2, [.ref qb, .int (iI ((lb : Nat) : Int))])), (qb, .inl (tI, 96, .inl (iA (iN LB)))), (pr, .inr (3, [.ref pa, .int (iI op), .int (iI mo)])), (pa, .inl (tI, 676, .inl (iA SC)))] 0 0
  refine r_iconstN hX 0 d_Dr_sumUp_0 rfl ?_
  refine r_istore_n hX (lv' := [(3, .int (iI ((0 : Nat) : Int))), (0, .ref dr), (1, .ref gr), (2, .int (iI ((fr : Nat) : Int)))]) d_Dr_sumUp_1 rfl (by decide) rfl ?_
  refine r_iconstN hX 0 d_Dr_sumUp_2 rfl ?_
  refine r_istore hX (lv' := [(4, .int (iI ((0 : Nat) : Int))), (3, .int (iI ((0 : Nat) : Int))), (0, .ref dr), (1, .ref gr), (2, .int (iI ((fr : Nat) : Int)))]) d_Dr_sumUp_3 (by decide) rfl ?_
  refine r_iconstN hX 0 d_Dr_sumUp_5 rfl ?_
  refine r_istore hX (lv' := [(5, .int (iI ((0 : Nat) : Int))), (4, .int (iI ((0 : Nat) : Int))), (3, .int (iI ((0 : Nat) : Int))), (0, .ref dr), (1, .ref gr), (2, .int (iI ((fr : Nat) : Int)))]) d_Dr_sumUp_6 (by decide) rfl ?_
  refine r_iconstN hX 0 d_Dr_sumUp_8 rfl ?_
  refine r_istore hX (lv' := [(6, .int (iI ((0 : Nat) : Int))), (5, .int (iI ((0 : Nat) : Int))), (4, .int (iI ((0 : Nat) : Int))), (3, .int (iI ((0 : Nat) : Int))), (0, .ref dr), (1, .ref gr), (2, .int (iI ((fr : Nat) : Int)))]) d_Dr_sumUp_9 (by decide) rfl ?_
  refine r_iconstN hX 0 d_Dr_sumUp_11 rfl ?_
  refine r_istore hX (lv' := [(7, .int (iI ((0 : Nat) : Int))), (6, .int (iI ((0 : Nat) : Int))), (5, .int (iI ((0 : Nat) : Int))), (4, .int (iI ((0 : Nat) : Int))), (3, .int (iI ((0 : Nat) : Int))), (0, .ref dr), (1, .ref gr), (2, .int (iI ((fr : Nat) : Int)))]) d_Dr_sumUp_12 (by decide) rfl ?_
  have L14 : ∀ (dd : Nat) (k : Nat), dn - k = dd → (k ≤ dn) → F 14 [(7, .int (iI ((k : Nat) : Int))), (6, .int (iI ((ra_bf d k : Nat) : Int))), (5, .int (iI ((ra_qj d k : Nat) : Int))), (4, .int (iI ((ra_qi d k : Nat) : Int))), (3, .int (iI (ra_cs (ra_mk la lb LA LB SC op mo fr pt) d k))), (2, .int (iI ((fr : Nat) : Int))), (1, .ref gr), (0, .ref dr)] [] [(dr, .inr (9, [.ref da, .int (iI ((dn : Nat) : Int))])), (da, .inl (tI, 200, .inl (iA (iN d)))), (gr, .inr (1, [.ref ra, .ref rb, .ref pr])), (ra, .inr (2, [.ref qa, .int (iI ((la : Nat) : Int))])), (qa, .inl (tI, 96, .inl (iA (iN LA)))), (rb, .inr (2, [.ref qb, .int (iI ((lb : Nat) : Int))])), (qb, .inl (tI, 96, .inl (iA (iN LB)))), (pr, .inr (3, [.ref pa, .int (iI op), .int (iI mo)])), (pa, .inl (tI, 676, .inl (iA SC)))] 0 0 := by
    intro dd
    induction dd using Nat.strongRecOn with
    | _ dd ih14 =>
      intro k hmu14 hk
      refine r_iload hX 0 d_Dr_sumUp_14 rfl ?_
      refine r_aload_n hX 7 d_Dr_sumUp_16 rfl ?_
      refine r_get hX cf_Dr 0 rfl 1 (by decide) fl_Dr_15 rfl d_Dr_sumUp_17 ?_
      refine r_icmp_ge hX 139 d_Dr_sumUp_20 (by decide) (by unfold iR; omega) (by unfold iR; omega) (fun h20 => ?_) (fun h20 => ?_)
      · refine r_iload_n hX 4 d_Dr_sumUp_139 rfl ?_
        exact r_iret hX hT () (congrArg iI (by rw [show k = dn by omega])) rfl (by decide) (by decide) d_Dr_sumUp_140
      · have hd1 := hd k
        have hq1 := ra_qi_mono d (k + 1) (dn - (k + 1))
        have hq2 := ra_qj_mono d (k + 1) (dn - (k + 1))
        rw [show k + 1 + (dn - (k + 1)) = dn by omega] at hq1 hq2
        have hq3 : ra_qi d (k + 1) = ra_qi d k + ra_da (d k) := rfl
        have hq4 : ra_qj d (k + 1) = ra_qj d k + ra_db (d k) := rfl
        have hbf : ra_bf d k < 3 := by cases k with | zero => (show 0 < 3; omega) | succ k => exact hd k
        refine r_aload_n hX 7 d_Dr_sumUp_23 rfl ?_
        refine r_get hX cf_Dr 0 rfl 0 (by decide) fl_Dr_9 rfl d_Dr_sumUp_24 ?_
        refine r_iload hX 0 d_Dr_sumUp_27 rfl ?_
        refine r_ialdN hX 1 0 rfl rfl (k) rfl (by omega) (by decide) d_Dr_sumUp_29 ?_
        refine r_istore hX (lv' := [(8, .int (iI ((d k : Nat) : Int))), (7, .int (iI ((k : Nat) : Int))), (6, .int (iI ((ra_bf d k : Nat) : Int))), (5, .int (iI ((ra_qj d k : Nat) : Int))), (4, .int (iI ((ra_qi d k : Nat) : Int))), (3, .int (iI (ra_cs (ra_mk la lb LA LB SC op mo fr pt) d k))), (2, .int (iI ((fr : Nat) : Int))), (1, .ref gr), (0, .ref dr)]) d_Dr_sumUp_30 (by decide) rfl ?_
        refine r_iload hX 0 d_Dr_sumUp_32 rfl ?_
        have J109 : F 109 [(8, .int (iI ((d k : Nat) : Int))), (7, .int (iI ((k : Nat) : Int))), (6, .int (iI ((ra_bf d k : Nat) : Int))), (5, .int (iI ((ra_qj d k : Nat) : Int))), (4, .int (iI ((ra_qi d k : Nat) : Int))), (3, .int (iI (ra_cs (ra_mk la lb LA LB SC op mo fr pt) d (k + 1)))), (2, .int (iI ((fr : Nat) : Int))), (1, .ref gr), (0, .ref dr)] [] [(dr, .inr (9, [.ref da, .int (iI ((dn : Nat) : Int))])), (da, .inl (tI, 200, .inl (iA (iN d)))), (gr, .inr (1, [.ref ra, .ref rb, .ref pr])), (ra, .inr (2, [.ref qa, .int (iI ((la : Nat) : Int))])), (qa, .inl (tI, 96, .inl (iA (iN LA)))), (rb, .inr (2, [.ref qb, .int (iI ((lb : Nat) : Int))])), (qb, .inl (tI, 96, .inl (iA (iN LB)))), (pr, .inr (3, [.ref pa, .int (iI op), .int (iI mo)])), (pa, .inl (tI, 676, .inl (iA SC)))] 0 0 := by
          refine r_iload hX 4 d_Dr_sumUp_109 rfl ?_
          refine r_iload hX 0 d_Dr_sumUp_111 rfl ?_
          refine r_invSN_i0 (st := [.int (iI ((ra_qi d k : Nat) : Int))]) (As := [.int (iI ((d k : Nat) : Int))]) (wr := [(dr, .inr (9, [.ref da, .int (iI ((dn : Nat) : Int))])), (da, .inl (tI, 200, .inl (iA (iN d)))), (gr, .inr (1, [.ref ra, .ref rb, .ref pr])), (ra, .inr (2, [.ref qa, .int (iI ((la : Nat) : Int))])), (qa, .inl (tI, 96, .inl (iA (iN LA)))), (rb, .inr (2, [.ref qb, .int (iI ((lb : Nat) : Int))])), (qb, .inl (tI, 96, .inl (iA (iN LB)))), (pr, .inr (3, [.ref pa, .int (iI op), .int (iI mo)])), (pa, .inl (tI, 676, .inl (iA SC)))]) hX (c_Ra_lettersOfA l D tI tJ tZ (d k) hd1) yn_Ra_lettersOfA mn_Dr_19 st_Ra_lettersOfA co_Ra_lettersOfA in_Ra (by decide) (by decide) (by decide) [] [0, 1, 2, 3, 4, 5, 6, 7, 8] rfl rfl rfl rfl rfl (by decide) rfl rfl (Nat.le_of_ble_eq_true rfl) d_Dr_sumUp_113 [0, 1, 2, 3, 4, 5, 6, 7, 8] rfl (w2 := fun _ => [(dr, .inr (9, [.ref da, .int (iI ((dn : Nat) : Int))])), (da, .inl (tI, 200, .inl (iA (iN d)))), (gr, .inr (1, [.ref ra, .ref rb, .ref pr])), (ra, .inr (2, [.ref qa, .int (iI ((la : Nat) : Int))])), (qa, .inl (tI, 96, .inl (iA (iN LA)))), (rb, .inr (2, [.ref qb, .int (iI ((lb : Nat) : Int))])), (qb, .inl (tI, 96, .inl (iA (iN LB)))), (pr, .inr (3, [.ref pa, .int (iI op), .int (iI mo)])), (pa, .inl (tI, 676, .inl (iA SC)))]) (fun _ => rfl) (fun r113 _ e113 => ?_)
          subst e113
          refine r_iaddN hX d_Dr_sumUp_116 ?_
          refine r_istore hX (lv' := [(4, .int (iI ((ra_qi d k + (ra_da (d k)) : Nat) : Int))), (8, .int (iI ((d k : Nat) : Int))), (7, .int (iI ((k : Nat) : Int))), (6, .int (iI ((ra_bf d k : Nat) : Int))), (5, .int (iI ((ra_qj d k : Nat) : Int))), (3, .int (iI (ra_cs (ra_mk la lb LA LB SC op mo fr pt) d (k + 1)))), (2, .int (iI ((fr : Nat) : Int))), (1, .ref gr), (0, .ref dr)]) d_Dr_sumUp_117 (by decide) rfl ?_
          refine r_iload hX 4 d_Dr_sumUp_119 rfl ?_
          refine r_iload hX 1 d_Dr_sumUp_121 rfl ?_
          refine r_invSN_i0 (st := [.int (iI ((ra_qj d k : Nat) : Int))]) (As := [.int (iI ((d k : Nat) : Int))]) (wr := [(dr, .inr (9, [.ref da, .int (iI ((dn : Nat) : Int))])), (da, .inl (tI, 200, .inl (iA (iN d)))), (gr, .inr (1, [.ref ra, .ref rb, .ref pr])), (ra, .inr (2, [.ref qa, .int (iI ((la : Nat) : Int))])), (qa, .inl (tI, 96, .inl (iA (iN LA)))), (rb, .inr (2, [.ref qb, .int (iI ((lb : Nat) : Int))])), (qb, .inl (tI, 96, .inl (iA (iN LB)))), (pr, .inr (3, [.ref pa, .int (iI op), .int (iI mo)])), (pa, .inl (tI, 676, .inl (iA SC)))]) hX (c_Ra_lettersOfB l D tI tJ tZ (d k) hd1) yn_Ra_lettersOfB mn_Dr_23 st_Ra_lettersOfB co_Ra_lettersOfB in_Ra (by decide) (by decide) (by decide) [] [0, 1, 2, 3, 4, 5, 6, 7, 8] rfl rfl rfl rfl rfl (by decide) rfl rfl (Nat.le_of_ble_eq_true rfl) d_Dr_sumUp_123 [0, 1, 2, 3, 4, 5, 6, 7, 8] rfl (w2 := fun _ => [(dr, .inr (9, [.ref da, .int (iI ((dn : Nat) : Int))])), (da, .inl (tI, 200, .inl (iA (iN d)))), (gr, .inr (1, [.ref ra, .ref rb, .ref pr])), (ra, .inr (2, [.ref qa, .int (iI ((la : Nat) : Int))])), (qa, .inl (tI, 96, .inl (iA (iN LA)))), (rb, .inr (2, [.ref qb, .int (iI ((lb : Nat) : Int))])), (qb, .inl (tI, 96, .inl (iA (iN LB)))), (pr, .inr (3, [.ref pa, .int (iI op), .int (iI mo)])), (pa, .inl (tI, 676, .inl (iA SC)))]) (fun _ => rfl) (fun r123 _ e123 => ?_)
          subst e123
          refine r_iaddN hX d_Dr_sumUp_126 ?_
          refine r_istore hX (lv' := [(5, .int (iI ((ra_qj d k + (ra_db (d k)) : Nat) : Int))), (4, .int (iI ((ra_qi d k + (ra_da (d k)) : Nat) : Int))), (8, .int (iI ((d k : Nat) : Int))), (7, .int (iI ((k : Nat) : Int))), (6, .int (iI ((ra_bf d k : Nat) : Int))), (3, .int (iI (ra_cs (ra_mk la lb LA LB SC op mo fr pt) d (k + 1)))), (2, .int (iI ((fr : Nat) : Int))), (1, .ref gr), (0, .ref dr)]) d_Dr_sumUp_127 (by decide) rfl ?_
          refine r_iload hX 2 d_Dr_sumUp_129 rfl ?_
          refine r_istore hX (lv' := [(6, .int (iI ((d k : Nat) : Int))), (5, .int (iI ((ra_qj d k + (ra_db (d k)) : Nat) : Int))), (4, .int (iI ((ra_qi d k + (ra_da (d k)) : Nat) : Int))), (8, .int (iI ((d k : Nat) : Int))), (7, .int (iI ((k : Nat) : Int))), (3, .int (iI (ra_cs (ra_mk la lb LA LB SC op mo fr pt) d (k + 1)))), (2, .int (iI ((fr : Nat) : Int))), (1, .ref gr), (0, .ref dr)]) d_Dr_sumUp_131 (by decide) rfl ?_
          refine r_iincN hX (lv' := [(7, .int (iI ((k + 1 : Nat) : Int))), (6, .int (iI ((d k : Nat) : Int))), (5, .int (iI ((ra_qj d k + (ra_db (d k)) : Nat) : Int))), (4, .int (iI ((ra_qi d k + (ra_da (d k)) : Nat) : Int))), (8, .int (iI ((d k : Nat) : Int))), (3, .int (iI (ra_cs (ra_mk la lb LA LB SC op mo fr pt) d (k + 1)))), (2, .int (iI ((fr : Nat) : Int))), (1, .ref gr), (0, .ref dr)]) 4 d_Dr_sumUp_133 rfl (by decide) rfl ?_
          refine r_goto hX 14 d_Dr_sumUp_136 (by decide) ?_
          refine r_lv hX (lv' := [(7, .int (iI ((k + 1 : Nat) : Int))), (6, .int (iI ((d k : Nat) : Int))), (5, .int (iI ((ra_qj d k + (ra_db (d k)) : Nat) : Int))), (4, .int (iI ((ra_qi d k + (ra_da (d k)) : Nat) : Int))), (3, .int (iI (ra_cs (ra_mk la lb LA LB SC op mo fr pt) d (k + 1)))), (2, .int (iI ((fr : Nat) : Int))), (1, .ref gr), (0, .ref dr)]) [0, 1, 2, 3, 5, 6, 7, 8] rfl ?_
          refine r_eq (lv2 := [(7, .int (iI ((k + 1 : Nat) : Int))), (6, .int (iI ((ra_bf d (k + 1) : Nat) : Int))), (5, .int (iI ((ra_qj d (k + 1) : Nat) : Int))), (4, .int (iI ((ra_qi d (k + 1) : Nat) : Int))), (3, .int (iI (ra_cs (ra_mk la lb LA LB SC op mo fr pt) d (k + 1)))), (2, .int (iI ((fr : Nat) : Int))), (1, .ref gr), (0, .ref dr)]) (st2 := []) (ws2 := [(dr, .inr (9, [.ref da, .int (iI ((dn : Nat) : Int))])), (da, .inl (tI, 200, .inl (iA (iN d)))), (gr, .inr (1, [.ref ra, .ref rb, .ref pr])), (ra, .inr (2, [.ref qa, .int (iI ((la : Nat) : Int))])), (qa, .inl (tI, 96, .inl (iA (iN LA)))), (rb, .inr (2, [.ref qb, .int (iI ((lb : Nat) : Int))])), (qb, .inl (tI, 96, .inl (iA (iN LB)))), (pr, .inr (3, [.ref pa, .int (iI op), .int (iI mo)])), (pa, .inl (tI, 676, .inl (iA SC)))]) rfl rfl rfl ?_
          exact ih14 _ (by omega) (k + 1) rfl (by omega)
        refine r_if_ne hX 51 d_Dr_sumUp_34 (by decide) (by unfold iR; omega) (fun h34 => ?_) (fun h34 => ?_)
        · refine r_iload hX 0 d_Dr_sumUp_51 rfl ?_
          refine r_iconstN hX 1 d_Dr_sumUp_53 rfl ?_
          refine r_icmp_ne hX 70 d_Dr_sumUp_54 (by decide) (by unfold iR; omega) (by unfold iR; omega) (fun h54 => ?_) (fun h54 => ?_)
          · have hdb : ra_db (d k) = 1 := by unfold ra_db; rw [if_neg (by omega)]
            refine r_aload_n hX 7 d_Dr_sumUp_70 rfl ?_
            refine r_iload hX 4 d_Dr_sumUp_71 rfl ?_
            refine r_iload_n hX 6 d_Dr_sumUp_73 rfl ?_
            refine r_invV_i0 (st := []) (As := [.int (iI ((ra_qi d k : Nat) : Int)), .int (iI ((fr : Nat) : Int))]) (wr := [(dr, .inr (9, [.ref da, .int (iI ((dn : Nat) : Int))])), (da, .inl (tI, 200, .inl (iA (iN d)))), (qa, .inl (tI, 96, .inl (iA (iN LA)))), (rb, .inr (2, [.ref qb, .int (iI ((lb : Nat) : Int))])), (qb, .inl (tI, 96, .inl (iA (iN LB)))), (pr, .inr (3, [.ref pa, .int (iI op), .int (iI mo)])), (pa, .inl (tI, 676, .inl (iA SC)))]) hX (c_Gr_isOtherFree l D tI tJ tZ gr ra rb pr qa la (ra_qi d k) fr (by omega) hla hf) "RowAligner$Ground" 2 1 cf_Gr rfl yn_Gr_isOtherFree ml_Dr_46 im_Gr_isOtherFree se_Gr_isOtherFree co_Gr_isOtherFree in_Gr (by decide) (by decide) (by decide) [2, 3] [0, 1, 4, 5, 6, 7, 8] rfl rfl rfl rfl rfl (by decide) rfl rfl (Nat.le_of_ble_eq_true rfl) d_Dr_sumUp_74 [0, 1, 7, 8, 2, 3, 4, 5, 6] rfl (w2 := fun _ => [(dr, .inr (9, [.ref da, .int (iI ((dn : Nat) : Int))])), (da, .inl (tI, 200, .inl (iA (iN d)))), (gr, .inr (1, [.ref ra, .ref rb, .ref pr])), (ra, .inr (2, [.ref qa, .int (iI ((la : Nat) : Int))])), (qa, .inl (tI, 96, .inl (iA (iN LA)))), (rb, .inr (2, [.ref qb, .int (iI ((lb : Nat) : Int))])), (qb, .inl (tI, 96, .inl (iA (iN LB)))), (pr, .inr (3, [.ref pa, .int (iI op), .int (iI mo)])), (pa, .inl (tI, 676, .inl (iA SC)))]) (fun _ => rfl) (fun r74 _ e74 => ?_)
            subst e74
            refine rb_if_ne hX 109 d_Dr_sumUp_77 (by decide) (fun h77 => ?_) (fun h77 => ?_)
            · refine r_eq (lv2 := [(8, .int (iI ((d k : Nat) : Int))), (7, .int (iI ((k : Nat) : Int))), (6, .int (iI ((ra_bf d k : Nat) : Int))), (5, .int (iI ((ra_qj d k : Nat) : Int))), (4, .int (iI ((ra_qi d k : Nat) : Int))), (3, .int (iI (ra_cs (ra_mk la lb LA LB SC op mo fr pt) d (k + 1)))), (2, .int (iI ((fr : Nat) : Int))), (1, .ref gr), (0, .ref dr)]) (st2 := []) (ws2 := [(dr, .inr (9, [.ref da, .int (iI ((dn : Nat) : Int))])), (da, .inl (tI, 200, .inl (iA (iN d)))), (gr, .inr (1, [.ref ra, .ref rb, .ref pr])), (ra, .inr (2, [.ref qa, .int (iI ((la : Nat) : Int))])), (qa, .inl (tI, 96, .inl (iA (iN LA)))), (rb, .inr (2, [.ref qb, .int (iI ((lb : Nat) : Int))])), (qb, .inl (tI, 96, .inl (iA (iN LB)))), (pr, .inr (3, [.ref pa, .int (iI op), .int (iI mo)])), (pa, .inl (tI, 676, .inl (iA SC)))]) (by first | rw [ra_cs_0 (by omega)] | rw [ra_cs_1f (by omega) h64] | rw [ra_cs_2f (by omega) (by omega) h77] | rw [ra_cs_1p (by omega) h64] | rw [ra_cs_2p (by omega) (by omega) h77]) rfl rfl ?_
              exact J109
            · refine r_iload_n hX 5 d_Dr_sumUp_80 rfl ?_
              refine r_aload_n hX 7 d_Dr_sumUp_81 rfl ?_
              refine r_get hX cf_Gr 2 rfl 2 (by decide) fl_Dr_49 rfl d_Dr_sumUp_82 ?_
              refine r_get hX cf_Pr 7 rfl 2 (by decide) fl_Dr_53 rfl d_Dr_sumUp_85 ?_
              refine r_iload hX 0 d_Dr_sumUp_88 rfl ?_
              refine r_iload hX 2 d_Dr_sumUp_90 rfl ?_
              have J106 : F 106 [(8, .int (iI ((d k : Nat) : Int))), (7, .int (iI ((k : Nat) : Int))), (6, .int (iI ((ra_bf d k : Nat) : Int))), (5, .int (iI ((ra_qj d k : Nat) : Int))), (4, .int (iI ((ra_qi d k : Nat) : Int))), (3, .int (iI (ra_cs (ra_mk la lb LA LB SC op mo fr pt) d k))), (2, .int (iI ((fr : Nat) : Int))), (1, .ref gr), (0, .ref dr)] [.int (iI (if d k = ra_bf d k then 0 else op)), .int (iI mo), .int (iI (ra_cs (ra_mk la lb LA LB SC op mo fr pt) d k))] [(dr, .inr (9, [.ref da, .int (iI ((dn : Nat) : Int))])), (da, .inl (tI, 200, .inl (iA (iN d)))), (gr, .inr (1, [.ref ra, .ref rb, .ref pr])), (ra, .inr (2, [.ref qa, .int (iI ((la : Nat) : Int))])), (qa, .inl (tI, 96, .inl (iA (iN LA)))), (rb, .inr (2, [.ref qb, .int (iI ((lb : Nat) : Int))])), (qb, .inl (tI, 96, .inl (iA (iN LB)))), (pr, .inr (3, [.ref pa, .int (iI op), .int (iI mo)])), (pa, .inl (tI, 676, .inl (iA SC)))] 0 0 := by
                refine r_iadd hX d_Dr_sumUp_106 ?_
                refine r_isub hX d_Dr_sumUp_107 ?_
                refine r_istore_n hX (lv' := [(3, .int (iI ((ra_cs (ra_mk la lb LA LB SC op mo fr pt) d k) - ((mo) + (if d k = ra_bf d k then 0 else op))))), (8, .int (iI ((d k : Nat) : Int))), (7, .int (iI ((k : Nat) : Int))), (6, .int (iI ((ra_bf d k : Nat) : Int))), (5, .int (iI ((ra_qj d k : Nat) : Int))), (4, .int (iI ((ra_qi d k : Nat) : Int))), (2, .int (iI ((fr : Nat) : Int))), (1, .ref gr), (0, .ref dr)]) d_Dr_sumUp_108 rfl (by decide) rfl ?_
                refine r_lv hX (lv' := [(8, .int (iI ((d k : Nat) : Int))), (7, .int (iI ((k : Nat) : Int))), (6, .int (iI ((ra_bf d k : Nat) : Int))), (5, .int (iI ((ra_qj d k : Nat) : Int))), (4, .int (iI ((ra_qi d k : Nat) : Int))), (3, .int (iI ((ra_cs (ra_mk la lb LA LB SC op mo fr pt) d k) - ((mo) + (if d k = ra_bf d k then 0 else op))))), (2, .int (iI ((fr : Nat) : Int))), (1, .ref gr), (0, .ref dr)]) [1, 2, 3, 4, 5, 0, 6, 7, 8] rfl ?_
                refine r_eq (lv2 := [(8, .int (iI ((d k : Nat) : Int))), (7, .int (iI ((k : Nat) : Int))), (6, .int (iI ((ra_bf d k : Nat) : Int))), (5, .int (iI ((ra_qj d k : Nat) : Int))), (4, .int (iI ((ra_qi d k : Nat) : Int))), (3, .int (iI (ra_cs (ra_mk la lb LA LB SC op mo fr pt) d (k + 1)))), (2, .int (iI ((fr : Nat) : Int))), (1, .ref gr), (0, .ref dr)]) (st2 := []) (ws2 := [(dr, .inr (9, [.ref da, .int (iI ((dn : Nat) : Int))])), (da, .inl (tI, 200, .inl (iA (iN d)))), (gr, .inr (1, [.ref ra, .ref rb, .ref pr])), (ra, .inr (2, [.ref qa, .int (iI ((la : Nat) : Int))])), (qa, .inl (tI, 96, .inl (iA (iN LA)))), (rb, .inr (2, [.ref qb, .int (iI ((lb : Nat) : Int))])), (qb, .inl (tI, 96, .inl (iA (iN LB)))), (pr, .inr (3, [.ref pa, .int (iI op), .int (iI mo)])), (pa, .inl (tI, 676, .inl (iA SC)))]) (by first | rw [ra_cs_0 (by omega)] | rw [ra_cs_1f (by omega) h64] | rw [ra_cs_2f (by omega) (by omega) h77] | rw [ra_cs_1p (by omega) h64] | rw [ra_cs_2p (by omega) (by omega) h77]) rfl rfl ?_
                exact J109
              refine r_icmp_ne hX 99 d_Dr_sumUp_92 (by decide) (by unfold iR; omega) (by unfold iR; omega) (fun h92 => ?_) (fun h92 => ?_)
              · refine r_aload_n hX 7 d_Dr_sumUp_99 rfl ?_
                refine r_get hX cf_Gr 2 rfl 2 (by decide) fl_Dr_49 rfl d_Dr_sumUp_100 ?_
                refine r_get hX cf_Pr 7 rfl 1 (by decide) fl_Dr_58 rfl d_Dr_sumUp_103 ?_
                exact rj_e (by first | (rw [if_pos (by omega)]; rfl) | rw [if_neg (by omega)]) J106
              · refine r_iconstN hX 0 d_Dr_sumUp_95 rfl ?_
                refine r_goto hX 106 d_Dr_sumUp_96 (by decide) ?_
                exact rj_e (by first | (rw [if_pos (by omega)]; rfl) | rw [if_neg (by omega)]) J106
          · have hda : ra_da (d k) = 1 := by unfold ra_da; rw [if_neg (by omega)]
            refine r_aload_n hX 7 d_Dr_sumUp_57 rfl ?_
            refine r_iload hX 3 d_Dr_sumUp_58 rfl ?_
            refine r_iload_n hX 6 d_Dr_sumUp_60 rfl ?_
            refine r_invV_i0 (st := []) (As := [.int (iI ((ra_qj d k : Nat) : Int)), .int (iI ((fr : Nat) : Int))]) (wr := [(dr, .inr (9, [.ref da, .int (iI ((dn : Nat) : Int))])), (da, .inl (tI, 200, .inl (iA (iN d)))), (ra, .inr (2, [.ref qa, .int (iI ((la : Nat) : Int))])), (qa, .inl (tI, 96, .inl (iA (iN LA)))), (qb, .inl (tI, 96, .inl (iA (iN LB)))), (pr, .inr (3, [.ref pa, .int (iI op), .int (iI mo)])), (pa, .inl (tI, 676, .inl (iA SC)))]) hX (c_Gr_isOneFree l D tI tJ tZ gr ra rb pr qb lb (ra_qj d k) fr (by omega) hlb hf) "RowAligner$Ground" 2 1 cf_Gr rfl yn_Gr_isOneFree ml_Dr_42 im_Gr_isOneFree se_Gr_isOneFree co_Gr_isOneFree in_Gr (by decide) (by decide) (by decide) [2, 5] [0, 1, 3, 4, 6, 7, 8] rfl rfl rfl rfl rfl (by decide) rfl rfl (Nat.le_of_ble_eq_true rfl) d_Dr_sumUp_61 [0, 1, 7, 2, 3, 8, 4, 5, 6] rfl (w2 := fun _ => [(dr, .inr (9, [.ref da, .int (iI ((dn : Nat) : Int))])), (da, .inl (tI, 200, .inl (iA (iN d)))), (gr, .inr (1, [.ref ra, .ref rb, .ref pr])), (ra, .inr (2, [.ref qa, .int (iI ((la : Nat) : Int))])), (qa, .inl (tI, 96, .inl (iA (iN LA)))), (rb, .inr (2, [.ref qb, .int (iI ((lb : Nat) : Int))])), (qb, .inl (tI, 96, .inl (iA (iN LB)))), (pr, .inr (3, [.ref pa, .int (iI op), .int (iI mo)])), (pa, .inl (tI, 676, .inl (iA SC)))]) (fun _ => rfl) (fun r61 _ e61 => ?_)
            subst e61
            refine rb_if_ne hX 109 d_Dr_sumUp_64 (by decide) (fun h64 => ?_) (fun h64 => ?_)
            · refine r_eq (lv2 := [(8, .int (iI ((d k : Nat) : Int))), (7, .int (iI ((k : Nat) : Int))), (6, .int (iI ((ra_bf d k : Nat) : Int))), (5, .int (iI ((ra_qj d k : Nat) : Int))), (4, .int (iI ((ra_qi d k : Nat) : Int))), (3, .int (iI (ra_cs (ra_mk la lb LA LB SC op mo fr pt) d (k + 1)))), (2, .int (iI ((fr : Nat) : Int))), (1, .ref gr), (0, .ref dr)]) (st2 := []) (ws2 := [(dr, .inr (9, [.ref da, .int (iI ((dn : Nat) : Int))])), (da, .inl (tI, 200, .inl (iA (iN d)))), (gr, .inr (1, [.ref ra, .ref rb, .ref pr])), (ra, .inr (2, [.ref qa, .int (iI ((la : Nat) : Int))])), (qa, .inl (tI, 96, .inl (iA (iN LA)))), (rb, .inr (2, [.ref qb, .int (iI ((lb : Nat) : Int))])), (qb, .inl (tI, 96, .inl (iA (iN LB)))), (pr, .inr (3, [.ref pa, .int (iI op), .int (iI mo)])), (pa, .inl (tI, 676, .inl (iA SC)))]) (by first | rw [ra_cs_0 (by omega)] | rw [ra_cs_1f (by omega) h64] | rw [ra_cs_2f (by omega) (by omega) h77] | rw [ra_cs_1p (by omega) h64] | rw [ra_cs_2p (by omega) (by omega) h77]) rfl rfl ?_
              exact J109
            · refine r_goto hX 80 d_Dr_sumUp_67 (by decide) ?_
              refine r_iload_n hX 5 d_Dr_sumUp_80 rfl ?_
              refine r_aload_n hX 7 d_Dr_sumUp_81 rfl ?_
              refine r_get hX cf_Gr 2 rfl 2 (by decide) fl_Dr_49 rfl d_Dr_sumUp_82 ?_
              refine r_get hX cf_Pr 7 rfl 2 (by decide) fl_Dr_53 rfl d_Dr_sumUp_85 ?_
              refine r_iload hX 0 d_Dr_sumUp_88 rfl ?_
              refine r_iload hX 2 d_Dr_sumUp_90 rfl ?_
              have J106_3 : F 106 [(8, .int (iI ((d k : Nat) : Int))), (7, .int (iI ((k : Nat) : Int))), (6, .int (iI ((ra_bf d k : Nat) : Int))), (5, .int (iI ((ra_qj d k : Nat) : Int))), (4, .int (iI ((ra_qi d k : Nat) : Int))), (3, .int (iI (ra_cs (ra_mk la lb LA LB SC op mo fr pt) d k))), (2, .int (iI ((fr : Nat) : Int))), (1, .ref gr), (0, .ref dr)] [.int (iI (if d k = ra_bf d k then 0 else op)), .int (iI mo), .int (iI (ra_cs (ra_mk la lb LA LB SC op mo fr pt) d k))] [(dr, .inr (9, [.ref da, .int (iI ((dn : Nat) : Int))])), (da, .inl (tI, 200, .inl (iA (iN d)))), (gr, .inr (1, [.ref ra, .ref rb, .ref pr])), (ra, .inr (2, [.ref qa, .int (iI ((la : Nat) : Int))])), (qa, .inl (tI, 96, .inl (iA (iN LA)))), (rb, .inr (2, [.ref qb, .int (iI ((lb : Nat) : Int))])), (qb, .inl (tI, 96, .inl (iA (iN LB)))), (pr, .inr (3, [.ref pa, .int (iI op), .int (iI mo)])), (pa, .inl (tI, 676, .inl (iA SC)))] 0 0 := by
                refine r_iadd hX d_Dr_sumUp_106 ?_
                refine r_isub hX d_Dr_sumUp_107 ?_
                refine r_istore_n hX (lv' := [(3, .int (iI ((ra_cs (ra_mk la lb LA LB SC op mo fr pt) d k) - ((mo) + (if d k = ra_bf d k then 0 else op))))), (8, .int (iI ((d k : Nat) : Int))), (7, .int (iI ((k : Nat) : Int))), (6, .int (iI ((ra_bf d k : Nat) : Int))), (5, .int (iI ((ra_qj d k : Nat) : Int))), (4, .int (iI ((ra_qi d k : Nat) : Int))), (2, .int (iI ((fr : Nat) : Int))), (1, .ref gr), (0, .ref dr)]) d_Dr_sumUp_108 rfl (by decide) rfl ?_
                refine r_lv hX (lv' := [(8, .int (iI ((d k : Nat) : Int))), (7, .int (iI ((k : Nat) : Int))), (6, .int (iI ((ra_bf d k : Nat) : Int))), (5, .int (iI ((ra_qj d k : Nat) : Int))), (4, .int (iI ((ra_qi d k : Nat) : Int))), (3, .int (iI ((ra_cs (ra_mk la lb LA LB SC op mo fr pt) d k) - ((mo) + (if d k = ra_bf d k then 0 else op))))), (2, .int (iI ((fr : Nat) : Int))), (1, .ref gr), (0, .ref dr)]) [1, 2, 3, 4, 5, 0, 6, 7, 8] rfl ?_
                refine r_eq (lv2 := [(8, .int (iI ((d k : Nat) : Int))), (7, .int (iI ((k : Nat) : Int))), (6, .int (iI ((ra_bf d k : Nat) : Int))), (5, .int (iI ((ra_qj d k : Nat) : Int))), (4, .int (iI ((ra_qi d k : Nat) : Int))), (3, .int (iI (ra_cs (ra_mk la lb LA LB SC op mo fr pt) d (k + 1)))), (2, .int (iI ((fr : Nat) : Int))), (1, .ref gr), (0, .ref dr)]) (st2 := []) (ws2 := [(dr, .inr (9, [.ref da, .int (iI ((dn : Nat) : Int))])), (da, .inl (tI, 200, .inl (iA (iN d)))), (gr, .inr (1, [.ref ra, .ref rb, .ref pr])), (ra, .inr (2, [.ref qa, .int (iI ((la : Nat) : Int))])), (qa, .inl (tI, 96, .inl (iA (iN LA)))), (rb, .inr (2, [.ref qb, .int (iI ((lb : Nat) : Int))])), (qb, .inl (tI, 96, .inl (iA (iN LB)))), (pr, .inr (3, [.ref pa, .int (iI op), .int (iI mo)])), (pa, .inl (tI, 676, .inl (iA SC)))]) (by first | rw [ra_cs_0 (by omega)] | rw [ra_cs_1f (by omega) h64] | rw [ra_cs_2f (by omega) (by omega) h77] | rw [ra_cs_1p (by omega) h64] | rw [ra_cs_2p (by omega) (by omega) h77]) rfl rfl ?_
                exact J109
              refine r_icmp_ne hX 99 d_Dr_sumUp_92 (by decide) (by unfold iR; omega) (by unfold iR; omega) (fun h92 => ?_) (fun h92 => ?_)
              · refine r_aload_n hX 7 d_Dr_sumUp_99 rfl ?_
                refine r_get hX cf_Gr 2 rfl 2 (by decide) fl_Dr_49 rfl d_Dr_sumUp_100 ?_
                refine r_get hX cf_Pr 7 rfl 1 (by decide) fl_Dr_58 rfl d_Dr_sumUp_103 ?_
                exact rj_e (by first | (rw [if_pos (by omega)]; rfl) | rw [if_neg (by omega)]) J106_3
              · refine r_iconstN hX 0 d_Dr_sumUp_95 rfl ?_
                refine r_goto hX 106 d_Dr_sumUp_96 (by decide) ?_
                exact rj_e (by first | (rw [if_pos (by omega)]; rfl) | rw [if_neg (by omega)]) J106_3
        · have hda : ra_da (d k) = 1 := by unfold ra_da; rw [if_neg (by omega)]
          have hdb : ra_db (d k) = 1 := by unfold ra_db; rw [if_neg (by omega)]
          refine r_iload_n hX 5 d_Dr_sumUp_37 rfl ?_
          refine r_aload_n hX 7 d_Dr_sumUp_38 rfl ?_
          refine r_iload hX 4 d_Dr_sumUp_39 rfl ?_
          refine r_iload hX 3 d_Dr_sumUp_41 rfl ?_
          refine r_invV_i0 (st := [.int (iI (ra_cs (ra_mk la lb LA LB SC op mo fr pt) d k))]) (As := [.int (iI ((ra_qi d k : Nat) : Int)), .int (iI ((ra_qj d k : Nat) : Int))]) (wr := [(dr, .inr (9, [.ref da, .int (iI ((dn : Nat) : Int))])), (da, .inl (tI, 200, .inl (iA (iN d))))]) hX (c_Gr_pairScore l D tI tJ tZ gr ra qa rb qb pr pa la lb LA LB SC op mo (ra_qi d k) (ra_qj d k) hA hB (by omega) (by omega)) "RowAligner$Ground" 2 1 cf_Gr rfl yn_Gr_pairScore ml_Dr_38 im_Gr_pairScore se_Gr_pairScore co_Gr_pairScore in_Gr (by decide) (by decide) (by decide) [2, 3, 4, 5, 6, 7, 8] [0, 1] rfl rfl rfl rfl rfl (by decide) rfl rfl (Nat.le_of_ble_eq_true rfl) d_Dr_sumUp_43 [0, 1, 2, 3, 4, 5, 6, 7, 8] rfl (w2 := fun _ => [(dr, .inr (9, [.ref da, .int (iI ((dn : Nat) : Int))])), (da, .inl (tI, 200, .inl (iA (iN d)))), (gr, .inr (1, [.ref ra, .ref rb, .ref pr])), (ra, .inr (2, [.ref qa, .int (iI ((la : Nat) : Int))])), (qa, .inl (tI, 96, .inl (iA (iN LA)))), (rb, .inr (2, [.ref qb, .int (iI ((lb : Nat) : Int))])), (qb, .inl (tI, 96, .inl (iA (iN LB)))), (pr, .inr (3, [.ref pa, .int (iI op), .int (iI mo)])), (pa, .inl (tI, 676, .inl (iA SC)))]) (fun _ => rfl) (fun r43 _ e43 => ?_)
          subst e43
          refine r_iadd hX d_Dr_sumUp_46 ?_
          refine r_istore_n hX (lv' := [(3, .int (iI ((ra_cs (ra_mk la lb LA LB SC op mo fr pt) d k) + (SC (LA (ra_qi d k) * 26 + LB (ra_qj d k)))))), (8, .int (iI ((d k : Nat) : Int))), (7, .int (iI ((k : Nat) : Int))), (6, .int (iI ((ra_bf d k : Nat) : Int))), (5, .int (iI ((ra_qj d k : Nat) : Int))), (4, .int (iI ((ra_qi d k : Nat) : Int))), (2, .int (iI ((fr : Nat) : Int))), (1, .ref gr), (0, .ref dr)]) d_Dr_sumUp_47 rfl (by decide) rfl ?_
          refine r_goto hX 109 d_Dr_sumUp_48 (by decide) ?_
          refine r_lv hX (lv' := [(8, .int (iI ((d k : Nat) : Int))), (7, .int (iI ((k : Nat) : Int))), (6, .int (iI ((ra_bf d k : Nat) : Int))), (5, .int (iI ((ra_qj d k : Nat) : Int))), (4, .int (iI ((ra_qi d k : Nat) : Int))), (3, .int (iI ((ra_cs (ra_mk la lb LA LB SC op mo fr pt) d k) + (SC (LA (ra_qi d k) * 26 + LB (ra_qj d k)))))), (2, .int (iI ((fr : Nat) : Int))), (1, .ref gr), (0, .ref dr)]) [1, 2, 3, 4, 5, 0, 6, 7, 8] rfl ?_
          refine r_eq (lv2 := [(8, .int (iI ((d k : Nat) : Int))), (7, .int (iI ((k : Nat) : Int))), (6, .int (iI ((ra_bf d k : Nat) : Int))), (5, .int (iI ((ra_qj d k : Nat) : Int))), (4, .int (iI ((ra_qi d k : Nat) : Int))), (3, .int (iI (ra_cs (ra_mk la lb LA LB SC op mo fr pt) d (k + 1)))), (2, .int (iI ((fr : Nat) : Int))), (1, .ref gr), (0, .ref dr)]) (st2 := []) (ws2 := [(dr, .inr (9, [.ref da, .int (iI ((dn : Nat) : Int))])), (da, .inl (tI, 200, .inl (iA (iN d)))), (gr, .inr (1, [.ref ra, .ref rb, .ref pr])), (ra, .inr (2, [.ref qa, .int (iI ((la : Nat) : Int))])), (qa, .inl (tI, 96, .inl (iA (iN LA)))), (rb, .inr (2, [.ref qb, .int (iI ((lb : Nat) : Int))])), (qb, .inl (tI, 96, .inl (iA (iN LB)))), (pr, .inr (3, [.ref pa, .int (iI op), .int (iI mo)])), (pa, .inl (tI, 676, .inl (iA SC)))]) (by first | rw [ra_cs_0 (by omega)] | rw [ra_cs_1f (by omega) h64] | rw [ra_cs_2f (by omega) (by omega) h77] | rw [ra_cs_1p (by omega) h64] | rw [ra_cs_2p (by omega) (by omega) h77]) rfl rfl ?_
          exact J109
  refine r_lv hX (lv' := [(7, .int (iI ((0 : Nat) : Int))), (6, .int (iI ((0 : Nat) : Int))), (5, .int (iI ((0 : Nat) : Int))), (4, .int (iI ((0 : Nat) : Int))), (3, .int (iI ((0 : Nat) : Int))), (2, .int (iI ((fr : Nat) : Int))), (1, .ref gr), (0, .ref dr)]) [0, 1, 2, 3, 4, 7, 6, 5] rfl ?_
  refine r_eq (lv2 := [(7, .int (iI ((0 : Nat) : Int))), (6, .int (iI ((ra_bf d 0 : Nat) : Int))), (5, .int (iI ((ra_qj d 0 : Nat) : Int))), (4, .int (iI ((ra_qi d 0 : Nat) : Int))), (3, .int (iI (ra_cs (ra_mk la lb LA LB SC op mo fr pt) d 0))), (2, .int (iI ((fr : Nat) : Int))), (1, .ref gr), (0, .ref dr)]) (st2 := []) (ws2 := [(dr, .inr (9, [.ref da, .int (iI ((dn : Nat) : Int))])), (da, .inl (tI, 200, .inl (iA (iN d)))), (gr, .inr (1, [.ref ra, .ref rb, .ref pr])), (ra, .inr (2, [.ref qa, .int (iI ((la : Nat) : Int))])), (qa, .inl (tI, 96, .inl (iA (iN LA)))), (rb, .inr (2, [.ref qb, .int (iI ((lb : Nat) : Int))])), (qb, .inl (tI, 96, .inl (iA (iN LB)))), (pr, .inr (3, [.ref pa, .int (iI op), .int (iI mo)])), (pa, .inl (tI, 676, .inl (iA SC)))]) rfl rfl rfl ?_
  exact L14 _ 0 rfl (by omega)
