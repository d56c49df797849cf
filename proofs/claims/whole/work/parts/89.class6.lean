abbrev rm_Ra_type_0 : Room := { frames := 2, cells := 0, slots := 0, locals := 46 }
set_option maxHeartbeats 4000000 in
set_option maxRecDepth 100000 in
theorem c_Ra_type_0 (l : Launch) (D : va_G) (tI tJ tZ : ClassId) (rz : Nat) (gr : Nat) (se : Nat) (ly : Nat) (wc : Nat) (cf : Nat) (dr : Nat) (ld : Bool) (wn : Bool) (xf : Bool) (cw : Int64) (ra : Nat) (rb : Nat) (pr : Nat) (qa : Nat) (la : Nat) (LA : Nat → Nat) (w : Int64) (nn : Nat) (hn : 1 ≤ nn ∧ nn ≤ 8) (hac : ra_ac w nn) (hlen : la + nn ≤ 96) : rCi l y_Ra_type prog_1_method_2_code 7 .int rm_Ra_type_0 D (tysA tI tJ tZ) [.ref rz, .int (iI ((0 : Nat) : Int)), .long w, .int (iI ((nn : Nat) : Int))] [(rz, .inr (0, [.ref gr, .ref se, .ref ly, .ref wc, .ref cf, .ref dr, .int (iI (bI (ld = true))), .int (iI (bI (wn = true))), .int (iI (bI (xf = true))), .long cw])), (gr, .inr (1, [.ref ra, .ref rb, .ref pr])), (ra, .inr (2, [.ref qa, .int (iI ((la : Nat) : Int))])), (qa, .inl (tI, 96, .inl (iA (iN LA))))] (fun zz (_ : Unit) => zz = iI (((la + nn : Nat) : Int))) (fun (_ : Unit) => [(rz, .inr (0, [.ref gr, .ref se, .ref ly, .ref wc, .ref cf, .ref dr, .int (iI (bI (false = true))), .int (iI (bI (wn = true))), .int (iI (bI (xf = true))), .long cw])), (gr, .inr (1, [.ref ra, .ref rb, .ref pr])), (ra, .inr (2, [.ref qa, .int (iI ((la + nn : Nat) : Int))])), (qa, .inl (tI, 96, .inl (iA (iN (ra_ty LA la w nn)))))]) := by
  intro sz
  refine r_met (by decide) (Nat.le_of_ble_eq_true rfl) ?_
  intro F p e s m args below meth c Q A hX hT hAe hsz hin
  subst hAe
  replace hX : rOK F p l e rm_Ra_type_0 s m args below meth c Q prog_1_method_2_code 7 "RowAligner" D (tysA tI tJ tZ) _ := hX
  show F 0 [(0, .ref rz), (1, .int (iI ((0 : Nat) : Int))), (2, .long w), (4, .int (iI ((nn : Nat) : Int)))] [] [(rz, .inr (0, [.ref gr, .ref se, .ref ly, .ref wc, .ref cf, .ref dr, .int (iI (bI (ld = true))), .int (iI (bI (wn = true))), .int (iI (bI (xf = true))), .long cw])), (gr, .inr (1, [.ref ra, .ref rb, .ref pr])), (ra, .inr (2, [.ref qa, .int (iI ((la : Nat) : Int))])), (qa, .inl (tI, 96, .inl (iA (iN LA))))] 0 0
  refine r_aload_n hX 0 d_Ra_type_0 rfl ?_
  refine r_iload_n hX 1 d_Ra_type_1 rfl ?_
  refine r_invV_r0 (st := []) (As := [.int (iI ((0 : Nat) : Int))]) (wr := [(ra, .inr (2, [.ref qa, .int (iI ((la : Nat) : Int))])), (qa, .inl (tI, 96, .inl (iA (iN LA))))]) hX (c_Ra_existingRow_0 l D tI tJ tZ rz gr se ly wc cf dr ld wn xf cw ra rb pr) "RowAligner" 0 0 cf_Ra rfl yn_Ra_existingRow ml_Ra_53 im_Ra_existingRow se_Ra_existingRow co_Ra_existingRow in_Ra (by decide) (by decide) (by decide) [0, 1] [2, 3] rfl rfl rfl rfl rfl (by decide) rfl rfl (Nat.le_of_ble_eq_true rfl) d_Ra_type_2 [2, 3, 0, 1] rfl (w2 := [(rz, .inr (0, [.ref gr, .ref se, .ref ly, .ref wc, .ref cf, .ref dr, .int (iI (bI (ld = true))), .int (iI (bI (wn = true))), .int (iI (bI (xf = true))), .long cw])), (gr, .inr (1, [.ref ra, .ref rb, .ref pr])), (ra, .inr (2, [.ref qa, .int (iI ((la : Nat) : Int))])), (qa, .inl (tI, 96, .inl (iA (iN LA))))]) rfl ?_
  refine r_astore hX (lv' := [(5, .ref ra), (0, .ref rz), (1, .int (iI ((0 : Nat) : Int))), (2, .long w), (4, .int (iI ((nn : Nat) : Int)))]) d_Ra_type_5 (by decide) rfl ?_
  refine r_iload hX 4 d_Ra_type_7 rfl ?_
  refine r_iconstN hX 1 d_Ra_type_9 rfl ?_
  refine r_icmp_lt hX 29 d_Ra_type_10 (by decide) (by unfold iR; omega) (by unfold iR; omega) (fun h10 => by exfalso; omega) (fun h10 => ?_)
  refine r_iload hX 4 d_Ra_type_13 rfl ?_
  refine r_bipushN hX 8 d_Ra_type_15 rfl (by decide) ?_
  refine r_icmp_gt hX 29 d_Ra_type_17 (by decide) (by unfold iR; omega) (by unfold iR; omega) (fun h17 => by exfalso; omega) (fun h17 => ?_)
  refine r_lload_n hX 3 d_Ra_type_20 rfl ?_
  refine r_iload hX 4 d_Ra_type_21 rfl ?_
  refine r_invS_i0 (st := []) (As := [.long w, .int (iI ((nn : Nat) : Int))]) (wr := [(rz, .inr (0, [.ref gr, .ref se, .ref ly, .ref wc, .ref cf, .ref dr, .int (iI (bI (ld = true))), .int (iI (bI (wn = true))), .int (iI (bI (xf = true))), .long cw])), (gr, .inr (1, [.ref ra, .ref rb, .ref pr])), (ra, .inr (2, [.ref qa, .int (iI ((la : Nat) : Int))])), (qa, .inl (tI, 96, .inl (iA (iN LA))))]) hX (c_Ra_areCharacters l D tI tJ tZ w nn hn.2) yn_Ra_areCharacters ml_Ra_57 st_Ra_areCharacters co_Ra_areCharacters in_Ra (by decide) (by decide) (by decide) [] [0, 1, 2, 3] rfl rfl rfl rfl rfl (by decide) rfl rfl (Nat.le_of_ble_eq_true rfl) d_Ra_type_23 [0, 1, 2, 3] rfl (w2 := fun _ => [(rz, .inr (0, [.ref gr, .ref se, .ref ly, .ref wc, .ref cf, .ref dr, .int (iI (bI (ld = true))), .int (iI (bI (wn = true))), .int (iI (bI (xf = true))), .long cw])), (gr, .inr (1, [.ref ra, .ref rb, .ref pr])), (ra, .inr (2, [.ref qa, .int (iI ((la : Nat) : Int))])), (qa, .inl (tI, 96, .inl (iA (iN LA))))]) (fun _ => rfl) (fun r23 _ e23 => ?_)
  subst e23
  refine rb_if_ne hX 37 d_Ra_type_26 (by decide) (fun h26 => ?_) (fun h26 => by exfalso; exact h26 (ra_tv_iff.2 hac))
  refine r_aload hX 0 d_Ra_type_37 rfl ?_
  refine r_get hX cf_Ro 2 rfl 1 (by decide) fl_Ra_64 rfl d_Ra_type_39 ?_
  refine r_iload hX 4 d_Ra_type_42 rfl ?_
  refine r_iaddN hX d_Ra_type_44 ?_
  refine r_bipushN hX 96 d_Ra_type_45 rfl (by decide) ?_
  refine r_icmp_le hX 58 d_Ra_type_47 (by decide) (by unfold iR; omega) (by unfold iR; omega) (fun h47 => ?_) (fun h47 => by exfalso; omega)
  refine r_iconstN hX 0 d_Ra_type_58 rfl ?_
  refine r_istore hX (lv' := [(6, .int (iI ((0 : Nat) : Int))), (5, .ref ra), (0, .ref rz), (1, .int (iI ((0 : Nat) : Int))), (2, .long w), (4, .int (iI ((nn : Nat) : Int)))]) d_Ra_type_59 (by decide) rfl ?_
  have L61 : ∀ (dd : Nat) (k : Nat), nn - k = dd → (k ≤ nn) → F 61 [(6, .int (iI ((k : Nat) : Int))), (5, .ref ra), (4, .int (iI ((nn : Nat) : Int))), (2, .long w), (1, .int (iI ((0 : Nat) : Int))), (0, .ref rz)] [] [(rz, .inr (0, [.ref gr, .ref se, .ref ly, .ref wc, .ref cf, .ref dr, .int (iI (bI (ld = true))), .int (iI (bI (wn = true))), .int (iI (bI (xf = true))), .long cw])), (gr, .inr (1, [.ref ra, .ref rb, .ref pr])), (ra, .inr (2, [.ref qa, .int (iI ((la + k : Nat) : Int))])), (qa, .inl (tI, 96, .inl (iA (iN (ra_ty LA la w k)))))] 0 0 := by
    intro dd
    induction dd using Nat.strongRecOn with
    | _ dd ih61 =>
      intro k hmu61 hk
      refine r_iload hX 0 d_Ra_type_61 rfl ?_
      refine r_iload hX 2 d_Ra_type_63 rfl ?_
      refine r_icmp_ge hX 88 d_Ra_type_65 (by decide) (by unfold iR; omega) (by unfold iR; omega) (fun h65 => ?_) (fun h65 => ?_)
      · refine r_aload_n hX 5 d_Ra_type_88 rfl ?_
        refine r_iconstN hX 0 d_Ra_type_89 rfl ?_
        refine r_put hX (ws' := [(rz, .inr (0, [.ref gr, .ref se, .ref ly, .ref wc, .ref cf, .ref dr, .int (iI ((0 : Nat) : Int)), .int (iI (bI (wn = true))), .int (iI (bI (xf = true))), .long cw])), (gr, .inr (1, [.ref ra, .ref rb, .ref pr])), (ra, .inr (2, [.ref qa, .int (iI ((la + k : Nat) : Int))])), (qa, .inl (tI, 96, .inl (iA (iN (ra_ty LA la w k)))))]) cf_Ra 0 rfl 6 (by decide) fl_Ra_81 rfl (by decide +kernel) (by decide +kernel) (Nat.le_of_ble_eq_true rfl) rfl d_Ra_type_90 ?_
        refine r_aload hX 1 d_Ra_type_93 rfl ?_
        refine r_get hX cf_Ro 2 rfl 1 (by decide) fl_Ra_64 rfl d_Ra_type_95 ?_
        exact r_iret hX hT () (by rw [show k = nn by omega]) (by rw [show k = nn by omega]; rfl) (by decide) (by decide) d_Ra_type_98
      · have hck := hac k (by omega)
        refine r_aload hX 1 d_Ra_type_68 rfl ?_
        refine r_lload_n hX 3 d_Ra_type_70 rfl ?_
        refine r_iload hX 0 d_Ra_type_71 rfl ?_
        refine r_invS_i0 (st := [.ref ra]) (As := [.long w, .int (iI ((k : Nat) : Int))]) (wr := [(rz, .inr (0, [.ref gr, .ref se, .ref ly, .ref wc, .ref cf, .ref dr, .int (iI (bI (ld = true))), .int (iI (bI (wn = true))), .int (iI (bI (xf = true))), .long cw])), (gr, .inr (1, [.ref ra, .ref rb, .ref pr])), (ra, .inr (2, [.ref qa, .int (iI ((la + k : Nat) : Int))])), (qa, .inl (tI, 96, .inl (iA (iN (ra_ty LA la w k)))))]) hX (c_Ra_characterAt l D tI tJ tZ w k (by omega)) yn_Ra_characterAt ml_Ra_73 st_Ra_characterAt co_Ra_characterAt in_Ra (by decide) (by decide) (by decide) [] [0, 1, 2, 3] rfl rfl rfl rfl rfl (by decide) rfl rfl (Nat.le_of_ble_eq_true rfl) d_Ra_type_73 [0, 1, 2, 3] rfl (w2 := fun _ => [(rz, .inr (0, [.ref gr, .ref se, .ref ly, .ref wc, .ref cf, .ref dr, .int (iI (bI (ld = true))), .int (iI (bI (wn = true))), .int (iI (bI (xf = true))), .long cw])), (gr, .inr (1, [.ref ra, .ref rb, .ref pr])), (ra, .inr (2, [.ref qa, .int (iI ((la + k : Nat) : Int))])), (qa, .inl (tI, 96, .inl (iA (iN (ra_ty LA la w k)))))]) (fun _ => rfl) (fun r73 _ e73 => ?_)
        subst e73
        refine r_bipushN hX 97 d_Ra_type_76 rfl (by decide) ?_
        refine r_isub hX d_Ra_type_78 ?_
        refine r_eq (lv2 := [(6, .int (iI ((k : Nat) : Int))), (5, .ref ra), (4, .int (iI ((nn : Nat) : Int))), (2, .long w), (1, .int (iI ((0 : Nat) : Int))), (0, .ref rz)]) (st2 := [.int (iI ((ra_by w k - 97 : Nat) : Int)), .ref ra]) (ws2 := [(rz, .inr (0, [.ref gr, .ref se, .ref ly, .ref wc, .ref cf, .ref dr, .int (iI (bI (ld = true))), .int (iI (bI (wn = true))), .int (iI (bI (xf = true))), .long cw])), (gr, .inr (1, [.ref ra, .ref rb, .ref pr])), (ra, .inr (2, [.ref qa, .int (iI ((la + k : Nat) : Int))])), (qa, .inl (tI, 96, .inl (iA (iN (ra_ty LA la w k)))))]) rfl (by rw [show ((ra_by w k : Nat) : Int) - ((97 : Nat) : Int) = ((ra_by w k - 97 : Nat) : Int) by omega]) rfl ?_
        refine r_invV_v0 (st := []) (As := [.int (iI ((ra_by w k - 97 : Nat) : Int))]) (wr := [(rz, .inr (0, [.ref gr, .ref se, .ref ly, .ref wc, .ref cf, .ref dr, .int (iI (bI (ld = true))), .int (iI (bI (wn = true))), .int (iI (bI (xf = true))), .long cw])), (gr, .inr (1, [.ref ra, .ref rb, .ref pr]))]) hX (c_Ro_append l D tI tJ tZ ra qa (ra_ty LA la w k) (la + k) (ra_by w k - 97) (by omega)) "RowAligner$Row" 2 2 cf_Ro rfl yn_Ro_append ml_Ra_77 im_Ro_append se_Ro_append co_Ro_append in_Ro (by decide) (by decide) (by decide) [2, 3] [0, 1] rfl rfl rfl rfl rfl (by decide) rfl rfl (Nat.le_of_ble_eq_true rfl) d_Ra_type_79 [0, 1, 2, 3] rfl (w2 := fun _ => [(rz, .inr (0, [.ref gr, .ref se, .ref ly, .ref wc, .ref cf, .ref dr, .int (iI (bI (ld = true))), .int (iI (bI (wn = true))), .int (iI (bI (xf = true))), .long cw])), (gr, .inr (1, [.ref ra, .ref rb, .ref pr])), (ra, .inr (2, [.ref qa, .int (iI (((la + k) + 1 : Nat) : Int))])), (qa, .inl (tI, 96, .inl (iA (iN (iU (ra_ty LA la w k) (la + k) (ra_by w k - 97))))))]) (fun _ => rfl) (fun _ _ => ?_)
        refine r_iincN hX (lv' := [(6, .int (iI ((k + 1 : Nat) : Int))), (5, .ref ra), (4, .int (iI ((nn : Nat) : Int))), (2, .long w), (1, .int (iI ((0 : Nat) : Int))), (0, .ref rz)]) 0 d_Ra_type_82 rfl (by decide) rfl ?_
        refine r_goto hX 61 d_Ra_type_85 (by decide) ?_
        refine r_eq (lv2 := [(6, .int (iI ((k + 1 : Nat) : Int))), (5, .ref ra), (4, .int (iI ((nn : Nat) : Int))), (2, .long w), (1, .int (iI ((0 : Nat) : Int))), (0, .ref rz)]) (st2 := []) (ws2 := [(rz, .inr (0, [.ref gr, .ref se, .ref ly, .ref wc, .ref cf, .ref dr, .int (iI (bI (ld = true))), .int (iI (bI (wn = true))), .int (iI (bI (xf = true))), .long cw])), (gr, .inr (1, [.ref ra, .ref rb, .ref pr])), (ra, .inr (2, [.ref qa, .int (iI ((la + (k + 1) : Nat) : Int))])), (qa, .inl (tI, 96, .inl (iA (iN (ra_ty LA la w (k + 1))))))]) rfl rfl (by rw [ra_ty_s0]; rfl) ?_
        exact ih61 _ (by omega) (k + 1) rfl (by omega)
  refine r_lv hX (lv' := [(6, .int (iI ((0 : Nat) : Int))), (5, .ref ra), (4, .int (iI ((nn : Nat) : Int))), (2, .long w), (1, .int (iI ((0 : Nat) : Int))), (0, .ref rz)]) [0, 1, 5, 4, 3, 2] rfl ?_
  refine r_eq (lv2 := [(6, .int (iI ((0 : Nat) : Int))), (5, .ref ra), (4, .int (iI ((nn : Nat) : Int))), (2, .long w), (1, .int (iI ((0 : Nat) : Int))), (0, .ref rz)]) (st2 := []) (ws2 := [(rz, .inr (0, [.ref gr, .ref se, .ref ly, .ref wc, .ref cf, .ref dr, .int (iI (bI (ld = true))), .int (iI (bI (wn = true))), .int (iI (bI (xf = true))), .long cw])), (gr, .inr (1, [.ref ra, .ref rb, .ref pr])), (ra, .inr (2, [.ref qa, .int (iI ((la + 0 : Nat) : Int))])), (qa, .inl (tI, 96, .inl (iA (iN (ra_ty LA la w 0)))))]) rfl rfl (by rw [ra_ty_0]; rfl) ?_
  exact L61 _ 0 rfl (by omega)

abbrev rm_Ra_type_1 : Room := { frames := 2, cells := 0, slots := 0, locals := 46 }
set_option maxHeartbeats 4000000 in
set_option maxRecDepth 100000 in
theorem c_Ra_type_1 (l : Launch) (D : va_G) (tI tJ tZ : ClassId) (rz : Nat) (gr : Nat) (se : Nat) (ly : Nat) (wc : Nat) (cf : Nat) (dr : Nat) (ld : Bool) (wn : Bool) (xf : Bool) (cw : Int64) (ra : Nat) (rb : Nat) (pr : Nat) (qa : Nat) (la : Nat) (LA : Nat → Nat) (w : Int64) (nn : Nat) (hn : 1 ≤ nn ∧ nn ≤ 8) (hac : ra_ac w nn) (hlen : la + nn ≤ 96) : rCi l y_Ra_type prog_1_method_2_code 7 .int rm_Ra_type_1 D (tysA tI tJ tZ) [.ref rz, .int (iI ((1 : Nat) : Int)), .long w, .int (iI ((nn : Nat) : Int))] [(rz, .inr (0, [.ref gr, .ref se, .ref ly, .ref wc, .ref cf, .ref dr, .int (iI (bI (ld = true))), .int (iI (bI (wn = true))), .int (iI (bI (xf = true))), .long cw])), (gr, .inr (1, [.ref ra, .ref rb, .ref pr])), (rb, .inr (2, [.ref qa, .int (iI ((la : Nat) : Int))])), (qa, .inl (tI, 96, .inl (iA (iN LA))))] (fun zz (_ : Unit) => zz = iI (((la + nn : Nat) : Int))) (fun (_ : Unit) => [(rz, .inr (0, [.ref gr, .ref se, .ref ly, .ref wc, .ref cf, .ref dr, .int (iI (bI (false = true))), .int (iI (bI (wn = true))), .int (iI (bI (xf = true))), .long cw])), (gr, .inr (1, [.ref ra, .ref rb, .ref pr])), (rb, .inr (2, [.ref qa, .int (iI ((la + nn : Nat) : Int))])), (qa, .inl (tI, 96, .inl (iA (iN (ra_ty LA la w nn)))))]) := by
  intro sz
  refine r_met (by decide) (Nat.le_of_ble_eq_true rfl) ?_
  intro F p e s m args below meth c Q A hX hT hAe hsz hin
  subst hAe
  replace hX : rOK F p l e rm_Ra_type_1 s m args below meth c Q prog_1_method_2_code 7 "RowAligner" D (tysA tI tJ tZ) _ := hX
  show F 0 [(0, .ref rz), (1, .int (iI ((1 : Nat) : Int))), (2, .long w), (4, .int (iI ((nn : Nat) : Int)))] [] [(rz, .inr (0, [.ref gr, .ref se, .ref ly, .ref wc, .ref cf, .ref dr, .int (iI (bI (ld = true))), .int (iI (bI (wn = true))), .int (iI (bI (xf = true))), .long cw])), (gr, .inr (1, [.ref ra, .ref rb, .ref pr])), (rb, .inr (2, [.ref qa, .int (iI ((la : Nat) : Int))])), (qa, .inl (tI, 96, .inl (iA (iN LA))))] 0 0
  refine r_aload_n hX 0 d_Ra_type_0 rfl ?_
  refine r_iload_n hX 1 d_Ra_type_1 rfl ?_
  refine r_invV_r0 (st := []) (As := [.int (iI ((1 : Nat) : Int))]) (wr := [(rb, .inr (2, [.ref qa, .int (iI ((la : Nat) : Int))])), (qa, .inl (tI, 96, .inl (iA (iN LA))))]) hX (c_Ra_existingRow_1 l D tI tJ tZ rz gr se ly wc cf dr ld wn xf cw ra rb pr) "RowAligner" 0 0 cf_Ra rfl yn_Ra_existingRow ml_Ra_53 im_Ra_existingRow se_Ra_existingRow co_Ra_existingRow in_Ra (by decide) (by decide) (by decide) [0, 1] [2, 3] rfl rfl rfl rfl rfl (by decide) rfl rfl (Nat.le_of_ble_eq_true rfl) d_Ra_type_2 [2, 3, 0, 1] rfl (w2 := [(rz, .inr (0, [.ref gr, .ref se, .ref ly, .ref wc, .ref cf, .ref dr, .int (iI (bI (ld = true))), .int (iI (bI (wn = true))), .int (iI (bI (xf = true))), .long cw])), (gr, .inr (1, [.ref ra, .ref rb, .ref pr])), (rb, .inr (2, [.ref qa, .int (iI ((la : Nat) : Int))])), (qa, .inl (tI, 96, .inl (iA (iN LA))))]) rfl ?_
  refine r_astore hX (lv' := [(5, .ref rb), (0, .ref rz), (1, .int (iI ((1 : Nat) : Int))), (2, .long w), (4, .int (iI ((nn : Nat) : Int)))]) d_Ra_type_5 (by decide) rfl ?_
  refine r_iload hX 4 d_Ra_type_7 rfl ?_
  refine r_iconstN hX 1 d_Ra_type_9 rfl ?_
  refine r_icmp_lt hX 29 d_Ra_type_10 (by decide) (by unfold iR; omega) (by unfold iR; omega) (fun h10 => by exfalso; omega) (fun h10 => ?_)
  refine r_iload hX 4 d_Ra_type_13 rfl ?_
  refine r_bipushN hX 8 d_Ra_type_15 rfl (by decide) ?_
  refine r_icmp_gt hX 29 d_Ra_type_17 (by decide) (by unfold iR; omega) (by unfold iR; omega) (fun h17 => by exfalso; omega) (fun h17 => ?_)
  refine r_lload_n hX 3 d_Ra_type_20 rfl ?_
  refine r_iload hX 4 d_Ra_type_21 rfl ?_
  refine r_invS_i0 (st := []) (As := [.long w, .int (iI ((nn : Nat) : Int))]) (wr := [(rz, .inr (0, [.ref gr, .ref se, .ref ly, .ref wc, .ref cf, .ref dr, .int (iI (bI (ld = true))), .int (iI (bI (wn = true))), .int (iI (bI (xf = true))), .long cw])), (gr, .inr (1, [.ref ra, .ref rb, .ref pr])), (rb, .inr (2, [.ref qa, .int (iI ((la : Nat) : Int))])), (qa, .inl (tI, 96, .inl (iA (iN LA))))]) hX (c_Ra_areCharacters l D tI tJ tZ w nn hn.2) yn_Ra_areCharacters ml_Ra_57 st_Ra_areCharacters co_Ra_areCharacters in_Ra (by decide) (by decide) (by decide) [] [0, 1, 2, 3] rfl rfl rfl rfl rfl (by decide) rfl rfl (Nat.le_of_ble_eq_true rfl) d_Ra_type_23 [0, 1, 2, 3] rfl (w2 := fun _ => [(rz, .inr (0, [.ref gr, .ref se, .ref ly, .ref wc, .ref cf, .ref dr, .int (iI (bI (ld = true))), .int (iI (bI (wn = true))), .int (iI (bI (xf = true))), .long cw])), (gr, .inr (1, [.ref ra, .ref rb, .ref pr])), (rb, .inr (2, [.ref qa, .int (iI ((la : Nat) : Int))])), (qa, .inl (tI, 96, .inl (iA (iN LA))))]) (fun _ => rfl) (fun r23 _ e23 => ?_)
  subst e23
  refine rb_if_ne hX 37 d_Ra_type_26 (by decide) (fun h26 => ?_) (fun h26 => by exfalso; exact h26 (ra_tv_iff.2 hac))
  refine r_aload hX 0 d_Ra_type_37 rfl ?_
  refine r_get hX cf_Ro 2 rfl 1 (by decide) fl_Ra_64 rfl d_Ra_type_39 ?_
  refine r_iload hX 4 d_Ra_type_42 rfl ?_
  refine r_iaddN hX d_Ra_type_44 ?_
  refine r_bipushN hX 96 d_Ra_type_45 rfl (by decide) ?_
  refine r_icmp_le hX 58 d_Ra_type_47 (by decide) (by unfold iR; omega) (by unfold iR; omega) (fun h47 => ?_) (fun h47 => by exfalso; omega)
  refine r_iconstN hX 0 d_Ra_type_58 rfl ?_
  refine r_istore hX (lv' := [(6, .int (iI ((0 : Nat) : Int))), (5, .ref rb), (0, .ref rz), (1, .int (iI ((1 : Nat) : Int))), (2, .long w), (4, .int (iI ((nn : Nat) : Int)))]) d_Ra_type_59 (by decide) rfl ?_
  have L61 : ∀ (dd : Nat) (k : Nat), nn - k = dd → (k ≤ nn) → F 61 [(6, .int (iI ((k : Nat) : Int))), (5, .ref rb), (4, .int (iI ((nn : Nat) : Int))), (2, .long w), (1, .int (iI ((1 : Nat) : Int))), (0, .ref rz)] [] [(rz, .inr (0, [.ref gr, .ref se, .ref ly, .ref wc, .ref cf, .ref dr, .int (iI (bI (ld = true))), .int (iI (bI (wn = true))), .int (iI (bI (xf = true))), .long cw])), (gr, .inr (1, [.ref ra, .ref rb, .ref pr])), (rb, .inr (2, [.ref qa, .int (iI ((la + k : Nat) : Int))])), (qa, .inl (tI, 96, .inl (iA (iN (ra_ty LA la w k)))))] 0 0 := by
    intro dd
    induction dd using Nat.strongRecOn with
    | _ dd ih61 =>
      intro k hmu61 hk
      refine r_iload hX 0 d_Ra_type_61 rfl ?_
      refine r_iload hX 2 d_Ra_type_63 rfl ?_
      refine r_icmp_ge hX 88 d_Ra_type_65 (by decide) (by unfold iR; omega) (by unfold iR; omega) (fun h65 => ?_) (fun h65 => ?_)
      · refine r_aload_n hX 5 d_Ra_type_88 rfl ?_
        refine r_iconstN hX 0 d_Ra_type_89 rfl ?_
        refine r_put hX (ws' := [(rz, .inr (0, [.ref gr, .ref se, .ref ly, .ref wc, .ref cf, .ref dr, .int (iI ((0 : Nat) : Int)), .int (iI (bI (wn = true))), .int (iI (bI (xf = true))), .long cw])), (gr, .inr (1, [.ref ra, .ref rb, .ref pr])), (rb, .inr (2, [.ref qa, .int (iI ((la + k : Nat) : Int))])), (qa, .inl (tI, 96, .inl (iA (iN (ra_ty LA la w k)))))]) cf_Ra 0 rfl 6 (by decide) fl_Ra_81 rfl (by decide +kernel) (by decide +kernel) (Nat.le_of_ble_eq_true rfl) rfl d_Ra_type_90 ?_
        refine r_aload hX 1 d_Ra_type_93 rfl ?_
        refine r_get hX cf_Ro 2 rfl 1 (by decide) fl_Ra_64 rfl d_Ra_type_95 ?_
        exact r_iret hX hT () (by rw [show k = nn by omega]) (by rw [show k = nn by omega]; rfl) (by decide) (by decide) d_Ra_type_98
      · have hck := hac k (by omega)
        refine r_aload hX 1 d_Ra_type_68 rfl ?_
        refine r_lload_n hX 3 d_Ra_type_70 rfl ?_
        refine r_iload hX 0 d_Ra_type_71 rfl ?_
        refine r_invS_i0 (st := [.ref rb]) (As := [.long w, .int (iI ((k : Nat) : Int))]) (wr := [(rz, .inr (0, [.ref gr, .ref se, .ref ly, .ref wc, .ref cf, .ref dr, .int (iI (bI (ld = true))), .int (iI (bI (wn = true))), .int (iI (bI (xf = true))), .long cw])), (gr, .inr (1, [.ref ra, .ref rb, .ref pr])), (rb, .inr (2, [.ref qa, .int (iI ((la + k : Nat) : Int))])), (qa, .inl (tI, 96, .inl (iA (iN (ra_ty LA la w k)))))]) hX (c_Ra_characterAt l D tI tJ tZ w k (by omega)) yn_Ra_characterAt ml_Ra_73 st_Ra_characterAt co_Ra_characterAt in_Ra (by decide) (by decide) (by decide) [] [0, 1, 2, 3] rfl rfl rfl rfl rfl (by decide) rfl rfl (Nat.le_of_ble_eq_true rfl) d_Ra_type_73 [0, 1, 2, 3] rfl (w2 := fun _ => [(rz, .inr (0, [.ref gr, .ref se, .ref ly, .ref wc, .ref cf, .ref dr, .int (iI (bI (ld = true))), .int (iI (bI (wn = true))), .int (iI (bI (xf = true))), .long cw])), (gr, .inr (1, [.ref ra, .ref rb, .ref pr])), (rb, .inr (2, [.ref qa, .int (iI ((la + k : Nat) : Int))])), (qa, .inl (tI, 96, .inl (iA (iN (ra_ty LA la w k)))))]) (fun _ => rfl) (fun r73 _ e73 => ?_)
        subst e73
        refine r_bipushN hX 97 d_Ra_type_76 rfl (by decide) ?_
        refine r_isub hX d_Ra_type_78 ?_
        refine r_eq (lv2 := [(6, .int (iI ((k : Nat) : Int))), (5, .ref rb), (4, .int (iI ((nn : Nat) : Int))), (2, .long w), (1, .int (iI ((1 : Nat) : Int))), (0, .ref rz)]) (st2 := [.int (iI ((ra_by w k - 97 : Nat) : Int)), .ref rb]) (ws2 := [(rz, .inr (0, [.ref gr, .ref se, .ref ly, .ref wc, .ref cf, .ref dr, .int (iI (bI (ld = true))), .int (iI (bI (wn = true))), .int (iI (bI (xf = true))), .long cw])), (gr, .inr (1, [.ref ra, .ref rb, .ref pr])), (rb, .inr (2, [.ref qa, .int (iI ((la + k : Nat) : Int))])), (qa, .inl (tI, 96, .inl (iA (iN (ra_ty LA la w k)))))]) rfl (by rw [show ((ra_by w k : Nat) : Int) - ((97 : Nat) : Int) = ((ra_by w k - 97 : Nat) : Int) by omega]) rfl ?_
        refine r_invV_v0 (st := []) (As := [.int (iI ((ra_by w k - 97 : Nat) : Int))]) (wr := [(rz, .inr (0, [.ref gr, .ref se, .ref ly, .ref wc, .ref cf, .ref dr, .int (iI (bI (ld = true))), .int (iI (bI (wn = true))), .int (iI (bI (xf = true))), .long cw])), (gr, .inr (1, [.ref ra, .ref rb, .ref pr]))]) hX (c_Ro_append l D tI tJ tZ rb qa (ra_ty LA la w k) (la + k) (ra_by w k - 97) (by omega)) "RowAligner$Row" 2 2 cf_Ro rfl yn_Ro_append ml_Ra_77 im_Ro_append se_Ro_append co_Ro_append in_Ro (by decide) (by decide) (by decide) [2, 3] [0, 1] rfl rfl rfl rfl rfl (by decide) rfl rfl (Nat.le_of_ble_eq_true rfl) d_Ra_type_79 [0, 1, 2, 3] rfl (w2 := fun _ => [(rz, .inr (0, [.ref gr, .ref se, .ref ly, .ref wc, .ref cf, .ref dr, .int (iI (bI (ld = true))), .int (iI (bI (wn = true))), .int (iI (bI (xf = true))), .long cw])), (gr, .inr (1, [.ref ra, .ref rb, .ref pr])), (rb, .inr (2, [.ref qa, .int (iI (((la + k) + 1 : Nat) : Int))])), (qa, .inl (tI, 96, .inl (iA (iN (iU (ra_ty LA la w k) (la + k) (ra_by w k - 97))))))]) (fun _ => rfl) (fun _ _ => ?_)
        refine r_iincN hX (lv' := [(6, .int (iI ((k + 1 : Nat) : Int))), (5, .ref rb), (4, .int (iI ((nn : Nat) : Int))), (2, .long w), (1, .int (iI ((1 : Nat) : Int))), (0, .ref rz)]) 0 d_Ra_type_82 rfl (by decide) rfl ?_
        refine r_goto hX 61 d_Ra_type_85 (by decide) ?_
        refine r_eq (lv2 := [(6, .int (iI ((k + 1 : Nat) : Int))), (5, .ref rb), (4, .int (iI ((nn : Nat) : Int))), (2, .long w), (1, .int (iI ((1 : Nat) : Int))), (0, .ref rz)]) (st2 := []) (ws2 := [(rz, .inr (0, [.ref gr, .ref se, .ref ly, .ref wc, .ref cf, .ref dr, .int (iI (bI (ld = true))), .int (iI (bI (wn = true))), .int (iI (bI (xf = true))), .long cw])), (gr, .inr (1, [.ref ra, .ref rb, .ref pr])), (rb, .inr (2, [.ref qa, .int (iI ((la + (k + 1) : Nat) : Int))])), (qa, .inl (tI, 96, .inl (iA (iN (ra_ty LA la w (k + 1))))))]) rfl rfl (by rw [ra_ty_s0]; rfl) ?_
        exact ih61 _ (by omega) (k + 1) rfl (by omega)
  refine r_lv hX (lv' := [(6, .int (iI ((0 : Nat) : Int))), (5, .ref rb), (4, .int (iI ((nn : Nat) : Int))), (2, .long w), (1, .int (iI ((1 : Nat) : Int))), (0, .ref rz)]) [0, 1, 5, 4, 3, 2] rfl ?_
  refine r_eq (lv2 := [(6, .int (iI ((0 : Nat) : Int))), (5, .ref rb), (4, .int (iI ((nn : Nat) : Int))), (2, .long w), (1, .int (iI ((1 : Nat) : Int))), (0, .ref rz)]) (st2 := []) (ws2 := [(rz, .inr (0, [.ref gr, .ref se, .ref ly, .ref wc, .ref cf, .ref dr, .int (iI (bI (ld = true))), .int (iI (bI (wn = true))), .int (iI (bI (xf = true))), .long cw])), (gr, .inr (1, [.ref ra, .ref rb, .ref pr])), (rb, .inr (2, [.ref qa, .int (iI ((la + 0 : Nat) : Int))])), (qa, .inl (tI, 96, .inl (iA (iN (ra_ty LA la w 0)))))]) rfl rfl (by rw [ra_ty_0]; rfl) ?_
  exact L61 _ 0 rfl (by omega)
