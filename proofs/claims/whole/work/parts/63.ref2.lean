abbrev rm_Mo_reckonAll : Room := { frames := 2, cells := 0, slots := 0, locals := 55 }
set_option maxHeartbeats 4000000 in
set_option maxRecDepth 100000 in
theorem c_Mo_reckonAll (l : Launch) (D : va_G) (tI tJ tZ : ClassId) (mo : Nat) (ml : Nat) (mz : Nat) (ms : Nat) (mt : Nat) (mb : Nat) (me : Nat) (bt : Nat) (wy : Nat) (lq : Nat) (df : Nat) (cd : Int) (op : Int) (mr : Int) (ld : Bool) (pt : Bool) (fr : Nat) (sn : Nat) (dn : Nat) (L : Nat → Nat) (Z : Nat → Nat) (SC : Nat → Int) (T : Nat → Int) (K : Nat → Int64) (hM : raM Z L SC op mr fr) : rCv l y_Mo_reckonAll prog_12_method_19_code 4 rm_Mo_reckonAll D (tysA tI tJ tZ) [.ref mo] [(mo, .inr (10, [.int (iI cd), .ref ml, .ref mz, .ref ms, .int (iI op), .int (iI mr), .int (iI (bI (ld = true))), .int (iI (bI (pt = true))), .int (iI ((fr : Nat) : Int)), .ref mt, .int (iI ((sn : Nat) : Int)), .ref mb, .ref me, .ref bt, .ref wy, .ref lq, .ref df, .int (iI ((dn : Nat) : Int))])), (ml, .inl (tI, 192, .inl (iA (iN L)))), (mz, .inl (tI, 2, .inl (iA (iN Z)))), (ms, .inl (tI, 676, .inl (iA SC))), (bt, .inl (tI, 28227, .inl (iA T))), (wy, .inl (tJ, 28227, .inr (.inl K)))] (fun u => ra_MD (ra_mg Z L SC op mr fr pt) u.1 u.2 0 0 0) (fun (u : (Nat → Int) × (Nat → Int64)) => [(mo, .inr (10, [.int (iI cd), .ref ml, .ref mz, .ref ms, .int (iI op), .int (iI mr), .int (iI (bI (ld = true))), .int (iI (bI (pt = true))), .int (iI ((fr : Nat) : Int)), .ref mt, .int (iI ((sn : Nat) : Int)), .ref mb, .ref me, .ref bt, .ref wy, .ref lq, .ref df, .int (iI ((dn : Nat) : Int))])), (ml, .inl (tI, 192, .inl (iA (iN L)))), (mz, .inl (tI, 2, .inl (iA (iN Z)))), (ms, .inl (tI, 676, .inl (iA SC))), (bt, .inl (tI, 28227, .inl (iA (u.1)))), (wy, .inl (tJ, 28227, .inr (.inl (u.2))))]) := by
  intro sz
  refine r_met (by decide) (Nat.le_of_ble_eq_true rfl) ?_
  intro F p e s m args below meth c Q A hX hT hAe hsz hin
  subst hAe
  replace hX : rOK F p l e rm_Mo_reckonAll s m args below meth c Q prog_12_method_19_code 4 "RowAlignerModel" D (tysA tI tJ tZ) _ := hX
  have hM9 := hM
  obtain ⟨hza, hzb, hL, hL2, hS, ho0, ho1, hm0, hm1, hf⟩ := hM9
  have hbd : ra_bd (ra_mg Z L SC op mr fr pt) := hM.bd pt
  show F 0 [(0, .ref mo)] [] [(mo, .inr (10, [.int (iI cd), .ref ml, .ref mz, .ref ms, .int (iI op), .int (iI mr), .int (iI (bI (ld = true))), .int (iI (bI (pt = true))), .int (iI ((fr : Nat) : Int)), .ref mt, .int (iI ((sn : Nat) : Int)), .ref mb, .ref me, .ref bt, .ref wy, .ref lq, .ref df, .int (iI ((dn : Nat) : Int))])), (ml, .inl (tI, 192, .inl (iA (iN L)))), (mz, .inl (tI, 2, .inl (iA (iN Z)))), (ms, .inl (tI, 676, .inl (iA SC))), (bt, .inl (tI, 28227, .inl (iA T))), (wy, .inl (tJ, 28227, .inr (.inl K)))] 0 0
  refine r_aload_n hX 0 d_Mo_reckonAll_0 rfl ?_
  refine r_get hX cf_Mo 0 rfl 2 (by decide) fl_Mo_13 rfl d_Mo_reckonAll_1 ?_
  refine r_iconstN hX 0 d_Mo_reckonAll_4 rfl ?_
  refine r_ialdN hX 2 0 rfl rfl (0) rfl (by omega) (by decide) d_Mo_reckonAll_5 ?_
  refine r_istore_n hX (lv' := [(1, .int (iI ((Z 0 : Nat) : Int))), (0, .ref mo)]) d_Mo_reckonAll_6 rfl (by decide) rfl ?_
  have L7 : ∀ (dd : Nat) (ii : Nat) (T : Nat → Int) (K : Nat → Int64), ii = dd → (ii ≤ Z 0 + 1) → (ra_MD (ra_mg Z L SC op mr fr pt) T K ii (Z 1 + 1) 0) → F 7 [(1, .int (iI (((ii : Nat) : Int) - 1))), (0, .ref mo)] [] [(mo, .inr (10, [.int (iI cd), .ref ml, .ref mz, .ref ms, .int (iI op), .int (iI mr), .int (iI (bI (ld = true))), .int (iI (bI (pt = true))), .int (iI ((fr : Nat) : Int)), .ref mt, .int (iI ((sn : Nat) : Int)), .ref mb, .ref me, .ref bt, .ref wy, .ref lq, .ref df, .int (iI ((dn : Nat) : Int))])), (ml, .inl (tI, 192, .inl (iA (iN L)))), (mz, .inl (tI, 2, .inl (iA (iN Z)))), (ms, .inl (tI, 676, .inl (iA SC))), (bt, .inl (tI, 28227, .inl (iA T))), (wy, .inl (tJ, 28227, .inr (.inl K)))] 0 0 := by
    intro dd
    induction dd using Nat.strongRecOn with
    | _ dd ih7 =>
      intro ii T K hmu7 hii hMD
      refine r_iload_n hX 0 d_Mo_reckonAll_7 rfl ?_
      refine r_if_lt hX 54 d_Mo_reckonAll_8 (by decide) (by unfold iR; omega) (fun h8 => ?_) (fun h8 => ?_)
      · have hiz : ii = 0 := by omega
        subst hiz
        exact r_vret hX hT (T, K) (fun b i j hb hi hj _ => hMD b i j hb hi hj (Or.inl (by omega))) rfl (by decide) (by decide) d_Mo_reckonAll_54
      · obtain ⟨i0, rfl⟩ : ∃ t, ii = t + 1 := ⟨ii - 1, by omega⟩
        refine r_eq (lv2 := [(1, .int (iI ((i0 : Nat) : Int))), (0, .ref mo)]) (st2 := []) (ws2 := [(mo, .inr (10, [.int (iI cd), .ref ml, .ref mz, .ref ms, .int (iI op), .int (iI mr), .int (iI (bI (ld = true))), .int (iI (bI (pt = true))), .int (iI ((fr : Nat) : Int)), .ref mt, .int (iI ((sn : Nat) : Int)), .ref mb, .ref me, .ref bt, .ref wy, .ref lq, .ref df, .int (iI ((dn : Nat) : Int))])), (ml, .inl (tI, 192, .inl (iA (iN L)))), (mz, .inl (tI, 2, .inl (iA (iN Z)))), (ms, .inl (tI, 676, .inl (iA SC))), (bt, .inl (tI, 28227, .inl (iA T))), (wy, .inl (tJ, 28227, .inr (.inl K)))]) (by rw [show ((i0 + 1 : Nat) : Int) - 1 = ((i0 : Nat) : Int) by omega]) rfl rfl ?_
        refine r_aload_n hX 1 d_Mo_reckonAll_11 rfl ?_
        refine r_get hX cf_Mo 0 rfl 2 (by decide) fl_Mo_13 rfl d_Mo_reckonAll_12 ?_
        refine r_iconstN hX 1 d_Mo_reckonAll_15 rfl ?_
        refine r_ialdN hX 2 0 rfl rfl (1) rfl (by omega) (by decide) d_Mo_reckonAll_16 ?_
        refine r_istore_n hX (lv' := [(2, .int (iI ((Z 1 : Nat) : Int))), (1, .int (iI ((i0 : Nat) : Int))), (0, .ref mo)]) d_Mo_reckonAll_17 rfl (by decide) rfl ?_
        have L18 : ∀ (dd : Nat) (jj : Nat) (T : Nat → Int) (K : Nat → Int64), jj = dd → (jj ≤ Z 1 + 1) → (ra_MD (ra_mg Z L SC op mr fr pt) T K (i0 + 1) jj 0) → F 18 [(2, .int (iI (((jj : Nat) : Int) - 1))), (1, .int (iI ((i0 : Nat) : Int))), (0, .ref mo)] [] [(mo, .inr (10, [.int (iI cd), .ref ml, .ref mz, .ref ms, .int (iI op), .int (iI mr), .int (iI (bI (ld = true))), .int (iI (bI (pt = true))), .int (iI ((fr : Nat) : Int)), .ref mt, .int (iI ((sn : Nat) : Int)), .ref mb, .ref me, .ref bt, .ref wy, .ref lq, .ref df, .int (iI ((dn : Nat) : Int))])), (ml, .inl (tI, 192, .inl (iA (iN L)))), (mz, .inl (tI, 2, .inl (iA (iN Z)))), (ms, .inl (tI, 676, .inl (iA SC))), (bt, .inl (tI, 28227, .inl (iA T))), (wy, .inl (tJ, 28227, .inr (.inl K)))] 0 0 := by
          intro dd
          induction dd using Nat.strongRecOn with
          | _ dd ih18 =>
            intro jj T K hmu18 hjj hMD2
            refine r_iload_n hX 0 d_Mo_reckonAll_18 rfl ?_
            refine r_if_lt hX 48 d_Mo_reckonAll_19 (by decide) (by unfold iR; omega) (fun h19 => ?_) (fun h19 => ?_)
            · have hjz : jj = 0 := by omega
              subst hjz
              refine r_iinc hX (lv' := [(1, .int (iI (((i0 : Nat) : Int) + (-1)))), (2, .int (iI (((0 : Nat) : Int) - 1))), (0, .ref mo)]) 1 d_Mo_reckonAll_48 rfl (by decide) rfl ?_
              refine r_goto hX 7 d_Mo_reckonAll_51 (by decide) ?_
              refine r_lv hX (lv' := [(1, .int (iI (((i0 : Nat) : Int) + (-1)))), (0, .ref mo)]) [0, 2] rfl ?_
              refine r_eq (lv2 := [(1, .int (iI (((i0 : Nat) : Int) - 1))), (0, .ref mo)]) (st2 := []) (ws2 := [(mo, .inr (10, [.int (iI cd), .ref ml, .ref mz, .ref ms, .int (iI op), .int (iI mr), .int (iI (bI (ld = true))), .int (iI (bI (pt = true))), .int (iI ((fr : Nat) : Int)), .ref mt, .int (iI ((sn : Nat) : Int)), .ref mb, .ref me, .ref bt, .ref wy, .ref lq, .ref df, .int (iI ((dn : Nat) : Int))])), (ml, .inl (tI, 192, .inl (iA (iN L)))), (mz, .inl (tI, 2, .inl (iA (iN Z)))), (ms, .inl (tI, 676, .inl (iA SC))), (bt, .inl (tI, 28227, .inl (iA T))), (wy, .inl (tJ, 28227, .inr (.inl K)))]) (by rw [show ((i0 : Nat) : Int) + (-1) = ((i0 : Nat) : Int) - 1 by omega]) rfl rfl ?_
              exact ih7 _ (by omega) i0 T K rfl (by omega) (ra_MD_row hMD2)
            · obtain ⟨j0, rfl⟩ : ∃ t, jj = t + 1 := ⟨jj - 1, by omega⟩
              have hi9 : i0 ≤ ((ra_mg Z L SC op mr fr pt) : ra_G).la := by change i0 ≤ Z 0; omega
              have hj9 : j0 ≤ ((ra_mg Z L SC op mr fr pt) : ra_G).lb := by change j0 ≤ Z 1; omega
              have hMc := hMD2
              refine r_eq (lv2 := [(2, .int (iI ((j0 : Nat) : Int))), (1, .int (iI ((i0 : Nat) : Int))), (0, .ref mo)]) (st2 := []) (ws2 := [(mo, .inr (10, [.int (iI cd), .ref ml, .ref mz, .ref ms, .int (iI op), .int (iI mr), .int (iI (bI (ld = true))), .int (iI (bI (pt = true))), .int (iI ((fr : Nat) : Int)), .ref mt, .int (iI ((sn : Nat) : Int)), .ref mb, .ref me, .ref bt, .ref wy, .ref lq, .ref df, .int (iI ((dn : Nat) : Int))])), (ml, .inl (tI, 192, .inl (iA (iN L)))), (mz, .inl (tI, 2, .inl (iA (iN Z)))), (ms, .inl (tI, 676, .inl (iA SC))), (bt, .inl (tI, 28227, .inl (iA T))), (wy, .inl (tJ, 28227, .inr (.inl K)))]) (by rw [show ((j0 + 1 : Nat) : Int) - 1 = ((j0 : Nat) : Int) by omega]) rfl rfl ?_
              refine r_iconstN hX 0 d_Mo_reckonAll_22 rfl ?_
              refine r_istore_n hX (lv' := [(3, .int (iI ((0 : Nat) : Int))), (2, .int (iI ((j0 : Nat) : Int))), (1, .int (iI ((i0 : Nat) : Int))), (0, .ref mo)]) d_Mo_reckonAll_23 rfl (by decide) rfl ?_
              refine r_iload_n hX 0 d_Mo_reckonAll_24 rfl ?_
              refine r_iconstN hX 3 d_Mo_reckonAll_25 rfl ?_
              refine r_icmp_ge hX 42 d_Mo_reckonAll_26 (by decide) (by unfold iR; omega) (by unfold iR; omega) (fun h26 => by exfalso; omega) (fun h26 => ?_)
              refine r_aload_n hX 3 d_Mo_reckonAll_29 rfl ?_
              refine r_iload_n hX 2 d_Mo_reckonAll_30 rfl ?_
              refine r_iload_n hX 1 d_Mo_reckonAll_31 rfl ?_
              refine r_iload_n hX 0 d_Mo_reckonAll_32 rfl ?_
              refine r_invV_v0 (st := []) (As := [.int (iI ((i0 : Nat) : Int)), .int (iI ((j0 : Nat) : Int)), .int (iI ((0 : Nat) : Int))]) (wr := []) hX (c_Mo_reckon l D tI tJ tZ mo ml mz ms mt mb me bt wy lq df cd op mr ld pt fr sn dn L Z SC T K i0 j0 0 hM (by omega) hi9 hj9 (ra_MD_SB hMc hi9 hj9)) "RowAlignerModel" 0 10 cf_Mo rfl yn_Mo_reckon ml_Mo_92 im_Mo_reckon se_Mo_reckon co_Mo_reckon in_Mo (by decide) (by decide) (by decide) [0, 1, 2, 3, 4, 5] [] rfl rfl rfl rfl rfl (by decide) rfl rfl (Nat.le_of_ble_eq_true rfl) d_Mo_reckonAll_33 [0, 1, 2, 3, 4, 5] rfl (w2 := fun u33 => [(mo, .inr (10, [.int (iI cd), .ref ml, .ref mz, .ref ms, .int (iI op), .int (iI mr), .int (iI (bI (ld = true))), .int (iI (bI (pt = true))), .int (iI ((fr : Nat) : Int)), .ref mt, .int (iI ((sn : Nat) : Int)), .ref mb, .ref me, .ref bt, .ref wy, .ref lq, .ref df, .int (iI ((dn : Nat) : Int))])), (ml, .inl (tI, 192, .inl (iA (iN L)))), (mz, .inl (tI, 2, .inl (iA (iN Z)))), (ms, .inl (tI, 676, .inl (iA SC))), (bt, .inl (tI, 28227, .inl (iA (u33.1)))), (wy, .inl (tJ, 28227, .inr (.inl (u33.2))))]) (fun _ => rfl) (fun u33 hu33 => ?_)
              replace hMc := ra_MD_step hMc hzb hj9 (by omega) hu33
              refine r_iincN hX (lv' := [(3, .int (iI ((0 + 1 : Nat) : Int))), (2, .int (iI ((j0 : Nat) : Int))), (1, .int (iI ((i0 : Nat) : Int))), (0, .ref mo)]) 0 d_Mo_reckonAll_36 rfl (by decide) rfl ?_
              refine r_goto hX 24 d_Mo_reckonAll_39 (by decide) ?_
              refine r_iload_n hX 0 d_Mo_reckonAll_24 rfl ?_
              refine r_iconstN hX 3 d_Mo_reckonAll_25 rfl ?_
              refine r_icmp_ge hX 42 d_Mo_reckonAll_26 (by decide) (by unfold iR; omega) (by unfold iR; omega) (fun h26 => by exfalso; omega) (fun h26 => ?_)
              refine r_aload_n hX 3 d_Mo_reckonAll_29 rfl ?_
              refine r_iload_n hX 2 d_Mo_reckonAll_30 rfl ?_
              refine r_iload_n hX 1 d_Mo_reckonAll_31 rfl ?_
              refine r_iload_n hX 0 d_Mo_reckonAll_32 rfl ?_
              refine r_invV_v0 (st := []) (As := [.int (iI ((i0 : Nat) : Int)), .int (iI ((j0 : Nat) : Int)), .int (iI ((0 + 1 : Nat) : Int))]) (wr := []) hX (c_Mo_reckon l D tI tJ tZ mo ml mz ms mt mb me bt wy lq df cd op mr ld pt fr sn dn L Z SC (u33.1) (u33.2) i0 j0 (0 + 1) hM (by omega) hi9 hj9 (ra_MD_SB hMc hi9 hj9)) "RowAlignerModel" 0 10 cf_Mo rfl yn_Mo_reckon ml_Mo_92 im_Mo_reckon se_Mo_reckon co_Mo_reckon in_Mo (by decide) (by decide) (by decide) [0, 1, 2, 3, 4, 5] [] rfl rfl rfl rfl rfl (by decide) rfl rfl (Nat.le_of_ble_eq_true rfl) d_Mo_reckonAll_33 [0, 1, 2, 3, 4, 5] rfl (w2 := fun u33 => [(mo, .inr (10, [.int (iI cd), .ref ml, .ref mz, .ref ms, .int (iI op), .int (iI mr), .int (iI (bI (ld = true))), .int (iI (bI (pt = true))), .int (iI ((fr : Nat) : Int)), .ref mt, .int (iI ((sn : Nat) : Int)), .ref mb, .ref me, .ref bt, .ref wy, .ref lq, .ref df, .int (iI ((dn : Nat) : Int))])), (ml, .inl (tI, 192, .inl (iA (iN L)))), (mz, .inl (tI, 2, .inl (iA (iN Z)))), (ms, .inl (tI, 676, .inl (iA SC))), (bt, .inl (tI, 28227, .inl (iA (u33.1)))), (wy, .inl (tJ, 28227, .inr (.inl (u33.2))))]) (fun _ => rfl) (fun u33 hu33 => ?_)
              replace hMc := ra_MD_step hMc hzb hj9 (by omega) hu33
              refine r_iincN hX (lv' := [(3, .int (iI ((0 + 1 + 1 : Nat) : Int))), (2, .int (iI ((j0 : Nat) : Int))), (1, .int (iI ((i0 : Nat) : Int))), (0, .ref mo)]) 0 d_Mo_reckonAll_36 rfl (by decide) rfl ?_
              refine r_goto hX 24 d_Mo_reckonAll_39 (by decide) ?_
              refine r_iload_n hX 0 d_Mo_reckonAll_24 rfl ?_
              refine r_iconstN hX 3 d_Mo_reckonAll_25 rfl ?_
              refine r_icmp_ge hX 42 d_Mo_reckonAll_26 (by decide) (by unfold iR; omega) (by unfold iR; omega) (fun h26 => by exfalso; omega) (fun h26 => ?_)
              refine r_aload_n hX 3 d_Mo_reckonAll_29 rfl ?_
              refine r_iload_n hX 2 d_Mo_reckonAll_30 rfl ?_
              refine r_iload_n hX 1 d_Mo_reckonAll_31 rfl ?_
              refine r_iload_n hX 0 d_Mo_reckonAll_32 rfl ?_
              refine r_invV_v0 (st := []) (As := [.int (iI ((i0 : Nat) : Int)), .int (iI ((j0 : Nat) : Int)), .int (iI ((0 + 1 + 1 : Nat) : Int))]) (wr := []) hX (c_Mo_reckon l D tI tJ tZ mo ml mz ms mt mb me bt wy lq df cd op mr ld pt fr sn dn L Z SC (u33.1) (u33.2) i0 j0 (0 + 1 + 1) hM (by omega) hi9 hj9 (ra_MD_SB hMc hi9 hj9)) "RowAlignerModel" 0 10 cf_Mo rfl yn_Mo_reckon ml_Mo_92 im_Mo_reckon se_Mo_reckon co_Mo_reckon in_Mo (by decide) (by decide) (by decide) [0, 1, 2, 3, 4, 5] [] rfl rfl rfl rfl rfl (by decide) rfl rfl (Nat.le_of_ble_eq_true rfl) d_Mo_reckonAll_33 [0, 1, 2, 3, 4, 5] rfl (w2 := fun u33 => [(mo, .inr (10, [.int (iI cd), .ref ml, .ref mz, .ref ms, .int (iI op), .int (iI mr), .int (iI (bI (ld = true))), .int (iI (bI (pt = true))), .int (iI ((fr : Nat) : Int)), .ref mt, .int (iI ((sn : Nat) : Int)), .ref mb, .ref me, .ref bt, .ref wy, .ref lq, .ref df, .int (iI ((dn : Nat) : Int))])), (ml, .inl (tI, 192, .inl (iA (iN L)))), (mz, .inl (tI, 2, .inl (iA (iN Z)))), (ms, .inl (tI, 676, .inl (iA SC))), (bt, .inl (tI, 28227, .inl (iA (u33.1)))), (wy, .inl (tJ, 28227, .inr (.inl (u33.2))))]) (fun _ => rfl) (fun u33 hu33 => ?_)
              replace hMc := ra_MD_step hMc hzb hj9 (by omega) hu33
              refine r_iincN hX (lv' := [(3, .int (iI ((0 + 1 + 1 + 1 : Nat) : Int))), (2, .int (iI ((j0 : Nat) : Int))), (1, .int (iI ((i0 : Nat) : Int))), (0, .ref mo)]) 0 d_Mo_reckonAll_36 rfl (by decide) rfl ?_
              refine r_goto hX 24 d_Mo_reckonAll_39 (by decide) ?_
              refine r_iload_n hX 0 d_Mo_reckonAll_24 rfl ?_
              refine r_iconstN hX 3 d_Mo_reckonAll_25 rfl ?_
              refine r_icmp_ge hX 42 d_Mo_reckonAll_26 (by decide) (by unfold iR; omega) (by unfold iR; omega) (fun h26 => ?_) (fun h26 => by exfalso; omega)
              refine r_iinc hX (lv' := [(2, .int (iI (((j0 : Nat) : Int) + (-1)))), (3, .int (iI ((0 + 1 + 1 + 1 : Nat) : Int))), (1, .int (iI ((i0 : Nat) : Int))), (0, .ref mo)]) 1 d_Mo_reckonAll_42 rfl (by decide) rfl ?_
              refine r_goto hX 18 d_Mo_reckonAll_45 (by decide) ?_
              refine r_lv hX (lv' := [(2, .int (iI (((j0 : Nat) : Int) + (-1)))), (1, .int (iI ((i0 : Nat) : Int))), (0, .ref mo)]) [0, 2, 3] rfl ?_
              refine r_eq (lv2 := [(2, .int (iI (((j0 : Nat) : Int) - 1))), (1, .int (iI ((i0 : Nat) : Int))), (0, .ref mo)]) (st2 := []) (ws2 := [(mo, .inr (10, [.int (iI cd), .ref ml, .ref mz, .ref ms, .int (iI op), .int (iI mr), .int (iI (bI (ld = true))), .int (iI (bI (pt = true))), .int (iI ((fr : Nat) : Int)), .ref mt, .int (iI ((sn : Nat) : Int)), .ref mb, .ref me, .ref bt, .ref wy, .ref lq, .ref df, .int (iI ((dn : Nat) : Int))])), (ml, .inl (tI, 192, .inl (iA (iN L)))), (mz, .inl (tI, 2, .inl (iA (iN Z)))), (ms, .inl (tI, 676, .inl (iA SC))), (bt, .inl (tI, 28227, .inl (iA (u33.1)))), (wy, .inl (tJ, 28227, .inr (.inl (u33.2))))]) (by rw [show ((j0 : Nat) : Int) + (-1) = ((j0 : Nat) : Int) - 1 by omega]) rfl rfl ?_
              exact ih18 _ (by omega) j0 (u33.1) (u33.2) rfl (by omega) (ra_MD_next hMc)
        refine r_eq (lv2 := [(2, .int (iI ((((Z 1 + 1) : Nat) : Int) - 1))), (1, .int (iI ((i0 : Nat) : Int))), (0, .ref mo)]) (st2 := []) (ws2 := [(mo, .inr (10, [.int (iI cd), .ref ml, .ref mz, .ref ms, .int (iI op), .int (iI mr), .int (iI (bI (ld = true))), .int (iI (bI (pt = true))), .int (iI ((fr : Nat) : Int)), .ref mt, .int (iI ((sn : Nat) : Int)), .ref mb, .ref me, .ref bt, .ref wy, .ref lq, .ref df, .int (iI ((dn : Nat) : Int))])), (ml, .inl (tI, 192, .inl (iA (iN L)))), (mz, .inl (tI, 2, .inl (iA (iN Z)))), (ms, .inl (tI, 676, .inl (iA SC))), (bt, .inl (tI, 28227, .inl (iA T))), (wy, .inl (tJ, 28227, .inr (.inl K)))]) (by rw [show ((Z 1 : Nat) : Int) = ((Z 1 + 1 : Nat) : Int) - 1 by omega]) rfl rfl ?_
        exact L18 _ (Z 1 + 1) T K rfl (by omega) hMD
  refine r_eq (lv2 := [(1, .int (iI ((((Z 0 + 1) : Nat) : Int) - 1))), (0, .ref mo)]) (st2 := []) (ws2 := [(mo, .inr (10, [.int (iI cd), .ref ml, .ref mz, .ref ms, .int (iI op), .int (iI mr), .int (iI (bI (ld = true))), .int (iI (bI (pt = true))), .int (iI ((fr : Nat) : Int)), .ref mt, .int (iI ((sn : Nat) : Int)), .ref mb, .ref me, .ref bt, .ref wy, .ref lq, .ref df, .int (iI ((dn : Nat) : Int))])), (ml, .inl (tI, 192, .inl (iA (iN L)))), (mz, .inl (tI, 2, .inl (iA (iN Z)))), (ms, .inl (tI, 676, .inl (iA SC))), (bt, .inl (tI, 28227, .inl (iA T))), (wy, .inl (tJ, 28227, .inr (.inl K)))]) (by rw [show ((Z 0 : Nat) : Int) = ((Z 0 + 1 : Nat) : Int) - 1 by omega]) rfl rfl ?_
  exact L7 _ (Z 0 + 1) T K rfl (by omega) (fun b i j _ hi hj hc => absurd hc (by change i ≤ Z 0 at hi; change j ≤ Z 1 at hj; omega))

abbrev rm_Mo_put : Room := { frames := 0, cells := 0, slots := 0, locals := 0 }
set_option maxHeartbeats 4000000 in
set_option maxRecDepth 100000 in
theorem c_Mo_put (l : Launch) (D : va_G) (tI tJ tZ : ClassId) (mo : Nat) (ml : Nat) (mz : Nat) (ms : Nat) (mt : Nat) (mb : Nat) (me : Nat) (bt : Nat) (wy : Nat) (lq : Nat) (df : Nat) (cd : Int) (op : Int) (mr : Int) (ld : Bool) (pt : Bool) (fr : Nat) (sn : Nat) (dn : Nat) (d : Nat → Nat) (s9 : Nat) (nn : Nat) (hn : sn + nn ≤ 192) : rCv l y_Mo_put prog_12_method_24_code 4 rm_Mo_put D (tysA tI tJ tZ) [.ref mo, .int (iI ((s9 : Nat) : Int)), .int (iI ((nn : Nat) : Int))] [(mo, .inr (10, [.int (iI cd), .ref ml, .ref mz, .ref ms, .int (iI op), .int (iI mr), .int (iI (bI (ld = true))), .int (iI (bI (pt = true))), .int (iI ((fr : Nat) : Int)), .ref mt, .int (iI ((sn : Nat) : Int)), .ref mb, .ref me, .ref bt, .ref wy, .ref lq, .ref df, .int (iI ((dn : Nat) : Int))])), (mt, .inl (tI, 192, .inl (iA (iN d))))] (fun (_ : Unit) => True) (fun (_ : Unit) => [(mo, .inr (10, [.int (iI cd), .ref ml, .ref mz, .ref ms, .int (iI op), .int (iI mr), .int (iI (bI (ld = true))), .int (iI (bI (pt = true))), .int (iI ((fr : Nat) : Int)), .ref mt, .int (iI ((sn + nn : Nat) : Int)), .ref mb, .ref me, .ref bt, .ref wy, .ref lq, .ref df, .int (iI ((dn : Nat) : Int))])), (mt, .inl (tI, 192, .inl (iA (iN (ra_pd d sn s9 nn)))))]) := by
  intro sz
  refine r_met (by decide) (Nat.le_of_ble_eq_true rfl) ?_
  intro F p e s m args below meth c Q A hX hT hAe hsz hin
  subst hAe
  replace hX : rOK F p l e rm_Mo_put s m args below meth c Q prog_12_method_24_code 4 "RowAlignerModel" D (tysA tI tJ tZ) _ := hX
  show F 0 [(0, .ref mo), (1, .int (iI ((s9 : Nat) : Int))), (2, .int (iI ((nn : Nat) : Int)))] [] [(mo, .inr (10, [.int (iI cd), .ref ml, .ref mz, .ref ms, .int (iI op), .int (iI mr), .int (iI (bI (ld = true))), .int (iI (bI (pt = true))), .int (iI ((fr : Nat) : Int)), .ref mt, .int (iI ((sn : Nat) : Int)), .ref mb, .ref me, .ref bt, .ref wy, .ref lq, .ref df, .int (iI ((dn : Nat) : Int))])), (mt, .inl (tI, 192, .inl (iA (iN d))))] 0 0
  refine r_iconstN hX 0 d_Mo_put_0 rfl ?_
  refine r_istore_n hX (lv' := [(3, .int (iI ((0 : Nat) : Int))), (0, .ref mo), (1, .int (iI ((s9 : Nat) : Int))), (2, .int (iI ((nn : Nat) : Int)))]) d_Mo_put_1 rfl (by decide) rfl ?_
  have L2 : ∀ (dd : Nat) (k : Nat), nn - k = dd → (k ≤ nn) → F 2 [(3, .int (iI ((k : Nat) : Int))), (2, .int (iI ((nn : Nat) : Int))), (1, .int (iI ((s9 : Nat) : Int))), (0, .ref mo)] [] [(mo, .inr (10, [.int (iI cd), .ref ml, .ref mz, .ref ms, .int (iI op), .int (iI mr), .int (iI (bI (ld = true))), .int (iI (bI (pt = true))), .int (iI ((fr : Nat) : Int)), .ref mt, .int (iI ((sn + k : Nat) : Int)), .ref mb, .ref me, .ref bt, .ref wy, .ref lq, .ref df, .int (iI ((dn : Nat) : Int))])), (mt, .inl (tI, 192, .inl (iA (iN (ra_pd d sn s9 k)))))] 0 0 := by
    intro dd
    induction dd using Nat.strongRecOn with
    | _ dd ih2 =>
      intro k hmu2 hk
      refine r_iload_n hX 0 d_Mo_put_2 rfl ?_
      refine r_iload_n hX 1 d_Mo_put_3 rfl ?_
      refine r_icmp_ge hX 33 d_Mo_put_4 (by decide) (by unfold iR; omega) (by unfold iR; omega) (fun h4 => ?_) (fun h4 => ?_)
      · exact r_vret hX hT () trivial (by rw [show k = nn by omega]) (by decide) (by decide) d_Mo_put_33
      · refine r_aload_n hX 3 d_Mo_put_7 rfl ?_
        refine r_get hX cf_Mo 0 rfl 9 (by decide) fl_Mo_26 rfl d_Mo_put_8 ?_
        refine r_aload_n hX 3 d_Mo_put_11 rfl ?_
        refine r_get hX cf_Mo 0 rfl 10 (by decide) fl_Mo_98 rfl d_Mo_put_12 ?_
        refine r_iload_n hX 2 d_Mo_put_15 rfl ?_
        refine r_iastN hX (ws' := [(mo, .inr (10, [.int (iI cd), .ref ml, .ref mz, .ref ms, .int (iI op), .int (iI mr), .int (iI (bI (ld = true))), .int (iI (bI (pt = true))), .int (iI ((fr : Nat) : Int)), .ref mt, .int (iI ((sn + k : Nat) : Int)), .ref mb, .ref me, .ref bt, .ref wy, .ref lq, .ref df, .int (iI ((dn : Nat) : Int))])), (mt, .inl (tI, 192, .inl (iA (iN (iU (ra_pd d sn s9 k) (sn + k) s9)))))]) 1 0 rfl rfl (sn + k) rfl (by omega) (by decide) rfl d_Mo_put_16 ?_
        refine r_aload_n hX 3 d_Mo_put_17 rfl ?_
        refine r_dup hX d_Mo_put_18 rfl ?_
        refine r_get hX cf_Mo 0 rfl 10 (by decide) fl_Mo_98 rfl d_Mo_put_19 ?_
        refine r_iconstN hX 1 d_Mo_put_22 rfl ?_
        refine r_iaddN hX d_Mo_put_23 ?_
        refine r_put hX (ws' := [(mo, .inr (10, [.int (iI cd), .ref ml, .ref mz, .ref ms, .int (iI op), .int (iI mr), .int (iI (bI (ld = true))), .int (iI (bI (pt = true))), .int (iI ((fr : Nat) : Int)), .ref mt, .int (iI ((sn + k + 1 : Nat) : Int)), .ref mb, .ref me, .ref bt, .ref wy, .ref lq, .ref df, .int (iI ((dn : Nat) : Int))])), (mt, .inl (tI, 192, .inl (iA (iN (iU (ra_pd d sn s9 k) (sn + k) s9)))))]) cf_Mo 0 rfl 10 (by decide) fl_Mo_98 rfl rfl rfl (Nat.le_of_ble_eq_true rfl) rfl d_Mo_put_24 ?_
        refine r_iincN hX (lv' := [(3, .int (iI ((k + 1 : Nat) : Int))), (2, .int (iI ((nn : Nat) : Int))), (1, .int (iI ((s9 : Nat) : Int))), (0, .ref mo)]) 0 d_Mo_put_27 rfl (by decide) rfl ?_
        refine r_goto hX 2 d_Mo_put_30 (by decide) ?_
        refine r_eq (lv2 := [(3, .int (iI ((k + 1 : Nat) : Int))), (2, .int (iI ((nn : Nat) : Int))), (1, .int (iI ((s9 : Nat) : Int))), (0, .ref mo)]) (st2 := []) (ws2 := [(mo, .inr (10, [.int (iI cd), .ref ml, .ref mz, .ref ms, .int (iI op), .int (iI mr), .int (iI (bI (ld = true))), .int (iI (bI (pt = true))), .int (iI ((fr : Nat) : Int)), .ref mt, .int (iI ((sn + (k + 1) : Nat) : Int)), .ref mb, .ref me, .ref bt, .ref wy, .ref lq, .ref df, .int (iI ((dn : Nat) : Int))])), (mt, .inl (tI, 192, .inl (iA (iN (ra_pd d sn s9 (k + 1))))))]) rfl rfl (by rw [ra_pd_s]; rfl) ?_
        exact ih2 _ (by omega) (k + 1) rfl (by omega)
  refine r_lv hX (lv' := [(3, .int (iI ((0 : Nat) : Int))), (2, .int (iI ((nn : Nat) : Int))), (1, .int (iI ((s9 : Nat) : Int))), (0, .ref mo)]) [0, 3, 2, 1] rfl ?_
  refine r_eq (lv2 := [(3, .int (iI ((0 : Nat) : Int))), (2, .int (iI ((nn : Nat) : Int))), (1, .int (iI ((s9 : Nat) : Int))), (0, .ref mo)]) (st2 := []) (ws2 := [(mo, .inr (10, [.int (iI cd), .ref ml, .ref mz, .ref ms, .int (iI op), .int (iI mr), .int (iI (bI (ld = true))), .int (iI (bI (pt = true))), .int (iI ((fr : Nat) : Int)), .ref mt, .int (iI ((sn + 0 : Nat) : Int)), .ref mb, .ref me, .ref bt, .ref wy, .ref lq, .ref df, .int (iI ((dn : Nat) : Int))])), (mt, .inl (tI, 192, .inl (iA (iN (ra_pd d sn s9 0)))))]) rfl rfl (by rw [ra_pd_0]; rfl) ?_
  exact L2 _ 0 rfl (by omega)

abbrev rm_Mo_gapHere_0 : Room := { frames := 1, cells := 0, slots := 0, locals := 29 }
set_option maxHeartbeats 4000000 in
set_option maxRecDepth 100000 in
theorem c_Mo_gapHere_0 (l : Launch) (D : va_G) (tI tJ tZ : ClassId) (mo : Nat) (ml : Nat) (mz : Nat) (ms : Nat) (mt : Nat) (mb : Nat) (me : Nat) (bt : Nat) (wy : Nat) (lq : Nat) (df : Nat) (cd : Int) (op : Int) (mr : Int) (ld : Bool) (pt : Bool) (fr : Nat) (sn : Nat) (dn : Nat) (L : Nat → Nat) (Z : Nat → Nat) (SC : Nat → Int) (T : Nat → Int) (i : Nat) (j : Nat) (gl : Int) (hM : raM Z L SC op mr fr) (hi : i ≤ Z 0) (hj : j ≤ Z 1) (hg : -200000000 ≤ gl ∧ gl ≤ 200000000) (hTM : ra_TM (ra_mg Z L SC op mr fr pt) T) : rCi l y_Mo_gapHere prog_12_method_21_code 9 .int rm_Mo_gapHere_0 D (tysA tI tJ tZ) [.ref mo, .int (iI ((0 : Nat) : Int)), .int (iI ((i : Nat) : Int)), .int (iI ((j : Nat) : Int)), .int (iI gl)] [(mo, .inr (10, [.int (iI cd), .ref ml, .ref mz, .ref ms, .int (iI op), .int (iI mr), .int (iI (bI (ld = true))), .int (iI (bI (pt = true))), .int (iI ((fr : Nat) : Int)), .ref mt, .int (iI ((sn : Nat) : Int)), .ref mb, .ref me, .ref bt, .ref wy, .ref lq, .ref df, .int (iI ((dn : Nat) : Int))])), (mz, .inl (tI, 2, .inl (iA (iN Z)))), (bt, .inl (tI, 28227, .inl (iA T)))] (fun zz (_ : Unit) => zz = iI (((ra_gh (ra_mg Z L SC op mr fr pt) i j gl (Z 1 - j) 1 : Nat) : Int))) (fun (_ : Unit) => [(mo, .inr (10, [.int (iI cd), .ref ml, .ref mz, .ref ms, .int (iI op), .int (iI mr), .int (iI (bI (ld = true))), .int (iI (bI (pt = true))), .int (iI ((fr : Nat) : Int)), .ref mt, .int (iI ((sn : Nat) : Int)), .ref mb, .ref me, .ref bt, .ref wy, .ref lq, .ref df, .int (iI ((dn : Nat) : Int))])), (mz, .inl (tI, 2, .inl (iA (iN Z)))), (bt, .inl (tI, 28227, .inl (iA T)))]) := by
  intro sz
  refine r_met (by decide) (Nat.le_of_ble_eq_true rfl) ?_
  intro F p e s m args below meth c Q A hX hT hAe hsz hin
  subst hAe
  replace hX : rOK F p l e rm_Mo_gapHere_0 s m args below meth c Q prog_12_method_21_code 9 "RowAlignerModel" D (tysA tI tJ tZ) _ := hX
  have hM9 := hM
  obtain ⟨hza, hzb, hL, hL2, hS, ho0, ho1, hm0, hm1, hf⟩ := hM9
  have hbd : ra_bd (ra_mg Z L SC op mr fr pt) := hM.bd pt
  show F 0 [(0, .ref mo), (1, .int (iI ((0 : Nat) : Int))), (2, .int (iI ((i : Nat) : Int))), (3, .int (iI ((j : Nat) : Int))), (4, .int (iI gl))] [] [(mo, .inr (10, [.int (iI cd), .ref ml, .ref mz, .ref ms, .int (iI op), .int (iI mr), .int (iI (bI (ld = true))), .int (iI (bI (pt = true))), .int (iI ((fr : Nat) : Int)), .ref mt, .int (iI ((sn : Nat) : Int)), .ref mb, .ref me, .ref bt, .ref wy, .ref lq, .ref df, .int (iI ((dn : Nat) : Int))])), (mz, .inl (tI, 2, .inl (iA (iN Z)))), (bt, .inl (tI, 28227, .inl (iA T)))] 0 0
  refine r_iload_n hX 1 d_Mo_gapHere_0 rfl ?_
  refine r_if_eq hX 15 d_Mo_gapHere_1 (by decide) (by unfold iR; omega) (fun h1 => ?_) (fun h1 => by exfalso; omega)
  refine r_aload_n hX 0 d_Mo_gapHere_15 rfl ?_
  refine r_get hX cf_Mo 0 rfl 2 (by decide) fl_Mo_13 rfl d_Mo_gapHere_16 ?_
  refine r_iconstN hX 1 d_Mo_gapHere_19 rfl ?_
  refine r_ialdN hX 1 0 rfl rfl (1) rfl (by omega) (by decide) d_Mo_gapHere_20 ?_
  refine r_iload_n hX 3 d_Mo_gapHere_21 rfl ?_
  refine r_isub hX d_Mo_gapHere_22 ?_
  refine r_istore hX (lv' := [(5, .int (iI (((Z 1 : Nat) : Int) - ((j : Nat) : Int)))), (0, .ref mo), (1, .int (iI ((0 : Nat) : Int))), (2, .int (iI ((i : Nat) : Int))), (3, .int (iI ((j : Nat) : Int))), (4, .int (iI gl))]) d_Mo_gapHere_23 (by decide) rfl ?_
  refine r_iconstN hX 0 d_Mo_gapHere_25 rfl ?_
  refine r_istore hX (lv' := [(6, .int (iI ((0 : Nat) : Int))), (5, .int (iI (((Z 1 : Nat) : Int) - ((j : Nat) : Int)))), (0, .ref mo), (1, .int (iI ((0 : Nat) : Int))), (2, .int (iI ((i : Nat) : Int))), (3, .int (iI ((j : Nat) : Int))), (4, .int (iI gl))]) d_Mo_gapHere_26 (by decide) rfl ?_
  refine r_iconstN hX 1 d_Mo_gapHere_28 rfl ?_
  refine r_istore hX (lv' := [(7, .int (iI ((1 : Nat) : Int))), (6, .int (iI ((0 : Nat) : Int))), (5, .int (iI (((Z 1 : Nat) : Int) - ((j : Nat) : Int)))), (0, .ref mo), (1, .int (iI ((0 : Nat) : Int))), (2, .int (iI ((i : Nat) : Int))), (3, .int (iI ((j : Nat) : Int))), (4, .int (iI gl))]) d_Mo_gapHere_29 (by decide) rfl ?_
  have L31 : ∀ (dd : Nat) (t : Nat) (fd : Nat), Z 1 + 1 - t = dd → (j + t ≤ Z 1) → ((fd = 0 ∧ ra_gh (ra_mg Z L SC op mr fr pt) i j gl (Z 1 - j) 1 = ra_gh (ra_mg Z L SC op mr fr pt) i j gl (Z 1 - j - t) (t + 1)) ∨ (0 < fd ∧ fd ≤ 96 ∧ ra_gh (ra_mg Z L SC op mr fr pt) i j gl (Z 1 - j) 1 = fd)) → F 31 [(7, .int (iI ((t + 1 : Nat) : Int))), (6, .int (iI ((fd : Nat) : Int))), (5, .int (iI (((Z 1 : Nat) : Int) - ((j : Nat) : Int)))), (4, .int (iI gl)), (3, .int (iI ((j : Nat) : Int))), (2, .int (iI ((i : Nat) : Int))), (1, .int (iI ((0 : Nat) : Int))), (0, .ref mo)] [] [(mo, .inr (10, [.int (iI cd), .ref ml, .ref mz, .ref ms, .int (iI op), .int (iI mr), .int (iI (bI (ld = true))), .int (iI (bI (pt = true))), .int (iI ((fr : Nat) : Int)), .ref mt, .int (iI ((sn : Nat) : Int)), .ref mb, .ref me, .ref bt, .ref wy, .ref lq, .ref df, .int (iI ((dn : Nat) : Int))])), (mz, .inl (tI, 2, .inl (iA (iN Z)))), (bt, .inl (tI, 28227, .inl (iA T)))] 0 0 := by
    intro dd
    induction dd using Nat.strongRecOn with
    | _ dd ih31 =>
      intro t fd hmu31 ht hfd
      refine r_iload hX 0 d_Mo_gapHere_31 rfl ?_
      refine r_iload hX 2 d_Mo_gapHere_33 rfl ?_
      refine r_icmp_gt hX 105 d_Mo_gapHere_35 (by decide) (by unfold iR; omega) (by unfold iR; omega) (fun h35 => ?_) (fun h35 => ?_)
      · refine r_iload hX 1 d_Mo_gapHere_105 rfl ?_
        exact r_iret hX hT () (congrArg (fun z : Nat => iI (z : Int)) (by rcases hfd with q | q; (rw [q.1, q.2]; first | omega | (rw [show Z 1 - j - t = 0 by omega]; rfl)); exact q.2.2.symm)) rfl (by decide) (by decide) d_Mo_gapHere_107
      · refine r_iload hX 1 d_Mo_gapHere_38 rfl ?_
        refine r_if_ne hX 105 d_Mo_gapHere_40 (by decide) (by unfold iR; omega) (fun h40 => ?_) (fun h40 => ?_)
        · refine r_iload hX 1 d_Mo_gapHere_105 rfl ?_
          exact r_iret hX hT () (congrArg (fun z : Nat => iI (z : Int)) (by rcases hfd with q | q; (rw [q.1, q.2]; first | omega | (rw [show Z 1 - j - t = 0 by omega]; rfl)); exact q.2.2.symm)) rfl (by decide) (by decide) d_Mo_gapHere_107
        · have hfd0 : fd = 0 := by omega
          have hst : ra_gh (ra_mg Z L SC op mr fr pt) i j gl (Z 1 - j) 1 = ra_gh (ra_mg Z L SC op mr fr pt) i j gl (Z 1 - j - t - 1 + 1) (t + 1) := by rcases hfd with q | q; (rw [q.2, show Z 1 - j - t - 1 + 1 = Z 1 - j - t by omega]); omega
          have hTt := hTM 2 i (j + (t + 1)) (by omega) (by change i ≤ Z 0; omega) (by change j + (t + 1) ≤ Z 1; omega)
          have hTb := ra_TM_bd hbd hTM (b := 2) (i := i) (j := j + (t + 1)) (by omega) (by change i ≤ Z 0; omega) (by change j + (t + 1) ≤ Z 1; omega)
          have hg2 := ra_g2_bd hbd (i := i) (j := j) (t := t + 1) (by omega) (by omega)
          have hisq : (¬ T ((97 * i + (j + (t + 1))) * 3 + 2) = -100000000 ∧ -(ra_g2 (ra_mg Z L SC op mr fr pt) i j (t + 1)) + T ((97 * i + (j + (t + 1))) * 3 + 2) = gl) ↔ ra_is (ra_mg Z L SC op mr fr pt) (-(ra_g2 (ra_mg Z L SC op mr fr pt) i j (t + 1))) 2 i (j + (t + 1)) gl := by rw [hTt]
          refine r_iload_n hX 6 d_Mo_gapHere_43 rfl ?_
          refine r_if_eq hX 59 d_Mo_gapHere_44 (by decide) (by unfold iR; omega) (fun h44 => ?_) (fun h44 => by exfalso; omega)
          refine r_iload_n hX 5 d_Mo_gapHere_59 rfl ?_
          refine r_iload_n hX 4 d_Mo_gapHere_60 rfl ?_
          refine r_iload hX 0 d_Mo_gapHere_61 rfl ?_
          refine r_iaddN hX d_Mo_gapHere_63 ?_
          refine r_iconstN hX 2 d_Mo_gapHere_64 rfl ?_
          refine r_invS_i0 (st := []) (As := [.int (iI ((i : Nat) : Int)), .int (iI ((j + (t + 1) : Nat) : Int)), .int (iI ((2 : Nat) : Int))]) (wr := [(mo, .inr (10, [.int (iI cd), .ref ml, .ref mz, .ref ms, .int (iI op), .int (iI mr), .int (iI (bI (ld = true))), .int (iI (bI (pt = true))), .int (iI ((fr : Nat) : Int)), .ref mt, .int (iI ((sn : Nat) : Int)), .ref mb, .ref me, .ref bt, .ref wy, .ref lq, .ref df, .int (iI ((dn : Nat) : Int))])), (mz, .inl (tI, 2, .inl (iA (iN Z)))), (bt, .inl (tI, 28227, .inl (iA T)))]) hX (c_Mo_at l D tI tJ tZ i (j + (t + 1)) 2) yn_Mo_at ml_Mo_72 st_Mo_at co_Mo_at in_Mo (by decide) (by decide) (by decide) [] [0, 1, 2] rfl rfl rfl rfl rfl (by decide) rfl rfl (Nat.le_of_ble_eq_true rfl) d_Mo_gapHere_65 [0, 1, 2] rfl (w2 := fun _ => [(mo, .inr (10, [.int (iI cd), .ref ml, .ref mz, .ref ms, .int (iI op), .int (iI mr), .int (iI (bI (ld = true))), .int (iI (bI (pt = true))), .int (iI ((fr : Nat) : Int)), .ref mt, .int (iI ((sn : Nat) : Int)), .ref mb, .ref me, .ref bt, .ref wy, .ref lq, .ref df, .int (iI ((dn : Nat) : Int))])), (mz, .inl (tI, 2, .inl (iA (iN Z)))), (bt, .inl (tI, 28227, .inl (iA T)))]) (fun _ => rfl) (fun r65 _ e65 => ?_)
          subst e65
          refine r_istore hX (lv' := [(8, .int (iI (((97 * i + (j + (t + 1))) * 3 + 2 : Nat) : Int))), (7, .int (iI ((t + 1 : Nat) : Int))), (6, .int (iI ((fd : Nat) : Int))), (5, .int (iI (((Z 1 : Nat) : Int) - ((j : Nat) : Int)))), (4, .int (iI gl)), (3, .int (iI ((j : Nat) : Int))), (2, .int (iI ((i : Nat) : Int))), (1, .int (iI ((0 : Nat) : Int))), (0, .ref mo)]) d_Mo_gapHere_68 (by decide) rfl ?_
          refine r_aload_n hX 8 d_Mo_gapHere_70 rfl ?_
          refine r_aload_n hX 8 d_Mo_gapHere_71 rfl ?_
          refine r_iload_n hX 7 d_Mo_gapHere_72 rfl ?_
          refine r_iload_n hX 6 d_Mo_gapHere_73 rfl ?_
          refine r_iload_n hX 5 d_Mo_gapHere_74 rfl ?_
          refine r_iload hX 1 d_Mo_gapHere_75 rfl ?_
          refine r_invV_i0 (st := [.ref mo]) (As := [.int (iI ((0 : Nat) : Int)), .int (iI ((i : Nat) : Int)), .int (iI ((j : Nat) : Int)), .int (iI ((t + 1 : Nat) : Int))]) (wr := [(bt, .inl (tI, 28227, .inl (iA T)))]) hX (c_Mo_gap_0 l D tI tJ tZ mo ml mz ms mt mb me bt wy lq df cd op mr ld pt fr sn dn Z L SC i j (t + 1) (by omega) (by omega) (by omega) hza hzb hf) "RowAlignerModel" 0 10 cf_Mo rfl yn_Mo_gap ml_Mo_88 im_Mo_gap se_Mo_gap co_Mo_gap in_Mo (by decide) (by decide) (by decide) [0, 1] [2] rfl rfl rfl rfl rfl (by decide) rfl rfl (Nat.le_of_ble_eq_true rfl) d_Mo_gapHere_77 [1, 2, 0] rfl (w2 := fun _ => [(mo, .inr (10, [.int (iI cd), .ref ml, .ref mz, .ref ms, .int (iI op), .int (iI mr), .int (iI (bI (ld = true))), .int (iI (bI (pt = true))), .int (iI ((fr : Nat) : Int)), .ref mt, .int (iI ((sn : Nat) : Int)), .ref mb, .ref me, .ref bt, .ref wy, .ref lq, .ref df, .int (iI ((dn : Nat) : Int))])), (mz, .inl (tI, 2, .inl (iA (iN Z)))), (bt, .inl (tI, 28227, .inl (iA T)))]) (fun _ => rfl) (fun r77 _ e77 => ?_)
          subst e77
          refine r_ineg hX d_Mo_gapHere_80 ?_
          refine r_iload hX 0 d_Mo_gapHere_81 rfl ?_
          refine r_iload hX 4 d_Mo_gapHere_83 rfl ?_
          refine r_invV_i0 (st := []) (As := [.int (iI (-(ra_g2 (ra_mg Z L SC op mr fr pt) i j (t + 1)))), .int (iI (((97 * i + (j + (t + 1))) * 3 + 2 : Nat) : Int)), .int (iI gl)]) (wr := [(mz, .inl (tI, 2, .inl (iA (iN Z))))]) hX (c_Mo_isGoal l D tI tJ tZ mo ml mz ms mt mb me bt wy lq df cd op mr ld pt fr sn dn T (-(ra_g2 (ra_mg Z L SC op mr fr pt) i j (t + 1))) ((97 * i + (j + (t + 1))) * 3 + 2) gl (by omega) (by omega) hg hTb) "RowAlignerModel" 0 10 cf_Mo rfl yn_Mo_isGoal ml_Mo_95 im_Mo_isGoal se_Mo_isGoal co_Mo_isGoal in_Mo (by decide) (by decide) (by decide) [0, 2] [1] rfl rfl rfl rfl rfl (by decide) rfl rfl (Nat.le_of_ble_eq_true rfl) d_Mo_gapHere_85 [1, 0, 2] rfl (w2 := fun _ => [(mo, .inr (10, [.int (iI cd), .ref ml, .ref mz, .ref ms, .int (iI op), .int (iI mr), .int (iI (bI (ld = true))), .int (iI (bI (pt = true))), .int (iI ((fr : Nat) : Int)), .ref mt, .int (iI ((sn : Nat) : Int)), .ref mb, .ref me, .ref bt, .ref wy, .ref lq, .ref df, .int (iI ((dn : Nat) : Int))])), (mz, .inl (tI, 2, .inl (iA (iN Z)))), (bt, .inl (tI, 28227, .inl (iA T)))]) (fun _ => rfl) (fun r85 _ e85 => ?_)
          subst e85
          have J97 : F 97 [(8, .int (iI (((97 * i + (j + (t + 1))) * 3 + 2 : Nat) : Int))), (7, .int (iI ((t + 1 : Nat) : Int))), (6, .int (iI ((fd : Nat) : Int))), (5, .int (iI (((Z 1 : Nat) : Int) - ((j : Nat) : Int)))), (4, .int (iI gl)), (3, .int (iI ((j : Nat) : Int))), (2, .int (iI ((i : Nat) : Int))), (1, .int (iI ((0 : Nat) : Int))), (0, .ref mo)] [.int (iI ((if ¬ T ((97 * i + (j + (t + 1))) * 3 + 2) = -100000000 ∧ -(ra_g2 (ra_mg Z L SC op mr fr pt) i j (t + 1)) + T ((97 * i + (j + (t + 1))) * 3 + 2) = gl then t + 1 else 0 : Nat) : Int))] [(mo, .inr (10, [.int (iI cd), .ref ml, .ref mz, .ref ms, .int (iI op), .int (iI mr), .int (iI (bI (ld = true))), .int (iI (bI (pt = true))), .int (iI ((fr : Nat) : Int)), .ref mt, .int (iI ((sn : Nat) : Int)), .ref mb, .ref me, .ref bt, .ref wy, .ref lq, .ref df, .int (iI ((dn : Nat) : Int))])), (mz, .inl (tI, 2, .inl (iA (iN Z)))), (bt, .inl (tI, 28227, .inl (iA T)))] 0 0 := by
            refine r_istore hX (lv' := [(6, .int (iI ((if ¬ T ((97 * i + (j + (t + 1))) * 3 + 2) = -100000000 ∧ -(ra_g2 (ra_mg Z L SC op mr fr pt) i j (t + 1)) + T ((97 * i + (j + (t + 1))) * 3 + 2) = gl then t + 1 else 0 : Nat) : Int))), (8, .int (iI (((97 * i + (j + (t + 1))) * 3 + 2 : Nat) : Int))), (7, .int (iI ((t + 1 : Nat) : Int))), (5, .int (iI (((Z 1 : Nat) : Int) - ((j : Nat) : Int)))), (4, .int (iI gl)), (3, .int (iI ((j : Nat) : Int))), (2, .int (iI ((i : Nat) : Int))), (1, .int (iI ((0 : Nat) : Int))), (0, .ref mo)]) d_Mo_gapHere_97 (by decide) rfl ?_
            refine r_iincN hX (lv' := [(7, .int (iI ((t + 1 + 1 : Nat) : Int))), (6, .int (iI ((if ¬ T ((97 * i + (j + (t + 1))) * 3 + 2) = -100000000 ∧ -(ra_g2 (ra_mg Z L SC op mr fr pt) i j (t + 1)) + T ((97 * i + (j + (t + 1))) * 3 + 2) = gl then t + 1 else 0 : Nat) : Int))), (8, .int (iI (((97 * i + (j + (t + 1))) * 3 + 2 : Nat) : Int))), (5, .int (iI (((Z 1 : Nat) : Int) - ((j : Nat) : Int)))), (4, .int (iI gl)), (3, .int (iI ((j : Nat) : Int))), (2, .int (iI ((i : Nat) : Int))), (1, .int (iI ((0 : Nat) : Int))), (0, .ref mo)]) 2 d_Mo_gapHere_99 rfl (by decide) rfl ?_
            refine r_goto hX 31 d_Mo_gapHere_102 (by decide) ?_
            refine r_lv hX (lv' := [(7, .int (iI ((t + 1 + 1 : Nat) : Int))), (6, .int (iI ((if ¬ T ((97 * i + (j + (t + 1))) * 3 + 2) = -100000000 ∧ -(ra_g2 (ra_mg Z L SC op mr fr pt) i j (t + 1)) + T ((97 * i + (j + (t + 1))) * 3 + 2) = gl then t + 1 else 0 : Nat) : Int))), (5, .int (iI (((Z 1 : Nat) : Int) - ((j : Nat) : Int)))), (4, .int (iI gl)), (3, .int (iI ((j : Nat) : Int))), (2, .int (iI ((i : Nat) : Int))), (1, .int (iI ((0 : Nat) : Int))), (0, .ref mo)]) [0, 1, 3, 4, 5, 6, 7, 8] rfl ?_
            refine r_eq (lv2 := [(7, .int (iI (((t + 1) + 1 : Nat) : Int))), (6, .int (iI ((if ¬ T ((97 * i + (j + (t + 1))) * 3 + 2) = -100000000 ∧ -(ra_g2 (ra_mg Z L SC op mr fr pt) i j (t + 1)) + T ((97 * i + (j + (t + 1))) * 3 + 2) = gl then t + 1 else 0 : Nat) : Int))), (5, .int (iI (((Z 1 : Nat) : Int) - ((j : Nat) : Int)))), (4, .int (iI gl)), (3, .int (iI ((j : Nat) : Int))), (2, .int (iI ((i : Nat) : Int))), (1, .int (iI ((0 : Nat) : Int))), (0, .ref mo)]) (st2 := []) (ws2 := [(mo, .inr (10, [.int (iI cd), .ref ml, .ref mz, .ref ms, .int (iI op), .int (iI mr), .int (iI (bI (ld = true))), .int (iI (bI (pt = true))), .int (iI ((fr : Nat) : Int)), .ref mt, .int (iI ((sn : Nat) : Int)), .ref mb, .ref me, .ref bt, .ref wy, .ref lq, .ref df, .int (iI ((dn : Nat) : Int))])), (mz, .inl (tI, 2, .inl (iA (iN Z)))), (bt, .inl (tI, 28227, .inl (iA T)))]) rfl rfl rfl ?_
            exact ih31 _ (by omega) (t + 1) (if ¬ T ((97 * i + (j + (t + 1))) * 3 + 2) = -100000000 ∧ -(ra_g2 (ra_mg Z L SC op mr fr pt) i j (t + 1)) + T ((97 * i + (j + (t + 1))) * 3 + 2) = gl then t + 1 else 0) rfl (by omega) (by by_cases q88 : (¬ T ((97 * i + (j + (t + 1))) * 3 + 2) = -100000000 ∧ -(ra_g2 (ra_mg Z L SC op mr fr pt) i j (t + 1)) + T ((97 * i + (j + (t + 1))) * 3 + 2) = gl); (rw [if_pos q88]; exact Or.inr ⟨by omega, by omega, hst.trans (if_pos (hisq.1 q88))⟩); (rw [if_neg q88]; exact Or.inl ⟨rfl, hst.trans ((if_neg (fun z => q88 (hisq.2 z))).trans (by rw [show Z 1 - j - (t + 1) = Z 1 - j - t - 1 by omega]))⟩))
          refine rb_if_eq hX 96 d_Mo_gapHere_88 (by decide) (fun h88 => ?_) (fun h88 => ?_)
          · refine r_iconstN hX 0 d_Mo_gapHere_96 rfl ?_
            exact rj_e (by first | exact congrArg (fun z : Nat => (z : Int)) (if_pos h88).symm | exact congrArg (fun z : Nat => (z : Int)) (if_neg h88).symm) J97
          · refine r_iload hX 1 d_Mo_gapHere_91 rfl ?_
            refine r_goto hX 97 d_Mo_gapHere_93 (by decide) ?_
            exact rj_e (by first | exact congrArg (fun z : Nat => (z : Int)) (if_pos h88).symm | exact congrArg (fun z : Nat => (z : Int)) (if_neg h88).symm) J97
  refine r_lv hX (lv' := [(7, .int (iI ((1 : Nat) : Int))), (6, .int (iI ((0 : Nat) : Int))), (5, .int (iI (((Z 1 : Nat) : Int) - ((j : Nat) : Int)))), (4, .int (iI gl)), (3, .int (iI ((j : Nat) : Int))), (2, .int (iI ((i : Nat) : Int))), (1, .int (iI ((0 : Nat) : Int))), (0, .ref mo)]) [0, 1, 2, 7, 6, 5, 4, 3] rfl ?_
  refine r_eq (lv2 := [(7, .int (iI ((0 + 1 : Nat) : Int))), (6, .int (iI ((0 : Nat) : Int))), (5, .int (iI (((Z 1 : Nat) : Int) - ((j : Nat) : Int)))), (4, .int (iI gl)), (3, .int (iI ((j : Nat) : Int))), (2, .int (iI ((i : Nat) : Int))), (1, .int (iI ((0 : Nat) : Int))), (0, .ref mo)]) (st2 := []) (ws2 := [(mo, .inr (10, [.int (iI cd), .ref ml, .ref mz, .ref ms, .int (iI op), .int (iI mr), .int (iI (bI (ld = true))), .int (iI (bI (pt = true))), .int (iI ((fr : Nat) : Int)), .ref mt, .int (iI ((sn : Nat) : Int)), .ref mb, .ref me, .ref bt, .ref wy, .ref lq, .ref df, .int (iI ((dn : Nat) : Int))])), (mz, .inl (tI, 2, .inl (iA (iN Z)))), (bt, .inl (tI, 28227, .inl (iA T)))]) rfl rfl rfl ?_
  exact L31 _ 0 0 rfl hj (Or.inl ⟨rfl, rfl⟩)

abbrev rm_Mo_gapOfOne : Room := { frames := 1, cells := 0, slots := 0, locals := 29 }
set_option maxHeartbeats 4000000 in
set_option maxRecDepth 100000 in
theorem c_Mo_gapOfOne (l : Launch) (D : va_G) (tI tJ tZ : ClassId) (mo : Nat) (ml : Nat) (mz : Nat) (ms : Nat) (mt : Nat) (mb : Nat) (me : Nat) (bt : Nat) (wy : Nat) (lq : Nat) (df : Nat) (cd : Int) (op : Int) (mr : Int) (ld : Bool) (pt : Bool) (fr : Nat) (sn : Nat) (dn : Nat) (L : Nat → Nat) (Z : Nat → Nat) (SC : Nat → Int) (T : Nat → Int) (i : Nat) (j : Nat) (gl : Int) (hM : raM Z L SC op mr fr) (hi : i ≤ Z 0) (hj : j ≤ Z 1) (hg : -200000000 ≤ gl ∧ gl ≤ 200000000) (hTM : ra_TM (ra_mg Z L SC op mr fr pt) T) : rCi l y_Mo_gapOfOne prog_12_method_23_code 9 .int rm_Mo_gapOfOne D (tysA tI tJ tZ) [.ref mo, .int (iI ((i : Nat) : Int)), .int (iI ((j : Nat) : Int)), .int (iI gl)] [(mo, .inr (10, [.int (iI cd), .ref ml, .ref mz, .ref ms, .int (iI op), .int (iI mr), .int (iI (bI (ld = true))), .int (iI (bI (pt = true))), .int (iI ((fr : Nat) : Int)), .ref mt, .int (iI ((sn : Nat) : Int)), .ref mb, .ref me, .ref bt, .ref wy, .ref lq, .ref df, .int (iI ((dn : Nat) : Int))])), (ml, .inl (tI, 192, .inl (iA (iN L)))), (mz, .inl (tI, 2, .inl (iA (iN Z)))), (ms, .inl (tI, 676, .inl (iA SC))), (bt, .inl (tI, 28227, .inl (iA T)))] (fun zz (_ : Unit) => zz = iI (((ra_go (ra_mg Z L SC op mr fr pt) i j gl (Z 0 - i) 1 0 : Nat) : Int))) (fun (_ : Unit) => [(mo, .inr (10, [.int (iI cd), .ref ml, .ref mz, .ref ms, .int (iI op), .int (iI mr), .int (iI (bI (ld = true))), .int (iI (bI (pt = true))), .int (iI ((fr : Nat) : Int)), .ref mt, .int (iI ((sn : Nat) : Int)), .ref mb, .ref me, .ref bt, .ref wy, .ref lq, .ref df, .int (iI ((dn : Nat) : Int))])), (ml, .inl (tI, 192, .inl (iA (iN L)))), (mz, .inl (tI, 2, .inl (iA (iN Z)))), (ms, .inl (tI, 676, .inl (iA SC))), (bt, .inl (tI, 28227, .inl (iA T)))]) := by
  intro sz
  refine r_met (by decide) (Nat.le_of_ble_eq_true rfl) ?_
  intro F p e s m args below meth c Q A hX hT hAe hsz hin
  subst hAe
  replace hX : rOK F p l e rm_Mo_gapOfOne s m args below meth c Q prog_12_method_23_code 9 "RowAlignerModel" D (tysA tI tJ tZ) _ := hX
  have hM9 := hM
  obtain ⟨hza, hzb, hL, hL2, hS, ho0, ho1, hm0, hm1, hf⟩ := hM9
  have hbd : ra_bd (ra_mg Z L SC op mr fr pt) := hM.bd pt
  show F 0 [(0, .ref mo), (1, .int (iI ((i : Nat) : Int))), (2, .int (iI ((j : Nat) : Int))), (3, .int (iI gl))] [] [(mo, .inr (10, [.int (iI cd), .ref ml, .ref mz, .ref ms, .int (iI op), .int (iI mr), .int (iI (bI (ld = true))), .int (iI (bI (pt = true))), .int (iI ((fr : Nat) : Int)), .ref mt, .int (iI ((sn : Nat) : Int)), .ref mb, .ref me, .ref bt, .ref wy, .ref lq, .ref df, .int (iI ((dn : Nat) : Int))])), (ml, .inl (tI, 192, .inl (iA (iN L)))), (mz, .inl (tI, 2, .inl (iA (iN Z)))), (ms, .inl (tI, 676, .inl (iA SC))), (bt, .inl (tI, 28227, .inl (iA T)))] 0 0
  refine r_iconstN hX 0 d_Mo_gapOfOne_0 rfl ?_
  refine r_istore hX (lv' := [(4, .int (iI ((0 : Nat) : Int))), (0, .ref mo), (1, .int (iI ((i : Nat) : Int))), (2, .int (iI ((j : Nat) : Int))), (3, .int (iI gl))]) d_Mo_gapOfOne_1 (by decide) rfl ?_
  refine r_iconstN hX 1 d_Mo_gapOfOne_3 rfl ?_
  refine r_istore hX (lv' := [(5, .int (iI ((1 : Nat) : Int))), (4, .int (iI ((0 : Nat) : Int))), (0, .ref mo), (1, .int (iI ((i : Nat) : Int))), (2, .int (iI ((j : Nat) : Int))), (3, .int (iI gl))]) d_Mo_gapOfOne_4 (by decide) rfl ?_
  have L6 : ∀ (dd : Nat) (t : Nat) (la9 : Nat), Z 0 + 1 - t = dd → (i + t ≤ Z 0) → (la9 ≤ 96) → (ra_go (ra_mg Z L SC op mr fr pt) i j gl (Z 0 - i) 1 0 = ra_go (ra_mg Z L SC op mr fr pt) i j gl (Z 0 - i - t) (t + 1) la9) → F 6 [(5, .int (iI ((t + 1 : Nat) : Int))), (4, .int (iI ((la9 : Nat) : Int))), (3, .int (iI gl)), (2, .int (iI ((j : Nat) : Int))), (1, .int (iI ((i : Nat) : Int))), (0, .ref mo)] [] [(mo, .inr (10, [.int (iI cd), .ref ml, .ref mz, .ref ms, .int (iI op), .int (iI mr), .int (iI (bI (ld = true))), .int (iI (bI (pt = true))), .int (iI ((fr : Nat) : Int)), .ref mt, .int (iI ((sn : Nat) : Int)), .ref mb, .ref me, .ref bt, .ref wy, .ref lq, .ref df, .int (iI ((dn : Nat) : Int))])), (ml, .inl (tI, 192, .inl (iA (iN L)))), (mz, .inl (tI, 2, .inl (iA (iN Z)))), (ms, .inl (tI, 676, .inl (iA SC))), (bt, .inl (tI, 28227, .inl (iA T)))] 0 0 := by
    intro dd
    induction dd using Nat.strongRecOn with
    | _ dd ih6 =>
      intro t la9 hmu6 ht hl9 hgo
      refine r_iload_n hX 4 d_Mo_gapOfOne_6 rfl ?_
      refine r_iload hX 0 d_Mo_gapOfOne_7 rfl ?_
      refine r_iaddN hX d_Mo_gapOfOne_9 ?_
      refine r_aload_n hX 5 d_Mo_gapOfOne_10 rfl ?_
      refine r_get hX cf_Mo 0 rfl 2 (by decide) fl_Mo_13 rfl d_Mo_gapOfOne_11 ?_
      refine r_iconstN hX 0 d_Mo_gapOfOne_14 rfl ?_
      refine r_ialdN hX 2 0 rfl rfl (0) rfl (by omega) (by decide) d_Mo_gapOfOne_15 ?_
      refine r_icmp_gt hX 186 d_Mo_gapOfOne_16 (by decide) (by unfold iR; omega) (by unfold iR; omega) (fun h16 => ?_) (fun h16 => ?_)
      · refine r_iload hX 1 d_Mo_gapOfOne_186 rfl ?_
        exact r_iret hX hT () (congrArg (fun z : Nat => iI (z : Int)) (by rw [hgo, show Z 0 - i - t = 0 by omega]; rfl)) rfl (by decide) (by decide) d_Mo_gapOfOne_188
      · have hst : ra_go (ra_mg Z L SC op mr fr pt) i j gl (Z 0 - i) 1 0 = ra_go (ra_mg Z L SC op mr fr pt) i j gl (Z 0 - i - t - 1 + 1) (t + 1) la9 := by rw [hgo, show Z 0 - i - t - 1 + 1 = Z 0 - i - t by omega]
        have hTt := hTM 1 (i + (t + 1)) j (by omega) (by change i + (t + 1) ≤ Z 0; omega) (by change j ≤ Z 1; omega)
        have hTb := ra_TM_bd hbd hTM (b := 1) (i := i + (t + 1)) (j := j) (by omega) (by change i + (t + 1) ≤ Z 0; omega) (by change j ≤ Z 1; omega)
        have hg1 := ra_g1_bd hbd (i := i) (j := j) (t := t + 1) (by omega) (by omega)
        have hisq : (¬ T ((97 * (i + (t + 1)) + j) * 3 + 1) = -100000000 ∧ -(ra_g1 (ra_mg Z L SC op mr fr pt) i j (t + 1)) + T ((97 * (i + (t + 1)) + j) * 3 + 1) = gl) ↔ ra_is (ra_mg Z L SC op mr fr pt) (-(ra_g1 (ra_mg Z L SC op mr fr pt) i j (t + 1))) 1 (i + (t + 1)) j gl := by rw [hTt]
        have hfq := ra_fin_T hTM (i := i) (j := j) (n := t + 1) (by omega) hj
        refine r_iload_n hX 4 d_Mo_gapOfOne_19 rfl ?_
        refine r_iload hX 0 d_Mo_gapOfOne_20 rfl ?_
        refine r_iaddN hX d_Mo_gapOfOne_22 ?_
        refine r_iload_n hX 3 d_Mo_gapOfOne_23 rfl ?_
        refine r_iconstN hX 1 d_Mo_gapOfOne_24 rfl ?_
        refine r_invS_i0 (st := []) (As := [.int (iI ((i + (t + 1) : Nat) : Int)), .int (iI ((j : Nat) : Int)), .int (iI ((1 : Nat) : Int))]) (wr := [(mo, .inr (10, [.int (iI cd), .ref ml, .ref mz, .ref ms, .int (iI op), .int (iI mr), .int (iI (bI (ld = true))), .int (iI (bI (pt = true))), .int (iI ((fr : Nat) : Int)), .ref mt, .int (iI ((sn : Nat) : Int)), .ref mb, .ref me, .ref bt, .ref wy, .ref lq, .ref df, .int (iI ((dn : Nat) : Int))])), (ml, .inl (tI, 192, .inl (iA (iN L)))), (mz, .inl (tI, 2, .inl (iA (iN Z)))), (ms, .inl (tI, 676, .inl (iA SC))), (bt, .inl (tI, 28227, .inl (iA T)))]) hX (c_Mo_at l D tI tJ tZ (i + (t + 1)) j 1) yn_Mo_at ml_Mo_72 st_Mo_at co_Mo_at in_Mo (by decide) (by decide) (by decide) [] [0, 1, 2, 3, 4] rfl rfl rfl rfl rfl (by decide) rfl rfl (Nat.le_of_ble_eq_true rfl) d_Mo_gapOfOne_25 [0, 1, 2, 3, 4] rfl (w2 := fun _ => [(mo, .inr (10, [.int (iI cd), .ref ml, .ref mz, .ref ms, .int (iI op), .int (iI mr), .int (iI (bI (ld = true))), .int (iI (bI (pt = true))), .int (iI ((fr : Nat) : Int)), .ref mt, .int (iI ((sn : Nat) : Int)), .ref mb, .ref me, .ref bt, .ref wy, .ref lq, .ref df, .int (iI ((dn : Nat) : Int))])), (ml, .inl (tI, 192, .inl (iA (iN L)))), (mz, .inl (tI, 2, .inl (iA (iN Z)))), (ms, .inl (tI, 676, .inl (iA SC))), (bt, .inl (tI, 28227, .inl (iA T)))]) (fun _ => rfl) (fun r25 _ e25 => ?_)
        subst e25
        refine r_istore hX (lv' := [(6, .int (iI (((97 * (i + (t + 1)) + j) * 3 + 1 : Nat) : Int))), (5, .int (iI ((t + 1 : Nat) : Int))), (4, .int (iI ((la9 : Nat) : Int))), (3, .int (iI gl)), (2, .int (iI ((j : Nat) : Int))), (1, .int (iI ((i : Nat) : Int))), (0, .ref mo)]) d_Mo_gapOfOne_28 (by decide) rfl ?_
        refine r_aload_n hX 6 d_Mo_gapOfOne_30 rfl ?_
        refine r_aload_n hX 6 d_Mo_gapOfOne_31 rfl ?_
        refine r_iconstN hX 1 d_Mo_gapOfOne_32 rfl ?_
        refine r_iload_n hX 5 d_Mo_gapOfOne_33 rfl ?_
        refine r_iload_n hX 4 d_Mo_gapOfOne_34 rfl ?_
        refine r_iload hX 1 d_Mo_gapOfOne_35 rfl ?_
        refine r_invV_i0 (st := [.ref mo]) (As := [.int (iI ((1 : Nat) : Int)), .int (iI ((i : Nat) : Int)), .int (iI ((j : Nat) : Int)), .int (iI ((t + 1 : Nat) : Int))]) (wr := [(ml, .inl (tI, 192, .inl (iA (iN L)))), (ms, .inl (tI, 676, .inl (iA SC))), (bt, .inl (tI, 28227, .inl (iA T)))]) hX (c_Mo_gap_1 l D tI tJ tZ mo ml mz ms mt mb me bt wy lq df cd op mr ld pt fr sn dn Z L SC i j (t + 1) (by omega) (by omega) (by omega) hza hzb hf) "RowAlignerModel" 0 10 cf_Mo rfl yn_Mo_gap ml_Mo_88 im_Mo_gap se_Mo_gap co_Mo_gap in_Mo (by decide) (by decide) (by decide) [0, 2] [1, 3, 4] rfl rfl rfl rfl rfl (by decide) rfl rfl (Nat.le_of_ble_eq_true rfl) d_Mo_gapOfOne_37 [3, 0, 4, 1, 2] rfl (w2 := fun _ => [(mo, .inr (10, [.int (iI cd), .ref ml, .ref mz, .ref ms, .int (iI op), .int (iI mr), .int (iI (bI (ld = true))), .int (iI (bI (pt = true))), .int (iI ((fr : Nat) : Int)), .ref mt, .int (iI ((sn : Nat) : Int)), .ref mb, .ref me, .ref bt, .ref wy, .ref lq, .ref df, .int (iI ((dn : Nat) : Int))])), (ml, .inl (tI, 192, .inl (iA (iN L)))), (mz, .inl (tI, 2, .inl (iA (iN Z)))), (ms, .inl (tI, 676, .inl (iA SC))), (bt, .inl (tI, 28227, .inl (iA T)))]) (fun _ => rfl) (fun r37 _ e37 => ?_)
        subst e37
        refine r_ineg hX d_Mo_gapOfOne_40 ?_
        refine r_iload hX 0 d_Mo_gapOfOne_41 rfl ?_
        refine r_iload_n hX 3 d_Mo_gapOfOne_43 rfl ?_
        refine r_invV_i0 (st := []) (As := [.int (iI (-(ra_g1 (ra_mg Z L SC op mr fr pt) i j (t + 1)))), .int (iI (((97 * (i + (t + 1)) + j) * 3 + 1 : Nat) : Int)), .int (iI gl)]) (wr := [(ml, .inl (tI, 192, .inl (iA (iN L)))), (mz, .inl (tI, 2, .inl (iA (iN Z)))), (ms, .inl (tI, 676, .inl (iA SC)))]) hX (c_Mo_isGoal l D tI tJ tZ mo ml mz ms mt mb me bt wy lq df cd op mr ld pt fr sn dn T (-(ra_g1 (ra_mg Z L SC op mr fr pt) i j (t + 1))) ((97 * (i + (t + 1)) + j) * 3 + 1) gl (by omega) (by omega) hg hTb) "RowAlignerModel" 0 10 cf_Mo rfl yn_Mo_isGoal ml_Mo_95 im_Mo_isGoal se_Mo_isGoal co_Mo_isGoal in_Mo (by decide) (by decide) (by decide) [0, 4] [1, 2, 3] rfl rfl rfl rfl rfl (by decide) rfl rfl (Nat.le_of_ble_eq_true rfl) d_Mo_gapOfOne_44 [3, 0, 1, 2, 4] rfl (w2 := fun _ => [(mo, .inr (10, [.int (iI cd), .ref ml, .ref mz, .ref ms, .int (iI op), .int (iI mr), .int (iI (bI (ld = true))), .int (iI (bI (pt = true))), .int (iI ((fr : Nat) : Int)), .ref mt, .int (iI ((sn : Nat) : Int)), .ref mb, .ref me, .ref bt, .ref wy, .ref lq, .ref df, .int (iI ((dn : Nat) : Int))])), (ml, .inl (tI, 192, .inl (iA (iN L)))), (mz, .inl (tI, 2, .inl (iA (iN Z)))), (ms, .inl (tI, 676, .inl (iA SC))), (bt, .inl (tI, 28227, .inl (iA T)))]) (fun _ => rfl) (fun r44 _ e44 => ?_)
        subst e44
        refine rb_if_eq hX 180 d_Mo_gapOfOne_47 (by decide) (fun h47 => ?_) (fun h47 => ?_)
        · refine r_iincN hX (lv' := [(5, .int (iI ((t + 1 + 1 : Nat) : Int))), (6, .int (iI (((97 * (i + (t + 1)) + j) * 3 + 1 : Nat) : Int))), (4, .int (iI ((la9 : Nat) : Int))), (3, .int (iI gl)), (2, .int (iI ((j : Nat) : Int))), (1, .int (iI ((i : Nat) : Int))), (0, .ref mo)]) 1 d_Mo_gapOfOne_180 rfl (by decide) rfl ?_
          refine r_goto hX 6 d_Mo_gapOfOne_183 (by decide) ?_
          refine r_lv hX (lv' := [(5, .int (iI ((t + 1 + 1 : Nat) : Int))), (4, .int (iI ((la9 : Nat) : Int))), (3, .int (iI gl)), (2, .int (iI ((j : Nat) : Int))), (1, .int (iI ((i : Nat) : Int))), (0, .ref mo)]) [0, 2, 3, 4, 5, 6] rfl ?_
          refine r_eq (lv2 := [(5, .int (iI (((t + 1) + 1 : Nat) : Int))), (4, .int (iI ((la9 : Nat) : Int))), (3, .int (iI gl)), (2, .int (iI ((j : Nat) : Int))), (1, .int (iI ((i : Nat) : Int))), (0, .ref mo)]) (st2 := []) (ws2 := [(mo, .inr (10, [.int (iI cd), .ref ml, .ref mz, .ref ms, .int (iI op), .int (iI mr), .int (iI (bI (ld = true))), .int (iI (bI (pt = true))), .int (iI ((fr : Nat) : Int)), .ref mt, .int (iI ((sn : Nat) : Int)), .ref mb, .ref me, .ref bt, .ref wy, .ref lq, .ref df, .int (iI ((dn : Nat) : Int))])), (ml, .inl (tI, 192, .inl (iA (iN L)))), (mz, .inl (tI, 2, .inl (iA (iN Z)))), (ms, .inl (tI, 676, .inl (iA SC))), (bt, .inl (tI, 28227, .inl (iA T)))]) rfl rfl rfl ?_
          exact ih6 _ (by omega) (t + 1) la9 rfl (by omega) (by omega) (hst.trans ((if_neg (fun z => h47 (hisq.2 z))).trans (by rw [show Z 0 - i - (t + 1) = Z 0 - i - t - 1 by omega])))
        · refine r_iload hX 1 d_Mo_gapOfOne_50 rfl ?_
          refine r_istore hX (lv' := [(4, .int (iI ((t + 1 : Nat) : Int))), (6, .int (iI (((97 * (i + (t + 1)) + j) * 3 + 1 : Nat) : Int))), (5, .int (iI ((t + 1 : Nat) : Int))), (3, .int (iI gl)), (2, .int (iI ((j : Nat) : Int))), (1, .int (iI ((i : Nat) : Int))), (0, .ref mo)]) d_Mo_gapOfOne_52 (by decide) rfl ?_
          refine r_iload_n hX 5 d_Mo_gapOfOne_54 rfl ?_
          refine r_iload hX 2 d_Mo_gapOfOne_55 rfl ?_
          refine r_iaddN hX d_Mo_gapOfOne_57 ?_
          refine r_aload_n hX 6 d_Mo_gapOfOne_58 rfl ?_
          refine r_get hX cf_Mo 0 rfl 2 (by decide) fl_Mo_13 rfl d_Mo_gapOfOne_59 ?_
          refine r_iconstN hX 0 d_Mo_gapOfOne_62 rfl ?_
          refine r_ialdN hX 2 0 rfl rfl (0) rfl (by omega) (by decide) d_Mo_gapOfOne_63 ?_
          have J99 : F 99 [(4, .int (iI ((t + 1 : Nat) : Int))), (6, .int (iI (((97 * (i + (t + 1)) + j) * 3 + 1 : Nat) : Int))), (5, .int (iI ((t + 1 : Nat) : Int))), (3, .int (iI gl)), (2, .int (iI ((j : Nat) : Int))), (1, .int (iI ((i : Nat) : Int))), (0, .ref mo)] [.int (iI (bI ((i + (t + 1) = Z 0 ∧ j = Z 1) ∨ (pt = true ∧ T ((97 * (i + (t + 1)) + j) * 3 + 1) = 0))))] [(mo, .inr (10, [.int (iI cd), .ref ml, .ref mz, .ref ms, .int (iI op), .int (iI mr), .int (iI (bI (ld = true))), .int (iI (bI (pt = true))), .int (iI ((fr : Nat) : Int)), .ref mt, .int (iI ((sn : Nat) : Int)), .ref mb, .ref me, .ref bt, .ref wy, .ref lq, .ref df, .int (iI ((dn : Nat) : Int))])), (ml, .inl (tI, 192, .inl (iA (iN L)))), (mz, .inl (tI, 2, .inl (iA (iN Z)))), (ms, .inl (tI, 676, .inl (iA SC))), (bt, .inl (tI, 28227, .inl (iA T)))] 0 0 := by
            refine r_istore hX (lv' := [(7, .int (iI (bI ((i + (t + 1) = Z 0 ∧ j = Z 1) ∨ (pt = true ∧ T ((97 * (i + (t + 1)) + j) * 3 + 1) = 0))))), (4, .int (iI ((t + 1 : Nat) : Int))), (6, .int (iI (((97 * (i + (t + 1)) + j) * 3 + 1 : Nat) : Int))), (5, .int (iI ((t + 1 : Nat) : Int))), (3, .int (iI gl)), (2, .int (iI ((j : Nat) : Int))), (1, .int (iI ((i : Nat) : Int))), (0, .ref mo)]) d_Mo_gapOfOne_99 (by decide) rfl ?_
            refine r_iload_n hX 6 d_Mo_gapOfOne_101 rfl ?_
            refine r_iload hX 3 d_Mo_gapOfOne_102 rfl ?_
            refine r_iaddN hX d_Mo_gapOfOne_104 ?_
            refine r_aload_n hX 7 d_Mo_gapOfOne_105 rfl ?_
            refine r_get hX cf_Mo 0 rfl 2 (by decide) fl_Mo_13 rfl d_Mo_gapOfOne_106 ?_
            refine r_iconstN hX 0 d_Mo_gapOfOne_109 rfl ?_
            refine r_ialdN hX 2 0 rfl rfl (0) rfl (by omega) (by decide) d_Mo_gapOfOne_110 ?_
            have J165 : F 165 [(7, .int (iI (bI ((i + (t + 1) = Z 0 ∧ j = Z 1) ∨ (pt = true ∧ T ((97 * (i + (t + 1)) + j) * 3 + 1) = 0))))), (4, .int (iI ((t + 1 : Nat) : Int))), (6, .int (iI (((97 * (i + (t + 1)) + j) * 3 + 1 : Nat) : Int))), (5, .int (iI ((t + 1 : Nat) : Int))), (3, .int (iI gl)), (2, .int (iI ((j : Nat) : Int))), (1, .int (iI ((i : Nat) : Int))), (0, .ref mo)] [.int (iI (bI ((i + (t + 1) < Z 0 ∧ j < Z 1) ∧ (¬ T ((97 * (i + (t + 1) + 1) + (j + 1)) * 3 + 0) = -100000000 ∧ SC (L (i + (t + 1)) * 26 + L (96 + j)) + T ((97 * (i + (t + 1) + 1) + (j + 1)) * 3 + 0) = T ((97 * (i + (t + 1)) + j) * 3 + 1)))))] [(mo, .inr (10, [.int (iI cd), .ref ml, .ref mz, .ref ms, .int (iI op), .int (iI mr), .int (iI (bI (ld = true))), .int (iI (bI (pt = true))), .int (iI ((fr : Nat) : Int)), .ref mt, .int (iI ((sn : Nat) : Int)), .ref mb, .ref me, .ref bt, .ref wy, .ref lq, .ref df, .int (iI ((dn : Nat) : Int))])), (ml, .inl (tI, 192, .inl (iA (iN L)))), (mz, .inl (tI, 2, .inl (iA (iN Z)))), (ms, .inl (tI, 676, .inl (iA SC))), (bt, .inl (tI, 28227, .inl (iA T)))] 0 0 := by
              refine r_istore hX (lv' := [(8, .int (iI (bI ((i + (t + 1) < Z 0 ∧ j < Z 1) ∧ (¬ T ((97 * (i + (t + 1) + 1) + (j + 1)) * 3 + 0) = -100000000 ∧ SC (L (i + (t + 1)) * 26 + L (96 + j)) + T ((97 * (i + (t + 1) + 1) + (j + 1)) * 3 + 0) = T ((97 * (i + (t + 1)) + j) * 3 + 1)))))), (7, .int (iI (bI ((i + (t + 1) = Z 0 ∧ j = Z 1) ∨ (pt = true ∧ T ((97 * (i + (t + 1)) + j) * 3 + 1) = 0))))), (4, .int (iI ((t + 1 : Nat) : Int))), (6, .int (iI (((97 * (i + (t + 1)) + j) * 3 + 1 : Nat) : Int))), (5, .int (iI ((t + 1 : Nat) : Int))), (3, .int (iI gl)), (2, .int (iI ((j : Nat) : Int))), (1, .int (iI ((i : Nat) : Int))), (0, .ref mo)]) d_Mo_gapOfOne_165 (by decide) rfl ?_
              refine r_iload hX 1 d_Mo_gapOfOne_167 rfl ?_
              refine rb_if_ne hX 177 d_Mo_gapOfOne_169 (by decide) (fun h169 => ?_) (fun h169 => ?_)
              · refine r_iload hX 4 d_Mo_gapOfOne_177 rfl ?_
                exact r_iret hX hT () (congrArg (fun z : Nat => iI (z : Int)) (hst.trans ((if_pos (hisq.1 h47)).trans (if_pos (hfq.1 (by first | exact Or.inl h169 | exact Or.inr h174))))).symm) rfl (by decide) (by decide) d_Mo_gapOfOne_179
              · refine r_iload hX 0 d_Mo_gapOfOne_172 rfl ?_
                refine rb_if_eq hX 180 d_Mo_gapOfOne_174 (by decide) (fun h174 => ?_) (fun h174 => ?_)
                · refine r_iincN hX (lv' := [(5, .int (iI ((t + 1 + 1 : Nat) : Int))), (8, .int (iI (bI ((i + (t + 1) < Z 0 ∧ j < Z 1) ∧ (¬ T ((97 * (i + (t + 1) + 1) + (j + 1)) * 3 + 0) = -100000000 ∧ SC (L (i + (t + 1)) * 26 + L (96 + j)) + T ((97 * (i + (t + 1) + 1) + (j + 1)) * 3 + 0) = T ((97 * (i + (t + 1)) + j) * 3 + 1)))))), (7, .int (iI (bI ((i + (t + 1) = Z 0 ∧ j = Z 1) ∨ (pt = true ∧ T ((97 * (i + (t + 1)) + j) * 3 + 1) = 0))))), (4, .int (iI ((t + 1 : Nat) : Int))), (6, .int (iI (((97 * (i + (t + 1)) + j) * 3 + 1 : Nat) : Int))), (3, .int (iI gl)), (2, .int (iI ((j : Nat) : Int))), (1, .int (iI ((i : Nat) : Int))), (0, .ref mo)]) 4 d_Mo_gapOfOne_180 rfl (by decide) rfl ?_
                  refine r_goto hX 6 d_Mo_gapOfOne_183 (by decide) ?_
                  refine r_lv hX (lv' := [(5, .int (iI ((t + 1 + 1 : Nat) : Int))), (4, .int (iI ((t + 1 : Nat) : Int))), (3, .int (iI gl)), (2, .int (iI ((j : Nat) : Int))), (1, .int (iI ((i : Nat) : Int))), (0, .ref mo)]) [0, 3, 5, 6, 7, 8] rfl ?_
                  refine r_eq (lv2 := [(5, .int (iI (((t + 1) + 1 : Nat) : Int))), (4, .int (iI ((t + 1 : Nat) : Int))), (3, .int (iI gl)), (2, .int (iI ((j : Nat) : Int))), (1, .int (iI ((i : Nat) : Int))), (0, .ref mo)]) (st2 := []) (ws2 := [(mo, .inr (10, [.int (iI cd), .ref ml, .ref mz, .ref ms, .int (iI op), .int (iI mr), .int (iI (bI (ld = true))), .int (iI (bI (pt = true))), .int (iI ((fr : Nat) : Int)), .ref mt, .int (iI ((sn : Nat) : Int)), .ref mb, .ref me, .ref bt, .ref wy, .ref lq, .ref df, .int (iI ((dn : Nat) : Int))])), (ml, .inl (tI, 192, .inl (iA (iN L)))), (mz, .inl (tI, 2, .inl (iA (iN Z)))), (ms, .inl (tI, 676, .inl (iA SC))), (bt, .inl (tI, 28227, .inl (iA T)))]) rfl rfl rfl ?_
                  exact ih6 _ (by omega) (t + 1) (t + 1) rfl (by omega) (by omega) (hst.trans ((if_pos (hisq.1 h47)).trans ((if_neg (fun z => (hfq.2 z).elim h169 h174)).trans (by rw [show Z 0 - i - (t + 1) = Z 0 - i - t - 1 by omega]))))
                · refine r_iload hX 4 d_Mo_gapOfOne_177 rfl ?_
                  exact r_iret hX hT () (congrArg (fun z : Nat => iI (z : Int)) (hst.trans ((if_pos (hisq.1 h47)).trans (if_pos (hfq.1 (by first | exact Or.inl h169 | exact Or.inr h174))))).symm) rfl (by decide) (by decide) d_Mo_gapOfOne_179
            refine r_icmp_ge hX 164 d_Mo_gapOfOne_111 (by decide) (by unfold iR; omega) (by unfold iR; omega) (fun h111 => ?_) (fun h111 => ?_)
            · refine r_iconstN hX 0 d_Mo_gapOfOne_164 rfl ?_
              exact rj_0 (by first | exact ⟨⟨by omega, by omega⟩, h157⟩ | (intro q; exact h157 q.2) | (intro q; have := q.1; omega)) J165
            · refine r_iload_n hX 5 d_Mo_gapOfOne_114 rfl ?_
              refine r_aload_n hX 7 d_Mo_gapOfOne_115 rfl ?_
              refine r_get hX cf_Mo 0 rfl 2 (by decide) fl_Mo_13 rfl d_Mo_gapOfOne_116 ?_
              refine r_iconstN hX 1 d_Mo_gapOfOne_119 rfl ?_
              refine r_ialdN hX 2 0 rfl rfl (1) rfl (by omega) (by decide) d_Mo_gapOfOne_120 ?_
              refine r_icmp_ge hX 164 d_Mo_gapOfOne_121 (by decide) (by unfold iR; omega) (by unfold iR; omega) (fun h121 => ?_) (fun h121 => ?_)
              · refine r_iconstN hX 0 d_Mo_gapOfOne_164 rfl ?_
                exact rj_0 (by first | exact ⟨⟨by omega, by omega⟩, h157⟩ | (intro q; exact h157 q.2) | (intro q; have := q.1; omega)) J165
              · have hsc := hS (L (i + (t + 1)) * 26 + L (96 + j))
                have hTb0 := ra_TM_bd hbd hTM (b := 0) (i := i + (t + 1) + 1) (j := j + 1) (by omega) (by change i + (t + 1) + 1 ≤ Z 0; omega) (by change j + 1 ≤ Z 1; omega)
                refine r_aload_n hX 7 d_Mo_gapOfOne_124 rfl ?_
                refine r_aload_n hX 7 d_Mo_gapOfOne_125 rfl ?_
                refine r_iload_n hX 6 d_Mo_gapOfOne_126 rfl ?_
                refine r_iload hX 3 d_Mo_gapOfOne_127 rfl ?_
                refine r_iaddN hX d_Mo_gapOfOne_129 ?_
                refine r_iload_n hX 5 d_Mo_gapOfOne_130 rfl ?_
                refine r_invV_i0 (st := [.ref mo]) (As := [.int (iI ((i + (t + 1) : Nat) : Int)), .int (iI ((j : Nat) : Int))]) (wr := [(mz, .inl (tI, 2, .inl (iA (iN Z)))), (bt, .inl (tI, 28227, .inl (iA T)))]) hX (c_Mo_scoreAt l D tI tJ tZ mo ml mz ms mt mb me bt wy lq df cd op mr ld pt fr sn dn L SC (i + (t + 1)) j hL (by omega) (by omega)) "RowAlignerModel" 0 10 cf_Mo rfl yn_Mo_scoreAt ml_Mo_80 im_Mo_scoreAt se_Mo_scoreAt co_Mo_scoreAt in_Mo (by decide) (by decide) (by decide) [0, 1, 3] [2, 4] rfl rfl rfl rfl rfl (by decide) rfl rfl (Nat.le_of_ble_eq_true rfl) d_Mo_gapOfOne_131 [2, 3, 0, 4, 1] rfl (w2 := fun _ => [(mo, .inr (10, [.int (iI cd), .ref ml, .ref mz, .ref ms, .int (iI op), .int (iI mr), .int (iI (bI (ld = true))), .int (iI (bI (pt = true))), .int (iI ((fr : Nat) : Int)), .ref mt, .int (iI ((sn : Nat) : Int)), .ref mb, .ref me, .ref bt, .ref wy, .ref lq, .ref df, .int (iI ((dn : Nat) : Int))])), (ml, .inl (tI, 192, .inl (iA (iN L)))), (mz, .inl (tI, 2, .inl (iA (iN Z)))), (ms, .inl (tI, 676, .inl (iA SC))), (bt, .inl (tI, 28227, .inl (iA T)))]) (fun _ => rfl) (fun r131 _ e131 => ?_)
                subst e131
                refine r_iload_n hX 6 d_Mo_gapOfOne_134 rfl ?_
                refine r_iload hX 3 d_Mo_gapOfOne_135 rfl ?_
                refine r_iaddN hX d_Mo_gapOfOne_137 ?_
                refine r_iconstN hX 1 d_Mo_gapOfOne_138 rfl ?_
                refine r_iaddN hX d_Mo_gapOfOne_139 ?_
                refine r_iload_n hX 5 d_Mo_gapOfOne_140 rfl ?_
                refine r_iconstN hX 1 d_Mo_gapOfOne_141 rfl ?_
                refine r_iaddN hX d_Mo_gapOfOne_142 ?_
                refine r_iconstN hX 0 d_Mo_gapOfOne_143 rfl ?_
                refine r_invS_i0 (st := [.int (iI (SC (L (i + (t + 1)) * 26 + L (96 + j)))), .ref mo]) (As := [.int (iI ((i + (t + 1) + 1 : Nat) : Int)), .int (iI ((j + 1 : Nat) : Int)), .int (iI ((0 : Nat) : Int))]) (wr := [(mo, .inr (10, [.int (iI cd), .ref ml, .ref mz, .ref ms, .int (iI op), .int (iI mr), .int (iI (bI (ld = true))), .int (iI (bI (pt = true))), .int (iI ((fr : Nat) : Int)), .ref mt, .int (iI ((sn : Nat) : Int)), .ref mb, .ref me, .ref bt, .ref wy, .ref lq, .ref df, .int (iI ((dn : Nat) : Int))])), (ml, .inl (tI, 192, .inl (iA (iN L)))), (mz, .inl (tI, 2, .inl (iA (iN Z)))), (ms, .inl (tI, 676, .inl (iA SC))), (bt, .inl (tI, 28227, .inl (iA T)))]) hX (c_Mo_at l D tI tJ tZ (i + (t + 1) + 1) (j + 1) 0) yn_Mo_at ml_Mo_72 st_Mo_at co_Mo_at in_Mo (by decide) (by decide) (by decide) [] [0, 1, 2, 3, 4] rfl rfl rfl rfl rfl (by decide) rfl rfl (Nat.le_of_ble_eq_true rfl) d_Mo_gapOfOne_144 [0, 1, 2, 3, 4] rfl (w2 := fun _ => [(mo, .inr (10, [.int (iI cd), .ref ml, .ref mz, .ref ms, .int (iI op), .int (iI mr), .int (iI (bI (ld = true))), .int (iI (bI (pt = true))), .int (iI ((fr : Nat) : Int)), .ref mt, .int (iI ((sn : Nat) : Int)), .ref mb, .ref me, .ref bt, .ref wy, .ref lq, .ref df, .int (iI ((dn : Nat) : Int))])), (ml, .inl (tI, 192, .inl (iA (iN L)))), (mz, .inl (tI, 2, .inl (iA (iN Z)))), (ms, .inl (tI, 676, .inl (iA SC))), (bt, .inl (tI, 28227, .inl (iA T)))]) (fun _ => rfl) (fun r144 _ e144 => ?_)
                subst e144
                refine r_aload_n hX 7 d_Mo_gapOfOne_147 rfl ?_
                refine r_get hX cf_Mo 0 rfl 13 (by decide) fl_Mo_35 rfl d_Mo_gapOfOne_148 ?_
                refine r_iload hX 2 d_Mo_gapOfOne_151 rfl ?_
                refine r_iald hX 4 0 rfl rfl ((97 * (i + (t + 1)) + j) * 3 + 1) rfl (by omega) (by decide) d_Mo_gapOfOne_153 ?_
                refine r_invV_i0 (st := []) (As := [.int (iI (SC (L (i + (t + 1)) * 26 + L (96 + j)))), .int (iI (((97 * (i + (t + 1) + 1) + (j + 1)) * 3 + 0 : Nat) : Int)), .int (iI (T ((97 * (i + (t + 1)) + j) * 3 + 1)))]) (wr := [(ml, .inl (tI, 192, .inl (iA (iN L)))), (mz, .inl (tI, 2, .inl (iA (iN Z)))), (ms, .inl (tI, 676, .inl (iA SC)))]) hX (c_Mo_isGoal l D tI tJ tZ mo ml mz ms mt mb me bt wy lq df cd op mr ld pt fr sn dn T (SC (L (i + (t + 1)) * 26 + L (96 + j))) ((97 * (i + (t + 1) + 1) + (j + 1)) * 3 + 0) (T ((97 * (i + (t + 1)) + j) * 3 + 1)) (by omega) (by omega) hTb hTb0) "RowAlignerModel" 0 10 cf_Mo rfl yn_Mo_isGoal ml_Mo_95 im_Mo_isGoal se_Mo_isGoal co_Mo_isGoal in_Mo (by decide) (by decide) (by decide) [0, 4] [1, 2, 3] rfl rfl rfl rfl rfl (by decide) rfl rfl (Nat.le_of_ble_eq_true rfl) d_Mo_gapOfOne_154 [3, 0, 1, 2, 4] rfl (w2 := fun _ => [(mo, .inr (10, [.int (iI cd), .ref ml, .ref mz, .ref ms, .int (iI op), .int (iI mr), .int (iI (bI (ld = true))), .int (iI (bI (pt = true))), .int (iI ((fr : Nat) : Int)), .ref mt, .int (iI ((sn : Nat) : Int)), .ref mb, .ref me, .ref bt, .ref wy, .ref lq, .ref df, .int (iI ((dn : Nat) : Int))])), (ml, .inl (tI, 192, .inl (iA (iN L)))), (mz, .inl (tI, 2, .inl (iA (iN Z)))), (ms, .inl (tI, 676, .inl (iA SC))), (bt, .inl (tI, 28227, .inl (iA T)))]) (fun _ => rfl) (fun r154 _ e154 => ?_)
                subst e154
                refine rb_if_eq hX 164 d_Mo_gapOfOne_157 (by decide) (fun h157 => ?_) (fun h157 => ?_)
                · refine r_iconstN hX 0 d_Mo_gapOfOne_164 rfl ?_
                  exact rj_0 (by first | exact ⟨⟨by omega, by omega⟩, h157⟩ | (intro q; exact h157 q.2) | (intro q; have := q.1; omega)) J165
                · refine r_iconstN hX 1 d_Mo_gapOfOne_160 rfl ?_
                  refine r_goto hX 165 d_Mo_gapOfOne_161 (by decide) ?_
                  exact rj_1 (by first | exact ⟨⟨by omega, by omega⟩, h157⟩ | (intro q; exact h157 q.2) | (intro q; have := q.1; omega)) J165
          refine r_icmp_ne hX 77 d_Mo_gapOfOne_64 (by decide) (by unfold iR; omega) (by unfold iR; omega) (fun h64 => ?_) (fun h64 => ?_)
          · refine r_aload_n hX 6 d_Mo_gapOfOne_77 rfl ?_
            refine r_get hX cf_Mo 0 rfl 7 (by decide) fl_Mo_76 rfl d_Mo_gapOfOne_78 ?_
            refine rb_if_eq hX 98 d_Mo_gapOfOne_81 (by decide) (fun h81 => ?_) (fun h81 => ?_)
            · refine r_iconstN hX 0 d_Mo_gapOfOne_98 rfl ?_
              exact rj_0 (by first | exact Or.inl ⟨by omega, by omega⟩ | exact Or.inr ⟨h81, by omega⟩ | (rintro (⟨q1, q2⟩ | ⟨q1, q2⟩) <;> first | omega | contradiction)) J99
            · refine r_aload_n hX 6 d_Mo_gapOfOne_84 rfl ?_
              refine r_get hX cf_Mo 0 rfl 13 (by decide) fl_Mo_35 rfl d_Mo_gapOfOne_85 ?_
              refine r_iload hX 1 d_Mo_gapOfOne_88 rfl ?_
              refine r_iald hX 4 0 rfl rfl ((97 * (i + (t + 1)) + j) * 3 + 1) rfl (by omega) (by decide) d_Mo_gapOfOne_90 ?_
              refine r_if_ne hX 98 d_Mo_gapOfOne_91 (by decide) (by unfold iR; omega) (fun h91 => ?_) (fun h91 => ?_)
              · refine r_iconstN hX 0 d_Mo_gapOfOne_98 rfl ?_
                exact rj_0 (by first | exact Or.inl ⟨by omega, by omega⟩ | exact Or.inr ⟨h81, by omega⟩ | (rintro (⟨q1, q2⟩ | ⟨q1, q2⟩) <;> first | omega | contradiction)) J99
              · refine r_iconstN hX 1 d_Mo_gapOfOne_94 rfl ?_
                refine r_goto hX 99 d_Mo_gapOfOne_95 (by decide) ?_
                exact rj_1 (by first | exact Or.inl ⟨by omega, by omega⟩ | exact Or.inr ⟨h81, by omega⟩ | (rintro (⟨q1, q2⟩ | ⟨q1, q2⟩) <;> first | omega | contradiction)) J99
          · refine r_iload_n hX 4 d_Mo_gapOfOne_67 rfl ?_
            refine r_aload_n hX 6 d_Mo_gapOfOne_68 rfl ?_
            refine r_get hX cf_Mo 0 rfl 2 (by decide) fl_Mo_13 rfl d_Mo_gapOfOne_69 ?_
            refine r_iconstN hX 1 d_Mo_gapOfOne_72 rfl ?_
            refine r_ialdN hX 2 0 rfl rfl (1) rfl (by omega) (by decide) d_Mo_gapOfOne_73 ?_
            refine r_icmp_eq hX 94 d_Mo_gapOfOne_74 (by decide) (by unfold iR; omega) (by unfold iR; omega) (fun h74 => ?_) (fun h74 => ?_)
            · refine r_iconstN hX 1 d_Mo_gapOfOne_94 rfl ?_
              refine r_goto hX 99 d_Mo_gapOfOne_95 (by decide) ?_
              exact rj_1 (by first | exact Or.inl ⟨by omega, by omega⟩ | exact Or.inr ⟨h81, by omega⟩ | (rintro (⟨q1, q2⟩ | ⟨q1, q2⟩) <;> first | omega | contradiction)) J99
            · refine r_aload_n hX 6 d_Mo_gapOfOne_77 rfl ?_
              refine r_get hX cf_Mo 0 rfl 7 (by decide) fl_Mo_76 rfl d_Mo_gapOfOne_78 ?_
              refine rb_if_eq hX 98 d_Mo_gapOfOne_81 (by decide) (fun h81 => ?_) (fun h81 => ?_)
              · refine r_iconstN hX 0 d_Mo_gapOfOne_98 rfl ?_
                exact rj_0 (by first | exact Or.inl ⟨by omega, by omega⟩ | exact Or.inr ⟨h81, by omega⟩ | (rintro (⟨q1, q2⟩ | ⟨q1, q2⟩) <;> first | omega | contradiction)) J99
              · refine r_aload_n hX 6 d_Mo_gapOfOne_84 rfl ?_
                refine r_get hX cf_Mo 0 rfl 13 (by decide) fl_Mo_35 rfl d_Mo_gapOfOne_85 ?_
                refine r_iload hX 1 d_Mo_gapOfOne_88 rfl ?_
                refine r_iald hX 4 0 rfl rfl ((97 * (i + (t + 1)) + j) * 3 + 1) rfl (by omega) (by decide) d_Mo_gapOfOne_90 ?_
                refine r_if_ne hX 98 d_Mo_gapOfOne_91 (by decide) (by unfold iR; omega) (fun h91 => ?_) (fun h91 => ?_)
                · refine r_iconstN hX 0 d_Mo_gapOfOne_98 rfl ?_
                  exact rj_0 (by first | exact Or.inl ⟨by omega, by omega⟩ | exact Or.inr ⟨h81, by omega⟩ | (rintro (⟨q1, q2⟩ | ⟨q1, q2⟩) <;> first | omega | contradiction)) J99
                · refine r_iconstN hX 1 d_Mo_gapOfOne_94 rfl ?_
                  refine r_goto hX 99 d_Mo_gapOfOne_95 (by decide) ?_
                  exact rj_1 (by first | exact Or.inl ⟨by omega, by omega⟩ | exact Or.inr ⟨h81, by omega⟩ | (rintro (⟨q1, q2⟩ | ⟨q1, q2⟩) <;> first | omega | contradiction)) J99
  refine r_lv hX (lv' := [(5, .int (iI ((1 : Nat) : Int))), (4, .int (iI ((0 : Nat) : Int))), (3, .int (iI gl)), (2, .int (iI ((j : Nat) : Int))), (1, .int (iI ((i : Nat) : Int))), (0, .ref mo)]) [0, 1, 5, 4, 3, 2] rfl ?_
  refine r_eq (lv2 := [(5, .int (iI ((0 + 1 : Nat) : Int))), (4, .int (iI ((0 : Nat) : Int))), (3, .int (iI gl)), (2, .int (iI ((j : Nat) : Int))), (1, .int (iI ((i : Nat) : Int))), (0, .ref mo)]) (st2 := []) (ws2 := [(mo, .inr (10, [.int (iI cd), .ref ml, .ref mz, .ref ms, .int (iI op), .int (iI mr), .int (iI (bI (ld = true))), .int (iI (bI (pt = true))), .int (iI ((fr : Nat) : Int)), .ref mt, .int (iI ((sn : Nat) : Int)), .ref mb, .ref me, .ref bt, .ref wy, .ref lq, .ref df, .int (iI ((dn : Nat) : Int))])), (ml, .inl (tI, 192, .inl (iA (iN L)))), (mz, .inl (tI, 2, .inl (iA (iN Z)))), (ms, .inl (tI, 676, .inl (iA SC))), (bt, .inl (tI, 28227, .inl (iA T)))]) rfl rfl rfl ?_
  exact L6 _ 0 0 rfl hi (by omega) rfl
