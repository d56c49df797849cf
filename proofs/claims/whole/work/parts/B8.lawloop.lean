theorem ia_31 (a : Int) : ∃ z : Nat, z < 32 ∧ iI a &&& iI ((31 : Nat) : Int) = iI ((z : Nat) : Int) := by
  refine ⟨(iI a &&& iI ((31 : Nat) : Int)).toBitVec.toNat, ?_, ?_⟩
  · rw [Int32.toBitVec_and, BitVec.toNat_and]
    exact Nat.lt_of_le_of_lt Nat.and_le_right (by decide)
  · rw [← Int32.toBitVec_inj]
    generalize (iI a &&& iI ((31 : Nat) : Int)).toBitVec = v
    show v = (Int32.ofInt _).toBitVec
    rw [Int32.toBitVec_ofInt]
    simp
set_option maxHeartbeats 8000000 in
set_option maxRecDepth 100000 in
theorem law_loop {F : rT} {p : Program} {l : Launch} {e : Env} {s : State} {m : MethodId} {args : Array Value} {below : List Frame} {meth : Method} {c : Code} {Q : State → Prop} {D : va_G} {tI tJ tZ : ClassId} {A : Nat → Prop} (hX : rOK F p l e room_1 s m args below meth c Q code 8 "RowAlignerLaw" D (tysA tI tJ tZ) A) (hstk : l.stackTraces = false) (hz : tZs s) (h9 : tN9 A s.heap) (rz gr ra qa rb qb pr pa se ou rs ly st9 wc kc cf le rc dr da mo ml mz ms mt mb me bt wy lq df ot sp : Nat) (N : Nat) (P : Nat → Int) (hS : lawS sp N P s A)
    (fin : ∀ (ws : va_W) (k n : Nat) (lv : List (Nat × Value)), k ≤ 1072 → n ≤ 125047 → F 1216 lv [.int (iI ((1 : Nat) : Int))] ws k n) :
    ∀ (w ii k9 n9 : Nat), N - ii ≤ w → k9 + (N - ii) / 5 ≤ 1072 → n9 + 6 * ((N - ii) / 5) ≤ 125047 → ii ≤ 4000 → lawN F rz gr ra qa rb qb pr pa se ou rs ly st9 wc kc cf le rc dr da mo ml mz ms mt mb me bt wy lq df ot sp tI tJ tZ 23 [(4, .int (iI ((ii : Nat) : Int))), (3, .ref ot), (2, .ref mo), (1, .ref rz), (0, .ref sp)] k9 n9 := by
  have hN := hS.2.2.2
  intro w
  induction w using Nat.strongRecOn with
  | _ w ih =>
    intro ii k9 n9 hw hk hn hi4 L Z SC op mr ld fr pt T best si sj x1 x2 x3 x4 x5 x6 ln ea eb d wn xf cw K LE RC dn DD cd md MB ME B KW Y OT hI hd hmd hY hJ
    show F 23 [(4, .int (iI ((ii : Nat) : Int))), (3, .ref ot), (2, .ref mo), (1, .ref rz), (0, .ref sp)] [] [(rz, .inr (0, [.ref gr, .ref se, .ref ly, .ref wc, .ref cf, .ref dr, .int (iI (bI (ld = true))), .int (iI (bI (wn = true))), .int (iI (bI (xf = true))), .long cw])), (gr, .inr (1, [.ref ra, .ref rb, .ref pr])), (ra, .inr (2, [.ref qa, .int (iI ((Z 0 : Nat) : Int))])), (qa, .inl (tI, 96, .inl (iA (iN L)))), (rb, .inr (2, [.ref qb, .int (iI ((Z 1 : Nat) : Int))])), (qb, .inl (tI, 96, .inl (iA (iN (fun k => L (96 + k)))))), (pr, .inr (3, [.ref pa, .int (iI op), .int (iI mr)])), (pa, .inl (tI, 676, .inl (iA SC))), (se, .inr (4, [.ref gr, .ref ou, .ref rs, .int (iI ((fr : Nat) : Int)), .int (iI (bI (pt = true))), .int (iI best), .int (iI ((si : Nat) : Int)), .int (iI ((sj : Nat) : Int))])), (ou, .inr (5, [.int (iI x1), .int (iI x2), .int (iI x3), .int (iI x4), .int (iI x5), .int (iI x6)])), (rs, .inl (tI, 28227, .inl (iA T))), (ly, .inr (6, [.ref st9, .int (iI ((ln : Nat) : Int)), .int (iI ((si : Nat) : Int)), .int (iI ((sj : Nat) : Int)), .int (iI ((ea : Nat) : Int)), .int (iI ((eb : Nat) : Int))])), (st9, .inl (tI, 192, .inl (iA (iN d)))), (wc, .inr (7, [.ref kc])), (kc, .inl (tJ, 582, .inr (.inl K))), (cf, .inr (8, [.ref le, .ref rc])), (le, .inl (tI, 97, .inl (iA LE))), (rc, .inl (tZ, 582, .inl (iA (iT RC)))), (dr, .inr (9, [.ref da, .int (iI ((dn : Nat) : Int))])), (da, .inl (tI, 200, .inl (iA (iN DD)))), (mo, .inr (10, [.int (iI cd), .ref ml, .ref mz, .ref ms, .int (iI op), .int (iI mr), .int (iI (bI (ld = true))), .int (iI (bI (pt = true))), .int (iI ((fr : Nat) : Int)), .ref mt, .int (iI ((ln : Nat) : Int)), .ref mb, .ref me, .ref bt, .ref wy, .ref lq, .ref df, .int (iI ((dn : Nat) : Int))])), (ml, .inl (tI, 192, .inl (iA (iN L)))), (mz, .inl (tI, 2, .inl (iA (iN Z)))), (ms, .inl (tI, 676, .inl (iA SC))), (mt, .inl (tI, 192, .inl (iA (iN md)))), (mb, .inl (tI, 2, .inl (iA (iN MB)))), (me, .inl (tI, 2, .inl (iA (iN ME)))), (bt, .inl (tI, 28227, .inl (iA B))), (wy, .inl (tJ, 28227, .inr (.inl KW))), (lq, .inl (tI, 28227, .inl (iA Y))), (df, .inl (tI, 200, .inl (iA (iN DD)))), (ot, .inl (tJ, 1, .inr (.inl OT)))] k9 n9
    refine r_iload hX 0 d_Lw_law_23 rfl ?_
    refine r_aload_n hX 4 d_Lw_law_25 rfl ?_
    refine r_slen hX hS d_Lw_law_26 ?_
    refine r_iconstN hX 5 d_Lw_law_27 rfl ?_
    refine r_isub hX d_Lw_law_28 ?_
    refine r_icmp_gt hX 1215 d_Lw_law_29 (by decide) (by unfold iR; omega) (by unfold iR; omega) (fun h29 => ?_) (fun h29 => ?_)
    · refine r_iconstN hX 1 d_Lw_law_1215 rfl ?_
      exact fin _ _ _ _ (by omega) (by omega)
    have hii : ii + 5 ≤ N := by omega
    have next : lawN F rz gr ra qa rb qb pr pa se ou rs ly st9 wc kc cf le rc dr da mo ml mz ms mt mb me bt wy lq df ot sp tI tJ tZ 1209 [(4, .int (iI ((ii : Nat) : Int))), (3, .ref ot), (2, .ref mo), (1, .ref rz), (0, .ref sp)] (k9 + 1) (n9 + 6) := by
      intro L Z SC op mr ld fr pt T best si sj x1 x2 x3 x4 x5 x6 ln ea eb d wn xf cw K LE RC dn DD cd md MB ME B KW Y OT hI hd hmd hY hJ
      show F 1209 [(4, .int (iI ((ii : Nat) : Int))), (3, .ref ot), (2, .ref mo), (1, .ref rz), (0, .ref sp)] [] [(rz, .inr (0, [.ref gr, .ref se, .ref ly, .ref wc, .ref cf, .ref dr, .int (iI (bI (ld = true))), .int (iI (bI (wn = true))), .int (iI (bI (xf = true))), .long cw])), (gr, .inr (1, [.ref ra, .ref rb, .ref pr])), (ra, .inr (2, [.ref qa, .int (iI ((Z 0 : Nat) : Int))])), (qa, .inl (tI, 96, .inl (iA (iN L)))), (rb, .inr (2, [.ref qb, .int (iI ((Z 1 : Nat) : Int))])), (qb, .inl (tI, 96, .inl (iA (iN (fun k => L (96 + k)))))), (pr, .inr (3, [.ref pa, .int (iI op), .int (iI mr)])), (pa, .inl (tI, 676, .inl (iA SC))), (se, .inr (4, [.ref gr, .ref ou, .ref rs, .int (iI ((fr : Nat) : Int)), .int (iI (bI (pt = true))), .int (iI best), .int (iI ((si : Nat) : Int)), .int (iI ((sj : Nat) : Int))])), (ou, .inr (5, [.int (iI x1), .int (iI x2), .int (iI x3), .int (iI x4), .int (iI x5), .int (iI x6)])), (rs, .inl (tI, 28227, .inl (iA T))), (ly, .inr (6, [.ref st9, .int (iI ((ln : Nat) : Int)), .int (iI ((si : Nat) : Int)), .int (iI ((sj : Nat) : Int)), .int (iI ((ea : Nat) : Int)), .int (iI ((eb : Nat) : Int))])), (st9, .inl (tI, 192, .inl (iA (iN d)))), (wc, .inr (7, [.ref kc])), (kc, .inl (tJ, 582, .inr (.inl K))), (cf, .inr (8, [.ref le, .ref rc])), (le, .inl (tI, 97, .inl (iA LE))), (rc, .inl (tZ, 582, .inl (iA (iT RC)))), (dr, .inr (9, [.ref da, .int (iI ((dn : Nat) : Int))])), (da, .inl (tI, 200, .inl (iA (iN DD)))), (mo, .inr (10, [.int (iI cd), .ref ml, .ref mz, .ref ms, .int (iI op), .int (iI mr), .int (iI (bI (ld = true))), .int (iI (bI (pt = true))), .int (iI ((fr : Nat) : Int)), .ref mt, .int (iI ((ln : Nat) : Int)), .ref mb, .ref me, .ref bt, .ref wy, .ref lq, .ref df, .int (iI ((dn : Nat) : Int))])), (ml, .inl (tI, 192, .inl (iA (iN L)))), (mz, .inl (tI, 2, .inl (iA (iN Z)))), (ms, .inl (tI, 676, .inl (iA SC))), (mt, .inl (tI, 192, .inl (iA (iN md)))), (mb, .inl (tI, 2, .inl (iA (iN MB)))), (me, .inl (tI, 2, .inl (iA (iN ME)))), (bt, .inl (tI, 28227, .inl (iA B))), (wy, .inl (tJ, 28227, .inr (.inl KW))), (lq, .inl (tI, 28227, .inl (iA Y))), (df, .inl (tI, 200, .inl (iA (iN DD)))), (ot, .inl (tJ, 1, .inr (.inl OT)))] (k9 + 1) (n9 + 6)
      refine r_iinc hX (lv' := [(4, .int (iI (((ii : Nat) : Int) + 5))), (3, .ref ot), (2, .ref mo), (1, .ref rz), (0, .ref sp)]) 0 d_Lw_law_1209 rfl (by decide) rfl ?_
      refine r_goto hX 23 d_Lw_law_1212 (by decide) ?_
      refine r_eq (lv2 := [(4, .int (iI ((ii + 5 : Nat) : Int))), (3, .ref ot), (2, .ref mo), (1, .ref rz), (0, .ref sp)]) (st2 := []) (ws2 := [(rz, .inr (0, [.ref gr, .ref se, .ref ly, .ref wc, .ref cf, .ref dr, .int (iI (bI (ld = true))), .int (iI (bI (wn = true))), .int (iI (bI (xf = true))), .long cw])), (gr, .inr (1, [.ref ra, .ref rb, .ref pr])), (ra, .inr (2, [.ref qa, .int (iI ((Z 0 : Nat) : Int))])), (qa, .inl (tI, 96, .inl (iA (iN L)))), (rb, .inr (2, [.ref qb, .int (iI ((Z 1 : Nat) : Int))])), (qb, .inl (tI, 96, .inl (iA (iN (fun k => L (96 + k)))))), (pr, .inr (3, [.ref pa, .int (iI op), .int (iI mr)])), (pa, .inl (tI, 676, .inl (iA SC))), (se, .inr (4, [.ref gr, .ref ou, .ref rs, .int (iI ((fr : Nat) : Int)), .int (iI (bI (pt = true))), .int (iI best), .int (iI ((si : Nat) : Int)), .int (iI ((sj : Nat) : Int))])), (ou, .inr (5, [.int (iI x1), .int (iI x2), .int (iI x3), .int (iI x4), .int (iI x5), .int (iI x6)])), (rs, .inl (tI, 28227, .inl (iA T))), (ly, .inr (6, [.ref st9, .int (iI ((ln : Nat) : Int)), .int (iI ((si : Nat) : Int)), .int (iI ((sj : Nat) : Int)), .int (iI ((ea : Nat) : Int)), .int (iI ((eb : Nat) : Int))])), (st9, .inl (tI, 192, .inl (iA (iN d)))), (wc, .inr (7, [.ref kc])), (kc, .inl (tJ, 582, .inr (.inl K))), (cf, .inr (8, [.ref le, .ref rc])), (le, .inl (tI, 97, .inl (iA LE))), (rc, .inl (tZ, 582, .inl (iA (iT RC)))), (dr, .inr (9, [.ref da, .int (iI ((dn : Nat) : Int))])), (da, .inl (tI, 200, .inl (iA (iN DD)))), (mo, .inr (10, [.int (iI cd), .ref ml, .ref mz, .ref ms, .int (iI op), .int (iI mr), .int (iI (bI (ld = true))), .int (iI (bI (pt = true))), .int (iI ((fr : Nat) : Int)), .ref mt, .int (iI ((ln : Nat) : Int)), .ref mb, .ref me, .ref bt, .ref wy, .ref lq, .ref df, .int (iI ((dn : Nat) : Int))])), (ml, .inl (tI, 192, .inl (iA (iN L)))), (mz, .inl (tI, 2, .inl (iA (iN Z)))), (ms, .inl (tI, 676, .inl (iA SC))), (mt, .inl (tI, 192, .inl (iA (iN md)))), (mb, .inl (tI, 2, .inl (iA (iN MB)))), (me, .inl (tI, 2, .inl (iA (iN ME)))), (bt, .inl (tI, 28227, .inl (iA B))), (wy, .inl (tJ, 28227, .inr (.inl KW))), (lq, .inl (tI, 28227, .inl (iA Y))), (df, .inl (tI, 200, .inl (iA (iN DD)))), (ot, .inl (tJ, 1, .inr (.inl OT)))]) (by rw [show ((ii : Nat) : Int) + 5 = ((ii + 5 : Nat) : Int) by omega]) rfl rfl ?_
      exact ih (N - (ii + 5)) (by omega) (ii + 5) (k9 + 1) (n9 + 6) (Nat.le_refl _) (by omega) (by omega) (by omega) L Z SC op mr ld fr pt T best si sj x1 x2 x3 x4 x5 x6 ln ea eb d wn xf cw K LE RC dn DD cd md MB ME B KW Y OT hI hd hmd hY hJ
    refine r_aload_n hX 4 d_Lw_law_32 rfl ?_
    refine r_iload hX 0 d_Lw_law_33 rfl ?_
    refine r_sald hX hS (j := ii) (by omega) d_Lw_law_35 ?_
    refine r_bipushN hX 31 d_Lw_law_36 rfl (by decide) ?_
    obtain ⟨z, hz32, ez⟩ := ia_31 (P ii)
    refine r_iand hX ((z : Nat) : Int) ez d_Lw_law_38 ?_
    by_cases c0 : z = 0
    · subst c0
      refine r_tIn hX 132 (by unfold iR; decide) d_Lw_law_39 (by decide) (by decide) rfl (by decide) ?_
      exact law_type hX hstk hz h9 rz gr ra qa rb qb pr pa se ou rs ly st9 wc kc cf le rc dr da mo ml mz ms mt mb me bt wy lq df ot sp N ii k9 n9 P hS hii (by omega) (by omega) next L Z SC op mr ld fr pt T best si sj x1 x2 x3 x4 x5 x6 ln ea eb d wn xf cw K LE RC dn DD cd md MB ME B KW Y OT hI hd hmd hY hJ
    by_cases c1 : z = 1
    · subst c1
      refine r_tIn hX 244 (by unfold iR; decide) d_Lw_law_39 (by decide) (by decide) rfl (by decide) ?_
      exact law_cut hX hstk hz h9 rz gr ra qa rb qb pr pa se ou rs ly st9 wc kc cf le rc dr da mo ml mz ms mt mb me bt wy lq df ot sp N ii k9 n9 P hS hii (by omega) (by omega) next L Z SC op mr ld fr pt T best si sj x1 x2 x3 x4 x5 x6 ln ea eb d wn xf cw K LE RC dn DD cd md MB ME B KW Y OT hI hd hmd hY hJ
    by_cases c2 : z = 2
    · subst c2
      refine r_tIn hX 292 (by unfold iR; decide) d_Lw_law_39 (by decide) (by decide) rfl (by decide) ?_
      exact law_turn hX hstk hz h9 rz gr ra qa rb qb pr pa se ou rs ly st9 wc kc cf le rc dr da mo ml mz ms mt mb me bt wy lq df ot sp N ii k9 n9 P hS hii (by omega) (by omega) next L Z SC op mr ld fr pt T best si sj x1 x2 x3 x4 x5 x6 ln ea eb d wn xf cw K LE RC dn DD cd md MB ME B KW Y OT hI hd hmd hY hJ
    by_cases c3 : z = 3
    · subst c3
      refine r_tIn hX 328 (by unfold iR; decide) d_Lw_law_39 (by decide) (by decide) rfl (by decide) ?_
      exact law_letter hX hstk hz h9 rz gr ra qa rb qb pr pa se ou rs ly st9 wc kc cf le rc dr da mo ml mz ms mt mb me bt wy lq df ot sp N ii k9 n9 P hS hii (by omega) (by omega) next L Z SC op mr ld fr pt T best si sj x1 x2 x3 x4 x5 x6 ln ea eb d wn xf cw K LE RC dn DD cd md MB ME B KW Y OT hI hd hmd hY hJ
    by_cases c4 : z = 4
    · subst c4
      refine r_tIn hX 396 (by unfold iR; decide) d_Lw_law_39 (by decide) (by decide) rfl (by decide) ?_
      exact law_size hX hstk hz h9 rz gr ra qa rb qb pr pa se ou rs ly st9 wc kc cf le rc dr da mo ml mz ms mt mb me bt wy lq df ot sp N ii k9 n9 P hS hii (by omega) (by omega) next L Z SC op mr ld fr pt T best si sj x1 x2 x3 x4 x5 x6 ln ea eb d wn xf cw K LE RC dn DD cd md MB ME B KW Y OT hI hd hmd hY hJ
    by_cases c5 : z = 5
    · subst c5
      refine r_tIn hX 452 (by unfold iR; decide) d_Lw_law_39 (by decide) (by decide) rfl (by decide) ?_
      exact law_score hX hstk hz h9 rz gr ra qa rb qb pr pa se ou rs ly st9 wc kc cf le rc dr da mo ml mz ms mt mb me bt wy lq df ot sp N ii k9 n9 P hS hii (by omega) (by omega) next L Z SC op mr ld fr pt T best si sj x1 x2 x3 x4 x5 x6 ln ea eb d wn xf cw K LE RC dn DD cd md MB ME B KW Y OT hI hd hmd hY hJ
    by_cases c6 : z = 6
    · subst c6
      refine r_tIn hX 512 (by unfold iR; decide) d_Lw_law_39 (by decide) (by decide) rfl (by decide) ?_
      exact law_scores hX hstk hz h9 rz gr ra qa rb qb pr pa se ou rs ly st9 wc kc cf le rc dr da mo ml mz ms mt mb me bt wy lq df ot sp N ii k9 n9 P hS hii (by omega) (by omega) next L Z SC op mr ld fr pt T best si sj x1 x2 x3 x4 x5 x6 ln ea eb d wn xf cw K LE RC dn DD cd md MB ME B KW Y OT hI hd hmd hY hJ
    by_cases c7 : z = 7
    · subst c7
      refine r_tIn hX 560 (by unfold iR; decide) d_Lw_law_39 (by decide) (by decide) rfl (by decide) ?_
      exact law_costs hX hstk hz h9 rz gr ra qa rb qb pr pa se ou rs ly st9 wc kc cf le rc dr da mo ml mz ms mt mb me bt wy lq df ot sp N ii k9 n9 P hS hii (by omega) (by omega) next L Z SC op mr ld fr pt T best si sj x1 x2 x3 x4 x5 x6 ln ea eb d wn xf cw K LE RC dn DD cd md MB ME B KW Y OT hI hd hmd hY hJ
    by_cases c8 : z = 8
    · subst c8
      refine r_tIn hX 608 (by unfold iR; decide) d_Lw_law_39 (by decide) (by decide) rfl (by decide) ?_
      exact law_whole hX hstk hz h9 rz gr ra qa rb qb pr pa se ou rs ly st9 wc kc cf le rc dr da mo ml mz ms mt mb me bt wy lq df ot sp N ii k9 n9 P hS hii (by omega) (by omega) next L Z SC op mr ld fr pt T best si sj x1 x2 x3 x4 x5 x6 ln ea eb d wn xf cw K LE RC dn DD cd md MB ME B KW Y OT hI hd hmd hY hJ
    by_cases c9 : z = 9
    · subst c9
      refine r_tIn hX 664 (by unfold iR; decide) d_Lw_law_39 (by decide) (by decide) rfl (by decide) ?_
      exact law_parts hX hstk hz h9 rz gr ra qa rb qb pr pa se ou rs ly st9 wc kc cf le rc dr da mo ml mz ms mt mb me bt wy lq df ot sp N ii k9 n9 P hS hii (by omega) (by omega) next L Z SC op mr ld fr pt T best si sj x1 x2 x3 x4 x5 x6 ln ea eb d wn xf cw K LE RC dn DD cd md MB ME B KW Y OT hI hd hmd hY hJ
    by_cases c10 : z = 10
    · subst c10
      refine r_tIn hX 677 (by unfold iR; decide) d_Lw_law_39 (by decide) (by decide) rfl (by decide) ?_
      exact law_steps hX hstk hz h9 rz gr ra qa rb qb pr pa se ou rs ly st9 wc kc cf le rc dr da mo ml mz ms mt mb me bt wy lq df ot sp N ii k9 n9 P hS hii (by omega) (by omega) next L Z SC op mr ld fr pt T best si sj x1 x2 x3 x4 x5 x6 ln ea eb d wn xf cw K LE RC dn DD cd md MB ME B KW Y OT hI hd hmd hY hJ
    by_cases c11 : z = 11
    · subst c11
      refine r_tIn hX 721 (by unfold iR; decide) d_Lw_law_39 (by decide) (by decide) rfl (by decide) ?_
      exact law_step hX hstk hz h9 rz gr ra qa rb qb pr pa se ou rs ly st9 wc kc cf le rc dr da mo ml mz ms mt mb me bt wy lq df ot sp N ii k9 n9 P hS hii (by omega) (by omega) next L Z SC op mr ld fr pt T best si sj x1 x2 x3 x4 x5 x6 ln ea eb d wn xf cw K LE RC dn DD cd md MB ME B KW Y OT hI hd hmd hY hJ
    by_cases c12 : z = 12
    · subst c12
      refine r_tIn hX 777 (by unfold iR; decide) d_Lw_law_39 (by decide) (by decide) rfl (by decide) ?_
      exact law_place hX hstk hz h9 rz gr ra qa rb qb pr pa se ou rs ly st9 wc kc cf le rc dr da mo ml mz ms mt mb me bt wy lq df ot sp N ii k9 n9 P hS hii (by omega) (by omega) next L Z SC op mr ld fr pt T best si sj x1 x2 x3 x4 x5 x6 ln ea eb d wn xf cw K LE RC dn DD cd md MB ME B KW Y OT hI hd hmd hY hJ
    by_cases c13 : z = 13
    · subst c13
      refine r_tIn hX 861 (by unfold iR; decide) d_Lw_law_39 (by decide) (by decide) rfl (by decide) ?_
      exact law_count hX hstk hz h9 rz gr ra qa rb qb pr pa se ou rs ly st9 wc kc cf le rc dr da mo ml mz ms mt mb me bt wy lq df ot sp N ii k9 n9 P hS hii (by omega) (by omega) next L Z SC op mr ld fr pt T best si sj x1 x2 x3 x4 x5 x6 ln ea eb d wn xf cw K LE RC dn DD cd md MB ME B KW Y OT hI hd hmd hY hJ
    by_cases c14 : z = 14
    · subst c14
      refine r_tIn hX 917 (by unfold iR; decide) d_Lw_law_39 (by decide) (by decide) rfl (by decide) ?_
      exact law_run hX hstk hz h9 rz gr ra qa rb qb pr pa se ou rs ly st9 wc kc cf le rc dr da mo ml mz ms mt mb me bt wy lq df ot sp N ii k9 n9 P hS hii (by omega) (by omega) next L Z SC op mr ld fr pt T best si sj x1 x2 x3 x4 x5 x6 ln ea eb d wn xf cw K LE RC dn DD cd md MB ME B KW Y OT hI hd hmd hY hJ
    by_cases c15 : z = 15
    · subst c15
      refine r_tIn hX 985 (by unfold iR; decide) d_Lw_law_39 (by decide) (by decide) rfl (by decide) ?_
      exact law_ways hX hstk hz h9 rz gr ra qa rb qb pr pa se ou rs ly st9 wc kc cf le rc dr da mo ml mz ms mt mb me bt wy lq df ot sp N ii k9 n9 P hS hii (by omega) (by omega) next L Z SC op mr ld fr pt T best si sj x1 x2 x3 x4 x5 x6 ln ea eb d wn xf cw K LE RC dn DD cd md MB ME B KW Y OT hI hd hmd hY hJ
    by_cases c16 : z = 16
    · subst c16
      refine r_tIn hX 1028 (by unfold iR; decide) d_Lw_law_39 (by decide) (by decide) rfl (by decide) ?_
      exact law_crossing hX hstk hz h9 rz gr ra qa rb qb pr pa se ou rs ly st9 wc kc cf le rc dr da mo ml mz ms mt mb me bt wy lq df ot sp N ii k9 n9 P hS hii (by omega) (by omega) next L Z SC op mr ld fr pt T best si sj x1 x2 x3 x4 x5 x6 ln ea eb d wn xf cw K LE RC dn DD cd md MB ME B KW Y OT hI hd hmd hY hJ
    by_cases c17 : z = 17
    · subst c17
      refine r_tIn hX 1084 (by unfold iR; decide) d_Lw_law_39 (by decide) (by decide) rfl (by decide) ?_
      exact law_draw hX hstk hz h9 rz gr ra qa rb qb pr pa se ou rs ly st9 wc kc cf le rc dr da mo ml mz ms mt mb me bt wy lq df ot sp N ii k9 n9 P hS hii (by omega) (by omega) next L Z SC op mr ld fr pt T best si sj x1 x2 x3 x4 x5 x6 ln ea eb d wn xf cw K LE RC dn DD cd md MB ME B KW Y OT hI hd hmd hY hJ
    by_cases c18 : z = 18
    · subst c18
      refine r_tIn hX 1140 (by unfold iR; decide) d_Lw_law_39 (by decide) (by decide) rfl (by decide) ?_
      exact law_wipe hX hstk hz h9 rz gr ra qa rb qb pr pa se ou rs ly st9 wc kc cf le rc dr da mo ml mz ms mt mb me bt wy lq df ot sp N ii k9 n9 P hS hii (by omega) (by omega) next L Z SC op mr ld fr pt T best si sj x1 x2 x3 x4 x5 x6 ln ea eb d wn xf cw K LE RC dn DD cd md MB ME B KW Y OT hI hd hmd hY hJ
    by_cases c19 : z = 19
    · subst c19
      refine r_tIn hX 1153 (by unfold iR; decide) d_Lw_law_39 (by decide) (by decide) rfl (by decide) ?_
      exact law_worth hX hstk hz h9 rz gr ra qa rb qb pr pa se ou rs ly st9 wc kc cf le rc dr da mo ml mz ms mt mb me bt wy lq df ot sp N ii k9 n9 P hS hii (by omega) (by omega) next L Z SC op mr ld fr pt T best si sj x1 x2 x3 x4 x5 x6 ln ea eb d wn xf cw K LE RC dn DD cd md MB ME B KW Y OT hI hd hmd hY hJ
    refine r_tOut hX 1209 (by unfold iR; omega) d_Lw_law_39 (Or.inr (by omega)) (by decide) ?_
    refine r_widen hX (Nat.le_add_right k9 1) (Nat.le_add_right n9 6) ?_
    exact next L Z SC op mr ld fr pt T best si sj x1 x2 x3 x4 x5 x6 ln ea eb d wn xf cw K LE RC dn DD cd md MB ME B KW Y OT hI hd hmd hY hJ
