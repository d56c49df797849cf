/-- a contract of a method that returns the reference ra -/
def rCr (l : Launch) (y : MethodName) (cc : ByteArray) (nL : Nat) (ty : FieldType) (rm : Room) (D : va_G) (tys : List (ClassId × FieldType)) (av : List Value) (wc : va_W) (ra : Nat) (w1 : va_W) : Prop :=
  ∀ sz, Met l y (Cond.code y cc nL (some ty) :: rw_ok) rm (va_Pc av (rPre D tys wc sz)) (va_Qr (fun (_ : Unit) => True) (fun _ a t => a = ra ∧ rB D tys (va_A wc sz) w1 t) (va_A wc sz)) rm.cells rm.slots (va_A wc sz)
section RL3
variable {p : Program} {l : Launch} {e : Env} {R : Room} {s : State} {m : MethodId} {args : Array Value} {below : List Frame} {meth : Method} {c : Code} {Q : State → Prop} {cc : ByteArray} {nL : Nat} {own : String} {D : va_G} {tys : List (ClassId × FieldType)} {A : Nat → Prop} {F : rT} {pc : Nat} {lv lv' : List (Nat × Value)} {st : List Value} {ws ws' : va_W} {k n : Nat}
theorem r_tIn (hX : rOK F p l e R s m args below meth c Q cc nL own D tys A) {dflt lo hi : Int} {offs : Array Int} {len : Nat} {x off : Int} (tgt : Nat) (hx9 : iR x) (hd : decode cc pc = .ok (.tableswitch dflt lo hi offs, len)) (h1 : ¬ x < lo) (h2 : ¬ hi < x) (ho : offs[(x - lo).toNat]? = some off) (ht : (pc : Int) + off = (tgt : Int)) (kk : F tgt lv st ws k n) : F pc lv (.int (iI x) :: st) ws k n := by
  obtain ⟨rfl, hx, hb, -⟩ := hX
  intro H locs ls hP hD hS hl
  have e := iI_toInt hx9
  exact lv_tableIn hx hb hd (by rw [e]; exact h1) (by rw [e]; exact h2) (by rw [e]; exact ho) ht (kk H locs ls hP hD hS hl)
theorem r_tOut (hX : rOK F p l e R s m args below meth c Q cc nL own D tys A) {dflt lo hi : Int} {offs : Array Int} {len : Nat} {x : Int} (tgt : Nat) (hx9 : iR x) (hd : decode cc pc = .ok (.tableswitch dflt lo hi offs, len)) (h : x < lo ∨ hi < x) (ht : (pc : Int) + dflt = (tgt : Int)) (kk : F tgt lv st ws k n) : F pc lv (.int (iI x) :: st) ws k n := by
  obtain ⟨rfl, hx, hb, -⟩ := hX
  intro H locs ls hP hD hS hl
  have e := iI_toInt hx9
  exact lv_tableOut hx hb hd (by rw [e]; exact h) ht (kk H locs ls hP hD hS hl)
theorem r_aret {w1 : va_W} {mc ms a : Nat} {C : String} (hX : rOK F p l e R s m args below meth c Q cc nL own D tys A) (hT : rRT Q below (va_Qr (fun (_ : Unit) => True) (fun _ a' t => a' = a ∧ rB D tys A w1 t) A) args s mc ms A meth (some (.object C))) (hw : ws = w1) (hk : k ≤ mc) (hn : n ≤ ms) (hd : decode cc pc = .ok (.areturn, 1)) : F pc lv [.ref a] ws k n := by
  obtain ⟨rfl, hx, hb, -, -, -, -, hK, -⟩ := hX
  obtain ⟨hQ, hr, hlk⟩ := hT
  intro H locs ls hP hD hS hl
  subst hw
  refine W.mono hQ (W.widen hk hn ?_)
  exact W.aret hx hb hr (Or.inl ⟨_, rfl⟩) (Or.inr ⟨_, rfl⟩) (fun t ht hW => ⟨⟨(), a, rfl, trivial, rfl, by rw [ht]; exact hP, va_K.moved hW.alike hK, hD⟩, hS.F ht⟩) hS.2.2 hd hlk
theorem r_call_r {ra : Nat} {w1 : va_W} {mc ms : Nat} {wc wr : va_W} {st0 : List Value} {a9 : Array Value} (hX : rOK F p l e R s m args below meth c Q cc nL own D tys A) (isC isR : List Nat) (hC : isC.map (fun i => ws[i]?) = wc.map some) (hR : isR.map (fun i => ws[i]?) = wr.map some) (hnd : va_nd isR = true) (hdis : ∀ i ∈ isR, i ∉ isC)
    (hrun : ∀ (H : Heap) (locs : List Loc) (ls : Array Slot), va_P D vwCl ws H → va_D A ws → lv_has ls nL lv → va_Run p l e R s m args below meth c H locs k n mc ms (F0 m pc ls st0) st (va_Qr (fun (_ : Unit) => True) (fun _ a t => a = ra ∧ rB D tys (va_A wc H.size) w1 t) (va_A wc H.size) a9) (va_A wc H.size))
    (kk : F (pc + 3) lv (.ref ra :: st) (wr ++ w1) (k + mc) (n + ms)) : F pc lv st0 ws k n := by
  obtain ⟨rfl, hx, hb, hml, ho, hts, hN, hK, hA⟩ := hX
  intro H locs ls hP hD hS hl
  have hF := va_free (wc := wc) hD hS hA isC hC
  refine va_callr (hrun H locs ls hP hD hl) hS (fun q _ h => hF q h) hF (fun u ra' t H1 locs1 ht hvm hw hB hz1 hk1 hS1 => ?_)
  obtain ⟨rfl, hP1, hK1, hD1⟩ := hB
  rw [ht] at hP1
  obtain ⟨hP2, hD2⟩ := va_join (wr := wr) (w1 := w1) hP hD isC isR hC hR hnd hdis hk1 hF hP1 hD1
  exact kk H1 locs1 ls hP2 hD2 hS1 hl
theorem r_invV_r0 {ra : Nat} {w1 : va_W} {wc wr : va_W} {st0 As : List Value} {b : Nat} {ty : FieldType} {y : MethodName} {bytes : ByteArray} {maxL index n9 : Nat} {rm : Room} (hX : rOK F p l e R s m args below meth c Q cc nL own D tys A) (hM : rCr l y bytes maxL ty rm D tys (.ref b :: As) wc ra w1) (C : String) (qb ci : Nat) {T : u_T} {N : Nat} {ty0 : Nat → FieldType} {fs : List Value} (hcf : rCF ci C T N ty0) (hrec : ws[qb]? = some (b, .inr (ci, fs))) (hy : rYN y n9) (hlk : Cond.methodLink own index y ∈ rw_ok) (hi1 : Cond.instanceMethod y ∈ rw_ok) (hi2 : Cond.selects C y y ∈ rw_ok) (hco : Cond.code y bytes maxL (some ty) ∈ rw_ok) (hin : Cond.initialized y.cls ∈ rw_ok) (hr : rm.frames + 1 ≤ R.frames ∧ 8 + (maxL + 11) + rm.locals ≤ R.locals ∧ rm.cells = 0 ∧ rm.slots = 0) (hk9 : k ≤ R.cells) (hn9 : n ≤ R.slots)
    (isC isR : List Nat) (hnC : va_nd isC = true) (hC : isC.map (fun i => ws[i]?) = wc.map some) (hC2 : isC.filterMap (fun i => ws[i]?) = wc) (hR : isR.map (fun i => ws[i]?) = wr.map some) (hnd : va_nd isR = true) (hdis : ∀ i ∈ isR, i ∉ isC) (hnA : As.length = n9) (hst : st0 = As.reverse ++ .ref b :: st) (hW : (st.map fun v => v.category).sum ≤ 8) (hd : decode cc pc = .ok (.invokevirtual index, 3))
    (isP : List Nat) (hnP : va_nd isP = true) {w2 : va_W} (hP2 : isP.map (fun i => (wr ++ w1)[i]?) = w2.map some)
    (kk : F (pc + 3) lv (.ref ra :: st) w2 k n) : F pc lv st0 ws k n := by
  have hX' := hX
  obtain ⟨-, hx, hb, hml, ho, hts, hN, hK, hA⟩ := hX'
  have kk2 : F (pc + 3) lv (.ref ra :: st) (wr ++ w1) (k + rm.cells) (n + rm.slots) := by
    rw [hr.2.2.1, hr.2.2.2]
    exact r_sub hX isP hnP hP2 kk
  refine r_call_r (a9 := ((.ref b :: As)).toArray) hX isC isR hC hR hnd hdis (fun H locs ls hP hD hl => ?_) kk2
  exact va_runV (C := C) (As := As) (rest := st) (n := n9) ⟨hx, hb, hml, ho, hts⟩ (hM H.size) (rCB hts hy hco hin hlk hr.1 hr.2.1 |> fun z => ⟨z, hts _ hi1, hts _ hi2⟩) ⟨(rPreS (As := .ref b :: As) hK hN hP hD isC hnC hC hC2).1, va_recv hK hP hcf.1 hrec, (rPreS (As := .ref b :: As) hK hN hP hD isC hnC hC hC2).2⟩ rfl hnA hl.1 hst (lv_room hW) hd ⟨by rw [hr.2.2.1]; exact hk9, by rw [hr.2.2.2]; exact hn9⟩
end RL3
