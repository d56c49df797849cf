/-- like rW, but the world's cells are only read: the free set A holds new addresses alone -/
def qW (p : Program) (l : Launch) (e : Env) (R : Room) (s : State) (m : MethodId) (args : Array Value) (below : List Frame) (meth : Method) (c : Code) (Q : State → Prop) (nL : Nat) (D : va_G) (A : Nat → Prop) : rT := fun pc lv st ws k n =>
  ∀ (H : Heap) (locs : List Loc) (ls : Array Slot), va_P D vwCl ws H → va_D (fun _ => True) ws → va_S A s.heap H locs → lv_has ls nL lv → W p l e R s m args below meth c H locs k n Q (F0 m pc ls st)
def qOK (F : rT) (p : Program) (l : Launch) (e : Env) (R : Room) (s : State) (m : MethodId) (args : Array Value) (below : List Frame) (meth : Method) (c : Code) (Q : State → Prop) (cc : ByteArray) (nL : Nat) (own : String) (D : va_G) (tys : List (ClassId × FieldType)) (A : Nat → Prop) : Prop :=
  F = qW p l e R s m args below meth c Q nL D A ∧ p.tables.exec = Jvm.exec ∧ c.code = cc ∧ c.maxLocals = nL ∧ s.vm.findClass own = some m.cls ∧ (∀ w ∈ rw_ok, w.before args s = true) ∧ rNest s ∧ va_K D vwCl tys s ∧ (∀ q : Nat, s.heap.size ≤ q ↔ A q)
section RLQ
variable {p : Program} {l : Launch} {e : Env} {R : Room} {s : State} {m : MethodId} {args : Array Value} {below : List Frame} {meth : Method} {c : Code} {Q : State → Prop} {cc : ByteArray} {nL : Nat} {own : String} {D : va_G} {tys : List (ClassId × FieldType)} {A : Nat → Prop} {F : rT} {pc : Nat} {lv lv' : List (Nat × Value)} {st : List Value} {ws ws' : va_W} {k n : Nat}
theorem q_lv (hX : qOK F p l e R s m args below meth c Q cc nL own D tys A) (ks : List Nat) (h : lv_pick lv ks = lv') (kk : F pc lv' st ws k n) : F pc lv st ws k n := by
  obtain ⟨rfl, -⟩ := hX
  intro H locs ls hP hD hS hl
  exact kk H locs ls hP hD hS (lv_sub hl ks h)
theorem q_widen (hX : qOK F p l e R s m args below meth c Q cc nL own D tys A) {k' n' : Nat} (h1 : k ≤ k') (h2 : n ≤ n') (kk : F pc lv st ws k' n') : F pc lv st ws k n := by
  obtain ⟨rfl, -⟩ := hX
  intro H locs ls hP hD hS hl
  exact W.widen h1 h2 (kk H locs ls hP hD hS hl)
theorem q_iconst (hX : qOK F p l e R s m args below meth c Q cc nL own D tys A) {a : Int} (hd : decode cc pc = .ok (.iconst a, 1)) (kk : F (pc + 1) lv (.int (iI a) :: st) ws k n) : F pc lv st ws k n := by
  obtain ⟨rfl, hx, hb, -⟩ := hX
  intro H locs ls hP hD hS hl
  exact lv_iconst (v := iI a) hx hb hd rfl (kk H locs ls hP hD hS hl)
theorem q_bipush (hX : qOK F p l e R s m args below meth c Q cc nL own D tys A) {a : Int} (hd : decode cc pc = .ok (.bipush a, 2)) (hv : (Int8.ofInt a).toInt32 = iI a) (kk : F (pc + 2) lv (.int (iI a) :: st) ws k n) : F pc lv st ws k n := by
  obtain ⟨rfl, hx, hb, -⟩ := hX
  intro H locs ls hP hD hS hl
  exact lv_bipush (v := iI a) hx hb hd hv (kk H locs ls hP hD hS hl)
theorem q_sipush (hX : qOK F p l e R s m args below meth c Q cc nL own D tys A) {a : Int} (hd : decode cc pc = .ok (.sipush a, 3)) (hv : (Int16.ofInt a).toInt32 = iI a) (kk : F (pc + 3) lv (.int (iI a) :: st) ws k n) : F pc lv st ws k n := by
  obtain ⟨rfl, hx, hb, -⟩ := hX
  intro H locs ls hP hD hS hl
  exact lv_sipush (v := iI a) hx hb hd hv (kk H locs ls hP hD hS hl)
theorem q_ldc (hX : qOK F p l e R s m args below meth c Q cc nL own D tys A) (a : Int) {index : Nat} {v : Int32} (hw : Cond.constant own index v ∈ rw_ok) (hv : v = iI a) (hd : decode cc pc = .ok (.ldc index, 2)) (kk : F (pc + 2) lv (.int (iI a) :: st) ws k n) : F pc lv st ws k n := by
  obtain ⟨rfl, hx, hb, -, ho, hts, -⟩ := hX
  intro H locs ls hP hD hS hl
  subst hv
  exact lv_ldc hx hb ho (hts _ hw) hd (kk H locs ls hP hD hS hl)
theorem q_ldc2 (hX : qOK F p l e R s m args below meth c Q cc nL own D tys A) {index : Nat} {v : Int64} (hw : Cond.constantLong own index v ∈ rw_ok) (hd : decode cc pc = .ok (.ldc2_w index, 3)) (kk : F (pc + 3) lv (.long v :: st) ws k n) : F pc lv st ws k n := by
  obtain ⟨rfl, hx, hb, -, ho, hts, -⟩ := hX
  intro H locs ls hP hD hS hl
  exact lv_ldc2 hx hb ho (hts _ hw) hd (kk H locs ls hP hD hS hl)
theorem q_lconst (hX : qOK F p l e R s m args below meth c Q cc nL own D tys A) {a : Fin 2} {v : Int64} (hd : decode cc pc = .ok (.lconst a, 1)) (hv : Int64.ofNat (a : Nat) = v) (kk : F (pc + 1) lv (.long v :: st) ws k n) : F pc lv st ws k n := by
  obtain ⟨rfl, hx, hb, -⟩ := hX
  intro H locs ls hP hD hS hl
  exact lv_lconst hx hb hd hv (kk H locs ls hP hD hS hl)
theorem q_iload_n (hX : qOK F p l e R s m args below meth c Q cc nL own D tys A) {i : Fin 4} (j : Nat) {x : Int32} (hd : decode cc pc = .ok (.iload_n i, 1)) (hj : lv[j]? = some ((i : Nat), .int x)) (kk : F (pc + 1) lv (.int x :: st) ws k n) : F pc lv st ws k n := by
  obtain ⟨rfl, hx, hb, -⟩ := hX
  intro H locs ls hP hD hS hl
  exact lv_iload_n hx hb hd rfl (lv_at hl j hj) (kk H locs ls hP hD hS hl)
theorem q_iload (hX : qOK F p l e R s m args below meth c Q cc nL own D tys A) {i : Nat} (j : Nat) {x : Int32} (hd : decode cc pc = .ok (.iload i, 2)) (hj : lv[j]? = some (i, .int x)) (kk : F (pc + 2) lv (.int x :: st) ws k n) : F pc lv st ws k n := by
  obtain ⟨rfl, hx, hb, -⟩ := hX
  intro H locs ls hP hD hS hl
  exact lv_iload hx hb hd (lv_at hl j hj) (kk H locs ls hP hD hS hl)
theorem q_istore_n (hX : qOK F p l e R s m args below meth c Q cc nL own D tys A) {i0 : Fin 4} {i : Nat} {x : Int32} (hd : decode cc pc = .ok (.istore_n i0, 1)) (hi : (i0 : Nat) = i) (hn : i < nL) (hl : (i, Value.int x) :: lv.filter (fun q => !(q.1 == i) && !(q.1 + 1 == i && q.2.category == 2)) = lv') (kk : F (pc + 1) lv' st ws k n) : F pc lv (.int x :: st) ws k n := by
  obtain ⟨rfl, hx, hb, -⟩ := hX
  intro H locs ls hP hD hS h9
  exact lv_istore_n hx hb hd hi h9 hn hl (fun ls' h8 => kk H locs ls' hP hD hS h8)
theorem q_istore (hX : qOK F p l e R s m args below meth c Q cc nL own D tys A) {i : Nat} {x : Int32} (hd : decode cc pc = .ok (.istore i, 2)) (hn : i < nL) (hl : (i, Value.int x) :: lv.filter (fun q => !(q.1 == i) && !(q.1 + 1 == i && q.2.category == 2)) = lv') (kk : F (pc + 2) lv' st ws k n) : F pc lv (.int x :: st) ws k n := by
  obtain ⟨rfl, hx, hb, -⟩ := hX
  intro H locs ls hP hD hS h9
  exact lv_istore hx hb hd h9 hn hl (fun ls' h8 => kk H locs ls' hP hD hS h8)
theorem q_lload_n (hX : qOK F p l e R s m args below meth c Q cc nL own D tys A) {i : Fin 4} (j : Nat) {x : Int64} (hd : decode cc pc = .ok (.lload_n i, 1)) (hj : lv[j]? = some ((i : Nat), .long x)) (kk : F (pc + 1) lv (.long x :: st) ws k n) : F pc lv st ws k n := by
  obtain ⟨rfl, hx, hb, -⟩ := hX
  intro H locs ls hP hD hS hl
  exact lv_lload_n hx hb hd rfl (lv_at hl j hj) (kk H locs ls hP hD hS hl)
theorem q_lload (hX : qOK F p l e R s m args below meth c Q cc nL own D tys A) {i : Nat} (j : Nat) {x : Int64} (hd : decode cc pc = .ok (.lload i, 2)) (hj : lv[j]? = some (i, .long x)) (kk : F (pc + 2) lv (.long x :: st) ws k n) : F pc lv st ws k n := by
  obtain ⟨rfl, hx, hb, -⟩ := hX
  intro H locs ls hP hD hS hl
  exact lv_lload hx hb hd (lv_at hl j hj) (kk H locs ls hP hD hS hl)
theorem q_lstore_n (hX : qOK F p l e R s m args below meth c Q cc nL own D tys A) {i0 : Fin 4} {i : Nat} {x : Int64} (hd : decode cc pc = .ok (.lstore_n i0, 1)) (hi : (i0 : Nat) = i) (hn : i + 1 < nL) (hl : (i, Value.long x) :: lv.filter (fun q => !(q.1 == i) && (!(q.1 == i + 1) && !(q.1 + 1 == i && q.2.category == 2))) = lv') (kk : F (pc + 1) lv' st ws k n) : F pc lv (.long x :: st) ws k n := by
  obtain ⟨rfl, hx, hb, -⟩ := hX
  intro H locs ls hP hD hS h9
  exact lv_lstore_n hx hb hd hi h9 hn hl (fun ls' h8 => kk H locs ls' hP hD hS h8)
theorem q_lstore (hX : qOK F p l e R s m args below meth c Q cc nL own D tys A) {i : Nat} {x : Int64} (hd : decode cc pc = .ok (.lstore i, 2)) (hn : i + 1 < nL) (hl : (i, Value.long x) :: lv.filter (fun q => !(q.1 == i) && (!(q.1 == i + 1) && !(q.1 + 1 == i && q.2.category == 2))) = lv') (kk : F (pc + 2) lv' st ws k n) : F pc lv (.long x :: st) ws k n := by
  obtain ⟨rfl, hx, hb, -⟩ := hX
  intro H locs ls hP hD hS h9
  exact lv_lstore hx hb hd h9 hn hl (fun ls' h8 => kk H locs ls' hP hD hS h8)
theorem q_aload_n (hX : qOK F p l e R s m args below meth c Q cc nL own D tys A) {i : Fin 4} (j : Nat) {x : Nat} (hd : decode cc pc = .ok (.aload_n i, 1)) (hj : lv[j]? = some ((i : Nat), .ref x)) (kk : F (pc + 1) lv (.ref x :: st) ws k n) : F pc lv st ws k n := by
  obtain ⟨rfl, hx, hb, -⟩ := hX
  intro H locs ls hP hD hS hl
  exact lv_aload_n hx hb hd rfl (lv_at hl j hj) (kk H locs ls hP hD hS hl)
theorem q_aload (hX : qOK F p l e R s m args below meth c Q cc nL own D tys A) {i : Nat} (j : Nat) {x : Nat} (hd : decode cc pc = .ok (.aload i, 2)) (hj : lv[j]? = some (i, .ref x)) (kk : F (pc + 2) lv (.ref x :: st) ws k n) : F pc lv st ws k n := by
  obtain ⟨rfl, hx, hb, -⟩ := hX
  intro H locs ls hP hD hS hl
  exact lv_aload hx hb hd (lv_at hl j hj) (kk H locs ls hP hD hS hl)
theorem q_astore_n (hX : qOK F p l e R s m args below meth c Q cc nL own D tys A) {i0 : Fin 4} {i : Nat} {x : Nat} (hd : decode cc pc = .ok (.astore_n i0, 1)) (hi : (i0 : Nat) = i) (hn : i < nL) (hl : (i, Value.ref x) :: lv.filter (fun q => !(q.1 == i) && !(q.1 + 1 == i && q.2.category == 2)) = lv') (kk : F (pc + 1) lv' st ws k n) : F pc lv (.ref x :: st) ws k n := by
  obtain ⟨rfl, hx, hb, -⟩ := hX
  intro H locs ls hP hD hS h9
  exact lv_astore_n hx hb hd hi h9 hn hl (fun ls' h8 => kk H locs ls' hP hD hS h8)
theorem q_astore (hX : qOK F p l e R s m args below meth c Q cc nL own D tys A) {i : Nat} {x : Nat} (hd : decode cc pc = .ok (.astore i, 2)) (hn : i < nL) (hl : (i, Value.ref x) :: lv.filter (fun q => !(q.1 == i) && !(q.1 + 1 == i && q.2.category == 2)) = lv') (kk : F (pc + 2) lv' st ws k n) : F pc lv (.ref x :: st) ws k n := by
  obtain ⟨rfl, hx, hb, -⟩ := hX
  intro H locs ls hP hD hS h9
  exact lv_astore hx hb hd h9 hn hl (fun ls' h8 => kk H locs ls' hP hD hS h8)
theorem q_iinc (hX : qOK F p l e R s m args below meth c Q cc nL own D tys A) {i : Nat} {d a : Int} (j : Nat) (hd : decode cc pc = .ok (.iinc i d, 3)) (hj : lv[j]? = some (i, .int (iI a))) (hn : i < nL) (hl : (i, Value.int (iI (a + d))) :: lv.filter (fun q => !(q.1 == i) && !(q.1 + 1 == i && q.2.category == 2)) = lv') (kk : F (pc + 3) lv' st ws k n) : F pc lv st ws k n := by
  obtain ⟨rfl, hx, hb, -⟩ := hX
  intro H locs ls hP hD hS h9
  exact lv_iinc (v := iI (a + d)) hx hb hd h9 hj (iI_add a d) hn hl (fun ls' h8 => kk H locs ls' hP hD hS h8)
theorem q_iadd (hX : qOK F p l e R s m args below meth c Q cc nL own D tys A) {a b : Int} (hd : decode cc pc = .ok (.iadd, 1)) (kk : F (pc + 1) lv (.int (iI (a + b)) :: st) ws k n) : F pc lv (.int (iI b) :: .int (iI a) :: st) ws k n := by
  obtain ⟨rfl, hx, hb, -⟩ := hX
  intro H locs ls hP hD hS hl
  refine lv_iadd hx hb hd ?_
  rw [iI_add]
  exact kk H locs ls hP hD hS hl
theorem q_isub (hX : qOK F p l e R s m args below meth c Q cc nL own D tys A) {a b : Int} (hd : decode cc pc = .ok (.isub, 1)) (kk : F (pc + 1) lv (.int (iI (a - b)) :: st) ws k n) : F pc lv (.int (iI b) :: .int (iI a) :: st) ws k n := by
  obtain ⟨rfl, hx, hb, -⟩ := hX
  intro H locs ls hP hD hS hl
  refine lv_isub hx hb hd ?_
  rw [iI_sub]
  exact kk H locs ls hP hD hS hl
theorem q_imul (hX : qOK F p l e R s m args below meth c Q cc nL own D tys A) {a b : Int} (hd : decode cc pc = .ok (.imul, 1)) (kk : F (pc + 1) lv (.int (iI (a * b)) :: st) ws k n) : F pc lv (.int (iI b) :: .int (iI a) :: st) ws k n := by
  obtain ⟨rfl, hx, hb, -⟩ := hX
  intro H locs ls hP hD hS hl
  refine lv_imul hx hb hd ?_
  rw [iI_mul]
  exact kk H locs ls hP hD hS hl
theorem q_ineg (hX : qOK F p l e R s m args below meth c Q cc nL own D tys A) {a : Int} (hd : decode cc pc = .ok (.ineg, 1)) (kk : F (pc + 1) lv (.int (iI (-a)) :: st) ws k n) : F pc lv (.int (iI a) :: st) ws k n := by
  obtain ⟨rfl, hx, hb, -⟩ := hX
  intro H locs ls hP hD hS hl
  refine lv_ineg hx hb hd ?_
  rw [iI_neg]
  exact kk H locs ls hP hD hS hl
theorem q_iand (hX : qOK F p l e R s m args below meth c Q cc nL own D tys A) {x y : Int32} (v : Int) (hv : x &&& y = iI v) (hd : decode cc pc = .ok (.iand, 1)) (kk : F (pc + 1) lv (.int (iI v) :: st) ws k n) : F pc lv (.int y :: .int x :: st) ws k n := by
  obtain ⟨rfl, hx, hb, -⟩ := hX
  intro H locs ls hP hD hS hl
  refine lv_iand hx hb hd ?_
  rw [hv]
  exact kk H locs ls hP hD hS hl
theorem q_idiv (hX : qOK F p l e R s m args below meth c Q cc nL own D tys A) {x y : Int32} (v : Int) (h0 : ¬ y = 0) (hv : x / y = iI v) (hd : decode cc pc = .ok (.idiv, 1)) (kk : F (pc + 1) lv (.int (iI v) :: st) ws k n) : F pc lv (.int y :: .int x :: st) ws k n := by
  obtain ⟨rfl, hx, hb, -⟩ := hX
  intro H locs ls hP hD hS hl
  refine lv_idiv hx hb hd h0 ?_
  rw [hv]
  exact kk H locs ls hP hD hS hl
theorem q_irem (hX : qOK F p l e R s m args below meth c Q cc nL own D tys A) {x y : Int32} (v : Int) (h0 : ¬ y = 0) (hv : x - x / y * y = iI v) (hd : decode cc pc = .ok (.irem, 1)) (kk : F (pc + 1) lv (.int (iI v) :: st) ws k n) : F pc lv (.int y :: .int x :: st) ws k n := by
  obtain ⟨rfl, hx, hb, -⟩ := hX
  intro H locs ls hP hD hS hl
  refine lv_irem hx hb hd h0 ?_
  rw [hv]
  exact kk H locs ls hP hD hS hl
theorem q_ladd (hX : qOK F p l e R s m args below meth c Q cc nL own D tys A) {x y : Int64} (hd : decode cc pc = .ok (.ladd, 1)) (kk : F (pc + 1) lv (.long (x + y) :: st) ws k n) : F pc lv (.long y :: .long x :: st) ws k n := by
  obtain ⟨rfl, hx, hb, -⟩ := hX
  intro H locs ls hP hD hS hl
  exact lv_ladd hx hb hd (kk H locs ls hP hD hS hl)
theorem q_land (hX : qOK F p l e R s m args below meth c Q cc nL own D tys A) {x y : Int64} (hd : decode cc pc = .ok (.land, 1)) (kk : F (pc + 1) lv (.long (x &&& y) :: st) ws k n) : F pc lv (.long y :: .long x :: st) ws k n := by
  obtain ⟨rfl, hx, hb, -⟩ := hX
  intro H locs ls hP hD hS hl
  exact lv_land hx hb hd (kk H locs ls hP hD hS hl)
theorem q_lor (hX : qOK F p l e R s m args below meth c Q cc nL own D tys A) {x y : Int64} (hd : decode cc pc = .ok (.lor, 1)) (kk : F (pc + 1) lv (.long (x ||| y) :: st) ws k n) : F pc lv (.long y :: .long x :: st) ws k n := by
  obtain ⟨rfl, hx, hb, -⟩ := hX
  intro H locs ls hP hD hS hl
  exact lv_lor hx hb hd (kk H locs ls hP hD hS hl)
theorem q_i2l (hX : qOK F p l e R s m args below meth c Q cc nL own D tys A) {x : Int32} (hd : decode cc pc = .ok (.i2l, 1)) (kk : F (pc + 1) lv (.long x.toInt64 :: st) ws k n) : F pc lv (.int x :: st) ws k n := by
  obtain ⟨rfl, hx, hb, -⟩ := hX
  intro H locs ls hP hD hS hl
  exact lv_i2l hx hb hd rfl (kk H locs ls hP hD hS hl)
theorem q_l2i (hX : qOK F p l e R s m args below meth c Q cc nL own D tys A) {x : Int64} (hd : decode cc pc = .ok (.l2i, 1)) (kk : F (pc + 1) lv (.int x.toInt32 :: st) ws k n) : F pc lv (.long x :: st) ws k n := by
  obtain ⟨rfl, hx, hb, -⟩ := hX
  intro H locs ls hP hD hS hl
  exact lv_l2i hx hb hd rfl (kk H locs ls hP hD hS hl)
theorem q_lushr (hX : qOK F p l e R s m args below meth c Q cc nL own D tys A) {x : Int64} {y : Int32} (hd : decode cc pc = .ok (.lushr, 1)) (kk : F (pc + 1) lv (.long (x.toUInt64 >>> (y.toInt64.toUInt64 &&& Int64.toUInt64 63)).toInt64 :: st) ws k n) : F pc lv (.int y :: .long x :: st) ws k n := by
  obtain ⟨rfl, hx, hb, -⟩ := hX
  intro H locs ls hP hD hS hl
  exact lv_lushr hx hb hd rfl (kk H locs ls hP hD hS hl)
theorem q_lshr (hX : qOK F p l e R s m args below meth c Q cc nL own D tys A) {x : Int64} {y : Int32} (hd : decode cc pc = .ok (.lshr, 1)) (kk : F (pc + 1) lv (.long (x >>> (y.toInt64 &&& 63)) :: st) ws k n) : F pc lv (.int y :: .long x :: st) ws k n := by
  obtain ⟨rfl, hx, hb, -⟩ := hX
  intro H locs ls hP hD hS hl
  exact lv_lshr hx hb hd rfl (kk H locs ls hP hD hS hl)
theorem q_lshl (hX : qOK F p l e R s m args below meth c Q cc nL own D tys A) {x : Int64} {y : Int32} (hd : decode cc pc = .ok (.lshl, 1)) (kk : F (pc + 1) lv (.long (x <<< (y.toInt64 &&& 63)) :: st) ws k n) : F pc lv (.int y :: .long x :: st) ws k n := by
  obtain ⟨rfl, hx, hb, -⟩ := hX
  intro H locs ls hP hD hS hl
  exact lv_lshl hx hb hd rfl (kk H locs ls hP hD hS hl)
theorem q_topi (hX : qOK F p l e R s m args below meth c Q cc nL own D tys A) {x : Int32} (v : Int) (hv : x = iI v) (kk : F pc lv (.int (iI v) :: st) ws k n) : F pc lv (.int x :: st) ws k n := by
  subst hv; exact kk
theorem q_dup (hX : qOK F p l e R s m args below meth c Q cc nL own D tys A) {va : Value} (hd : decode cc pc = .ok (.dup, 1)) (hva : va.category = 1) (kk : F (pc + 1) lv (va :: va :: st) ws k n) : F pc lv (va :: st) ws k n := by
  obtain ⟨rfl, hx, hb, -⟩ := hX
  intro H locs ls hP hD hS hl
  exact lv_dup hx hb hd hva (kk H locs ls hP hD hS hl)
theorem q_pop (hX : qOK F p l e R s m args below meth c Q cc nL own D tys A) {va : Value} (hd : decode cc pc = .ok (.pop, 1)) (hva : va.category = 1) (kk : F (pc + 1) lv st ws k n) : F pc lv (va :: st) ws k n := by
  obtain ⟨rfl, hx, hb, -⟩ := hX
  intro H locs ls hP hD hS hl
  exact lv_pop hx hb hd hva (kk H locs ls hP hD hS hl)
theorem q_dup_x1 (hX : qOK F p l e R s m args below meth c Q cc nL own D tys A) {va vb : Value} (hd : decode cc pc = .ok (.dup_x1, 1)) (hva : va.category = 1) (hvb : vb.category = 1) (kk : F (pc + 1) lv (va :: vb :: va :: st) ws k n) : F pc lv (va :: vb :: st) ws k n := by
  obtain ⟨rfl, hx, hb, -⟩ := hX
  intro H locs ls hP hD hS hl
  exact lv_dup_x1 hx hb hd hva hvb (kk H locs ls hP hD hS hl)
theorem q_dup2 (hX : qOK F p l e R s m args below meth c Q cc nL own D tys A) {va vb : Value} (hd : decode cc pc = .ok (.dup2, 1)) (hva : va.category = 1) (hvb : vb.category = 1) (kk : F (pc + 1) lv (va :: vb :: va :: vb :: st) ws k n) : F pc lv (va :: vb :: st) ws k n := by
  obtain ⟨rfl, hx, hb, -⟩ := hX
  intro H locs ls hP hD hS hl
  exact lv_dup2_11 hx hb hd hva hvb (kk H locs ls hP hD hS hl)
theorem q_goto (hX : qOK F p l e R s m args below meth c Q cc nL own D tys A) {off : Int} (tgt : Nat) (hd : decode cc pc = .ok (.goto off, 3)) (ht : (pc : Int) + off = (tgt : Int)) (kk : F tgt lv st ws k n) : F pc lv st ws k n := by
  obtain ⟨rfl, hx, hb, -⟩ := hX
  intro H locs ls hP hD hS hl
  exact lv_goto hx hb hd ht (kk H locs ls hP hD hS hl)
theorem q_icmp_eq (hX : qOK F p l e R s m args below meth c Q cc nL own D tys A) {a b : Int} {off : Int} (tgt : Nat) (hd : decode cc pc = .ok (.if_icmp .eq off, 3)) (ht : (pc : Int) + off = (tgt : Int)) (ra : iR a) (rb : iR b) (kt : a = b → F tgt lv st ws k n) (kf : ¬ a = b → F (pc + 3) lv st ws k n) : F pc lv (.int (iI b) :: .int (iI a) :: st) ws k n := by
  obtain ⟨rfl, hx, hb, -⟩ := hX
  intro H locs ls hP hD hS hl
  exact lv_icmp_eq hx hb hd ht (fun h => kt ((iI_eq ra rb).1 h) H locs ls hP hD hS hl) (fun h => kf (fun h9 => h ((iI_eq ra rb).2 h9)) H locs ls hP hD hS hl)
theorem q_if_eq (hX : qOK F p l e R s m args below meth c Q cc nL own D tys A) {a : Int} {off : Int} (tgt : Nat) (hd : decode cc pc = .ok (.ifCond .eq off, 3)) (ht : (pc : Int) + off = (tgt : Int)) (ra : iR a) (kt : a = 0 → F tgt lv st ws k n) (kf : ¬ a = 0 → F (pc + 3) lv st ws k n) : F pc lv (.int (iI a) :: st) ws k n := by
  obtain ⟨rfl, hx, hb, -⟩ := hX
  intro H locs ls hP hD hS hl
  exact lv_if_eq hx hb hd ht (fun h => kt ((iI_eq ra iR_0).1 h) H locs ls hP hD hS hl) (fun h => kf (fun h9 => h ((iI_eq ra iR_0).2 h9)) H locs ls hP hD hS hl)
theorem q_icmp_ne (hX : qOK F p l e R s m args below meth c Q cc nL own D tys A) {a b : Int} {off : Int} (tgt : Nat) (hd : decode cc pc = .ok (.if_icmp .ne off, 3)) (ht : (pc : Int) + off = (tgt : Int)) (ra : iR a) (rb : iR b) (kt : ¬ a = b → F tgt lv st ws k n) (kf : a = b → F (pc + 3) lv st ws k n) : F pc lv (.int (iI b) :: .int (iI a) :: st) ws k n := by
  obtain ⟨rfl, hx, hb, -⟩ := hX
  intro H locs ls hP hD hS hl
  exact lv_icmp_ne hx hb hd ht (fun h => kt (fun h9 => h ((iI_eq ra rb).2 h9)) H locs ls hP hD hS hl) (fun h => kf ((iI_eq ra rb).1 h) H locs ls hP hD hS hl)
theorem q_if_ne (hX : qOK F p l e R s m args below meth c Q cc nL own D tys A) {a : Int} {off : Int} (tgt : Nat) (hd : decode cc pc = .ok (.ifCond .ne off, 3)) (ht : (pc : Int) + off = (tgt : Int)) (ra : iR a) (kt : ¬ a = 0 → F tgt lv st ws k n) (kf : a = 0 → F (pc + 3) lv st ws k n) : F pc lv (.int (iI a) :: st) ws k n := by
  obtain ⟨rfl, hx, hb, -⟩ := hX
  intro H locs ls hP hD hS hl
  exact lv_if_ne hx hb hd ht (fun h => kt (fun h9 => h ((iI_eq ra iR_0).2 h9)) H locs ls hP hD hS hl) (fun h => kf ((iI_eq ra iR_0).1 h) H locs ls hP hD hS hl)
theorem q_icmp_lt (hX : qOK F p l e R s m args below meth c Q cc nL own D tys A) {a b : Int} {off : Int} (tgt : Nat) (hd : decode cc pc = .ok (.if_icmp .lt off, 3)) (ht : (pc : Int) + off = (tgt : Int)) (ra : iR a) (rb : iR b) (kt : a < b → F tgt lv st ws k n) (kf : ¬ a < b → F (pc + 3) lv st ws k n) : F pc lv (.int (iI b) :: .int (iI a) :: st) ws k n := by
  obtain ⟨rfl, hx, hb, -⟩ := hX
  intro H locs ls hP hD hS hl
  exact lv_icmp_lt hx hb hd ht (fun h => kt ((iI_lt ra rb).1 h) H locs ls hP hD hS hl) (fun h => kf (fun h9 => h ((iI_lt ra rb).2 h9)) H locs ls hP hD hS hl)
theorem q_if_lt (hX : qOK F p l e R s m args below meth c Q cc nL own D tys A) {a : Int} {off : Int} (tgt : Nat) (hd : decode cc pc = .ok (.ifCond .lt off, 3)) (ht : (pc : Int) + off = (tgt : Int)) (ra : iR a) (kt : a < 0 → F tgt lv st ws k n) (kf : ¬ a < 0 → F (pc + 3) lv st ws k n) : F pc lv (.int (iI a) :: st) ws k n := by
  obtain ⟨rfl, hx, hb, -⟩ := hX
  intro H locs ls hP hD hS hl
  exact lv_if_lt hx hb hd ht (fun h => kt ((iI_lt ra iR_0).1 h) H locs ls hP hD hS hl) (fun h => kf (fun h9 => h ((iI_lt ra iR_0).2 h9)) H locs ls hP hD hS hl)
theorem q_icmp_ge (hX : qOK F p l e R s m args below meth c Q cc nL own D tys A) {a b : Int} {off : Int} (tgt : Nat) (hd : decode cc pc = .ok (.if_icmp .ge off, 3)) (ht : (pc : Int) + off = (tgt : Int)) (ra : iR a) (rb : iR b) (kt : b ≤ a → F tgt lv st ws k n) (kf : ¬ b ≤ a → F (pc + 3) lv st ws k n) : F pc lv (.int (iI b) :: .int (iI a) :: st) ws k n := by
  obtain ⟨rfl, hx, hb, -⟩ := hX
  intro H locs ls hP hD hS hl
  exact lv_icmp_ge hx hb hd ht (fun h => kt ((iI_le rb ra).1 h) H locs ls hP hD hS hl) (fun h => kf (fun h9 => h ((iI_le rb ra).2 h9)) H locs ls hP hD hS hl)
theorem q_if_ge (hX : qOK F p l e R s m args below meth c Q cc nL own D tys A) {a : Int} {off : Int} (tgt : Nat) (hd : decode cc pc = .ok (.ifCond .ge off, 3)) (ht : (pc : Int) + off = (tgt : Int)) (ra : iR a) (kt : 0 ≤ a → F tgt lv st ws k n) (kf : ¬ 0 ≤ a → F (pc + 3) lv st ws k n) : F pc lv (.int (iI a) :: st) ws k n := by
  obtain ⟨rfl, hx, hb, -⟩ := hX
  intro H locs ls hP hD hS hl
  exact lv_if_ge hx hb hd ht (fun h => kt ((iI_le iR_0 ra).1 h) H locs ls hP hD hS hl) (fun h => kf (fun h9 => h ((iI_le iR_0 ra).2 h9)) H locs ls hP hD hS hl)
theorem q_icmp_gt (hX : qOK F p l e R s m args below meth c Q cc nL own D tys A) {a b : Int} {off : Int} (tgt : Nat) (hd : decode cc pc = .ok (.if_icmp .gt off, 3)) (ht : (pc : Int) + off = (tgt : Int)) (ra : iR a) (rb : iR b) (kt : b < a → F tgt lv st ws k n) (kf : ¬ b < a → F (pc + 3) lv st ws k n) : F pc lv (.int (iI b) :: .int (iI a) :: st) ws k n := by
  obtain ⟨rfl, hx, hb, -⟩ := hX
  intro H locs ls hP hD hS hl
  exact lv_icmp_gt hx hb hd ht (fun h => kt ((iI_lt rb ra).1 h) H locs ls hP hD hS hl) (fun h => kf (fun h9 => h ((iI_lt rb ra).2 h9)) H locs ls hP hD hS hl)
theorem q_if_gt (hX : qOK F p l e R s m args below meth c Q cc nL own D tys A) {a : Int} {off : Int} (tgt : Nat) (hd : decode cc pc = .ok (.ifCond .gt off, 3)) (ht : (pc : Int) + off = (tgt : Int)) (ra : iR a) (kt : 0 < a → F tgt lv st ws k n) (kf : ¬ 0 < a → F (pc + 3) lv st ws k n) : F pc lv (.int (iI a) :: st) ws k n := by
  obtain ⟨rfl, hx, hb, -⟩ := hX
  intro H locs ls hP hD hS hl
  exact lv_if_gt hx hb hd ht (fun h => kt ((iI_lt iR_0 ra).1 h) H locs ls hP hD hS hl) (fun h => kf (fun h9 => h ((iI_lt iR_0 ra).2 h9)) H locs ls hP hD hS hl)
theorem q_icmp_le (hX : qOK F p l e R s m args below meth c Q cc nL own D tys A) {a b : Int} {off : Int} (tgt : Nat) (hd : decode cc pc = .ok (.if_icmp .le off, 3)) (ht : (pc : Int) + off = (tgt : Int)) (ra : iR a) (rb : iR b) (kt : a ≤ b → F tgt lv st ws k n) (kf : ¬ a ≤ b → F (pc + 3) lv st ws k n) : F pc lv (.int (iI b) :: .int (iI a) :: st) ws k n := by
  obtain ⟨rfl, hx, hb, -⟩ := hX
  intro H locs ls hP hD hS hl
  exact lv_icmp_le hx hb hd ht (fun h => kt ((iI_le ra rb).1 h) H locs ls hP hD hS hl) (fun h => kf (fun h9 => h ((iI_le ra rb).2 h9)) H locs ls hP hD hS hl)
theorem q_if_le (hX : qOK F p l e R s m args below meth c Q cc nL own D tys A) {a : Int} {off : Int} (tgt : Nat) (hd : decode cc pc = .ok (.ifCond .le off, 3)) (ht : (pc : Int) + off = (tgt : Int)) (ra : iR a) (kt : a ≤ 0 → F tgt lv st ws k n) (kf : ¬ a ≤ 0 → F (pc + 3) lv st ws k n) : F pc lv (.int (iI a) :: st) ws k n := by
  obtain ⟨rfl, hx, hb, -⟩ := hX
  intro H locs ls hP hD hS hl
  exact lv_if_le hx hb hd ht (fun h => kt ((iI_le ra iR_0).1 h) H locs ls hP hD hS hl) (fun h => kf (fun h9 => h ((iI_le ra iR_0).2 h9)) H locs ls hP hD hS hl)
theorem q_iald (hX : qOK F p l e R s m args below meth c Q cc nL own D tys A) (q0 t0 : Nat) {cA : ClassId} {N a : Nat} {f : Nat → Int} (ha : ws[q0]? = some (a, .inl (cA, N, .inl (iA f)))) (ht : tys[t0]? = some (cA, .int)) {x : Int} (j : Nat) (hx9 : x = j) (hj : j < N) (hN : N < 2147483648) (hd : decode cc pc = .ok (.iaload, 1)) (kk : F (pc + 1) lv (.int (iI (f j)) :: st) ws k n) : F pc lv (.int (iI x) :: .ref a :: st) ws k n := by
  obtain ⟨rfl, hx, hb, -, -, -, -, hK, -⟩ := hX
  intro H locs ls hP hD hS hl
  subst hx9
  refine va_iald hx hb hK hP q0 t0 ha ht (iI_in hj hN) hd ?_
  rw [iI_cl (by omega)]
  exact kk H locs ls hP hD hS hl
theorem q_zald (hX : qOK F p l e R s m args below meth c Q cc nL own D tys A) (q0 t0 : Nat) {cA : ClassId} {N a : Nat} {f : Nat → Int} (ha : ws[q0]? = some (a, .inl (cA, N, .inl (iA f)))) (ht : tys[t0]? = some (cA, .boolean)) {x : Int} (j : Nat) (hx9 : x = j) (hj : j < N) (hN : N < 2147483648) (hd : decode cc pc = .ok (.baload, 1)) (kk : F (pc + 1) lv (.int (iI (f j)) :: st) ws k n) : F pc lv (.int (iI x) :: .ref a :: st) ws k n := by
  obtain ⟨rfl, hx, hb, -, -, -, -, hK, -⟩ := hX
  intro H locs ls hP hD hS hl
  subst hx9
  refine va_zald hx hb hK hP q0 t0 ha ht (iI_in hj hN) hd ?_
  rw [iI_cl (by omega)]
  exact kk H locs ls hP hD hS hl
theorem q_lald (hX : qOK F p l e R s m args below meth c Q cc nL own D tys A) (q0 t0 : Nat) {cA : ClassId} {N a : Nat} {f : Nat → Int64} (ha : ws[q0]? = some (a, .inl (cA, N, .inr (.inl f)))) (ht : tys[t0]? = some (cA, .long)) {x : Int} (j : Nat) (hx9 : x = j) (hj : j < N) (hN : N < 2147483648) (hd : decode cc pc = .ok (.laload, 1)) (kk : F (pc + 1) lv (.long (f j) :: st) ws k n) : F pc lv (.int (iI x) :: .ref a :: st) ws k n := by
  obtain ⟨rfl, hx, hb, -, -, -, -, hK, -⟩ := hX
  intro H locs ls hP hD hS hl
  subst hx9
  refine va_lald hx hb hK hP q0 t0 ha ht (iI_in hj hN) hd ?_
  rw [iI_cl (by omega)]
  exact kk H locs ls hP hD hS hl
theorem q_alen (hX : qOK F p l e R s m args below meth c Q cc nL own D tys A) (q0 t0 : Nat) {cA : ClassId} {a N : Nat} {z : (Nat → Int32) ⊕ (Nat → Int64) ⊕ (Nat → UInt32) ⊕ (Nat → UInt64) ⊕ (Nat → Option Nat)} (ha : ws[q0]? = some (a, .inl (cA, N, z))) {ty : FieldType} (ht : tys[t0]? = some (cA, ty)) (hd : decode cc pc = .ok (.arraylength, 1)) (kk : F (pc + 1) lv (.int (iI N) :: st) ws k n) : F pc lv (.ref a :: st) ws k n := by
  obtain ⟨rfl, hx, hb, -, -, -, -, hK, -⟩ := hX
  intro H locs ls hP hD hS hl
  exact va_alen (v := iI N) hx hb hK hP q0 t0 ha ht (iI_nI N) hd (kk H locs ls hP hD hS hl)
theorem q_get (hX : qOK F p l e R s m args below meth c Q cc nL own D tys A) {ci N index : Nat} {C : String} {T : u_T} {ty : Nat → FieldType} (hc : rCF ci C T N ty) (q0 : Nat) {a : Nat} {fs : List Value} (he : ws[q0]? = some (a, .inr (ci, fs))) (i : Nat) (hi : i < N) (hlk : Cond.fieldLink own index (T i).1 (T i).2.1 (T i).2.2.1 ∈ rw_ok) {v : Value} (hv : fs[i]? = some v) (hd : decode cc pc = .ok (.getfield index, 3)) (kk : F (pc + 3) lv (v :: st) ws k n) : F pc lv (.ref a :: st) ws k n := by
  obtain ⟨rfl, hx, hb, -, ho, hts, -, hK, -⟩ := hX
  intro H locs ls hP hD hS hl
  exact va_get hx hb hts hc.2.1 ho hK hP q0 he hc.1 i hi (hts _ hlk) (fun _ h => h) hv hd (kk H locs ls hP hD hS hl)
theorem qb_if_ne (hX : qOK F p l e R s m args below meth c Q cc nL own D tys A) {P : Prop} [Decidable P] {off : Int} (tgt : Nat) (hd : decode cc pc = .ok (.ifCond .ne off, 3)) (ht : (pc : Int) + off = (tgt : Int)) (kt : P → F tgt lv st ws k n) (kf : ¬ P → F (pc + 3) lv st ws k n) : F pc lv (.int (iI (bI P)) :: st) ws k n :=
  q_if_ne hX tgt hd ht (bI_R P) (fun h => kt (Classical.byContradiction fun q => h (bI_0.2 q))) (fun h => kf (bI_0.1 h))
theorem qb_if_eq (hX : qOK F p l e R s m args below meth c Q cc nL own D tys A) {P : Prop} [Decidable P] {off : Int} (tgt : Nat) (hd : decode cc pc = .ok (.ifCond .eq off, 3)) (ht : (pc : Int) + off = (tgt : Int)) (kt : ¬ P → F tgt lv st ws k n) (kf : P → F (pc + 3) lv st ws k n) : F pc lv (.int (iI (bI P)) :: st) ws k n :=
  q_if_eq hX tgt hd ht (bI_R P) (fun h => kt (bI_0.1 h)) (fun h => kf (Classical.byContradiction fun q => h (bI_0.2 q)))
theorem q_ialdN (hX : qOK F p l e R s m args below meth c Q cc nL own D tys A) (q0 t0 : Nat) {cA : ClassId} {N a : Nat} {f : Nat → Nat} (ha : ws[q0]? = some (a, .inl (cA, N, .inl (iA (iN f))))) (ht : tys[t0]? = some (cA, .int)) {x : Int} (j : Nat) (hx9 : x = j) (hj : j < N) (hN : N < 2147483648) (hd : decode cc pc = .ok (.iaload, 1)) (kk : F (pc + 1) lv (.int (iI ((f j : Nat) : Int)) :: st) ws k n) : F pc lv (.int (iI x) :: .ref a :: st) ws k n :=
  q_iald hX q0 t0 ha ht j hx9 hj hN hd kk
theorem q_zaldT (hX : qOK F p l e R s m args below meth c Q cc nL own D tys A) (q0 t0 : Nat) {cA : ClassId} {N a : Nat} {f : Nat → Bool} (ha : ws[q0]? = some (a, .inl (cA, N, .inl (iA (iT f))))) (ht : tys[t0]? = some (cA, .boolean)) {x : Int} (j : Nat) (hx9 : x = j) (hj : j < N) (hN : N < 2147483648) (hd : decode cc pc = .ok (.baload, 1)) (kk : F (pc + 1) lv (.int (iI (bI (f j = true))) :: st) ws k n) : F pc lv (.int (iI x) :: .ref a :: st) ws k n :=
  q_zald hX q0 t0 ha ht j hx9 hj hN hd kk
theorem q_iconstN (hX : qOK F p l e R s m args below meth c Q cc nL own D tys A) {a : Int} (j : Nat) (hd : decode cc pc = .ok (.iconst a, 1)) (ha : a = j) (kk : F (pc + 1) lv (.int (iI (j : Int)) :: st) ws k n) : F pc lv st ws k n := by
  subst ha; exact q_iconst hX hd kk
theorem q_bipushN (hX : qOK F p l e R s m args below meth c Q cc nL own D tys A) {a : Int} (j : Nat) (hd : decode cc pc = .ok (.bipush a, 2)) (ha : a = j) (hv : (Int8.ofInt a).toInt32 = iI a) (kk : F (pc + 2) lv (.int (iI (j : Int)) :: st) ws k n) : F pc lv st ws k n := by
  subst ha; exact q_bipush hX hd hv kk
theorem q_sipushN (hX : qOK F p l e R s m args below meth c Q cc nL own D tys A) {a : Int} (j : Nat) (hd : decode cc pc = .ok (.sipush a, 3)) (ha : a = j) (hv : (Int16.ofInt a).toInt32 = iI a) (kk : F (pc + 3) lv (.int (iI (j : Int)) :: st) ws k n) : F pc lv st ws k n := by
  subst ha; exact q_sipush hX hd hv kk
theorem q_iaddN (hX : qOK F p l e R s m args below meth c Q cc nL own D tys A) {a b : Nat} (hd : decode cc pc = .ok (.iadd, 1)) (kk : F (pc + 1) lv (.int (iI ((a + b : Nat) : Int)) :: st) ws k n) : F pc lv (.int (iI (b : Int)) :: .int (iI (a : Int)) :: st) ws k n := by
  refine q_iadd hX hd ?_
  rw [Int.natCast_add] at kk; exact kk
theorem q_imulN (hX : qOK F p l e R s m args below meth c Q cc nL own D tys A) {a b : Nat} (hd : decode cc pc = .ok (.imul, 1)) (kk : F (pc + 1) lv (.int (iI ((a * b : Nat) : Int)) :: st) ws k n) : F pc lv (.int (iI (b : Int)) :: .int (iI (a : Int)) :: st) ws k n := by
  refine q_imul hX hd ?_
  rw [Int.natCast_mul] at kk; exact kk
theorem q_iincN (hX : qOK F p l e R s m args below meth c Q cc nL own D tys A) {i a : Nat} (j : Nat) (hd : decode cc pc = .ok (.iinc i 1, 3)) (hj : lv[j]? = some (i, .int (iI (a : Int)))) (hn : i < nL) (hl : (i, Value.int (iI ((a + 1 : Nat) : Int))) :: lv.filter (fun q => !(q.1 == i) && !(q.1 + 1 == i && q.2.category == 2)) = lv') (kk : F (pc + 3) lv' st ws k n) : F pc lv st ws k n := by
  refine q_iinc hX j hd hj hn ?_ kk
  rw [← hl]; rfl
theorem qbc_if_ne (hX : qOK F p l e R s m args below meth c Q cc nL own D tys A) {z : Int} (hz : 0 < z ∧ z < 1000) {P : Prop} [Decidable P] {off : Int} (tgt : Nat) (hd : decode cc pc = .ok (.ifCond .ne off, 3)) (ht : (pc : Int) + off = (tgt : Int)) (kt : P → F tgt lv st ws k n) (kf : ¬ P → F (pc + 3) lv st ws k n) : F pc lv (.int (iI (z * bI P)) :: st) ws k n :=
  q_if_ne hX tgt hd ht (rbc_R z hz P) (fun h => kt (Classical.byContradiction fun q => h ((rbc_0 hz).2 q))) (fun h => kf ((rbc_0 hz).1 h))
theorem qbc_if_eq (hX : qOK F p l e R s m args below meth c Q cc nL own D tys A) {z : Int} (hz : 0 < z ∧ z < 1000) {P : Prop} [Decidable P] {off : Int} (tgt : Nat) (hd : decode cc pc = .ok (.ifCond .eq off, 3)) (ht : (pc : Int) + off = (tgt : Int)) (kt : ¬ P → F tgt lv st ws k n) (kf : P → F (pc + 3) lv st ws k n) : F pc lv (.int (iI (z * bI P)) :: st) ws k n :=
  q_if_eq hX tgt hd ht (rbc_R z hz P) (fun h => kt ((rbc_0 hz).1 h)) (fun h => kf (Classical.byContradiction fun q => h ((rbc_0 hz).2 q)))
theorem qbc_if_gt (hX : qOK F p l e R s m args below meth c Q cc nL own D tys A) {z : Int} (hz : 0 < z ∧ z < 1000) {P : Prop} [Decidable P] {off : Int} (tgt : Nat) (hd : decode cc pc = .ok (.ifCond .gt off, 3)) (ht : (pc : Int) + off = (tgt : Int)) (kt : P → F tgt lv st ws k n) (kf : ¬ P → F (pc + 3) lv st ws k n) : F pc lv (.int (iI (z * bI P)) :: st) ws k n :=
  q_if_gt hX tgt hd ht (rbc_R z hz P) (fun h => kt (Classical.byContradiction fun q => by have := (rbc_0 hz).2 q; omega)) (fun h => kf (fun q => by have := bI_t q; rw [this] at h; omega))
theorem qbc_if_le (hX : qOK F p l e R s m args below meth c Q cc nL own D tys A) {z : Int} (hz : 0 < z ∧ z < 1000) {P : Prop} [Decidable P] {off : Int} (tgt : Nat) (hd : decode cc pc = .ok (.ifCond .le off, 3)) (ht : (pc : Int) + off = (tgt : Int)) (kt : ¬ P → F tgt lv st ws k n) (kf : P → F (pc + 3) lv st ws k n) : F pc lv (.int (iI (z * bI P)) :: st) ws k n :=
  q_if_le hX tgt hd ht (rbc_R z hz P) (fun h => kt (fun q => by have := bI_t q; rw [this] at h; omega)) (fun h => kf (Classical.byContradiction fun q => h (by have := (rbc_0 hz).2 q; omega)))
end RLQ
