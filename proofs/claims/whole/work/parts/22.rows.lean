/-! The layer: numbers as integers, a frame as locals, stack and world. -/
def iI (x : Int) : Int32 := Int32.ofInt x
theorem iI_add (a b : Int) : iI a + iI b = iI (a + b) := (Int32.ofInt_add a b).symm
theorem iI_sub (a b : Int) : iI a - iI b = iI (a - b) := (Int32.ofInt_sub a b).symm
theorem iI_mul (a b : Int) : iI a * iI b = iI (a * b) := (Int32.ofInt_mul a b).symm
theorem iI_neg (a : Int) : -iI a = iI (-a) := (Int32.ofInt_neg a).symm
/-- it is an int's number -/
def iR (a : Int) : Prop := -2147483648 ≤ a ∧ a < 2147483648
theorem iI_toInt {a : Int} (h : iR a) : (iI a).toInt = a := Int32.toInt_ofInt_of_le (by have := h.1; omega) (by have := h.2; omega)
theorem iI_of (x : Int32) : ∃ a, iR a ∧ x = iI a := ⟨x.toInt, ⟨by have := Int32.le_toInt x; omega, by have := Int32.toInt_lt x; omega⟩, (Int32.ofInt_toInt x).symm⟩
theorem iI_nI (n : Nat) : nI n = iI n := Int32.ofInt_eq_ofNat.symm
theorem iI_eq {a b : Int} (ha : iR a) (hb : iR b) : iI a = iI b ↔ a = b := by
  rw [← Int32.toInt_inj, iI_toInt ha, iI_toInt hb]
theorem iI_le {a b : Int} (ha : iR a) (hb : iR b) : iI a ≤ iI b ↔ a ≤ b := by
  rw [Int32.le_iff_toInt_le, iI_toInt ha, iI_toInt hb]
theorem iI_lt {a b : Int} (ha : iR a) (hb : iR b) : iI a < iI b ↔ a < b := by
  rw [Int32.lt_iff_toInt_lt, iI_toInt ha, iI_toInt hb]
theorem iI_0 : (0 : Int32) = iI 0 := by decide
theorem iR_0 : iR 0 := by unfold iR; omega
theorem iI_in {k N : Nat} (h : k < N) (hN : N < 2147483648) : vp_in (iI k) N := by
  rw [← iI_nI]; exact vp_in_nI h (by omega)
theorem iI_cl {k : Nat} (h : k < 2147483648) : (iI k).toNatClampNeg = k := by
  rw [← iI_nI]; exact nI_clamp (by omega)
/-- an array's new contents -/
def iU {α : Type} (f : Nat → α) (k : Nat) (x : α) : Nat → α := fun j => if j = k then x else f j
theorem iU_s {α : Type} {f : Nat → α} {k : Nat} {x : α} : iU f k x k = x := by unfold iU; rw [if_pos rfl]
theorem iU_n {α : Type} {f : Nat → α} {k j : Nat} {x : α} (h : j ≠ k) : iU f k x j = f j := by unfold iU; rw [if_neg h]
/-- an array of ints, by their numbers -/
def iA (f : Nat → Int) : Nat → Int32 := fun k => iI (f k)
theorem iA_upd (f : Nat → Int) (k : Nat) (x : Int) : upd (iA f) k (iI x) = iA (iU f k x) := by
  funext j; unfold upd iA iU; split <;> rfl
theorem iU_updL (f : Nat → Int64) (k : Nat) (x : Int64) : vp_updL f k x = iU f k x := rfl
/-- the words that hold for good; those of a nest -/
def rw_ok : List Cond := lw_tbl.filter goodWord
def rw_isNest : Cond → Bool
  | .fieldLinkNest .. => true
  | .methodLinkNest .. => true
  | _ => false
def rw_nest : List Cond := tables_1.filter rw_isNest
def rNest (U : State) : Prop := ∀ w ∈ rw_nest, va_Nw w U
theorem rNest.warm {s U : State} (hW : s.WarmedH U.vm) (h : rNest s) : rNest U := by
  intro w hw
  have h1 := h w hw
  have h2 := (List.mem_filter.mp hw).2
  cases w <;> first | (exact va_Nw.warmF hW h1) | (exact va_Nw.warmM hW h1) | (simp [rw_isNest] at h2; done)
theorem rNest.same {s U : State} (hv : s.vm = U.vm) (h : rNest s) : rNest U := by
  intro w hw
  have h1 := h w hw
  have h2 := (List.mem_filter.mp hw).2
  cases w <;> first | (exact va_Nw.same rfl hv h1) | (simp [rw_isNest] at h2; done)
theorem rw_good {w : Cond} (h : w ∈ rw_ok) : w ∈ rw_ok ∧ ((w.onTables && w.keeps) = true ∨ ∃ ty, w = .arrayClass ty) := ⟨h, good_of_word (List.mem_filter.mp h).2⟩
theorem rw_in {w : Cond} (h : w ∈ lw_tbl) (hg : goodWord w = true) : w ∈ rw_ok := List.mem_filter.mpr ⟨h, hg⟩
theorem rw_goodIn {ws : List Cond} (h : ∀ w ∈ ws, w ∈ rw_ok) : GoodIn rw_ok ws := fun w hw => rw_good (h w hw)
abbrev rT : Type := Nat → List (Nat × Value) → List Value → va_W → Nat → Nat → Prop
/-- from here, whatever heap holds the world and whatever array the locals -/
def rW (p : Program) (l : Launch) (e : Env) (R : Room) (s : State) (m : MethodId) (args : Array Value) (below : List Frame) (meth : Method) (c : Code) (Q : State → Prop) (nL : Nat) (D : va_G) (A : Nat → Prop) : rT := fun pc lv st ws k n =>
  ∀ (H : Heap) (locs : List Loc) (ls : Array Slot), va_P D vwCl ws H → va_D A ws → va_S A s.heap H locs → lv_has ls nL lv → W p l e R s m args below meth c H locs k n Q (F0 m pc ls st)
def rOK (F : rT) (p : Program) (l : Launch) (e : Env) (R : Room) (s : State) (m : MethodId) (args : Array Value) (below : List Frame) (meth : Method) (c : Code) (Q : State → Prop) (cc : ByteArray) (nL : Nat) (own : String) (D : va_G) (tys : List (ClassId × FieldType)) (A : Nat → Prop) : Prop :=
  F = rW p l e R s m args below meth c Q nL D A ∧ p.tables.exec = Jvm.exec ∧ c.code = cc ∧ c.maxLocals = nL ∧ s.vm.findClass own = some m.cls ∧ (∀ w ∈ rw_ok, w.before args s = true) ∧ rNest s ∧ va_K D vwCl tys s ∧ (∀ q : Nat, s.heap.size ≤ q → A q)
/-- the world at a method's start -/
def rPre (D : va_G) (tys : List (ClassId × FieldType)) (ws : va_W) (sz : Nat) : State → Prop := fun U => U.heap.size = sz ∧ va_P D vwCl ws U.heap ∧ va_K D vwCl tys U ∧ va_D (fun _ => True) ws ∧ rNest U
/-- .. and at its end -/
def rB (D : va_G) (tys : List (ClassId × FieldType)) (A : Nat → Prop) (ws : va_W) : State → Prop := fun t => va_P D vwCl ws t.heap ∧ va_K D vwCl tys t ∧ va_D A ws
theorem rPre_blind (D : va_G) (tys : List (ClassId × FieldType)) (ws : va_W) (sz : Nat) (av : List Value) : FrameBlind (va_Pc av (rPre D tys ws sz)) := by
  intro a U g mk h
  obtain ⟨h0, h1, h2, h3, h4, h5⟩ := h
  exact ⟨h0, h1, h2, va_K.moved (u := U) (U := U.calling g mk a) (Vm.Alike.refl U.vm) h3, h4, rNest.same (s := U) (U := U.calling g mk a) rfl h5⟩
/-- what a body's end owes -/
def rRT (Q : State → Prop) (below : List Frame) (Qc : Array Value → State → Outcome → State → Prop) (args : Array Value) (s : State) (mc ms : Nat) (A : Nat → Prop) (meth : Method) (ret : Option FieldType) : Prop :=
  (∀ t, MQ below Qc args s mc ms A t → Q t) ∧ meth.sig.returnType = ret ∧ meth.locks = false
/-- a contract: the world wc, the arguments av; behind it post and the world w1 -/
def rCv (l : Launch) (y : MethodName) (cc : ByteArray) (nL : Nat) (rm : Room) (D : va_G) (tys : List (ClassId × FieldType)) (av : List Value) (wc : va_W) {S : Type} (post : S → Prop) (w1 : S → va_W) : Prop :=
  ∀ sz, Met l y (Cond.code y cc nL none :: rw_ok) rm (va_Pc av (rPre D tys wc sz)) (va_Qv post (fun u => rB D tys (va_A wc sz) (w1 u)) (va_A wc sz)) rm.cells rm.slots (va_A wc sz)
def rCi (l : Launch) (y : MethodName) (cc : ByteArray) (nL : Nat) (ty : FieldType) (rm : Room) (D : va_G) (tys : List (ClassId × FieldType)) (av : List Value) (wc : va_W) {S : Type} (post : Int32 → S → Prop) (w1 : S → va_W) : Prop :=
  ∀ sz, Met l y (Cond.code y cc nL (some ty) :: rw_ok) rm (va_Pc av (rPre D tys wc sz)) (va_Qi post (fun u => rB D tys (va_A wc sz) (w1 u)) (va_A wc sz)) rm.cells rm.slots (va_A wc sz)
def rCl (l : Launch) (y : MethodName) (cc : ByteArray) (nL : Nat) (rm : Room) (D : va_G) (tys : List (ClassId × FieldType)) (av : List Value) (wc : va_W) {S : Type} (post : Int64 → S → Prop) (w1 : S → va_W) : Prop :=
  ∀ sz, Met l y (Cond.code y cc nL (some .long) :: rw_ok) rm (va_Pc av (rPre D tys wc sz)) (va_Ql post (fun u => rB D tys (va_A wc sz) (w1 u)) (va_A wc sz)) rm.cells rm.slots (va_A wc sz)
/-- a body's walk gives the contract -/
theorem r_met {l : Launch} {y : MethodName} {cc : ByteArray} {nL : Nat} {ret : Option FieldType} {rm : Room} {D : va_G} {tys : List (ClassId × FieldType)} {av : List Value} {wc : va_W} {Qc : Array Value → State → Outcome → State → Prop} {mc ms sz : Nat}
    (hy : plainName y.cls = true) (hav : (lg_sl av).length ≤ nL)
    (body : ∀ (F : rT) p e s m args below meth c Q A, rOK F p l e rm s m args below meth c Q cc nL y.cls D tys A → rRT Q below Qc args s mc ms A meth ret → A = va_A wc sz → s.heap.size = sz → meth.name = y.name → F 0 (lv_args 0 av) [] wc 0 0) :
    Met l y (Cond.code y cc nL ret :: rw_ok) rm (va_Pc av (rPre D tys wc sz)) Qc mc ms (va_A wc sz) := by
  refine Met.ofW (cc := cc) (maxL := nL) (ret := ret) hy rfl ?_
  intro p e s m args below meth c s₁ B hml hv
  obtain ⟨rfl, hsz, hP, hK, hD0, hN⟩ := hv
  have hts := atoms_spec (ws := Cond.code y cc nL ret :: rw_ok) B.pre
  have hown : s.vm.findClass y.cls = some m.cls := findClass_of_methodNamed B.named
  have hin : meth.name = y.name := (name_of_methodNamed B.named B.method).1
  have hD := hD0.self (sz := sz)
  have hl := lv_entry av (n := nL) hav
  rw [lg_entry_eq]
  have hA : ∀ q : Nat, s.heap.size ≤ q → va_A wc sz q := fun q h => Or.inr (by omega)
  exact body (rW p l e rm s m av.toArray below meth c (MQ below Qc av.toArray s mc ms (va_A wc sz)) nL D (va_A wc sz)) p e s m av.toArray below meth c _ _
    ⟨rfl, B.exec, B.bytes, hml, hown, fun w h => hts w (List.mem_cons_of_mem _ h), hN, hK, hA⟩ ⟨fun _ h => h, B.returns, B.notSynchronized⟩ rfl hsz hin s.heap [] _ hP hD va_S.rf hl
theorem W.mono {p : Program} {l : Launch} {e : Env} {R : Room} {s : State} {m : MethodId} {args : Array Value} {below : List Frame} {meth : Method} {c : Code} {H : Heap} {locs : List Loc} {cells slots : Nat} {Q Q' : State → Prop} {g : JFrame} (h : ∀ t, Q t → Q' t) (k : W p l e R s m args below meth c H locs cells slots Q g) : W p l e R s m args below meth c H locs cells slots Q' g := by
  intro T hT X
  obtain ⟨t, a, b⟩ := k T hT X
  exact ⟨t, a, h t b⟩
section RL
variable {p : Program} {l : Launch} {e : Env} {R : Room} {s : State} {m : MethodId} {args : Array Value} {below : List Frame} {meth : Method} {c : Code} {Q : State → Prop} {cc : ByteArray} {nL : Nat} {own : String} {D : va_G} {tys : List (ClassId × FieldType)} {A : Nat → Prop} {F : rT} {pc : Nat} {lv lv' : List (Nat × Value)} {st : List Value} {ws ws' : va_W} {k n : Nat}
/-- the same place, in other words -/
theorem r_eq {lv2 : List (Nat × Value)} {st2 : List Value} {ws2 : va_W} (h1 : lv = lv2) (h2 : st = st2) (h3 : ws = ws2) (kk : F pc lv2 st2 ws2 k n) : F pc lv st ws k n := by
  subst h1; subst h2; subst h3; exact kk
theorem r_lv (hX : rOK F p l e R s m args below meth c Q cc nL own D tys A) (ks : List Nat) (h : lv_pick lv ks = lv') (kk : F pc lv' st ws k n) : F pc lv st ws k n := by
  obtain ⟨rfl, -⟩ := hX
  intro H locs ls hP hD hS hl
  exact kk H locs ls hP hD hS (lv_sub hl ks h)
theorem r_sub (hX : rOK F p l e R s m args below meth c Q cc nL own D tys A) (is : List Nat) (hn : va_nd is = true) (h : is.map (fun i => ws[i]?) = ws'.map some) (kk : F pc lv st ws' k n) : F pc lv st ws k n := by
  obtain ⟨rfl, -⟩ := hX
  intro H locs ls hP hD hS hl
  refine kk H locs ls (hP.sub is ?_) (hD.sub is hn h) hS hl
  have h2 : (is.map (fun i => ws[i]?)).filterMap id = (ws'.map some).filterMap id := by rw [h]
  rw [List.filterMap_map, List.filterMap_map] at h2
  have h3 : ws'.filterMap (id ∘ some) = ws' := by
    show ws'.filterMap (fun x => some x) = ws'
    simp
  rw [h3] at h2
  exact h2
theorem r_widen (hX : rOK F p l e R s m args below meth c Q cc nL own D tys A) {k' n' : Nat} (h1 : k ≤ k') (h2 : n ≤ n') (kk : F pc lv st ws k' n') : F pc lv st ws k n := by
  obtain ⟨rfl, -⟩ := hX
  intro H locs ls hP hD hS hl
  exact W.widen h1 h2 (kk H locs ls hP hD hS hl)
theorem r_iconst (hX : rOK F p l e R s m args below meth c Q cc nL own D tys A) {a : Int} (hd : decode cc pc = .ok (.iconst a, 1)) (kk : F (pc + 1) lv (.int (iI a) :: st) ws k n) : F pc lv st ws k n := by
  obtain ⟨rfl, hx, hb, -⟩ := hX
  intro H locs ls hP hD hS hl
  exact lv_iconst (v := iI a) hx hb hd rfl (kk H locs ls hP hD hS hl)
theorem r_bipush (hX : rOK F p l e R s m args below meth c Q cc nL own D tys A) {a : Int} (hd : decode cc pc = .ok (.bipush a, 2)) (hv : (Int8.ofInt a).toInt32 = iI a) (kk : F (pc + 2) lv (.int (iI a) :: st) ws k n) : F pc lv st ws k n := by
  obtain ⟨rfl, hx, hb, -⟩ := hX
  intro H locs ls hP hD hS hl
  exact lv_bipush (v := iI a) hx hb hd hv (kk H locs ls hP hD hS hl)
theorem r_sipush (hX : rOK F p l e R s m args below meth c Q cc nL own D tys A) {a : Int} (hd : decode cc pc = .ok (.sipush a, 3)) (hv : (Int16.ofInt a).toInt32 = iI a) (kk : F (pc + 3) lv (.int (iI a) :: st) ws k n) : F pc lv st ws k n := by
  obtain ⟨rfl, hx, hb, -⟩ := hX
  intro H locs ls hP hD hS hl
  exact lv_sipush (v := iI a) hx hb hd hv (kk H locs ls hP hD hS hl)
theorem r_ldc (hX : rOK F p l e R s m args below meth c Q cc nL own D tys A) (a : Int) {index : Nat} {v : Int32} (hw : Cond.constant own index v ∈ rw_ok) (hv : v = iI a) (hd : decode cc pc = .ok (.ldc index, 2)) (kk : F (pc + 2) lv (.int (iI a) :: st) ws k n) : F pc lv st ws k n := by
  obtain ⟨rfl, hx, hb, -, ho, hts, -⟩ := hX
  intro H locs ls hP hD hS hl
  subst hv
  exact lv_ldc hx hb ho (hts _ hw) hd (kk H locs ls hP hD hS hl)
theorem r_ldc2 (hX : rOK F p l e R s m args below meth c Q cc nL own D tys A) {index : Nat} {v : Int64} (hw : Cond.constantLong own index v ∈ rw_ok) (hd : decode cc pc = .ok (.ldc2_w index, 3)) (kk : F (pc + 3) lv (.long v :: st) ws k n) : F pc lv st ws k n := by
  obtain ⟨rfl, hx, hb, -, ho, hts, -⟩ := hX
  intro H locs ls hP hD hS hl
  exact lv_ldc2 hx hb ho (hts _ hw) hd (kk H locs ls hP hD hS hl)
theorem r_lconst (hX : rOK F p l e R s m args below meth c Q cc nL own D tys A) {a : Fin 2} {v : Int64} (hd : decode cc pc = .ok (.lconst a, 1)) (hv : Int64.ofNat (a : Nat) = v) (kk : F (pc + 1) lv (.long v :: st) ws k n) : F pc lv st ws k n := by
  obtain ⟨rfl, hx, hb, -⟩ := hX
  intro H locs ls hP hD hS hl
  exact lv_lconst hx hb hd hv (kk H locs ls hP hD hS hl)
theorem r_iload_n (hX : rOK F p l e R s m args below meth c Q cc nL own D tys A) {i : Fin 4} (j : Nat) {x : Int32} (hd : decode cc pc = .ok (.iload_n i, 1)) (hj : lv[j]? = some ((i : Nat), .int x)) (kk : F (pc + 1) lv (.int x :: st) ws k n) : F pc lv st ws k n := by
  obtain ⟨rfl, hx, hb, -⟩ := hX
  intro H locs ls hP hD hS hl
  exact lv_iload_n hx hb hd rfl (lv_at hl j hj) (kk H locs ls hP hD hS hl)
theorem r_iload (hX : rOK F p l e R s m args below meth c Q cc nL own D tys A) {i : Nat} (j : Nat) {x : Int32} (hd : decode cc pc = .ok (.iload i, 2)) (hj : lv[j]? = some (i, .int x)) (kk : F (pc + 2) lv (.int x :: st) ws k n) : F pc lv st ws k n := by
  obtain ⟨rfl, hx, hb, -⟩ := hX
  intro H locs ls hP hD hS hl
  exact lv_iload hx hb hd (lv_at hl j hj) (kk H locs ls hP hD hS hl)
theorem r_istore_n (hX : rOK F p l e R s m args below meth c Q cc nL own D tys A) {i0 : Fin 4} {i : Nat} {x : Int32} (hd : decode cc pc = .ok (.istore_n i0, 1)) (hi : (i0 : Nat) = i) (hn : i < nL) (hl : (i, Value.int x) :: lv.filter (fun q => !(q.1 == i) && !(q.1 + 1 == i && q.2.category == 2)) = lv') (kk : F (pc + 1) lv' st ws k n) : F pc lv (.int x :: st) ws k n := by
  obtain ⟨rfl, hx, hb, -⟩ := hX
  intro H locs ls hP hD hS h9
  exact lv_istore_n hx hb hd hi h9 hn hl (fun ls' h8 => kk H locs ls' hP hD hS h8)
theorem r_istore (hX : rOK F p l e R s m args below meth c Q cc nL own D tys A) {i : Nat} {x : Int32} (hd : decode cc pc = .ok (.istore i, 2)) (hn : i < nL) (hl : (i, Value.int x) :: lv.filter (fun q => !(q.1 == i) && !(q.1 + 1 == i && q.2.category == 2)) = lv') (kk : F (pc + 2) lv' st ws k n) : F pc lv (.int x :: st) ws k n := by
  obtain ⟨rfl, hx, hb, -⟩ := hX
  intro H locs ls hP hD hS h9
  exact lv_istore hx hb hd h9 hn hl (fun ls' h8 => kk H locs ls' hP hD hS h8)
theorem r_lload_n (hX : rOK F p l e R s m args below meth c Q cc nL own D tys A) {i : Fin 4} (j : Nat) {x : Int64} (hd : decode cc pc = .ok (.lload_n i, 1)) (hj : lv[j]? = some ((i : Nat), .long x)) (kk : F (pc + 1) lv (.long x :: st) ws k n) : F pc lv st ws k n := by
  obtain ⟨rfl, hx, hb, -⟩ := hX
  intro H locs ls hP hD hS hl
  exact lv_lload_n hx hb hd rfl (lv_at hl j hj) (kk H locs ls hP hD hS hl)
theorem r_lload (hX : rOK F p l e R s m args below meth c Q cc nL own D tys A) {i : Nat} (j : Nat) {x : Int64} (hd : decode cc pc = .ok (.lload i, 2)) (hj : lv[j]? = some (i, .long x)) (kk : F (pc + 2) lv (.long x :: st) ws k n) : F pc lv st ws k n := by
  obtain ⟨rfl, hx, hb, -⟩ := hX
  intro H locs ls hP hD hS hl
  exact lv_lload hx hb hd (lv_at hl j hj) (kk H locs ls hP hD hS hl)
theorem r_lstore_n (hX : rOK F p l e R s m args below meth c Q cc nL own D tys A) {i0 : Fin 4} {i : Nat} {x : Int64} (hd : decode cc pc = .ok (.lstore_n i0, 1)) (hi : (i0 : Nat) = i) (hn : i + 1 < nL) (hl : (i, Value.long x) :: lv.filter (fun q => !(q.1 == i) && (!(q.1 == i + 1) && !(q.1 + 1 == i && q.2.category == 2))) = lv') (kk : F (pc + 1) lv' st ws k n) : F pc lv (.long x :: st) ws k n := by
  obtain ⟨rfl, hx, hb, -⟩ := hX
  intro H locs ls hP hD hS h9
  exact lv_lstore_n hx hb hd hi h9 hn hl (fun ls' h8 => kk H locs ls' hP hD hS h8)
theorem r_lstore (hX : rOK F p l e R s m args below meth c Q cc nL own D tys A) {i : Nat} {x : Int64} (hd : decode cc pc = .ok (.lstore i, 2)) (hn : i + 1 < nL) (hl : (i, Value.long x) :: lv.filter (fun q => !(q.1 == i) && (!(q.1 == i + 1) && !(q.1 + 1 == i && q.2.category == 2))) = lv') (kk : F (pc + 2) lv' st ws k n) : F pc lv (.long x :: st) ws k n := by
  obtain ⟨rfl, hx, hb, -⟩ := hX
  intro H locs ls hP hD hS h9
  exact lv_lstore hx hb hd h9 hn hl (fun ls' h8 => kk H locs ls' hP hD hS h8)
theorem r_aload_n (hX : rOK F p l e R s m args below meth c Q cc nL own D tys A) {i : Fin 4} (j : Nat) {x : Nat} (hd : decode cc pc = .ok (.aload_n i, 1)) (hj : lv[j]? = some ((i : Nat), .ref x)) (kk : F (pc + 1) lv (.ref x :: st) ws k n) : F pc lv st ws k n := by
  obtain ⟨rfl, hx, hb, -⟩ := hX
  intro H locs ls hP hD hS hl
  exact lv_aload_n hx hb hd rfl (lv_at hl j hj) (kk H locs ls hP hD hS hl)
theorem r_aload (hX : rOK F p l e R s m args below meth c Q cc nL own D tys A) {i : Nat} (j : Nat) {x : Nat} (hd : decode cc pc = .ok (.aload i, 2)) (hj : lv[j]? = some (i, .ref x)) (kk : F (pc + 2) lv (.ref x :: st) ws k n) : F pc lv st ws k n := by
  obtain ⟨rfl, hx, hb, -⟩ := hX
  intro H locs ls hP hD hS hl
  exact lv_aload hx hb hd (lv_at hl j hj) (kk H locs ls hP hD hS hl)
theorem r_astore_n (hX : rOK F p l e R s m args below meth c Q cc nL own D tys A) {i0 : Fin 4} {i : Nat} {x : Nat} (hd : decode cc pc = .ok (.astore_n i0, 1)) (hi : (i0 : Nat) = i) (hn : i < nL) (hl : (i, Value.ref x) :: lv.filter (fun q => !(q.1 == i) && !(q.1 + 1 == i && q.2.category == 2)) = lv') (kk : F (pc + 1) lv' st ws k n) : F pc lv (.ref x :: st) ws k n := by
  obtain ⟨rfl, hx, hb, -⟩ := hX
  intro H locs ls hP hD hS h9
  exact lv_astore_n hx hb hd hi h9 hn hl (fun ls' h8 => kk H locs ls' hP hD hS h8)
theorem r_astore (hX : rOK F p l e R s m args below meth c Q cc nL own D tys A) {i : Nat} {x : Nat} (hd : decode cc pc = .ok (.astore i, 2)) (hn : i < nL) (hl : (i, Value.ref x) :: lv.filter (fun q => !(q.1 == i) && !(q.1 + 1 == i && q.2.category == 2)) = lv') (kk : F (pc + 2) lv' st ws k n) : F pc lv (.ref x :: st) ws k n := by
  obtain ⟨rfl, hx, hb, -⟩ := hX
  intro H locs ls hP hD hS h9
  exact lv_astore hx hb hd h9 hn hl (fun ls' h8 => kk H locs ls' hP hD hS h8)
theorem r_iinc (hX : rOK F p l e R s m args below meth c Q cc nL own D tys A) {i : Nat} {d a : Int} (j : Nat) (hd : decode cc pc = .ok (.iinc i d, 3)) (hj : lv[j]? = some (i, .int (iI a))) (hn : i < nL) (hl : (i, Value.int (iI (a + d))) :: lv.filter (fun q => !(q.1 == i) && !(q.1 + 1 == i && q.2.category == 2)) = lv') (kk : F (pc + 3) lv' st ws k n) : F pc lv st ws k n := by
  obtain ⟨rfl, hx, hb, -⟩ := hX
  intro H locs ls hP hD hS h9
  exact lv_iinc (v := iI (a + d)) hx hb hd h9 hj (iI_add a d) hn hl (fun ls' h8 => kk H locs ls' hP hD hS h8)
theorem r_iadd (hX : rOK F p l e R s m args below meth c Q cc nL own D tys A) {a b : Int} (hd : decode cc pc = .ok (.iadd, 1)) (kk : F (pc + 1) lv (.int (iI (a + b)) :: st) ws k n) : F pc lv (.int (iI b) :: .int (iI a) :: st) ws k n := by
  obtain ⟨rfl, hx, hb, -⟩ := hX
  intro H locs ls hP hD hS hl
  refine lv_iadd hx hb hd ?_
  rw [iI_add]
  exact kk H locs ls hP hD hS hl
theorem r_isub (hX : rOK F p l e R s m args below meth c Q cc nL own D tys A) {a b : Int} (hd : decode cc pc = .ok (.isub, 1)) (kk : F (pc + 1) lv (.int (iI (a - b)) :: st) ws k n) : F pc lv (.int (iI b) :: .int (iI a) :: st) ws k n := by
  obtain ⟨rfl, hx, hb, -⟩ := hX
  intro H locs ls hP hD hS hl
  refine lv_isub hx hb hd ?_
  rw [iI_sub]
  exact kk H locs ls hP hD hS hl
theorem r_imul (hX : rOK F p l e R s m args below meth c Q cc nL own D tys A) {a b : Int} (hd : decode cc pc = .ok (.imul, 1)) (kk : F (pc + 1) lv (.int (iI (a * b)) :: st) ws k n) : F pc lv (.int (iI b) :: .int (iI a) :: st) ws k n := by
  obtain ⟨rfl, hx, hb, -⟩ := hX
  intro H locs ls hP hD hS hl
  refine lv_imul hx hb hd ?_
  rw [iI_mul]
  exact kk H locs ls hP hD hS hl
theorem r_ineg (hX : rOK F p l e R s m args below meth c Q cc nL own D tys A) {a : Int} (hd : decode cc pc = .ok (.ineg, 1)) (kk : F (pc + 1) lv (.int (iI (-a)) :: st) ws k n) : F pc lv (.int (iI a) :: st) ws k n := by
  obtain ⟨rfl, hx, hb, -⟩ := hX
  intro H locs ls hP hD hS hl
  refine lv_ineg hx hb hd ?_
  rw [iI_neg]
  exact kk H locs ls hP hD hS hl
/-- a number above, whose bits or quotient you know -/
theorem r_iand (hX : rOK F p l e R s m args below meth c Q cc nL own D tys A) {x y : Int32} (v : Int) (hv : x &&& y = iI v) (hd : decode cc pc = .ok (.iand, 1)) (kk : F (pc + 1) lv (.int (iI v) :: st) ws k n) : F pc lv (.int y :: .int x :: st) ws k n := by
  obtain ⟨rfl, hx, hb, -⟩ := hX
  intro H locs ls hP hD hS hl
  refine lv_iand hx hb hd ?_
  rw [hv]
  exact kk H locs ls hP hD hS hl
theorem r_idiv (hX : rOK F p l e R s m args below meth c Q cc nL own D tys A) {x y : Int32} (v : Int) (h0 : ¬ y = 0) (hv : x / y = iI v) (hd : decode cc pc = .ok (.idiv, 1)) (kk : F (pc + 1) lv (.int (iI v) :: st) ws k n) : F pc lv (.int y :: .int x :: st) ws k n := by
  obtain ⟨rfl, hx, hb, -⟩ := hX
  intro H locs ls hP hD hS hl
  refine lv_idiv hx hb hd h0 ?_
  rw [hv]
  exact kk H locs ls hP hD hS hl
theorem r_irem (hX : rOK F p l e R s m args below meth c Q cc nL own D tys A) {x y : Int32} (v : Int) (h0 : ¬ y = 0) (hv : x - x / y * y = iI v) (hd : decode cc pc = .ok (.irem, 1)) (kk : F (pc + 1) lv (.int (iI v) :: st) ws k n) : F pc lv (.int y :: .int x :: st) ws k n := by
  obtain ⟨rfl, hx, hb, -⟩ := hX
  intro H locs ls hP hD hS hl
  refine lv_irem hx hb hd h0 ?_
  rw [hv]
  exact kk H locs ls hP hD hS hl
theorem r_ladd (hX : rOK F p l e R s m args below meth c Q cc nL own D tys A) {x y : Int64} (hd : decode cc pc = .ok (.ladd, 1)) (kk : F (pc + 1) lv (.long (x + y) :: st) ws k n) : F pc lv (.long y :: .long x :: st) ws k n := by
  obtain ⟨rfl, hx, hb, -⟩ := hX
  intro H locs ls hP hD hS hl
  exact lv_ladd hx hb hd (kk H locs ls hP hD hS hl)
theorem r_land (hX : rOK F p l e R s m args below meth c Q cc nL own D tys A) {x y : Int64} (hd : decode cc pc = .ok (.land, 1)) (kk : F (pc + 1) lv (.long (x &&& y) :: st) ws k n) : F pc lv (.long y :: .long x :: st) ws k n := by
  obtain ⟨rfl, hx, hb, -⟩ := hX
  intro H locs ls hP hD hS hl
  exact lv_land hx hb hd (kk H locs ls hP hD hS hl)
theorem r_lor (hX : rOK F p l e R s m args below meth c Q cc nL own D tys A) {x y : Int64} (hd : decode cc pc = .ok (.lor, 1)) (kk : F (pc + 1) lv (.long (x ||| y) :: st) ws k n) : F pc lv (.long y :: .long x :: st) ws k n := by
  obtain ⟨rfl, hx, hb, -⟩ := hX
  intro H locs ls hP hD hS hl
  exact lv_lor hx hb hd (kk H locs ls hP hD hS hl)
theorem r_i2l (hX : rOK F p l e R s m args below meth c Q cc nL own D tys A) {x : Int32} (hd : decode cc pc = .ok (.i2l, 1)) (kk : F (pc + 1) lv (.long x.toInt64 :: st) ws k n) : F pc lv (.int x :: st) ws k n := by
  obtain ⟨rfl, hx, hb, -⟩ := hX
  intro H locs ls hP hD hS hl
  exact lv_i2l hx hb hd rfl (kk H locs ls hP hD hS hl)
theorem r_l2i (hX : rOK F p l e R s m args below meth c Q cc nL own D tys A) {x : Int64} (hd : decode cc pc = .ok (.l2i, 1)) (kk : F (pc + 1) lv (.int x.toInt32 :: st) ws k n) : F pc lv (.long x :: st) ws k n := by
  obtain ⟨rfl, hx, hb, -⟩ := hX
  intro H locs ls hP hD hS hl
  exact lv_l2i hx hb hd rfl (kk H locs ls hP hD hS hl)
theorem r_lushr (hX : rOK F p l e R s m args below meth c Q cc nL own D tys A) {x : Int64} {y : Int32} (hd : decode cc pc = .ok (.lushr, 1)) (kk : F (pc + 1) lv (.long (x.toUInt64 >>> (y.toInt64.toUInt64 &&& Int64.toUInt64 63)).toInt64 :: st) ws k n) : F pc lv (.int y :: .long x :: st) ws k n := by
  obtain ⟨rfl, hx, hb, -⟩ := hX
  intro H locs ls hP hD hS hl
  exact lv_lushr hx hb hd rfl (kk H locs ls hP hD hS hl)
theorem r_lshr (hX : rOK F p l e R s m args below meth c Q cc nL own D tys A) {x : Int64} {y : Int32} (hd : decode cc pc = .ok (.lshr, 1)) (kk : F (pc + 1) lv (.long (x >>> (y.toInt64 &&& 63)) :: st) ws k n) : F pc lv (.int y :: .long x :: st) ws k n := by
  obtain ⟨rfl, hx, hb, -⟩ := hX
  intro H locs ls hP hD hS hl
  exact lv_lshr hx hb hd rfl (kk H locs ls hP hD hS hl)
theorem r_lshl (hX : rOK F p l e R s m args below meth c Q cc nL own D tys A) {x : Int64} {y : Int32} (hd : decode cc pc = .ok (.lshl, 1)) (kk : F (pc + 1) lv (.long (x <<< (y.toInt64 &&& 63)) :: st) ws k n) : F pc lv (.int y :: .long x :: st) ws k n := by
  obtain ⟨rfl, hx, hb, -⟩ := hX
  intro H locs ls hP hD hS hl
  exact lv_lshl hx hb hd rfl (kk H locs ls hP hD hS hl)
theorem r_topi (hX : rOK F p l e R s m args below meth c Q cc nL own D tys A) {x : Int32} (v : Int) (hv : x = iI v) (kk : F pc lv (.int (iI v) :: st) ws k n) : F pc lv (.int x :: st) ws k n := by
  subst hv; exact kk
theorem r_dup (hX : rOK F p l e R s m args below meth c Q cc nL own D tys A) {va : Value} (hd : decode cc pc = .ok (.dup, 1)) (hva : va.category = 1) (kk : F (pc + 1) lv (va :: va :: st) ws k n) : F pc lv (va :: st) ws k n := by
  obtain ⟨rfl, hx, hb, -⟩ := hX
  intro H locs ls hP hD hS hl
  exact lv_dup hx hb hd hva (kk H locs ls hP hD hS hl)
theorem r_pop (hX : rOK F p l e R s m args below meth c Q cc nL own D tys A) {va : Value} (hd : decode cc pc = .ok (.pop, 1)) (hva : va.category = 1) (kk : F (pc + 1) lv st ws k n) : F pc lv (va :: st) ws k n := by
  obtain ⟨rfl, hx, hb, -⟩ := hX
  intro H locs ls hP hD hS hl
  exact lv_pop hx hb hd hva (kk H locs ls hP hD hS hl)
theorem r_dup_x1 (hX : rOK F p l e R s m args below meth c Q cc nL own D tys A) {va vb : Value} (hd : decode cc pc = .ok (.dup_x1, 1)) (hva : va.category = 1) (hvb : vb.category = 1) (kk : F (pc + 1) lv (va :: vb :: va :: st) ws k n) : F pc lv (va :: vb :: st) ws k n := by
  obtain ⟨rfl, hx, hb, -⟩ := hX
  intro H locs ls hP hD hS hl
  exact lv_dup_x1 hx hb hd hva hvb (kk H locs ls hP hD hS hl)
theorem r_dup2 (hX : rOK F p l e R s m args below meth c Q cc nL own D tys A) {va vb : Value} (hd : decode cc pc = .ok (.dup2, 1)) (hva : va.category = 1) (hvb : vb.category = 1) (kk : F (pc + 1) lv (va :: vb :: va :: vb :: st) ws k n) : F pc lv (va :: vb :: st) ws k n := by
  obtain ⟨rfl, hx, hb, -⟩ := hX
  intro H locs ls hP hD hS hl
  exact lv_dup2_11 hx hb hd hva hvb (kk H locs ls hP hD hS hl)
theorem r_goto (hX : rOK F p l e R s m args below meth c Q cc nL own D tys A) {off : Int} (tgt : Nat) (hd : decode cc pc = .ok (.goto off, 3)) (ht : (pc : Int) + off = (tgt : Int)) (kk : F tgt lv st ws k n) : F pc lv st ws k n := by
  obtain ⟨rfl, hx, hb, -⟩ := hX
  intro H locs ls hP hD hS hl
  exact lv_goto hx hb hd ht (kk H locs ls hP hD hS hl)
theorem r_icmp_eq (hX : rOK F p l e R s m args below meth c Q cc nL own D tys A) {a b : Int} {off : Int} (tgt : Nat) (hd : decode cc pc = .ok (.if_icmp .eq off, 3)) (ht : (pc : Int) + off = (tgt : Int)) (ra : iR a) (rb : iR b) (kt : a = b → F tgt lv st ws k n) (kf : ¬ a = b → F (pc + 3) lv st ws k n) : F pc lv (.int (iI b) :: .int (iI a) :: st) ws k n := by
  obtain ⟨rfl, hx, hb, -⟩ := hX
  intro H locs ls hP hD hS hl
  exact lv_icmp_eq hx hb hd ht (fun h => kt ((iI_eq ra rb).1 h) H locs ls hP hD hS hl) (fun h => kf (fun h9 => h ((iI_eq ra rb).2 h9)) H locs ls hP hD hS hl)
theorem r_if_eq (hX : rOK F p l e R s m args below meth c Q cc nL own D tys A) {a : Int} {off : Int} (tgt : Nat) (hd : decode cc pc = .ok (.ifCond .eq off, 3)) (ht : (pc : Int) + off = (tgt : Int)) (ra : iR a) (kt : a = 0 → F tgt lv st ws k n) (kf : ¬ a = 0 → F (pc + 3) lv st ws k n) : F pc lv (.int (iI a) :: st) ws k n := by
  obtain ⟨rfl, hx, hb, -⟩ := hX
  intro H locs ls hP hD hS hl
  exact lv_if_eq hx hb hd ht (fun h => kt ((iI_eq ra iR_0).1 h) H locs ls hP hD hS hl) (fun h => kf (fun h9 => h ((iI_eq ra iR_0).2 h9)) H locs ls hP hD hS hl)
theorem r_icmp_ne (hX : rOK F p l e R s m args below meth c Q cc nL own D tys A) {a b : Int} {off : Int} (tgt : Nat) (hd : decode cc pc = .ok (.if_icmp .ne off, 3)) (ht : (pc : Int) + off = (tgt : Int)) (ra : iR a) (rb : iR b) (kt : ¬ a = b → F tgt lv st ws k n) (kf : a = b → F (pc + 3) lv st ws k n) : F pc lv (.int (iI b) :: .int (iI a) :: st) ws k n := by
  obtain ⟨rfl, hx, hb, -⟩ := hX
  intro H locs ls hP hD hS hl
  exact lv_icmp_ne hx hb hd ht (fun h => kt (fun h9 => h ((iI_eq ra rb).2 h9)) H locs ls hP hD hS hl) (fun h => kf ((iI_eq ra rb).1 h) H locs ls hP hD hS hl)
theorem r_if_ne (hX : rOK F p l e R s m args below meth c Q cc nL own D tys A) {a : Int} {off : Int} (tgt : Nat) (hd : decode cc pc = .ok (.ifCond .ne off, 3)) (ht : (pc : Int) + off = (tgt : Int)) (ra : iR a) (kt : ¬ a = 0 → F tgt lv st ws k n) (kf : a = 0 → F (pc + 3) lv st ws k n) : F pc lv (.int (iI a) :: st) ws k n := by
  obtain ⟨rfl, hx, hb, -⟩ := hX
  intro H locs ls hP hD hS hl
  exact lv_if_ne hx hb hd ht (fun h => kt (fun h9 => h ((iI_eq ra iR_0).2 h9)) H locs ls hP hD hS hl) (fun h => kf ((iI_eq ra iR_0).1 h) H locs ls hP hD hS hl)
theorem r_icmp_lt (hX : rOK F p l e R s m args below meth c Q cc nL own D tys A) {a b : Int} {off : Int} (tgt : Nat) (hd : decode cc pc = .ok (.if_icmp .lt off, 3)) (ht : (pc : Int) + off = (tgt : Int)) (ra : iR a) (rb : iR b) (kt : a < b → F tgt lv st ws k n) (kf : ¬ a < b → F (pc + 3) lv st ws k n) : F pc lv (.int (iI b) :: .int (iI a) :: st) ws k n := by
  obtain ⟨rfl, hx, hb, -⟩ := hX
  intro H locs ls hP hD hS hl
  exact lv_icmp_lt hx hb hd ht (fun h => kt ((iI_lt ra rb).1 h) H locs ls hP hD hS hl) (fun h => kf (fun h9 => h ((iI_lt ra rb).2 h9)) H locs ls hP hD hS hl)
theorem r_if_lt (hX : rOK F p l e R s m args below meth c Q cc nL own D tys A) {a : Int} {off : Int} (tgt : Nat) (hd : decode cc pc = .ok (.ifCond .lt off, 3)) (ht : (pc : Int) + off = (tgt : Int)) (ra : iR a) (kt : a < 0 → F tgt lv st ws k n) (kf : ¬ a < 0 → F (pc + 3) lv st ws k n) : F pc lv (.int (iI a) :: st) ws k n := by
  obtain ⟨rfl, hx, hb, -⟩ := hX
  intro H locs ls hP hD hS hl
  exact lv_if_lt hx hb hd ht (fun h => kt ((iI_lt ra iR_0).1 h) H locs ls hP hD hS hl) (fun h => kf (fun h9 => h ((iI_lt ra iR_0).2 h9)) H locs ls hP hD hS hl)
theorem r_icmp_ge (hX : rOK F p l e R s m args below meth c Q cc nL own D tys A) {a b : Int} {off : Int} (tgt : Nat) (hd : decode cc pc = .ok (.if_icmp .ge off, 3)) (ht : (pc : Int) + off = (tgt : Int)) (ra : iR a) (rb : iR b) (kt : b ≤ a → F tgt lv st ws k n) (kf : ¬ b ≤ a → F (pc + 3) lv st ws k n) : F pc lv (.int (iI b) :: .int (iI a) :: st) ws k n := by
  obtain ⟨rfl, hx, hb, -⟩ := hX
  intro H locs ls hP hD hS hl
  exact lv_icmp_ge hx hb hd ht (fun h => kt ((iI_le rb ra).1 h) H locs ls hP hD hS hl) (fun h => kf (fun h9 => h ((iI_le rb ra).2 h9)) H locs ls hP hD hS hl)
theorem r_if_ge (hX : rOK F p l e R s m args below meth c Q cc nL own D tys A) {a : Int} {off : Int} (tgt : Nat) (hd : decode cc pc = .ok (.ifCond .ge off, 3)) (ht : (pc : Int) + off = (tgt : Int)) (ra : iR a) (kt : 0 ≤ a → F tgt lv st ws k n) (kf : ¬ 0 ≤ a → F (pc + 3) lv st ws k n) : F pc lv (.int (iI a) :: st) ws k n := by
  obtain ⟨rfl, hx, hb, -⟩ := hX
  intro H locs ls hP hD hS hl
  exact lv_if_ge hx hb hd ht (fun h => kt ((iI_le iR_0 ra).1 h) H locs ls hP hD hS hl) (fun h => kf (fun h9 => h ((iI_le iR_0 ra).2 h9)) H locs ls hP hD hS hl)
theorem r_icmp_gt (hX : rOK F p l e R s m args below meth c Q cc nL own D tys A) {a b : Int} {off : Int} (tgt : Nat) (hd : decode cc pc = .ok (.if_icmp .gt off, 3)) (ht : (pc : Int) + off = (tgt : Int)) (ra : iR a) (rb : iR b) (kt : b < a → F tgt lv st ws k n) (kf : ¬ b < a → F (pc + 3) lv st ws k n) : F pc lv (.int (iI b) :: .int (iI a) :: st) ws k n := by
  obtain ⟨rfl, hx, hb, -⟩ := hX
  intro H locs ls hP hD hS hl
  exact lv_icmp_gt hx hb hd ht (fun h => kt ((iI_lt rb ra).1 h) H locs ls hP hD hS hl) (fun h => kf (fun h9 => h ((iI_lt rb ra).2 h9)) H locs ls hP hD hS hl)
theorem r_if_gt (hX : rOK F p l e R s m args below meth c Q cc nL own D tys A) {a : Int} {off : Int} (tgt : Nat) (hd : decode cc pc = .ok (.ifCond .gt off, 3)) (ht : (pc : Int) + off = (tgt : Int)) (ra : iR a) (kt : 0 < a → F tgt lv st ws k n) (kf : ¬ 0 < a → F (pc + 3) lv st ws k n) : F pc lv (.int (iI a) :: st) ws k n := by
  obtain ⟨rfl, hx, hb, -⟩ := hX
  intro H locs ls hP hD hS hl
  exact lv_if_gt hx hb hd ht (fun h => kt ((iI_lt iR_0 ra).1 h) H locs ls hP hD hS hl) (fun h => kf (fun h9 => h ((iI_lt iR_0 ra).2 h9)) H locs ls hP hD hS hl)
theorem r_icmp_le (hX : rOK F p l e R s m args below meth c Q cc nL own D tys A) {a b : Int} {off : Int} (tgt : Nat) (hd : decode cc pc = .ok (.if_icmp .le off, 3)) (ht : (pc : Int) + off = (tgt : Int)) (ra : iR a) (rb : iR b) (kt : a ≤ b → F tgt lv st ws k n) (kf : ¬ a ≤ b → F (pc + 3) lv st ws k n) : F pc lv (.int (iI b) :: .int (iI a) :: st) ws k n := by
  obtain ⟨rfl, hx, hb, -⟩ := hX
  intro H locs ls hP hD hS hl
  exact lv_icmp_le hx hb hd ht (fun h => kt ((iI_le ra rb).1 h) H locs ls hP hD hS hl) (fun h => kf (fun h9 => h ((iI_le ra rb).2 h9)) H locs ls hP hD hS hl)
theorem r_if_le (hX : rOK F p l e R s m args below meth c Q cc nL own D tys A) {a : Int} {off : Int} (tgt : Nat) (hd : decode cc pc = .ok (.ifCond .le off, 3)) (ht : (pc : Int) + off = (tgt : Int)) (ra : iR a) (kt : a ≤ 0 → F tgt lv st ws k n) (kf : ¬ a ≤ 0 → F (pc + 3) lv st ws k n) : F pc lv (.int (iI a) :: st) ws k n := by
  obtain ⟨rfl, hx, hb, -⟩ := hX
  intro H locs ls hP hD hS hl
  exact lv_if_le hx hb hd ht (fun h => kt ((iI_le ra iR_0).1 h) H locs ls hP hD hS hl) (fun h => kf (fun h9 => h ((iI_le ra iR_0).2 h9)) H locs ls hP hD hS hl)
/-- arrays: the place j by the number that stands for it -/
theorem r_iald (hX : rOK F p l e R s m args below meth c Q cc nL own D tys A) (q0 t0 : Nat) {cA : ClassId} {N a : Nat} {f : Nat → Int} (ha : ws[q0]? = some (a, .inl (cA, N, .inl (iA f)))) (ht : tys[t0]? = some (cA, .int)) {x : Int} (j : Nat) (hx9 : x = j) (hj : j < N) (hN : N < 2147483648) (hd : decode cc pc = .ok (.iaload, 1)) (kk : F (pc + 1) lv (.int (iI (f j)) :: st) ws k n) : F pc lv (.int (iI x) :: .ref a :: st) ws k n := by
  obtain ⟨rfl, hx, hb, -, -, -, -, hK, -⟩ := hX
  intro H locs ls hP hD hS hl
  subst hx9
  refine va_iald hx hb hK hP q0 t0 ha ht (iI_in hj hN) hd ?_
  rw [iI_cl (by omega)]
  exact kk H locs ls hP hD hS hl
theorem r_zald (hX : rOK F p l e R s m args below meth c Q cc nL own D tys A) (q0 t0 : Nat) {cA : ClassId} {N a : Nat} {f : Nat → Int} (ha : ws[q0]? = some (a, .inl (cA, N, .inl (iA f)))) (ht : tys[t0]? = some (cA, .boolean)) {x : Int} (j : Nat) (hx9 : x = j) (hj : j < N) (hN : N < 2147483648) (hd : decode cc pc = .ok (.baload, 1)) (kk : F (pc + 1) lv (.int (iI (f j)) :: st) ws k n) : F pc lv (.int (iI x) :: .ref a :: st) ws k n := by
  obtain ⟨rfl, hx, hb, -, -, -, -, hK, -⟩ := hX
  intro H locs ls hP hD hS hl
  subst hx9
  refine va_zald hx hb hK hP q0 t0 ha ht (iI_in hj hN) hd ?_
  rw [iI_cl (by omega)]
  exact kk H locs ls hP hD hS hl
theorem r_lald (hX : rOK F p l e R s m args below meth c Q cc nL own D tys A) (q0 t0 : Nat) {cA : ClassId} {N a : Nat} {f : Nat → Int64} (ha : ws[q0]? = some (a, .inl (cA, N, .inr (.inl f)))) (ht : tys[t0]? = some (cA, .long)) {x : Int} (j : Nat) (hx9 : x = j) (hj : j < N) (hN : N < 2147483648) (hd : decode cc pc = .ok (.laload, 1)) (kk : F (pc + 1) lv (.long (f j) :: st) ws k n) : F pc lv (.int (iI x) :: .ref a :: st) ws k n := by
  obtain ⟨rfl, hx, hb, -, -, -, -, hK, -⟩ := hX
  intro H locs ls hP hD hS hl
  subst hx9
  refine va_lald hx hb hK hP q0 t0 ha ht (iI_in hj hN) hd ?_
  rw [iI_cl (by omega)]
  exact kk H locs ls hP hD hS hl
theorem r_iast (hX : rOK F p l e R s m args below meth c Q cc nL own D tys A) (q0 t0 : Nat) {cA : ClassId} {N a : Nat} {f : Nat → Int} (ha : ws[q0]? = some (a, .inl (cA, N, .inl (iA f)))) (ht : tys[t0]? = some (cA, .int)) {x v : Int} (j : Nat) (hx9 : x = j) (hj : j < N) (hN : N < 2147483648) (hw : ws.set q0 (a, .inl (cA, N, .inl (iA (iU f j v)))) = ws') (hd : decode cc pc = .ok (.iastore, 1)) (kk : F (pc + 1) lv st ws' k n) : F pc lv (.int (iI v) :: .int (iI x) :: .ref a :: st) ws k n := by
  obtain ⟨rfl, hx, hb, -, -, -, -, hK, -⟩ := hX
  intro H locs ls hP hD hS hl
  subst hx9; subst hw
  refine va_iast hx hb hK hP hD hS q0 t0 ha ht (iI_in hj hN) hd (fun H1 locs1 hP1 hD1 hS1 => ?_)
  rw [iI_cl (by omega), iA_upd] at hP1 hD1
  exact kk H1 locs1 ls hP1 hD1 hS1 hl
theorem r_last (hX : rOK F p l e R s m args below meth c Q cc nL own D tys A) (q0 t0 : Nat) {cA : ClassId} {N a : Nat} {f : Nat → Int64} (ha : ws[q0]? = some (a, .inl (cA, N, .inr (.inl f)))) (ht : tys[t0]? = some (cA, .long)) {x : Int} {v : Int64} (j : Nat) (hx9 : x = j) (hj : j < N) (hN : N < 2147483648) (hw : ws.set q0 (a, .inl (cA, N, .inr (.inl (iU f j v)))) = ws') (hd : decode cc pc = .ok (.lastore, 1)) (kk : F (pc + 1) lv st ws' k n) : F pc lv (.long v :: .int (iI x) :: .ref a :: st) ws k n := by
  obtain ⟨rfl, hx, hb, -, -, -, -, hK, -⟩ := hX
  intro H locs ls hP hD hS hl
  subst hx9; subst hw
  refine va_last hx hb hK hP hD hS q0 t0 ha ht (iI_in hj hN) hd (fun H1 locs1 hP1 hD1 hS1 => ?_)
  rw [iI_cl (by omega)] at hP1 hD1
  exact kk H1 locs1 ls hP1 hD1 hS1 hl
theorem r_nar01 : vp_nar .boolean (iI 0) = iI 0 ∧ vp_nar .boolean (iI 1) = iI 1 := by constructor <;> decide +kernel
theorem r_zast (hX : rOK F p l e R s m args below meth c Q cc nL own D tys A) (q0 t0 : Nat) {cA : ClassId} {N a : Nat} {f : Nat → Int} (ha : ws[q0]? = some (a, .inl (cA, N, .inl (iA f)))) (ht : tys[t0]? = some (cA, .boolean)) {x v : Int} (j : Nat) (hx9 : x = j) (hj : j < N) (hN : N < 2147483648) (hv : v = 0 ∨ v = 1) (hw : ws.set q0 (a, .inl (cA, N, .inl (iA (iU f j v)))) = ws') (hd : decode cc pc = .ok (.bastore, 1)) (kk : F (pc + 1) lv st ws' k n) : F pc lv (.int (iI v) :: .int (iI x) :: .ref a :: st) ws k n := by
  obtain ⟨rfl, hx, hb, -, -, -, -, hK, -⟩ := hX
  intro H locs ls hP hD hS hl
  subst hx9; subst hw
  refine va_zast hx hb hK hP hD hS q0 t0 ha ht (iI_in hj hN) hd (fun H1 locs1 hP1 hD1 hS1 => ?_)
  have hnv : vp_nar .boolean (iI v) = iI v := by
    rcases hv with rfl | rfl
    · exact r_nar01.1
    · exact r_nar01.2
  rw [iI_cl (by omega), hnv, iA_upd] at hP1 hD1
  exact kk H1 locs1 ls hP1 hD1 hS1 hl
theorem r_alen (hX : rOK F p l e R s m args below meth c Q cc nL own D tys A) (q0 t0 : Nat) {cA : ClassId} {a N : Nat} {z : (Nat → Int32) ⊕ (Nat → Int64) ⊕ (Nat → UInt32) ⊕ (Nat → UInt64) ⊕ (Nat → Option Nat)} (ha : ws[q0]? = some (a, .inl (cA, N, z))) {ty : FieldType} (ht : tys[t0]? = some (cA, ty)) (hd : decode cc pc = .ok (.arraylength, 1)) (kk : F (pc + 1) lv (.int (iI N) :: st) ws k n) : F pc lv (.ref a :: st) ws k n := by
  obtain ⟨rfl, hx, hb, -, -, -, -, hK, -⟩ := hX
  intro H locs ls hP hD hS hl
  exact va_alen (v := iI N) hx hb hK hP q0 t0 ha ht (iI_nI N) hd (kk H locs ls hP hD hS hl)
/-- a class's tables -/
def rCF (ci : Nat) (C : String) (T : u_T) (N : Nat) (ty : Nat → FieldType) : Prop := vwCl[ci]? = some (C, T, N) ∧ (∀ w ∈ u_ws C T N, w ∈ rw_ok) ∧ (∀ k, k < N → parseFieldDescriptor (T k).2.2.1 = some (ty k)) ∧ (∀ a, a < N → ∀ b, b < N → a ≠ b → (T a).2.1 ≠ (T b).2.1)
theorem r_get (hX : rOK F p l e R s m args below meth c Q cc nL own D tys A) {ci N index : Nat} {C : String} {T : u_T} {ty : Nat → FieldType} (hc : rCF ci C T N ty) (q0 : Nat) {a : Nat} {fs : List Value} (he : ws[q0]? = some (a, .inr (ci, fs))) (i : Nat) (hi : i < N) (hlk : Cond.fieldLink own index (T i).1 (T i).2.1 (T i).2.2.1 ∈ rw_ok) {v : Value} (hv : fs[i]? = some v) (hd : decode cc pc = .ok (.getfield index, 3)) (kk : F (pc + 3) lv (v :: st) ws k n) : F pc lv (.ref a :: st) ws k n := by
  obtain ⟨rfl, hx, hb, -, ho, hts, -, hK, -⟩ := hX
  intro H locs ls hP hD hS hl
  exact va_get hx hb hts hc.2.1 ho hK hP q0 he hc.1 i hi (hts _ hlk) (fun _ h => h) hv hd (kk H locs ls hP hD hS hl)
theorem r_put (hX : rOK F p l e R s m args below meth c Q cc nL own D tys A) {ci N index : Nat} {C : String} {T : u_T} {ty : Nat → FieldType} (hc : rCF ci C T N ty) (q0 : Nat) {a : Nat} {fs : List Value} (he : ws[q0]? = some (a, .inr (ci, fs))) (i : Nat) (hi : i < N) (hlk : Cond.fieldLink own index (T i).1 (T i).2.1 (T i).2.2.1 ∈ rw_ok) {v : Value} (hfin : (T i).2.2.2 = false) (hnr : narrow (ty i) v = v) (hft : fits (ty i) v = true) (hl9 : i < fs.length) (hw : ws.set q0 (a, .inr (ci, fs.set i v)) = ws') (hd : decode cc pc = .ok (.putfield index, 3)) (kk : F (pc + 3) lv st ws' k n) : F pc lv (v :: .ref a :: st) ws k n := by
  obtain ⟨rfl, hx, hb, -, ho, hts, -, hK, -⟩ := hX
  intro H locs ls hP hD hS hl
  subst hw
  exact va_put hx hb hts hc.2.1 ty hc.2.2.1 hc.2.2.2 ho hK hP hD hS q0 he hc.1 i hi (hts _ hlk) (fun _ h => h) hfin (hc.2.2.1 i hi) hnr hft hl9 hd (fun H1 locs1 hP1 hD1 hS1 => kk H1 locs1 ls hP1 hD1 hS1 hl)
theorem r_putF (hX : rOK F p l e R s m args below meth c Q cc nL own D tys A) (hme : meth.name = "<init>") {ci N index : Nat} {C : String} {T : u_T} {ty : Nat → FieldType} (hc : rCF ci C T N ty) (q0 : Nat) {a : Nat} {fs : List Value} (he : ws[q0]? = some (a, .inr (ci, fs))) (i : Nat) (hi : i < N) (hlk : Cond.fieldLink own index (T i).1 (T i).2.1 (T i).2.2.1 ∈ rw_ok) {v : Value} (hfin : (T i).2.2.2 = true) (hdc : (T i).1 = own) (hnr : narrow (ty i) v = v) (hft : fits (ty i) v = true) (hl9 : i < fs.length) (hw : ws.set q0 (a, .inr (ci, fs.set i v)) = ws') (hd : decode cc pc = .ok (.putfield index, 3)) (kk : F (pc + 3) lv st ws' k n) : F pc lv (v :: .ref a :: st) ws k n := by
  obtain ⟨rfl, hx, hb, -, ho, hts, -, hK, -⟩ := hX
  intro H locs ls hP hD hS hl
  subst hw
  exact va_putF hx hb hts hc.2.1 ty hc.2.2.1 hc.2.2.2 ho hK hP hD hS q0 he hc.1 i hi (hts _ hlk) (fun _ h => h) hfin hme hdc (hc.2.2.1 i hi) hnr hft hl9 hd (fun H1 locs1 hP1 hD1 hS1 => kk H1 locs1 ls hP1 hD1 hS1 hl)
theorem r_new (hX : rOK F p l e R s m args below meth c Q cc nL own D tys A) {ci N index : Nat} {C : String} {T : u_T} {ty : Nat → FieldType} (hc : rCF ci C T N ty) (hl1 : Cond.classLink own index C ∈ rw_ok) (hl2 : Cond.instantiable C N ∈ rw_ok) (hl3 : Cond.initialized C ∈ rw_ok) {fs : List Value} (hfs : ∀ j, j < N → defaultValue (ty j) = vp_V fs j) (h1 : k + 1 ≤ R.cells) (h2 : n + N ≤ R.slots) (hd : decode cc pc = .ok (.new index, 3)) (kk : ∀ q : Nat, F (pc + 3) lv (.ref q :: st) (ws ++ [(q, .inr (ci, fs))]) (k + 1) (n + N)) : F pc lv st ws k n := by
  obtain ⟨rfl, hx, hb, -, ho, hts, -, hK, hA⟩ := hX
  intro H locs ls hP hD hS hl
  exact va_new hx hb hts hc.2.1 ty hc.2.2.1 ho (hts _ hl1) (hts _ hl2) (hts _ hl3) hK hP hD hS hA hc.1 hfs h1 h2 hd (fun q H1 hP1 hD1 hS1 => kk q H1 locs ls hP1 hD1 hS1 hl)
theorem r_newa (hX : rOK F p l e R s m args below meth c Q cc nL own D tys A) {atype : ArrayType} {ty : FieldType} (hty : newarray.typeOf atype = ty) (hw : Cond.arrayClass (newarray.typeOf atype) ∈ rw_ok) (t0 : Nat) {cA : ClassId} (ht : tys[t0]? = some (cA, ty)) (hob : ∀ C, ty ≠ .object C) {N : Nat} {z : (Nat → Int32) ⊕ (Nat → Int64) ⊕ (Nat → UInt32) ⊕ (Nat → UInt64) ⊕ (Nat → Option Nat)} (hz : ∀ cA : ClassId, vp_cell cA (N, z) = arrV cA N (fun _ => defaultValue ty)) {x : Int} (hx9 : x = N) (hN : N < 2147483648) (hbytes : N * componentBytes ty ≤ 536870912) (h1 : k + 1 ≤ R.cells) (h2 : n + N ≤ R.slots) (hd : decode cc pc = .ok (.newarray atype, 2)) (kk : ∀ q : Nat, F (pc + 2) lv (.ref q :: st) (ws ++ [(q, .inl (cA, N, z))]) (k + 1) (n + N)) : F pc lv (.int (iI x) :: st) ws k n := by
  obtain ⟨rfl, hx, hb, -, ho, hts, -, hK, hA⟩ := hX
  intro H locs ls hP hD hS hl
  subst hx9
  refine va_newa (N' := N) (a0 := (N, z)) hx hb (hts _ hw) hty hK hP hD hS hA hz ?_ (iI_cl hN) hbytes h1 h2 hd (fun q cB H1 hK1 hP1 hD1 hS1 => ?_)
  · rw [← iI_nI]; exact nI_pos (by omega)
  · have g1 : va_RA s cA ty := (hK.2 t0 _ ht).2
    have g2 : va_RA s cB ty := (hK1.2 tys.length (cB, ty) (by simp)).2
    have g3 : cA = cB := by
      cases ty with
      | object C => exact absurd rfl (hob C)
      | _ => exact Option.some.inj (Eq.trans (Eq.symm g1) g2)
    subst g3
    exact kk q H1 locs ls hP1 hD1 hS1 hl
theorem r_obj (hX : rOK F p l e R s m args below meth c Q cc nL own D tys A) {idx : Nat} (h1 : Cond.methodLink own idx Lib.objectInit ∈ rw_ok) (h2 : Cond.instanceMethod Lib.objectInit ∈ rw_ok) (h3 : Cond.code Lib.objectInit ⟨#[0xb1]⟩ 1 none ∈ rw_ok) {a : Nat} (hd : decode cc pc = .ok (.invokespecial idx, 3)) (hf : 1 ≤ R.frames) (hlo : (st.map fun v => v.category).sum + 12 ≤ R.locals) (kk : F (pc + 3) lv st ws k n) : F pc lv (.ref a :: st) ws k n := by
  obtain ⟨rfl, hx, hb, hml, ho, hts, -⟩ := hX
  intro H locs ls hP hD hS hl
  refine W.objInit hx hb ho (hts _ h1) (hts _ h2) (hts _ h3) rfl (by rw [hml]; exact hl.1) rfl hd hf ?_ (kk H locs ls hP hD hS hl)
  have : (F0 m pc ls (.ref a :: st)).monitorRoom = 0 := rfl
  omega
/-- the end -/
theorem r_vret {S : Type} {post : S → Prop} {w1 : S → va_W} {mc ms : Nat} (hX : rOK F p l e R s m args below meth c Q cc nL own D tys A) (hT : rRT Q below (va_Qv post (fun u => rB D tys A (w1 u)) A) args s mc ms A meth none) (u : S) (hp : post u) (hw : ws = w1 u) (hk : k ≤ mc) (hn : n ≤ ms) (hd : decode cc pc = .ok (.return_, 1)) : F pc lv [] ws k n := by
  obtain ⟨rfl, hx, hb, -, -, -, -, hK, -⟩ := hX
  obtain ⟨hQ, hr, hlk⟩ := hT
  intro H locs ls hP hD hS hl
  subst hw
  refine W.mono hQ (W.widen hk hn ?_)
  exact W.vret hx hb hr (fun t ht hW => ⟨⟨u, rfl, hp, by rw [ht]; exact hP, va_K.moved hW.alike hK, hD⟩, hS.F ht⟩) hS.2.2 hd hlk
theorem r_iret {S : Type} {post : Int32 → S → Prop} {w1 : S → va_W} {mc ms : Nat} (hX : rOK F p l e R s m args below meth c Q cc nL own D tys A) (hT : rRT Q below (va_Qi post (fun u => rB D tys A (w1 u)) A) args s mc ms A meth (some .int)) {x : Int32} (u : S) (hp : post x u) (hw : ws = w1 u) (hk : k ≤ mc) (hn : n ≤ ms) (hd : decode cc pc = .ok (.ireturn, 1)) : F pc lv [.int x] ws k n := by
  obtain ⟨rfl, hx, hb, -, -, -, -, hK, -⟩ := hX
  obtain ⟨hQ, hr, hlk⟩ := hT
  intro H locs ls hP hD hS hl
  subst hw
  refine W.mono hQ (W.widen hk hn ?_)
  exact W.iret hx hb hr (fun t ht hW => ⟨⟨x, u, rfl, hp, by rw [ht]; exact hP, va_K.moved hW.alike hK, hD⟩, hS.F ht⟩) hS.2.2 hd hlk
theorem r_zret {S : Type} {post : Int32 → S → Prop} {w1 : S → va_W} {mc ms : Nat} (hX : rOK F p l e R s m args below meth c Q cc nL own D tys A) (hT : rRT Q below (va_Qi post (fun u => rB D tys A (w1 u)) A) args s mc ms A meth (some .boolean)) {v : Int} (hv : v = 0 ∨ v = 1) (u : S) (hp : post (iI v) u) (hw : ws = w1 u) (hk : k ≤ mc) (hn : n ≤ ms) (hd : decode cc pc = .ok (.ireturn, 1)) : F pc lv [.int (iI v)] ws k n := by
  obtain ⟨rfl, hx, hb, -, -, -, -, hK, -⟩ := hX
  obtain ⟨hQ, hr, hlk⟩ := hT
  intro H locs ls hP hD hS hl
  subst hw
  refine W.mono hQ (W.widen hk hn ?_)
  have hnv : narrow .boolean (.int (iI v)) = .int (iI v) := by rcases hv with rfl | rfl <;> decide +kernel
  exact W.zret hx hb hr hnv (fun t ht hW => ⟨⟨iI v, u, rfl, hp, by rw [ht]; exact hP, va_K.moved hW.alike hK, hD⟩, hS.F ht⟩) hS.2.2 hd hlk
theorem r_lret {S : Type} {post : Int64 → S → Prop} {w1 : S → va_W} {mc ms : Nat} (hX : rOK F p l e R s m args below meth c Q cc nL own D tys A) (hT : rRT Q below (va_Ql post (fun u => rB D tys A (w1 u)) A) args s mc ms A meth (some .long)) {x : Int64} (u : S) (hp : post x u) (hw : ws = w1 u) (hk : k ≤ mc) (hn : n ≤ ms) (hd : decode cc pc = .ok (.lreturn, 1)) : F pc lv [.long x] ws k n := by
  obtain ⟨rfl, hx, hb, -, -, -, -, hK, -⟩ := hX
  obtain ⟨hQ, hr, hlk⟩ := hT
  intro H locs ls hP hD hS hl
  subst hw
  refine W.mono hQ (W.widen hk hn ?_)
  exact W.lret hx hb hr (fun t ht hW => ⟨⟨x, u, rfl, hp, by rw [ht]; exact hP, va_K.moved hW.alike hK, hD⟩, hS.F ht⟩) hS.2.2 hd hlk
/-- what a call site knows of the method that it names -/
def rYN (y : MethodName) (n9 : Nat) : Prop := y.cls ≠ "java/lang/invoke/MethodHandle" ∧ y.cls ≠ "java/lang/invoke/VarHandle" ∧ (parseMethodDescriptor y.desc).map (fun d => d.parameters.length) = some n9
theorem rYN.len {y : MethodName} {n9 : Nat} (h : rYN y n9) : ∀ sig, parseMethodDescriptor y.desc = some sig → n9 = sig.parameters.length := by
  intro sig hs
  have h2 := h.2.2
  rw [hs] at h2
  exact (Option.some.inj h2).symm
theorem rw_pay {U0 : State} {a0 : Array Value} (hts : ∀ w ∈ rw_ok, w.before a0 U0 = true) {w0 : Cond} (h0 : w0 ∈ rw_ok) : ∀ w ∈ w0 :: rw_ok, ∀ (a' : Array Value) (U : State), U0.WarmedH U.vm → w.before a' U = true := by
  refine pay_in hts (fun w h => ?_)
  rcases List.mem_cons.mp h with rfl | h
  · exact rw_good h0
  · exact rw_good h
theorem rCB {R : Room} {s : State} {args : Array Value} {own : String} {index maxL n9 : Nat} {y : MethodName} {bytes : ByteArray} {ret : Option FieldType} {rm : Room} (hts : ∀ w ∈ rw_ok, w.before args s = true) (hy : rYN y n9) (hco : Cond.code y bytes maxL ret ∈ rw_ok) (hin : Cond.initialized y.cls ∈ rw_ok) (hlk : Cond.methodLink own index y ∈ rw_ok) (hr1 : rm.frames + 1 ≤ R.frames) (hr2 : 8 + (maxL + 11) + rm.locals ≤ R.locals) :
    CallB R s args own index y bytes maxL ret (Cond.code y bytes maxL ret :: rw_ok) rm rm.cells rm.slots n9 :=
  ⟨rfl, rfl, hr1, hr2, rw_pay hts hco, List.mem_cons_self, hts _ hco, hts _ hin, ⟨hy.1, hy.2.1⟩, hy.len, hts _ hlk⟩
theorem rCN {R : Room} {s : State} {args : Array Value} {own host : String} {index maxL n9 : Nat} {y : MethodName} {bytes : ByteArray} {ret : Option FieldType} {rm : Room} (hts : ∀ w ∈ rw_ok, w.before args s = true) (hN : rNest s) (hy : rYN y n9) (hco : Cond.code y bytes maxL ret ∈ rw_ok) (hin : Cond.initialized y.cls ∈ rw_ok) (hlk : Cond.methodLinkNest own index y host ∈ rw_nest) (hr1 : rm.frames + 1 ≤ R.frames) (hr2 : 8 + (maxL + 11) + rm.locals ≤ R.locals) :
    va_CN R s args own index y host bytes maxL ret (Cond.code y bytes maxL ret :: rw_ok) rm rm.cells rm.slots n9 :=
  ⟨⟨rfl, rfl, hr1, hr2, rw_pay hts hco, List.mem_cons_self⟩, hts _ hco, hts _ hin, ⟨hy.1, hy.2.1⟩, hy.len, va_Nw.use rfl (hN _ hlk)⟩
/-- the callee's start, out of the caller's world -/
theorem rPreS {s : State} {H : Heap} {D : va_G} {tys : List (ClassId × FieldType)} {A : Nat → Prop} {ws wc : va_W} {As : List Value} (hK : va_K D vwCl tys s) (hN : rNest s) (hP : va_P D vwCl ws H) (hD : va_D A ws) (isC : List Nat) (hnC : va_nd isC = true) (hC : isC.map (fun i => ws[i]?) = wc.map some) (hC2 : isC.filterMap (fun i => ws[i]?) = wc) : PreS s H (va_Pc As (rPre D tys wc H.size)) As :=
  ⟨rPre_blind D tys wc H.size As, fun U hU hW => ⟨rfl, by rw [hU], by rw [hU]; exact hP.sub isC hC2, va_K.moved hW.alike hK, (hD.sub isC hnC hC).weaken (fun _ _ _ _ => trivial), hN.warm hW⟩⟩
theorem r_call_v {S : Type} {post : S → Prop} {w1 : S → va_W} {mc ms : Nat} {wc wr : va_W} {st0 : List Value} {a9 : Array Value} (hX : rOK F p l e R s m args below meth c Q cc nL own D tys A) (isC isR : List Nat) (hC : isC.map (fun i => ws[i]?) = wc.map some) (hR : isR.map (fun i => ws[i]?) = wr.map some) (hnd : va_nd isR = true) (hdis : ∀ i ∈ isR, i ∉ isC)
    (hrun : ∀ (H : Heap) (locs : List Loc) (ls : Array Slot), va_P D vwCl ws H → va_D A ws → lv_has ls nL lv → va_Run p l e R s m args below meth c H locs k n mc ms (F0 m pc ls st0) st (va_Qv post (fun u => rB D tys (va_A wc H.size) (w1 u)) (va_A wc H.size) a9) (va_A wc H.size))
    (kk : ∀ (u : S), post u → F (pc + 3) lv (st) (wr ++ w1 u) (k + mc) (n + ms)) : F pc lv st0 ws k n := by
  obtain ⟨rfl, hx, hb, hml, ho, hts, hN, hK, hA⟩ := hX
  intro H locs ls hP hD hS hl
  have hF := va_free (wc := wc) hD hS hA isC hC
  refine va_callv (hrun H locs ls hP hD hl) hS (fun q _ h => hF q h) hF (fun u t H1 locs1 ht hvm hw hB hz1 hk1 hS1 => ?_)
  obtain ⟨hP1, hK1, hD1⟩ := hB
  rw [ht] at hP1
  obtain ⟨hP2, hD2⟩ := va_join (wr := wr) (w1 := w1 u) hP hD isC isR hC hR hnd hdis hk1 hF hP1 hD1
  exact kk u hw H1 locs1 ls hP2 hD2 hS1 hl
theorem r_call_i {S : Type} {post : Int32 → S → Prop} {w1 : S → va_W} {mc ms : Nat} {wc wr : va_W} {st0 : List Value} {a9 : Array Value} (hX : rOK F p l e R s m args below meth c Q cc nL own D tys A) (isC isR : List Nat) (hC : isC.map (fun i => ws[i]?) = wc.map some) (hR : isR.map (fun i => ws[i]?) = wr.map some) (hnd : va_nd isR = true) (hdis : ∀ i ∈ isR, i ∉ isC)
    (hrun : ∀ (H : Heap) (locs : List Loc) (ls : Array Slot), va_P D vwCl ws H → va_D A ws → lv_has ls nL lv → va_Run p l e R s m args below meth c H locs k n mc ms (F0 m pc ls st0) st (va_Qi post (fun u => rB D tys (va_A wc H.size) (w1 u)) (va_A wc H.size) a9) (va_A wc H.size))
    (kk : ∀ (r : Int32) (u : S), post r u → F (pc + 3) lv (.int r :: st) (wr ++ w1 u) (k + mc) (n + ms)) : F pc lv st0 ws k n := by
  obtain ⟨rfl, hx, hb, hml, ho, hts, hN, hK, hA⟩ := hX
  intro H locs ls hP hD hS hl
  have hF := va_free (wc := wc) hD hS hA isC hC
  refine va_calli (hrun H locs ls hP hD hl) hS (fun q _ h => hF q h) hF (fun r u t H1 locs1 ht hvm hw hB hz1 hk1 hS1 => ?_)
  obtain ⟨hP1, hK1, hD1⟩ := hB
  rw [ht] at hP1
  obtain ⟨hP2, hD2⟩ := va_join (wr := wr) (w1 := w1 u) hP hD isC isR hC hR hnd hdis hk1 hF hP1 hD1
  exact kk r u hw H1 locs1 ls hP2 hD2 hS1 hl
theorem r_call_l {S : Type} {post : Int64 → S → Prop} {w1 : S → va_W} {mc ms : Nat} {wc wr : va_W} {st0 : List Value} {a9 : Array Value} (hX : rOK F p l e R s m args below meth c Q cc nL own D tys A) (isC isR : List Nat) (hC : isC.map (fun i => ws[i]?) = wc.map some) (hR : isR.map (fun i => ws[i]?) = wr.map some) (hnd : va_nd isR = true) (hdis : ∀ i ∈ isR, i ∉ isC)
    (hrun : ∀ (H : Heap) (locs : List Loc) (ls : Array Slot), va_P D vwCl ws H → va_D A ws → lv_has ls nL lv → va_Run p l e R s m args below meth c H locs k n mc ms (F0 m pc ls st0) st (va_Ql post (fun u => rB D tys (va_A wc H.size) (w1 u)) (va_A wc H.size) a9) (va_A wc H.size))
    (kk : ∀ (r : Int64) (u : S), post r u → F (pc + 3) lv (.long r :: st) (wr ++ w1 u) (k + mc) (n + ms)) : F pc lv st0 ws k n := by
  obtain ⟨rfl, hx, hb, hml, ho, hts, hN, hK, hA⟩ := hX
  intro H locs ls hP hD hS hl
  have hF := va_free (wc := wc) hD hS hA isC hC
  refine va_calll (hrun H locs ls hP hD hl) hS (fun q _ h => hF q h) hF (fun r u t H1 locs1 ht hvm hw hB hz1 hk1 hS1 => ?_)
  obtain ⟨hP1, hK1, hD1⟩ := hB
  rw [ht] at hP1
  obtain ⟨hP2, hD2⟩ := va_join (wr := wr) (w1 := w1 u) hP hD isC isR hC hR hnd hdis hk1 hF hP1 hD1
  exact kk r u hw H1 locs1 ls hP2 hD2 hS1 hl
theorem r_invV_v {S : Type} {post : S → Prop} {w1 : S → va_W} {wc wr : va_W} {st0 As : List Value} {b : Nat} {y : MethodName} {bytes : ByteArray} {maxL index n9 : Nat} {rm : Room} (hX : rOK F p l e R s m args below meth c Q cc nL own D tys A) (hM : rCv l y bytes maxL rm D tys (.ref b :: As) wc post w1) (C : String) (qb ci : Nat) {T : u_T} {N : Nat} {ty0 : Nat → FieldType} {fs : List Value} (hcf : rCF ci C T N ty0) (hrec : ws[qb]? = some (b, .inr (ci, fs))) (hy : rYN y n9) (hlk : Cond.methodLink own index y ∈ rw_ok) (hi1 : Cond.instanceMethod y ∈ rw_ok) (hi2 : Cond.selects C y y ∈ rw_ok) (hco : Cond.code y bytes maxL none ∈ rw_ok) (hin : Cond.initialized y.cls ∈ rw_ok) (hr1 : rm.frames + 1 ≤ R.frames) (hr2 : 8 + (maxL + 11) + rm.locals ≤ R.locals) (hr3 : k + rm.cells ≤ R.cells) (hr4 : n + rm.slots ≤ R.slots)
    (isC isR : List Nat) (hnC : va_nd isC = true) (hC : isC.map (fun i => ws[i]?) = wc.map some) (hC2 : isC.filterMap (fun i => ws[i]?) = wc) (hR : isR.map (fun i => ws[i]?) = wr.map some) (hnd : va_nd isR = true) (hdis : ∀ i ∈ isR, i ∉ isC) (hnA : As.length = n9) (hst : st0 = As.reverse ++ .ref b :: st) (hW : (st.map fun v => v.category).sum ≤ 8) (hd : decode cc pc = .ok (.invokevirtual index, 3))
    (kk : ∀ (u : S), post u → F (pc + 3) lv (st) (wr ++ w1 u) (k + rm.cells) (n + rm.slots)) : F pc lv st0 ws k n := by
  have hX' := hX
  obtain ⟨-, hx, hb, hml, ho, hts, hN, hK, hA⟩ := hX'
  refine r_call_v (a9 := ((.ref b :: As)).toArray) hX isC isR hC hR hnd hdis (fun H locs ls hP hD hl => ?_) kk
  exact va_runV (C := C) (As := As) (rest := st) (n := n9) ⟨hx, hb, hml, ho, hts⟩ (hM H.size) (rCB hts hy hco hin hlk hr1 hr2 |> fun z => ⟨z, hts _ hi1, hts _ hi2⟩) ⟨(rPreS (As := .ref b :: As) hK hN hP hD isC hnC hC hC2).1, va_recv hK hP hcf.1 hrec, (rPreS (As := .ref b :: As) hK hN hP hD isC hnC hC hC2).2⟩ rfl hnA hl.1 hst (lv_room hW) hd ⟨hr3, hr4⟩
theorem r_invV_i {S : Type} {post : Int32 → S → Prop} {w1 : S → va_W} {wc wr : va_W} {st0 As : List Value} {b : Nat} {ty : FieldType} {y : MethodName} {bytes : ByteArray} {maxL index n9 : Nat} {rm : Room} (hX : rOK F p l e R s m args below meth c Q cc nL own D tys A) (hM : rCi l y bytes maxL ty rm D tys (.ref b :: As) wc post w1) (C : String) (qb ci : Nat) {T : u_T} {N : Nat} {ty0 : Nat → FieldType} {fs : List Value} (hcf : rCF ci C T N ty0) (hrec : ws[qb]? = some (b, .inr (ci, fs))) (hy : rYN y n9) (hlk : Cond.methodLink own index y ∈ rw_ok) (hi1 : Cond.instanceMethod y ∈ rw_ok) (hi2 : Cond.selects C y y ∈ rw_ok) (hco : Cond.code y bytes maxL (some ty) ∈ rw_ok) (hin : Cond.initialized y.cls ∈ rw_ok) (hr1 : rm.frames + 1 ≤ R.frames) (hr2 : 8 + (maxL + 11) + rm.locals ≤ R.locals) (hr3 : k + rm.cells ≤ R.cells) (hr4 : n + rm.slots ≤ R.slots)
    (isC isR : List Nat) (hnC : va_nd isC = true) (hC : isC.map (fun i => ws[i]?) = wc.map some) (hC2 : isC.filterMap (fun i => ws[i]?) = wc) (hR : isR.map (fun i => ws[i]?) = wr.map some) (hnd : va_nd isR = true) (hdis : ∀ i ∈ isR, i ∉ isC) (hnA : As.length = n9) (hst : st0 = As.reverse ++ .ref b :: st) (hW : (st.map fun v => v.category).sum ≤ 8) (hd : decode cc pc = .ok (.invokevirtual index, 3))
    (kk : ∀ (r : Int32) (u : S), post r u → F (pc + 3) lv (.int r :: st) (wr ++ w1 u) (k + rm.cells) (n + rm.slots)) : F pc lv st0 ws k n := by
  have hX' := hX
  obtain ⟨-, hx, hb, hml, ho, hts, hN, hK, hA⟩ := hX'
  refine r_call_i (a9 := ((.ref b :: As)).toArray) hX isC isR hC hR hnd hdis (fun H locs ls hP hD hl => ?_) kk
  exact va_runV (C := C) (As := As) (rest := st) (n := n9) ⟨hx, hb, hml, ho, hts⟩ (hM H.size) (rCB hts hy hco hin hlk hr1 hr2 |> fun z => ⟨z, hts _ hi1, hts _ hi2⟩) ⟨(rPreS (As := .ref b :: As) hK hN hP hD isC hnC hC hC2).1, va_recv hK hP hcf.1 hrec, (rPreS (As := .ref b :: As) hK hN hP hD isC hnC hC hC2).2⟩ rfl hnA hl.1 hst (lv_room hW) hd ⟨hr3, hr4⟩
theorem r_invV_l {S : Type} {post : Int64 → S → Prop} {w1 : S → va_W} {wc wr : va_W} {st0 As : List Value} {b : Nat} {y : MethodName} {bytes : ByteArray} {maxL index n9 : Nat} {rm : Room} (hX : rOK F p l e R s m args below meth c Q cc nL own D tys A) (hM : rCl l y bytes maxL rm D tys (.ref b :: As) wc post w1) (C : String) (qb ci : Nat) {T : u_T} {N : Nat} {ty0 : Nat → FieldType} {fs : List Value} (hcf : rCF ci C T N ty0) (hrec : ws[qb]? = some (b, .inr (ci, fs))) (hy : rYN y n9) (hlk : Cond.methodLink own index y ∈ rw_ok) (hi1 : Cond.instanceMethod y ∈ rw_ok) (hi2 : Cond.selects C y y ∈ rw_ok) (hco : Cond.code y bytes maxL (some .long) ∈ rw_ok) (hin : Cond.initialized y.cls ∈ rw_ok) (hr1 : rm.frames + 1 ≤ R.frames) (hr2 : 8 + (maxL + 11) + rm.locals ≤ R.locals) (hr3 : k + rm.cells ≤ R.cells) (hr4 : n + rm.slots ≤ R.slots)
    (isC isR : List Nat) (hnC : va_nd isC = true) (hC : isC.map (fun i => ws[i]?) = wc.map some) (hC2 : isC.filterMap (fun i => ws[i]?) = wc) (hR : isR.map (fun i => ws[i]?) = wr.map some) (hnd : va_nd isR = true) (hdis : ∀ i ∈ isR, i ∉ isC) (hnA : As.length = n9) (hst : st0 = As.reverse ++ .ref b :: st) (hW : (st.map fun v => v.category).sum ≤ 8) (hd : decode cc pc = .ok (.invokevirtual index, 3))
    (kk : ∀ (r : Int64) (u : S), post r u → F (pc + 3) lv (.long r :: st) (wr ++ w1 u) (k + rm.cells) (n + rm.slots)) : F pc lv st0 ws k n := by
  have hX' := hX
  obtain ⟨-, hx, hb, hml, ho, hts, hN, hK, hA⟩ := hX'
  refine r_call_l (a9 := ((.ref b :: As)).toArray) hX isC isR hC hR hnd hdis (fun H locs ls hP hD hl => ?_) kk
  exact va_runV (C := C) (As := As) (rest := st) (n := n9) ⟨hx, hb, hml, ho, hts⟩ (hM H.size) (rCB hts hy hco hin hlk hr1 hr2 |> fun z => ⟨z, hts _ hi1, hts _ hi2⟩) ⟨(rPreS (As := .ref b :: As) hK hN hP hD isC hnC hC hC2).1, va_recv hK hP hcf.1 hrec, (rPreS (As := .ref b :: As) hK hN hP hD isC hnC hC hC2).2⟩ rfl hnA hl.1 hst (lv_room hW) hd ⟨hr3, hr4⟩
theorem r_invVN_v {host : String} {S : Type} {post : S → Prop} {w1 : S → va_W} {wc wr : va_W} {st0 As : List Value} {b : Nat} {y : MethodName} {bytes : ByteArray} {maxL index n9 : Nat} {rm : Room} (hX : rOK F p l e R s m args below meth c Q cc nL own D tys A) (hM : rCv l y bytes maxL rm D tys (.ref b :: As) wc post w1) (C : String) (qb ci : Nat) {T : u_T} {N : Nat} {ty0 : Nat → FieldType} {fs : List Value} (hcf : rCF ci C T N ty0) (hrec : ws[qb]? = some (b, .inr (ci, fs))) (hy : rYN y n9) (hlk : Cond.methodLinkNest own index y host ∈ rw_nest) (hi1 : Cond.instanceMethod y ∈ rw_ok) (hi2 : Cond.selects C y y ∈ rw_ok) (hco : Cond.code y bytes maxL none ∈ rw_ok) (hin : Cond.initialized y.cls ∈ rw_ok) (hr1 : rm.frames + 1 ≤ R.frames) (hr2 : 8 + (maxL + 11) + rm.locals ≤ R.locals) (hr3 : k + rm.cells ≤ R.cells) (hr4 : n + rm.slots ≤ R.slots)
    (isC isR : List Nat) (hnC : va_nd isC = true) (hC : isC.map (fun i => ws[i]?) = wc.map some) (hC2 : isC.filterMap (fun i => ws[i]?) = wc) (hR : isR.map (fun i => ws[i]?) = wr.map some) (hnd : va_nd isR = true) (hdis : ∀ i ∈ isR, i ∉ isC) (hnA : As.length = n9) (hst : st0 = As.reverse ++ .ref b :: st) (hW : (st.map fun v => v.category).sum ≤ 8) (hd : decode cc pc = .ok (.invokevirtual index, 3))
    (kk : ∀ (u : S), post u → F (pc + 3) lv (st) (wr ++ w1 u) (k + rm.cells) (n + rm.slots)) : F pc lv st0 ws k n := by
  have hX' := hX
  obtain ⟨-, hx, hb, hml, ho, hts, hN, hK, hA⟩ := hX'
  refine r_call_v (a9 := ((.ref b :: As)).toArray) hX isC isR hC hR hnd hdis (fun H locs ls hP hD hl => ?_) kk
  exact va_runVN (C := C) (host := host) (As := As) (rest := st) (n := n9) ⟨hx, hb, hml, ho, hts⟩ (hM H.size) ⟨rCN hts hN hy hco hin hlk hr1 hr2, hts _ hi1, hts _ hi2⟩ ⟨(rPreS (As := .ref b :: As) hK hN hP hD isC hnC hC hC2).1, va_recv hK hP hcf.1 hrec, (rPreS (As := .ref b :: As) hK hN hP hD isC hnC hC hC2).2⟩ rfl hnA hl.1 hst (lv_room hW) hd ⟨hr3, hr4⟩
theorem r_invVN_i {host : String} {S : Type} {post : Int32 → S → Prop} {w1 : S → va_W} {wc wr : va_W} {st0 As : List Value} {b : Nat} {ty : FieldType} {y : MethodName} {bytes : ByteArray} {maxL index n9 : Nat} {rm : Room} (hX : rOK F p l e R s m args below meth c Q cc nL own D tys A) (hM : rCi l y bytes maxL ty rm D tys (.ref b :: As) wc post w1) (C : String) (qb ci : Nat) {T : u_T} {N : Nat} {ty0 : Nat → FieldType} {fs : List Value} (hcf : rCF ci C T N ty0) (hrec : ws[qb]? = some (b, .inr (ci, fs))) (hy : rYN y n9) (hlk : Cond.methodLinkNest own index y host ∈ rw_nest) (hi1 : Cond.instanceMethod y ∈ rw_ok) (hi2 : Cond.selects C y y ∈ rw_ok) (hco : Cond.code y bytes maxL (some ty) ∈ rw_ok) (hin : Cond.initialized y.cls ∈ rw_ok) (hr1 : rm.frames + 1 ≤ R.frames) (hr2 : 8 + (maxL + 11) + rm.locals ≤ R.locals) (hr3 : k + rm.cells ≤ R.cells) (hr4 : n + rm.slots ≤ R.slots)
    (isC isR : List Nat) (hnC : va_nd isC = true) (hC : isC.map (fun i => ws[i]?) = wc.map some) (hC2 : isC.filterMap (fun i => ws[i]?) = wc) (hR : isR.map (fun i => ws[i]?) = wr.map some) (hnd : va_nd isR = true) (hdis : ∀ i ∈ isR, i ∉ isC) (hnA : As.length = n9) (hst : st0 = As.reverse ++ .ref b :: st) (hW : (st.map fun v => v.category).sum ≤ 8) (hd : decode cc pc = .ok (.invokevirtual index, 3))
    (kk : ∀ (r : Int32) (u : S), post r u → F (pc + 3) lv (.int r :: st) (wr ++ w1 u) (k + rm.cells) (n + rm.slots)) : F pc lv st0 ws k n := by
  have hX' := hX
  obtain ⟨-, hx, hb, hml, ho, hts, hN, hK, hA⟩ := hX'
  refine r_call_i (a9 := ((.ref b :: As)).toArray) hX isC isR hC hR hnd hdis (fun H locs ls hP hD hl => ?_) kk
  exact va_runVN (C := C) (host := host) (As := As) (rest := st) (n := n9) ⟨hx, hb, hml, ho, hts⟩ (hM H.size) ⟨rCN hts hN hy hco hin hlk hr1 hr2, hts _ hi1, hts _ hi2⟩ ⟨(rPreS (As := .ref b :: As) hK hN hP hD isC hnC hC hC2).1, va_recv hK hP hcf.1 hrec, (rPreS (As := .ref b :: As) hK hN hP hD isC hnC hC hC2).2⟩ rfl hnA hl.1 hst (lv_room hW) hd ⟨hr3, hr4⟩
theorem r_invVN_l {host : String} {S : Type} {post : Int64 → S → Prop} {w1 : S → va_W} {wc wr : va_W} {st0 As : List Value} {b : Nat} {y : MethodName} {bytes : ByteArray} {maxL index n9 : Nat} {rm : Room} (hX : rOK F p l e R s m args below meth c Q cc nL own D tys A) (hM : rCl l y bytes maxL rm D tys (.ref b :: As) wc post w1) (C : String) (qb ci : Nat) {T : u_T} {N : Nat} {ty0 : Nat → FieldType} {fs : List Value} (hcf : rCF ci C T N ty0) (hrec : ws[qb]? = some (b, .inr (ci, fs))) (hy : rYN y n9) (hlk : Cond.methodLinkNest own index y host ∈ rw_nest) (hi1 : Cond.instanceMethod y ∈ rw_ok) (hi2 : Cond.selects C y y ∈ rw_ok) (hco : Cond.code y bytes maxL (some .long) ∈ rw_ok) (hin : Cond.initialized y.cls ∈ rw_ok) (hr1 : rm.frames + 1 ≤ R.frames) (hr2 : 8 + (maxL + 11) + rm.locals ≤ R.locals) (hr3 : k + rm.cells ≤ R.cells) (hr4 : n + rm.slots ≤ R.slots)
    (isC isR : List Nat) (hnC : va_nd isC = true) (hC : isC.map (fun i => ws[i]?) = wc.map some) (hC2 : isC.filterMap (fun i => ws[i]?) = wc) (hR : isR.map (fun i => ws[i]?) = wr.map some) (hnd : va_nd isR = true) (hdis : ∀ i ∈ isR, i ∉ isC) (hnA : As.length = n9) (hst : st0 = As.reverse ++ .ref b :: st) (hW : (st.map fun v => v.category).sum ≤ 8) (hd : decode cc pc = .ok (.invokevirtual index, 3))
    (kk : ∀ (r : Int64) (u : S), post r u → F (pc + 3) lv (.long r :: st) (wr ++ w1 u) (k + rm.cells) (n + rm.slots)) : F pc lv st0 ws k n := by
  have hX' := hX
  obtain ⟨-, hx, hb, hml, ho, hts, hN, hK, hA⟩ := hX'
  refine r_call_l (a9 := ((.ref b :: As)).toArray) hX isC isR hC hR hnd hdis (fun H locs ls hP hD hl => ?_) kk
  exact va_runVN (C := C) (host := host) (As := As) (rest := st) (n := n9) ⟨hx, hb, hml, ho, hts⟩ (hM H.size) ⟨rCN hts hN hy hco hin hlk hr1 hr2, hts _ hi1, hts _ hi2⟩ ⟨(rPreS (As := .ref b :: As) hK hN hP hD isC hnC hC hC2).1, va_recv hK hP hcf.1 hrec, (rPreS (As := .ref b :: As) hK hN hP hD isC hnC hC hC2).2⟩ rfl hnA hl.1 hst (lv_room hW) hd ⟨hr3, hr4⟩
theorem r_invS_v {S : Type} {post : S → Prop} {w1 : S → va_W} {wc wr : va_W} {st0 As : List Value} {y : MethodName} {bytes : ByteArray} {maxL index n9 : Nat} {rm : Room} (hX : rOK F p l e R s m args below meth c Q cc nL own D tys A) (hM : rCv l y bytes maxL rm D tys As wc post w1)  (hy : rYN y n9) (hlk : Cond.methodLink own index y ∈ rw_ok) (hi1 : Cond.static y ∈ rw_ok) (hco : Cond.code y bytes maxL none ∈ rw_ok) (hin : Cond.initialized y.cls ∈ rw_ok) (hr1 : rm.frames + 1 ≤ R.frames) (hr2 : 8 + (maxL + 11) + rm.locals ≤ R.locals) (hr3 : k + rm.cells ≤ R.cells) (hr4 : n + rm.slots ≤ R.slots)
    (isC isR : List Nat) (hnC : va_nd isC = true) (hC : isC.map (fun i => ws[i]?) = wc.map some) (hC2 : isC.filterMap (fun i => ws[i]?) = wc) (hR : isR.map (fun i => ws[i]?) = wr.map some) (hnd : va_nd isR = true) (hdis : ∀ i ∈ isR, i ∉ isC) (hnA : As.length = n9) (hst : st0 = As.reverse ++ st) (hW : (st.map fun v => v.category).sum ≤ 8) (hd : decode cc pc = .ok (.invokestatic index, 3))
    (kk : ∀ (u : S), post u → F (pc + 3) lv (st) (wr ++ w1 u) (k + rm.cells) (n + rm.slots)) : F pc lv st0 ws k n := by
  have hX' := hX
  obtain ⟨-, hx, hb, hml, ho, hts, hN, hK, hA⟩ := hX'
  refine r_call_v (a9 := (As).toArray) hX isC isR hC hR hnd hdis (fun H locs ls hP hD hl => ?_) kk
  exact va_runS (As := As) (rest := st) (n := n9) ⟨hx, hb, hml, ho, hts⟩ (hM H.size) ⟨rCB hts hy hco hin hlk hr1 hr2, hts _ hi1⟩ (rPreS (As := As) hK hN hP hD isC hnC hC hC2) rfl hnA hl.1 hst (lv_room hW) hd ⟨hr3, hr4⟩
theorem r_invS_i {S : Type} {post : Int32 → S → Prop} {w1 : S → va_W} {wc wr : va_W} {st0 As : List Value} {ty : FieldType} {y : MethodName} {bytes : ByteArray} {maxL index n9 : Nat} {rm : Room} (hX : rOK F p l e R s m args below meth c Q cc nL own D tys A) (hM : rCi l y bytes maxL ty rm D tys As wc post w1)  (hy : rYN y n9) (hlk : Cond.methodLink own index y ∈ rw_ok) (hi1 : Cond.static y ∈ rw_ok) (hco : Cond.code y bytes maxL (some ty) ∈ rw_ok) (hin : Cond.initialized y.cls ∈ rw_ok) (hr1 : rm.frames + 1 ≤ R.frames) (hr2 : 8 + (maxL + 11) + rm.locals ≤ R.locals) (hr3 : k + rm.cells ≤ R.cells) (hr4 : n + rm.slots ≤ R.slots)
    (isC isR : List Nat) (hnC : va_nd isC = true) (hC : isC.map (fun i => ws[i]?) = wc.map some) (hC2 : isC.filterMap (fun i => ws[i]?) = wc) (hR : isR.map (fun i => ws[i]?) = wr.map some) (hnd : va_nd isR = true) (hdis : ∀ i ∈ isR, i ∉ isC) (hnA : As.length = n9) (hst : st0 = As.reverse ++ st) (hW : (st.map fun v => v.category).sum ≤ 8) (hd : decode cc pc = .ok (.invokestatic index, 3))
    (kk : ∀ (r : Int32) (u : S), post r u → F (pc + 3) lv (.int r :: st) (wr ++ w1 u) (k + rm.cells) (n + rm.slots)) : F pc lv st0 ws k n := by
  have hX' := hX
  obtain ⟨-, hx, hb, hml, ho, hts, hN, hK, hA⟩ := hX'
  refine r_call_i (a9 := (As).toArray) hX isC isR hC hR hnd hdis (fun H locs ls hP hD hl => ?_) kk
  exact va_runS (As := As) (rest := st) (n := n9) ⟨hx, hb, hml, ho, hts⟩ (hM H.size) ⟨rCB hts hy hco hin hlk hr1 hr2, hts _ hi1⟩ (rPreS (As := As) hK hN hP hD isC hnC hC hC2) rfl hnA hl.1 hst (lv_room hW) hd ⟨hr3, hr4⟩
theorem r_invS_l {S : Type} {post : Int64 → S → Prop} {w1 : S → va_W} {wc wr : va_W} {st0 As : List Value} {y : MethodName} {bytes : ByteArray} {maxL index n9 : Nat} {rm : Room} (hX : rOK F p l e R s m args below meth c Q cc nL own D tys A) (hM : rCl l y bytes maxL rm D tys As wc post w1)  (hy : rYN y n9) (hlk : Cond.methodLink own index y ∈ rw_ok) (hi1 : Cond.static y ∈ rw_ok) (hco : Cond.code y bytes maxL (some .long) ∈ rw_ok) (hin : Cond.initialized y.cls ∈ rw_ok) (hr1 : rm.frames + 1 ≤ R.frames) (hr2 : 8 + (maxL + 11) + rm.locals ≤ R.locals) (hr3 : k + rm.cells ≤ R.cells) (hr4 : n + rm.slots ≤ R.slots)
    (isC isR : List Nat) (hnC : va_nd isC = true) (hC : isC.map (fun i => ws[i]?) = wc.map some) (hC2 : isC.filterMap (fun i => ws[i]?) = wc) (hR : isR.map (fun i => ws[i]?) = wr.map some) (hnd : va_nd isR = true) (hdis : ∀ i ∈ isR, i ∉ isC) (hnA : As.length = n9) (hst : st0 = As.reverse ++ st) (hW : (st.map fun v => v.category).sum ≤ 8) (hd : decode cc pc = .ok (.invokestatic index, 3))
    (kk : ∀ (r : Int64) (u : S), post r u → F (pc + 3) lv (.long r :: st) (wr ++ w1 u) (k + rm.cells) (n + rm.slots)) : F pc lv st0 ws k n := by
  have hX' := hX
  obtain ⟨-, hx, hb, hml, ho, hts, hN, hK, hA⟩ := hX'
  refine r_call_l (a9 := (As).toArray) hX isC isR hC hR hnd hdis (fun H locs ls hP hD hl => ?_) kk
  exact va_runS (As := As) (rest := st) (n := n9) ⟨hx, hb, hml, ho, hts⟩ (hM H.size) ⟨rCB hts hy hco hin hlk hr1 hr2, hts _ hi1⟩ (rPreS (As := As) hK hN hP hD isC hnC hC hC2) rfl hnA hl.1 hst (lv_room hW) hd ⟨hr3, hr4⟩
theorem r_invSN_v {host : String} {S : Type} {post : S → Prop} {w1 : S → va_W} {wc wr : va_W} {st0 As : List Value} {y : MethodName} {bytes : ByteArray} {maxL index n9 : Nat} {rm : Room} (hX : rOK F p l e R s m args below meth c Q cc nL own D tys A) (hM : rCv l y bytes maxL rm D tys As wc post w1)  (hy : rYN y n9) (hlk : Cond.methodLinkNest own index y host ∈ rw_nest) (hi1 : Cond.static y ∈ rw_ok) (hco : Cond.code y bytes maxL none ∈ rw_ok) (hin : Cond.initialized y.cls ∈ rw_ok) (hr1 : rm.frames + 1 ≤ R.frames) (hr2 : 8 + (maxL + 11) + rm.locals ≤ R.locals) (hr3 : k + rm.cells ≤ R.cells) (hr4 : n + rm.slots ≤ R.slots)
    (isC isR : List Nat) (hnC : va_nd isC = true) (hC : isC.map (fun i => ws[i]?) = wc.map some) (hC2 : isC.filterMap (fun i => ws[i]?) = wc) (hR : isR.map (fun i => ws[i]?) = wr.map some) (hnd : va_nd isR = true) (hdis : ∀ i ∈ isR, i ∉ isC) (hnA : As.length = n9) (hst : st0 = As.reverse ++ st) (hW : (st.map fun v => v.category).sum ≤ 8) (hd : decode cc pc = .ok (.invokestatic index, 3))
    (kk : ∀ (u : S), post u → F (pc + 3) lv (st) (wr ++ w1 u) (k + rm.cells) (n + rm.slots)) : F pc lv st0 ws k n := by
  have hX' := hX
  obtain ⟨-, hx, hb, hml, ho, hts, hN, hK, hA⟩ := hX'
  refine r_call_v (a9 := (As).toArray) hX isC isR hC hR hnd hdis (fun H locs ls hP hD hl => ?_) kk
  exact va_runSN (host := host) (As := As) (rest := st) (n := n9) ⟨hx, hb, hml, ho, hts⟩ (hM H.size) ⟨rCN hts hN hy hco hin hlk hr1 hr2, hts _ hi1, trivial⟩ (rPreS (As := As) hK hN hP hD isC hnC hC hC2) rfl hnA hl.1 hst (lv_room hW) hd ⟨hr3, hr4⟩
theorem r_invSN_i {host : String} {S : Type} {post : Int32 → S → Prop} {w1 : S → va_W} {wc wr : va_W} {st0 As : List Value} {ty : FieldType} {y : MethodName} {bytes : ByteArray} {maxL index n9 : Nat} {rm : Room} (hX : rOK F p l e R s m args below meth c Q cc nL own D tys A) (hM : rCi l y bytes maxL ty rm D tys As wc post w1)  (hy : rYN y n9) (hlk : Cond.methodLinkNest own index y host ∈ rw_nest) (hi1 : Cond.static y ∈ rw_ok) (hco : Cond.code y bytes maxL (some ty) ∈ rw_ok) (hin : Cond.initialized y.cls ∈ rw_ok) (hr1 : rm.frames + 1 ≤ R.frames) (hr2 : 8 + (maxL + 11) + rm.locals ≤ R.locals) (hr3 : k + rm.cells ≤ R.cells) (hr4 : n + rm.slots ≤ R.slots)
    (isC isR : List Nat) (hnC : va_nd isC = true) (hC : isC.map (fun i => ws[i]?) = wc.map some) (hC2 : isC.filterMap (fun i => ws[i]?) = wc) (hR : isR.map (fun i => ws[i]?) = wr.map some) (hnd : va_nd isR = true) (hdis : ∀ i ∈ isR, i ∉ isC) (hnA : As.length = n9) (hst : st0 = As.reverse ++ st) (hW : (st.map fun v => v.category).sum ≤ 8) (hd : decode cc pc = .ok (.invokestatic index, 3))
    (kk : ∀ (r : Int32) (u : S), post r u → F (pc + 3) lv (.int r :: st) (wr ++ w1 u) (k + rm.cells) (n + rm.slots)) : F pc lv st0 ws k n := by
  have hX' := hX
  obtain ⟨-, hx, hb, hml, ho, hts, hN, hK, hA⟩ := hX'
  refine r_call_i (a9 := (As).toArray) hX isC isR hC hR hnd hdis (fun H locs ls hP hD hl => ?_) kk
  exact va_runSN (host := host) (As := As) (rest := st) (n := n9) ⟨hx, hb, hml, ho, hts⟩ (hM H.size) ⟨rCN hts hN hy hco hin hlk hr1 hr2, hts _ hi1, trivial⟩ (rPreS (As := As) hK hN hP hD isC hnC hC hC2) rfl hnA hl.1 hst (lv_room hW) hd ⟨hr3, hr4⟩
theorem r_invSN_l {host : String} {S : Type} {post : Int64 → S → Prop} {w1 : S → va_W} {wc wr : va_W} {st0 As : List Value} {y : MethodName} {bytes : ByteArray} {maxL index n9 : Nat} {rm : Room} (hX : rOK F p l e R s m args below meth c Q cc nL own D tys A) (hM : rCl l y bytes maxL rm D tys As wc post w1)  (hy : rYN y n9) (hlk : Cond.methodLinkNest own index y host ∈ rw_nest) (hi1 : Cond.static y ∈ rw_ok) (hco : Cond.code y bytes maxL (some .long) ∈ rw_ok) (hin : Cond.initialized y.cls ∈ rw_ok) (hr1 : rm.frames + 1 ≤ R.frames) (hr2 : 8 + (maxL + 11) + rm.locals ≤ R.locals) (hr3 : k + rm.cells ≤ R.cells) (hr4 : n + rm.slots ≤ R.slots)
    (isC isR : List Nat) (hnC : va_nd isC = true) (hC : isC.map (fun i => ws[i]?) = wc.map some) (hC2 : isC.filterMap (fun i => ws[i]?) = wc) (hR : isR.map (fun i => ws[i]?) = wr.map some) (hnd : va_nd isR = true) (hdis : ∀ i ∈ isR, i ∉ isC) (hnA : As.length = n9) (hst : st0 = As.reverse ++ st) (hW : (st.map fun v => v.category).sum ≤ 8) (hd : decode cc pc = .ok (.invokestatic index, 3))
    (kk : ∀ (r : Int64) (u : S), post r u → F (pc + 3) lv (.long r :: st) (wr ++ w1 u) (k + rm.cells) (n + rm.slots)) : F pc lv st0 ws k n := by
  have hX' := hX
  obtain ⟨-, hx, hb, hml, ho, hts, hN, hK, hA⟩ := hX'
  refine r_call_l (a9 := (As).toArray) hX isC isR hC hR hnd hdis (fun H locs ls hP hD hl => ?_) kk
  exact va_runSN (host := host) (As := As) (rest := st) (n := n9) ⟨hx, hb, hml, ho, hts⟩ (hM H.size) ⟨rCN hts hN hy hco hin hlk hr1 hr2, hts _ hi1, trivial⟩ (rPreS (As := As) hK hN hP hD isC hnC hC hC2) rfl hnA hl.1 hst (lv_room hW) hd ⟨hr3, hr4⟩
theorem r_invI_v {S : Type} {post : S → Prop} {w1 : S → va_W} {wc wr : va_W} {st0 As : List Value} {b : Nat} {y : MethodName} {bytes : ByteArray} {maxL index n9 : Nat} {rm : Room} (hX : rOK F p l e R s m args below meth c Q cc nL own D tys A) (hM : rCv l y bytes maxL rm D tys (.ref b :: As) wc post w1)  (hy : rYN y n9) (hlk : Cond.methodLink own index y ∈ rw_ok) (hi1 : Cond.instanceMethod y ∈ rw_ok) (hi2 : y.name = "<init>") (hco : Cond.code y bytes maxL none ∈ rw_ok) (hin : Cond.initialized y.cls ∈ rw_ok) (hr1 : rm.frames + 1 ≤ R.frames) (hr2 : 8 + (maxL + 11) + rm.locals ≤ R.locals) (hr3 : k + rm.cells ≤ R.cells) (hr4 : n + rm.slots ≤ R.slots)
    (isC isR : List Nat) (hnC : va_nd isC = true) (hC : isC.map (fun i => ws[i]?) = wc.map some) (hC2 : isC.filterMap (fun i => ws[i]?) = wc) (hR : isR.map (fun i => ws[i]?) = wr.map some) (hnd : va_nd isR = true) (hdis : ∀ i ∈ isR, i ∉ isC) (hnA : As.length = n9) (hst : st0 = As.reverse ++ .ref b :: st) (hW : (st.map fun v => v.category).sum ≤ 8) (hd : decode cc pc = .ok (.invokespecial index, 3))
    (kk : ∀ (u : S), post u → F (pc + 3) lv (st) (wr ++ w1 u) (k + rm.cells) (n + rm.slots)) : F pc lv st0 ws k n := by
  have hX' := hX
  obtain ⟨-, hx, hb, hml, ho, hts, hN, hK, hA⟩ := hX'
  refine r_call_v (a9 := ((.ref b :: As)).toArray) hX isC isR hC hR hnd hdis (fun H locs ls hP hD hl => ?_) kk
  exact va_runI (As := As) (rest := st) (n := n9) ⟨hx, hb, hml, ho, hts⟩ (hM H.size) ⟨rCB hts hy hco hin hlk hr1 hr2, hi2, hts _ hi1⟩ (rPreS (As := (.ref b :: As)) hK hN hP hD isC hnC hC hC2) rfl hnA hl.1 hst (lv_room hW) hd ⟨hr3, hr4⟩
theorem r_invIN_v {host : String} {S : Type} {post : S → Prop} {w1 : S → va_W} {wc wr : va_W} {st0 As : List Value} {b : Nat} {y : MethodName} {bytes : ByteArray} {maxL index n9 : Nat} {rm : Room} (hX : rOK F p l e R s m args below meth c Q cc nL own D tys A) (hM : rCv l y bytes maxL rm D tys (.ref b :: As) wc post w1)  (hy : rYN y n9) (hlk : Cond.methodLinkNest own index y host ∈ rw_nest) (hi1 : Cond.instanceMethod y ∈ rw_ok) (hi2 : y.name = "<init>") (hco : Cond.code y bytes maxL none ∈ rw_ok) (hin : Cond.initialized y.cls ∈ rw_ok) (hr1 : rm.frames + 1 ≤ R.frames) (hr2 : 8 + (maxL + 11) + rm.locals ≤ R.locals) (hr3 : k + rm.cells ≤ R.cells) (hr4 : n + rm.slots ≤ R.slots)
    (isC isR : List Nat) (hnC : va_nd isC = true) (hC : isC.map (fun i => ws[i]?) = wc.map some) (hC2 : isC.filterMap (fun i => ws[i]?) = wc) (hR : isR.map (fun i => ws[i]?) = wr.map some) (hnd : va_nd isR = true) (hdis : ∀ i ∈ isR, i ∉ isC) (hnA : As.length = n9) (hst : st0 = As.reverse ++ .ref b :: st) (hW : (st.map fun v => v.category).sum ≤ 8) (hd : decode cc pc = .ok (.invokespecial index, 3))
    (kk : ∀ (u : S), post u → F (pc + 3) lv (st) (wr ++ w1 u) (k + rm.cells) (n + rm.slots)) : F pc lv st0 ws k n := by
  have hX' := hX
  obtain ⟨-, hx, hb, hml, ho, hts, hN, hK, hA⟩ := hX'
  refine r_call_v (a9 := ((.ref b :: As)).toArray) hX isC isR hC hR hnd hdis (fun H locs ls hP hD hl => ?_) kk
  exact va_runIN (host := host) (As := As) (rest := st) (n := n9) ⟨hx, hb, hml, ho, hts⟩ (hM H.size) ⟨rCN hts hN hy hco hin hlk hr1 hr2, hi2, hts _ hi1⟩ (rPreS (As := (.ref b :: As)) hK hN hP hD isC hnC hC hC2) rfl hnA hl.1 hst (lv_room hW) hd ⟨hr3, hr4⟩
end RL
