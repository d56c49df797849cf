/-! The search through a table whose rows may not be resolved yet. -/
section CS
variable {e : Env} {S : State} {f : JFrame} {a : Addr}
/-- one row that holds the pc and names a class: that class is noted, and the object's class decides -/
theorem c_row {x : ExceptionTableEntry} {t : List ExceptionTableEntry} {cx : ClassId} {cell : Cell} (hx : covers x f.pc = true) (h0 : x.catchType ≠ 0) (hl : S.vm.ClassLinks e.platform f.method.cls x.catchType cx) (hcell : S.heap[a]? = some cell) (hobj : ∀ k, cell.vm ≠ .statics k) (hk : ∃ k, S.vm.classes[cell.cls]? = some k) (hc : ∃ k, S.vm.classes[cx]? = some k) (Q : Handler → Pre) (E : CtlPost) (d : Bool) (acts : List Action) :
    wp (findHandler.go f a (x :: t)) Q E e d acts S ↔ if S.vm.assignable cell.cls cx = true then Q (.found x.handlerPc) d acts (S.setVm (S.vm.noted f.method.cls x.catchType (.cls cx))) else wp (findHandler.go f a t) Q E e d acts (S.setVm (S.vm.noted f.method.cls x.catchType (.cls cx))) := by
  have hy : (decide (x.startPc ≤ f.pc) && decide (f.pc < x.endPc)) = true := hx
  obtain ⟨w1, w2⟩ := (resolveClass_links e.toSetting hl).op (op := VmOp.resolveClass f.method.cls x.catchType) rfl
  have hal : S.vm.Alike (S.vm.noted f.method.cls x.catchType (.cls cx)) := (Vm.Alike.refl S.vm).noted _ _ _
  obtain ⟨k1, hk1⟩ := hk
  obtain ⟨k2, hk2⟩ := hc
  obtain ⟨k3, hk3, -⟩ := hal.2.2 _ _ hk1
  obtain ⟨k4, hk4, -⟩ := hal.2.2 _ _ hk2
  have hs : (S.vm.noted f.method.cls x.catchType (.cls cx)).assignable cell.cls cx = S.vm.assignable cell.cls cx := by rw [hal.assignable]
  generalize hv : S.vm.assignable cell.cls cx = b at hs ⊢
  cases b <;> simp [findHandler.go, hy, h0, w1, w2, hcell, hobj, hk3, hk4, hs, VmOp.dirties, VmOp.acts]
/-- rows that the object passes, then one that takes it -/
theorem c_rows {s0 : State} {cell : Cell} (hobj : ∀ k, cell.vm ≠ .statics k) (hk0 : ∃ k, s0.vm.classes[cell.cls]? = some k) {x : ExceptionTableEntry} (rest : List ExceptionTableEntry) (hx : covers x f.pc = true) (h0 : x.catchType ≠ 0) {cx : ClassId} (hl : s0.vm.ClassLinks e.platform f.method.cls x.catchType cx) (hfit : s0.vm.assignable cell.cls cx = true) :
    ∀ (pre : List ExceptionTableEntry) (S : State), s0.WarmedH S.vm → S.heap[a]? = some cell → (∀ y ∈ pre, covers y f.pc = true ∧ y.catchType ≠ 0 ∧ ∃ cy, s0.vm.ClassLinks e.platform f.method.cls y.catchType cy ∧ s0.vm.assignable cell.cls cy = false) →
      ∃ vm9, s0.WarmedH vm9 ∧ ∀ (Q : Handler → Pre) (E : CtlPost) (d : Bool) (acts : List Action), wp (findHandler.go f a (pre ++ x :: rest)) Q E e d acts S ↔ Q (.found x.handlerPc) d acts (S.setVm vm9)
  | [], S, hW, hcell, _ => by
    obtain ⟨k0, hk0⟩ := hk0
    obtain ⟨k1, hk1, -⟩ := hW.alike.2.2 _ _ hk0
    obtain ⟨dk, _, _, kt, hd, _, _, _, _, hkt, _, hopen⟩ := hl.here
    obtain ⟨k2, hk2, -⟩ := hW.alike.2.2 _ _ hkt
    refine ⟨_, hW.noted hd hopen (State.rightAt_cls hl), fun Q E d acts => ?_⟩
    rw [List.nil_append, c_row hx h0 (hW.classLinks hl) hcell hobj ⟨k1, hk1⟩ ⟨k2, hk2⟩, if_pos (by rw [hW.alike.assignable]; exact hfit)]
  | y :: ys, S, hW, hcell, hpass => by
    obtain ⟨hy, hy0, cy, hly, hno⟩ := hpass y List.mem_cons_self
    have hk9 := hk0
    obtain ⟨k0, hk8⟩ := hk0
    obtain ⟨k1, hk1, -⟩ := hW.alike.2.2 _ _ hk8
    obtain ⟨dk, _, _, kt, hd, _, _, _, _, hkt, _, hopen⟩ := hly.here
    obtain ⟨k2, hk2, -⟩ := hW.alike.2.2 _ _ hkt
    have hW2 := hW.noted hd hopen (State.rightAt_cls hly)
    obtain ⟨vm9, h1, h2⟩ := c_rows hobj hk9 rest hx h0 hl hfit ys (S.setVm (S.vm.noted f.method.cls y.catchType (.cls cy))) hW2 hcell (fun z hz => hpass z (List.mem_cons_of_mem _ hz))
    refine ⟨vm9, h1, fun Q E d acts => ?_⟩
    rw [List.cons_append, c_row hy hy0 (hW.classLinks hly) hcell hobj ⟨k1, hk1⟩ ⟨k2, hk2⟩, if_neg (by rw [hW.alike.assignable, hno]; decide)]
    exact h2 Q E d acts
/-- the step of the machine: the note goes, the frame stands at the handler, the tables have what the search noted -/
theorem c_step {r : List Frame} {pc : Nat} {vm9 : Vm} (h : ∀ (Q : Handler → Pre) (E : CtlPost) (d : Bool) (acts : List Action), wp (findHandler f a) Q E e d acts S ↔ Q (.found pc) d acts (S.setVm vm9)) :
    (stepThrowing e S a (.java f :: r)).Is ((S.setVm vm9).setFrames (.java { f with pc := pc, stack := [.ref a] } :: r)) [] := by
  simp only [stepThrowing, searchFrame, vmDo]
  generalize hr : Sem.go _ e false [] S = res
  obtain ⟨as, rfl, ha⟩ := Sem.eq_ok_of hr (a := Handler.found pc) (s' := S.setVm vm9) (acts' := []) (by simp [h])
  exact ⟨rfl, ha⟩
end CS
section CS2
variable {p : Program} {l : Launch} {e : Env} {R : Room} {s : State} {m : MethodId} {args : Array Value} {below : List Frame} {meth : Method} {c : Code} {T : State} {locs : List Loc} {k n : Nat}
/-- from the note over the frame g to the handler -/
theorem c_caught (X : Stand p l e R s m args below meth c T locs k n) (z : Addr) {g : JFrame} (hg : g.method = m) {cell : Cell} (hcell : T.heap[z]? = some cell) (hobj : cell.vm.isStatics = false) (hk0 : ∃ kk, s.vm.classes[cell.cls]? = some kk)
    (pre : List ExceptionTableEntry) (x : ExceptionTableEntry) (rest : List ExceptionTableEntry) (hsplit : c.exceptionTable.toList = pre ++ x :: rest) (hx : covers x g.pc = true) (h0 : x.catchType ≠ 0) {cx : ClassId} (hl : s.vm.ClassLinks e.platform m.cls x.catchType cx) (hfit : s.vm.assignable cell.cls cx = true)
    (hpass : ∀ y ∈ pre, covers y g.pc = true ∧ y.catchType ≠ 0 ∧ ∃ cy, s.vm.ClassLinks e.platform m.cls y.catchType cy ∧ s.vm.assignable cell.cls cy = false) :
    ∃ vm9, Stand p l e R s m args below meth c (T.setVm vm9) locs k n ∧ ∀ target, Steps p.tables e below ((T.setVm vm9).setTop { g with pc := x.handlerPc, stack := [.ref z] }) target → Steps p.tables e below ((T.setTop g).pushFrame (.throwing z)) target := by
  subst hg
  have hvm : ((T.setTop g).pushFrame (.throwing z)).vm = T.vm := Stand.throwing_vm T g z
  have hhp : ((T.setTop g).pushFrame (.throwing z)).heap = T.heap := Stand.throwing_heap T g z
  obtain ⟨vm9, hW9, hq⟩ := c_rows (e := e) (f := g) (a := z) (s0 := s) (VmData.ne_statics_of hobj) hk0 rest hx h0 hl hfit pre ((T.setTop g).pushFrame (.throwing z)) (by rw [hvm]; exact X.warmed) (by rw [hhp]; exact hcell) hpass
  refine ⟨vm9, X.noted hW9, fun target hgo => ?_⟩
  have hAt := X.here
  obtain ⟨w1, w2⟩ := hAt.throwing z
  refine Steps.head w1 w2 ?_
  have hfind : ∀ (Q : Handler → Pre) (E : CtlPost) (d : Bool) (acts : List Action), wp (findHandler g z) Q E e d acts ((T.setTop g).pushFrame (.throwing z)) ↔ Q (.found x.handlerPc) d acts (((T.setTop g).pushFrame (.throwing z)).setVm vm9) := fun Q E d acts => by
    rw [W.findHandler_eq (meth := meth) (code := c) (by rw [hvm]; exact X.method') X.code, hsplit]
    exact hq Q E d acts
  rw [stepThread_throwing (frames_entered hAt.top _), (c_step hfind).1]
  obtain ⟨g0, hfr⟩ := X.frames_eq
  have hfr2 : (T.setVm vm9).frames = .java g0 :: below := hfr
  rw [State.setTop_of_frames _ hfr2] at hgo
  have e1 : ((T.setTop g).pushFrame (.throwing z)) = T.setFrames (.throwing z :: .java g :: below) := by
    rw [State.pushFrame, State.frames_setTop _ hfr, State.setTop_of_frames _ hfr, State.setFrames_setFrames]
  rw [e1, hfr, List.tail_cons]
  have e2 : ((T.setFrames (.throwing z :: .java g :: below)).setVm vm9) = (T.setVm vm9).setFrames (.throwing z :: .java g :: below) := rfl
  rw [e2, State.setFrames_setFrames]
  exact hgo
end CS2
/-! Methods with handlers: the wrappers. -/
def wEnt (q : Nat × Nat × Nat × Nat) : ExceptionTableEntry := ⟨q.1, q.2.1, q.2.2.1, q.2.2.2⟩
def wOK (hh : List (Nat × Nat × Nat × Nat)) (A : Nat → Prop) (s : State) (c : Code) : Prop := tZ s ∧ tN9 A s.heap ∧ c.exceptionTable.toList = hh.map wEnt
/-- a contract of a method with handlers -/
def wCi (l : Launch) (y : MethodName) (cc : ByteArray) (nL : Nat) (hh : List (Nat × Nat × Nat × Nat)) (rm : Room) (D : va_G) (tys : List (ClassId × FieldType)) (av : List Value) (wc : va_W) {S : Type} (post : Int32 → S → Prop) (w1 : S → va_W) : Prop :=
  ∀ sz, Met l y (Cond.codeWith y cc nL (some .int) hh :: rw_ok) rm (va_Pc av (tPre D tys wc sz)) (va_Qi post (fun u => rB D tys (va_A wc sz) (w1 u)) (va_A wc sz)) rm.cells rm.slots (va_A wc sz)
theorem w_met {l : Launch} {y : MethodName} {cc : ByteArray} {nL : Nat} {ret : Option FieldType} {hh : List (Nat × Nat × Nat × Nat)} {rm : Room} {D : va_G} {tys : List (ClassId × FieldType)} {av : List Value} {wc : va_W} {Qc : Array Value → State → Outcome → State → Prop} {mc ms sz : Nat}
    (hy : plainName y.cls = true) (hav : (lg_sl av).length ≤ nL)
    (body : ∀ (F : rT) p e s m args below meth c Q A, rOK F p l e rm s m args below meth c Q cc nL y.cls D tys A → rRT Q below Qc args s mc ms A meth ret → A = va_A wc sz → wOK hh A s c → F 0 (lv_args 0 av) [] wc 0 0) :
    Met l y (Cond.codeWith y cc nL ret hh :: rw_ok) rm (va_Pc av (tPre D tys wc sz)) Qc mc ms (va_A wc sz) := by
  refine va_MetW (cc := cc) (maxL := nL) (ret := ret) (hh := hh) hy rfl ?_
  intro p e s m args below meth c s₁ B hml hv
  obtain ⟨rfl, ⟨hsz, hP, hK, hD0, hN⟩, hz⟩ := hv
  have hts := atoms_spec (ws := Cond.codeWith y cc nL ret hh :: rw_ok) B.pre
  have hown : s.vm.findClass y.cls = some m.cls := findClass_of_methodNamed B.named
  have hD := hD0.self (sz := sz)
  have hl := lv_entry av (n := nL) hav
  have het : c.exceptionTable.toList = hh.map wEnt := by
    obtain ⟨m9, meth', c', hn9, hm', hc', -, -, he', -⟩ := Cond.codeWith_spec (hts _ List.mem_cons_self)
    cases B.named.symm.trans hn9
    cases B.method.symm.trans hm'
    cases (Stand.of_body B).code.symm.trans hc'
    rw [← he', List.map_map]
    exact (List.map_id _).symm
  have h9 : tN9 (va_A wc sz) s.heap := by
    have h8 := tN9.world hP
    rw [hsz] at h8
    exact h8
  rw [lg_entry_eq]
  have hA : ∀ q : Nat, s.heap.size ≤ q → va_A wc sz q := fun q h => Or.inr (by omega)
  exact body (rW p l e rm s m av.toArray below meth c (MQ below Qc av.toArray s mc ms (va_A wc sz)) nL D (va_A wc sz)) p e s m av.toArray below meth c _ _
    ⟨rfl, B.exec, B.bytes, hml, hown, fun w h => hts w (List.mem_cons_of_mem _ h), hN, hK, hA⟩ ⟨fun _ h => h, B.returns, B.notSynchronized⟩ rfl ⟨hz, h9, het⟩ s.heap [] _ hP hD va_S.rf hl
/-- the rows of a table that a thrown E passes -/
def wPass (own E : String) (pc : Nat) (pre : List (Nat × Nat × Nat × Nat)) : Prop := ∀ q ∈ pre, ∃ nm, covers (wEnt q) pc = true ∧ q.2.2.2 ≠ 0 ∧ Cond.classLink own q.2.2.2 nm ∈ rw_ok ∧ Cond.not (.castable E nm) ∈ tzW
section WR
variable {p : Program} {l : Launch} {e : Env} {R : Room} {s : State} {m : MethodId} {args : Array Value} {below : List Frame} {meth : Method} {c : Code} {Q : State → Prop} {cc : ByteArray} {nL : Nat} {own : String} {D : va_G} {tys : List (ClassId × FieldType)} {A : Nat → Prop} {F : rT} {pc : Nat} {lv lv' : List (Nat × Value)} {st : List Value} {ws ws' : va_W} {k n : Nat}
/-- a call whose callee throws an E that a row of the own table catches -/
theorem r_invV_t {E : String} {b : Nat} {wc : va_W} {st0 As : List Value} {y : MethodName} {bytes : ByteArray} {maxL index n9 : Nat} {ret : Option FieldType} {rm : Room} {hh : List (Nat × Nat × Nat × Nat)} (hX : rOK F p l e R s m args below meth c Q cc nL own D tys A) (hw9 : wOK hh A s c) (hM : tC l y bytes maxL ret rm D tys (.ref b :: As) wc E) (C : String) (qb ci : Nat) {T : u_T} {N : Nat} {ty0 : Nat → FieldType} {fs : List Value} (hcf : rCF ci C T N ty0) (hrec : ws[qb]? = some (b, .inr (ci, fs))) (hy : rYN y n9) (hlk : Cond.methodLink own index y ∈ rw_ok) (hi1 : Cond.instanceMethod y ∈ rw_ok) (hi2 : Cond.selects C y y ∈ rw_ok) (hco : Cond.code y bytes maxL ret ∈ rw_ok) (hin : Cond.initialized y.cls ∈ rw_ok) (hr1 : rm.frames + 1 ≤ R.frames) (hr2 : 8 + (maxL + 11) + rm.locals ≤ R.locals) (hr3 : k + rm.cells ≤ R.cells) (hr4 : n + rm.slots ≤ R.slots)
    (isC : List Nat) (hnC : va_nd isC = true) (hC : isC.map (fun i => ws[i]?) = wc.map some) (hC2 : isC.filterMap (fun i => ws[i]?) = wc) (hnA : As.length = n9) (hst : st0 = As.reverse ++ .ref b :: st) (hW : (st.map fun v => v.category).sum ≤ 8) (hd : decode cc pc = .ok (.invokevirtual index, 3))
    (pre : List (Nat × Nat × Nat × Nat)) (x : Nat × Nat × Nat × Nat) (rest : List (Nat × Nat × Nat × Nat)) (hsp : hh = pre ++ x :: rest) (hcv : covers (wEnt x) pc = true) (hx0 : x.2.2.2 ≠ 0) (hxl : Cond.classLink own x.2.2.2 E ∈ rw_ok) (hps : wPass own E pc pre)
    (kk : ∀ z : Nat, F x.2.2.1 lv [.ref z] ws (k + rm.cells) (n + rm.slots)) : F pc lv st0 ws k n := by
  obtain ⟨rfl, hx, hb, hml, ho, hts, hN, hK, hA⟩ := hX
  intro H locs ls hP hD hS hl
  have hpre := tPreS (As := .ref b :: As) hK hN hw9.1 hw9.2.1 hS hP hD isC hnC hC hC2
  have hrun : tRun p l e R s m args below meth c H locs k n rm.cells rm.slots (F0 m pc ls st0) st E := t_runV (C := C) (As := As) (n9 := n9) ⟨hx, hb, hml, ho, hts⟩ (hM H.size) ⟨rCB hts hy hco hin hlk hr1 hr2, hts _ hi1, hts _ hi2⟩ ⟨hpre.1, va_recv hK hP hcf.1 hrec, hpre.2⟩ rfl hnA hl.1 hst (lv_room hW) hd ⟨hr3, hr4⟩
  intro T hT X
  obtain ⟨z, T', X', r1, r2, r3, ⟨ce, r4, r5, r6, r7⟩, st9⟩ := hrun T hT X
  have hobj : ce.vm.isStatics = false := by rw [r5]; rfl
  have hpl : e.platform.magicAccessors = ({} : Platform).magicAccessors := by rw [X'.admits.platform]
  obtain ⟨cx, hcx, hlx⟩ := Cond.classLink_spec ho (hts _ hxl) e.platform hpl
  cases r6.symm.trans hcx
  obtain ⟨_, _, _, kt, _, _, _, _, _, hkt, _⟩ := hlx.here
  obtain ⟨vm', XV, hst2⟩ := c_caught X' z (g := F0 m pc ls st) rfl r4 hobj ⟨kt, hkt⟩ (pre.map wEnt) (wEnt x) (rest.map wEnt) (by rw [hw9.2.2, hsp, List.map_append, List.map_cons]) hcv hx0 hlx r7 (fun y hy => by
    obtain ⟨q, hq, rfl⟩ := List.mem_map.mp hy
    obtain ⟨nm, q0, q1, q2, q3⟩ := hps q hq
    obtain ⟨cy, hcy, hly⟩ := Cond.classLink_spec ho (hts _ q2) e.platform hpl
    have hv := Cond.holds_not_iff.mp (hw9.1.at args _ q3)
    simp only [Cond.value, r6, hcy] at hv
    exact ⟨q0, q1, cy, hly, Option.some.inj hv⟩)
  obtain ⟨t, a1, b1⟩ := kk z T'.heap locs ls (hP.kept (fun k x hx => r2 x.1 ((hP k x hx).lt))) hD ⟨Nat.le_trans hS.1 r1, fun q h1 h2 => by rw [r2 q (Nat.lt_of_lt_of_le h1 hS.1)]; exact hS.2.1 q h1 h2, hS.2.2⟩ hl (T'.setVm vm') rfl XV
  exact ⟨t, st9.trans (hst2 _ a1), b1⟩
theorem w_runS {H : Heap} {locs : List Loc} {y : MethodName} {bytes : ByteArray} {maxL n9 index : Nat} {ret : Option FieldType} {hh : List (Nat × Nat × Nat × Nat)} {rm : Room} {Pc : Array Value → State → Prop} {Qc : Array Value → State → Outcome → State → Prop} {free : Addr → Prop} {Ts : List Cond} {As rest : List Value} {g : JFrame} (S : CallFix p m c cc nL s args Ts own) (hts : ∀ w ∈ rw_ok, w.before args s = true) (hM : Met l y (Cond.codeWith y bytes maxL ret hh :: rw_ok) rm Pc Qc rm.cells rm.slots free) (hy : rYN y n9) (hlk : Cond.methodLink own index y ∈ rw_ok) (hi1 : Cond.static y ∈ rw_ok) (hco : Cond.codeWith y bytes maxL ret hh ∈ rw_ok) (hin : Cond.initialized y.cls ∈ rw_ok) (hr1 : rm.frames + 1 ≤ R.frames) (hr2 : 8 + (maxL + 11) + rm.locals ≤ R.locals) (hp : PreS s H Pc As)
    (hg : g.method = m) (hn : As.length = n9) (hsize : g.locals.size = nL) (hstack : g.stack = As.reverse ++ rest) (hW : 2 * g.monitorRoom + (rest.map fun v => v.category).sum ≤ 8) (hdg : decode cc g.pc = .ok (.invokestatic index, 3)) (hf : k + rm.cells ≤ R.cells ∧ n + rm.slots ≤ R.slots) :
    va_Run p l e R s m args below meth c H locs k n rm.cells rm.slots g rest (Qc As.toArray) free := by
  have hK : Back l R p e below s args y 3 8 (PreOf R rm.cells rm.slots Pc) (PostOf Qc rm.cells rm.slots free) := va_backW (hh := hh) (bytes := bytes) (maxL := maxL) (ret := ret) hM hp.1 rfl rfl hr1 hr2 (rw_pay hts hco) List.mem_cons_self (fun a' U hW => word_at hW (Or.inl (by first | rfl | simp [Cond.onTables, Cond.keeps, Cond.steady])) (hts _ hin))
  obtain ⟨hx, hb, hml, ho, -⟩ := S
  intro T hT X
  obtain ⟨mk, methM, cM, hnamed, hmethM, -, -, -, -, -, -, hsigM⟩ := Cond.codeWith_spec (hts _ hco)
  have hstatic : methM.isStatic = true := Cond.static_spec hnamed hmethM (hts _ hi1)
  obtain ⟨kP, hkP, -⟩ := className_of_methodNamed hnamed
  have hinitP : kP.init = .initialized := Cond.initialized_spec (findClass_of_methodNamed hnamed) hkP (hts _ hin)
  obtain ⟨vm₁, X₁, hstep₁⟩ := X.invokestatic hx ho (hts _ hlk) hnamed hmethM hstatic hkP hinitP ⟨hy.1, hy.2.1⟩ (g := g) hg (argsL := As) (rest := rest) (hn.trans (hy.len _ hsigM)) hstack (by rw [hb]; exact hdg)
  obtain ⟨v, ⟨U', l2, c2, s2⟩, X', ⟨g', mk', t, L, e1, e2, hq, h1, hL, h2, h3⟩, hsteps⟩ := hK m meth c ⟨T.setVm vm₁, locs, k, n⟩ { g with stack := rest } (.invokestatic index) mk As.toArray X₁ hg (hsize.trans hml.symm) (by rw [hb]; exact hdg) hW (X₁.named hnamed) ⟨hf.1, hf.2, hp.2 (T.setVm vm₁) hT X₁.warmed⟩
  dsimp only [Free.Pt.U, Free.Pt.locs, Free.Pt.cells, Free.Pt.slots] at X' e1 e2 h1 h2 h3 hsteps
  subst h1; subst h2; subst h3
  exact ⟨v, (T.setVm vm₁).calling g' mk' As.toArray, t, U', L, hT, X', hL, e1, e2, hq, fun target h => hstep₁ _ fun acts => by rw [doInvoke_state]; exact hsteps.trans h⟩
/-- a call of a method with handlers -/
theorem r_invSW_i {S : Type} {post : Int32 → S → Prop} {w1 : S → va_W} {wc wr : va_W} {st0 As : List Value} {y : MethodName} {bytes : ByteArray} {maxL index n9 : Nat} {hh : List (Nat × Nat × Nat × Nat)} {rm : Room} (hX : rOK F p l e R s m args below meth c Q cc nL own D tys A) (hz : tZ s) (h9 : tN9 A s.heap) (hM : wCi l y bytes maxL hh rm D tys As wc post w1) (hy : rYN y n9) (hlk : Cond.methodLink own index y ∈ rw_ok) (hi1 : Cond.static y ∈ rw_ok) (hco : Cond.codeWith y bytes maxL (some .int) hh ∈ rw_ok) (hin : Cond.initialized y.cls ∈ rw_ok) (hr1 : rm.frames + 1 ≤ R.frames) (hr2 : 8 + (maxL + 11) + rm.locals ≤ R.locals) (hr3 : k + rm.cells ≤ R.cells) (hr4 : n + rm.slots ≤ R.slots)
    (isC isR : List Nat) (hnC : va_nd isC = true) (hC : isC.map (fun i => ws[i]?) = wc.map some) (hC2 : isC.filterMap (fun i => ws[i]?) = wc) (hR : isR.map (fun i => ws[i]?) = wr.map some) (hnd : va_nd isR = true) (hdis : ∀ i ∈ isR, i ∉ isC) (hnA : As.length = n9) (hst : st0 = As.reverse ++ st) (hW : (st.map fun v => v.category).sum ≤ 8) (hd : decode cc pc = .ok (.invokestatic index, 3))
    (kk : ∀ (r : Int32) (u : S), post r u → F (pc + 3) lv (.int r :: st) (wr ++ w1 u) (k + rm.cells) (n + rm.slots)) : F pc lv st0 ws k n := by
  obtain ⟨rfl, hx, hb, hml, ho, hts, hN, hK, hA⟩ := hX
  intro H locs ls hP hD hS hl
  have hF := va_free (wc := wc) hD hS hA isC hC
  have hpre := tPreS (As := As) hK hN hz h9 hS hP hD isC hnC hC hC2
  refine va_calli (w_runS (As := As) (rest := st) (n9 := n9) ⟨hx, hb, hml, ho, hts⟩ hts (hM H.size) hy hlk hi1 hco hin hr1 hr2 hpre rfl hnA hl.1 hst (lv_room hW) hd ⟨hr3, hr4⟩) hS (fun q _ h => hF q h) hF (fun r u t H1 locs1 ht hvm hw hB hz1 hk1 hS1 => ?_)
  obtain ⟨hP1, hK1, hD1⟩ := hB
  rw [ht] at hP1
  obtain ⟨hP2, hD2⟩ := va_join (wr := wr) (w1 := w1 u) hP hD isC isR hC hR hnd hdis hk1 hF hP1 hD1
  exact kk r u hw H1 locs1 ls hP2 hD2 hS1 hl
end WR
