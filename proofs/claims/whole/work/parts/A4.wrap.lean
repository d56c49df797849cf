/-! Methods with handlers: the wrappers. -/
def wEnt (q : Nat × Nat × Nat × Nat) : ExceptionTableEntry := ⟨q.1, q.2.1, q.2.2.1, q.2.2.2⟩
def wOK (hh : List (Nat × Nat × Nat × Nat)) (A : Nat → Prop) (s : State) (c : Code) : Prop := tZ s ∧ tN9 A s.heap ∧ c.exceptionTable.toList = hh.map wEnt
/-- a contract of a method with handlers -/
def wCi (l : Launch) (y : MethodName) (cc : ByteArray) (nL : Nat) (hh : List (Nat × Nat × Nat × Nat)) (rm : Room) (D : va_G) (tys : List (ClassId × FieldType)) (av : List Value) (wc : va_W) {S : Type} (post : Int32 → S → Prop) (w1 : S → va_W) : Prop :=
  ∀ sz, Met l y (Cond.codeWith y cc nL (some .int) hh :: rw_ok) rm (va_Pc av (tPre D tys wc sz)) (va_Qi post (fun u => rB D tys (va_A wc sz) (w1 u)) (va_A wc sz)) rm.cells rm.slots (va_A wc sz)
theorem w_met {l : Launch} {y : MethodName} {cc : ByteArray} {nL : Nat} {ret : Option FieldType} {hh : List (Nat × Nat × Nat × Nat)} {rm : Room} {D : va_G} {tys : List (ClassId × FieldType)} {av : List Value} {wc : va_W} {Qc : Array Value → State → Outcome → State → Prop} {mc ms sz : Nat}
    (hy : plainName y.cls = true) (hav : (lg_sl av).length ≤ nL)
    (body : ∀ (F : rT) p e s m args below meth c Q A, rOK F p l e rm s m args below meth c Q cc nL y.cls D tys A → rRT Q below Qc args s mc ms A meth ret → A = va_A wc sz → wOK hh A s c → F 0 (lv_args 0 av) [] wc 0 0) :
    Met l y (Cond.codeWith y cc nL ret hh :: rw_ok) rm (va_Pc av (tPre D tys wc sz)) Qc mc ms (va_A wc sz) := by
  refine va_MetW (cc := cc) (maxL := nL) (ret := ret) (hh := hh) hy rfl ?_
  intro p e s m args below meth c s₁ B hml hv
  obtain ⟨rfl, ⟨hsz, hP, hK, hD0, hN⟩, hz⟩ := hv
  have hts := atoms_spec (ws := Cond.codeWith y cc nL ret hh :: rw_ok) B.pre
  have hown : s.vm.findClass y.cls = some m.cls := findClass_of_methodNamed B.named
  have hD := hD0.self (sz := sz)
  have hl := lv_entry av (n := nL) hav
  have het : c.exceptionTable.toList = hh.map wEnt := by
    obtain ⟨m9, meth', c', hn9, hm', hc', -, -, he', -⟩ := Cond.codeWith_spec (hts _ List.mem_cons_self)
    cases B.named.symm.trans hn9
    cases B.method.symm.trans hm'
    cases (Stand.of_body B).code.symm.trans hc'
    rw [← he', List.map_map]
    exact (List.map_id _).symm
  have h9 : tN9 (va_A wc sz) s.heap := by
    have h8 := tN9.world hP
    rw [hsz] at h8
    exact h8
  rw [lg_entry_eq]
  have hA : ∀ q : Nat, s.heap.size ≤ q → va_A wc sz q := fun q h => Or.inr (by omega)
  exact body (rW p l e rm s m av.toArray below meth c (MQ below Qc av.toArray s mc ms (va_A wc sz)) nL D (va_A wc sz)) p e s m av.toArray below meth c _ _
    ⟨rfl, B.exec, B.bytes, hml, hown, fun w h => hts w (List.mem_cons_of_mem _ h), hN, hK, hA⟩ ⟨fun _ h => h, B.returns, B.notSynchronized⟩ rfl ⟨hz, h9, het⟩ s.heap [] _ hP hD va_S.rf hl
/-- the rows of a table that a thrown E passes -/
def wPass (own E : String) (pre : List (Nat × Nat × Nat × Nat)) : Prop := ∀ q ∈ pre, ∃ nm, q.2.2.2 ≠ 0 ∧ Cond.classLink own q.2.2.2 nm ∈ rw_ok ∧ Cond.not (.castable E nm) ∈ tzW
section WR
variable {p : Program} {l : Launch} {e : Env} {R : Room} {s : State} {m : MethodId} {args : Array Value} {below : List Frame} {meth : Method} {c : Code} {Q : State → Prop} {cc : ByteArray} {nL : Nat} {own : String} {D : va_G} {tys : List (ClassId × FieldType)} {A : Nat → Prop} {F : rT} {pc : Nat} {lv lv' : List (Nat × Value)} {st : List Value} {ws ws' : va_W} {k n : Nat}
/-- a call whose callee throws an E that a row of the own table catches -/
theorem r_invV_t {E : String} {b : Nat} {wc : va_W} {st0 As : List Value} {y : MethodName} {bytes : ByteArray} {maxL index n9 : Nat} {ret : Option FieldType} {rm : Room} {hh : List (Nat × Nat × Nat × Nat)} (hX : rOK F p l e R s m args below meth c Q cc nL own D tys A) (hw9 : wOK hh A s c) (hM : tC l y bytes maxL ret rm D tys (.ref b :: As) wc E) (C : String) (qb ci : Nat) {T : u_T} {N : Nat} {ty0 : Nat → FieldType} {fs : List Value} (hcf : rCF ci C T N ty0) (hrec : ws[qb]? = some (b, .inr (ci, fs))) (hy : rYN y n9) (hlk : Cond.methodLink own index y ∈ rw_ok) (hi1 : Cond.instanceMethod y ∈ rw_ok) (hi2 : Cond.selects C y y ∈ rw_ok) (hco : Cond.code y bytes maxL ret ∈ rw_ok) (hin : Cond.initialized y.cls ∈ rw_ok) (hr1 : rm.frames + 1 ≤ R.frames) (hr2 : 8 + (maxL + 11) + rm.locals ≤ R.locals) (hr3 : k + rm.cells ≤ R.cells) (hr4 : n + rm.slots ≤ R.slots)
    (isC : List Nat) (hnC : va_nd isC = true) (hC : isC.map (fun i => ws[i]?) = wc.map some) (hC2 : isC.filterMap (fun i => ws[i]?) = wc) (hnA : As.length = n9) (hst : st0 = As.reverse ++ .ref b :: st) (hW : (st.map fun v => v.category).sum ≤ 8) (hd : decode cc pc = .ok (.invokevirtual index, 3))
    (pre : List (Nat × Nat × Nat × Nat)) (x : Nat × Nat × Nat × Nat) (rest : List (Nat × Nat × Nat × Nat)) (hsp : hh = pre ++ x :: rest) (hcv : covers (wEnt x) pc = true) (hx0 : x.2.2.2 ≠ 0) (hxl : Cond.classLink own x.2.2.2 E ∈ rw_ok) (hps : wPass own E pre)
    (kk : ∀ z : Nat, F x.2.2.1 lv [.ref z] ws (k + rm.cells) (n + rm.slots)) : F pc lv st0 ws k n := by
  obtain ⟨rfl, hx, hb, hml, ho, hts, hN, hK, hA⟩ := hX
  intro H locs ls hP hD hS hl
  have hpre := tPreS (As := .ref b :: As) hK hN hw9.1 hw9.2.1 hS hP hD isC hnC hC hC2
  have hrun : tRun p l e R s m args below meth c H locs k n rm.cells rm.slots (F0 m pc ls st0) st E := t_runV (C := C) (As := As) (n9 := n9) ⟨hx, hb, hml, ho, hts⟩ (hM H.size) ⟨rCB hts hy hco hin hlk hr1 hr2, hts _ hi1, hts _ hi2⟩ ⟨hpre.1, va_recv hK hP hcf.1 hrec, hpre.2⟩ rfl hnA hl.1 hst (lv_room hW) hd ⟨hr3, hr4⟩
  intro T hT X
  obtain ⟨z, T', X', r1, r2, r3, ⟨ce, r4, r5, r6, r7⟩, st9⟩ := hrun T hT X
  have hobj : ce.vm.isStatics = false := by rw [r5]; rfl
  obtain ⟨hc1, hc2⟩ := X'.catches_of_link (own := own) (name := E) (x := wEnt x) ho hx0 (hts _ hxl) r6 r7
  obtain ⟨vm', XV, hst2⟩ := X'.thenCaughtThrough z (g := F0 m pc ls st) rfl st9 r4 hobj hc2 (pre.map wEnt) (wEnt x) (rest.map wEnt) (by rw [hw9.2.2, hsp, List.map_append, List.map_cons]) (fun y hy => by
    obtain ⟨q, hq, rfl⟩ := List.mem_map.mp hy
    obtain ⟨nm, q1, q2, q3⟩ := hps q hq
    exact RowPassed.of_words (by rw [X'.admits.platform]) ho q1 (hts _ q2) r6 (hw9.1.at args _ q3)) hcv hc1
  obtain ⟨t, a1, b1⟩ := kk z T'.heap locs ls (hP.kept (fun k x hx => r2 x.1 ((hP k x hx).lt))) hD ⟨Nat.le_trans hS.1 r1, fun q h1 h2 => by rw [r2 q (Nat.lt_of_lt_of_le h1 hS.1)]; exact hS.2.1 q h1 h2, hS.2.2⟩ hl (T'.setVm vm') rfl XV
  exact ⟨t, hst2.trans a1, b1⟩
theorem w_runS {H : Heap} {locs : List Loc} {y : MethodName} {bytes : ByteArray} {maxL n9 index : Nat} {ret : Option FieldType} {hh : List (Nat × Nat × Nat × Nat)} {rm : Room} {Pc : Array Value → State → Prop} {Qc : Array Value → State → Outcome → State → Prop} {free : Addr → Prop} {Ts : List Cond} {As rest : List Value} {g : JFrame} (S : CallFix p m c cc nL s args Ts own) (hts : ∀ w ∈ rw_ok, w.before args s = true) (hM : Met l y (Cond.codeWith y bytes maxL ret hh :: rw_ok) rm Pc Qc rm.cells rm.slots free) (hy : rYN y n9) (hlk : Cond.methodLink own index y ∈ rw_ok) (hi1 : Cond.static y ∈ rw_ok) (hco : Cond.codeWith y bytes maxL ret hh ∈ rw_ok) (hin : Cond.initialized y.cls ∈ rw_ok) (hr1 : rm.frames + 1 ≤ R.frames) (hr2 : 8 + (maxL + 11) + rm.locals ≤ R.locals) (hp : PreS s H Pc As)
    (hg : g.method = m) (hn : As.length = n9) (hsize : g.locals.size = nL) (hstack : g.stack = As.reverse ++ rest) (hW : 2 * g.monitorRoom + (rest.map fun v => v.category).sum ≤ 8) (hdg : decode cc g.pc = .ok (.invokestatic index, 3)) (hf : k + rm.cells ≤ R.cells ∧ n + rm.slots ≤ R.slots) :
    va_Run p l e R s m args below meth c H locs k n rm.cells rm.slots g rest (Qc As.toArray) free := by
  have hK : Back l R p e below s args y 3 8 (PreOf R rm.cells rm.slots Pc) (PostOf Qc rm.cells rm.slots free) := va_backW (hh := hh) (bytes := bytes) (maxL := maxL) (ret := ret) hM hp.1 rfl rfl hr1 hr2 (rw_pay hts hco) List.mem_cons_self (fun a' U hW => word_at hW (Or.inl (by first | rfl | simp [Cond.onTables, Cond.keeps, Cond.steady])) (hts _ hin))
  obtain ⟨hx, hb, hml, ho, -⟩ := S
  intro T hT X
  obtain ⟨mk, methM, cM, hnamed, hmethM, -, -, -, -, -, -, hsigM⟩ := Cond.codeWith_spec (hts _ hco)
  have hstatic : methM.isStatic = true := Cond.static_spec hnamed hmethM (hts _ hi1)
  obtain ⟨kP, hkP, -⟩ := className_of_methodNamed hnamed
  have hinitP : kP.init = .initialized := Cond.initialized_spec (findClass_of_methodNamed hnamed) hkP (hts _ hin)
  obtain ⟨vm₁, X₁, hstep₁⟩ := X.invokestatic hx ho (hts _ hlk) hnamed hmethM hstatic hkP hinitP ⟨hy.1, hy.2.1⟩ (g := g) hg (argsL := As) (rest := rest) (hn.trans (hy.len _ hsigM)) hstack (by rw [hb]; exact hdg)
  obtain ⟨v, ⟨U', l2, c2, s2⟩, X', ⟨g', mk', t, L, e1, e2, hq, h1, hL, h2, h3⟩, hsteps⟩ := hK m meth c ⟨T.setVm vm₁, locs, k, n⟩ { g with stack := rest } (.invokestatic index) mk As.toArray X₁ hg (hsize.trans hml.symm) (by rw [hb]; exact hdg) hW (X₁.named hnamed) ⟨hf.1, hf.2, hp.2 (T.setVm vm₁) hT X₁.warmed⟩
  dsimp only [Free.Pt.U, Free.Pt.locs, Free.Pt.cells, Free.Pt.slots] at X' e1 e2 h1 h2 h3 hsteps
  subst h1; subst h2; subst h3
  exact ⟨v, (T.setVm vm₁).calling g' mk' As.toArray, t, U', L, hT, X', hL, e1, e2, hq, fun target h => hstep₁ _ fun acts => by rw [doInvoke_state]; exact hsteps.trans h⟩
/-- a call of a method with handlers -/
theorem r_invSW_i {S : Type} {post : Int32 → S → Prop} {w1 : S → va_W} {wc wr : va_W} {st0 As : List Value} {y : MethodName} {bytes : ByteArray} {maxL index n9 : Nat} {hh : List (Nat × Nat × Nat × Nat)} {rm : Room} (hX : rOK F p l e R s m args below meth c Q cc nL own D tys A) (hz : tZ s) (h9 : tN9 A s.heap) (hM : wCi l y bytes maxL hh rm D tys As wc post w1) (hy : rYN y n9) (hlk : Cond.methodLink own index y ∈ rw_ok) (hi1 : Cond.static y ∈ rw_ok) (hco : Cond.codeWith y bytes maxL (some .int) hh ∈ rw_ok) (hin : Cond.initialized y.cls ∈ rw_ok) (hr1 : rm.frames + 1 ≤ R.frames) (hr2 : 8 + (maxL + 11) + rm.locals ≤ R.locals) (hr3 : k + rm.cells ≤ R.cells) (hr4 : n + rm.slots ≤ R.slots)
    (isC isR : List Nat) (hnC : va_nd isC = true) (hC : isC.map (fun i => ws[i]?) = wc.map some) (hC2 : isC.filterMap (fun i => ws[i]?) = wc) (hR : isR.map (fun i => ws[i]?) = wr.map some) (hnd : va_nd isR = true) (hdis : ∀ i ∈ isR, i ∉ isC) (hnA : As.length = n9) (hst : st0 = As.reverse ++ st) (hW : (st.map fun v => v.category).sum ≤ 8) (hd : decode cc pc = .ok (.invokestatic index, 3))
    (kk : ∀ (r : Int32) (u : S), post r u → F (pc + 3) lv (.int r :: st) (wr ++ w1 u) (k + rm.cells) (n + rm.slots)) : F pc lv st0 ws k n := by
  obtain ⟨rfl, hx, hb, hml, ho, hts, hN, hK, hA⟩ := hX
  intro H locs ls hP hD hS hl
  have hF := va_free (wc := wc) hD hS hA isC hC
  have hpre := tPreS (As := As) hK hN hz h9 hS hP hD isC hnC hC hC2
  refine va_calli (w_runS (As := As) (rest := st) (n9 := n9) ⟨hx, hb, hml, ho, hts⟩ hts (hM H.size) hy hlk hi1 hco hin hr1 hr2 hpre rfl hnA hl.1 hst (lv_room hW) hd ⟨hr3, hr4⟩) hS (fun q _ h => hF q h) hF (fun r u t H1 locs1 ht hvm hw hB hz1 hk1 hS1 => ?_)
  obtain ⟨hP1, hK1, hD1⟩ := hB
  rw [ht] at hP1
  obtain ⟨hP2, hD2⟩ := va_join (wr := wr) (w1 := w1 u) hP hD isC isR hC hR hnd hdis hk1 hF hP1 hD1
  exact kk r u hw H1 locs1 ls hP2 hD2 hS1 hl
end WR
