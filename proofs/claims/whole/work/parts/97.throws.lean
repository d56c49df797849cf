/-! Contracts that end in a throw, and their rows. -/
/-- the words of Throwable that read its statics -/
def tzW : List Cond := [.laysStatic Bundle.tN "UNASSIGNED_STACK" Bundle.steD, .laysStatic Bundle.tN "SUPPRESSED_SENTINEL" Bundle.listD, .isRef (.static Bundle.tN "UNASSIGNED_STACK" Bundle.steD), .isRef (.static Bundle.tN "SUPPRESSED_SENTINEL" Bundle.listD), .not (.castable "java/lang/IndexOutOfBoundsException" "java/lang/IllegalArgumentException"), .not (.castable "java/lang/IndexOutOfBoundsException" "java/lang/IllegalStateException"), .not (.castable "java/lang/IllegalArgumentException" "java/lang/IndexOutOfBoundsException"), .not (.castable "java/lang/IllegalArgumentException" "java/lang/IllegalStateException"), .not (.castable "java/lang/IllegalStateException" "java/lang/IndexOutOfBoundsException"), .not (.castable "java/lang/IllegalStateException" "java/lang/IllegalArgumentException"), .declares (Bundle.init0 "java/lang/RuntimeException"), .declares (Bundle.init0 "java/lang/Exception"), .declares (Bundle.init0 "java/lang/Throwable"), .castable "java/lang/IndexOutOfBoundsException" "java/lang/IndexOutOfBoundsException", .castable "java/lang/IllegalArgumentException" "java/lang/IllegalArgumentException", .castable "java/lang/IllegalStateException" "java/lang/IllegalStateException"]
def tZ (U : State) : Prop := ∀ w ∈ tzW, w.before #[] U = true
/-- the statics' cells are as they were -/
def tK (H0 H : Heap) : Prop := ∀ (q : Nat) (cell : Cell), H0[q]? = some cell → cell.vm.isStatics = true → H[q]? = some cell
theorem tz_lay {a a' : Array Value} {s U : State} {C n d : String} (hv : s.vm.Alike U.vm) (hk : tK s.heap U.heap) (h : (Cond.laysStatic C n d).before a s = true) : (Cond.laysStatic C n d).before a' U = true := by
  obtain ⟨c, k, i, f, q, cell, h1, h2, h3, h4, h5, h6, h7, h8, h9⟩ := Cond.laysStatic_spec h
  obtain ⟨k', hi', he⟩ := State.fieldFound?_setVm hv h2
  have hi2 : U.fieldFound? C n d = some (c, k', i, f) := hi'
  have hc2 : U.vm.findClass C = some c := by rw [hv.findClass]; exact h1
  have e4 : k'.statics = some q := by rw [he]; exact h4
  have e9 : k'.staticTypes[f.slot]? = some f.type := by rw [he]; exact h9
  have e5 := hk q cell h5 h6
  simp [Cond.before, Cond.holds, Cond.value, hc2, hi2, e4, e5, h3, h6, h7, h8, e9]
theorem tz_ref {a a' : Array Value} {s U : State} {C n d : String} (hv : s.vm.Alike U.vm) (hk : tK s.heap U.heap) (hl : (Cond.laysStatic C n d).before a s = true) (h : (Cond.isRef (.static C n d)).before a s = true) : (Cond.isRef (.static C n d)).before a' U = true := by
  obtain ⟨c, k, i, f, q, cell, h1, h2, h3, h4, h5, h6, h7, h8, h9⟩ := Cond.laysStatic_spec hl
  obtain ⟨k', hi', he⟩ := State.fieldFound?_setVm hv h2
  have hi2 : U.fieldFound? C n d = some (c, k', i, f) := hi'
  have e4 : k'.statics = some q := by rw [he]; exact h4
  have e5 := hk q cell h5 h6
  cases hw : (Term.static C n d).eval a s none [] s with
  | none => simp [Cond.before, Cond.holds, Cond.value, hw] at h
  | some w =>
    obtain ⟨-, q', cell', hq', hcell', -, hslot⟩ := Term.static_spec h2 hw
    cases h4.symm.trans hq'
    cases h5.symm.trans hcell'
    have e : (Term.static C n d).eval a' U none [] U = some w := by
      simp [Term.eval, State.fieldNamed?, hi2, h3, e4, e5, h6, hslot]
    simp only [Cond.before, Cond.holds, Cond.value, hw] at h
    simp only [Cond.before, Cond.holds, Cond.value, e]
    exact h
theorem tz_nc {a a' : Array Value} {s U : State} {C E : String} (hv : s.vm.Alike U.vm) (h : (Cond.not (.castable C E)).before a s = true) : (Cond.not (.castable C E)).before a' U = true := by
  have h1 := Cond.holds_not_iff.mp h
  refine Cond.holds_not_iff.mpr ?_
  simp only [Cond.value, hv.findClass, hv.assignable] at h1 ⊢
  exact h1
theorem tz_de {a a' : Array Value} {s U : State} {x : MethodName} (hv : s.vm.Alike U.vm) (h : (Cond.declares x).before a s = true) : (Cond.declares x).before a' U = true :=
  va_tabs rfl (rfl : (s.setVm U.vm).vm = U.vm) (A := a) (by rw [Cond.declares_setVm hv]; exact h)
theorem tz_ca {a a' : Array Value} {s U : State} {C E : String} (hv : s.vm.Alike U.vm) (h : (Cond.castable C E).before a s = true) : (Cond.castable C E).before a' U = true :=
  va_tabs rfl (rfl : (s.setVm U.vm).vm = U.vm) (A := a) (by rw [Cond.castable_setVm hv]; exact h)
theorem tz_all {a a' : Array Value} {s U : State} (hv : s.vm.Alike U.vm) (hk : tK s.heap U.heap) (h : ∀ w ∈ tzW, w.before a s = true) : ∀ w ∈ tzW, w.before a' U = true := by
  have h1 := h _ (List.mem_of_getElem? (i := 0) rfl)
  have h2 := h _ (List.mem_of_getElem? (i := 1) rfl)
  have h3 := h _ (List.mem_of_getElem? (i := 2) rfl)
  have h4 := h _ (List.mem_of_getElem? (i := 3) rfl)
  have h5 := h _ (List.mem_of_getElem? (i := 4) rfl)
  have h6 := h _ (List.mem_of_getElem? (i := 5) rfl)
  have h7 := h _ (List.mem_of_getElem? (i := 6) rfl)
  have h8 := h _ (List.mem_of_getElem? (i := 7) rfl)
  have h9 := h _ (List.mem_of_getElem? (i := 8) rfl)
  have h10 := h _ (List.mem_of_getElem? (i := 9) rfl)
  have h11 := h _ (List.mem_of_getElem? (i := 10) rfl)
  have h12 := h _ (List.mem_of_getElem? (i := 11) rfl)
  have h13 := h _ (List.mem_of_getElem? (i := 12) rfl)
  have h14 := h _ (List.mem_of_getElem? (i := 13) rfl)
  have h15 := h _ (List.mem_of_getElem? (i := 14) rfl)
  have h16 := h _ (List.mem_of_getElem? (i := 15) rfl)
  exact List.forall_mem_cons.mpr ⟨tz_lay hv hk h1, List.forall_mem_cons.mpr ⟨tz_lay hv hk h2, List.forall_mem_cons.mpr ⟨tz_ref hv hk h1 h3, List.forall_mem_cons.mpr ⟨tz_ref hv hk h2 h4, List.forall_mem_cons.mpr ⟨tz_nc hv h5, List.forall_mem_cons.mpr ⟨tz_nc hv h6, List.forall_mem_cons.mpr ⟨tz_nc hv h7, List.forall_mem_cons.mpr ⟨tz_nc hv h8, List.forall_mem_cons.mpr ⟨tz_nc hv h9, List.forall_mem_cons.mpr ⟨tz_nc hv h10, List.forall_mem_cons.mpr ⟨tz_de hv h11, List.forall_mem_cons.mpr ⟨tz_de hv h12, List.forall_mem_cons.mpr ⟨tz_de hv h13, List.forall_mem_cons.mpr ⟨tz_ca hv h14, List.forall_mem_cons.mpr ⟨tz_ca hv h15, List.forall_mem_cons.mpr ⟨tz_ca hv h16, fun _ h => absurd h List.not_mem_nil⟩⟩⟩⟩⟩⟩⟩⟩⟩⟩⟩⟩⟩⟩⟩⟩
theorem tK.rf {H : Heap} : tK H H := fun _ _ h _ => h
theorem tZ.move {s U : State} (hv : s.vm.Alike U.vm) (hk : tK s.heap U.heap) (h : tZ s) : tZ U := tz_all hv hk h
theorem tZ.at {s : State} (h : tZ s) (a : Array Value) : ∀ w ∈ tzW, w.before a s = true := tz_all (Vm.Alike.refl s.vm) tK.rf h
/-- the statics aren't among the cells that may change -/
def tN9 (A : Nat → Prop) (H0 : Heap) : Prop := ∀ (q : Nat) (cell : Cell), H0[q]? = some cell → cell.vm.isStatics = true → ¬ A q
theorem tN9.keep {A : Nat → Prop} {H0 H : Heap} {locs : List Loc} (h : tN9 A H0) (hS : va_S A H0 H locs) : tK H0 H := fun q cell h1 h2 => by
  rw [hS.2.1 q (Array.getElem?_eq_some_iff.mp h1).1 (h q cell h1 h2)]; exact h1
theorem tN9.new {A : Nat → Prop} {H0 : Heap} (h : ∀ q : Nat, H0.size ≤ q ↔ A q) : tN9 A H0 := fun q cell h1 _ h3 => by
  have h4 := (Array.getElem?_eq_some_iff.mp h1).1
  have h5 := (h q).2 h3
  omega
theorem vp_ns (c : ClassId) (a : vp_A) : (vp_cell c a).vm.isStatics = false := by
  obtain ⟨n, z⟩ := a
  rcases z with f | z
  · rfl
  · rcases z with f | z
    · rfl
    · first
      | rfl
      | (rcases z with f | z
         · rfl
         · first | rfl | (rcases z with f | z <;> rfl))
theorem tN9.world {D : va_G} {ws : va_W} {H0 : Heap} (hP : va_P D vwCl ws H0) : tN9 (va_A ws H0.size) H0 := fun q cell h1 h2 h3 => by
  rcases h3 with ⟨k, e, hk⟩ | h3
  · have h4 := hP k _ hk
    cases e with
    | inl a =>
      have h5 : H0[q]? = some (vp_cell a.1 a.2) := h4
      cases h1.symm.trans h5
      exact absurd h2 (by rw [vp_ns]; decide)
    | inr o =>
      obtain ⟨r, -, cell', g1, -, g3, -⟩ := h4
      cases h1.symm.trans g1
      rw [g3] at h2
      cases h2
  · have h4 := (Array.getElem?_eq_some_iff.mp h1).1
    omega
/-- it threw a new E; nothing old has changed -/
def tQ (E : String) (mc ms : Nat) : Array Value → State → Outcome → State → Prop := fun _ st o t =>
  (∃ x : Nat, o = .threw x ∧ st.heap.size ≤ x ∧ ∃ ce : Cell, t.heap[x]? = some ce ∧ ce.vm = .none ∧ st.vm.findClass E = some ce.cls ∧ st.vm.assignable ce.cls ce.cls = true) ∧ st.WarmedH t.vm ∧ st.sameButNew ({ t with vm := st.vm } : State) [] mc ms
def tPre (D : va_G) (tys : List (ClassId × FieldType)) (ws : va_W) (sz : Nat) : State → Prop := fun U => rPre D tys ws sz U ∧ tZ U
theorem tPre_blind (D : va_G) (tys : List (ClassId × FieldType)) (ws : va_W) (sz : Nat) (av : List Value) : FrameBlind (va_Pc av (tPre D tys ws sz)) := by
  intro a U g mk h
  have h2 := rPre_blind D tys ws sz av a U g mk ⟨h.1, h.2.1⟩
  exact ⟨h2.1, h2.2, tZ.move (s := U) (U := U.calling g mk a) (Vm.Alike.refl U.vm) tK.rf h.2.2⟩
/-- a contract that ends in a throw of E -/
def tC (l : Launch) (y : MethodName) (cc : ByteArray) (nL : Nat) (ret : Option FieldType) (rm : Room) (D : va_G) (tys : List (ClassId × FieldType)) (av : List Value) (wc : va_W) (E : String) : Prop :=
  ∀ sz, MetFree l y (headSpec (Cond.code y cc nL ret :: rw_ok) rm) (va_Pc av (tPre D tys wc sz)) (fun _ _ _ _ _ => True) (tQ E rm.cells rm.slots)
/-- what the end of such a body owes -/
def tRT (Q : State → Prop) (below : List Frame) (E : String) (args : Array Value) (s : State) (mc ms : Nat) (meth : Method) (c : Code) : Prop :=
  (∀ t, (∃ o, t.status = .running ∧ Ended t below o ∧ tQ E mc ms args s o t) → Q t) ∧ meth.locks = false ∧ c.exceptionTable.isEmpty = true ∧ tZ s
theorem t_met {l : Launch} {y : MethodName} {cc : ByteArray} {nL : Nat} {ret : Option FieldType} {rm : Room} {D : va_G} {tys : List (ClassId × FieldType)} {av : List Value} {wc : va_W} {E : String} {sz : Nat}
    (hy : plainName y.cls = true) (hav : (lg_sl av).length ≤ nL)
    (body : ∀ (F : rT) p e s m args below meth c Q A, qOK F p l e rm s m args below meth c Q cc nL y.cls D tys A → tRT Q below E args s rm.cells rm.slots meth c → F 0 (lv_args 0 av) [] wc 0 0) :
    MetFree l y (headSpec (Cond.code y cc nL ret :: rw_ok) rm) (va_Pc av (tPre D tys wc sz)) (fun _ _ _ _ _ => True) (tQ E rm.cells rm.slots) := by
  refine MetFree.of_bodyS (code := cc) (maxLocals := nL) (ret := ret) hy ?_ ?_
  · intro args s m h hn
    obtain ⟨meth, c, h1, h2, h3, h4, h5, h6, -, -⟩ := Cond.code_spec hn (atoms_spec (ws := Cond.code y cc nL ret :: rw_ok) h _ List.mem_cons_self)
    exact ⟨meth, c, h1, h2, h3, h4, h5, h6⟩
  · intro p e s m args below meth c s₁ B hml hv _
    obtain ⟨rfl, ⟨hsz, hP, hK, hD0, hN⟩, hz⟩ := hv
    have hts := atoms_spec (ws := Cond.code y cc nL ret :: rw_ok) B.pre
    have hown : s.vm.findClass y.cls = some m.cls := findClass_of_methodNamed B.named
    have hl := lv_entry av (n := nL) hav
    have hA : ∀ q : Nat, s.heap.size ≤ q ↔ sz ≤ q := fun q => by rw [hsz]
    have hex : c.exceptionTable.isEmpty = true := B.noHandlers (hts _ List.mem_cons_self)
    have hh0 : s₁.heap = s.heap := by rw [B.state]; rfl
    have key : W p l e rm s m av.toArray below meth c s.heap [] 0 0 (fun t => ∃ o, t.status = .running ∧ Ended t below o ∧ tQ E rm.cells rm.slots av.toArray s o t) (entryFrame m av.toArray nL) := by
      rw [lg_entry_eq]
      exact body (qW p l e rm s m av.toArray below meth c (fun t => ∃ o, t.status = .running ∧ Ended t below o ∧ tQ E rm.cells rm.slots av.toArray s o t) nL D (fun q => sz ≤ q)) p e s m av.toArray below meth c _ _
        ⟨rfl, B.exec, B.bytes, hml, hown, fun w h => hts w (List.mem_cons_of_mem _ h), hN, hK, hA⟩ ⟨fun _ h => h, B.notSynchronized, hex, hz⟩ s.heap [] _ hP hD0 va_S.rf hl
    obtain ⟨t, a1, o, b1, b2, b3⟩ := key s₁ hh0 (Stand.of_body B)
    exact ⟨t, o, a1, b1, b2, b3⟩
def tUp : List String := ["java/lang/RuntimeException", "java/lang/Exception"]
/-- the words of a throw of a new E -/
def tWd (own : String) (ix ic : Nat) (E : String) : Prop := Bundle.fit E = true ∧ Cond.classLink own ix E ∈ rw_ok ∧ Cond.initialized E ∈ rw_ok ∧ ∀ a ∈ Bundle.ownAtoms0 own ic E tUp, a ∈ rw_ok ∨ a ∈ tzW
theorem tUp_fit : ∀ n ∈ tUp, Bundle.fit n = true := by decide +kernel
section TR
variable {p : Program} {l : Launch} {e : Env} {R : Room} {s : State} {m : MethodId} {args : Array Value} {below : List Frame} {meth : Method} {c : Code} {Q : State → Prop} {cc : ByteArray} {nL : Nat} {own : String} {D : va_G} {tys : List (ClassId × FieldType)} {A : Nat → Prop} {F : rT} {pc : Nat} {lv lv' : List (Nat × Value)} {st : List Value} {ws ws' : va_W} {k n : Nat}
/-- the end: new E, dup, its constructor, athrow -/
theorem q_throw {E : String} {ix ic mc ms : Nat} (hX : qOK F p l e R s m args below meth c Q cc nL own D tys A) (hT : tRT Q below E args s mc ms meth c) (hl : l.stackTraces = false) (hw : tWd own ix ic E) (hk : k + 1 ≤ mc) (hn : n + 6 ≤ ms) (hc1 : k + 1 ≤ R.cells) (hc2 : n + 6 ≤ R.slots) (hR1 : 6 ≤ R.frames) (hR2 : 90 ≤ R.locals) (hst : (st.map fun v => v.category).sum ≤ 8)
    (hd0 : decode cc pc = .ok (.new ix, 3)) (hd1 : decode cc (pc + 3) = .ok (.dup, 1)) (hd2 : decode cc (pc + 4) = .ok (.invokespecial ic, 3)) (hd3 : decode cc (pc + 7) = .ok (.athrow, 1)) : F pc lv st ws k n := by
  obtain ⟨rfl, hx, hb, hml, ho, hts, hN, hK, hA⟩ := hX
  obtain ⟨hQ, hlk, hex, hz⟩ := hT
  obtain ⟨hf, hw1, hw2, hw3⟩ := hw
  intro H locs ls hP hD hS hl9
  refine va_forget (fun q hq => (hA q.base).2 (hS.2.2 q hq)) ?_
  have hat : ∀ a ∈ Bundle.ownAtoms0 own ic E tUp, a.before args s = true := fun a ha => (hw3 a ha).elim (hts a) (hz.at args a)
  refine w_throw hl hx hb ho (hts _ hw1) (hts _ hw2) hat hf tUp_fit hd0 hd1 hd2 hd3 (covers_of_empty hex _) (hl9.1.trans hml.symm) hlk hS.1 hc1 hc2 (by show 2 + 3 < R.frames; omega) (by show 1 + (st.map fun v => v.category).sum + (13 * (2 + 1) + 41) ≤ R.locals; omega) ?_
  intro U a hrun hend hW hsame hsz ⟨ce, hce, K⟩
  exact hQ U ⟨.threw a, hrun, hend, ⟨a, rfl, hsz, ce, hce, K.vm, K.cls, K.self⟩, hW, hsame.mono hk hn⟩
/-- a call whose callee throws -/
def tRun (p : Program) (l : Launch) (e : Env) (R : Room) (s : State) (m : MethodId) (args : Array Value) (below : List Frame) (meth : Method) (c : Code) (H : Heap) (locs : List Loc) (cells slots mc ms : Nat) (g : JFrame) (rest : List Value) (E : String) : Prop :=
  ∀ T : State, T.heap = H → Stand p l e R s m args below meth c T locs cells slots → ∃ (x : Nat) (T' : State), Stand p l e R s m args below meth c T' locs (cells + mc) (slots + ms) ∧ H.size ≤ T'.heap.size ∧ (∀ q : Nat, q < H.size → T'.heap[q]? = H[q]?) ∧ H.size ≤ x ∧
    (∃ ce : Cell, T'.heap[x]? = some ce ∧ ce.vm = .none ∧ s.vm.findClass E = some ce.cls ∧ s.vm.assignable ce.cls ce.cls = true) ∧ Steps p.tables e below (T.setTop g) ((T'.setTop { g with stack := rest }).pushFrame (.throwing x))
/-- from the invoke to the note over the caller's frame -/
theorem t_go {E : String} {H : Heap} {U : State} {locs : List Loc} {y : MethodName} {bytes : ByteArray} {maxL mc ms len : Nat} {ret : Option FieldType} {wt : List Cond} {rm : Room} {Pc : Array Value → State → Prop} {av : Array Value} {g : JFrame} {mk : MethodId} {ig : Instr}
    (X : Stand p l e R s m args below meth c U locs k n) (hM : MetFree l y (headSpec wt rm) Pc (fun _ _ _ _ _ => True) (tQ E mc ms)) (hrc : rm.cells = mc) (hrs : rm.slots = ms) (hr1 : rm.frames + 1 ≤ R.frames) (hr2 : 8 + (maxL + 11) + rm.locals ≤ R.locals) (hws : ∀ w ∈ wt, ∀ (a' : Array Value) (U' : State), s.WarmedH U'.vm → w.before a' U' = true) (hcw : Cond.code y bytes maxL ret ∈ wt) (hini : (Cond.initialized y.cls).before args s = true) (hbl : FrameBlind Pc) (hU : U.heap = H) (hp : Pc av U)
    (hg : g.method = m) (hsize : g.locals.size = c.maxLocals) (hdg : decode c.code g.pc = .ok (ig, len)) (hW : 2 * g.monitorRoom + (g.stack.map fun v => v.category).sum ≤ 8) (hn : U.methodNamed? y = some mk) (hf : k + mc ≤ R.cells ∧ n + ms ≤ R.slots) :
    ∃ (x : Nat) (T' : State), Stand p l e R s m args below meth c T' locs (k + mc) (n + ms) ∧ H.size ≤ T'.heap.size ∧ (∀ q : Nat, q < H.size → T'.heap[q]? = H[q]?) ∧ H.size ≤ x ∧
      (∃ ce : Cell, T'.heap[x]? = some ce ∧ ce.vm = .none ∧ s.vm.findClass E = some ce.cls ∧ s.vm.assignable ce.cls ce.cls = true) ∧ Steps p.tables e below (doInvoke e (U.setTop g) [] mk av).1 ((T'.setTop g).pushFrame (.throwing x)) := by
  obtain ⟨methY, cY, hmY, hcY, -, hlY, -⟩ := Cond.code_spec hn (hws _ hcw av U X.warmed)
  obtain ⟨kY, hkY, -⟩ := className_of_methodNamed hn
  have hi9 : (Cond.initialized y.cls).before av U = true := word_at X.warmed (Or.inl (by first | rfl | simp [Cond.onTables, Cond.keeps, Cond.steady])) hini
  have hinitY : kY.init = .initialized := Cond.initialized_spec (findClass_of_methodNamed hn) hkY hi9
  have hAt : At U g.method c below := by rw [hg]; exact X.here
  have hroom := X.room_calling (g := g) (args' := av) (R' := rm) hsize hmY hcY hr1 (by rw [hlY]; omega) (by rw [hrc]; exact hf.1) (by rw [hrs]; exact hf.2)
  have happ : (headSpec wt rm).appliesLoose y e.platform (U.calling g mk av) = true :=
    Spec.appliesLoose_calling (g := g) hAt hdg hn hkY hinitY hroom (atoms_intro fun w hw => hws w hw _ _ X.warmed)
  obtain ⟨mid, hmid⟩ := hAt.above
  have hfr : (U.setTop g).frames = (.java g :: mid) ++ below := by rw [State.frames_setTop' g hAt.top, hmid]; rfl
  obtain ⟨o, s₂, hsteps, -, hend, hq⟩ := Steps.callFree hM p X.admits X.cas X.clock (acts := []) hfr happ (hbl _ _ g mk hp) trivial
  have hq2 : tQ E mc ms av (U.calling g mk av) o s₂ := hq
  rw [State.frames_setTop' g hAt.top, X.tail] at hend
  obtain ⟨⟨x, ho, hsz, ce, g1, g2, g3, g4⟩, hWs, hsame⟩ := hq2
  subst ho
  obtain ⟨T', X', -, -, ht⟩ := X.outOfThrown hg hend hWs hsame
  rw [List.append_nil] at X'
  have hh : s₂.heap = T'.heap := by rw [ht]; exact Stand.throwing_heap T' g x
  have g5 : U.vm.findClass E = some ce.cls := g3
  have g6 : U.vm.assignable ce.cls ce.cls = true := g4
  have hz1 : U.heap.size ≤ s₂.heap.size := hsame.2.1
  have hz2 : U.heap.size ≤ x := hsz
  rw [X.warmed.alike.findClass] at g5
  rw [X.warmed.alike.assignable] at g6
  refine ⟨x, T', X', by rw [← hh, ← hU]; exact hz1, fun q hq9 => ?_, by rw [← hU]; exact hz2, ⟨ce, by rw [← hh]; exact g1, g2, g5, g6⟩, by rw [← ht]; exact hsteps⟩
  have h1 : U.heap[q]? = some (H[q]'hq9) := by rw [hU]; exact Array.getElem?_eq_getElem hq9
  rw [← hh, Array.getElem?_eq_getElem hq9]
  exact State.sameButNew.old_cell hsame h1
theorem t_runS {E : String} {H : Heap} {locs : List Loc} {y : MethodName} {bytes : ByteArray} {maxL mc ms n9 index : Nat} {ret : Option FieldType} {wt Ts : List Cond} {rm : Room} {Pc : Array Value → State → Prop} {As rest : List Value} {g : JFrame} (S : CallFix p m c cc nL s args Ts own) (hM : MetFree l y (headSpec wt rm) Pc (fun _ _ _ _ _ => True) (tQ E mc ms)) (cw : CallB R s args own index y bytes maxL ret wt rm mc ms n9 ∧ (Cond.static y).before args s = true) (hp : PreS s H Pc As)
    (hg : g.method = m) (hn : As.length = n9) (hsize : g.locals.size = nL) (hstack : g.stack = As.reverse ++ rest) (hW : 2 * g.monitorRoom + (rest.map fun v => v.category).sum ≤ 8) (hdg : decode cc g.pc = .ok (.invokestatic index, 3)) (hf : k + mc ≤ R.cells ∧ n + ms ≤ R.slots) :
    tRun p l e R s m args below meth c H locs k n mc ms g rest E := by
  obtain ⟨⟨hrc, hrs, hr1, hr2, hws, hcw, hcode, hini, hy, hlen, hl⟩, hstt⟩ := cw
  obtain ⟨hx, hb, hml, ho, -⟩ := S
  intro T hT X
  obtain ⟨mk, hnamed⟩ := Cond.code_named hcode
  obtain ⟨methM, cM, hmethM, -, -, -, -, -, -, hsigM⟩ := Cond.code_spec hnamed hcode
  have hstatic : methM.isStatic = true := Cond.static_spec hnamed hmethM hstt
  obtain ⟨kP, hkP, -⟩ := className_of_methodNamed hnamed
  have hinitP : kP.init = .initialized := Cond.initialized_spec (findClass_of_methodNamed hnamed) hkP hini
  obtain ⟨vm₁, X₁, hstep₁⟩ := X.invokestatic hx ho hl hnamed hmethM hstatic hkP hinitP hy (g := g) hg (argsL := As) (rest := rest) (hn.trans (hlen _ hsigM)) hstack (by rw [hb]; exact hdg)
  obtain ⟨x, T', r0, r1, r2, r3, r4, r5⟩ := t_go (g := { g with stack := rest }) (av := As.toArray) (mk := mk) X₁ hM hrc hrs hr1 hr2 hws hcw hini hp.1 hT (hp.2 (T.setVm vm₁) hT X₁.warmed) hg (hsize.trans hml.symm) (by rw [hb]; exact hdg) hW (X₁.named hnamed) hf
  exact ⟨x, T', r0, r1, r2, r3, r4, hstep₁ _ fun acts => by rw [doInvoke_state]; exact r5⟩
theorem t_runV {E : String} {H : Heap} {locs : List Loc} {y : MethodName} {bytes : ByteArray} {maxL mc ms n9 index : Nat} {ret : Option FieldType} {wt Ts : List Cond} {rm : Room} {Pc : Array Value → State → Prop} {As rest : List Value} {g : JFrame} {C : String} {b : Addr} (S : CallFix p m c cc nL s args Ts own) (hM : MetFree l y (headSpec wt rm) Pc (fun _ _ _ _ _ => True) (tQ E mc ms)) (cw : CallW R s args own C index y bytes maxL ret wt rm mc ms n9) (hp : PreV s H C b Pc As)
    (hg : g.method = m) (hn : As.length = n9) (hsize : g.locals.size = nL) (hstack : g.stack = As.reverse ++ .ref b :: rest) (hW : 2 * g.monitorRoom + (rest.map fun v => v.category).sum ≤ 8) (hdg : decode cc g.pc = .ok (.invokevirtual index, 3)) (hf : k + mc ≤ R.cells ∧ n + ms ≤ R.slots) :
    tRun p l e R s m args below meth c H locs k n mc ms g rest E := by
  obtain ⟨⟨hrc, hrs, hr1, hr2, hws, hcw, hcode, hini, hy, hlen, hlink⟩, hinst, hsel⟩ := cw
  obtain ⟨hx, hb, hml, ho, -⟩ := S
  obtain ⟨hbl, ⟨cellB, hcB, hobj, hcls⟩, hPc⟩ := hp
  intro T hT X
  obtain ⟨mk, methM, hnamed, hmethM, hstM, habM⟩ := Cond.instanceMethod_spec hinst
  obtain ⟨methM', cM, hmethM', -, -, -, -, -, -, hsigM⟩ := Cond.code_spec hnamed hcode
  cases hmethM.symm.trans hmethM'
  obtain ⟨c2, r2, m2, q1, q2, q3, q4, kP, hkP, hkPi⟩ := Cond.selects_spec hsel
  cases hcls.symm.trans q1
  cases (State.methodFound?_of_named hnamed hy).symm.trans q2
  cases hnamed.symm.trans q3
  have hselP : selectMethod e.platform s.vm cellB.cls mk = .method mk := by rw [Launch.admits_selectMethod X.admits]; exact q4
  obtain ⟨vm₁, X₁, hstep₁⟩ := X.invokevirtual hx ho hlink hnamed hmethM hstM hkP hkPi hy (a := b) (cell := cellB) (by rw [hT]; exact hcB)
    (fun z h => by rw [h] at hobj; cases hobj) hselP hmethM habM hkP hkPi (g := g) hg (argsL := As) (rest := rest) (hn.trans (hlen _ hsigM)) hstack (by rw [hb]; exact hdg)
  obtain ⟨x, T', r0, r1, r2, r3, r4, r5⟩ := t_go (g := { g with stack := rest }) (av := (Value.ref b :: As).toArray) (mk := mk) X₁ hM hrc hrs hr1 hr2 hws hcw hini hbl hT (hPc (T.setVm vm₁) hT X₁.warmed) hg (hsize.trans hml.symm) (by rw [hb]; exact hdg) hW (X₁.named hnamed) hf
  exact ⟨x, T', r0, r1, r2, r3, r4, hstep₁ _ fun acts => by rw [doInvoke_state]; exact r5⟩
/-- .. and nobody catches: the caller throws it too -/
theorem q_out {E : String} {mc ms c1 s1 : Nat} {st0 : List Value} (hX : qOK F p l e R s m args below meth c Q cc nL own D tys A) (hT : tRT Q below E args s mc ms meth c) (hk : k + c1 ≤ mc) (hn : n + s1 ≤ ms)
    (hr : ∀ (H : Heap) (locs : List Loc) (ls : Array Slot), va_P D vwCl ws H → va_D (fun _ => True) ws → va_S A s.heap H locs → lv_has ls nL lv → tRun p l e R s m args below meth c H locs k n c1 s1 (F0 m pc ls st0) st E) : F pc lv st0 ws k n := by
  obtain ⟨rfl, hx, hb, hml, ho, hts, hN, hK, hA⟩ := hX
  obtain ⟨hQ, hlk, hex, hz⟩ := hT
  intro H locs ls hP hD hS hl9
  have hr9 := hr H locs ls hP hD hS hl9
  intro T hT X
  obtain ⟨x, T', X', r1, r2, r3, ⟨ce, r4, r5, r6, r7⟩, st9⟩ := hr9 T hT X
  have X2 : Stand p l e R s m args below meth c T' [] (k + c1) (n + s1) := Stand.forget (locs := []) X' (fun q hq => (hA q.base).2 (hS.2.2 q hq))
  obtain ⟨u1, u2, u3, u4, u5⟩ := X2.leaveThrown x (g := F0 m pc ls st) rfl rfl rfl (covers_of_empty hex _) hlk
  exact ⟨_, st9.trans u1, hQ _ ⟨.threw x, u2, u3, ⟨x, rfl, Nat.le_trans hS.1 r3, ce, r4, r5, r6, r7⟩, u4, u5.mono hk hn⟩⟩
/-- the callee's start, out of the caller's world -/
theorem tPreS {B : Nat → Prop} {H : Heap} {wc : va_W} {As : List Value} {locs : List Loc} (hK : va_K D vwCl tys s) (hN : rNest s) (hz : tZ s) (h9 : tN9 A s.heap) (hS : va_S A s.heap H locs) (hP : va_P D vwCl ws H) (hD : va_D B ws) (isC : List Nat) (hnC : va_nd isC = true) (hC : isC.map (fun i => ws[i]?) = wc.map some) (hC2 : isC.filterMap (fun i => ws[i]?) = wc) : PreS s H (va_Pc As (tPre D tys wc H.size)) As :=
  ⟨tPre_blind D tys wc H.size As, fun U hU hW => ⟨rfl, ((rPreS (As := As) hK hN hP hD isC hnC hC hC2).2 U hU hW).2, tZ.move hW.alike (by rw [hU]; exact h9.keep hS) hz⟩⟩
theorem q_invS_t {E : String} {mc ms : Nat} {wc : va_W} {st0 As : List Value} {y : MethodName} {bytes : ByteArray} {maxL index n9 : Nat} {ret : Option FieldType} {rm : Room} (hX : qOK F p l e R s m args below meth c Q cc nL own D tys A) (hT : tRT Q below E args s mc ms meth c) (hM : tC l y bytes maxL ret rm D tys As wc E) (hy : rYN y n9) (hlk : Cond.methodLink own index y ∈ rw_ok) (hi1 : Cond.static y ∈ rw_ok) (hco : Cond.code y bytes maxL ret ∈ rw_ok) (hin : Cond.initialized y.cls ∈ rw_ok) (hr1 : rm.frames + 1 ≤ R.frames) (hr2 : 8 + (maxL + 11) + rm.locals ≤ R.locals) (hr3 : k + rm.cells ≤ R.cells) (hr4 : n + rm.slots ≤ R.slots) (hk : k + rm.cells ≤ mc) (hn : n + rm.slots ≤ ms)
    (isC : List Nat) (hnC : va_nd isC = true) (hC : isC.map (fun i => ws[i]?) = wc.map some) (hC2 : isC.filterMap (fun i => ws[i]?) = wc) (hnA : As.length = n9) (hst : st0 = As.reverse ++ st) (hW : (st.map fun v => v.category).sum ≤ 8) (hd : decode cc pc = .ok (.invokestatic index, 3)) : F pc lv st0 ws k n := by
  have hX' := hX
  obtain ⟨-, hx, hb, hml, ho, hts, hN, hK, hA⟩ := hX'
  have hz := hT.2.2.2
  refine q_out (st := st) hX hT hk hn (fun H locs ls hP hD hS hl => ?_)
  exact t_runS (As := As) (n9 := n9) ⟨hx, hb, hml, ho, hts⟩ (hM H.size) ⟨rCB hts hy hco hin hlk hr1 hr2, hts _ hi1⟩ (tPreS hK hN hz (tN9.new hA) hS hP hD isC hnC hC hC2) rfl hnA hl.1 hst (lv_room hW) hd ⟨hr3, hr4⟩
theorem q_invV_t {E : String} {mc ms b : Nat} {wc : va_W} {st0 As : List Value} {y : MethodName} {bytes : ByteArray} {maxL index n9 : Nat} {ret : Option FieldType} {rm : Room} (hX : qOK F p l e R s m args below meth c Q cc nL own D tys A) (hT : tRT Q below E args s mc ms meth c) (hM : tC l y bytes maxL ret rm D tys (.ref b :: As) wc E) (C : String) (qb ci : Nat) {T : u_T} {N : Nat} {ty0 : Nat → FieldType} {fs : List Value} (hcf : rCF ci C T N ty0) (hrec : ws[qb]? = some (b, .inr (ci, fs))) (hy : rYN y n9) (hlk : Cond.methodLink own index y ∈ rw_ok) (hi1 : Cond.instanceMethod y ∈ rw_ok) (hi2 : Cond.selects C y y ∈ rw_ok) (hco : Cond.code y bytes maxL ret ∈ rw_ok) (hin : Cond.initialized y.cls ∈ rw_ok) (hr1 : rm.frames + 1 ≤ R.frames) (hr2 : 8 + (maxL + 11) + rm.locals ≤ R.locals) (hr3 : k + rm.cells ≤ R.cells) (hr4 : n + rm.slots ≤ R.slots) (hk : k + rm.cells ≤ mc) (hn : n + rm.slots ≤ ms)
    (isC : List Nat) (hnC : va_nd isC = true) (hC : isC.map (fun i => ws[i]?) = wc.map some) (hC2 : isC.filterMap (fun i => ws[i]?) = wc) (hnA : As.length = n9) (hst : st0 = As.reverse ++ .ref b :: st) (hW : (st.map fun v => v.category).sum ≤ 8) (hd : decode cc pc = .ok (.invokevirtual index, 3)) : F pc lv st0 ws k n := by
  have hX' := hX
  obtain ⟨-, hx, hb, hml, ho, hts, hN, hK, hA⟩ := hX'
  have hz := hT.2.2.2
  refine q_out (st := st) hX hT hk hn (fun H locs ls hP hD hS hl => ?_)
  have hpre := tPreS (As := .ref b :: As) hK hN hz (tN9.new hA) hS hP hD isC hnC hC hC2
  exact t_runV (C := C) (As := As) (n9 := n9) ⟨hx, hb, hml, ho, hts⟩ (hM H.size) ⟨rCB hts hy hco hin hlk hr1 hr2, hts _ hi1, hts _ hi2⟩ ⟨hpre.1, va_recv hK hP hcf.1 hrec, hpre.2⟩ rfl hnA hl.1 hst (lv_room hW) hd ⟨hr3, hr4⟩
end TR
theorem nc_IndexOutOfBoundsException_IllegalArgumentException : Cond.not (.castable "java/lang/IndexOutOfBoundsException" "java/lang/IllegalArgumentException") ∈ tzW := List.mem_of_getElem? (i := 4) rfl
theorem nc_IndexOutOfBoundsException_IllegalStateException : Cond.not (.castable "java/lang/IndexOutOfBoundsException" "java/lang/IllegalStateException") ∈ tzW := List.mem_of_getElem? (i := 5) rfl
theorem nc_IllegalArgumentException_IndexOutOfBoundsException : Cond.not (.castable "java/lang/IllegalArgumentException" "java/lang/IndexOutOfBoundsException") ∈ tzW := List.mem_of_getElem? (i := 6) rfl
theorem nc_IllegalArgumentException_IllegalStateException : Cond.not (.castable "java/lang/IllegalArgumentException" "java/lang/IllegalStateException") ∈ tzW := List.mem_of_getElem? (i := 7) rfl
theorem nc_IllegalStateException_IndexOutOfBoundsException : Cond.not (.castable "java/lang/IllegalStateException" "java/lang/IndexOutOfBoundsException") ∈ tzW := List.mem_of_getElem? (i := 8) rfl
theorem nc_IllegalStateException_IllegalArgumentException : Cond.not (.castable "java/lang/IllegalStateException" "java/lang/IllegalArgumentException") ∈ tzW := List.mem_of_getElem? (i := 9) rfl
