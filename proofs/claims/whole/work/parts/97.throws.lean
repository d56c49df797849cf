/-! Contracts that end in a throw, and their rows. -/
/-- the words of Throwable that read its statics -/
def tzW : List Cond := [.laysStatic Bundle.tN "UNASSIGNED_STACK" Bundle.steD, .laysStatic Bundle.tN "SUPPRESSED_SENTINEL" Bundle.listD, .isRef (.static Bundle.tN "UNASSIGNED_STACK" Bundle.steD), .isRef (.static Bundle.tN "SUPPRESSED_SENTINEL" Bundle.listD), .not (.castable "java/lang/IndexOutOfBoundsException" "java/lang/IllegalArgumentException"), .not (.castable "java/lang/IndexOutOfBoundsException" "java/lang/IllegalStateException"), .not (.castable "java/lang/IllegalArgumentException" "java/lang/IndexOutOfBoundsException"), .not (.castable "java/lang/IllegalArgumentException" "java/lang/IllegalStateException"), .not (.castable "java/lang/IllegalStateException" "java/lang/IndexOutOfBoundsException"), .not (.castable "java/lang/IllegalStateException" "java/lang/IllegalArgumentException"), .declares (Bundle.init0 "java/lang/RuntimeException"), .declares (Bundle.init0 "java/lang/Exception"), .declares (Bundle.init0 "java/lang/Throwable"), .castable "java/lang/IndexOutOfBoundsException" "java/lang/IndexOutOfBoundsException", .castable "java/lang/IllegalArgumentException" "java/lang/IllegalArgumentException", .castable "java/lang/IllegalStateException" "java/lang/IllegalStateException"]
def tZ (U : State) : Prop := ∀ w ∈ tzW, w.before #[] U = true
/-- the statics' cells are as they were -/
def tK (H0 H : Heap) : Prop := ∀ (q : Nat) (cell : Cell), H0[q]? = some cell → cell.vm.isStatics = true → H[q]? = some cell
theorem tz_lay {a a' : Array Value} {s U : State} {C n d : String} (hv : s.vm.Alike U.vm) (hk : tK s.heap U.heap) (h : (Cond.laysStatic C n d).before a s = true) : (Cond.laysStatic C n d).before a' U = true := by
  obtain ⟨c, k, i, f, q, cell, h1, h2, h3, h4, h5, h6, h7, h8, h9⟩ := Cond.laysStatic_spec h
  obtain ⟨k', hi', he⟩ := State.fieldFound?_setVm hv h2
  have hi2 : U.fieldFound? C n d = some (c, k', i, f) := hi'
  have hc2 : U.vm.findClass C = some c := by rw [hv.findClass]; exact h1
  have e4 : k'.statics = some q := by rw [he]; exact h4
  have e9 : k'.staticTypes[f.slot]? = some f.type := by rw [he]; exact h9
  have e5 := hk q cell h5 h6
  simp [Cond.before, Cond.holds, Cond.value, hc2, hi2, e4, e5, h3, h6, h7, h8, e9]
theorem tz_ref {a a' : Array Value} {s U : State} {C n d : String} (hv : s.vm.Alike U.vm) (hk : tK s.heap U.heap) (hl : (Cond.laysStatic C n d).before a s = true) (h : (Cond.isRef (.static C n d)).before a s = true) : (Cond.isRef (.static C n d)).before a' U = true := by
  obtain ⟨c, k, i, f, q, cell, h1, h2, h3, h4, h5, h6, h7, h8, h9⟩ := Cond.laysStatic_spec hl
  obtain ⟨k', hi', he⟩ := State.fieldFound?_setVm hv h2
  have hi2 : U.fieldFound? C n d = some (c, k', i, f) := hi'
  have e4 : k'.statics = some q := by rw [he]; exact h4
  have e5 := hk q cell h5 h6
  cases hw : (Term.static C n d).eval a s none [] s with
  | none => simp [Cond.before, Cond.holds, Cond.value, hw] at h
  | some w =>
    obtain ⟨-, q', cell', hq', hcell', -, hslot⟩ := Term.static_spec h2 hw
    cases h4.symm.trans hq'
    cases h5.symm.trans hcell'
    have e : (Term.static C n d).eval a' U none [] U = some w := by
      simp [Term.eval, State.fieldNamed?, hi2, h3, e4, e5, h6, hslot]
    simp only [Cond.before, Cond.holds, Cond.value, hw] at h
    simp only [Cond.before, Cond.holds, Cond.value, e]
    exact h
theorem tz_nc {a a' : Array Value} {s U : State} {C E : String} (hv : s.vm.Alike U.vm) (h : (Cond.not (.castable C E)).before a s = true) : (Cond.not (.castable C E)).before a' U = true := by
  have h1 := Cond.holds_not_iff.mp h
  refine Cond.holds_not_iff.mpr ?_
  simp only [Cond.value, hv.findClass, hv.assignable] at h1 ⊢
  exact h1
theorem tz_de {a a' : Array Value} {s U : State} {x : MethodName} (hv : s.vm.Alike U.vm) (h : (Cond.declares x).before a s = true) : (Cond.declares x).before a' U = true :=
  va_tabs rfl (rfl : (s.setVm U.vm).vm = U.vm) (A := a) (by rw [Cond.declares_setVm hv]; exact h)
theorem tz_ca {a a' : Array Value} {s U : State} {C E : String} (hv : s.vm.Alike U.vm) (h : (Cond.castable C E).before a s = true) : (Cond.castable C E).before a' U = true :=
  va_tabs rfl (rfl : (s.setVm U.vm).vm = U.vm) (A := a) (by rw [Cond.castable_setVm hv]; exact h)
theorem tz_all {a a' : Array Value} {s U : State} (hv : s.vm.Alike U.vm) (hk : tK s.heap U.heap) (h : ∀ w ∈ tzW, w.before a s = true) : ∀ w ∈ tzW, w.before a' U = true := by
  have h1 := h _ (List.mem_of_getElem? (i := 0) rfl)
  have h2 := h _ (List.mem_of_getElem? (i := 1) rfl)
  have h3 := h _ (List.mem_of_getElem? (i := 2) rfl)
  have h4 := h _ (List.mem_of_getElem? (i := 3) rfl)
  have h5 := h _ (List.mem_of_getElem? (i := 4) rfl)
  have h6 := h _ (List.mem_of_getElem? (i := 5) rfl)
  have h7 := h _ (List.mem_of_getElem? (i := 6) rfl)
  have h8 := h _ (List.mem_of_getElem? (i := 7) rfl)
  have h9 := h _ (List.mem_of_getElem? (i := 8) rfl)
  have h10 := h _ (List.mem_of_getElem? (i := 9) rfl)
  have h11 := h _ (List.mem_of_getElem? (i := 10) rfl)
  have h12 := h _ (List.mem_of_getElem? (i := 11) rfl)
  have h13 := h _ (List.mem_of_getElem? (i := 12) rfl)
  have h14 := h _ (List.mem_of_getElem? (i := 13) rfl)
  have h15 := h _ (List.mem_of_getElem? (i := 14) rfl)
  have h16 := h _ (List.mem_of_getElem? (i := 15) rfl)
  exact List.forall_mem_cons.mpr ⟨tz_lay hv hk h1, List.forall_mem_cons.mpr ⟨tz_lay hv hk h2, List.forall_mem_cons.mpr ⟨tz_ref hv hk h1 h3, List.forall_mem_cons.mpr ⟨tz_ref hv hk h2 h4, List.forall_mem_cons.mpr ⟨tz_nc hv h5, List.forall_mem_cons.mpr ⟨tz_nc hv h6, List.forall_mem_cons.mpr ⟨tz_nc hv h7, List.forall_mem_cons.mpr ⟨tz_nc hv h8, List.forall_mem_cons.mpr ⟨tz_nc hv h9, List.forall_mem_cons.mpr ⟨tz_nc hv h10, List.forall_mem_cons.mpr ⟨tz_de hv h11, List.forall_mem_cons.mpr ⟨tz_de hv h12, List.forall_mem_cons.mpr ⟨tz_de hv h13, List.forall_mem_cons.mpr ⟨tz_ca hv h14, List.forall_mem_cons.mpr ⟨tz_ca hv h15, List.forall_mem_cons.mpr ⟨tz_ca hv h16, fun _ h => absurd h List.not_mem_nil⟩⟩⟩⟩⟩⟩⟩⟩⟩⟩⟩⟩⟩⟩⟩⟩
theorem tK.rf {H : Heap} : tK H H := fun _ _ h _ => h
theorem tZ.move {s U : State} (hv : s.vm.Alike U.vm) (hk : tK s.heap U.heap) (h : tZ s) : tZ U := tz_all hv hk h
theorem tZ.at {s : State} (h : tZ s) (a : Array Value) : ∀ w ∈ tzW, w.before a s = true := tz_all (Vm.Alike.refl s.vm) tK.rf h
/-- the statics aren't among the cells that may change -/
def tN9 (A : Nat → Prop) (H0 : Heap) : Prop := ∀ (q : Nat) (cell : Cell), H0[q]? = some cell → cell.vm.isStatics = true → ¬ A q
theorem tN9.keep {A : Nat → Prop} {H0 H : Heap} {locs : List Loc} (h : tN9 A H0) (hS : va_S A H0 H locs) : tK H0 H := fun q cell h1 h2 => by
  rw [hS.2.1 q (Array.getElem?_eq_some_iff.mp h1).1 (h q cell h1 h2)]; exact h1
theorem tN9.new {A : Nat → Prop} {H0 : Heap} (h : ∀ q : Nat, H0.size ≤ q ↔ A q) : tN9 A H0 := fun q cell h1 _ h3 => by
  have h4 := (Array.getElem?_eq_some_iff.mp h1).1
  have h5 := (h q).2 h3
  omega
theorem vp_ns (c : ClassId) (a : vp_A) : (vp_cell c a).vm.isStatics = false := by
  obtain ⟨n, z⟩ := a
  rcases z with f | z
  · rfl
  · rcases z with f | z
    · rfl
    · first
      | rfl
      | (rcases z with f | z
         · rfl
         · first | rfl | (rcases z with f | z <;> rfl))
theorem tN9.world {D : va_G} {ws : va_W} {H0 : Heap} (hP : va_P D vwCl ws H0) : tN9 (va_A ws H0.size) H0 := fun q cell h1 h2 h3 => by
  rcases h3 with ⟨k, e, hk⟩ | h3
  · have h4 := hP k _ hk
    cases e with
    | inl a =>
      have h5 : H0[q]? = some (vp_cell a.1 a.2) := h4
      cases h1.symm.trans h5
      exact absurd h2 (by rw [vp_ns]; decide)
    | inr o =>
      obtain ⟨r, -, cell', g1, -, g3, -⟩ := h4
      cases h1.symm.trans g1
      rw [g3] at h2
      cases h2
  · have h4 := (Array.getElem?_eq_some_iff.mp h1).1
    omega
/-- it threw a new E; nothing old has changed -/
def tQ (E : String) (mc ms : Nat) : Array Value → State → Outcome → State → Prop := fun _ st o t =>
  (∃ x : Nat, o = .threw x ∧ st.heap.size ≤ x ∧ ∃ ce : Cell, t.heap[x]? = some ce ∧ ce.vm = .none ∧ st.vm.findClass E = some ce.cls ∧ st.vm.assignable ce.cls ce.cls = true) ∧ Free.FrameEndT st o t [] mc ms
def tPre (D : va_G) (tys : List (ClassId × FieldType)) (ws : va_W) (sz : Nat) : State → Prop := fun U => rPre D tys ws sz U ∧ tZ U
theorem tPre_blind (D : va_G) (tys : List (ClassId × FieldType)) (ws : va_W) (sz : Nat) (av : List Value) : FrameBlind (va_Pc av (tPre D tys ws sz)) := by
  intro a U g mk h
  have h2 := rPre_blind D tys ws sz av a U g mk ⟨h.1, h.2.1⟩
  exact ⟨h2.1, h2.2, tZ.move (s := U) (U := U.calling g mk a) (Vm.Alike.refl U.vm) tK.rf h.2.2⟩
/-- a contract that ends in a throw of E -/
def tC (l : Launch) (y : MethodName) (cc : ByteArray) (nL : Nat) (ret : Option FieldType) (rm : Room) (D : va_G) (tys : List (ClassId × FieldType)) (av : List Value) (wc : va_W) (E : String) : Prop :=
  ∀ sz, MetFree l y (headSpec (Cond.code y cc nL ret :: rw_ok) rm) (va_Pc av (tPre D tys wc sz)) (fun _ _ _ _ _ => True) (tQ E rm.cells rm.slots)
/-- what the end of such a body owes -/
def tRT (Q : State → Prop) (below : List Frame) (E : String) (args : Array Value) (s : State) (mc ms : Nat) (meth : Method) (c : Code) : Prop :=
  (∀ t, (∃ o, t.status = .running ∧ Ended t below o ∧ tQ E mc ms args s o t) → Q t) ∧ meth.locks = false ∧ c.exceptionTable.isEmpty = true ∧ tZ s
theorem t_met {l : Launch} {y : MethodName} {cc : ByteArray} {nL : Nat} {ret : Option FieldType} {rm : Room} {D : va_G} {tys : List (ClassId × FieldType)} {av : List Value} {wc : va_W} {E : String} {sz : Nat}
    (hy : plainName y.cls = true) (hav : (lg_sl av).length ≤ nL)
    (body : ∀ (F : rT) p e s m args below meth c Q A, qOK F p l e rm s m args below meth c Q cc nL y.cls D tys A → tRT Q below E args s rm.cells rm.slots meth c → F 0 (lv_args 0 av) [] wc 0 0) :
    MetFree l y (headSpec (Cond.code y cc nL ret :: rw_ok) rm) (va_Pc av (tPre D tys wc sz)) (fun _ _ _ _ _ => True) (tQ E rm.cells rm.slots) := by
  refine MetFree.of_bodyS (code := cc) (maxLocals := nL) (ret := ret) hy ?_ ?_
  · intro args s m h hn
    obtain ⟨meth, c, h1, h2, h3, h4, h5, h6, -, -⟩ := Cond.code_spec hn (atoms_spec (ws := Cond.code y cc nL ret :: rw_ok) h _ List.mem_cons_self)
    exact ⟨meth, c, h1, h2, h3, h4, h5, h6⟩
  · intro p e s m args below meth c s₁ B hml hv _
    obtain ⟨rfl, ⟨hsz, hP, hK, hD0, hN⟩, hz⟩ := hv
    have hts := atoms_spec (ws := Cond.code y cc nL ret :: rw_ok) B.pre
    have hown : s.vm.findClass y.cls = some m.cls := findClass_of_methodNamed B.named
    have hl := lv_entry av (n := nL) hav
    have hA : ∀ q : Nat, s.heap.size ≤ q ↔ sz ≤ q := fun q => by rw [hsz]
    have hex : c.exceptionTable.isEmpty = true := B.noHandlers (hts _ List.mem_cons_self)
    have hh0 : s₁.heap = s.heap := by rw [B.state]; rfl
    have key : W p l e rm s m av.toArray below meth c s.heap [] 0 0 (fun t => ∃ o, t.status = .running ∧ Ended t below o ∧ tQ E rm.cells rm.slots av.toArray s o t) (entryFrame m av.toArray nL) := by
      rw [lg_entry_eq]
      exact body (qW p l e rm s m av.toArray below meth c (fun t => ∃ o, t.status = .running ∧ Ended t below o ∧ tQ E rm.cells rm.slots av.toArray s o t) nL D (fun q => sz ≤ q)) p e s m av.toArray below meth c _ _
        ⟨rfl, B.exec, B.bytes, hml, hown, fun w h => hts w (List.mem_cons_of_mem _ h), hN, hK, hA⟩ ⟨fun _ h => h, B.notSynchronized, hex, hz⟩ s.heap [] _ hP hD0 va_S.rf hl
    obtain ⟨t, a1, o, b1, b2, b3⟩ := key s₁ hh0 (Stand.of_body B)
    exact ⟨t, o, a1, b1, b2, b3⟩
def tUp : List String := ["java/lang/RuntimeException", "java/lang/Exception"]
/-- the words of a throw of a new E -/
def tWd (own : String) (ix ic : Nat) (E : String) : Prop := Bundle.fit E = true ∧ Cond.classLink own ix E ∈ rw_ok ∧ Cond.initialized E ∈ rw_ok ∧ ∀ a ∈ Bundle.ownAtoms0 own ic E tUp, a ∈ rw_ok ∨ a ∈ tzW
theorem tUp_fit : ∀ n ∈ tUp, Bundle.fit n = true := by decide +kernel
section TR
variable {p : Program} {l : Launch} {e : Env} {R : Room} {s : State} {m : MethodId} {args : Array Value} {below : List Frame} {meth : Method} {c : Code} {Q : State → Prop} {cc : ByteArray} {nL : Nat} {own : String} {D : va_G} {tys : List (ClassId × FieldType)} {A : Nat → Prop} {F : rT} {pc : Nat} {lv lv' : List (Nat × Value)} {st : List Value} {ws ws' : va_W} {k n : Nat}
/-- the end: new E, dup, its constructor, athrow -/
theorem q_throw {E : String} {ix ic mc ms : Nat} (hX : qOK F p l e R s m args below meth c Q cc nL own D tys A) (hT : tRT Q below E args s mc ms meth c) (hl : l.stackTraces = false) (hw : tWd own ix ic E) (hk : k + 1 ≤ mc) (hn : n + 6 ≤ ms) (hc1 : k + 1 ≤ R.cells) (hc2 : n + 6 ≤ R.slots) (hR1 : 6 ≤ R.frames) (hR2 : 90 ≤ R.locals) (hst : (st.map fun v => v.category).sum ≤ 8)
    (hd0 : decode cc pc = .ok (.new ix, 3)) (hd1 : decode cc (pc + 3) = .ok (.dup, 1)) (hd2 : decode cc (pc + 4) = .ok (.invokespecial ic, 3)) (hd3 : decode cc (pc + 7) = .ok (.athrow, 1)) : F pc lv st ws k n := by
  obtain ⟨rfl, hx, hb, hml, ho, hts, hN, hK, hA⟩ := hX
  obtain ⟨hQ, hlk, hex, hz⟩ := hT
  obtain ⟨hf, hw1, hw2, hw3⟩ := hw
  intro H locs ls hP hD hS hl9
  refine va_forget (fun q hq => (hA q.base).2 (hS.2.2 q hq)) ?_
  have hat : ∀ a ∈ Bundle.ownAtoms0 own ic E tUp, a.before args s = true := fun a ha => (hw3 a ha).elim (hts a) (hz.at args a)
  refine w_throw hl hx hb ho (hts _ hw1) (hts _ hw2) hat hf tUp_fit hd0 hd1 hd2 hd3 (covers_of_empty hex _) (hl9.1.trans hml.symm) hlk hS.1 hc1 hc2 (by show 2 + 3 < R.frames; omega) (by show 1 + (st.map fun v => v.category).sum + (13 * (2 + 1) + 41) ≤ R.locals; omega) ?_
  intro U a hrun hend hW hsame hsz ⟨ce, hce, K⟩
  exact hQ U ⟨.threw a, hrun, hend, ⟨a, rfl, hsz, ce, hce, K.vm, K.cls, K.self⟩, ⟨a, rfl⟩, hW, hsame.mono hk hn⟩
/-- a call whose callee throws -/
def tRun (p : Program) (l : Launch) (e : Env) (R : Room) (s : State) (m : MethodId) (args : Array Value) (below : List Frame) (meth : Method) (c : Code) (H : Heap) (locs : List Loc) (cells slots mc ms : Nat) (g : JFrame) (rest : List Value) (E : String) : Prop :=
  ∀ T : State, T.heap = H → Stand p l e R s m args below meth c T locs cells slots → ∃ (x : Nat) (T' : State), Stand p l e R s m args below meth c T' locs (cells + mc) (slots + ms) ∧ H.size ≤ T'.heap.size ∧ (∀ q : Nat, q < H.size → T'.heap[q]? = H[q]?) ∧ H.size ≤ x ∧
    (∃ ce : Cell, T'.heap[x]? = some ce ∧ ce.vm = .none ∧ s.vm.findClass E = some ce.cls ∧ s.vm.assignable ce.cls ce.cls = true) ∧ Steps p.tables e below (T.setTop g) ((T'.setTop { g with stack := rest }).pushFrame (.throwing x))
def tPost (E : String) (mc ms : Nat) : Free.Pt → Array Value → Addr → Free.Pt → Prop := fun A a v B =>
  ∃ st t : State, st.heap = A.U.heap ∧ st.vm = A.U.vm ∧ B.U.heap = t.heap ∧ tQ E mc ms a st (.threw v) t ∧ B.locs = A.locs ∧ B.cells = A.cells + mc ∧ B.slots = A.slots + ms
theorem t_back {E : String} {y : MethodName} {bytes : ByteArray} {maxL mc ms n9 index : Nat} {ret : Option FieldType} {wt : List Cond} {rm : Room} {Pc : Array Value → State → Prop} (cb : CallB R s args own index y bytes maxL ret wt rm mc ms n9) (hM : MetFree l y (headSpec wt rm) Pc (fun _ _ _ _ _ => True) (tQ E mc ms)) (hbl : FrameBlind Pc) :
    Free.BackT l R p e below s args y 3 8 (PreOf R mc ms Pc) (tPost E mc ms) := by
  obtain ⟨hrc, hrs, hfr, hlo, hws, hcw, -, hini, -⟩ := cb
  refine Free.BackT.of_free (S := headSpec wt rm) (P := Pc) (K := fun _ _ _ _ _ => True) (Q := tQ E mc ms) (bytes := bytes) (maxL := maxL) (ret := ret) (E := fun _ _ _ _ L k n => L = [] ∧ k = mc ∧ n = ms) hM hfr hlo ?_ ?_ (fun _ _ _ _ _ _ _ _ _ => trivial) ?_ ?_
  · intro m meth c A a X hp
    exact ⟨atoms_intro fun w hw => hws w hw _ _ X.warmed, hws _ hcw _ _ X.warmed, word_at X.warmed (Or.inl (by first | rfl | simp [Cond.onTables, Cond.keeps, Cond.steady])) hini, by rw [show (headSpec wt rm).room.cells = mc from hrc]; exact hp.1, by rw [show (headSpec wt rm).room.slots = ms from hrs]; exact hp.2.1⟩
  · intro m meth c A a g mk X hp
    exact hbl _ _ _ _ hp.2.2
  · intro a st o t h
    exact ⟨[], mc, ms, h.2, rfl, rfl, rfl⟩
  · intro m meth c A a g mk v t L k n X hp hq hF h
    obtain ⟨e0, e1, e2⟩ := h
    subst e0; subst e1; subst e2
    exact ⟨A.U.calling g mk a, t, rfl, rfl, rfl, hq, List.append_nil _, rfl, rfl⟩
/-- what the callee's throw says, from the caller's point -/
theorem t_said {E : String} {mc ms : Nat} {H : Heap} {T : State} {vm₁ : Vm} {locs : List Loc} {a : Array Value} {v : Addr} {B : Free.Pt} (hT : T.heap = H) (hW₁ : s.WarmedH vm₁) (h : tPost E mc ms ⟨T.setVm vm₁, locs, k, n⟩ a v B) :
    B.locs = locs ∧ B.cells = k + mc ∧ B.slots = n + ms ∧ H.size ≤ B.U.heap.size ∧ (∀ q : Nat, q < H.size → B.U.heap[q]? = H[q]?) ∧ H.size ≤ v ∧ ∃ ce : Cell, B.U.heap[v]? = some ce ∧ ce.vm = .none ∧ s.vm.findClass E = some ce.cls ∧ s.vm.assignable ce.cls ce.cls = true := by
  obtain ⟨st9, t, e1, e2, e3, ⟨⟨x, hx, hsz, ce, g1, g2, g3, g4⟩, -, -, hsame⟩, e4, e5, e6⟩ := h
  cases hx
  have e1' : st9.heap = H := e1.trans hT
  have e2' : st9.vm = vm₁ := e2
  refine ⟨e4, e5, e6, ?_, ?_, by rw [← e1']; exact hsz, ce, by rw [e3]; exact g1, g2, ?_, ?_⟩
  · rw [e3, ← e1']; exact hsame.2.1
  · intro q hq
    have h1 : st9.heap[q]? = some (H[q]'hq) := by rw [e1']; exact Array.getElem?_eq_getElem hq
    rw [e3, ← e1', h1]
    exact State.sameButNew.old_cell hsame h1
  · rw [e2', hW₁.alike.findClass] at g3; exact g3
  · rw [e2', hW₁.alike.assignable] at g4; exact g4
theorem t_runS {E : String} {H : Heap} {locs : List Loc} {y : MethodName} {bytes : ByteArray} {maxL mc ms n9 index : Nat} {ret : Option FieldType} {wt Ts : List Cond} {rm : Room} {Pc : Array Value → State → Prop} {As rest : List Value} {g : JFrame} (S : CallFix p m c cc nL s args Ts own) (hM : MetFree l y (headSpec wt rm) Pc (fun _ _ _ _ _ => True) (tQ E mc ms)) (cw : CallB R s args own index y bytes maxL ret wt rm mc ms n9 ∧ (Cond.static y).before args s = true) (hp : PreS s H Pc As)
    (hg : g.method = m) (hn : As.length = n9) (hsize : g.locals.size = nL) (hstack : g.stack = As.reverse ++ rest) (hW : 2 * g.monitorRoom + (rest.map fun v => v.category).sum ≤ 8) (hdg : decode cc g.pc = .ok (.invokestatic index, 3)) (hf : k + mc ≤ R.cells ∧ n + ms ≤ R.slots) :
    tRun p l e R s m args below meth c H locs k n mc ms g rest E := by
  have hK := t_back (p := p) (e := e) (below := below) cw.1 hM hp.1
  obtain ⟨⟨-, -, -, -, -, -, hcode, hini, hy, hlen, hl⟩, hstt⟩ := cw
  obtain ⟨hx, hb, hml, ho, -⟩ := S
  intro T hT X
  obtain ⟨mk, hnamed⟩ := Cond.code_named hcode
  obtain ⟨methM, cM, hmethM, -, -, -, -, -, -, hsigM⟩ := Cond.code_spec hnamed hcode
  obtain ⟨v, vm₁, ⟨U', l2, c2, s2⟩, hW₁, X', hpost, st⟩ := X.staticThrows hx ho hl hstt hini hnamed hmethM hsigM hy hK hg (hsize.trans hml.symm) (Steps.refl _) (argsL := As) (rest := rest) (fun sig h => hn.trans (hlen sig h)) hstack hW (by rw [hb]; exact hdg)
    (fun vm₁ hW₁ => ⟨hf.1, hf.2, hp.2 (T.setVm vm₁) hT hW₁⟩)
  obtain ⟨r1, r2, r3, r4, r5, r6, r7⟩ := t_said hT hW₁ hpost
  dsimp only [Free.Pt.U, Free.Pt.locs, Free.Pt.cells, Free.Pt.slots] at X' r1 r2 r3 r4 r5 r7 st
  subst r1; subst r2; subst r3
  exact ⟨v, U', X', r4, r5, r6, r7, st⟩
theorem t_runV {E : String} {H : Heap} {locs : List Loc} {y : MethodName} {bytes : ByteArray} {maxL mc ms n9 index : Nat} {ret : Option FieldType} {wt Ts : List Cond} {rm : Room} {Pc : Array Value → State → Prop} {As rest : List Value} {g : JFrame} {C : String} {b : Addr} (S : CallFix p m c cc nL s args Ts own) (hM : MetFree l y (headSpec wt rm) Pc (fun _ _ _ _ _ => True) (tQ E mc ms)) (cw : CallW R s args own C index y bytes maxL ret wt rm mc ms n9) (hp : PreV s H C b Pc As)
    (hg : g.method = m) (hn : As.length = n9) (hsize : g.locals.size = nL) (hstack : g.stack = As.reverse ++ .ref b :: rest) (hW : 2 * g.monitorRoom + (rest.map fun v => v.category).sum ≤ 8) (hdg : decode cc g.pc = .ok (.invokevirtual index, 3)) (hf : k + mc ≤ R.cells ∧ n + ms ≤ R.slots) :
    tRun p l e R s m args below meth c H locs k n mc ms g rest E := by
  have hK := t_back (p := p) (e := e) (below := below) cw.1 hM hp.1
  obtain ⟨⟨-, -, -, -, -, -, hcode, -, hy, hlen, hlink⟩, hinst, hsel⟩ := cw
  obtain ⟨hx, hb, hml, ho, -⟩ := S
  obtain ⟨-, ⟨cellB, hcB, hobj, hcls⟩, hPc⟩ := hp
  intro T hT X
  obtain ⟨mk, methM, hnamed, hmethM, hstM, habM⟩ := Cond.instanceMethod_spec hinst
  obtain ⟨methM', cM, hmethM', -, -, -, -, -, -, hsigM⟩ := Cond.code_spec hnamed hcode
  cases hmethM.symm.trans hmethM'
  obtain ⟨c2, r2, m2, q1, q2, q3, q4, kP, hkP, hkPi⟩ := Cond.selects_spec hsel
  cases hcls.symm.trans q1
  cases (State.methodFound?_of_named hnamed hy).symm.trans q2
  cases hnamed.symm.trans q3
  have hselP : selectMethod e.platform s.vm cellB.cls mk = .method mk := by rw [Launch.admits_selectMethod X.admits]; exact q4
  obtain ⟨vm₁, X₁, hstep₁⟩ := X.invokevirtual hx ho hlink hnamed hmethM hstM hkP hkPi hy (a := b) (cell := cellB) (by rw [hT]; exact hcB)
    (fun z h => by rw [h] at hobj; cases hobj) hselP hmethM habM hkP hkPi (g := g) hg (argsL := As) (rest := rest) (hn.trans (hlen _ hsigM)) hstack (by rw [hb]; exact hdg)
  obtain ⟨v, ⟨U', l2, c2, s2⟩, X', hpost, hsteps⟩ := hK m meth c ⟨T.setVm vm₁, locs, k, n⟩ { g with stack := rest } (.invokevirtual index) mk (Value.ref b :: As).toArray X₁ hg (hsize.trans hml.symm) (by rw [hb]; exact hdg) hW (X₁.named hnamed) ⟨hf.1, hf.2, hPc (T.setVm vm₁) hT X₁.warmed⟩
  obtain ⟨r1, r2, r3, r4, r5, r6, r7⟩ := t_said hT X₁.warmed hpost
  dsimp only [Free.Pt.U, Free.Pt.locs, Free.Pt.cells, Free.Pt.slots] at X' r1 r2 r3 r4 r5 r7 hsteps
  subst r1; subst r2; subst r3
  exact ⟨v, U', X', r4, r5, r6, r7, hstep₁ _ fun acts => by rw [doInvoke_state]; exact hsteps⟩
/-- .. and nobody catches: the caller throws it too -/
theorem q_out {E : String} {mc ms c1 s1 : Nat} {st0 : List Value} (hX : qOK F p l e R s m args below meth c Q cc nL own D tys A) (hT : tRT Q below E args s mc ms meth c) (hk : k + c1 ≤ mc) (hn : n + s1 ≤ ms)
    (hr : ∀ (H : Heap) (locs : List Loc) (ls : Array Slot), va_P D vwCl ws H → va_D (fun _ => True) ws → va_S A s.heap H locs → lv_has ls nL lv → tRun p l e R s m args below meth c H locs k n c1 s1 (F0 m pc ls st0) st E) : F pc lv st0 ws k n := by
  obtain ⟨rfl, hx, hb, hml, ho, hts, hN, hK, hA⟩ := hX
  obtain ⟨hQ, hlk, hex, hz⟩ := hT
  intro H locs ls hP hD hS hl9
  have hr9 := hr H locs ls hP hD hS hl9
  intro T hT X
  obtain ⟨x, T', X', r1, r2, r3, ⟨ce, r4, r5, r6, r7⟩, st9⟩ := hr9 T hT X
  have X2 : Stand p l e R s m args below meth c T' [] (k + c1) (n + s1) := Stand.forget (locs := []) X' (fun q hq => (hA q.base).2 (hS.2.2 q hq))
  obtain ⟨u1, u2, u3, u4, u5⟩ := X2.leaveThrown x (g := F0 m pc ls st) rfl rfl rfl (covers_of_empty hex _) hlk
  exact ⟨_, st9.trans u1, hQ _ ⟨.threw x, u2, u3, ⟨x, rfl, Nat.le_trans hS.1 r3, ce, r4, r5, r6, r7⟩, ⟨x, rfl⟩, u4, u5.mono hk hn⟩⟩
/-- the callee's start, out of the caller's world -/
theorem tPreS {B : Nat → Prop} {H : Heap} {wc : va_W} {As : List Value} {locs : List Loc} (hK : va_K D vwCl tys s) (hN : rNest s) (hz : tZ s) (h9 : tN9 A s.heap) (hS : va_S A s.heap H locs) (hP : va_P D vwCl ws H) (hD : va_D B ws) (isC : List Nat) (hnC : va_nd isC = true) (hC : isC.map (fun i => ws[i]?) = wc.map some) (hC2 : isC.filterMap (fun i => ws[i]?) = wc) : PreS s H (va_Pc As (tPre D tys wc H.size)) As :=
  ⟨tPre_blind D tys wc H.size As, fun U hU hW => ⟨rfl, ((rPreS (As := As) hK hN hP hD isC hnC hC hC2).2 U hU hW).2, tZ.move hW.alike (by rw [hU]; exact h9.keep hS) hz⟩⟩
theorem q_invS_t {E : String} {mc ms : Nat} {wc : va_W} {st0 As : List Value} {y : MethodName} {bytes : ByteArray} {maxL index n9 : Nat} {ret : Option FieldType} {rm : Room} (hX : qOK F p l e R s m args below meth c Q cc nL own D tys A) (hT : tRT Q below E args s mc ms meth c) (hM : tC l y bytes maxL ret rm D tys As wc E) (hy : rYN y n9) (hlk : Cond.methodLink own index y ∈ rw_ok) (hi1 : Cond.static y ∈ rw_ok) (hco : Cond.code y bytes maxL ret ∈ rw_ok) (hin : Cond.initialized y.cls ∈ rw_ok) (hr1 : rm.frames + 1 ≤ R.frames) (hr2 : 8 + (maxL + 11) + rm.locals ≤ R.locals) (hr3 : k + rm.cells ≤ R.cells) (hr4 : n + rm.slots ≤ R.slots) (hk : k + rm.cells ≤ mc) (hn : n + rm.slots ≤ ms)
    (isC : List Nat) (hnC : va_nd isC = true) (hC : isC.map (fun i => ws[i]?) = wc.map some) (hC2 : isC.filterMap (fun i => ws[i]?) = wc) (hnA : As.length = n9) (hst : st0 = As.reverse ++ st) (hW : (st.map fun v => v.category).sum ≤ 8) (hd : decode cc pc = .ok (.invokestatic index, 3)) : F pc lv st0 ws k n := by
  have hX' := hX
  obtain ⟨-, hx, hb, hml, ho, hts, hN, hK, hA⟩ := hX'
  have hz := hT.2.2.2
  refine q_out (st := st) hX hT hk hn (fun H locs ls hP hD hS hl => ?_)
  exact t_runS (As := As) (n9 := n9) ⟨hx, hb, hml, ho, hts⟩ (hM H.size) ⟨rCB hts hy hco hin hlk hr1 hr2, hts _ hi1⟩ (tPreS hK hN hz (tN9.new hA) hS hP hD isC hnC hC hC2) rfl hnA hl.1 hst (lv_room hW) hd ⟨hr3, hr4⟩
theorem q_invV_t {E : String} {mc ms b : Nat} {wc : va_W} {st0 As : List Value} {y : MethodName} {bytes : ByteArray} {maxL index n9 : Nat} {ret : Option FieldType} {rm : Room} (hX : qOK F p l e R s m args below meth c Q cc nL own D tys A) (hT : tRT Q below E args s mc ms meth c) (hM : tC l y bytes maxL ret rm D tys (.ref b :: As) wc E) (C : String) (qb ci : Nat) {T : u_T} {N : Nat} {ty0 : Nat → FieldType} {fs : List Value} (hcf : rCF ci C T N ty0) (hrec : ws[qb]? = some (b, .inr (ci, fs))) (hy : rYN y n9) (hlk : Cond.methodLink own index y ∈ rw_ok) (hi1 : Cond.instanceMethod y ∈ rw_ok) (hi2 : Cond.selects C y y ∈ rw_ok) (hco : Cond.code y bytes maxL ret ∈ rw_ok) (hin : Cond.initialized y.cls ∈ rw_ok) (hr1 : rm.frames + 1 ≤ R.frames) (hr2 : 8 + (maxL + 11) + rm.locals ≤ R.locals) (hr3 : k + rm.cells ≤ R.cells) (hr4 : n + rm.slots ≤ R.slots) (hk : k + rm.cells ≤ mc) (hn : n + rm.slots ≤ ms)
    (isC : List Nat) (hnC : va_nd isC = true) (hC : isC.map (fun i => ws[i]?) = wc.map some) (hC2 : isC.filterMap (fun i => ws[i]?) = wc) (hnA : As.length = n9) (hst : st0 = As.reverse ++ .ref b :: st) (hW : (st.map fun v => v.category).sum ≤ 8) (hd : decode cc pc = .ok (.invokevirtual index, 3)) : F pc lv st0 ws k n := by
  have hX' := hX
  obtain ⟨-, hx, hb, hml, ho, hts, hN, hK, hA⟩ := hX'
  have hz := hT.2.2.2
  refine q_out (st := st) hX hT hk hn (fun H locs ls hP hD hS hl => ?_)
  have hpre := tPreS (As := .ref b :: As) hK hN hz (tN9.new hA) hS hP hD isC hnC hC hC2
  exact t_runV (C := C) (As := As) (n9 := n9) ⟨hx, hb, hml, ho, hts⟩ (hM H.size) ⟨rCB hts hy hco hin hlk hr1 hr2, hts _ hi1, hts _ hi2⟩ ⟨hpre.1, va_recv hK hP hcf.1 hrec, hpre.2⟩ rfl hnA hl.1 hst (lv_room hW) hd ⟨hr3, hr4⟩
end TR
theorem nc_IndexOutOfBoundsException_IllegalArgumentException : Cond.not (.castable "java/lang/IndexOutOfBoundsException" "java/lang/IllegalArgumentException") ∈ tzW := List.mem_of_getElem? (i := 4) rfl
theorem nc_IndexOutOfBoundsException_IllegalStateException : Cond.not (.castable "java/lang/IndexOutOfBoundsException" "java/lang/IllegalStateException") ∈ tzW := List.mem_of_getElem? (i := 5) rfl
theorem nc_IllegalArgumentException_IndexOutOfBoundsException : Cond.not (.castable "java/lang/IllegalArgumentException" "java/lang/IndexOutOfBoundsException") ∈ tzW := List.mem_of_getElem? (i := 6) rfl
theorem nc_IllegalArgumentException_IllegalStateException : Cond.not (.castable "java/lang/IllegalArgumentException" "java/lang/IllegalStateException") ∈ tzW := List.mem_of_getElem? (i := 7) rfl
theorem nc_IllegalStateException_IndexOutOfBoundsException : Cond.not (.castable "java/lang/IllegalStateException" "java/lang/IndexOutOfBoundsException") ∈ tzW := List.mem_of_getElem? (i := 8) rfl
theorem nc_IllegalStateException_IllegalArgumentException : Cond.not (.castable "java/lang/IllegalStateException" "java/lang/IllegalArgumentException") ∈ tzW := List.mem_of_getElem? (i := 9) rfl
