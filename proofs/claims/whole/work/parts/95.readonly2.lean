/-- a read-only body's walk gives a contract that frees nothing old -/
theorem q_met {l : Launch} {y : MethodName} {cc : ByteArray} {nL : Nat} {ret : Option FieldType} {rm : Room} {D : va_G} {tys : List (ClassId × FieldType)} {av : List Value} {wc : va_W} {Qc : Array Value → State → Outcome → State → Prop} {mc ms sz : Nat}
    (hy : plainName y.cls = true) (hav : (lg_sl av).length ≤ nL)
    (body : ∀ (F : rT) p e s m args below meth c Q A, qOK F p l e rm s m args below meth c Q cc nL y.cls D tys A → rRT Q below Qc args s mc ms A meth ret → A = (fun q => sz ≤ q) → s.heap.size = sz → meth.name = y.name → F 0 (lv_args 0 av) [] wc 0 0) :
    Met l y (Cond.code y cc nL ret :: rw_ok) rm (va_Pc av (rPre D tys wc sz)) Qc mc ms (fun q => sz ≤ q) := by
  refine Met.ofW (cc := cc) (maxL := nL) (ret := ret) hy rfl ?_
  intro p e s m args below meth c s₁ B hml hv
  obtain ⟨rfl, hsz, hP, hK, hD0, hN⟩ := hv
  have hts := atoms_spec (ws := Cond.code y cc nL ret :: rw_ok) B.pre
  have hown : s.vm.findClass y.cls = some m.cls := findClass_of_methodNamed B.named
  have hin : meth.name = y.name := (name_of_methodNamed B.named B.method).1
  have hl := lv_entry av (n := nL) hav
  rw [lg_entry_eq]
  have hA : ∀ q : Nat, s.heap.size ≤ q ↔ sz ≤ q := fun q => by rw [hsz]
  exact body (qW p l e rm s m av.toArray below meth c (MQ below Qc av.toArray s mc ms (fun q => sz ≤ q)) nL D (fun q => sz ≤ q)) p e s m av.toArray below meth c _ _
    ⟨rfl, B.exec, B.bytes, hml, hown, fun w h => hts w (List.mem_cons_of_mem _ h), hN, hK, hA⟩ ⟨fun _ h => h, B.returns, B.notSynchronized⟩ rfl hsz hin s.heap [] _ hP hD0 va_S.rf hl
