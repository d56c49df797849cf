/-- the end of a walk that has written nothing: new E, dup, its constructor, athrow -/
theorem w_throw {p : Program} {l : Launch} {e : Env} {R : Room} {s : State} {m : MethodId} {args : Array Value} {below : List Frame} {meth : Method} {c : Code} {cells slots : Nat} {Q : State → Prop} {cc : ByteArray} {own E : String} {names : List String} {ix ic pc : Nat} {ls : Array Slot} {st : List Value}
    (hl : l.stackTraces = false) (hexec : p.tables.exec = Jvm.exec) (hb : c.code = cc) (hown : s.vm.findClass own = some m.cls) (hcl : (Cond.classLink own ix E).before args s = true) (hini : (Cond.initialized E).before args s = true) (hat : ∀ a ∈ Bundle.ownAtoms0 own ic E names, a.before args s = true) (hf1 : Bundle.fit E = true) (hf2 : ∀ n ∈ names, Bundle.fit n = true)
    (hd0 : decode cc pc = .ok (.new ix, 3)) (hd1 : decode cc (pc + 3) = .ok (.dup, 1)) (hd2 : decode cc (pc + 4) = .ok (.invokespecial ic, 3)) (hd3 : decode cc (pc + 7) = .ok (.athrow, 1)) (hout : ∀ x ∈ c.exceptionTable.toList, covers x (pc + 7) = false) (hls : ls.size = c.maxLocals) (hlk : meth.locks = false)
    {H : Heap} (hz : s.heap.size ≤ H.size) (hc1 : cells + 1 ≤ R.cells) (hc2 : slots + 6 ≤ R.slots) (hR1 : names.length + 3 < R.frames) (hR2 : 1 + (st.map fun v => v.category).sum + (13 * (names.length + 1) + 41) ≤ R.locals)
    (hq : ∀ (U : State) (a : Nat), U.status = .running → Ended U below (.threw a) → s.WarmedH U.vm → s.sameButNew ({ U with vm := s.vm } : State) [] (cells + 1) (slots + 6) → s.heap.size ≤ a → (∃ ce, U.heap[a]? = some ce ∧ Bundle.OwnCell args s E a .null ce) → Q U) :
    W p l e R s m args below meth c H [] cells slots Q (F0 m pc ls st) := by
  refine W.newc hexec hb hown hcl (hat (.instantiable E 6) (by simp [Bundle.ownAtoms0])) hini rfl hd0 hc1 hc2 (fun cC kC h1 h2 _ _ => ?_)
  refine lv_dup (pc := pc + 3) hexec hb hd1 rfl ?_
  intro T hT X
  have htr : e.platform.stackTraces = false := by rw [X.admits.platform]; exact hl
  have hcell : T.heap[H.size]? = some (freshCell cC kC) := by rw [hT]; exact Array.getElem?_push_size
  obtain ⟨U, hsteps, hrun, hend, hW, hsame, ce, hce, K⟩ := X.ctorThrow0 hexec htr (own := own) (cls := E) (names := names) (ic := ic) hown hf1 hf2 hat (fun y hy => by cases hy) h1 h2 hcell hz
    (g := F0 m (pc + 3 + 1) ls (.ref H.size :: .ref H.size :: st)) rfl hls rfl rfl (rest := st) rfl (by rw [hb]; exact hd2) (by rw [hb]; exact hd3) hout hR1 (by show 2 * 0 + (1 + (st.map fun v => v.category).sum) + (13 * (names.length + 1) + 41) ≤ R.locals; omega)
  exact ⟨U, hsteps, hq U _ hrun hend hW hsame hz ⟨ce, hce, K⟩⟩
