/-! Rows of the law's own walk. -/
abbrev tZs (s : State) : Prop := tZ s
/-- the script at b: N ints, by their numbers; nothing that may change -/
def lawS (b N : Nat) (P : Nat → Int) (s : State) (A : Nat → Prop) : Prop := (∃ xs : Nat → Int32, va_X b N xs s s.heap ∧ ∀ t, xs t = iI (P t)) ∧ ¬ A b ∧ (∀ t, iR (P t)) ∧ N ≤ 2560
section LRa
variable {p : Program} {l : Launch} {e : Env} {R : Room} {s : State} {m : MethodId} {args : Array Value} {below : List Frame} {meth : Method} {c : Code} {Q : State → Prop} {cc : ByteArray} {nL : Nat} {own : String} {D : va_G} {tys : List (ClassId × FieldType)} {A : Nat → Prop} {F : rT} {pc : Nat} {lv lv' : List (Nat × Value)} {st : List Value} {ws ws' : va_W} {k n : Nat} {H : Heap} {locs : List Loc} {ls : Array Slot}
theorem lv_lcmp0 (hexec : p.tables.exec = Jvm.exec) (hb : c.code = cc) {x : Int64} (hdg : decode cc pc = .ok (.lcmp, 1))
    (kk : W p l e R s m args below meth c H locs k n Q (F0 m (pc + 1) ls (.int 0 :: st))) : W p l e R s m args below meth c H locs k n Q (F0 m pc ls (.long x :: .long x :: st)) := by
  intro T hT X
  obtain ⟨t, a, b⟩ := kk T hT X
  refine ⟨t, ?_, b⟩
  jvm_step X.here [X.here.top, hexec, hb, hdg]
  simpa using a
theorem r_lcmp0 (hX : rOK F p l e R s m args below meth c Q cc nL own D tys A) {x y : Int64} (h : x = y) (hd : decode cc pc = .ok (.lcmp, 1)) (kk : F (pc + 1) lv (.int (iI ((0 : Nat) : Int)) :: st) ws k n) : F pc lv (.long y :: .long x :: st) ws k n := by
  obtain ⟨rfl, hx, hb, -⟩ := hX
  intro H locs ls hP hD hS hl
  subst h
  exact lv_lcmp0 hx hb hd (kk H locs ls hP hD hS hl)
/-- a call of a wrapper: the world in order again, the counters widened -/
theorem r_invSW_i0 {S : Type} {post : Int32 → S → Prop} {w1 : S → va_W} {wc wr : va_W} {st0 As : List Value} {y : MethodName} {bytes : ByteArray} {maxL index n9 : Nat} {hh : List (Nat × Nat × Nat × Nat)} {rm : Room} (hX : rOK F p l e R s m args below meth c Q cc nL own D tys A) (hz : tZ s) (h9 : tN9 A s.heap) (hM : wCi l y bytes maxL hh rm D tys As wc post w1) (hy : rYN y n9) (hlk : Cond.methodLink own index y ∈ rw_ok) (hi1 : Cond.static y ∈ rw_ok) (hco : Cond.codeWith y bytes maxL (some .int) hh ∈ rw_ok) (hin : Cond.initialized y.cls ∈ rw_ok) (hr1 : rm.frames + 1 ≤ R.frames) (hr2 : 8 + (maxL + 11) + rm.locals ≤ R.locals) {k' n' : Nat} (hk' : k + rm.cells ≤ k') (hn' : n + rm.slots ≤ n') (hr3 : k' ≤ R.cells) (hr4 : n' ≤ R.slots)
    (isC isR : List Nat) (hnC : va_nd isC = true) (hC : isC.map (fun i => ws[i]?) = wc.map some) (hC2 : isC.filterMap (fun i => ws[i]?) = wc) (hR : isR.map (fun i => ws[i]?) = wr.map some) (hnd : va_nd isR = true) (hdis : ∀ i ∈ isR, i ∉ isC) (hnA : As.length = n9) (hst : st0 = As.reverse ++ st) (hW : (st.map fun v => v.category).sum ≤ 8) (hd : decode cc pc = .ok (.invokestatic index, 3))
    (isP : List Nat) (hnP : va_nd isP = true) {w2 : S → va_W} (hP2 : ∀ u, isP.map (fun i => (wr ++ w1 u)[i]?) = (w2 u).map some)
    (kk : ∀ (r : Int32) (u : S), post r u → F (pc + 3) lv (.int r :: st) (w2 u) k' n') : F pc lv st0 ws k n :=
  r_invSW_i hX hz h9 hM hy hlk hi1 hco hin hr1 hr2 (Nat.le_trans hk' hr3) (Nat.le_trans hn' hr4) isC isR hnC hC hC2 hR hnd hdis hnA hst hW hd (fun r u h => r_widen hX hk' hn' (r_sub hX isP hnP (hP2 u) (kk r u h)))
/-- the script: read, never written -/
theorem r_sald {b N j : Nat} {P : Nat → Int} (hX : rOK F p l e R s m args below meth c Q cc nL own D tys A) (hS9 : lawS b N P s A) (hj : j < N) (hd : decode cc pc = .ok (.iaload, 1)) (kk : F (pc + 1) lv (.int (iI (P j)) :: st) ws k n) : F pc lv (.int (iI ((j : Nat) : Int)) :: .ref b :: st) ws k n := by
  obtain ⟨rfl, hx1, hb, -⟩ := hX
  obtain ⟨⟨xs, ⟨scr, h1, h2, h3, h4, h5⟩, hxs⟩, hA9, -, hN⟩ := hS9
  intro H locs ls hP9 hD hS hl
  have hH : H[b]? = some scr := by rw [hS.2.1 b (Array.getElem?_eq_some_iff.mp h1).1 hA9]; exact h1
  have e : (iI ((j : Nat) : Int)).toNatClampNeg = j := iI_cl (by omega)
  exact W.iald (v := .int (iI (P j))) hx1 hb hH h2 h3 (by rw [h4]; exact iI_in hj (by omega)) (by rw [e, h5 j hj, hxs j]) rfl rfl hd (kk H locs ls hP9 hD hS hl)
theorem r_slen {b N : Nat} {P : Nat → Int} (hX : rOK F p l e R s m args below meth c Q cc nL own D tys A) (hS9 : lawS b N P s A) (hd : decode cc pc = .ok (.arraylength, 1)) (kk : F (pc + 1) lv (.int (iI ((N : Nat) : Int)) :: st) ws k n) : F pc lv (.ref b :: st) ws k n := by
  obtain ⟨rfl, hx1, hb, -⟩ := hX
  obtain ⟨⟨xs, ⟨scr, h1, h2, h3, h4, h5⟩, hxs⟩, hA9, -, hN⟩ := hS9
  intro H locs ls hP9 hD hS hl
  have hH : H[b]? = some scr := by rw [hS.2.1 b (Array.getElem?_eq_some_iff.mp h1).1 hA9]; exact h1
  exact W.alen hx1 hb hH h2 (by rw [h4]; exact iI_nI N) rfl rfl hd (kk H locs ls hP9 hD hS hl)
end LRa
