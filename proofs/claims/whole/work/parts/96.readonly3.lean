section RLQ2
variable {p : Program} {l : Launch} {e : Env} {R : Room} {s : State} {m : MethodId} {args : Array Value} {below : List Frame} {meth : Method} {c : Code} {Q : State → Prop} {cc : ByteArray} {nL : Nat} {own : String} {D : va_G} {tys : List (ClassId × FieldType)} {A : Nat → Prop} {F : rT} {pc : Nat} {lv lv' : List (Nat × Value)} {st : List Value} {ws ws' : va_W} {k n : Nat}
theorem q_vret {S : Type} {post : S → Prop} {w1 : S → va_W} {mc ms : Nat} (hX : qOK F p l e R s m args below meth c Q cc nL own D tys A) (hT : rRT Q below (va_Qv post (fun u => rB D tys (fun _ => True) (w1 u)) A) args s mc ms A meth none) (u : S) (hp : post u) (hw : ws = w1 u) (hk : k ≤ mc) (hn : n ≤ ms) (hd : decode cc pc = .ok (.return_, 1)) : F pc lv [] ws k n := by
  obtain ⟨rfl, hx, hb, -, -, -, -, hK, -⟩ := hX
  obtain ⟨hQ, hr, hlk⟩ := hT
  intro H locs ls hP hD hS hl
  subst hw
  refine W.mono hQ (W.widen hk hn ?_)
  exact W.vret hx hb hr (fun t ht hW => ⟨⟨u, rfl, hp, by rw [ht]; exact hP, va_K.moved hW.alike hK, hD⟩, hS.F ht⟩) hS.2.2 hd hlk
theorem q_iret {S : Type} {post : Int32 → S → Prop} {w1 : S → va_W} {mc ms : Nat} (hX : qOK F p l e R s m args below meth c Q cc nL own D tys A) (hT : rRT Q below (va_Qi post (fun u => rB D tys (fun _ => True) (w1 u)) A) args s mc ms A meth (some .int)) {x : Int32} (u : S) (hp : post x u) (hw : ws = w1 u) (hk : k ≤ mc) (hn : n ≤ ms) (hd : decode cc pc = .ok (.ireturn, 1)) : F pc lv [.int x] ws k n := by
  obtain ⟨rfl, hx, hb, -, -, -, -, hK, -⟩ := hX
  obtain ⟨hQ, hr, hlk⟩ := hT
  intro H locs ls hP hD hS hl
  subst hw
  refine W.mono hQ (W.widen hk hn ?_)
  exact W.iret hx hb hr (fun t ht hW => ⟨⟨x, u, rfl, hp, by rw [ht]; exact hP, va_K.moved hW.alike hK, hD⟩, hS.F ht⟩) hS.2.2 hd hlk
theorem q_zret {S : Type} {post : Int32 → S → Prop} {w1 : S → va_W} {mc ms : Nat} (hX : qOK F p l e R s m args below meth c Q cc nL own D tys A) (hT : rRT Q below (va_Qi post (fun u => rB D tys (fun _ => True) (w1 u)) A) args s mc ms A meth (some .boolean)) {v : Int} (hv : v = 0 ∨ v = 1) (u : S) (hp : post (iI v) u) (hw : ws = w1 u) (hk : k ≤ mc) (hn : n ≤ ms) (hd : decode cc pc = .ok (.ireturn, 1)) : F pc lv [.int (iI v)] ws k n := by
  obtain ⟨rfl, hx, hb, -, -, -, -, hK, -⟩ := hX
  obtain ⟨hQ, hr, hlk⟩ := hT
  intro H locs ls hP hD hS hl
  subst hw
  refine W.mono hQ (W.widen hk hn ?_)
  have hnv : narrow .boolean (.int (iI v)) = .int (iI v) := by rcases hv with rfl | rfl <;> decide +kernel
  exact W.zret hx hb hr hnv (fun t ht hW => ⟨⟨iI v, u, rfl, hp, by rw [ht]; exact hP, va_K.moved hW.alike hK, hD⟩, hS.F ht⟩) hS.2.2 hd hlk
theorem q_lret {S : Type} {post : Int64 → S → Prop} {w1 : S → va_W} {mc ms : Nat} (hX : qOK F p l e R s m args below meth c Q cc nL own D tys A) (hT : rRT Q below (va_Ql post (fun u => rB D tys (fun _ => True) (w1 u)) A) args s mc ms A meth (some .long)) {x : Int64} (u : S) (hp : post x u) (hw : ws = w1 u) (hk : k ≤ mc) (hn : n ≤ ms) (hd : decode cc pc = .ok (.lreturn, 1)) : F pc lv [.long x] ws k n := by
  obtain ⟨rfl, hx, hb, -, -, -, -, hK, -⟩ := hX
  obtain ⟨hQ, hr, hlk⟩ := hT
  intro H locs ls hP hD hS hl
  subst hw
  refine W.mono hQ (W.widen hk hn ?_)
  exact W.lret hx hb hr (fun t ht hW => ⟨⟨x, u, rfl, hp, by rw [ht]; exact hP, va_K.moved hW.alike hK, hD⟩, hS.F ht⟩) hS.2.2 hd hlk
theorem q_aret {w1 : va_W} {mc ms a : Nat} {C : String} (hX : qOK F p l e R s m args below meth c Q cc nL own D tys A) (hT : rRT Q below (va_Qr (fun (_ : Unit) => True) (fun _ a' t => a' = a ∧ rB D tys (fun _ => True) w1 t) A) args s mc ms A meth (some (.object C))) (hw : ws = w1) (hk : k ≤ mc) (hn : n ≤ ms) (hd : decode cc pc = .ok (.areturn, 1)) : F pc lv [.ref a] ws k n := by
  obtain ⟨rfl, hx, hb, -, -, -, -, hK, -⟩ := hX
  obtain ⟨hQ, hr, hlk⟩ := hT
  intro H locs ls hP hD hS hl
  subst hw
  refine W.mono hQ (W.widen hk hn ?_)
  exact W.aret hx hb hr (Or.inl ⟨_, rfl⟩) (Or.inr ⟨_, rfl⟩) (fun t ht hW => ⟨⟨(), a, rfl, trivial, rfl, by rw [ht]; exact hP, va_K.moved hW.alike hK, hD⟩, hS.F ht⟩) hS.2.2 hd hlk
end RLQ2
