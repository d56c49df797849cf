section RL3
variable {p : Program} {l : Launch} {e : Env} {R : Room} {s : State} {m : MethodId} {args : Array Value} {below : List Frame} {meth : Method} {c : Code} {Q : State → Prop} {cc : ByteArray} {nL : Nat} {own : String} {D : va_G} {tys : List (ClassId × FieldType)} {A : Nat → Prop} {F : rT} {pc : Nat} {lv lv' : List (Nat × Value)} {st : List Value} {ws ws' : va_W} {k n : Nat}
theorem r_tIn (hX : rOK F p l e R s m args below meth c Q cc nL own D tys A) {dflt lo hi : Int} {offs : Array Int} {len : Nat} {x off : Int} (tgt : Nat) (hx9 : iR x) (hd : decode cc pc = .ok (.tableswitch dflt lo hi offs, len)) (h1 : ¬ x < lo) (h2 : ¬ hi < x) (ho : offs[(x - lo).toNat]? = some off) (ht : (pc : Int) + off = (tgt : Int)) (kk : F tgt lv st ws k n) : F pc lv (.int (iI x) :: st) ws k n := by
  obtain ⟨rfl, hx, hb, -⟩ := hX
  intro H locs ls hP hD hS hl
  have e := iI_toInt hx9
  exact lv_tableIn hx hb hd (by rw [e]; exact h1) (by rw [e]; exact h2) (by rw [e]; exact ho) ht (kk H locs ls hP hD hS hl)
theorem r_tOut (hX : rOK F p l e R s m args below meth c Q cc nL own D tys A) {dflt lo hi : Int} {offs : Array Int} {len : Nat} {x : Int} (tgt : Nat) (hx9 : iR x) (hd : decode cc pc = .ok (.tableswitch dflt lo hi offs, len)) (h : x < lo ∨ hi < x) (ht : (pc : Int) + dflt = (tgt : Int)) (kk : F tgt lv st ws k n) : F pc lv (.int (iI x) :: st) ws k n := by
  obtain ⟨rfl, hx, hb, -⟩ := hX
  intro H locs ls hP hD hS hl
  have e := iI_toInt hx9
  exact lv_tableOut hx hb hd (by rw [e]; exact h) ht (kk H locs ls hP hD hS hl)
end RL3
