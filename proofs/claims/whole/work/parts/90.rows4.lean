theorem vp_ext {cA : ClassId} {N : Nat} {f g : Nat → Int32} (h : ∀ j, j < N → f j = g j) : vp_cell cA (N, .inl f) = vp_cell cA (N, .inl g) := by
  rw [vp_cell_i, vp_cell_i]
  unfold arrV
  congr 2
  funext j
  exact congrArg Value.int (h j.val j.isLt)
section RL4
variable {p : Program} {l : Launch} {e : Env} {R : Room} {s : State} {m : MethodId} {args : Array Value} {below : List Frame} {meth : Method} {c : Code} {Q : State → Prop} {cc : ByteArray} {nL : Nat} {own : String} {D : va_G} {tys : List (ClassId × FieldType)} {A : Nat → Prop} {F : rT} {pc : Nat} {lv lv' : List (Nat × Value)} {st : List Value} {ws ws' : va_W} {k n : Nat}
/-- an array is what it holds below its length -/
theorem r_arrx (hX : rOK F p l e R s m args below meth c Q cc nL own D tys A) (q0 : Nat) {a N : Nat} {cA : ClassId} {f g : Nat → Int} (he : ws[q0]? = some (a, .inl (cA, N, .inl (iA f)))) (h : ∀ j, j < N → f j = g j) (hw : ws.set q0 (a, .inl (cA, N, .inl (iA g))) = ws') (kk : F pc lv st ws' k n) : F pc lv st ws k n := by
  obtain ⟨rfl, -⟩ := hX
  subst hw
  intro H locs ls hP hD hS hl
  refine kk H locs ls (va_P.set hP hD he ?_ (fun _ _ => rfl)) (va_D.set hD he) hS hl
  have q : H[a]? = some (vp_cell cA (N, .inl (iA f))) := hP q0 _ he
  show H[a]? = some (vp_cell cA (N, .inl (iA g)))
  rw [q]
  exact congrArg some (vp_ext (fun j hj => congrArg iI (h j hj)))
end RL4
