/-! The layer, second part: conditions as numbers, places as numbers, joins, calls that make nothing. -/
def bI (p : Prop) [Decidable p] : Int := if p then 1 else 0
theorem bI_t {p : Prop} [Decidable p] (h : p) : bI p = 1 := if_pos h
theorem bI_f {p : Prop} [Decidable p] (h : ¬ p) : bI p = 0 := if_neg h
theorem bI_01 (p : Prop) [Decidable p] : bI p = 0 ∨ bI p = 1 := by
  unfold bI; split
  · exact Or.inr rfl
  · exact Or.inl rfl
theorem bI_R (p : Prop) [Decidable p] : iR (bI p) := by
  have := bI_01 p
  unfold iR; omega
theorem bI_0 {p : Prop} [Decidable p] : bI p = 0 ↔ ¬ p := by
  unfold bI; split <;> simp_all
theorem bI_congr {p q : Prop} [Decidable p] [Decidable q] (h : p ↔ q) : bI p = bI q := by
  unfold bI
  by_cases hp : p
  · rw [if_pos hp, if_pos (h.1 hp)]
  · rw [if_neg hp, if_neg (fun hq => hp (h.2 hq))]
theorem nz_b (p : Prop) [Decidable p] : narrow .boolean (.int (iI (bI p))) = .int (iI (bI p)) := by
  rcases bI_01 p with h | h <;> rw [h] <;> decide +kernel
theorem fz_b (p : Prop) [Decidable p] : fits .boolean (.int (iI (bI p))) = true := by
  rcases bI_01 p with h | h <;> rw [h] <;> decide +kernel
/-- an array of numbers from 0 on; of truth values -/
def iN (g : Nat → Nat) : Nat → Int := fun k => ((g k : Nat) : Int)
def iT (g : Nat → Bool) : Nat → Int := fun k => bI (g k = true)
theorem iN_up (g : Nat → Nat) (j x : Nat) : iU (iN g) j ((x : Nat) : Int) = iN (iU g j x) := by
  funext k
  by_cases h : k = j
  · subst h; rw [iU_s]; show _ = ((iU g k x k : Nat) : Int); rw [iU_s]
  · rw [iU_n h]; show ((g k : Nat) : Int) = ((iU g j x k : Nat) : Int); rw [iU_n h]
theorem iT_up (g : Nat → Bool) (j : Nat) (x : Bool) : iU (iT g) j (bI (x = true)) = iT (iU g j x) := by
  funext k
  by_cases h : k = j
  · subst h; rw [iU_s]; show _ = bI (iU g k x k = true); rw [iU_s]
  · rw [iU_n h]; show bI (g k = true) = bI (iU g j x k = true); rw [iU_n h]
abbrev tysA (tI tJ tZ : ClassId) : List (ClassId × FieldType) := [(tI, .int), (tJ, .long), (tZ, .boolean)]
section RL2
variable {p : Program} {l : Launch} {e : Env} {R : Room} {s : State} {m : MethodId} {args : Array Value} {below : List Frame} {meth : Method} {c : Code} {Q : State → Prop} {cc : ByteArray} {nL : Nat} {own : String} {D : va_G} {tys : List (ClassId × FieldType)} {A : Nat → Prop} {F : rT} {pc : Nat} {lv lv' : List (Nat × Value)} {st : List Value} {ws ws' : va_W} {k n : Nat}
theorem rb_if_ne (hX : rOK F p l e R s m args below meth c Q cc nL own D tys A) {P : Prop} [Decidable P] {off : Int} (tgt : Nat) (hd : decode cc pc = .ok (.ifCond .ne off, 3)) (ht : (pc : Int) + off = (tgt : Int)) (kt : P → F tgt lv st ws k n) (kf : ¬ P → F (pc + 3) lv st ws k n) : F pc lv (.int (iI (bI P)) :: st) ws k n :=
  r_if_ne hX tgt hd ht (bI_R P) (fun h => kt (Classical.byContradiction fun q => h (bI_0.2 q))) (fun h => kf (bI_0.1 h))
theorem rb_if_eq (hX : rOK F p l e R s m args below meth c Q cc nL own D tys A) {P : Prop} [Decidable P] {off : Int} (tgt : Nat) (hd : decode cc pc = .ok (.ifCond .eq off, 3)) (ht : (pc : Int) + off = (tgt : Int)) (kt : ¬ P → F tgt lv st ws k n) (kf : P → F (pc + 3) lv st ws k n) : F pc lv (.int (iI (bI P)) :: st) ws k n :=
  r_if_eq hX tgt hd ht (bI_R P) (fun h => kt (bI_0.1 h)) (fun h => kf (Classical.byContradiction fun q => h (bI_0.2 q)))
theorem rj_1 {P : Prop} [Decidable P] (hp : P) (kk : F pc lv (.int (iI (bI P)) :: st) ws k n) : F pc lv (.int (iI ((1 : Nat) : Int)) :: st) ws k n := by
  rw [bI_t hp] at kk; exact kk
theorem rj_0 {P : Prop} [Decidable P] (hp : ¬ P) (kk : F pc lv (.int (iI (bI P)) :: st) ws k n) : F pc lv (.int (iI ((0 : Nat) : Int)) :: st) ws k n := by
  rw [bI_f hp] at kk; exact kk
theorem rj_b {P P' : Prop} [Decidable P] [Decidable P'] (hp : P ↔ P') (kk : F pc lv (.int (iI (bI P')) :: st) ws k n) : F pc lv (.int (iI (bI P)) :: st) ws k n := by
  rw [bI_congr hp]; exact kk
theorem rj_e {a b : Int} (h : a = b) (kk : F pc lv (.int (iI b) :: st) ws k n) : F pc lv (.int (iI a) :: st) ws k n := by
  rw [h]; exact kk
theorem r_ialdN (hX : rOK F p l e R s m args below meth c Q cc nL own D tys A) (q0 t0 : Nat) {cA : ClassId} {N a : Nat} {f : Nat → Nat} (ha : ws[q0]? = some (a, .inl (cA, N, .inl (iA (iN f))))) (ht : tys[t0]? = some (cA, .int)) {x : Int} (j : Nat) (hx9 : x = j) (hj : j < N) (hN : N < 2147483648) (hd : decode cc pc = .ok (.iaload, 1)) (kk : F (pc + 1) lv (.int (iI ((f j : Nat) : Int)) :: st) ws k n) : F pc lv (.int (iI x) :: .ref a :: st) ws k n :=
  r_iald hX q0 t0 ha ht j hx9 hj hN hd kk
theorem r_iastN (hX : rOK F p l e R s m args below meth c Q cc nL own D tys A) (q0 t0 : Nat) {cA : ClassId} {N a : Nat} {f : Nat → Nat} (ha : ws[q0]? = some (a, .inl (cA, N, .inl (iA (iN f))))) (ht : tys[t0]? = some (cA, .int)) {x : Int} {v : Nat} (j : Nat) (hx9 : x = j) (hj : j < N) (hN : N < 2147483648) (hw : ws.set q0 (a, .inl (cA, N, .inl (iA (iN (iU f j v))))) = ws') (hd : decode cc pc = .ok (.iastore, 1)) (kk : F (pc + 1) lv st ws' k n) : F pc lv (.int (iI ((v : Nat) : Int)) :: .int (iI x) :: .ref a :: st) ws k n := by
  refine r_iast hX q0 t0 ha ht j hx9 hj hN ?_ hd kk
  rw [iN_up]; exact hw
theorem r_zaldT (hX : rOK F p l e R s m args below meth c Q cc nL own D tys A) (q0 t0 : Nat) {cA : ClassId} {N a : Nat} {f : Nat → Bool} (ha : ws[q0]? = some (a, .inl (cA, N, .inl (iA (iT f))))) (ht : tys[t0]? = some (cA, .boolean)) {x : Int} (j : Nat) (hx9 : x = j) (hj : j < N) (hN : N < 2147483648) (hd : decode cc pc = .ok (.baload, 1)) (kk : F (pc + 1) lv (.int (iI (bI (f j = true))) :: st) ws k n) : F pc lv (.int (iI x) :: .ref a :: st) ws k n :=
  r_zald hX q0 t0 ha ht j hx9 hj hN hd kk
theorem r_zastT (hX : rOK F p l e R s m args below meth c Q cc nL own D tys A) (q0 t0 : Nat) {cA : ClassId} {N a : Nat} {f : Nat → Bool} (ha : ws[q0]? = some (a, .inl (cA, N, .inl (iA (iT f))))) (ht : tys[t0]? = some (cA, .boolean)) {x v : Int} (j : Nat) (hx9 : x = j) (hj : j < N) (hN : N < 2147483648) (y : Bool) (hy : v = bI (y = true)) (hw : ws.set q0 (a, .inl (cA, N, .inl (iA (iT (iU f j y))))) = ws') (hd : decode cc pc = .ok (.bastore, 1)) (kk : F (pc + 1) lv st ws' k n) : F pc lv (.int (iI v) :: .int (iI x) :: .ref a :: st) ws k n := by
  refine r_zast hX q0 t0 ha ht j hx9 hj hN (by rw [hy]; exact bI_01 _) ?_ hd kk
  rw [hy, iT_up]; exact hw
theorem r_topl {x v : Int64} (hv : x = v) (kk : F pc lv (.long v :: st) ws k n) : F pc lv (.long x :: st) ws k n := by
  subst hv; exact kk
theorem r_iconstN (hX : rOK F p l e R s m args below meth c Q cc nL own D tys A) {a : Int} (j : Nat) (hd : decode cc pc = .ok (.iconst a, 1)) (ha : a = j) (kk : F (pc + 1) lv (.int (iI (j : Int)) :: st) ws k n) : F pc lv st ws k n := by
  subst ha; exact r_iconst hX hd kk
theorem r_bipushN (hX : rOK F p l e R s m args below meth c Q cc nL own D tys A) {a : Int} (j : Nat) (hd : decode cc pc = .ok (.bipush a, 2)) (ha : a = j) (hv : (Int8.ofInt a).toInt32 = iI a) (kk : F (pc + 2) lv (.int (iI (j : Int)) :: st) ws k n) : F pc lv st ws k n := by
  subst ha; exact r_bipush hX hd hv kk
theorem r_sipushN (hX : rOK F p l e R s m args below meth c Q cc nL own D tys A) {a : Int} (j : Nat) (hd : decode cc pc = .ok (.sipush a, 3)) (ha : a = j) (hv : (Int16.ofInt a).toInt32 = iI a) (kk : F (pc + 3) lv (.int (iI (j : Int)) :: st) ws k n) : F pc lv st ws k n := by
  subst ha; exact r_sipush hX hd hv kk
theorem r_iaddN (hX : rOK F p l e R s m args below meth c Q cc nL own D tys A) {a b : Nat} (hd : decode cc pc = .ok (.iadd, 1)) (kk : F (pc + 1) lv (.int (iI ((a + b : Nat) : Int)) :: st) ws k n) : F pc lv (.int (iI (b : Int)) :: .int (iI (a : Int)) :: st) ws k n := by
  refine r_iadd hX hd ?_
  rw [Int.natCast_add] at kk; exact kk
theorem r_imulN (hX : rOK F p l e R s m args below meth c Q cc nL own D tys A) {a b : Nat} (hd : decode cc pc = .ok (.imul, 1)) (kk : F (pc + 1) lv (.int (iI ((a * b : Nat) : Int)) :: st) ws k n) : F pc lv (.int (iI (b : Int)) :: .int (iI (a : Int)) :: st) ws k n := by
  refine r_imul hX hd ?_
  rw [Int.natCast_mul] at kk; exact kk
theorem r_iincN (hX : rOK F p l e R s m args below meth c Q cc nL own D tys A) {i a : Nat} (j : Nat) (hd : decode cc pc = .ok (.iinc i 1, 3)) (hj : lv[j]? = some (i, .int (iI (a : Int)))) (hn : i < nL) (hl : (i, Value.int (iI ((a + 1 : Nat) : Int))) :: lv.filter (fun q => !(q.1 == i) && !(q.1 + 1 == i && q.2.category == 2)) = lv') (kk : F (pc + 3) lv' st ws k n) : F pc lv st ws k n := by
  refine r_iinc hX j hd hj hn ?_ kk
  rw [← hl]; rfl
theorem r_invV_v0 {S : Type} {post : S → Prop} {w1 : S → va_W} {wc wr : va_W} {st0 As : List Value} {b : Nat} {y : MethodName} {bytes : ByteArray} {maxL index n9 : Nat} {rm : Room} (hX : rOK F p l e R s m args below meth c Q cc nL own D tys A) (hM : rCv l y bytes maxL rm D tys (.ref b :: As) wc post w1) (C : String) (qb ci : Nat) {T : u_T} {N : Nat} {ty0 : Nat → FieldType} {fs : List Value} (hcf : rCF ci C T N ty0) (hrec : ws[qb]? = some (b, .inr (ci, fs))) (hy : rYN y n9) (hlk : Cond.methodLink own index y ∈ rw_ok) (hi1 : Cond.instanceMethod y ∈ rw_ok) (hi2 : Cond.selects C y y ∈ rw_ok) (hco : Cond.code y bytes maxL none ∈ rw_ok) (hin : Cond.initialized y.cls ∈ rw_ok) (hr : rm.frames + 1 ≤ R.frames ∧ 8 + (maxL + 11) + rm.locals ≤ R.locals ∧ rm.cells = 0 ∧ rm.slots = 0) (hk9 : k ≤ R.cells) (hn9 : n ≤ R.slots)
    (isC isR : List Nat) (hnC : va_nd isC = true) (hC : isC.map (fun i => ws[i]?) = wc.map some) (hC2 : isC.filterMap (fun i => ws[i]?) = wc) (hR : isR.map (fun i => ws[i]?) = wr.map some) (hnd : va_nd isR = true) (hdis : ∀ i ∈ isR, i ∉ isC) (hnA : As.length = n9) (hst : st0 = As.reverse ++ .ref b :: st) (hW : (st.map fun v => v.category).sum ≤ 8) (hd : decode cc pc = .ok (.invokevirtual index, 3))
    (isP : List Nat) (hnP : va_nd isP = true) {w2 : S → va_W} (hP2 : ∀ u : S, isP.map (fun i => (wr ++ w1 u)[i]?) = (w2 u).map some)
    (kk : ∀ (u : S), post u → F (pc + 3) lv (st) (w2 u) k n) : F pc lv st0 ws k n := by
  refine r_invV_v hX hM C qb ci hcf hrec hy hlk hi1 hi2 hco hin hr.1 hr.2.1 (by rw [hr.2.2.1]; exact hk9) (by rw [hr.2.2.2]; exact hn9) isC isR hnC hC hC2 hR hnd hdis hnA hst hW hd (fun u hp => ?_)
  rw [hr.2.2.1, hr.2.2.2]
  exact r_sub hX isP hnP (hP2 u) (kk u hp)
theorem r_invV_i0 {S : Type} {post : Int32 → S → Prop} {w1 : S → va_W} {wc wr : va_W} {st0 As : List Value} {b : Nat} {ty : FieldType} {y : MethodName} {bytes : ByteArray} {maxL index n9 : Nat} {rm : Room} (hX : rOK F p l e R s m args below meth c Q cc nL own D tys A) (hM : rCi l y bytes maxL ty rm D tys (.ref b :: As) wc post w1) (C : String) (qb ci : Nat) {T : u_T} {N : Nat} {ty0 : Nat → FieldType} {fs : List Value} (hcf : rCF ci C T N ty0) (hrec : ws[qb]? = some (b, .inr (ci, fs))) (hy : rYN y n9) (hlk : Cond.methodLink own index y ∈ rw_ok) (hi1 : Cond.instanceMethod y ∈ rw_ok) (hi2 : Cond.selects C y y ∈ rw_ok) (hco : Cond.code y bytes maxL (some ty) ∈ rw_ok) (hin : Cond.initialized y.cls ∈ rw_ok) (hr : rm.frames + 1 ≤ R.frames ∧ 8 + (maxL + 11) + rm.locals ≤ R.locals ∧ rm.cells = 0 ∧ rm.slots = 0) (hk9 : k ≤ R.cells) (hn9 : n ≤ R.slots)
    (isC isR : List Nat) (hnC : va_nd isC = true) (hC : isC.map (fun i => ws[i]?) = wc.map some) (hC2 : isC.filterMap (fun i => ws[i]?) = wc) (hR : isR.map (fun i => ws[i]?) = wr.map some) (hnd : va_nd isR = true) (hdis : ∀ i ∈ isR, i ∉ isC) (hnA : As.length = n9) (hst : st0 = As.reverse ++ .ref b :: st) (hW : (st.map fun v => v.category).sum ≤ 8) (hd : decode cc pc = .ok (.invokevirtual index, 3))
    (isP : List Nat) (hnP : va_nd isP = true) {w2 : S → va_W} (hP2 : ∀ u : S, isP.map (fun i => (wr ++ w1 u)[i]?) = (w2 u).map some)
    (kk : ∀ (r : Int32) (u : S), post r u → F (pc + 3) lv (.int r :: st) (w2 u) k n) : F pc lv st0 ws k n := by
  refine r_invV_i hX hM C qb ci hcf hrec hy hlk hi1 hi2 hco hin hr.1 hr.2.1 (by rw [hr.2.2.1]; exact hk9) (by rw [hr.2.2.2]; exact hn9) isC isR hnC hC hC2 hR hnd hdis hnA hst hW hd (fun r u hp => ?_)
  rw [hr.2.2.1, hr.2.2.2]
  exact r_sub hX isP hnP (hP2 u) (kk r u hp)
theorem r_invV_l0 {S : Type} {post : Int64 → S → Prop} {w1 : S → va_W} {wc wr : va_W} {st0 As : List Value} {b : Nat} {y : MethodName} {bytes : ByteArray} {maxL index n9 : Nat} {rm : Room} (hX : rOK F p l e R s m args below meth c Q cc nL own D tys A) (hM : rCl l y bytes maxL rm D tys (.ref b :: As) wc post w1) (C : String) (qb ci : Nat) {T : u_T} {N : Nat} {ty0 : Nat → FieldType} {fs : List Value} (hcf : rCF ci C T N ty0) (hrec : ws[qb]? = some (b, .inr (ci, fs))) (hy : rYN y n9) (hlk : Cond.methodLink own index y ∈ rw_ok) (hi1 : Cond.instanceMethod y ∈ rw_ok) (hi2 : Cond.selects C y y ∈ rw_ok) (hco : Cond.code y bytes maxL (some .long) ∈ rw_ok) (hin : Cond.initialized y.cls ∈ rw_ok) (hr : rm.frames + 1 ≤ R.frames ∧ 8 + (maxL + 11) + rm.locals ≤ R.locals ∧ rm.cells = 0 ∧ rm.slots = 0) (hk9 : k ≤ R.cells) (hn9 : n ≤ R.slots)
    (isC isR : List Nat) (hnC : va_nd isC = true) (hC : isC.map (fun i => ws[i]?) = wc.map some) (hC2 : isC.filterMap (fun i => ws[i]?) = wc) (hR : isR.map (fun i => ws[i]?) = wr.map some) (hnd : va_nd isR = true) (hdis : ∀ i ∈ isR, i ∉ isC) (hnA : As.length = n9) (hst : st0 = As.reverse ++ .ref b :: st) (hW : (st.map fun v => v.category).sum ≤ 8) (hd : decode cc pc = .ok (.invokevirtual index, 3))
    (isP : List Nat) (hnP : va_nd isP = true) {w2 : S → va_W} (hP2 : ∀ u : S, isP.map (fun i => (wr ++ w1 u)[i]?) = (w2 u).map some)
    (kk : ∀ (r : Int64) (u : S), post r u → F (pc + 3) lv (.long r :: st) (w2 u) k n) : F pc lv st0 ws k n := by
  refine r_invV_l hX hM C qb ci hcf hrec hy hlk hi1 hi2 hco hin hr.1 hr.2.1 (by rw [hr.2.2.1]; exact hk9) (by rw [hr.2.2.2]; exact hn9) isC isR hnC hC hC2 hR hnd hdis hnA hst hW hd (fun r u hp => ?_)
  rw [hr.2.2.1, hr.2.2.2]
  exact r_sub hX isP hnP (hP2 u) (kk r u hp)
theorem r_invVN_v0 {host : String} {S : Type} {post : S → Prop} {w1 : S → va_W} {wc wr : va_W} {st0 As : List Value} {b : Nat} {y : MethodName} {bytes : ByteArray} {maxL index n9 : Nat} {rm : Room} (hX : rOK F p l e R s m args below meth c Q cc nL own D tys A) (hM : rCv l y bytes maxL rm D tys (.ref b :: As) wc post w1) (C : String) (qb ci : Nat) {T : u_T} {N : Nat} {ty0 : Nat → FieldType} {fs : List Value} (hcf : rCF ci C T N ty0) (hrec : ws[qb]? = some (b, .inr (ci, fs))) (hy : rYN y n9) (hlk : Cond.methodLinkNest own index y host ∈ rw_nest) (hi1 : Cond.instanceMethod y ∈ rw_ok) (hi2 : Cond.selects C y y ∈ rw_ok) (hco : Cond.code y bytes maxL none ∈ rw_ok) (hin : Cond.initialized y.cls ∈ rw_ok) (hr : rm.frames + 1 ≤ R.frames ∧ 8 + (maxL + 11) + rm.locals ≤ R.locals ∧ rm.cells = 0 ∧ rm.slots = 0) (hk9 : k ≤ R.cells) (hn9 : n ≤ R.slots)
    (isC isR : List Nat) (hnC : va_nd isC = true) (hC : isC.map (fun i => ws[i]?) = wc.map some) (hC2 : isC.filterMap (fun i => ws[i]?) = wc) (hR : isR.map (fun i => ws[i]?) = wr.map some) (hnd : va_nd isR = true) (hdis : ∀ i ∈ isR, i ∉ isC) (hnA : As.length = n9) (hst : st0 = As.reverse ++ .ref b :: st) (hW : (st.map fun v => v.category).sum ≤ 8) (hd : decode cc pc = .ok (.invokevirtual index, 3))
    (isP : List Nat) (hnP : va_nd isP = true) {w2 : S → va_W} (hP2 : ∀ u : S, isP.map (fun i => (wr ++ w1 u)[i]?) = (w2 u).map some)
    (kk : ∀ (u : S), post u → F (pc + 3) lv (st) (w2 u) k n) : F pc lv st0 ws k n := by
  refine r_invVN_v hX hM C qb ci hcf hrec hy hlk hi1 hi2 hco hin hr.1 hr.2.1 (by rw [hr.2.2.1]; exact hk9) (by rw [hr.2.2.2]; exact hn9) isC isR hnC hC hC2 hR hnd hdis hnA hst hW hd (fun u hp => ?_)
  rw [hr.2.2.1, hr.2.2.2]
  exact r_sub hX isP hnP (hP2 u) (kk u hp)
theorem r_invVN_i0 {host : String} {S : Type} {post : Int32 → S → Prop} {w1 : S → va_W} {wc wr : va_W} {st0 As : List Value} {b : Nat} {ty : FieldType} {y : MethodName} {bytes : ByteArray} {maxL index n9 : Nat} {rm : Room} (hX : rOK F p l e R s m args below meth c Q cc nL own D tys A) (hM : rCi l y bytes maxL ty rm D tys (.ref b :: As) wc post w1) (C : String) (qb ci : Nat) {T : u_T} {N : Nat} {ty0 : Nat → FieldType} {fs : List Value} (hcf : rCF ci C T N ty0) (hrec : ws[qb]? = some (b, .inr (ci, fs))) (hy : rYN y n9) (hlk : Cond.methodLinkNest own index y host ∈ rw_nest) (hi1 : Cond.instanceMethod y ∈ rw_ok) (hi2 : Cond.selects C y y ∈ rw_ok) (hco : Cond.code y bytes maxL (some ty) ∈ rw_ok) (hin : Cond.initialized y.cls ∈ rw_ok) (hr : rm.frames + 1 ≤ R.frames ∧ 8 + (maxL + 11) + rm.locals ≤ R.locals ∧ rm.cells = 0 ∧ rm.slots = 0) (hk9 : k ≤ R.cells) (hn9 : n ≤ R.slots)
    (isC isR : List Nat) (hnC : va_nd isC = true) (hC : isC.map (fun i => ws[i]?) = wc.map some) (hC2 : isC.filterMap (fun i => ws[i]?) = wc) (hR : isR.map (fun i => ws[i]?) = wr.map some) (hnd : va_nd isR = true) (hdis : ∀ i ∈ isR, i ∉ isC) (hnA : As.length = n9) (hst : st0 = As.reverse ++ .ref b :: st) (hW : (st.map fun v => v.category).sum ≤ 8) (hd : decode cc pc = .ok (.invokevirtual index, 3))
    (isP : List Nat) (hnP : va_nd isP = true) {w2 : S → va_W} (hP2 : ∀ u : S, isP.map (fun i => (wr ++ w1 u)[i]?) = (w2 u).map some)
    (kk : ∀ (r : Int32) (u : S), post r u → F (pc + 3) lv (.int r :: st) (w2 u) k n) : F pc lv st0 ws k n := by
  refine r_invVN_i hX hM C qb ci hcf hrec hy hlk hi1 hi2 hco hin hr.1 hr.2.1 (by rw [hr.2.2.1]; exact hk9) (by rw [hr.2.2.2]; exact hn9) isC isR hnC hC hC2 hR hnd hdis hnA hst hW hd (fun r u hp => ?_)
  rw [hr.2.2.1, hr.2.2.2]
  exact r_sub hX isP hnP (hP2 u) (kk r u hp)
theorem r_invVN_l0 {host : String} {S : Type} {post : Int64 → S → Prop} {w1 : S → va_W} {wc wr : va_W} {st0 As : List Value} {b : Nat} {y : MethodName} {bytes : ByteArray} {maxL index n9 : Nat} {rm : Room} (hX : rOK F p l e R s m args below meth c Q cc nL own D tys A) (hM : rCl l y bytes maxL rm D tys (.ref b :: As) wc post w1) (C : String) (qb ci : Nat) {T : u_T} {N : Nat} {ty0 : Nat → FieldType} {fs : List Value} (hcf : rCF ci C T N ty0) (hrec : ws[qb]? = some (b, .inr (ci, fs))) (hy : rYN y n9) (hlk : Cond.methodLinkNest own index y host ∈ rw_nest) (hi1 : Cond.instanceMethod y ∈ rw_ok) (hi2 : Cond.selects C y y ∈ rw_ok) (hco : Cond.code y bytes maxL (some .long) ∈ rw_ok) (hin : Cond.initialized y.cls ∈ rw_ok) (hr : rm.frames + 1 ≤ R.frames ∧ 8 + (maxL + 11) + rm.locals ≤ R.locals ∧ rm.cells = 0 ∧ rm.slots = 0) (hk9 : k ≤ R.cells) (hn9 : n ≤ R.slots)
    (isC isR : List Nat) (hnC : va_nd isC = true) (hC : isC.map (fun i => ws[i]?) = wc.map some) (hC2 : isC.filterMap (fun i => ws[i]?) = wc) (hR : isR.map (fun i => ws[i]?) = wr.map some) (hnd : va_nd isR = true) (hdis : ∀ i ∈ isR, i ∉ isC) (hnA : As.length = n9) (hst : st0 = As.reverse ++ .ref b :: st) (hW : (st.map fun v => v.category).sum ≤ 8) (hd : decode cc pc = .ok (.invokevirtual index, 3))
    (isP : List Nat) (hnP : va_nd isP = true) {w2 : S → va_W} (hP2 : ∀ u : S, isP.map (fun i => (wr ++ w1 u)[i]?) = (w2 u).map some)
    (kk : ∀ (r : Int64) (u : S), post r u → F (pc + 3) lv (.long r :: st) (w2 u) k n) : F pc lv st0 ws k n := by
  refine r_invVN_l hX hM C qb ci hcf hrec hy hlk hi1 hi2 hco hin hr.1 hr.2.1 (by rw [hr.2.2.1]; exact hk9) (by rw [hr.2.2.2]; exact hn9) isC isR hnC hC hC2 hR hnd hdis hnA hst hW hd (fun r u hp => ?_)
  rw [hr.2.2.1, hr.2.2.2]
  exact r_sub hX isP hnP (hP2 u) (kk r u hp)
theorem r_invS_v0 {S : Type} {post : S → Prop} {w1 : S → va_W} {wc wr : va_W} {st0 As : List Value} {y : MethodName} {bytes : ByteArray} {maxL index n9 : Nat} {rm : Room} (hX : rOK F p l e R s m args below meth c Q cc nL own D tys A) (hM : rCv l y bytes maxL rm D tys As wc post w1) (hy : rYN y n9) (hlk : Cond.methodLink own index y ∈ rw_ok) (hi1 : Cond.static y ∈ rw_ok) (hco : Cond.code y bytes maxL none ∈ rw_ok) (hin : Cond.initialized y.cls ∈ rw_ok) (hr : rm.frames + 1 ≤ R.frames ∧ 8 + (maxL + 11) + rm.locals ≤ R.locals ∧ rm.cells = 0 ∧ rm.slots = 0) (hk9 : k ≤ R.cells) (hn9 : n ≤ R.slots)
    (isC isR : List Nat) (hnC : va_nd isC = true) (hC : isC.map (fun i => ws[i]?) = wc.map some) (hC2 : isC.filterMap (fun i => ws[i]?) = wc) (hR : isR.map (fun i => ws[i]?) = wr.map some) (hnd : va_nd isR = true) (hdis : ∀ i ∈ isR, i ∉ isC) (hnA : As.length = n9) (hst : st0 = As.reverse ++ st) (hW : (st.map fun v => v.category).sum ≤ 8) (hd : decode cc pc = .ok (.invokestatic index, 3))
    (isP : List Nat) (hnP : va_nd isP = true) {w2 : S → va_W} (hP2 : ∀ u : S, isP.map (fun i => (wr ++ w1 u)[i]?) = (w2 u).map some)
    (kk : ∀ (u : S), post u → F (pc + 3) lv (st) (w2 u) k n) : F pc lv st0 ws k n := by
  refine r_invS_v hX hM hy hlk hi1 hco hin hr.1 hr.2.1 (by rw [hr.2.2.1]; exact hk9) (by rw [hr.2.2.2]; exact hn9) isC isR hnC hC hC2 hR hnd hdis hnA hst hW hd (fun u hp => ?_)
  rw [hr.2.2.1, hr.2.2.2]
  exact r_sub hX isP hnP (hP2 u) (kk u hp)
theorem r_invS_i0 {S : Type} {post : Int32 → S → Prop} {w1 : S → va_W} {wc wr : va_W} {st0 As : List Value} {ty : FieldType} {y : MethodName} {bytes : ByteArray} {maxL index n9 : Nat} {rm : Room} (hX : rOK F p l e R s m args below meth c Q cc nL own D tys A) (hM : rCi l y bytes maxL ty rm D tys As wc post w1) (hy : rYN y n9) (hlk : Cond.methodLink own index y ∈ rw_ok) (hi1 : Cond.static y ∈ rw_ok) (hco : Cond.code y bytes maxL (some ty) ∈ rw_ok) (hin : Cond.initialized y.cls ∈ rw_ok) (hr : rm.frames + 1 ≤ R.frames ∧ 8 + (maxL + 11) + rm.locals ≤ R.locals ∧ rm.cells = 0 ∧ rm.slots = 0) (hk9 : k ≤ R.cells) (hn9 : n ≤ R.slots)
    (isC isR : List Nat) (hnC : va_nd isC = true) (hC : isC.map (fun i => ws[i]?) = wc.map some) (hC2 : isC.filterMap (fun i => ws[i]?) = wc) (hR : isR.map (fun i => ws[i]?) = wr.map some) (hnd : va_nd isR = true) (hdis : ∀ i ∈ isR, i ∉ isC) (hnA : As.length = n9) (hst : st0 = As.reverse ++ st) (hW : (st.map fun v => v.category).sum ≤ 8) (hd : decode cc pc = .ok (.invokestatic index, 3))
    (isP : List Nat) (hnP : va_nd isP = true) {w2 : S → va_W} (hP2 : ∀ u : S, isP.map (fun i => (wr ++ w1 u)[i]?) = (w2 u).map some)
    (kk : ∀ (r : Int32) (u : S), post r u → F (pc + 3) lv (.int r :: st) (w2 u) k n) : F pc lv st0 ws k n := by
  refine r_invS_i hX hM hy hlk hi1 hco hin hr.1 hr.2.1 (by rw [hr.2.2.1]; exact hk9) (by rw [hr.2.2.2]; exact hn9) isC isR hnC hC hC2 hR hnd hdis hnA hst hW hd (fun r u hp => ?_)
  rw [hr.2.2.1, hr.2.2.2]
  exact r_sub hX isP hnP (hP2 u) (kk r u hp)
theorem r_invS_l0 {S : Type} {post : Int64 → S → Prop} {w1 : S → va_W} {wc wr : va_W} {st0 As : List Value} {y : MethodName} {bytes : ByteArray} {maxL index n9 : Nat} {rm : Room} (hX : rOK F p l e R s m args below meth c Q cc nL own D tys A) (hM : rCl l y bytes maxL rm D tys As wc post w1) (hy : rYN y n9) (hlk : Cond.methodLink own index y ∈ rw_ok) (hi1 : Cond.static y ∈ rw_ok) (hco : Cond.code y bytes maxL (some .long) ∈ rw_ok) (hin : Cond.initialized y.cls ∈ rw_ok) (hr : rm.frames + 1 ≤ R.frames ∧ 8 + (maxL + 11) + rm.locals ≤ R.locals ∧ rm.cells = 0 ∧ rm.slots = 0) (hk9 : k ≤ R.cells) (hn9 : n ≤ R.slots)
    (isC isR : List Nat) (hnC : va_nd isC = true) (hC : isC.map (fun i => ws[i]?) = wc.map some) (hC2 : isC.filterMap (fun i => ws[i]?) = wc) (hR : isR.map (fun i => ws[i]?) = wr.map some) (hnd : va_nd isR = true) (hdis : ∀ i ∈ isR, i ∉ isC) (hnA : As.length = n9) (hst : st0 = As.reverse ++ st) (hW : (st.map fun v => v.category).sum ≤ 8) (hd : decode cc pc = .ok (.invokestatic index, 3))
    (isP : List Nat) (hnP : va_nd isP = true) {w2 : S → va_W} (hP2 : ∀ u : S, isP.map (fun i => (wr ++ w1 u)[i]?) = (w2 u).map some)
    (kk : ∀ (r : Int64) (u : S), post r u → F (pc + 3) lv (.long r :: st) (w2 u) k n) : F pc lv st0 ws k n := by
  refine r_invS_l hX hM hy hlk hi1 hco hin hr.1 hr.2.1 (by rw [hr.2.2.1]; exact hk9) (by rw [hr.2.2.2]; exact hn9) isC isR hnC hC hC2 hR hnd hdis hnA hst hW hd (fun r u hp => ?_)
  rw [hr.2.2.1, hr.2.2.2]
  exact r_sub hX isP hnP (hP2 u) (kk r u hp)
theorem r_invSN_v0 {host : String} {S : Type} {post : S → Prop} {w1 : S → va_W} {wc wr : va_W} {st0 As : List Value} {y : MethodName} {bytes : ByteArray} {maxL index n9 : Nat} {rm : Room} (hX : rOK F p l e R s m args below meth c Q cc nL own D tys A) (hM : rCv l y bytes maxL rm D tys As wc post w1) (hy : rYN y n9) (hlk : Cond.methodLinkNest own index y host ∈ rw_nest) (hi1 : Cond.static y ∈ rw_ok) (hco : Cond.code y bytes maxL none ∈ rw_ok) (hin : Cond.initialized y.cls ∈ rw_ok) (hr : rm.frames + 1 ≤ R.frames ∧ 8 + (maxL + 11) + rm.locals ≤ R.locals ∧ rm.cells = 0 ∧ rm.slots = 0) (hk9 : k ≤ R.cells) (hn9 : n ≤ R.slots)
    (isC isR : List Nat) (hnC : va_nd isC = true) (hC : isC.map (fun i => ws[i]?) = wc.map some) (hC2 : isC.filterMap (fun i => ws[i]?) = wc) (hR : isR.map (fun i => ws[i]?) = wr.map some) (hnd : va_nd isR = true) (hdis : ∀ i ∈ isR, i ∉ isC) (hnA : As.length = n9) (hst : st0 = As.reverse ++ st) (hW : (st.map fun v => v.category).sum ≤ 8) (hd : decode cc pc = .ok (.invokestatic index, 3))
    (isP : List Nat) (hnP : va_nd isP = true) {w2 : S → va_W} (hP2 : ∀ u : S, isP.map (fun i => (wr ++ w1 u)[i]?) = (w2 u).map some)
    (kk : ∀ (u : S), post u → F (pc + 3) lv (st) (w2 u) k n) : F pc lv st0 ws k n := by
  refine r_invSN_v hX hM hy hlk hi1 hco hin hr.1 hr.2.1 (by rw [hr.2.2.1]; exact hk9) (by rw [hr.2.2.2]; exact hn9) isC isR hnC hC hC2 hR hnd hdis hnA hst hW hd (fun u hp => ?_)
  rw [hr.2.2.1, hr.2.2.2]
  exact r_sub hX isP hnP (hP2 u) (kk u hp)
theorem r_invSN_i0 {host : String} {S : Type} {post : Int32 → S → Prop} {w1 : S → va_W} {wc wr : va_W} {st0 As : List Value} {ty : FieldType} {y : MethodName} {bytes : ByteArray} {maxL index n9 : Nat} {rm : Room} (hX : rOK F p l e R s m args below meth c Q cc nL own D tys A) (hM : rCi l y bytes maxL ty rm D tys As wc post w1) (hy : rYN y n9) (hlk : Cond.methodLinkNest own index y host ∈ rw_nest) (hi1 : Cond.static y ∈ rw_ok) (hco : Cond.code y bytes maxL (some ty) ∈ rw_ok) (hin : Cond.initialized y.cls ∈ rw_ok) (hr : rm.frames + 1 ≤ R.frames ∧ 8 + (maxL + 11) + rm.locals ≤ R.locals ∧ rm.cells = 0 ∧ rm.slots = 0) (hk9 : k ≤ R.cells) (hn9 : n ≤ R.slots)
    (isC isR : List Nat) (hnC : va_nd isC = true) (hC : isC.map (fun i => ws[i]?) = wc.map some) (hC2 : isC.filterMap (fun i => ws[i]?) = wc) (hR : isR.map (fun i => ws[i]?) = wr.map some) (hnd : va_nd isR = true) (hdis : ∀ i ∈ isR, i ∉ isC) (hnA : As.length = n9) (hst : st0 = As.reverse ++ st) (hW : (st.map fun v => v.category).sum ≤ 8) (hd : decode cc pc = .ok (.invokestatic index, 3))
    (isP : List Nat) (hnP : va_nd isP = true) {w2 : S → va_W} (hP2 : ∀ u : S, isP.map (fun i => (wr ++ w1 u)[i]?) = (w2 u).map some)
    (kk : ∀ (r : Int32) (u : S), post r u → F (pc + 3) lv (.int r :: st) (w2 u) k n) : F pc lv st0 ws k n := by
  refine r_invSN_i hX hM hy hlk hi1 hco hin hr.1 hr.2.1 (by rw [hr.2.2.1]; exact hk9) (by rw [hr.2.2.2]; exact hn9) isC isR hnC hC hC2 hR hnd hdis hnA hst hW hd (fun r u hp => ?_)
  rw [hr.2.2.1, hr.2.2.2]
  exact r_sub hX isP hnP (hP2 u) (kk r u hp)
theorem r_invSN_l0 {host : String} {S : Type} {post : Int64 → S → Prop} {w1 : S → va_W} {wc wr : va_W} {st0 As : List Value} {y : MethodName} {bytes : ByteArray} {maxL index n9 : Nat} {rm : Room} (hX : rOK F p l e R s m args below meth c Q cc nL own D tys A) (hM : rCl l y bytes maxL rm D tys As wc post w1) (hy : rYN y n9) (hlk : Cond.methodLinkNest own index y host ∈ rw_nest) (hi1 : Cond.static y ∈ rw_ok) (hco : Cond.code y bytes maxL (some .long) ∈ rw_ok) (hin : Cond.initialized y.cls ∈ rw_ok) (hr : rm.frames + 1 ≤ R.frames ∧ 8 + (maxL + 11) + rm.locals ≤ R.locals ∧ rm.cells = 0 ∧ rm.slots = 0) (hk9 : k ≤ R.cells) (hn9 : n ≤ R.slots)
    (isC isR : List Nat) (hnC : va_nd isC = true) (hC : isC.map (fun i => ws[i]?) = wc.map some) (hC2 : isC.filterMap (fun i => ws[i]?) = wc) (hR : isR.map (fun i => ws[i]?) = wr.map some) (hnd : va_nd isR = true) (hdis : ∀ i ∈ isR, i ∉ isC) (hnA : As.length = n9) (hst : st0 = As.reverse ++ st) (hW : (st.map fun v => v.category).sum ≤ 8) (hd : decode cc pc = .ok (.invokestatic index, 3))
    (isP : List Nat) (hnP : va_nd isP = true) {w2 : S → va_W} (hP2 : ∀ u : S, isP.map (fun i => (wr ++ w1 u)[i]?) = (w2 u).map some)
    (kk : ∀ (r : Int64) (u : S), post r u → F (pc + 3) lv (.long r :: st) (w2 u) k n) : F pc lv st0 ws k n := by
  refine r_invSN_l hX hM hy hlk hi1 hco hin hr.1 hr.2.1 (by rw [hr.2.2.1]; exact hk9) (by rw [hr.2.2.2]; exact hn9) isC isR hnC hC hC2 hR hnd hdis hnA hst hW hd (fun r u hp => ?_)
  rw [hr.2.2.1, hr.2.2.2]
  exact r_sub hX isP hnP (hP2 u) (kk r u hp)
theorem r_invI_v0 {S : Type} {post : S → Prop} {w1 : S → va_W} {wc wr : va_W} {st0 As : List Value} {b : Nat} {y : MethodName} {bytes : ByteArray} {maxL index n9 : Nat} {rm : Room} (hX : rOK F p l e R s m args below meth c Q cc nL own D tys A) (hM : rCv l y bytes maxL rm D tys (.ref b :: As) wc post w1) (hy : rYN y n9) (hlk : Cond.methodLink own index y ∈ rw_ok) (hi1 : Cond.instanceMethod y ∈ rw_ok) (hi2 : y.name = "<init>") (hco : Cond.code y bytes maxL none ∈ rw_ok) (hin : Cond.initialized y.cls ∈ rw_ok) (hr : rm.frames + 1 ≤ R.frames ∧ 8 + (maxL + 11) + rm.locals ≤ R.locals ∧ rm.cells = 0 ∧ rm.slots = 0) (hk9 : k ≤ R.cells) (hn9 : n ≤ R.slots)
    (isC isR : List Nat) (hnC : va_nd isC = true) (hC : isC.map (fun i => ws[i]?) = wc.map some) (hC2 : isC.filterMap (fun i => ws[i]?) = wc) (hR : isR.map (fun i => ws[i]?) = wr.map some) (hnd : va_nd isR = true) (hdis : ∀ i ∈ isR, i ∉ isC) (hnA : As.length = n9) (hst : st0 = As.reverse ++ .ref b :: st) (hW : (st.map fun v => v.category).sum ≤ 8) (hd : decode cc pc = .ok (.invokespecial index, 3))
    (isP : List Nat) (hnP : va_nd isP = true) {w2 : S → va_W} (hP2 : ∀ u : S, isP.map (fun i => (wr ++ w1 u)[i]?) = (w2 u).map some)
    (kk : ∀ (u : S), post u → F (pc + 3) lv (st) (w2 u) k n) : F pc lv st0 ws k n := by
  refine r_invI_v hX hM hy hlk hi1 hi2 hco hin hr.1 hr.2.1 (by rw [hr.2.2.1]; exact hk9) (by rw [hr.2.2.2]; exact hn9) isC isR hnC hC hC2 hR hnd hdis hnA hst hW hd (fun u hp => ?_)
  rw [hr.2.2.1, hr.2.2.2]
  exact r_sub hX isP hnP (hP2 u) (kk u hp)
theorem r_invIN_v0 {host : String} {S : Type} {post : S → Prop} {w1 : S → va_W} {wc wr : va_W} {st0 As : List Value} {b : Nat} {y : MethodName} {bytes : ByteArray} {maxL index n9 : Nat} {rm : Room} (hX : rOK F p l e R s m args below meth c Q cc nL own D tys A) (hM : rCv l y bytes maxL rm D tys (.ref b :: As) wc post w1) (hy : rYN y n9) (hlk : Cond.methodLinkNest own index y host ∈ rw_nest) (hi1 : Cond.instanceMethod y ∈ rw_ok) (hi2 : y.name = "<init>") (hco : Cond.code y bytes maxL none ∈ rw_ok) (hin : Cond.initialized y.cls ∈ rw_ok) (hr : rm.frames + 1 ≤ R.frames ∧ 8 + (maxL + 11) + rm.locals ≤ R.locals ∧ rm.cells = 0 ∧ rm.slots = 0) (hk9 : k ≤ R.cells) (hn9 : n ≤ R.slots)
    (isC isR : List Nat) (hnC : va_nd isC = true) (hC : isC.map (fun i => ws[i]?) = wc.map some) (hC2 : isC.filterMap (fun i => ws[i]?) = wc) (hR : isR.map (fun i => ws[i]?) = wr.map some) (hnd : va_nd isR = true) (hdis : ∀ i ∈ isR, i ∉ isC) (hnA : As.length = n9) (hst : st0 = As.reverse ++ .ref b :: st) (hW : (st.map fun v => v.category).sum ≤ 8) (hd : decode cc pc = .ok (.invokespecial index, 3))
    (isP : List Nat) (hnP : va_nd isP = true) {w2 : S → va_W} (hP2 : ∀ u : S, isP.map (fun i => (wr ++ w1 u)[i]?) = (w2 u).map some)
    (kk : ∀ (u : S), post u → F (pc + 3) lv (st) (w2 u) k n) : F pc lv st0 ws k n := by
  refine r_invIN_v hX hM hy hlk hi1 hi2 hco hin hr.1 hr.2.1 (by rw [hr.2.2.1]; exact hk9) (by rw [hr.2.2.2]; exact hn9) isC isR hnC hC hC2 hR hnd hdis hnA hst hW hd (fun u hp => ?_)
  rw [hr.2.2.1, hr.2.2.2]
  exact r_sub hX isP hnP (hP2 u) (kk u hp)
end RL2
