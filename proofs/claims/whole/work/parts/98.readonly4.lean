/-! Calls in the read-only layer: the callee frees nothing old, so the world stays. -/
def qCv (l : Launch) (y : MethodName) (cc : ByteArray) (nL : Nat) (rm : Room) (D : va_G) (tys : List (ClassId × FieldType)) (av : List Value) (wc : va_W) {S : Type} (post : S → Prop) : Prop := ∀ sz, Met l y (Cond.code y cc nL none :: rw_ok) rm (va_Pc av (rPre D tys wc sz)) (va_Qv post (fun _ _ => True) (fun q => sz ≤ q)) rm.cells rm.slots (fun q => sz ≤ q)
def qCi (l : Launch) (y : MethodName) (cc : ByteArray) (nL : Nat) (ty : FieldType) (rm : Room) (D : va_G) (tys : List (ClassId × FieldType)) (av : List Value) (wc : va_W) {S : Type} (post : Int32 → S → Prop) : Prop := ∀ sz, Met l y (Cond.code y cc nL (some ty) :: rw_ok) rm (va_Pc av (rPre D tys wc sz)) (va_Qi post (fun _ _ => True) (fun q => sz ≤ q)) rm.cells rm.slots (fun q => sz ≤ q)
def qCl (l : Launch) (y : MethodName) (cc : ByteArray) (nL : Nat) (rm : Room) (D : va_G) (tys : List (ClassId × FieldType)) (av : List Value) (wc : va_W) {S : Type} (post : Int64 → S → Prop) : Prop := ∀ sz, Met l y (Cond.code y cc nL (some .long) :: rw_ok) rm (va_Pc av (rPre D tys wc sz)) (va_Ql post (fun _ _ => True) (fun q => sz ≤ q)) rm.cells rm.slots (fun q => sz ≤ q)
def qCr (l : Launch) (y : MethodName) (cc : ByteArray) (nL : Nat) (ty : FieldType) (rm : Room) (D : va_G) (tys : List (ClassId × FieldType)) (av : List Value) (wc : va_W) (a : Nat) : Prop := ∀ sz, Met l y (Cond.code y cc nL (some ty) :: rw_ok) rm (va_Pc av (rPre D tys wc sz)) (va_Qr (fun (_ : Unit) => True) (fun _ a' _ => a' = a) (fun q => sz ≤ q)) rm.cells rm.slots (fun q => sz ≤ q)
theorem Met.weak {l : Launch} {y : MethodName} {ws : List Cond} {rm : Room} {Pc : Array Value → State → Prop} {Qc Qc' : Array Value → State → Outcome → State → Prop} {mc ms : Nat} {free : Addr → Prop} (hq : ∀ a st o t, Qc a st o t → Qc' a st o t) (h : Met l y ws rm Pc Qc mc ms free) : Met l y ws rm Pc Qc' mc ms free := by
  intro p e h1 h2 h3 s m args below h4 h5 h6 h7
  obtain ⟨n, o, g1, g2, g3, g4, g5⟩ := h p e h1 h2 h3 s m args below h4 h5 h6 h7
  exact ⟨n, o, g1, g2, g3, hq _ _ _ _ g4, g5⟩
theorem q_wk_v {S : Type} {post : S → Prop} {B : S → State → Prop} {A : Nat → Prop} (a : Array Value) (st : State) (o : Outcome) (t : State) (h : va_Qv post B A a st o t) : va_Qv post (fun _ _ => True) A a st o t := by
  obtain ⟨⟨u, h1, h2, -⟩, h3⟩ := h
  exact ⟨⟨u, h1, h2, trivial⟩, h3⟩
theorem q_wk_i {S : Type} {post : Int32 → S → Prop} {B : S → State → Prop} {A : Nat → Prop} (a : Array Value) (st : State) (o : Outcome) (t : State) (h : va_Qi post B A a st o t) : va_Qi post (fun _ _ => True) A a st o t := by
  obtain ⟨⟨r, u, h1, h2, -⟩, h3⟩ := h
  exact ⟨⟨r, u, h1, h2, trivial⟩, h3⟩
theorem q_wk_l {S : Type} {post : Int64 → S → Prop} {B : S → State → Prop} {A : Nat → Prop} (a : Array Value) (st : State) (o : Outcome) (t : State) (h : va_Ql post B A a st o t) : va_Ql post (fun _ _ => True) A a st o t := by
  obtain ⟨⟨r, u, h1, h2, -⟩, h3⟩ := h
  exact ⟨⟨r, u, h1, h2, trivial⟩, h3⟩
theorem q_wk_r {x : Nat} {B : State → Prop} {A : Nat → Prop} (a : Array Value) (st : State) (o : Outcome) (t : State) (h : va_Qr (fun (_ : Unit) => True) (fun _ a' t => a' = x ∧ B t) A a st o t) : va_Qr (fun (_ : Unit) => True) (fun _ a' _ => a' = x) A a st o t := by
  obtain ⟨⟨u, b, h1, h2, h4, -⟩, h3⟩ := h
  exact ⟨⟨u, b, h1, h2, h4⟩, h3⟩
theorem va_A_nil (sz : Nat) : va_A [] sz = fun q => sz ≤ q := by
  funext q
  apply propext
  constructor
  · rintro (⟨k, e, h⟩ | h)
    · cases h
    · exact h
  · exact Or.inr
/-- who has no world frees nothing old -/
theorem q_of_rv {l : Launch} {y : MethodName} {cc : ByteArray} {nL : Nat} {rm : Room} {D : va_G} {tys : List (ClassId × FieldType)} {av : List Value} {S : Type} {post : S → Prop} {w1 : S → va_W} (h : rCv l y cc nL rm D tys av [] post w1) : qCv l y cc nL rm D tys av [] post := by
  intro sz
  have h1 := h sz
  rw [va_A_nil] at h1
  exact Met.weak q_wk_v h1
theorem q_of_ri {l : Launch} {y : MethodName} {cc : ByteArray} {nL : Nat} {ty : FieldType} {rm : Room} {D : va_G} {tys : List (ClassId × FieldType)} {av : List Value} {S : Type} {post : Int32 → S → Prop} {w1 : S → va_W} (h : rCi l y cc nL ty rm D tys av [] post w1) : qCi l y cc nL ty rm D tys av [] post := by
  intro sz
  have h1 := h sz
  rw [va_A_nil] at h1
  exact Met.weak q_wk_i h1
section QC
variable {p : Program} {l : Launch} {e : Env} {R : Room} {s : State} {m : MethodId} {args : Array Value} {below : List Frame} {meth : Method} {c : Code} {Q : State → Prop} {cc : ByteArray} {nL : Nat} {own : String} {D : va_G} {tys : List (ClassId × FieldType)} {A : Nat → Prop} {F : rT} {pc : Nat} {lv lv' : List (Nat × Value)} {st : List Value} {ws ws' : va_W} {k n : Nat}
theorem q_call_v {S : Type} {post : S → Prop} {B : S → State → Prop} {mc ms : Nat} {st0 : List Value} {a9 : Array Value} (hX : qOK F p l e R s m args below meth c Q cc nL own D tys A)
    (hrun : ∀ (H : Heap) (locs : List Loc) (ls : Array Slot), va_P D vwCl ws H → va_D (fun _ => True) ws → lv_has ls nL lv → va_Run p l e R s m args below meth c H locs k n mc ms (F0 m pc ls st0) st (va_Qv post B (fun q => H.size ≤ q) a9) (fun q => H.size ≤ q))
    (kk : ∀ (u : S), post u → F (pc + 3) lv (st) ws (k + mc) (n + ms)) : F pc lv st0 ws k n := by
  obtain ⟨rfl, hx, hb, hml, ho, hts, hN, hK, hA⟩ := hX
  intro H locs ls hP hD hS hl
  have hz0 := hS.1
  refine va_callv (hrun H locs ls hP hD hl) hS (fun q _ h => (hA q).1 (Nat.le_trans hz0 h)) (fun q h => (hA q).1 (Nat.le_trans hz0 h)) (fun u t H1 locs1 ht hvm hw hB hz1 hk1 hS1 => ?_)
  have hP1 : va_P D vwCl ws H1 := hP.kept (fun k x hx => hk1 x.1 ((hP k x hx).lt) (fun z => absurd ((hP k x hx).lt) (Nat.not_lt.mpr z)))
  exact kk u hw H1 locs1 ls hP1 hD hS1 hl
theorem q_call_i {S : Type} {post : Int32 → S → Prop} {B : S → State → Prop} {mc ms : Nat} {st0 : List Value} {a9 : Array Value} (hX : qOK F p l e R s m args below meth c Q cc nL own D tys A)
    (hrun : ∀ (H : Heap) (locs : List Loc) (ls : Array Slot), va_P D vwCl ws H → va_D (fun _ => True) ws → lv_has ls nL lv → va_Run p l e R s m args below meth c H locs k n mc ms (F0 m pc ls st0) st (va_Qi post B (fun q => H.size ≤ q) a9) (fun q => H.size ≤ q))
    (kk : ∀ (r : Int32) (u : S), post r u → F (pc + 3) lv (.int r :: st) ws (k + mc) (n + ms)) : F pc lv st0 ws k n := by
  obtain ⟨rfl, hx, hb, hml, ho, hts, hN, hK, hA⟩ := hX
  intro H locs ls hP hD hS hl
  have hz0 := hS.1
  refine va_calli (hrun H locs ls hP hD hl) hS (fun q _ h => (hA q).1 (Nat.le_trans hz0 h)) (fun q h => (hA q).1 (Nat.le_trans hz0 h)) (fun r u t H1 locs1 ht hvm hw hB hz1 hk1 hS1 => ?_)
  have hP1 : va_P D vwCl ws H1 := hP.kept (fun k x hx => hk1 x.1 ((hP k x hx).lt) (fun z => absurd ((hP k x hx).lt) (Nat.not_lt.mpr z)))
  exact kk r u hw H1 locs1 ls hP1 hD hS1 hl
theorem q_call_l {S : Type} {post : Int64 → S → Prop} {B : S → State → Prop} {mc ms : Nat} {st0 : List Value} {a9 : Array Value} (hX : qOK F p l e R s m args below meth c Q cc nL own D tys A)
    (hrun : ∀ (H : Heap) (locs : List Loc) (ls : Array Slot), va_P D vwCl ws H → va_D (fun _ => True) ws → lv_has ls nL lv → va_Run p l e R s m args below meth c H locs k n mc ms (F0 m pc ls st0) st (va_Ql post B (fun q => H.size ≤ q) a9) (fun q => H.size ≤ q))
    (kk : ∀ (r : Int64) (u : S), post r u → F (pc + 3) lv (.long r :: st) ws (k + mc) (n + ms)) : F pc lv st0 ws k n := by
  obtain ⟨rfl, hx, hb, hml, ho, hts, hN, hK, hA⟩ := hX
  intro H locs ls hP hD hS hl
  have hz0 := hS.1
  refine va_calll (hrun H locs ls hP hD hl) hS (fun q _ h => (hA q).1 (Nat.le_trans hz0 h)) (fun q h => (hA q).1 (Nat.le_trans hz0 h)) (fun r u t H1 locs1 ht hvm hw hB hz1 hk1 hS1 => ?_)
  have hP1 : va_P D vwCl ws H1 := hP.kept (fun k x hx => hk1 x.1 ((hP k x hx).lt) (fun z => absurd ((hP k x hx).lt) (Nat.not_lt.mpr z)))
  exact kk r u hw H1 locs1 ls hP1 hD hS1 hl
theorem q_call_r {ra mc ms : Nat} {st0 : List Value} {a9 : Array Value} (hX : qOK F p l e R s m args below meth c Q cc nL own D tys A)
    (hrun : ∀ (H : Heap) (locs : List Loc) (ls : Array Slot), va_P D vwCl ws H → va_D (fun _ => True) ws → lv_has ls nL lv → va_Run p l e R s m args below meth c H locs k n mc ms (F0 m pc ls st0) st (va_Qr (fun (_ : Unit) => True) (fun _ a' _ => a' = ra) (fun q => H.size ≤ q) a9) (fun q => H.size ≤ q))
    (kk : F (pc + 3) lv (.ref ra :: st) ws (k + mc) (n + ms)) : F pc lv st0 ws k n := by
  obtain ⟨rfl, hx, hb, hml, ho, hts, hN, hK, hA⟩ := hX
  intro H locs ls hP hD hS hl
  have hz0 := hS.1
  refine va_callr (hrun H locs ls hP hD hl) hS (fun q _ h => (hA q).1 (Nat.le_trans hz0 h)) (fun q h => (hA q).1 (Nat.le_trans hz0 h)) (fun u ra' t H1 locs1 ht hvm hw hB hz1 hk1 hS1 => ?_)
  have hP1 : va_P D vwCl ws H1 := hP.kept (fun k x hx => hk1 x.1 ((hP k x hx).lt) (fun z => absurd ((hP k x hx).lt) (Nat.not_lt.mpr z)))
  subst hB
  exact kk H1 locs1 ls hP1 hD hS1 hl
theorem q_invS_v0 {S : Type} {post : S → Prop} {wc : va_W} {st0 As : List Value} {y : MethodName} {bytes : ByteArray} {maxL index n9 : Nat} {rm : Room} (hX : qOK F p l e R s m args below meth c Q cc nL own D tys A) (hM : qCv l y bytes maxL rm D tys As wc post) (hy : rYN y n9) (hlk : Cond.methodLink own index y ∈ rw_ok) (hi1 : Cond.static y ∈ rw_ok) (hco : Cond.code y bytes maxL none ∈ rw_ok) (hin : Cond.initialized y.cls ∈ rw_ok) (hr : rm.frames + 1 ≤ R.frames ∧ 8 + (maxL + 11) + rm.locals ≤ R.locals ∧ rm.cells = 0 ∧ rm.slots = 0) (hk9 : k ≤ R.cells) (hn9 : n ≤ R.slots)
    (isC : List Nat) (hnC : va_nd isC = true) (hC : isC.map (fun i => ws[i]?) = wc.map some) (hC2 : isC.filterMap (fun i => ws[i]?) = wc) (hnA : As.length = n9) (hst : st0 = As.reverse ++ st) (hW : (st.map fun v => v.category).sum ≤ 8) (hd : decode cc pc = .ok (.invokestatic index, 3))
    (kk : ∀ (u : S), post u → F (pc + 3) lv st ws k n) : F pc lv st0 ws k n := by
  have hX' := hX
  obtain ⟨-, hx, hb, hml, ho, hts, hN, hK, hA⟩ := hX'
  refine q_call_v (B := fun _ _ => True) (a9 := (As).toArray) (mc := rm.cells) (ms := rm.slots) hX (fun H locs ls hP hD hl => ?_) (fun u h => by rw [hr.2.2.1, hr.2.2.2]; exact kk u h)
  exact va_runS (As := As) (rest := st) (n := n9) ⟨hx, hb, hml, ho, hts⟩ (hM H.size) ⟨rCB hts hy hco hin hlk hr.1 hr.2.1, hts _ hi1⟩ (rPreS (As := As) hK hN hP hD isC hnC hC hC2) rfl hnA hl.1 hst (lv_room hW) hd ⟨by rw [hr.2.2.1]; exact hk9, by rw [hr.2.2.2]; exact hn9⟩
theorem q_invS_i0 {S : Type} {post : Int32 → S → Prop} {ty : FieldType} {wc : va_W} {st0 As : List Value} {y : MethodName} {bytes : ByteArray} {maxL index n9 : Nat} {rm : Room} (hX : qOK F p l e R s m args below meth c Q cc nL own D tys A) (hM : qCi l y bytes maxL ty rm D tys As wc post) (hy : rYN y n9) (hlk : Cond.methodLink own index y ∈ rw_ok) (hi1 : Cond.static y ∈ rw_ok) (hco : Cond.code y bytes maxL (some ty) ∈ rw_ok) (hin : Cond.initialized y.cls ∈ rw_ok) (hr : rm.frames + 1 ≤ R.frames ∧ 8 + (maxL + 11) + rm.locals ≤ R.locals ∧ rm.cells = 0 ∧ rm.slots = 0) (hk9 : k ≤ R.cells) (hn9 : n ≤ R.slots)
    (isC : List Nat) (hnC : va_nd isC = true) (hC : isC.map (fun i => ws[i]?) = wc.map some) (hC2 : isC.filterMap (fun i => ws[i]?) = wc) (hnA : As.length = n9) (hst : st0 = As.reverse ++ st) (hW : (st.map fun v => v.category).sum ≤ 8) (hd : decode cc pc = .ok (.invokestatic index, 3))
    (kk : ∀ (r : Int32) (u : S), post r u → F (pc + 3) lv (.int r :: st) ws k n) : F pc lv st0 ws k n := by
  have hX' := hX
  obtain ⟨-, hx, hb, hml, ho, hts, hN, hK, hA⟩ := hX'
  refine q_call_i (B := fun _ _ => True) (a9 := (As).toArray) (mc := rm.cells) (ms := rm.slots) hX (fun H locs ls hP hD hl => ?_) (fun r u h => by rw [hr.2.2.1, hr.2.2.2]; exact kk r u h)
  exact va_runS (As := As) (rest := st) (n := n9) ⟨hx, hb, hml, ho, hts⟩ (hM H.size) ⟨rCB hts hy hco hin hlk hr.1 hr.2.1, hts _ hi1⟩ (rPreS (As := As) hK hN hP hD isC hnC hC hC2) rfl hnA hl.1 hst (lv_room hW) hd ⟨by rw [hr.2.2.1]; exact hk9, by rw [hr.2.2.2]; exact hn9⟩
theorem q_invS_l0 {S : Type} {post : Int64 → S → Prop} {wc : va_W} {st0 As : List Value} {y : MethodName} {bytes : ByteArray} {maxL index n9 : Nat} {rm : Room} (hX : qOK F p l e R s m args below meth c Q cc nL own D tys A) (hM : qCl l y bytes maxL rm D tys As wc post) (hy : rYN y n9) (hlk : Cond.methodLink own index y ∈ rw_ok) (hi1 : Cond.static y ∈ rw_ok) (hco : Cond.code y bytes maxL (some .long) ∈ rw_ok) (hin : Cond.initialized y.cls ∈ rw_ok) (hr : rm.frames + 1 ≤ R.frames ∧ 8 + (maxL + 11) + rm.locals ≤ R.locals ∧ rm.cells = 0 ∧ rm.slots = 0) (hk9 : k ≤ R.cells) (hn9 : n ≤ R.slots)
    (isC : List Nat) (hnC : va_nd isC = true) (hC : isC.map (fun i => ws[i]?) = wc.map some) (hC2 : isC.filterMap (fun i => ws[i]?) = wc) (hnA : As.length = n9) (hst : st0 = As.reverse ++ st) (hW : (st.map fun v => v.category).sum ≤ 8) (hd : decode cc pc = .ok (.invokestatic index, 3))
    (kk : ∀ (r : Int64) (u : S), post r u → F (pc + 3) lv (.long r :: st) ws k n) : F pc lv st0 ws k n := by
  have hX' := hX
  obtain ⟨-, hx, hb, hml, ho, hts, hN, hK, hA⟩ := hX'
  refine q_call_l (B := fun _ _ => True) (a9 := (As).toArray) (mc := rm.cells) (ms := rm.slots) hX (fun H locs ls hP hD hl => ?_) (fun r u h => by rw [hr.2.2.1, hr.2.2.2]; exact kk r u h)
  exact va_runS (As := As) (rest := st) (n := n9) ⟨hx, hb, hml, ho, hts⟩ (hM H.size) ⟨rCB hts hy hco hin hlk hr.1 hr.2.1, hts _ hi1⟩ (rPreS (As := As) hK hN hP hD isC hnC hC hC2) rfl hnA hl.1 hst (lv_room hW) hd ⟨by rw [hr.2.2.1]; exact hk9, by rw [hr.2.2.2]; exact hn9⟩
theorem q_invS_r0 {ra : Nat} {ty : FieldType} {wc : va_W} {st0 As : List Value} {y : MethodName} {bytes : ByteArray} {maxL index n9 : Nat} {rm : Room} (hX : qOK F p l e R s m args below meth c Q cc nL own D tys A) (hM : qCr l y bytes maxL ty rm D tys As wc ra) (hy : rYN y n9) (hlk : Cond.methodLink own index y ∈ rw_ok) (hi1 : Cond.static y ∈ rw_ok) (hco : Cond.code y bytes maxL (some ty) ∈ rw_ok) (hin : Cond.initialized y.cls ∈ rw_ok) (hr : rm.frames + 1 ≤ R.frames ∧ 8 + (maxL + 11) + rm.locals ≤ R.locals ∧ rm.cells = 0 ∧ rm.slots = 0) (hk9 : k ≤ R.cells) (hn9 : n ≤ R.slots)
    (isC : List Nat) (hnC : va_nd isC = true) (hC : isC.map (fun i => ws[i]?) = wc.map some) (hC2 : isC.filterMap (fun i => ws[i]?) = wc) (hnA : As.length = n9) (hst : st0 = As.reverse ++ st) (hW : (st.map fun v => v.category).sum ≤ 8) (hd : decode cc pc = .ok (.invokestatic index, 3))
    (kk : F (pc + 3) lv (.ref ra :: st) ws k n) : F pc lv st0 ws k n := by
  have hX' := hX
  obtain ⟨-, hx, hb, hml, ho, hts, hN, hK, hA⟩ := hX'
  refine q_call_r (a9 := (As).toArray) (mc := rm.cells) (ms := rm.slots) hX (fun H locs ls hP hD hl => ?_) (by rw [hr.2.2.1, hr.2.2.2]; exact kk)
  exact va_runS (As := As) (rest := st) (n := n9) ⟨hx, hb, hml, ho, hts⟩ (hM H.size) ⟨rCB hts hy hco hin hlk hr.1 hr.2.1, hts _ hi1⟩ (rPreS (As := As) hK hN hP hD isC hnC hC hC2) rfl hnA hl.1 hst (lv_room hW) hd ⟨by rw [hr.2.2.1]; exact hk9, by rw [hr.2.2.2]; exact hn9⟩
theorem q_invV_v0 {S : Type} {post : S → Prop} {wc : va_W} {st0 As : List Value} {b : Nat} {y : MethodName} {bytes : ByteArray} {maxL index n9 : Nat} {rm : Room} (hX : qOK F p l e R s m args below meth c Q cc nL own D tys A) (hM : qCv l y bytes maxL rm D tys (.ref b :: As) wc post) (C : String) (qb ci : Nat) {T : u_T} {N : Nat} {ty0 : Nat → FieldType} {fs : List Value} (hcf : rCF ci C T N ty0) (hrec : ws[qb]? = some (b, .inr (ci, fs))) (hy : rYN y n9) (hlk : Cond.methodLink own index y ∈ rw_ok) (hi1 : Cond.instanceMethod y ∈ rw_ok) (hi2 : Cond.selects C y y ∈ rw_ok) (hco : Cond.code y bytes maxL none ∈ rw_ok) (hin : Cond.initialized y.cls ∈ rw_ok) (hr : rm.frames + 1 ≤ R.frames ∧ 8 + (maxL + 11) + rm.locals ≤ R.locals ∧ rm.cells = 0 ∧ rm.slots = 0) (hk9 : k ≤ R.cells) (hn9 : n ≤ R.slots)
    (isC : List Nat) (hnC : va_nd isC = true) (hC : isC.map (fun i => ws[i]?) = wc.map some) (hC2 : isC.filterMap (fun i => ws[i]?) = wc) (hnA : As.length = n9) (hst : st0 = As.reverse ++ .ref b :: st) (hW : (st.map fun v => v.category).sum ≤ 8) (hd : decode cc pc = .ok (.invokevirtual index, 3))
    (kk : ∀ (u : S), post u → F (pc + 3) lv st ws k n) : F pc lv st0 ws k n := by
  have hX' := hX
  obtain ⟨-, hx, hb, hml, ho, hts, hN, hK, hA⟩ := hX'
  refine q_call_v (B := fun _ _ => True) (a9 := ((.ref b :: As)).toArray) (mc := rm.cells) (ms := rm.slots) hX (fun H locs ls hP hD hl => ?_) (fun u h => by rw [hr.2.2.1, hr.2.2.2]; exact kk u h)
  have hpre := rPreS (As := .ref b :: As) hK hN hP hD isC hnC hC hC2
  exact va_runV (C := C) (As := As) (rest := st) (n := n9) ⟨hx, hb, hml, ho, hts⟩ (hM H.size) ⟨rCB hts hy hco hin hlk hr.1 hr.2.1, hts _ hi1, hts _ hi2⟩ ⟨hpre.1, va_recv hK hP hcf.1 hrec, hpre.2⟩ rfl hnA hl.1 hst (lv_room hW) hd ⟨by rw [hr.2.2.1]; exact hk9, by rw [hr.2.2.2]; exact hn9⟩
theorem q_invV_i0 {S : Type} {post : Int32 → S → Prop} {ty : FieldType} {wc : va_W} {st0 As : List Value} {b : Nat} {y : MethodName} {bytes : ByteArray} {maxL index n9 : Nat} {rm : Room} (hX : qOK F p l e R s m args below meth c Q cc nL own D tys A) (hM : qCi l y bytes maxL ty rm D tys (.ref b :: As) wc post) (C : String) (qb ci : Nat) {T : u_T} {N : Nat} {ty0 : Nat → FieldType} {fs : List Value} (hcf : rCF ci C T N ty0) (hrec : ws[qb]? = some (b, .inr (ci, fs))) (hy : rYN y n9) (hlk : Cond.methodLink own index y ∈ rw_ok) (hi1 : Cond.instanceMethod y ∈ rw_ok) (hi2 : Cond.selects C y y ∈ rw_ok) (hco : Cond.code y bytes maxL (some ty) ∈ rw_ok) (hin : Cond.initialized y.cls ∈ rw_ok) (hr : rm.frames + 1 ≤ R.frames ∧ 8 + (maxL + 11) + rm.locals ≤ R.locals ∧ rm.cells = 0 ∧ rm.slots = 0) (hk9 : k ≤ R.cells) (hn9 : n ≤ R.slots)
    (isC : List Nat) (hnC : va_nd isC = true) (hC : isC.map (fun i => ws[i]?) = wc.map some) (hC2 : isC.filterMap (fun i => ws[i]?) = wc) (hnA : As.length = n9) (hst : st0 = As.reverse ++ .ref b :: st) (hW : (st.map fun v => v.category).sum ≤ 8) (hd : decode cc pc = .ok (.invokevirtual index, 3))
    (kk : ∀ (r : Int32) (u : S), post r u → F (pc + 3) lv (.int r :: st) ws k n) : F pc lv st0 ws k n := by
  have hX' := hX
  obtain ⟨-, hx, hb, hml, ho, hts, hN, hK, hA⟩ := hX'
  refine q_call_i (B := fun _ _ => True) (a9 := ((.ref b :: As)).toArray) (mc := rm.cells) (ms := rm.slots) hX (fun H locs ls hP hD hl => ?_) (fun r u h => by rw [hr.2.2.1, hr.2.2.2]; exact kk r u h)
  have hpre := rPreS (As := .ref b :: As) hK hN hP hD isC hnC hC hC2
  exact va_runV (C := C) (As := As) (rest := st) (n := n9) ⟨hx, hb, hml, ho, hts⟩ (hM H.size) ⟨rCB hts hy hco hin hlk hr.1 hr.2.1, hts _ hi1, hts _ hi2⟩ ⟨hpre.1, va_recv hK hP hcf.1 hrec, hpre.2⟩ rfl hnA hl.1 hst (lv_room hW) hd ⟨by rw [hr.2.2.1]; exact hk9, by rw [hr.2.2.2]; exact hn9⟩
theorem q_invV_l0 {S : Type} {post : Int64 → S → Prop} {wc : va_W} {st0 As : List Value} {b : Nat} {y : MethodName} {bytes : ByteArray} {maxL index n9 : Nat} {rm : Room} (hX : qOK F p l e R s m args below meth c Q cc nL own D tys A) (hM : qCl l y bytes maxL rm D tys (.ref b :: As) wc post) (C : String) (qb ci : Nat) {T : u_T} {N : Nat} {ty0 : Nat → FieldType} {fs : List Value} (hcf : rCF ci C T N ty0) (hrec : ws[qb]? = some (b, .inr (ci, fs))) (hy : rYN y n9) (hlk : Cond.methodLink own index y ∈ rw_ok) (hi1 : Cond.instanceMethod y ∈ rw_ok) (hi2 : Cond.selects C y y ∈ rw_ok) (hco : Cond.code y bytes maxL (some .long) ∈ rw_ok) (hin : Cond.initialized y.cls ∈ rw_ok) (hr : rm.frames + 1 ≤ R.frames ∧ 8 + (maxL + 11) + rm.locals ≤ R.locals ∧ rm.cells = 0 ∧ rm.slots = 0) (hk9 : k ≤ R.cells) (hn9 : n ≤ R.slots)
    (isC : List Nat) (hnC : va_nd isC = true) (hC : isC.map (fun i => ws[i]?) = wc.map some) (hC2 : isC.filterMap (fun i => ws[i]?) = wc) (hnA : As.length = n9) (hst : st0 = As.reverse ++ .ref b :: st) (hW : (st.map fun v => v.category).sum ≤ 8) (hd : decode cc pc = .ok (.invokevirtual index, 3))
    (kk : ∀ (r : Int64) (u : S), post r u → F (pc + 3) lv (.long r :: st) ws k n) : F pc lv st0 ws k n := by
  have hX' := hX
  obtain ⟨-, hx, hb, hml, ho, hts, hN, hK, hA⟩ := hX'
  refine q_call_l (B := fun _ _ => True) (a9 := ((.ref b :: As)).toArray) (mc := rm.cells) (ms := rm.slots) hX (fun H locs ls hP hD hl => ?_) (fun r u h => by rw [hr.2.2.1, hr.2.2.2]; exact kk r u h)
  have hpre := rPreS (As := .ref b :: As) hK hN hP hD isC hnC hC hC2
  exact va_runV (C := C) (As := As) (rest := st) (n := n9) ⟨hx, hb, hml, ho, hts⟩ (hM H.size) ⟨rCB hts hy hco hin hlk hr.1 hr.2.1, hts _ hi1, hts _ hi2⟩ ⟨hpre.1, va_recv hK hP hcf.1 hrec, hpre.2⟩ rfl hnA hl.1 hst (lv_room hW) hd ⟨by rw [hr.2.2.1]; exact hk9, by rw [hr.2.2.2]; exact hn9⟩
theorem q_invV_r0 {ra : Nat} {ty : FieldType} {wc : va_W} {st0 As : List Value} {b : Nat} {y : MethodName} {bytes : ByteArray} {maxL index n9 : Nat} {rm : Room} (hX : qOK F p l e R s m args below meth c Q cc nL own D tys A) (hM : qCr l y bytes maxL ty rm D tys (.ref b :: As) wc ra) (C : String) (qb ci : Nat) {T : u_T} {N : Nat} {ty0 : Nat → FieldType} {fs : List Value} (hcf : rCF ci C T N ty0) (hrec : ws[qb]? = some (b, .inr (ci, fs))) (hy : rYN y n9) (hlk : Cond.methodLink own index y ∈ rw_ok) (hi1 : Cond.instanceMethod y ∈ rw_ok) (hi2 : Cond.selects C y y ∈ rw_ok) (hco : Cond.code y bytes maxL (some ty) ∈ rw_ok) (hin : Cond.initialized y.cls ∈ rw_ok) (hr : rm.frames + 1 ≤ R.frames ∧ 8 + (maxL + 11) + rm.locals ≤ R.locals ∧ rm.cells = 0 ∧ rm.slots = 0) (hk9 : k ≤ R.cells) (hn9 : n ≤ R.slots)
    (isC : List Nat) (hnC : va_nd isC = true) (hC : isC.map (fun i => ws[i]?) = wc.map some) (hC2 : isC.filterMap (fun i => ws[i]?) = wc) (hnA : As.length = n9) (hst : st0 = As.reverse ++ .ref b :: st) (hW : (st.map fun v => v.category).sum ≤ 8) (hd : decode cc pc = .ok (.invokevirtual index, 3))
    (kk : F (pc + 3) lv (.ref ra :: st) ws k n) : F pc lv st0 ws k n := by
  have hX' := hX
  obtain ⟨-, hx, hb, hml, ho, hts, hN, hK, hA⟩ := hX'
  refine q_call_r (a9 := ((.ref b :: As)).toArray) (mc := rm.cells) (ms := rm.slots) hX (fun H locs ls hP hD hl => ?_) (by rw [hr.2.2.1, hr.2.2.2]; exact kk)
  have hpre := rPreS (As := .ref b :: As) hK hN hP hD isC hnC hC hC2
  exact va_runV (C := C) (As := As) (rest := st) (n := n9) ⟨hx, hb, hml, ho, hts⟩ (hM H.size) ⟨rCB hts hy hco hin hlk hr.1 hr.2.1, hts _ hi1, hts _ hi2⟩ ⟨hpre.1, va_recv hK hP hcf.1 hrec, hpre.2⟩ rfl hnA hl.1 hst (lv_room hW) hd ⟨by rw [hr.2.2.1]; exact hk9, by rw [hr.2.2.2]; exact hn9⟩
theorem q_invVN_v0 {host : String} {S : Type} {post : S → Prop} {wc : va_W} {st0 As : List Value} {b : Nat} {y : MethodName} {bytes : ByteArray} {maxL index n9 : Nat} {rm : Room} (hX : qOK F p l e R s m args below meth c Q cc nL own D tys A) (hM : qCv l y bytes maxL rm D tys (.ref b :: As) wc post) (C : String) (qb ci : Nat) {T : u_T} {N : Nat} {ty0 : Nat → FieldType} {fs : List Value} (hcf : rCF ci C T N ty0) (hrec : ws[qb]? = some (b, .inr (ci, fs))) (hy : rYN y n9) (hlk : Cond.methodLinkNest own index y host ∈ rw_nest) (hi1 : Cond.instanceMethod y ∈ rw_ok) (hi2 : Cond.selects C y y ∈ rw_ok) (hco : Cond.code y bytes maxL none ∈ rw_ok) (hin : Cond.initialized y.cls ∈ rw_ok) (hr : rm.frames + 1 ≤ R.frames ∧ 8 + (maxL + 11) + rm.locals ≤ R.locals ∧ rm.cells = 0 ∧ rm.slots = 0) (hk9 : k ≤ R.cells) (hn9 : n ≤ R.slots)
    (isC : List Nat) (hnC : va_nd isC = true) (hC : isC.map (fun i => ws[i]?) = wc.map some) (hC2 : isC.filterMap (fun i => ws[i]?) = wc) (hnA : As.length = n9) (hst : st0 = As.reverse ++ .ref b :: st) (hW : (st.map fun v => v.category).sum ≤ 8) (hd : decode cc pc = .ok (.invokevirtual index, 3))
    (kk : ∀ (u : S), post u → F (pc + 3) lv st ws k n) : F pc lv st0 ws k n := by
  have hX' := hX
  obtain ⟨-, hx, hb, hml, ho, hts, hN, hK, hA⟩ := hX'
  refine q_call_v (B := fun _ _ => True) (a9 := ((.ref b :: As)).toArray) (mc := rm.cells) (ms := rm.slots) hX (fun H locs ls hP hD hl => ?_) (fun u h => by rw [hr.2.2.1, hr.2.2.2]; exact kk u h)
  have hpre := rPreS (As := .ref b :: As) hK hN hP hD isC hnC hC hC2
  exact va_runVN (C := C) (host := host) (As := As) (rest := st) (n := n9) ⟨hx, hb, hml, ho, hts⟩ (hM H.size) ⟨rCN hts hN hy hco hin hlk hr.1 hr.2.1, hts _ hi1, hts _ hi2⟩ ⟨hpre.1, va_recv hK hP hcf.1 hrec, hpre.2⟩ rfl hnA hl.1 hst (lv_room hW) hd ⟨by rw [hr.2.2.1]; exact hk9, by rw [hr.2.2.2]; exact hn9⟩
theorem q_invVN_i0 {host : String} {S : Type} {post : Int32 → S → Prop} {ty : FieldType} {wc : va_W} {st0 As : List Value} {b : Nat} {y : MethodName} {bytes : ByteArray} {maxL index n9 : Nat} {rm : Room} (hX : qOK F p l e R s m args below meth c Q cc nL own D tys A) (hM : qCi l y bytes maxL ty rm D tys (.ref b :: As) wc post) (C : String) (qb ci : Nat) {T : u_T} {N : Nat} {ty0 : Nat → FieldType} {fs : List Value} (hcf : rCF ci C T N ty0) (hrec : ws[qb]? = some (b, .inr (ci, fs))) (hy : rYN y n9) (hlk : Cond.methodLinkNest own index y host ∈ rw_nest) (hi1 : Cond.instanceMethod y ∈ rw_ok) (hi2 : Cond.selects C y y ∈ rw_ok) (hco : Cond.code y bytes maxL (some ty) ∈ rw_ok) (hin : Cond.initialized y.cls ∈ rw_ok) (hr : rm.frames + 1 ≤ R.frames ∧ 8 + (maxL + 11) + rm.locals ≤ R.locals ∧ rm.cells = 0 ∧ rm.slots = 0) (hk9 : k ≤ R.cells) (hn9 : n ≤ R.slots)
    (isC : List Nat) (hnC : va_nd isC = true) (hC : isC.map (fun i => ws[i]?) = wc.map some) (hC2 : isC.filterMap (fun i => ws[i]?) = wc) (hnA : As.length = n9) (hst : st0 = As.reverse ++ .ref b :: st) (hW : (st.map fun v => v.category).sum ≤ 8) (hd : decode cc pc = .ok (.invokevirtual index, 3))
    (kk : ∀ (r : Int32) (u : S), post r u → F (pc + 3) lv (.int r :: st) ws k n) : F pc lv st0 ws k n := by
  have hX' := hX
  obtain ⟨-, hx, hb, hml, ho, hts, hN, hK, hA⟩ := hX'
  refine q_call_i (B := fun _ _ => True) (a9 := ((.ref b :: As)).toArray) (mc := rm.cells) (ms := rm.slots) hX (fun H locs ls hP hD hl => ?_) (fun r u h => by rw [hr.2.2.1, hr.2.2.2]; exact kk r u h)
  have hpre := rPreS (As := .ref b :: As) hK hN hP hD isC hnC hC hC2
  exact va_runVN (C := C) (host := host) (As := As) (rest := st) (n := n9) ⟨hx, hb, hml, ho, hts⟩ (hM H.size) ⟨rCN hts hN hy hco hin hlk hr.1 hr.2.1, hts _ hi1, hts _ hi2⟩ ⟨hpre.1, va_recv hK hP hcf.1 hrec, hpre.2⟩ rfl hnA hl.1 hst (lv_room hW) hd ⟨by rw [hr.2.2.1]; exact hk9, by rw [hr.2.2.2]; exact hn9⟩
theorem q_invVN_l0 {host : String} {S : Type} {post : Int64 → S → Prop} {wc : va_W} {st0 As : List Value} {b : Nat} {y : MethodName} {bytes : ByteArray} {maxL index n9 : Nat} {rm : Room} (hX : qOK F p l e R s m args below meth c Q cc nL own D tys A) (hM : qCl l y bytes maxL rm D tys (.ref b :: As) wc post) (C : String) (qb ci : Nat) {T : u_T} {N : Nat} {ty0 : Nat → FieldType} {fs : List Value} (hcf : rCF ci C T N ty0) (hrec : ws[qb]? = some (b, .inr (ci, fs))) (hy : rYN y n9) (hlk : Cond.methodLinkNest own index y host ∈ rw_nest) (hi1 : Cond.instanceMethod y ∈ rw_ok) (hi2 : Cond.selects C y y ∈ rw_ok) (hco : Cond.code y bytes maxL (some .long) ∈ rw_ok) (hin : Cond.initialized y.cls ∈ rw_ok) (hr : rm.frames + 1 ≤ R.frames ∧ 8 + (maxL + 11) + rm.locals ≤ R.locals ∧ rm.cells = 0 ∧ rm.slots = 0) (hk9 : k ≤ R.cells) (hn9 : n ≤ R.slots)
    (isC : List Nat) (hnC : va_nd isC = true) (hC : isC.map (fun i => ws[i]?) = wc.map some) (hC2 : isC.filterMap (fun i => ws[i]?) = wc) (hnA : As.length = n9) (hst : st0 = As.reverse ++ .ref b :: st) (hW : (st.map fun v => v.category).sum ≤ 8) (hd : decode cc pc = .ok (.invokevirtual index, 3))
    (kk : ∀ (r : Int64) (u : S), post r u → F (pc + 3) lv (.long r :: st) ws k n) : F pc lv st0 ws k n := by
  have hX' := hX
  obtain ⟨-, hx, hb, hml, ho, hts, hN, hK, hA⟩ := hX'
  refine q_call_l (B := fun _ _ => True) (a9 := ((.ref b :: As)).toArray) (mc := rm.cells) (ms := rm.slots) hX (fun H locs ls hP hD hl => ?_) (fun r u h => by rw [hr.2.2.1, hr.2.2.2]; exact kk r u h)
  have hpre := rPreS (As := .ref b :: As) hK hN hP hD isC hnC hC hC2
  exact va_runVN (C := C) (host := host) (As := As) (rest := st) (n := n9) ⟨hx, hb, hml, ho, hts⟩ (hM H.size) ⟨rCN hts hN hy hco hin hlk hr.1 hr.2.1, hts _ hi1, hts _ hi2⟩ ⟨hpre.1, va_recv hK hP hcf.1 hrec, hpre.2⟩ rfl hnA hl.1 hst (lv_room hW) hd ⟨by rw [hr.2.2.1]; exact hk9, by rw [hr.2.2.2]; exact hn9⟩
theorem q_invVN_r0 {host : String} {ra : Nat} {ty : FieldType} {wc : va_W} {st0 As : List Value} {b : Nat} {y : MethodName} {bytes : ByteArray} {maxL index n9 : Nat} {rm : Room} (hX : qOK F p l e R s m args below meth c Q cc nL own D tys A) (hM : qCr l y bytes maxL ty rm D tys (.ref b :: As) wc ra) (C : String) (qb ci : Nat) {T : u_T} {N : Nat} {ty0 : Nat → FieldType} {fs : List Value} (hcf : rCF ci C T N ty0) (hrec : ws[qb]? = some (b, .inr (ci, fs))) (hy : rYN y n9) (hlk : Cond.methodLinkNest own index y host ∈ rw_nest) (hi1 : Cond.instanceMethod y ∈ rw_ok) (hi2 : Cond.selects C y y ∈ rw_ok) (hco : Cond.code y bytes maxL (some ty) ∈ rw_ok) (hin : Cond.initialized y.cls ∈ rw_ok) (hr : rm.frames + 1 ≤ R.frames ∧ 8 + (maxL + 11) + rm.locals ≤ R.locals ∧ rm.cells = 0 ∧ rm.slots = 0) (hk9 : k ≤ R.cells) (hn9 : n ≤ R.slots)
    (isC : List Nat) (hnC : va_nd isC = true) (hC : isC.map (fun i => ws[i]?) = wc.map some) (hC2 : isC.filterMap (fun i => ws[i]?) = wc) (hnA : As.length = n9) (hst : st0 = As.reverse ++ .ref b :: st) (hW : (st.map fun v => v.category).sum ≤ 8) (hd : decode cc pc = .ok (.invokevirtual index, 3))
    (kk : F (pc + 3) lv (.ref ra :: st) ws k n) : F pc lv st0 ws k n := by
  have hX' := hX
  obtain ⟨-, hx, hb, hml, ho, hts, hN, hK, hA⟩ := hX'
  refine q_call_r (a9 := ((.ref b :: As)).toArray) (mc := rm.cells) (ms := rm.slots) hX (fun H locs ls hP hD hl => ?_) (by rw [hr.2.2.1, hr.2.2.2]; exact kk)
  have hpre := rPreS (As := .ref b :: As) hK hN hP hD isC hnC hC hC2
  exact va_runVN (C := C) (host := host) (As := As) (rest := st) (n := n9) ⟨hx, hb, hml, ho, hts⟩ (hM H.size) ⟨rCN hts hN hy hco hin hlk hr.1 hr.2.1, hts _ hi1, hts _ hi2⟩ ⟨hpre.1, va_recv hK hP hcf.1 hrec, hpre.2⟩ rfl hnA hl.1 hst (lv_room hW) hd ⟨by rw [hr.2.2.1]; exact hk9, by rw [hr.2.2.2]; exact hn9⟩
end QC
