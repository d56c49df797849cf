/-! The class's words for its state. -/
def ra_t1 (bb : Nat) (o oo : Int) : Int := if bb = 1 then o else o - oo
def ra_t2 (bb : Nat) (t ot : Int) : Int := if bb = 2 then t else t - ot
def ra_gw (bb : Nat) (e p o t oo ot : Int) : Int := max (max (max e p) (ra_t1 bb o oo)) (ra_t2 bb t ot)
def ra_wt (bb st : Nat) (p o t oo ot : Int) : Int := if st = 0 then p else if st = 1 then ra_t1 bb o oo else ra_t2 bb t ot
def ra_fb (bb : Nat) (e p o t oo ot : Int) : Int := if e = ra_gw bb e p o t oo ot then -1 else if p = ra_gw bb e p o t oo ot then 0 else if ra_t1 bb o oo = ra_gw bb e p o t oo ot then 1 else 2
abbrev ra_mk (la lb : Nat) (LA LB : Nat → Nat) (SC : Nat → Int) (op mo : Int) (fr : Nat) (pt : Bool) : ra_G := (la, lb, fun i j => SC (LA i * 26 + LB j), op, mo, fr, pt)
def raH (la lb : Nat) (LA LB : Nat → Nat) (SC : Nat → Int) (op mo : Int) (fr : Nat) : Prop := la ≤ 96 ∧ lb ≤ 96 ∧ (∀ k, LA k < 26) ∧ (∀ k, LB k < 26) ∧ (∀ k, -512 ≤ SC k ∧ SC k ≤ 512) ∧ 0 ≤ op ∧ op ≤ 512 ∧ 0 ≤ mo ∧ mo ≤ 512 ∧ fr < 16
theorem raH.bd {la lb : Nat} {LA LB : Nat → Nat} {SC : Nat → Int} {op mo : Int} {fr : Nat} (h : raH la lb LA LB SC op mo fr) (pt : Bool) : ra_bd (ra_mk la lb LA LB SC op mo fr pt) := by
  obtain ⟨h1, h2, h3, h4, h5, h6, h7, h8, h9, h10⟩ := h
  exact ⟨h1, h2, fun i j _ _ => h5 _, h6, h7, h8, h9, h10⟩
section RAF
variable {la lb : Nat} {LA LB : Nat → Nat} {SC : Nat → Int} {op mo : Int} {fr : Nat} {pt : Bool}
theorem ra_f1_iff {j : Nat} : ra_f1 (ra_mk la lb LA LB SC op mo fr pt) j = true ↔ (j = 0 ∧ fr.testBit 0 = true) ∨ (j = lb ∧ fr.testBit 2 = true) := by
  unfold ra_f1; simp
theorem ra_f2_iff {i : Nat} : ra_f2 (ra_mk la lb LA LB SC op mo fr pt) i = true ↔ (i = 0 ∧ fr.testBit 1 = true) ∨ (i = la ∧ fr.testBit 3 = true) := by
  unfold ra_f2; simp
theorem ra_o1_t {j : Nat} (h : (j = 0 ∧ fr.testBit 0 = true) ∨ (j = lb ∧ fr.testBit 2 = true)) : ra_o1 (ra_mk la lb LA LB SC op mo fr pt) j = 0 ∧ ra_m1 (ra_mk la lb LA LB SC op mo fr pt) j = 0 := by
  unfold ra_o1 ra_m1; rw [if_pos (ra_f1_iff.2 h), if_pos (ra_f1_iff.2 h)]; exact ⟨rfl, rfl⟩
theorem ra_o1_f {j : Nat} (h : ¬ ((j = 0 ∧ fr.testBit 0 = true) ∨ (j = lb ∧ fr.testBit 2 = true))) : ra_o1 (ra_mk la lb LA LB SC op mo fr pt) j = op ∧ ra_m1 (ra_mk la lb LA LB SC op mo fr pt) j = mo := by
  unfold ra_o1 ra_m1; rw [if_neg (fun q => h (ra_f1_iff.1 q)), if_neg (fun q => h (ra_f1_iff.1 q))]; exact ⟨rfl, rfl⟩
theorem ra_o2_t {i : Nat} (h : (i = 0 ∧ fr.testBit 1 = true) ∨ (i = la ∧ fr.testBit 3 = true)) : ra_o2 (ra_mk la lb LA LB SC op mo fr pt) i = 0 ∧ ra_m2 (ra_mk la lb LA LB SC op mo fr pt) i = 0 := by
  unfold ra_o2 ra_m2; rw [if_pos (ra_f2_iff.2 h), if_pos (ra_f2_iff.2 h)]; exact ⟨rfl, rfl⟩
theorem ra_o2_f {i : Nat} (h : ¬ ((i = 0 ∧ fr.testBit 1 = true) ∨ (i = la ∧ fr.testBit 3 = true))) : ra_o2 (ra_mk la lb LA LB SC op mo fr pt) i = op ∧ ra_m2 (ra_mk la lb LA LB SC op mo fr pt) i = mo := by
  unfold ra_o2 ra_m2; rw [if_neg (fun q => h (ra_f2_iff.1 q)), if_neg (fun q => h (ra_f2_iff.1 q))]; exact ⟨rfl, rfl⟩
end RAF
theorem ra_w_t1 (g : ra_G) (b i j : Nat) : ra_w g b i j 1 = ra_t1 b (ra_xo g i j) (ra_o1 g j) := by
  unfold ra_w ra_t1; rw [if_neg (by omega), if_pos rfl]
theorem ra_w_t2 (g : ra_G) (b i j : Nat) : ra_w g b i j 2 = ra_t2 b (ra_xt g i j) (ra_o2 g i) := by
  unfold ra_w ra_t2; rw [if_neg (by omega), if_neg (by omega)]
theorem ra_gw_r {g : ra_G} (h : ra_bd g) {b i j : Nat} (hi : i ≤ g.la) (hj : j ≤ g.lb) : ra_gw b (ra_xe g i j) (ra_xp g i j) (ra_xo g i j) (ra_xt g i j) (ra_o1 g j) (ra_o2 g i) = ra_r g b i j := by
  rw [ra_r_max h hi hj, ra_w_t1, ra_w_t2]; rfl
theorem ra_wt_w (g : ra_G) (b i j st : Nat) : ra_wt b st (ra_xp g i j) (ra_xo g i j) (ra_xt g i j) (ra_o1 g j) (ra_o2 g i) = ra_w g b i j st := by
  unfold ra_wt ra_w ra_t1 ra_t2; rfl
/-- the numbers that are looked at are small -/
def raX (x : Int) : Prop := -200000000 ≤ x ∧ x ≤ 200000000
theorem fa_1 : ∀ fr, fr < 16 → iI ((fr : Nat) : Int) &&& iI ((1 : Nat) : Int) = iI (1 * bI (fr.testBit 0 = true)) := by decide +kernel
theorem fa_2 : ∀ fr, fr < 16 → iI ((fr : Nat) : Int) &&& iI ((2 : Nat) : Int) = iI (2 * bI (fr.testBit 1 = true)) := by decide +kernel
theorem fa_4 : ∀ fr, fr < 16 → iI ((fr : Nat) : Int) &&& iI ((4 : Nat) : Int) = iI (4 * bI (fr.testBit 2 = true)) := by decide +kernel
theorem fa_8 : ∀ fr, fr < 16 → iI ((fr : Nat) : Int) &&& iI ((8 : Nat) : Int) = iI (8 * bI (fr.testBit 3 = true)) := by decide +kernel
section RBC
variable {p : Program} {l : Launch} {e : Env} {R : Room} {s : State} {m : MethodId} {args : Array Value} {below : List Frame} {meth : Method} {c : Code} {Q : State → Prop} {cc : ByteArray} {nL : Nat} {own : String} {D : va_G} {tys : List (ClassId × FieldType)} {A : Nat → Prop} {F : rT} {pc : Nat} {lv lv' : List (Nat × Value)} {st : List Value} {ws ws' : va_W} {k n : Nat}
theorem rbc_R (z : Int) (hz : 0 < z ∧ z < 1000) (P : Prop) [Decidable P] : iR (z * bI P) := by
  rcases bI_01 P with h | h <;> rw [h] <;> unfold iR <;> omega
theorem rbc_0 {z : Int} (hz : 0 < z ∧ z < 1000) {P : Prop} [Decidable P] : z * bI P = 0 ↔ ¬ P := by
  rw [← bI_0]
  rcases bI_01 P with h | h <;> rw [h] <;> omega
theorem rbc_if_ne (hX : rOK F p l e R s m args below meth c Q cc nL own D tys A) {z : Int} (hz : 0 < z ∧ z < 1000) {P : Prop} [Decidable P] {off : Int} (tgt : Nat) (hd : decode cc pc = .ok (.ifCond .ne off, 3)) (ht : (pc : Int) + off = (tgt : Int)) (kt : P → F tgt lv st ws k n) (kf : ¬ P → F (pc + 3) lv st ws k n) : F pc lv (.int (iI (z * bI P)) :: st) ws k n :=
  r_if_ne hX tgt hd ht (rbc_R z hz P) (fun h => kt (Classical.byContradiction fun q => h ((rbc_0 hz).2 q))) (fun h => kf ((rbc_0 hz).1 h))
theorem rbc_if_eq (hX : rOK F p l e R s m args below meth c Q cc nL own D tys A) {z : Int} (hz : 0 < z ∧ z < 1000) {P : Prop} [Decidable P] {off : Int} (tgt : Nat) (hd : decode cc pc = .ok (.ifCond .eq off, 3)) (ht : (pc : Int) + off = (tgt : Int)) (kt : ¬ P → F tgt lv st ws k n) (kf : P → F (pc + 3) lv st ws k n) : F pc lv (.int (iI (z * bI P)) :: st) ws k n :=
  r_if_eq hX tgt hd ht (rbc_R z hz P) (fun h => kt ((rbc_0 hz).1 h)) (fun h => kf (Classical.byContradiction fun q => h ((rbc_0 hz).2 q)))
theorem rbc_if_gt (hX : rOK F p l e R s m args below meth c Q cc nL own D tys A) {z : Int} (hz : 0 < z ∧ z < 1000) {P : Prop} [Decidable P] {off : Int} (tgt : Nat) (hd : decode cc pc = .ok (.ifCond .gt off, 3)) (ht : (pc : Int) + off = (tgt : Int)) (kt : P → F tgt lv st ws k n) (kf : ¬ P → F (pc + 3) lv st ws k n) : F pc lv (.int (iI (z * bI P)) :: st) ws k n :=
  r_if_gt hX tgt hd ht (rbc_R z hz P) (fun h => kt (Classical.byContradiction fun q => by have := (rbc_0 hz).2 q; omega)) (fun h => kf (fun q => by have := bI_t q; rw [this] at h; omega))
theorem rbc_if_le (hX : rOK F p l e R s m args below meth c Q cc nL own D tys A) {z : Int} (hz : 0 < z ∧ z < 1000) {P : Prop} [Decidable P] {off : Int} (tgt : Nat) (hd : decode cc pc = .ok (.ifCond .le off, 3)) (ht : (pc : Int) + off = (tgt : Int)) (kt : ¬ P → F tgt lv st ws k n) (kf : P → F (pc + 3) lv st ws k n) : F pc lv (.int (iI (z * bI P)) :: st) ws k n :=
  r_if_le hX tgt hd ht (rbc_R z hz P) (fun h => kt (fun q => by have := bI_t q; rw [this] at h; omega)) (fun h => kf (Classical.byContradiction fun q => h (by have := (rbc_0 hz).2 q; omega)))
end RBC
/-- the table holds what is worth from the places behind (i, j) -/
def ra_TB (g : ra_G) (T : Nat → Int) (i j : Nat) : Prop := (i < g.la → j < g.lb → T (((i + 1) * 3 + 0) * 97 + (j + 1)) = ra_r g 0 (i + 1) (j + 1)) ∧ (i < g.la → T (((i + 1) * 3 + 1) * 97 + j) = ra_r g 1 (i + 1) j) ∧ (j < g.lb → T ((i * 3 + 2) * 97 + (j + 1)) = ra_r g 2 i (j + 1))
section RAE
variable {la lb : Nat} {LA LB : Nat → Nat} {SC : Nat → Int} {op mo : Int} {fr : Nat} {pt : Bool}
theorem ra_xe_t {i j : Nat} (h : pt = true ∨ (i = la ∧ j = lb)) : ra_xe (ra_mk la lb LA LB SC op mo fr pt) i j = 0 := if_pos h
theorem ra_xe_f {i j : Nat} (h : ¬ pt = true) (h2 : ¬ (i = la ∧ j = lb)) : ra_xe (ra_mk la lb LA LB SC op mo fr pt) i j = -100000000 := if_neg (fun q => q.elim h h2)
end RAE
theorem ra_lk_X {g : ra_G} (h : ra_bd g) {i j : Nat} (hi : i ≤ g.la) (hj : j ≤ g.lb) : raX (ra_xe g i j) ∧ raX (ra_xp g i j) ∧ raX (ra_xo g i j) ∧ raX (ra_xt g i j) ∧ raX (ra_o1 g j) ∧ raX (ra_o2 g i) := by
  have m1 := ra_m1_bd h j
  have m2 := ra_m2_bd h i
  unfold raX
  refine ⟨?_, ?_, ?_, ?_, by omega, by omega⟩
  · unfold ra_xe; split <;> omega
  · unfold ra_xp; split
    · rename_i hc
      have a := ra_r_bd h (b := 0) (i := i + 1) (j := j + 1) (by omega) (by omega)
      have b := h.2.2.1 i j hc.1 hc.2
      omega
    · omega
  · unfold ra_xo; split
    · have a := ra_r_bd h (b := 1) (i := i + 1) (j := j) (by omega) hj
      omega
    · omega
  · unfold ra_xt; split
    · have a := ra_r_bd h (b := 2) (i := i) (j := j + 1) hi (by omega)
      omega
    · omega
/-- the table is done from (ii - 1, jj) on, row by row backwards -/
def ra_TD (g : ra_G) (T : Nat → Int) (ii jj : Nat) : Prop := ∀ b i j, b < 3 → i ≤ g.la → j ≤ g.lb → (ii ≤ i ∨ (i + 1 = ii ∧ jj ≤ j)) → T ((i * 3 + b) * 97 + j) = ra_r g b i j
theorem ra_TD_TB {g : ra_G} {T : Nat → Int} {i j : Nat} (h : ra_TD g T (i + 1) (j + 1)) (hi : i ≤ g.la) (hj : j ≤ g.lb) : ra_TB g T i j :=
  ⟨fun h1 h2 => h 0 (i + 1) (j + 1) (by omega) (by omega) (by omega) (Or.inl (by omega)), fun h1 => h 1 (i + 1) j (by omega) (by omega) hj (Or.inl (by omega)), fun h1 => h 2 i (j + 1) (by omega) hi (by omega) (Or.inr ⟨rfl, by omega⟩)⟩
theorem ra_TD_all {g : ra_G} {T : Nat → Int} (h : ra_TD g T 0 0) {i j : Nat} : i ≤ g.la → j ≤ g.lb → ra_TB g T i j := fun _ _ =>
  ⟨fun _ _ => h 0 (i + 1) (j + 1) (by omega) (by omega) (by omega) (Or.inl (by omega)), fun _ => h 1 (i + 1) j (by omega) (by omega) (by omega) (Or.inl (by omega)), fun _ => h 2 i (j + 1) (by omega) (by omega) (by omega) (Or.inl (by omega))⟩
theorem ra_TD_row {g : ra_G} {T : Nat → Int} {i : Nat} (h : ra_TD g T (i + 1) 0) : ra_TD g T i (g.lb + 1) := by
  intro b i' j hb hi hj hc
  refine h b i' j hb hi hj ?_
  omega
theorem ra_TD_step {g : ra_G} {T : Nat → Int} {i j : Nat} {v0 v1 v2 : Int} (h : ra_TD g T (i + 1) (j + 1)) (hlb : g.lb ≤ 96) (hj : j ≤ g.lb) (h0 : v0 = ra_r g 0 i j) (h1 : v1 = ra_r g 1 i j) (h2 : v2 = ra_r g 2 i j) :
    ra_TD g (iU (iU (iU T ((i * 3 + 0) * 97 + j) v0) ((i * 3 + 1) * 97 + j) v1) ((i * 3 + 2) * 97 + j) v2) (i + 1) j := by
  intro b i' j' hb hi' hj' hc
  by_cases e : i' = i ∧ j' = j
  · obtain ⟨rfl, rfl⟩ := e
    have cs : b = 0 ∨ b = 1 ∨ b = 2 := by omega
    rcases cs with rfl | rfl | rfl
    · rw [iU_n (by omega), iU_n (by omega), iU_s, h0]
    · rw [iU_n (by omega), iU_s, h1]
    · rw [iU_s, h2]
  · rw [iU_n (by omega), iU_n (by omega), iU_n (by omega)]
    exact h b i' j' hb hi' hj' (by omega)
/-- (p, q) is the first of the best places, row by row -/
def ra_FB (V : Nat → Nat → Int) (la lb p q : Nat) : Prop := p ≤ la ∧ q ≤ lb ∧ (∀ i j, i ≤ la → j ≤ lb → V i j ≤ V p q) ∧ (∀ i j, i ≤ la → j ≤ lb → (i < p ∨ (i = p ∧ j < q)) → V i j < V p q)
def ra_FI (V : Nat → Nat → Int) (la lb ii jj p q : Nat) : Prop := p ≤ la ∧ q ≤ lb ∧ (∀ i j, i ≤ la → j ≤ lb → (i < ii ∨ (i = ii ∧ j < jj)) → V i j ≤ V p q) ∧ (∀ i j, i ≤ la → j ≤ lb → (i < p ∨ (i = p ∧ j < q)) → V i j < V p q)
theorem ra_FB_one {V : Nat → Nat → Int} {la lb p q p' q' : Nat} (h : ra_FB V la lb p q) (h' : ra_FB V la lb p' q') : p = p' ∧ q = q' := by
  obtain ⟨a1, a2, a3, a4⟩ := h
  obtain ⟨b1, b2, b3, b4⟩ := h'
  have e := Int.le_antisymm (b3 p q a1 a2) (a3 p' q' b1 b2)
  refine Classical.byContradiction fun hc => ?_
  rcases Nat.lt_trichotomy p p' with h | h | h
  · have := b4 p q a1 a2 (Or.inl h); omega
  · subst h
    rcases Nat.lt_trichotomy q q' with h | h | h
    · have := b4 p q a1 a2 (Or.inr ⟨rfl, h⟩); omega
    · exact hc ⟨rfl, h⟩
    · have := a4 p q' b1 b2 (Or.inr ⟨rfl, h⟩); omega
  · have := a4 p' q' b1 b2 (Or.inl h); omega
theorem ra_FI_keep {V : Nat → Nat → Int} {la lb ii jj p q : Nat} (h : ra_FI V la lb ii jj p q) (hv : V ii jj ≤ V p q) : ra_FI V la lb ii (jj + 1) p q := by
  refine ⟨h.1, h.2.1, fun i j hi hj hc => ?_, h.2.2.2⟩
  by_cases e : i = ii ∧ j = jj
  · obtain ⟨rfl, rfl⟩ := e; exact hv
  · exact h.2.2.1 i j hi hj (by omega)
theorem ra_FI_set {V : Nat → Nat → Int} {la lb ii jj p q : Nat} (h : ra_FI V la lb ii jj p q) (hi : ii ≤ la) (hj : jj ≤ lb) (hv : V p q < V ii jj) : ra_FI V la lb ii (jj + 1) ii jj := by
  refine ⟨hi, hj, fun i j hi' hj' hc => ?_, fun i j hi' hj' hc => ?_⟩
  · by_cases e : i = ii ∧ j = jj
    · obtain ⟨rfl, rfl⟩ := e; exact Int.le_refl _
    · have := h.2.2.1 i j hi' hj' (by omega); omega
  · have := h.2.2.1 i j hi' hj' hc; omega
theorem ra_FI_row {V : Nat → Nat → Int} {la lb ii p q jj : Nat} (h : ra_FI V la lb ii jj p q) (hj : lb < jj) : ra_FI V la lb (ii + 1) 0 p q :=
  ⟨h.1, h.2.1, fun i j hi' hj' hc => h.2.2.1 i j hi' hj' (by omega), h.2.2.2⟩
theorem ra_FI_start {V : Nat → Nat → Int} {la lb : Nat} : ra_FI V la lb 0 0 0 0 :=
  ⟨by omega, by omega, fun i j _ _ hc => by omega, fun i j _ _ hc => by omega⟩
theorem ra_FI_end {V : Nat → Nat → Int} {la lb ii jj p q : Nat} (h : ra_FI V la lb ii jj p q) (hi : la < ii) : ra_FB V la lb p q :=
  ⟨h.1, h.2.1, fun i j hi' hj' => h.2.2.1 i j hi' hj' (Or.inl (by omega)), h.2.2.2⟩
theorem ra_T_bd {g : ra_G} (h : ra_bd g) {T : Nat → Int} (hT : ra_TD g T 0 0) {b i j : Nat} (hb : b < 3) (hi : i ≤ g.la) (hj : j ≤ g.lb) : -200000 ≤ T ((i * 3 + b) * 97 + j) ∧ T ((i * 3 + b) * 97 + j) ≤ 200000 := by
  rw [hT b i j hb hi hj (Or.inl (by omega))]
  exact ra_r_bd h hi hj
/-! layings -/
abbrev ra_bg (d : Nat → Nat) (k : Nat) : Prop := k = 0 ∨ ¬ d k = d (k - 1)
def ra_cr (d : Nat → Nat) : Nat → Nat
  | 0 => 0
  | k + 1 => ra_cr d k + (if ra_bg d k then 1 else 0)
def ra_cg (d : Nat → Nat) : Nat → Nat
  | 0 => 0
  | k + 1 => ra_cg d k + (if ¬ d k = 0 ∧ ra_bg d k then 1 else 0)
def ra_cl9 (d : Nat → Nat) : Nat → Nat
  | 0 => 0
  | k + 1 => ra_cl9 d k + (if ¬ d k = 0 then 1 else 0)
def ra_cp (LA LB d : Nat → Nat) (sa sb : Nat) : Nat → Nat
  | 0 => 0
  | k + 1 => ra_cp LA LB d sa sb k + (if d k = 0 ∧ LA (sa + ra_qi d k) = LB (sb + ra_qj d k) then 1 else 0)
theorem ra_cr_le (d : Nat → Nat) : ∀ k, ra_cr d k ≤ k := by
  intro k
  induction k with
  | zero => exact Nat.le_refl 0
  | succ k ih => show ra_cr d k + _ ≤ k + 1; split <;> omega
theorem ra_cg_le (d : Nat → Nat) : ∀ k, ra_cg d k ≤ k := by
  intro k
  induction k with
  | zero => exact Nat.le_refl 0
  | succ k ih => show ra_cg d k + _ ≤ k + 1; split <;> omega
theorem ra_cl9_le (d : Nat → Nat) : ∀ k, ra_cl9 d k ≤ k := by
  intro k
  induction k with
  | zero => exact Nat.le_refl 0
  | succ k ih => show ra_cl9 d k + _ ≤ k + 1; split <;> omega
theorem ra_cp_le (LA LB d : Nat → Nat) (sa sb : Nat) : ∀ k, ra_cp LA LB d sa sb k ≤ k := by
  intro k
  induction k with
  | zero => exact Nat.le_refl 0
  | succ k ih => show ra_cp LA LB d sa sb k + _ ≤ k + 1; split <;> omega
theorem ra_qi_congr {d d' : Nat → Nat} : ∀ k, (∀ t, t < k → d t = d' t) → ra_qi d k = ra_qi d' k := by
  intro k
  induction k with
  | zero => intro _; rfl
  | succ k ih => intro h; show ra_qi d k + ra_da (d k) = ra_qi d' k + ra_da (d' k); rw [ih (fun t ht => h t (by omega)), h k (by omega)]
theorem ra_qj_congr {d d' : Nat → Nat} : ∀ k, (∀ t, t < k → d t = d' t) → ra_qj d k = ra_qj d' k := by
  intro k
  induction k with
  | zero => intro _; rfl
  | succ k ih => intro h; show ra_qj d k + ra_db (d k) = ra_qj d' k + ra_db (d' k); rw [ih (fun t ht => h t (by omega)), h k (by omega)]
theorem ra_fb_st {g : ra_G} (h : ra_bd g) {b i j : Nat} (hi : i ≤ g.la) (hj : j ≤ g.lb) : ra_fb b (ra_xe g i j) (ra_xp g i j) (ra_xo g i j) (ra_xt g i j) (ra_o1 g j) (ra_o2 g i) = if ra_st g b i j = 3 then -1 else ((ra_st g b i j : Nat) : Int) := by
  unfold ra_fb
  rw [ra_gw_r h hi hj, ← ra_w_t1]
  unfold ra_st
  rw [ra_w_0]
  by_cases h1 : ra_xe g i j = ra_r g b i j
  · simp [h1]
  · by_cases h2 : ra_xp g i j = ra_r g b i j
    · simp [h1, h2]
    · by_cases h3 : ra_w g b i j 1 = ra_r g b i j
      · simp [h1, h2, h3]
      · simp [h1, h2, h3]
/-- the first k steps of the first best laying from (sa, sb) lie in d; it goes on from (i, j) -/
def ra_FL (g : ra_G) (sa sb k : Nat) (d : Nat → Nat) (bf i j : Nat) : Prop := bf < 3 ∧ i ≤ g.la ∧ j ≤ g.lb ∧ i = sa + ra_qi d k ∧ j = sb + ra_qj d k ∧ (ra_pth g 0 sa sb).drop k = ra_pth g bf i j ∧ ∀ t, t < k → (ra_pth g 0 sa sb)[t]? = some (d t)
theorem ra_FL_0 {g : ra_G} {sa sb : Nat} (d : Nat → Nat) (ha : sa ≤ g.la) (hb : sb ≤ g.lb) : ra_FL g sa sb 0 d 0 sa sb :=
  ⟨by omega, ha, hb, rfl, rfl, rfl, fun t ht => by omega⟩
theorem ra_FL_step {g : ra_G} (hb : ra_bd g) {sa sb k : Nat} {d : Nat → Nat} {bf i j : Nat} (h : ra_FL g sa sb k d bf i j) (hs : ra_st g bf i j ≠ 3) : ra_FL g sa sb (k + 1) (iU d k (ra_st g bf i j)) (ra_st g bf i j) (i + ra_da (ra_st g bf i j)) (j + ra_db (ra_st g bf i j)) := by
  obtain ⟨h1, h2, h3, h4, h5, h6, h7⟩ := h
  have q := ra_st_in hb h2 h3 hs
  have e := ra_pth_step hb h2 h3 hs
  have cd : ∀ t, t < k → d t = iU d k (ra_st g bf i j) t := fun t ht => (iU_n (by omega)).symm
  refine ⟨by omega, q.2.1, q.2.2.1, ?_, ?_, ?_, ?_⟩
  · show _ = sa + (ra_qi (iU d k (ra_st g bf i j)) k + ra_da (iU d k (ra_st g bf i j) k))
    rw [← ra_qi_congr k cd, iU_s]; omega
  · show _ = sb + (ra_qj (iU d k (ra_st g bf i j)) k + ra_db (iU d k (ra_st g bf i j) k))
    rw [← ra_qj_congr k cd, iU_s]; omega
  · rw [← List.drop_drop, h6, e]; rfl
  · intro t ht
    by_cases et : t = k
    · subst et
      rw [iU_s]
      have z : ((ra_pth g 0 sa sb).drop t)[0]? = some (ra_st g bf i j) := by rw [h6, e]; rfl
      rw [List.getElem?_drop] at z
      exact z
    · rw [iU_n et]; exact h7 t (by omega)
theorem ra_FL_len {g : ra_G} {sa sb k : Nat} {d : Nat → Nat} {bf i j : Nat} (h : ra_FL g sa sb k d bf i j) (he : ra_pth g bf i j = []) : (ra_pth g 0 sa sb).length = k := by
  obtain ⟨h1, h2, h3, h4, h5, h6, h7⟩ := h
  rw [he] at h6
  have a := List.drop_eq_nil_iff.mp h6
  refine Nat.le_antisymm a ?_
  cases k with
  | zero => exact Nat.zero_le _
  | succ k =>
    have z := h7 k (by omega)
    have := (List.getElem?_eq_some_iff.mp z).1
    omega
theorem ra_FL_stop {g : ra_G} (hb : ra_bd g) {sa sb k : Nat} {d : Nat → Nat} {bf i j : Nat} (h : ra_FL g sa sb k d bf i j) (hs : ra_st g bf i j = 3) : (ra_pth g 0 sa sb).length = k :=
  ra_FL_len h (ra_pth_stop hb h.2.1 h.2.2.1 hs)
theorem ra_FL_full {g : ra_G} (hb : ra_bd g) {sa sb k : Nat} {d : Nat → Nat} {bf i j : Nat} (h : ra_FL g sa sb k d bf i j) (ha : sa ≤ g.la) (hsb : sb ≤ g.lb) (hk : 192 ≤ k) : (ra_pth g 0 sa sb).length = k := by
  have h' := h
  obtain ⟨h1, h2, h3, h4, h5, h6, h7⟩ := h
  have a := (ra_pth_len hb _ 0 sa sb ha hsb (Nat.le_refl _)).1
  have b1 := hb.1
  have b2 := hb.2.1
  refine ra_FL_len h' ?_
  rw [← h6]
  exact List.drop_eq_nil_iff.mpr (by omega)
theorem ra_cp_t {LA LB d : Nat → Nat} {sa sb k : Nat} (h1 : d k = 0) (h2 : LA (sa + ra_qi d k) = LB (sb + ra_qj d k)) : ra_cp LA LB d sa sb (k + 1) = ra_cp LA LB d sa sb k + 1 := by
  show ra_cp LA LB d sa sb k + _ = _; rw [if_pos ⟨h1, h2⟩]
theorem ra_cp_f {LA LB d : Nat → Nat} {sa sb k : Nat} (h : ¬ (d k = 0 ∧ LA (sa + ra_qi d k) = LB (sb + ra_qj d k))) : ra_cp LA LB d sa sb (k + 1) = ra_cp LA LB d sa sb k := by
  show ra_cp LA LB d sa sb k + _ = _; rw [if_neg h]; rfl
theorem ra_cr_t {d : Nat → Nat} {k : Nat} (h : ra_bg d k) : ra_cr d (k + 1) = ra_cr d k + 1 := by
  show ra_cr d k + _ = _; rw [if_pos h]
theorem ra_cr_f {d : Nat → Nat} {k : Nat} (h : ¬ ra_bg d k) : ra_cr d (k + 1) = ra_cr d k := by
  show ra_cr d k + _ = _; rw [if_neg h]; rfl
theorem i_and1 {i : Nat} (h : i < 2147483648) : iI ((i : Nat) : Int) &&& iI ((1 : Nat) : Int) = iI ((i % 2 : Nat) : Int) := by
  rw [← iI_nI, ← iI_nI, ← iI_nI]
  exact pk_andN (by omega) (m := nI 1) 1 (by decide)
theorem i_div {a d : Nat} (ha : a < 2147483648) (h0 : 0 < d) (hd : d < 2147483648) : iI ((a : Nat) : Int) / iI ((d : Nat) : Int) = iI ((a / d : Nat) : Int) := by
  rw [← iI_nI, ← iI_nI, ← iI_nI]
  exact pk_div (by omega) h0 (by omega)
theorem i_rem {a d : Nat} (ha : a < 2147483648) (h0 : 0 < d) (hd : d < 2147483648) : iI ((a : Nat) : Int) - iI ((a : Nat) : Int) / iI ((d : Nat) : Int) * iI ((d : Nat) : Int) = iI ((a % d : Nat) : Int) := by
  rw [← iI_nI, ← iI_nI, ← iI_nI]
  exact pk_rem (by omega) h0 (by omega)
/-- a row turned, so far -/
def ra_rv (f : Nat → Nat) (len low : Nat) : Nat → Nat := fun k => if k < low ∨ (len - low ≤ k ∧ k < len) then f (len - 1 - k) else f k
theorem ra_rv_0 (f : Nat → Nat) (len : Nat) : ra_rv f len 0 = f := by
  funext k; unfold ra_rv; rw [if_neg (by omega)]
theorem ra_rv_step (f : Nat → Nat) {len low : Nat} (h : low < len / 2) : iU (iU (ra_rv f len low) low (ra_rv f len low (len - 1 - low))) (len - 1 - low) (ra_rv f len low low) = ra_rv f len (low + 1) := by
  have e1 : ra_rv f len low (len - 1 - low) = f (len - 1 - low) := by unfold ra_rv; rw [if_neg (by omega)]
  have e2 : ra_rv f len low low = f low := by unfold ra_rv; rw [if_neg (by omega)]
  rw [e1, e2]
  funext k
  by_cases h1 : k = len - 1 - low
  · subst h1; rw [iU_s]; unfold ra_rv; rw [if_pos (by omega)]; congr 1; omega
  · rw [iU_n h1]
    by_cases h2 : k = low
    · subst h2; rw [iU_s]; unfold ra_rv; rw [if_pos (by omega)]
    · rw [iU_n h2]
      unfold ra_rv
      by_cases h3 : k < low ∨ (len - low ≤ k ∧ k < len)
      · rw [if_pos h3, if_pos (by omega)]
      · rw [if_neg h3, if_neg (by omega)]
/-- all pairs' scores, so far -/
def ra_sq (SC : Nat → Int) (same others : Int) (m : Nat) : Nat → Int := fun k => if k < m then (if k / 26 = k % 26 then same else others) else SC k
theorem ra_sq_0 (SC : Nat → Int) (same others : Int) : ra_sq SC same others 0 = SC := by
  funext k; unfold ra_sq; rw [if_neg (by omega)]
theorem ra_sq_step (SC : Nat → Int) (same others : Int) (m : Nat) {v : Int} (hv : v = if m / 26 = m % 26 then same else others) : iU (ra_sq SC same others m) m v = ra_sq SC same others (m + 1) := by
  funext k
  by_cases h : k = m
  · subst h; rw [iU_s]; unfold ra_sq; rw [if_pos (by omega), hv]
  · rw [iU_n h]; unfold ra_sq
    by_cases h2 : k < m
    · rw [if_pos h2, if_pos (show k < m + 1 by omega)]
    · rw [if_neg h2, if_neg (show ¬ k < m + 1 by omega)]
theorem ra_bf_s (d : Nat → Nat) (k : Nat) : ra_bf d (k + 1) = d k := rfl
theorem ra_da_le (s : Nat) : ra_da s ≤ 1 := by unfold ra_da; split <;> omega
theorem ra_db_le (s : Nat) : ra_db s ≤ 1 := by unfold ra_db; split <;> omega
theorem ra_qi_le (d : Nat → Nat) : ∀ k, ra_qi d k ≤ k := by
  intro k
  induction k with
  | zero => exact Nat.le_refl 0
  | succ k ih => have := ra_da_le (d k); show ra_qi d k + ra_da (d k) ≤ _; omega
theorem ra_qj_le (d : Nat → Nat) : ∀ k, ra_qj d k ≤ k := by
  intro k
  induction k with
  | zero => exact Nat.le_refl 0
  | succ k ih => have := ra_db_le (d k); show ra_qj d k + ra_db (d k) ≤ _; omega
section RACS
variable {la lb : Nat} {LA LB : Nat → Nat} {SC : Nat → Int} {op mo : Int} {fr : Nat} {pt : Bool} {d : Nat → Nat} {k : Nat}
theorem ra_cs_0 (h : d k = 0) : ra_cs (ra_mk la lb LA LB SC op mo fr pt) d (k + 1) = ra_cs (ra_mk la lb LA LB SC op mo fr pt) d k + SC (LA (ra_qi d k) * 26 + LB (ra_qj d k)) := by
  show ra_cs _ d k + ra_tm _ d k = _; unfold ra_tm; rw [if_pos h]
theorem ra_cs_1f (h : d k = 1) (hf : (ra_qj d k = 0 ∧ fr.testBit 0 = true) ∨ (ra_qj d k = lb ∧ fr.testBit 2 = true)) : ra_cs (ra_mk la lb LA LB SC op mo fr pt) d (k + 1) = ra_cs (ra_mk la lb LA LB SC op mo fr pt) d k := by
  show ra_cs _ d k + ra_tm _ d k = _; unfold ra_tm; rw [if_neg (by omega), if_pos h, if_pos (ra_f1_iff.2 hf)]; omega
theorem ra_cs_1p (h : d k = 1) (hf : ¬ ((ra_qj d k = 0 ∧ fr.testBit 0 = true) ∨ (ra_qj d k = lb ∧ fr.testBit 2 = true))) : ra_cs (ra_mk la lb LA LB SC op mo fr pt) d (k + 1) = ra_cs (ra_mk la lb LA LB SC op mo fr pt) d k - (mo + (if d k = ra_bf d k then 0 else op)) := by
  show ra_cs _ d k + ra_tm _ d k = _; unfold ra_tm; rw [if_neg (by omega), if_pos h, if_neg (fun q => hf (ra_f1_iff.1 q))]; show _ + -(mo + if d k = ra_bf d k then 0 else op) = _; omega
theorem ra_cs_2f (h : d k ≠ 0) (h1 : d k ≠ 1) (hf : (ra_qi d k = 0 ∧ fr.testBit 1 = true) ∨ (ra_qi d k = la ∧ fr.testBit 3 = true)) : ra_cs (ra_mk la lb LA LB SC op mo fr pt) d (k + 1) = ra_cs (ra_mk la lb LA LB SC op mo fr pt) d k := by
  show ra_cs _ d k + ra_tm _ d k = _; unfold ra_tm; rw [if_neg h, if_neg h1, if_pos (ra_f2_iff.2 hf)]; omega
theorem ra_cs_2p (h : d k ≠ 0) (h1 : d k ≠ 1) (hf : ¬ ((ra_qi d k = 0 ∧ fr.testBit 1 = true) ∨ (ra_qi d k = la ∧ fr.testBit 3 = true))) : ra_cs (ra_mk la lb LA LB SC op mo fr pt) d (k + 1) = ra_cs (ra_mk la lb LA LB SC op mo fr pt) d k - (mo + (if d k = ra_bf d k then 0 else op)) := by
  show ra_cs _ d k + ra_tm _ d k = _; unfold ra_tm; rw [if_neg h, if_neg h1, if_neg (fun q => hf (ra_f2_iff.1 q))]; show _ + -(mo + if d k = ra_bf d k then 0 else op) = _; omega
end RACS
