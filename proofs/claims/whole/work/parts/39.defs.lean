/-! The class's words for its state. -/
def ra_t1 (bb : Nat) (o oo : Int) : Int := if bb = 1 then o else o - oo
def ra_t2 (bb : Nat) (t ot : Int) : Int := if bb = 2 then t else t - ot
def ra_gw (bb : Nat) (e p o t oo ot : Int) : Int := max (max (max e p) (ra_t1 bb o oo)) (ra_t2 bb t ot)
def ra_wt (bb st : Nat) (p o t oo ot : Int) : Int := if st = 0 then p else if st = 1 then ra_t1 bb o oo else ra_t2 bb t ot
def ra_fb (bb : Nat) (e p o t oo ot : Int) : Int := if e = ra_gw bb e p o t oo ot then -1 else if p = ra_gw bb e p o t oo ot then 0 else if ra_t1 bb o oo = ra_gw bb e p o t oo ot then 1 else 2
abbrev ra_mk (la lb : Nat) (LA LB : Nat → Nat) (SC : Nat → Int) (op mo : Int) (fr : Nat) (pt : Bool) : ra_G := (la, lb, fun i j => SC (LA i * 26 + LB j), op, mo, fr, pt)
def raH (la lb : Nat) (LA LB : Nat → Nat) (SC : Nat → Int) (op mo : Int) (fr : Nat) : Prop := la ≤ 96 ∧ lb ≤ 96 ∧ (∀ k, LA k < 26) ∧ (∀ k, LB k < 26) ∧ (∀ k, -512 ≤ SC k ∧ SC k ≤ 512) ∧ 0 ≤ op ∧ op ≤ 512 ∧ 0 ≤ mo ∧ mo ≤ 512 ∧ fr < 16
theorem raH.bd {la lb : Nat} {LA LB : Nat → Nat} {SC : Nat → Int} {op mo : Int} {fr : Nat} (h : raH la lb LA LB SC op mo fr) (pt : Bool) : ra_bd (ra_mk la lb LA LB SC op mo fr pt) := by
  obtain ⟨h1, h2, h3, h4, h5, h6, h7, h8, h9, h10⟩ := h
  exact ⟨h1, h2, fun i j _ _ => h5 _, h6, h7, h8, h9, h10⟩
section RAF
variable {la lb : Nat} {LA LB : Nat → Nat} {SC : Nat → Int} {op mo : Int} {fr : Nat} {pt : Bool}
theorem ra_f1_iff {j : Nat} : ra_f1 (ra_mk la lb LA LB SC op mo fr pt) j = true ↔ (j = 0 ∧ fr.testBit 0 = true) ∨ (j = lb ∧ fr.testBit 2 = true) := by
  unfold ra_f1; simp
theorem ra_f2_iff {i : Nat} : ra_f2 (ra_mk la lb LA LB SC op mo fr pt) i = true ↔ (i = 0 ∧ fr.testBit 1 = true) ∨ (i = la ∧ fr.testBit 3 = true) := by
  unfold ra_f2; simp
theorem ra_o1_t {j : Nat} (h : (j = 0 ∧ fr.testBit 0 = true) ∨ (j = lb ∧ fr.testBit 2 = true)) : ra_o1 (ra_mk la lb LA LB SC op mo fr pt) j = 0 ∧ ra_m1 (ra_mk la lb LA LB SC op mo fr pt) j = 0 := by
  unfold ra_o1 ra_m1; rw [if_pos (ra_f1_iff.2 h), if_pos (ra_f1_iff.2 h)]; exact ⟨rfl, rfl⟩
theorem ra_o1_f {j : Nat} (h : ¬ ((j = 0 ∧ fr.testBit 0 = true) ∨ (j = lb ∧ fr.testBit 2 = true))) : ra_o1 (ra_mk la lb LA LB SC op mo fr pt) j = op ∧ ra_m1 (ra_mk la lb LA LB SC op mo fr pt) j = mo := by
  unfold ra_o1 ra_m1; rw [if_neg (fun q => h (ra_f1_iff.1 q)), if_neg (fun q => h (ra_f1_iff.1 q))]; exact ⟨rfl, rfl⟩
theorem ra_o2_t {i : Nat} (h : (i = 0 ∧ fr.testBit 1 = true) ∨ (i = la ∧ fr.testBit 3 = true)) : ra_o2 (ra_mk la lb LA LB SC op mo fr pt) i = 0 ∧ ra_m2 (ra_mk la lb LA LB SC op mo fr pt) i = 0 := by
  unfold ra_o2 ra_m2; rw [if_pos (ra_f2_iff.2 h), if_pos (ra_f2_iff.2 h)]; exact ⟨rfl, rfl⟩
theorem ra_o2_f {i : Nat} (h : ¬ ((i = 0 ∧ fr.testBit 1 = true) ∨ (i = la ∧ fr.testBit 3 = true))) : ra_o2 (ra_mk la lb LA LB SC op mo fr pt) i = op ∧ ra_m2 (ra_mk la lb LA LB SC op mo fr pt) i = mo := by
  unfold ra_o2 ra_m2; rw [if_neg (fun q => h (ra_f2_iff.1 q)), if_neg (fun q => h (ra_f2_iff.1 q))]; exact ⟨rfl, rfl⟩
end RAF
theorem ra_w_t1 (g : ra_G) (b i j : Nat) : ra_w g b i j 1 = ra_t1 b (ra_xo g i j) (ra_o1 g j) := by
  unfold ra_w ra_t1; rw [if_neg (by omega), if_pos rfl]
theorem ra_w_t2 (g : ra_G) (b i j : Nat) : ra_w g b i j 2 = ra_t2 b (ra_xt g i j) (ra_o2 g i) := by
  unfold ra_w ra_t2; rw [if_neg (by omega), if_neg (by omega)]
theorem ra_gw_r {g : ra_G} (h : ra_bd g) {b i j : Nat} (hi : i ≤ g.la) (hj : j ≤ g.lb) : ra_gw b (ra_xe g i j) (ra_xp g i j) (ra_xo g i j) (ra_xt g i j) (ra_o1 g j) (ra_o2 g i) = ra_r g b i j := by
  rw [ra_r_max h hi hj, ra_w_t1, ra_w_t2]; rfl
theorem ra_wt_w (g : ra_G) (b i j st : Nat) : ra_wt b st (ra_xp g i j) (ra_xo g i j) (ra_xt g i j) (ra_o1 g j) (ra_o2 g i) = ra_w g b i j st := by
  unfold ra_wt ra_w ra_t1 ra_t2; rfl
/-- the numbers that are looked at are small -/
def raX (x : Int) : Prop := -200000000 ≤ x ∧ x ≤ 200000000
theorem fa_1 : ∀ fr, fr < 16 → iI ((fr : Nat) : Int) &&& iI ((1 : Nat) : Int) = iI (1 * bI (fr.testBit 0 = true)) := by decide +kernel
theorem fa_2 : ∀ fr, fr < 16 → iI ((fr : Nat) : Int) &&& iI ((2 : Nat) : Int) = iI (2 * bI (fr.testBit 1 = true)) := by decide +kernel
theorem fa_4 : ∀ fr, fr < 16 → iI ((fr : Nat) : Int) &&& iI ((4 : Nat) : Int) = iI (4 * bI (fr.testBit 2 = true)) := by decide +kernel
theorem fa_8 : ∀ fr, fr < 16 → iI ((fr : Nat) : Int) &&& iI ((8 : Nat) : Int) = iI (8 * bI (fr.testBit 3 = true)) := by decide +kernel
section RBC
variable {p : Program} {l : Launch} {e : Env} {R : Room} {s : State} {m : MethodId} {args : Array Value} {below : List Frame} {meth : Method} {c : Code} {Q : State → Prop} {cc : ByteArray} {nL : Nat} {own : String} {D : va_G} {tys : List (ClassId × FieldType)} {A : Nat → Prop} {F : rT} {pc : Nat} {lv lv' : List (Nat × Value)} {st : List Value} {ws ws' : va_W} {k n : Nat}
theorem rbc_R (z : Int) (hz : 0 < z ∧ z < 1000) (P : Prop) [Decidable P] : iR (z * bI P) := by
  rcases bI_01 P with h | h <;> rw [h] <;> unfold iR <;> omega
theorem rbc_0 {z : Int} (hz : 0 < z ∧ z < 1000) {P : Prop} [Decidable P] : z * bI P = 0 ↔ ¬ P := by
  rw [← bI_0]
  rcases bI_01 P with h | h <;> rw [h] <;> omega
theorem rbc_if_ne (hX : rOK F p l e R s m args below meth c Q cc nL own D tys A) {z : Int} (hz : 0 < z ∧ z < 1000) {P : Prop} [Decidable P] {off : Int} (tgt : Nat) (hd : decode cc pc = .ok (.ifCond .ne off, 3)) (ht : (pc : Int) + off = (tgt : Int)) (kt : P → F tgt lv st ws k n) (kf : ¬ P → F (pc + 3) lv st ws k n) : F pc lv (.int (iI (z * bI P)) :: st) ws k n :=
  r_if_ne hX tgt hd ht (rbc_R z hz P) (fun h => kt (Classical.byContradiction fun q => h ((rbc_0 hz).2 q))) (fun h => kf ((rbc_0 hz).1 h))
theorem rbc_if_eq (hX : rOK F p l e R s m args below meth c Q cc nL own D tys A) {z : Int} (hz : 0 < z ∧ z < 1000) {P : Prop} [Decidable P] {off : Int} (tgt : Nat) (hd : decode cc pc = .ok (.ifCond .eq off, 3)) (ht : (pc : Int) + off = (tgt : Int)) (kt : ¬ P → F tgt lv st ws k n) (kf : P → F (pc + 3) lv st ws k n) : F pc lv (.int (iI (z * bI P)) :: st) ws k n :=
  r_if_eq hX tgt hd ht (rbc_R z hz P) (fun h => kt ((rbc_0 hz).1 h)) (fun h => kf (Classical.byContradiction fun q => h ((rbc_0 hz).2 q)))
theorem rbc_if_gt (hX : rOK F p l e R s m args below meth c Q cc nL own D tys A) {z : Int} (hz : 0 < z ∧ z < 1000) {P : Prop} [Decidable P] {off : Int} (tgt : Nat) (hd : decode cc pc = .ok (.ifCond .gt off, 3)) (ht : (pc : Int) + off = (tgt : Int)) (kt : P → F tgt lv st ws k n) (kf : ¬ P → F (pc + 3) lv st ws k n) : F pc lv (.int (iI (z * bI P)) :: st) ws k n :=
  r_if_gt hX tgt hd ht (rbc_R z hz P) (fun h => kt (Classical.byContradiction fun q => by have := (rbc_0 hz).2 q; omega)) (fun h => kf (fun q => by have := bI_t q; rw [this] at h; omega))
theorem rbc_if_le (hX : rOK F p l e R s m args below meth c Q cc nL own D tys A) {z : Int} (hz : 0 < z ∧ z < 1000) {P : Prop} [Decidable P] {off : Int} (tgt : Nat) (hd : decode cc pc = .ok (.ifCond .le off, 3)) (ht : (pc : Int) + off = (tgt : Int)) (kt : ¬ P → F tgt lv st ws k n) (kf : P → F (pc + 3) lv st ws k n) : F pc lv (.int (iI (z * bI P)) :: st) ws k n :=
  r_if_le hX tgt hd ht (rbc_R z hz P) (fun h => kt (fun q => by have := bI_t q; rw [this] at h; omega)) (fun h => kf (Classical.byContradiction fun q => h (by have := (rbc_0 hz).2 q; omega)))
end RBC
