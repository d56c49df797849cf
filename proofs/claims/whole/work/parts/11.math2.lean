/-! Mathematics, second part: the table that goes run by run, and how the two hang together. -/
def ra_su (x : ra_V) : Nat → (Nat → ra_V) → ra_V
  | 0, _ => x
  | k + 1, f => ra_or (ra_su x k f) (f (k + 1))
theorem ra_su_or (x : ra_V) (k : Nat) (f : Nat → ra_V) : ra_su x k f = ra_or x (ra_su none k f) := by
  induction k with
  | zero => rw [ra_su, ra_su, ra_or_none]
  | succ k ih => rw [ra_su, ra_su, ih, ra_or_assoc]
theorem ra_su_head (k : Nat) (f : Nat → ra_V) : ra_su none (k + 1) f = ra_or (f 1) (ra_su none k (fun n => f (n + 1))) := by
  induction k with
  | zero => simp only [ra_su]; rw [ra_none_or, ra_or_none]
  | succ k ih => rw [ra_su, ih, ra_su, ra_or_assoc]
theorem ra_su_sc (w : Int) (k : Nat) (f : Nat → ra_V) : ra_sc w (ra_su none k f) = ra_su none k (fun n => ra_sc w (f n)) := by
  induction k with
  | zero => rfl
  | succ k ih => rw [ra_su, ra_su, ra_sc_or, ih]
theorem ra_su_congr {x : ra_V} {k : Nat} {f f' : Nat → ra_V} (h : ∀ n, 1 ≤ n → n ≤ k → f n = f' n) : ra_su x k f = ra_su x k f' := by
  induction k with
  | zero => rfl
  | succ k ih => rw [ra_su, ra_su, ih (fun n h1 h2 => h n h1 (by omega)), h (k + 1) (by omega) (by omega)]
theorem ra_su_ok {B : Int} {x : ra_V} {k : Nat} {f : Nat → ra_V} (hx : ra_ok B x) (h : ∀ n, 1 ≤ n → n ≤ k → ra_ok B (f n)) : ra_ok B (ra_su x k f) := by
  induction k with
  | zero => exact hx
  | succ k ih => exact ra_ok_or (ih (fun n h1 h2 => h n h1 (by omega))) (h (k + 1) (by omega) (by omega))
/-- what a whole gap of n letters costs: from (i, j), letters of A or of B -/
def ra_g1 (g : ra_G) (i j n : Nat) : Int := if ((i = 0 ∧ j = 0) ∧ g.fr.testBit 0 = true) ∨ ((i + n = g.la ∧ j = g.lb) ∧ g.fr.testBit 2 = true) then 0 else g.op + g.mo * n
def ra_g2 (g : ra_G) (i j n : Nat) : Int := if ((i = 0 ∧ j = 0) ∧ g.fr.testBit 1 = true) ∨ ((i = g.la ∧ j + n = g.lb) ∧ g.fr.testBit 3 = true) then 0 else g.op + g.mo * n
/-- the rest of a laying from (i, j), the run b just ended: run by run -/
def ra_mf (g : ra_G) : Nat → Nat → Nat → Nat → ra_V
  | 0, _, _, _ => none
  | n + 1, b, i, j => ra_su (ra_su (ra_or (ra_end g i j)
      (if i < g.la ∧ j < g.lb then ra_sc (g.sc i j) (ra_mf g n 0 (i + 1) (j + 1)) else none))
      (if b = 1 then 0 else g.la - i) (fun t => ra_sc (-(ra_g1 g i j t)) (ra_mf g n 1 (i + t) j)))
      (if b = 2 then 0 else g.lb - j) (fun t => ra_sc (-(ra_g2 g i j t)) (ra_mf g n 2 i (j + t)))
def ra_m (g : ra_G) (b i j : Nat) : ra_V := ra_mf g ((g.la - i) + (g.lb - j) + 1) b i j
theorem ra_mf_fuel (g : ra_G) : ∀ (n m b i j : Nat), (g.la - i) + (g.lb - j) < n → (g.la - i) + (g.lb - j) < m → ra_mf g n b i j = ra_mf g m b i j := by
  intro n
  induction n with
  | zero => intro m b i j h; omega
  | succ n ih =>
    intro m b i j h1 h2
    cases m with
    | zero => omega
    | succ m =>
      simp only [ra_mf]
      have a1 : (if i < g.la ∧ j < g.lb then ra_sc (g.sc i j) (ra_mf g n 0 (i + 1) (j + 1)) else none) = (if i < g.la ∧ j < g.lb then ra_sc (g.sc i j) (ra_mf g m 0 (i + 1) (j + 1)) else none) := by
        split
        · rw [ih m 0 (i + 1) (j + 1) (by omega) (by omega)]
        · rfl
      rw [a1]
      rw [ra_su_congr (f := fun t => ra_sc (-(ra_g1 g i j t)) (ra_mf g n 1 (i + t) j)) (f' := fun t => ra_sc (-(ra_g1 g i j t)) (ra_mf g m 1 (i + t) j)) (fun t h3 h4 => by
        split at h4
        · omega
        · rw [ih m 1 (i + t) j (by omega) (by omega)])]
      exact ra_su_congr (fun t h3 h4 => by
        split at h4
        · omega
        · rw [ih m 2 i (j + t) (by omega) (by omega)])
def ra_p1 (g : ra_G) (i j : Nat) : ra_V := if i < g.la ∧ j < g.lb then ra_sc (g.sc i j) (ra_m g 0 (i + 1) (j + 1)) else none
theorem ra_m_eq (g : ra_G) (b i j : Nat) : ra_m g b i j = ra_su (ra_su (ra_or (ra_end g i j) (ra_p1 g i j))
      (if b = 1 then 0 else g.la - i) (fun t => ra_sc (-(ra_g1 g i j t)) (ra_m g 1 (i + t) j)))
      (if b = 2 then 0 else g.lb - j) (fun t => ra_sc (-(ra_g2 g i j t)) (ra_m g 2 i (j + t))) := by
  show ra_mf g ((g.la - i) + (g.lb - j) + 1) b i j = _
  simp only [ra_mf]
  have a1 : (if i < g.la ∧ j < g.lb then ra_sc (g.sc i j) (ra_mf g ((g.la - i) + (g.lb - j)) 0 (i + 1) (j + 1)) else none) = ra_p1 g i j := by
    unfold ra_p1 ra_m
    split
    · rw [ra_mf_fuel g _ ((g.la - (i + 1)) + (g.lb - (j + 1)) + 1) 0 (i + 1) (j + 1) (by omega) (by omega)]
    · rfl
  rw [a1]
  rw [ra_su_congr (f := fun t => ra_sc (-(ra_g1 g i j t)) (ra_mf g ((g.la - i) + (g.lb - j)) 1 (i + t) j)) (f' := fun t => ra_sc (-(ra_g1 g i j t)) (ra_m g 1 (i + t) j)) (fun t h3 h4 => by
    split at h4
    · omega
    · unfold ra_m; rw [ra_mf_fuel g _ ((g.la - (i + t)) + (g.lb - j) + 1) 1 (i + t) j (by omega) (by omega)])]
  exact ra_su_congr (fun t h3 h4 => by
    split at h4
    · omega
    · unfold ra_m; rw [ra_mf_fuel g _ ((g.la - i) + (g.lb - (j + t)) + 1) 2 i (j + t) (by omega) (by omega)])
/-- where the walks come: a place, and the step before it -/
def ra_re (g : ra_G) (b i j : Nat) : Prop := g.fr = 0 ∨ (b = 0 ∧ ((i = 0 ∧ j = 0) ∨ (0 < i ∧ 0 < j))) ∨ (b = 1 ∧ 0 < i) ∨ (b = 2 ∧ 0 < j)
/-- whole layings: behind the last letter of B no run of A may end before A does -/
theorem ra_m1_dead {g : ra_G} (hp : g.pt = false) {i : Nat} (hi : i < g.la) : ra_m g 1 i g.lb = none := by
  rw [ra_m_eq]
  unfold ra_end ra_p1
  rw [if_neg (by rw [hp]; simp; omega), if_neg (by omega), if_pos rfl, ra_or_none]
  simp [ra_su]
theorem ra_m2_dead {g : ra_G} (hp : g.pt = false) {j : Nat} (hj : j < g.lb) : ra_m g 2 g.la j = none := by
  rw [ra_m_eq]
  unfold ra_end ra_p1
  rw [if_neg (by rw [hp]; simp; omega), if_neg (by omega), if_pos rfl, ra_or_none]
  simp [ra_su]
/-- free ends are asked for whole layings alone -/
def ra_wf (g : ra_G) : Prop := g.pt = true → g.fr = 0
theorem ra_tb0 (k : Nat) : (0 : Nat).testBit k = false := Nat.zero_testBit k
theorem ra_gap1 {g : ra_G} (hw : ra_wf g) {b i j n : Nat} (hb : b ≠ 1) (hr : ra_re g b i j) (hn : 1 ≤ n) (hi : i + n ≤ g.la) :
    ra_sc (-(ra_g1 g i j n)) (ra_m g 1 (i + n) j) = ra_sc (-(ra_o1 g j + ra_m1 g j * n)) (ra_m g 1 (i + n) j) := by
  by_cases hf : g.fr = 0
  · unfold ra_g1 ra_o1 ra_m1 ra_f1
    rw [hf]; simp [ra_tb0]
  · have hp : g.pt = false := by
      cases hq : g.pt with
      | false => rfl
      | true => exact absurd (hw hq) hf
    by_cases hl : j = g.lb ∧ i + n < g.la
    · rw [hl.1, ra_m1_dead hp hl.2]; rfl
    · congr 1
      have h0 : (i = 0 ∧ j = 0) ↔ j = 0 := by
        unfold ra_re at hr; omega
      have h1 : (i + n = g.la ∧ j = g.lb) ↔ j = g.lb := by omega
      unfold ra_g1 ra_o1 ra_m1 ra_f1
      simp only [h0, h1]
      by_cases c : (j = 0 ∧ g.fr.testBit 0 = true) ∨ (j = g.lb ∧ g.fr.testBit 2 = true)
      · have c' : ((j == 0 && g.fr.testBit 0) || (j == g.lb && g.fr.testBit 2)) = true := by simpa using c
        rw [if_pos c, if_pos c', if_pos c']; omega
      · have c' : ¬ ((j == 0 && g.fr.testBit 0) || (j == g.lb && g.fr.testBit 2)) = true := by simpa using c
        rw [if_neg c, if_neg c', if_neg c']
theorem ra_gap2 {g : ra_G} (hw : ra_wf g) {b i j n : Nat} (hb : b ≠ 2) (hr : ra_re g b i j) (hn : 1 ≤ n) (hj : j + n ≤ g.lb) :
    ra_sc (-(ra_g2 g i j n)) (ra_m g 2 i (j + n)) = ra_sc (-(ra_o2 g i + ra_m2 g i * n)) (ra_m g 2 i (j + n)) := by
  by_cases hf : g.fr = 0
  · unfold ra_g2 ra_o2 ra_m2 ra_f2
    rw [hf]; simp [ra_tb0]
  · have hp : g.pt = false := by
      cases hq : g.pt with
      | false => rfl
      | true => exact absurd (hw hq) hf
    by_cases hl : i = g.la ∧ j + n < g.lb
    · rw [hl.1, ra_m2_dead hp hl.2]; rfl
    · congr 1
      have h0 : (i = 0 ∧ j = 0) ↔ i = 0 := by
        unfold ra_re at hr; omega
      have h1 : (i = g.la ∧ j + n = g.lb) ↔ i = g.la := by omega
      unfold ra_g2 ra_o2 ra_m2 ra_f2
      simp only [h0, h1]
      by_cases c : (i = 0 ∧ g.fr.testBit 1 = true) ∨ (i = g.la ∧ g.fr.testBit 3 = true)
      · have c' : ((i == 0 && g.fr.testBit 1) || (i == g.la && g.fr.testBit 3)) = true := by simpa using c
        rw [if_pos c, if_pos c', if_pos c']; omega
      · have c' : ¬ ((i == 0 && g.fr.testBit 1) || (i == g.la && g.fr.testBit 3)) = true := by simpa using c
        rw [if_neg c, if_neg c', if_neg c']
/-- the run that stands at (i, j) goes on for n letters more, n from 1 -/
def ra_s1 (g : ra_G) (i j : Nat) : ra_V := ra_su none (g.la - i) (fun n => ra_sc (-(ra_m1 g j * n)) (ra_m g 1 (i + n) j))
def ra_s2 (g : ra_G) (i j : Nat) : ra_V := ra_su none (g.lb - j) (fun n => ra_sc (-(ra_m2 g i * n)) (ra_m g 2 i (j + n)))
theorem ra_s1_step {g : ra_G} {i j : Nat} (hi : i < g.la) : ra_sc (-(ra_m1 g j)) (ra_or (ra_m g 1 (i + 1) j) (ra_s1 g (i + 1) j)) = ra_s1 g i j := by
  unfold ra_s1
  rw [show g.la - i = (g.la - (i + 1)) + 1 by omega, ra_su_head, ra_sc_or, ra_su_sc]
  congr 1
  · simp
  · refine ra_su_congr (fun n h1 h2 => ?_)
    rw [ra_sc_sc, show i + 1 + n = i + (n + 1) by omega, show -ra_m1 g j + -(ra_m1 g j * (n : Int)) = -(ra_m1 g j * ((n + 1 : Nat) : Int)) by
      rw [Int.natCast_add, Int.mul_add]; simp; omega]
theorem ra_s2_step {g : ra_G} {i j : Nat} (hj : j < g.lb) : ra_sc (-(ra_m2 g i)) (ra_or (ra_m g 2 i (j + 1)) (ra_s2 g i (j + 1))) = ra_s2 g i j := by
  unfold ra_s2
  rw [show g.lb - j = (g.lb - (j + 1)) + 1 by omega, ra_su_head, ra_sc_or, ra_su_sc]
  congr 1
  · simp
  · refine ra_su_congr (fun n h1 h2 => ?_)
    rw [ra_sc_sc, show j + 1 + n = j + (n + 1) by omega, show -ra_m2 g i + -(ra_m2 g i * (n : Int)) = -(ra_m2 g i * ((n + 1 : Nat) : Int)) by
      rw [Int.natCast_add, Int.mul_add]; simp; omega]
theorem ra_s1_gap {g : ra_G} (hw : ra_wf g) {b i j : Nat} (hb : b ≠ 1) (hr : ra_re g b i j) : ra_su none (g.la - i) (fun t => ra_sc (-(ra_g1 g i j t)) (ra_m g 1 (i + t) j)) = ra_sc (-(ra_o1 g j)) (ra_s1 g i j) := by
  unfold ra_s1
  rw [ra_su_sc]
  refine ra_su_congr (fun n h1 h2 => ?_)
  rw [ra_gap1 hw hb hr h1 (by omega), ra_sc_sc, show -ra_o1 g j + -(ra_m1 g j * (n : Int)) = -(ra_o1 g j + ra_m1 g j * (n : Int)) by omega]
theorem ra_s2_gap {g : ra_G} (hw : ra_wf g) {b i j : Nat} (hb : b ≠ 2) (hr : ra_re g b i j) : ra_su none (g.lb - j) (fun t => ra_sc (-(ra_g2 g i j t)) (ra_m g 2 i (j + t))) = ra_sc (-(ra_o2 g i)) (ra_s2 g i j) := by
  unfold ra_s2
  rw [ra_su_sc]
  refine ra_su_congr (fun n h1 h2 => ?_)
  rw [ra_gap2 hw hb hr h1 (by omega), ra_sc_sc, show -ra_o2 g i + -(ra_m2 g i * (n : Int)) = -(ra_o2 g i + ra_m2 g i * (n : Int)) by omega]
/-- the run table, in the step table's words -/
theorem ra_m_or {g : ra_G} (hw : ra_wf g) {b i j : Nat} (hr : ra_re g b i j) : ra_m g b i j = ra_or (ra_or (ra_or (ra_end g i j) (ra_p1 g i j)) (if b = 1 then none else ra_sc (-(ra_o1 g j)) (ra_s1 g i j))) (if b = 2 then none else ra_sc (-(ra_o2 g i)) (ra_s2 g i j)) := by
  rw [ra_m_eq, ra_su_or (ra_su _ _ _), ra_su_or (ra_or _ _)]
  congr 1
  · congr 1
    by_cases hb : b = 1
    · rw [if_pos hb, if_pos hb]; rfl
    · rw [if_neg hb, if_neg hb]; exact ra_s1_gap hw hb hr
  · by_cases hb : b = 2
    · rw [if_pos hb, if_pos hb]; rfl
    · rw [if_neg hb, if_neg hb]; exact ra_s2_gap hw hb hr
/-- **the two tables** -/
theorem ra_rel {g : ra_G} (hw : ra_wf g) : ∀ (n i j : Nat), (g.la - i) + (g.lb - j) ≤ n →
    (ra_re g 0 i j → ra_c g 0 i j = ra_m g 0 i j) ∧ (ra_re g 1 i j → ra_c g 1 i j = ra_or (ra_m g 1 i j) (ra_s1 g i j)) ∧ (ra_re g 2 i j → ra_c g 2 i j = ra_or (ra_m g 2 i j) (ra_s2 g i j)) := by
  intro n
  induction n with
  | zero =>
    intro i j hn
    have h1 : ¬ i < g.la := by omega
    have h2 : ¬ j < g.lb := by omega
    have s1 : ra_s1 g i j = none := by unfold ra_s1; rw [show g.la - i = 0 by omega]; rfl
    have s2 : ra_s2 g i j = none := by unfold ra_s2; rw [show g.lb - j = 0 by omega]; rfl
    have e1 : ra_e1 g i j = none := by unfold ra_e1; rw [if_neg (by omega)]
    have p1 : ra_p1 g i j = none := by unfold ra_p1; rw [if_neg (by omega)]
    have e2 : ∀ b, ra_e2 g b i j = none := fun b => by unfold ra_e2; rw [if_neg h1]
    have e3 : ∀ b, ra_e3 g b i j = none := fun b => by unfold ra_e3; rw [if_neg h2]
    refine ⟨fun hr => ?_, fun hr => ?_, fun hr => ?_⟩ <;> rw [ra_c_eq, ra_m_or hw hr, s1, s2, e1, p1, e2, e3] <;> simp [ra_sc_none, ra_or_none]
  | succ n ih =>
    intro i j hn
    have P : ra_e1 g i j = ra_p1 g i j := by
      unfold ra_e1 ra_p1
      split
      · rw [(ih (i + 1) (j + 1) (by omega)).1 (Or.inr (Or.inl ⟨rfl, Or.inr ⟨by omega, by omega⟩⟩))]
      · rfl
    have O : ∀ b, ra_e2 g b i j = ra_sc (-(if b = 1 then 0 else ra_o1 g j)) (ra_s1 g i j) := by
      intro b
      unfold ra_e2
      by_cases h1 : i < g.la
      · rw [if_pos h1, (ih (i + 1) j (by omega)).2.1 (Or.inr (Or.inr (Or.inl ⟨rfl, by omega⟩))), ← ra_s1_step h1, ra_sc_sc]
        congr 1
        split <;> omega
      · rw [if_neg h1]
        have s1 : ra_s1 g i j = none := by unfold ra_s1; rw [show g.la - i = 0 by omega]; rfl
        rw [s1, ra_sc_none]
    have T : ∀ b, ra_e3 g b i j = ra_sc (-(if b = 2 then 0 else ra_o2 g i)) (ra_s2 g i j) := by
      intro b
      unfold ra_e3
      by_cases h1 : j < g.lb
      · rw [if_pos h1, (ih i (j + 1) (by omega)).2.2 (Or.inr (Or.inr (Or.inr ⟨rfl, by omega⟩))), ← ra_s2_step h1, ra_sc_sc]
        congr 1
        split <;> omega
      · rw [if_neg h1]
        have s2 : ra_s2 g i j = none := by unfold ra_s2; rw [show g.lb - j = 0 by omega]; rfl
        rw [s2, ra_sc_none]
    refine ⟨fun hr => ?_, fun hr => ?_, fun hr => ?_⟩
    · rw [ra_c_eq, ra_m_or hw hr, P, O, T]; simp
    · rw [ra_c_eq, ra_m_or hw hr, P, O, T]
      simp only [if_true, if_false, Nat.one_ne_zero, show ¬ (1 : Nat) = 2 by omega, ra_or_none, Int.neg_zero, ra_sc_0]
      simp only [ra_or_assoc]; rw [ra_or_comm (ra_s1 g i j)]
    · rw [ra_c_eq, ra_m_or hw hr, P, O, T]
      simp only [if_true, if_false, show ¬ (2 : Nat) = 1 by omega, ra_or_none, Int.neg_zero, ra_sc_0]
