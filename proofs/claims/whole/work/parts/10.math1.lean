/-! Mathematics of the laying, first part: worths with the number of ways, the table that goes step by step. -/
/-- a worth and how many ways have it; none: no way -/
abbrev ra_V : Type := Option (Int × Int64)
def ra_or (x y : ra_V) : ra_V := match x, y with
  | none, y => y
  | some a, none => some a
  | some a, some b => if b.1 < a.1 then some a else if a.1 < b.1 then some b else some (a.1, a.2 + b.2)
def ra_sc (w : Int) (x : ra_V) : ra_V := match x with
  | none => none
  | some a => some (w + a.1, a.2)
theorem ra_or_none (x : ra_V) : ra_or x none = x := by cases x <;> rfl
theorem ra_none_or (x : ra_V) : ra_or none x = x := by cases x <;> rfl
theorem ra_or_comm (x y : ra_V) : ra_or x y = ra_or y x := by
  rcases x with _ | ⟨a, k⟩ <;> rcases y with _ | ⟨b, n⟩ <;> simp only [ra_or]
  rcases Int.lt_trichotomy a b with h | h | h
  · rw [if_neg (by omega), if_pos h, if_pos h]
  · subst h; simp [Int64.add_comm]
  · rw [if_pos h, if_neg (by omega), if_pos h]
theorem ra_or_assoc (x y z : ra_V) : ra_or (ra_or x y) z = ra_or x (ra_or y z) := by
  rcases x with _ | ⟨a, k⟩
  · rw [ra_none_or, ra_none_or]
  rcases y with _ | ⟨b, n⟩
  · rw [ra_or_none, ra_none_or]
  rcases z with _ | ⟨c, q⟩
  · rw [ra_or_none, ra_or_none]
  rcases Int.lt_trichotomy a b with h | h | h <;> rcases Int.lt_trichotomy b c with h' | h' | h'
  · have h1 : ra_or (some (a, k)) (some (b, n)) = some (b, n) := by simp only [ra_or]; rw [if_neg (by omega), if_pos h]
    have h2 : ra_or (some (b, n)) (some (c, q)) = some (c, q) := by simp only [ra_or]; rw [if_neg (by omega), if_pos h']
    rw [h1, h2]; simp only [ra_or]; rw [if_neg (by omega), if_pos (by omega)]
  · subst h'
    simp only [ra_or]
    simp [h, show ¬ b < a by omega, ra_or]
  · have h1 : ra_or (some (a, k)) (some (b, n)) = some (b, n) := by simp only [ra_or]; rw [if_neg (by omega), if_pos h]
    have h2 : ra_or (some (b, n)) (some (c, q)) = some (b, n) := by simp only [ra_or]; rw [if_pos h']
    rw [h1, h2, h1]
  · subst h
    simp [ra_or, h', show ¬ c < a by omega]
  · subst h; subst h'
    simp [ra_or, Int64.add_assoc]
  · subst h
    simp [ra_or, h', show ¬ a < c by omega]
  · have h1 : ra_or (some (a, k)) (some (b, n)) = some (a, k) := by simp only [ra_or]; rw [if_pos h]
    have h2 : ra_or (some (b, n)) (some (c, q)) = some (c, q) := by simp only [ra_or]; rw [if_neg (by omega), if_pos h']
    rw [h1, h2]
  · subst h'
    simp [ra_or, h]
  · have h1 : ra_or (some (a, k)) (some (b, n)) = some (a, k) := by simp only [ra_or]; rw [if_pos h]
    have h2 : ra_or (some (b, n)) (some (c, q)) = some (b, n) := by simp only [ra_or]; rw [if_pos h']
    rw [h1, h2, h1]; simp only [ra_or]; rw [if_pos (by omega)]
theorem ra_sc_none (w : Int) : ra_sc w none = none := rfl
theorem ra_sc_or (w : Int) (x y : ra_V) : ra_sc w (ra_or x y) = ra_or (ra_sc w x) (ra_sc w y) := by
  rcases x with _ | ⟨a, k⟩ <;> rcases y with _ | ⟨b, n⟩ <;> simp only [ra_or, ra_sc]
  rcases Int.lt_trichotomy a b with h | h | h
  · rw [if_neg (by omega), if_pos h, if_neg (by omega), if_pos (by omega)]
  · subst h; simp
  · rw [if_pos h, if_pos (by omega)]
theorem ra_sc_sc (v w : Int) (x : ra_V) : ra_sc v (ra_sc w x) = ra_sc (v + w) x := by
  rcases x with _ | ⟨a, k⟩ <;> simp only [ra_sc]
  rw [show v + (w + a) = v + w + a by omega]
theorem ra_sc_0 (x : ra_V) : ra_sc 0 x = x := by
  rcases x with _ | ⟨a, k⟩ <;> simp [ra_sc]
def ra_vl (x : ra_V) : Int := match x with
  | none => (-100000000 : Int)
  | some a => a.1
def ra_ct (x : ra_V) : Int64 := match x with
  | none => 0
  | some a => a.2
/-- its worth is a real one -/
def ra_ok (B : Int) (x : ra_V) : Prop := ∀ a, x = some a → -B ≤ a.1 ∧ a.1 ≤ B
theorem ra_vl_or {B : Int} {x y : ra_V} (hx : ra_ok B x) (hy : ra_ok B y) (hB : B < 100000000) : ra_vl (ra_or x y) = max (ra_vl x) (ra_vl y) := by
  rcases x with _ | ⟨a, k⟩ <;> rcases y with _ | ⟨b, n⟩
  · simp [ra_or, ra_vl]
  · have := (hy _ rfl).1; simp only [ra_or, ra_vl] at this ⊢; omega
  · have := (hx _ rfl).1; simp only [ra_or, ra_vl] at this ⊢; omega
  · rcases Int.lt_trichotomy a b with h | h | h
    · simp only [ra_or]; rw [if_neg (by omega), if_pos h]; simp only [ra_vl]; omega
    · subst h; simp [ra_or, ra_vl]
    · simp only [ra_or]; rw [if_pos h]; simp only [ra_vl]; omega
theorem ra_ct_or {B : Int} {x y : ra_V} (hx : ra_ok B x) (hy : ra_ok B y) (hB : B < 100000000) :
    ra_ct (ra_or x y) = (if ra_vl x = ra_vl (ra_or x y) then ra_ct x else 0) + (if ra_vl y = ra_vl (ra_or x y) then ra_ct y else 0) := by
  rcases x with _ | ⟨a, k⟩ <;> rcases y with _ | ⟨b, n⟩
  · simp [ra_or, ra_vl, ra_ct]
  · show n = (if (-100000000 : Int) = b then 0 else 0) + (if b = b then n else 0)
    rw [if_pos rfl]; split <;> simp
  · show k = (if a = a then k else 0) + (if (-100000000 : Int) = a then 0 else 0)
    rw [if_pos rfl]; split <;> simp
  · rcases Int.lt_trichotomy a b with h | h | h
    · have h1 : ra_or (some (a, k)) (some (b, n)) = some (b, n) := by simp only [ra_or]; rw [if_neg (by omega), if_pos h]
      rw [h1]; show n = (if a = b then k else 0) + (if b = b then n else 0); rw [if_neg (show ¬ a = b by omega), if_pos rfl]; simp
    · subst h; simp [ra_or, ra_vl, ra_ct]
    · have h1 : ra_or (some (a, k)) (some (b, n)) = some (a, k) := by simp only [ra_or]; rw [if_pos h]
      rw [h1]; show k = (if a = a then k else 0) + (if b = a then n else 0); rw [if_neg (show ¬ b = a by omega), if_pos rfl]; simp
theorem ra_ok_or {B : Int} {x y : ra_V} (hx : ra_ok B x) (hy : ra_ok B y) : ra_ok B (ra_or x y) := by
  rcases x with _ | ⟨a, k⟩
  · rw [ra_none_or]; exact hy
  rcases y with _ | ⟨b, n⟩
  · rw [ra_or_none]; exact hx
  intro c hc
  have h1 := hx _ rfl
  have h2 := hy _ rfl
  simp only [ra_or] at hc
  split at hc
  · cases hc; exact h1
  · split at hc
    · cases hc; exact h2
    · cases hc; exact h1
theorem ra_ok_sc {B C w : Int} {x : ra_V} (hx : ra_ok B x) (h1 : B + w ≤ C) (h2 : B - w ≤ C) : ra_ok C (ra_sc w x) := by
  rcases x with _ | ⟨a, k⟩
  · intro a h; cases h
  · intro c hc
    have h3 := hx _ rfl
    cases hc
    simp only at h3 ⊢
    omega
theorem ra_ok_none (B : Int) : ra_ok B none := fun _ h => nomatch h
theorem ra_ok_mono {B C : Int} {x : ra_V} (h : ra_ok B x) (hBC : B ≤ C) : ra_ok C x := fun a ha => by
  have := h a ha; omega
theorem ra_or_some_l {x y : ra_V} (h : x.isSome = true) : (ra_or x y).isSome = true := by
  rcases x with _ | a
  · cases h
  · rcases y with _ | b
    · rfl
    · simp only [ra_or]; split
      · rfl
      · split <;> rfl
theorem ra_or_some_r {x y : ra_V} (h : y.isSome = true) : (ra_or x y).isSome = true := by
  rw [ra_or_comm]; exact ra_or_some_l h
theorem ra_sc_some {w : Int} {x : ra_V} (h : x.isSome = true) : (ra_sc w x).isSome = true := by
  rcases x with _ | a
  · cases h
  · rfl
/-! what a laying is laid over: letters in each row, the score of a pair of places, cost of opening, of each letter, free ends, whole or parts -/
abbrev ra_G : Type := Nat × Nat × (Nat → Nat → Int) × Int × Int × Nat × Bool
abbrev ra_G.la (g : ra_G) : Nat := g.1
abbrev ra_G.lb (g : ra_G) : Nat := g.2.1
abbrev ra_G.sc (g : ra_G) : Nat → Nat → Int := g.2.2.1
abbrev ra_G.op (g : ra_G) : Int := g.2.2.2.1
abbrev ra_G.mo (g : ra_G) : Int := g.2.2.2.2.1
abbrev ra_G.fr (g : ra_G) : Nat := g.2.2.2.2.2.1
abbrev ra_G.pt (g : ra_G) : Bool := g.2.2.2.2.2.2
def ra_f1 (g : ra_G) (j : Nat) : Bool := (j == 0 && g.fr.testBit 0) || (j == g.lb && g.fr.testBit 2)
def ra_f2 (g : ra_G) (i : Nat) : Bool := (i == 0 && g.fr.testBit 1) || (i == g.la && g.fr.testBit 3)
def ra_m1 (g : ra_G) (j : Nat) : Int := if ra_f1 g j = true then 0 else g.mo
def ra_o1 (g : ra_G) (j : Nat) : Int := if ra_f1 g j = true then 0 else g.op
def ra_m2 (g : ra_G) (i : Nat) : Int := if ra_f2 g i = true then 0 else g.mo
def ra_o2 (g : ra_G) (i : Nat) : Int := if ra_f2 g i = true then 0 else g.op
def ra_end (g : ra_G) (i j : Nat) : ra_V := if g.pt = true ∨ (i = g.la ∧ j = g.lb) then some (0, 1) else none
/-- the rest of a laying from (i, j), the step b before it: step by step, at most n - 1 steps -/
def ra_cf (g : ra_G) : Nat → Nat → Nat → Nat → ra_V
  | 0, _, _, _ => none
  | n + 1, b, i, j => ra_or (ra_or (ra_or (ra_end g i j)
      (if i < g.la ∧ j < g.lb then ra_sc (g.sc i j) (ra_cf g n 0 (i + 1) (j + 1)) else none))
      (if i < g.la then ra_sc (-(ra_m1 g j + if b = 1 then 0 else ra_o1 g j)) (ra_cf g n 1 (i + 1) j) else none))
      (if j < g.lb then ra_sc (-(ra_m2 g i + if b = 2 then 0 else ra_o2 g i)) (ra_cf g n 2 i (j + 1)) else none)
def ra_c (g : ra_G) (b i j : Nat) : ra_V := ra_cf g ((g.la - i) + (g.lb - j) + 1) b i j
theorem ra_cf_fuel (g : ra_G) : ∀ (n m b i j : Nat), (g.la - i) + (g.lb - j) < n → (g.la - i) + (g.lb - j) < m → ra_cf g n b i j = ra_cf g m b i j := by
  intro n
  induction n with
  | zero => intro m b i j h; omega
  | succ n ih =>
    intro m b i j h1 h2
    cases m with
    | zero => omega
    | succ m =>
      simp only [ra_cf]
      congr 1
      · congr 1
        · congr 1
          split
          · rw [ih m 0 (i + 1) (j + 1) (by omega) (by omega)]
          · rfl
        · split
          · rw [ih m 1 (i + 1) j (by omega) (by omega)]
          · rfl
      · split
        · rw [ih m 2 i (j + 1) (by omega) (by omega)]
        · rfl
def ra_e1 (g : ra_G) (i j : Nat) : ra_V := if i < g.la ∧ j < g.lb then ra_sc (g.sc i j) (ra_c g 0 (i + 1) (j + 1)) else none
def ra_e2 (g : ra_G) (b i j : Nat) : ra_V := if i < g.la then ra_sc (-(ra_m1 g j + if b = 1 then 0 else ra_o1 g j)) (ra_c g 1 (i + 1) j) else none
def ra_e3 (g : ra_G) (b i j : Nat) : ra_V := if j < g.lb then ra_sc (-(ra_m2 g i + if b = 2 then 0 else ra_o2 g i)) (ra_c g 2 i (j + 1)) else none
theorem ra_c_eq (g : ra_G) (b i j : Nat) : ra_c g b i j = ra_or (ra_or (ra_or (ra_end g i j) (ra_e1 g i j)) (ra_e2 g b i j)) (ra_e3 g b i j) := by
  show ra_cf g ((g.la - i) + (g.lb - j) + 1) b i j = _
  simp only [ra_cf]
  congr 1
  · congr 1
    · congr 1
      unfold ra_e1 ra_c
      split
      · rw [ra_cf_fuel g _ ((g.la - (i + 1)) + (g.lb - (j + 1)) + 1) 0 (i + 1) (j + 1) (by omega) (by omega)]
      · rfl
    · unfold ra_e2 ra_c
      split
      · rw [ra_cf_fuel g _ ((g.la - (i + 1)) + (g.lb - j) + 1) 1 (i + 1) j (by omega) (by omega)]
      · rfl
  · unfold ra_e3 ra_c
    split
    · rw [ra_cf_fuel g _ ((g.la - i) + (g.lb - (j + 1)) + 1) 2 i (j + 1) (by omega) (by omega)]
    · rfl
/-- the numbers are in their bounds -/
def ra_bd (g : ra_G) : Prop := g.la ≤ 96 ∧ g.lb ≤ 96 ∧ (∀ i j, i < g.la → j < g.lb → -512 ≤ g.sc i j ∧ g.sc i j ≤ 512) ∧ 0 ≤ g.op ∧ g.op ≤ 512 ∧ 0 ≤ g.mo ∧ g.mo ≤ 512 ∧ g.fr < 16
theorem ra_m1_bd {g : ra_G} (h : ra_bd g) (j : Nat) : 0 ≤ ra_m1 g j ∧ ra_m1 g j ≤ 512 ∧ 0 ≤ ra_o1 g j ∧ ra_o1 g j ≤ 512 := by
  obtain ⟨-, -, -, h1, h2, h3, h4, -⟩ := h
  unfold ra_m1 ra_o1; split <;> omega
theorem ra_m2_bd {g : ra_G} (h : ra_bd g) (i : Nat) : 0 ≤ ra_m2 g i ∧ ra_m2 g i ≤ 512 ∧ 0 ≤ ra_o2 g i ∧ ra_o2 g i ≤ 512 := by
  obtain ⟨-, -, -, h1, h2, h3, h4, -⟩ := h
  unfold ra_m2 ra_o2; split <;> omega
theorem ra_end_ok (g : ra_G) (i j : Nat) (B : Int) (hB : 0 ≤ B) : ra_ok B (ra_end g i j) := by
  unfold ra_end
  split
  · intro a h; cases h; simp; omega
  · exact ra_ok_none B
theorem ra_cf_ok {g : ra_G} (h : ra_bd g) : ∀ (n b i j : Nat), ra_ok (1024 * n) (ra_cf g n b i j) := by
  intro n
  induction n with
  | zero => intro b i j; exact ra_ok_none _
  | succ n ih =>
    intro b i j
    have hm1 := ra_m1_bd h j
    have hm2 := ra_m2_bd h i
    simp only [ra_cf]
    refine ra_ok_or (ra_ok_or (ra_ok_or (ra_end_ok g i j _ (by omega)) ?_) ?_) ?_
    · split
      · rename_i hc
        have hs := h.2.2.1 i j hc.1 hc.2
        exact ra_ok_sc (ih 0 (i + 1) (j + 1)) (by omega) (by omega)
      · exact ra_ok_none _
    · split
      · refine ra_ok_sc (ih 1 (i + 1) j) ?_ ?_ <;> split <;> omega
      · exact ra_ok_none _
    · split
      · refine ra_ok_sc (ih 2 i (j + 1)) ?_ ?_ <;> split <;> omega
      · exact ra_ok_none _
theorem ra_c_ok {g : ra_G} (h : ra_bd g) (b i j : Nat) : ra_ok 200000 (ra_c g b i j) := by
  refine ra_ok_mono (ra_cf_ok h _ b i j) ?_
  have h1 := h.1
  have h2 := h.2.1
  omega
theorem ra_cf_some (g : ra_G) : ∀ (n b i j : Nat), i ≤ g.la → j ≤ g.lb → (g.la - i) + (g.lb - j) < n → (ra_cf g n b i j).isSome = true := by
  intro n
  induction n with
  | zero => intro b i j _ _ h; omega
  | succ n ih =>
    intro b i j hi hj hn
    simp only [ra_cf]
    by_cases h1 : i < g.la
    · refine ra_or_some_l (ra_or_some_r ?_)
      rw [if_pos h1]
      exact ra_sc_some (ih 1 (i + 1) j (by omega) hj (by omega))
    · by_cases h2 : j < g.lb
      · refine ra_or_some_r ?_
        rw [if_pos h2]
        exact ra_sc_some (ih 2 i (j + 1) hi (by omega) (by omega))
      · refine ra_or_some_l (ra_or_some_l (ra_or_some_l ?_))
        unfold ra_end
        rw [if_pos (Or.inr ⟨by omega, by omega⟩)]
        rfl
theorem ra_c_some (g : ra_G) {b i j : Nat} (hi : i ≤ g.la) (hj : j ≤ g.lb) : (ra_c g b i j).isSome = true := ra_cf_some g _ b i j hi hj (by omega)
/-- the table's number and its count -/
def ra_r (g : ra_G) (b i j : Nat) : Int := ra_vl (ra_c g b i j)
def ra_k (g : ra_G) (b i j : Nat) : Int64 := ra_ct (ra_c g b i j)
theorem ra_r_bd {g : ra_G} (h : ra_bd g) {b i j : Nat} (hi : i ≤ g.la) (hj : j ≤ g.lb) : -200000 ≤ ra_r g b i j ∧ ra_r g b i j ≤ 200000 := by
  have h1 := ra_c_some g (b := b) hi hj
  have h2 := ra_c_ok h b i j
  unfold ra_r
  cases hc : ra_c g b i j with
  | none => rw [hc] at h1; cases h1
  | some a => exact h2 a hc
/-- what the program looks at from (i, j) -/
def ra_xe (g : ra_G) (i j : Nat) : Int := if g.pt = true ∨ (i = g.la ∧ j = g.lb) then 0 else (-100000000 : Int)
def ra_xp (g : ra_G) (i j : Nat) : Int := if i < g.la ∧ j < g.lb then g.sc i j + ra_r g 0 (i + 1) (j + 1) else (-100000000 : Int)
def ra_xo (g : ra_G) (i j : Nat) : Int := if i < g.la then ra_r g 1 (i + 1) j - ra_m1 g j else (-100000000 : Int)
def ra_xt (g : ra_G) (i j : Nat) : Int := if j < g.lb then ra_r g 2 i (j + 1) - ra_m2 g i else (-100000000 : Int)
/-- the worth through a step -/
def ra_w (g : ra_G) (b i j s : Nat) : Int := if s = 0 then ra_xp g i j else if s = 1 then (if b = 1 then ra_xo g i j else ra_xo g i j - ra_o1 g j) else (if b = 2 then ra_xt g i j else ra_xt g i j - ra_o2 g i)
theorem ra_vl_sc {w : Int} {x : ra_V} (h : x.isSome = true) : ra_vl (ra_sc w x) = w + ra_vl x := by
  rcases x with _ | a
  · cases h
  · rfl
theorem ra_ct_sc (w : Int) (x : ra_V) : ra_ct (ra_sc w x) = ra_ct x := by
  rcases x with _ | a <;> rfl
theorem ra_vl_end (g : ra_G) (i j : Nat) : ra_vl (ra_end g i j) = ra_xe g i j := by
  unfold ra_end ra_xe; split <;> rfl
theorem ra_ct_end (g : ra_G) (i j : Nat) : ra_ct (ra_end g i j) = if ra_xe g i j = 0 then 1 else 0 := by
  unfold ra_end ra_xe; split <;> simp [ra_ct]
theorem ra_vl_e1 {g : ra_G} {i j : Nat} : ra_vl (ra_e1 g i j) = ra_xp g i j := by
  unfold ra_e1 ra_xp
  split
  · rename_i h
    rw [ra_vl_sc (ra_c_some g (by omega) (by omega))]; rfl
  · rfl
theorem ra_vl_e2 {g : ra_G} {b i j : Nat} (hj : j ≤ g.lb) (hi : i < g.la) : ra_vl (ra_e2 g b i j) = ra_w g b i j 1 := by
  unfold ra_e2 ra_w ra_xo
  rw [if_pos hi, if_pos hi, ra_vl_sc (ra_c_some g (by omega) hj)]
  show _ + ra_r g 1 (i + 1) j = _
  simp only [Nat.one_ne_zero, if_false, if_true]
  split <;> omega
theorem ra_vl_e3 {g : ra_G} {b i j : Nat} (hi : i ≤ g.la) (hj : j < g.lb) : ra_vl (ra_e3 g b i j) = ra_w g b i j 2 := by
  unfold ra_e3 ra_w ra_xt
  rw [if_pos hj, if_pos hj, ra_vl_sc (ra_c_some g hi (by omega))]
  show _ + ra_r g 2 i (j + 1) = _
  simp only [show ¬ (2 : Nat) = 0 by omega, show ¬ (2 : Nat) = 1 by omega, if_false]
  split <;> omega
theorem ra_w1_no {g : ra_G} (h : ra_bd g) {b i j : Nat} (hi : ¬ i < g.la) : ra_w g b i j 1 ≤ (-100000000 : Int) ∧ ra_vl (ra_e2 g b i j) = (-100000000 : Int) := by
  have hm := ra_m1_bd h j
  unfold ra_w ra_xo ra_e2
  rw [if_neg hi, if_neg hi]
  simp only [Nat.one_ne_zero, if_false, if_true]
  refine ⟨?_, rfl⟩
  split <;> omega
theorem ra_w2_no {g : ra_G} (h : ra_bd g) {b i j : Nat} (hj : ¬ j < g.lb) : ra_w g b i j 2 ≤ (-100000000 : Int) ∧ ra_vl (ra_e3 g b i j) = (-100000000 : Int) := by
  have hm := ra_m2_bd h i
  unfold ra_w ra_xt ra_e3
  rw [if_neg hj, if_neg hj]
  simp only [show ¬ (2 : Nat) = 0 by omega, show ¬ (2 : Nat) = 1 by omega, if_false]
  refine ⟨?_, rfl⟩
  split <;> omega
theorem ra_e1_ok {g : ra_G} (h : ra_bd g) (i j : Nat) : ra_ok 201024 (ra_e1 g i j) := by
  unfold ra_e1
  split
  · rename_i hc
    have hs := h.2.2.1 i j hc.1 hc.2
    exact ra_ok_sc (ra_c_ok h _ _ _) (by omega) (by omega)
  · exact ra_ok_none _
theorem ra_e2_ok {g : ra_G} (h : ra_bd g) (b i j : Nat) : ra_ok 201024 (ra_e2 g b i j) := by
  have hm := ra_m1_bd h j
  unfold ra_e2
  split
  · refine ra_ok_sc (ra_c_ok h _ _ _) ?_ ?_ <;> split <;> omega
  · exact ra_ok_none _
theorem ra_e3_ok {g : ra_G} (h : ra_bd g) (b i j : Nat) : ra_ok 201024 (ra_e3 g b i j) := by
  have hm := ra_m2_bd h i
  unfold ra_e3
  split
  · refine ra_ok_sc (ra_c_ok h _ _ _) ?_ ?_ <;> split <;> omega
  · exact ra_ok_none _
/-- the table's number is the greatest of the four -/
theorem ra_r_max {g : ra_G} (h : ra_bd g) {b i j : Nat} (hi : i ≤ g.la) (hj : j ≤ g.lb) :
    ra_r g b i j = max (max (max (ra_xe g i j) (ra_xp g i j)) (ra_w g b i j 1)) (ra_w g b i j 2) := by
  have hb := ra_r_bd h (b := b) hi hj
  have o0 := ra_end_ok g i j 201024 (by omega)
  have o1 := ra_e1_ok h i j
  have o2 := ra_e2_ok h b i j
  have o3 := ra_e3_ok h b i j
  have e : ra_r g b i j = max (max (max (ra_xe g i j) (ra_xp g i j)) (ra_vl (ra_e2 g b i j))) (ra_vl (ra_e3 g b i j)) := by
    unfold ra_r
    rw [ra_c_eq, ra_vl_or (ra_ok_or (ra_ok_or o0 o1) o2) o3 (by omega), ra_vl_or (ra_ok_or o0 o1) o2 (by omega), ra_vl_or o0 o1 (by omega), ra_vl_end, ra_vl_e1]
  by_cases h2 : i < g.la <;> by_cases h3 : j < g.lb
  · rw [ra_vl_e2 hj h2, ra_vl_e3 hi h3] at e; exact e
  · have q := ra_w2_no h (b := b) (i := i) h3
    rw [ra_vl_e2 hj h2, q.2] at e; omega
  · have q := ra_w1_no h (b := b) (j := j) h2
    rw [ra_vl_e3 hi h3, q.2] at e; omega
  · have q := ra_w1_no h (b := b) (j := j) h2
    have q' := ra_w2_no h (b := b) (i := i) h3
    rw [q'.2, q.2] at e; omega
theorem ra_ct4 {B : Int} {x y z t : ra_V} (hx : ra_ok B x) (hy : ra_ok B y) (hz : ra_ok B z) (ht : ra_ok B t) (hB : B < 100000000) :
    ra_ct (ra_or (ra_or (ra_or x y) z) t) = (((if ra_vl x = ra_vl (ra_or (ra_or (ra_or x y) z) t) then ra_ct x else 0) + (if ra_vl y = ra_vl (ra_or (ra_or (ra_or x y) z) t) then ra_ct y else 0)) + (if ra_vl z = ra_vl (ra_or (ra_or (ra_or x y) z) t) then ra_ct z else 0)) + (if ra_vl t = ra_vl (ra_or (ra_or (ra_or x y) z) t) then ra_ct t else 0) := by
  have v1 := ra_vl_or hx hy hB
  have v2 := ra_vl_or (ra_ok_or hx hy) hz hB
  have v3 := ra_vl_or (ra_ok_or (ra_ok_or hx hy) hz) ht hB
  have c1 := ra_ct_or hx hy hB
  have c2 := ra_ct_or (ra_ok_or hx hy) hz hB
  rw [ra_ct_or (ra_ok_or (ra_ok_or hx hy) hz) ht hB]
  congr 1
  generalize ra_vl (ra_or (ra_or (ra_or x y) z) t) = v at v3 ⊢
  by_cases h2 : ra_vl (ra_or (ra_or x y) z) = v
  · rw [if_pos h2, c2, h2]
    congr 1
    by_cases h1 : ra_vl (ra_or x y) = v
    · rw [if_pos h1, c1, h1]
    · rw [if_neg h1, if_neg (by omega), if_neg (by omega)]; rfl
  · rw [if_neg h2, if_neg (by omega), if_neg (by omega), if_neg (by omega)]; rfl
/-- the table's count is the sum over the best ways on -/
theorem ra_k_sum {g : ra_G} (h : ra_bd g) {b i j : Nat} (hi : i ≤ g.la) (hj : j ≤ g.lb) :
    ra_k g b i j = (((if ra_xe g i j = ra_r g b i j then 1 else 0) + (if ra_xp g i j = ra_r g b i j then ra_k g 0 (i + 1) (j + 1) else 0)) + (if ra_w g b i j 1 = ra_r g b i j then ra_k g 1 (i + 1) j else 0)) + (if ra_w g b i j 2 = ra_r g b i j then ra_k g 2 i (j + 1) else 0) := by
  have hb := ra_r_bd h (b := b) hi hj
  have o0 := ra_end_ok g i j 201024 (by omega)
  have o1 := ra_e1_ok h i j
  have o2 := ra_e2_ok h b i j
  have o3 := ra_e3_ok h b i j
  have e := ra_ct4 o0 o1 o2 o3 (by omega)
  rw [← ra_c_eq] at e
  change ra_k g b i j = _ at e
  change ra_k g b i j = (((if ra_vl (ra_end g i j) = ra_r g b i j then _ else _) + (if ra_vl (ra_e1 g i j) = ra_r g b i j then _ else _)) + (if ra_vl (ra_e2 g b i j) = ra_r g b i j then _ else _)) + (if ra_vl (ra_e3 g b i j) = ra_r g b i j then _ else _) at e
  rw [e]
  congr 1
  · congr 1
    · congr 1
      · rw [ra_vl_end, ra_ct_end]
        by_cases q : ra_xe g i j = ra_r g b i j
        · rw [if_pos q, if_pos q, if_pos]
          have : ra_xe g i j = 0 ∨ ra_xe g i j = (-100000000 : Int) := by unfold ra_xe; split <;> simp
          omega
        · rw [if_neg q, if_neg q]
      · rw [ra_vl_e1]
        by_cases q : ra_xp g i j = ra_r g b i j
        · rw [if_pos q, if_pos q]
          have hc : i < g.la ∧ j < g.lb := by
            refine Classical.byContradiction fun hc => ?_
            unfold ra_xp at q; rw [if_neg hc] at q; omega
          unfold ra_e1; rw [if_pos hc, ra_ct_sc]; rfl
        · rw [if_neg q, if_neg q]
    · by_cases hc : i < g.la
      · rw [ra_vl_e2 hj hc]
        unfold ra_e2; rw [if_pos hc, ra_ct_sc]; rfl
      · have q := ra_w1_no h (b := b) (j := j) hc
        rw [q.2, if_neg (by omega), if_neg (by omega)]
  · by_cases hc : j < g.lb
    · rw [ra_vl_e3 hi hc]
      unfold ra_e3; rw [if_pos hc, ra_ct_sc]; rfl
    · have q := ra_w2_no h (b := b) (i := i) hc
      rw [q.2, if_neg (by omega), if_neg (by omega)]
theorem ra_r_ge {g : ra_G} (h : ra_bd g) {b i j : Nat} (hi : i ≤ g.la) (hj : j ≤ g.lb) : ra_xe g i j ≤ ra_r g b i j ∧ ra_xp g i j ≤ ra_r g b i j ∧ ra_w g b i j 1 ≤ ra_r g b i j ∧ ra_w g b i j 2 ≤ ra_r g b i j := by
  have hm := ra_r_max h (b := b) hi hj
  generalize ra_r g b i j = r at hm ⊢
  generalize ra_xe g i j = x1 at hm ⊢
  generalize ra_xp g i j = x2 at hm ⊢
  generalize ra_w g b i j 1 = x3 at hm ⊢
  generalize ra_w g b i j 2 = x4 at hm ⊢
  clear h hi hj
  refine ⟨?_, ?_, ?_, ?_⟩ <;> omega
theorem ra_r_or {g : ra_G} (h : ra_bd g) {b i j : Nat} (hi : i ≤ g.la) (hj : j ≤ g.lb) : ra_xe g i j = ra_r g b i j ∨ ra_xp g i j = ra_r g b i j ∨ ra_w g b i j 1 = ra_r g b i j ∨ ra_w g b i j 2 = ra_r g b i j := by
  have hm := ra_r_max h (b := b) hi hj
  generalize ra_r g b i j = r at hm ⊢
  generalize ra_xe g i j = x1 at hm ⊢
  generalize ra_xp g i j = x2 at hm ⊢
  generalize ra_w g b i j 1 = x3 at hm ⊢
  generalize ra_w g b i j 2 = x4 at hm ⊢
  clear h hi hj
  omega
