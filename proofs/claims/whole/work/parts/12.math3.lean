/-! Mathematics, third part: the first of the best layings, step by step and run by run. -/
def ra_da (s : Nat) : Nat := if s = 2 then 0 else 1
def ra_db (s : Nat) : Nat := if s = 1 then 0 else 1
/-- the first best step from here; 3: the laying ends -/
def ra_st (g : ra_G) (b i j : Nat) : Nat := if ra_xe g i j = ra_r g b i j then 3 else if ra_w g b i j 0 = ra_r g b i j then 0 else if ra_w g b i j 1 = ra_r g b i j then 1 else 2
def ra_pa (g : ra_G) : Nat → Nat → Nat → Nat → List Nat
  | 0, _, _, _ => []
  | n + 1, b, i, j => if ra_st g b i j = 3 then [] else ra_st g b i j :: ra_pa g n (ra_st g b i j) (i + ra_da (ra_st g b i j)) (j + ra_db (ra_st g b i j))
theorem ra_w_0 (g : ra_G) (b i j : Nat) : ra_w g b i j 0 = ra_xp g i j := by unfold ra_w; rw [if_pos rfl]
theorem ra_st_le (g : ra_G) (b i j : Nat) : ra_st g b i j ≤ 3 := by
  unfold ra_st
  repeat' split
  all_goals omega
theorem ra_st_3 {g : ra_G} {b i j : Nat} (h : ra_st g b i j = 3) : ra_xe g i j = ra_r g b i j := by
  unfold ra_st at h; split at h
  · assumption
  · split at h
    · omega
    · split at h <;> omega
theorem ra_st_0 {g : ra_G} {b i j : Nat} (h : ra_st g b i j = 0) : ra_xe g i j ≠ ra_r g b i j ∧ ra_xp g i j = ra_r g b i j := by
  unfold ra_st at h; rw [ra_w_0] at h; split at h
  · omega
  · split at h
    · constructor <;> assumption
    · split at h <;> omega
theorem ra_st_1 {g : ra_G} {b i j : Nat} (h : ra_st g b i j = 1) : ra_xe g i j ≠ ra_r g b i j ∧ ra_xp g i j ≠ ra_r g b i j ∧ ra_w g b i j 1 = ra_r g b i j := by
  unfold ra_st at h; rw [ra_w_0] at h; split at h
  · omega
  · split at h
    · omega
    · split at h
      · refine ⟨?_, ?_, ?_⟩ <;> assumption
      · omega
theorem ra_st_2 {g : ra_G} (hb : ra_bd g) {b i j : Nat} (hi : i ≤ g.la) (hj : j ≤ g.lb) (h : ra_st g b i j = 2) : ra_xe g i j ≠ ra_r g b i j ∧ ra_xp g i j ≠ ra_r g b i j ∧ ra_w g b i j 1 ≠ ra_r g b i j ∧ ra_w g b i j 2 = ra_r g b i j := by
  unfold ra_st at h; rw [ra_w_0] at h; split at h
  · omega
  · split at h
    · omega
    · split at h
      · omega
      · rename_i a1 a2 a3
        exact ⟨a1, a2, a3, ((((ra_r_or hb (b := b) hi hj).resolve_left a1).resolve_left a2).resolve_left a3)⟩
theorem ra_xp_in {g : ra_G} (hb : ra_bd g) {b i j : Nat} (hi : i ≤ g.la) (hj : j ≤ g.lb) (h : ra_xp g i j = ra_r g b i j) : i < g.la ∧ j < g.lb := by
  have hr := ra_r_bd hb (b := b) hi hj
  refine Classical.byContradiction fun hc => ?_
  unfold ra_xp at h; rw [if_neg hc] at h; omega
theorem ra_w1_in {g : ra_G} (hb : ra_bd g) {b i j : Nat} (hi : i ≤ g.la) (hj : j ≤ g.lb) (h : ra_w g b i j 1 = ra_r g b i j) : i < g.la := by
  have hr := ra_r_bd hb (b := b) hi hj
  refine Classical.byContradiction fun hc => ?_
  have := ra_w1_no hb (b := b) (j := j) hc
  omega
theorem ra_w2_in {g : ra_G} (hb : ra_bd g) {b i j : Nat} (hi : i ≤ g.la) (hj : j ≤ g.lb) (h : ra_w g b i j 2 = ra_r g b i j) : j < g.lb := by
  have hr := ra_r_bd hb (b := b) hi hj
  refine Classical.byContradiction fun hc => ?_
  have := ra_w2_no hb (b := b) (i := i) hc
  omega
/-- a step that isn't the end stays within the rows -/
theorem ra_st_in {g : ra_G} (hb : ra_bd g) {b i j : Nat} (hi : i ≤ g.la) (hj : j ≤ g.lb) (h : ra_st g b i j ≠ 3) :
    ra_st g b i j ≤ 2 ∧ i + ra_da (ra_st g b i j) ≤ g.la ∧ j + ra_db (ra_st g b i j) ≤ g.lb ∧ (g.la - (i + ra_da (ra_st g b i j))) + (g.lb - (j + ra_db (ra_st g b i j))) < (g.la - i) + (g.lb - j) := by
  have h4 := ra_st_le g b i j
  generalize hs : ra_st g b i j = s at h h4 ⊢
  have hs' : s = 0 ∨ s = 1 ∨ s = 2 := by omega
  rcases hs' with rfl | rfl | rfl
  · have q := ra_xp_in hb hi hj (ra_st_0 hs).2
    unfold ra_da ra_db; simp; omega
  · have q := ra_w1_in hb hi hj (ra_st_1 hs).2.2
    unfold ra_da ra_db; simp; omega
  · have q := ra_w2_in hb hi hj (ra_st_2 hb hi hj hs).2.2.2
    unfold ra_da ra_db; simp; omega
theorem ra_xe_end (g : ra_G) : ra_xe g g.la g.lb = 0 := by unfold ra_xe; rw [if_pos (Or.inr ⟨rfl, rfl⟩)]
theorem ra_r_end {g : ra_G} (hb : ra_bd g) (b : Nat) : ra_r g b g.la g.lb = 0 := by
  have h1 := ra_w1_no hb (b := b) (i := g.la) (j := g.lb) (by omega)
  have h2 := ra_w2_no hb (b := b) (i := g.la) (j := g.lb) (by omega)
  have h3 : ra_xp g g.la g.lb = (-100000000 : Int) := by unfold ra_xp; rw [if_neg (by omega)]
  have hbd := ra_r_bd hb (b := b) (Nat.le_refl g.la) (Nat.le_refl g.lb)
  rcases ra_r_or hb (b := b) (Nat.le_refl g.la) (Nat.le_refl g.lb) with h | h | h | h
  · rw [ra_xe_end] at h; exact h.symm
  · omega
  · omega
  · omega
theorem ra_st_end {g : ra_G} (hb : ra_bd g) (b : Nat) : ra_st g b g.la g.lb = 3 := by
  unfold ra_st; rw [if_pos]; rw [ra_xe_end, ra_r_end hb]
theorem ra_pa_fuel {g : ra_G} (hb : ra_bd g) : ∀ (n m b i j : Nat), i ≤ g.la → j ≤ g.lb → (g.la - i) + (g.lb - j) ≤ n → (g.la - i) + (g.lb - j) ≤ m → ra_pa g n b i j = ra_pa g m b i j := by
  have z : ∀ (m b i j : Nat), i ≤ g.la → j ≤ g.lb → (g.la - i) + (g.lb - j) = 0 → ra_pa g m b i j = [] := by
    intro m b i j hi hj h0
    have e1 : i = g.la := by omega
    have e2 : j = g.lb := by omega
    subst e1; subst e2
    cases m with
    | zero => rfl
    | succ m => simp only [ra_pa]; rw [if_pos (ra_st_end hb b)]
  intro n
  induction n with
  | zero => intro m b i j hi hj h1 h2; rw [z m b i j hi hj (by omega)]; rfl
  | succ n ih =>
    intro m b i j hi hj h1 h2
    cases m with
    | zero => rw [z (n + 1) b i j hi hj (by omega)]; rfl
    | succ m =>
      simp only [ra_pa]
      by_cases h3 : ra_st g b i j = 3
      · rw [if_pos h3, if_pos h3]
      · rw [if_neg h3, if_neg h3]
        have q := ra_st_in hb hi hj h3
        rw [ih m _ _ _ q.2.1 q.2.2.1 (by omega) (by omega)]
def ra_pth (g : ra_G) (b i j : Nat) : List Nat := ra_pa g ((g.la - i) + (g.lb - j)) b i j
theorem ra_pth_stop {g : ra_G} (hb : ra_bd g) {b i j : Nat} (hi : i ≤ g.la) (hj : j ≤ g.lb) (h : ra_st g b i j = 3) : ra_pth g b i j = [] := by
  unfold ra_pth
  rw [ra_pa_fuel hb _ ((g.la - i) + (g.lb - j) + 1) b i j hi hj (by omega) (by omega)]
  simp only [ra_pa]; rw [if_pos h]
theorem ra_pth_step {g : ra_G} (hb : ra_bd g) {b i j : Nat} (hi : i ≤ g.la) (hj : j ≤ g.lb) (h : ra_st g b i j ≠ 3) :
    ra_pth g b i j = ra_st g b i j :: ra_pth g (ra_st g b i j) (i + ra_da (ra_st g b i j)) (j + ra_db (ra_st g b i j)) := by
  have q := ra_st_in hb hi hj h
  unfold ra_pth
  rw [ra_pa_fuel hb _ ((g.la - i) + (g.lb - j) + 1) b i j hi hj (by omega) (by omega)]
  simp only [ra_pa]; rw [if_neg h]
  rw [ra_pa_fuel hb _ _ _ _ _ q.2.1 q.2.2.1 (by omega) (Nat.le_refl _)]
theorem ra_pth_len {g : ra_G} (hb : ra_bd g) : ∀ (n b i j : Nat), i ≤ g.la → j ≤ g.lb → (g.la - i) + (g.lb - j) ≤ n → (ra_pth g b i j).length ≤ (g.la - i) + (g.lb - j) ∧ ∀ s ∈ ra_pth g b i j, s ≤ 2 := by
  intro n
  induction n with
  | zero =>
    intro b i j hi hj hn
    have e : ra_pth g b i j = [] := by unfold ra_pth; rw [show (g.la - i) + (g.lb - j) = 0 by omega]; rfl
    rw [e]; simp
  | succ n ih =>
    intro b i j hi hj hn
    by_cases h3 : ra_st g b i j = 3
    · rw [ra_pth_stop hb hi hj h3]; simp
    · have q := ra_st_in hb hi hj h3
      have z := ih (ra_st g b i j) _ _ q.2.1 q.2.2.1 (by omega)
      rw [ra_pth_step hb hi hj h3]
      refine ⟨?_, ?_⟩
      · rw [List.length_cons]; omega
      · intro s hs
        rcases List.mem_cons.mp hs with rfl | hs
        · exact q.1
        · exact z.2 s hs
/-! run by run -/
/-- the run table's number -/
def ra_mv (g : ra_G) (b i j : Nat) : Int := ra_vl (ra_m g b i j)
abbrev ra_is (g : ra_G) (w : Int) (b i j : Nat) (goal : Int) : Prop := ra_mv g b i j ≠ (-100000000 : Int) ∧ w + ra_mv g b i j = goal
abbrev ra_fin (g : ra_G) (i j n : Nat) : Prop := ((i + n = g.la ∧ j = g.lb) ∨ (g.pt = true ∧ ra_mv g 1 (i + n) j = 0)) ∨ ((i + n < g.la ∧ j < g.lb) ∧ ra_is g (g.sc (i + n) j) 0 (i + n + 1) (j + 1) (ra_mv g 1 (i + n) j))
def ra_go (g : ra_G) (i j : Nat) (goal : Int) : Nat → Nat → Nat → Nat
  | 0, _, last => last
  | k + 1, n, last => if ra_is g (-(ra_g1 g i j n)) 1 (i + n) j goal then (if ra_fin g i j n then n else ra_go g i j goal k (n + 1) n) else ra_go g i j goal k (n + 1) last
def ra_gh (g : ra_G) (i j : Nat) (goal : Int) : Nat → Nat → Nat
  | 0, _ => 0
  | k + 1, n => if ra_is g (-(ra_g2 g i j n)) 2 i (j + n) goal then n else ra_gh g i j goal k (n + 1)
def ra_mp (g : ra_G) : Nat → Nat → Nat → Nat → List Nat
  | 0, _, _, _ => []
  | k + 1, b, i, j => if (i = g.la ∧ j = g.lb) ∨ (g.pt = true ∧ ra_mv g b i j = 0) then []
      else if (i < g.la ∧ j < g.lb) ∧ ra_is g (g.sc i j) 0 (i + 1) (j + 1) (ra_mv g b i j) then 0 :: ra_mp g k 0 (i + 1) (j + 1)
      else if b ≠ 1 ∧ 0 < ra_go g i j (ra_mv g b i j) (g.la - i) 1 0 then List.replicate (ra_go g i j (ra_mv g b i j) (g.la - i) 1 0) 1 ++ ra_mp g k 1 (i + ra_go g i j (ra_mv g b i j) (g.la - i) 1 0) j
      else List.replicate (ra_gh g i j (ra_mv g b i j) (g.lb - j) 1) 2 ++ ra_mp g k 2 i (j + ra_gh g i j (ra_mv g b i j) (g.lb - j) 1)
theorem ra_e2_s1 {g : ra_G} (hw : ra_wf g) (b i j : Nat) : ra_e2 g b i j = ra_sc (-(if b = 1 then 0 else ra_o1 g j)) (ra_s1 g i j) := by
  unfold ra_e2
  by_cases h1 : i < g.la
  · rw [if_pos h1, (ra_rel hw _ (i + 1) j (Nat.le_refl _)).2.1 (Or.inr (Or.inr (Or.inl ⟨rfl, by omega⟩))), ← ra_s1_step h1, ra_sc_sc]
    congr 1
    split <;> omega
  · rw [if_neg h1]
    have s1 : ra_s1 g i j = none := by unfold ra_s1; rw [show g.la - i = 0 by omega]; rfl
    rw [s1, ra_sc_none]
theorem ra_e3_s2 {g : ra_G} (hw : ra_wf g) (b i j : Nat) : ra_e3 g b i j = ra_sc (-(if b = 2 then 0 else ra_o2 g i)) (ra_s2 g i j) := by
  unfold ra_e3
  by_cases h1 : j < g.lb
  · rw [if_pos h1, (ra_rel hw _ i (j + 1) (Nat.le_refl _)).2.2 (Or.inr (Or.inr (Or.inr ⟨rfl, by omega⟩))), ← ra_s2_step h1, ra_sc_sc]
    congr 1
    split <;> omega
  · rw [if_neg h1]
    have s2 : ra_s2 g i j = none := by unfold ra_s2; rw [show g.lb - j = 0 by omega]; rfl
    rw [s2, ra_sc_none]
theorem ra_e1_p1 {g : ra_G} (hw : ra_wf g) (i j : Nat) : ra_e1 g i j = ra_p1 g i j := by
  unfold ra_e1 ra_p1
  split
  · rw [(ra_rel hw _ (i + 1) (j + 1) (Nat.le_refl _)).1 (Or.inr (Or.inl ⟨rfl, Or.inr ⟨by omega, by omega⟩⟩))]
  · rfl
theorem ra_m_0 {g : ra_G} (hw : ra_wf g) {i j : Nat} (hr : ra_re g 0 i j) : ra_m g 0 i j = ra_c g 0 i j := ((ra_rel hw _ i j (Nat.le_refl _)).1 hr).symm
theorem ra_m_1 {g : ra_G} (hw : ra_wf g) {i j : Nat} (hr : ra_re g 1 i j) : ra_m g 1 i j = ra_or (ra_or (ra_end g i j) (ra_e1 g i j)) (ra_e3 g 1 i j) := by
  rw [ra_m_or hw hr, ra_e1_p1 hw, ra_e3_s2 hw]; simp [ra_or_none]
theorem ra_m_2 {g : ra_G} (hw : ra_wf g) {i j : Nat} (hr : ra_re g 2 i j) : ra_m g 2 i j = ra_or (ra_or (ra_end g i j) (ra_e1 g i j)) (ra_e2 g 2 i j) := by
  rw [ra_m_or hw hr, ra_e1_p1 hw, ra_e2_s1 hw]; simp [ra_or_none]
theorem ra_mv_0 {g : ra_G} (hw : ra_wf g) {i j : Nat} (hr : ra_re g 0 i j) : ra_mv g 0 i j = ra_r g 0 i j := by
  unfold ra_mv ra_r; rw [ra_m_0 hw hr]
/-- a run of A that ends here: all but going on with it -/
theorem ra_mv_1 {g : ra_G} (hb : ra_bd g) (hw : ra_wf g) {i j : Nat} (hr : ra_re g 1 i j) (hi : i ≤ g.la) (_hj : j ≤ g.lb) : ra_mv g 1 i j = max (max (ra_xe g i j) (ra_xp g i j)) (if j < g.lb then ra_w g 1 i j 2 else (-100000000 : Int)) := by
  have o0 := ra_end_ok g i j 201024 (by omega)
  have o1 := ra_e1_ok hb i j
  have o3 := ra_e3_ok hb 1 i j
  unfold ra_mv
  rw [ra_m_1 hw hr, ra_vl_or (ra_ok_or o0 o1) o3 (by omega), ra_vl_or o0 o1 (by omega), ra_vl_end, ra_vl_e1]
  by_cases h : j < g.lb
  · rw [if_pos h, ra_vl_e3 hi h]
  · rw [if_neg h, (ra_w2_no hb (b := 1) (i := i) h).2]
theorem ra_mv_2 {g : ra_G} (hb : ra_bd g) (hw : ra_wf g) {i j : Nat} (hr : ra_re g 2 i j) (_hi : i ≤ g.la) (hj : j ≤ g.lb) : ra_mv g 2 i j = max (max (ra_xe g i j) (ra_xp g i j)) (if i < g.la then ra_w g 2 i j 1 else (-100000000 : Int)) := by
  have o0 := ra_end_ok g i j 201024 (by omega)
  have o1 := ra_e1_ok hb i j
  have o2 := ra_e2_ok hb 2 i j
  unfold ra_mv
  rw [ra_m_2 hw hr, ra_vl_or (ra_ok_or o0 o1) o2 (by omega), ra_vl_or o0 o1 (by omega), ra_vl_end, ra_vl_e1]
  by_cases h : i < g.la
  · rw [if_pos h, ra_vl_e2 hj h]
  · rw [if_neg h, (ra_w1_no hb (b := 2) (j := j) h).2]
theorem ra_mx {x y z m : Int} (h : m = max (max x y) z) : x ≤ m ∧ y ≤ m ∧ z ≤ m ∧ (m = x ∨ m = y ∨ m = z) := by omega
theorem ra_mv_1_ge {g : ra_G} (hb : ra_bd g) (hw : ra_wf g) {i j : Nat} (hr : ra_re g 1 i j) (hi : i ≤ g.la) (hj : j ≤ g.lb) : ra_xe g i j ≤ ra_mv g 1 i j ∧ ra_xp g i j ≤ ra_mv g 1 i j ∧ (j < g.lb → ra_w g 1 i j 2 ≤ ra_mv g 1 i j) := by
  have q := ra_mx (ra_mv_1 hb hw hr hi hj)
  refine ⟨q.1, q.2.1, fun h => ?_⟩
  have := q.2.2.1
  rw [if_pos h] at this; exact this
theorem ra_mv_1_or {g : ra_G} (hb : ra_bd g) (hw : ra_wf g) {i j : Nat} (hr : ra_re g 1 i j) (hi : i ≤ g.la) (hj : j ≤ g.lb) : ra_mv g 1 i j = ra_xe g i j ∨ ra_mv g 1 i j = ra_xp g i j ∨ (j < g.lb ∧ ra_mv g 1 i j = ra_w g 1 i j 2) ∨ ra_mv g 1 i j = (-100000000 : Int) := by
  have q := (ra_mx (ra_mv_1 hb hw hr hi hj)).2.2.2
  rcases q with q | q | q
  · exact Or.inl q
  · exact Or.inr (Or.inl q)
  · by_cases h : j < g.lb
    · rw [if_pos h] at q; exact Or.inr (Or.inr (Or.inl ⟨h, q⟩))
    · rw [if_neg h] at q; exact Or.inr (Or.inr (Or.inr q))
theorem ra_mv_2_ge {g : ra_G} (hb : ra_bd g) (hw : ra_wf g) {i j : Nat} (hr : ra_re g 2 i j) (hi : i ≤ g.la) (hj : j ≤ g.lb) : ra_xe g i j ≤ ra_mv g 2 i j ∧ ra_xp g i j ≤ ra_mv g 2 i j ∧ (i < g.la → ra_w g 2 i j 1 ≤ ra_mv g 2 i j) := by
  have q := ra_mx (ra_mv_2 hb hw hr hi hj)
  refine ⟨q.1, q.2.1, fun h => ?_⟩
  have := q.2.2.1
  rw [if_pos h] at this; exact this
theorem ra_mv_2_or {g : ra_G} (hb : ra_bd g) (hw : ra_wf g) {i j : Nat} (hr : ra_re g 2 i j) (hi : i ≤ g.la) (hj : j ≤ g.lb) : ra_mv g 2 i j = ra_xe g i j ∨ ra_mv g 2 i j = ra_xp g i j ∨ (i < g.la ∧ ra_mv g 2 i j = ra_w g 2 i j 1) ∨ ra_mv g 2 i j = (-100000000 : Int) := by
  have q := (ra_mx (ra_mv_2 hb hw hr hi hj)).2.2.2
  rcases q with q | q | q
  · exact Or.inl q
  · exact Or.inr (Or.inl q)
  · by_cases h : i < g.la
    · rw [if_pos h] at q; exact Or.inr (Or.inr (Or.inl ⟨h, q⟩))
    · rw [if_neg h] at q; exact Or.inr (Or.inr (Or.inr q))
theorem ra_mv_le {g : ra_G} (hb : ra_bd g) (hw : ra_wf g) {b i j : Nat} (h3 : b < 3) (hr : ra_re g b i j) (hi : i ≤ g.la) (hj : j ≤ g.lb) : ra_mv g b i j ≤ ra_r g b i j := by
  have hg := ra_r_ge hb (b := b) hi hj
  have hbd := ra_r_bd hb (b := b) hi hj
  have hb' : b = 0 ∨ b = 1 ∨ b = 2 := by omega
  rcases hb' with rfl | rfl | rfl
  · rw [ra_mv_0 hw hr]; exact Int.le_refl _
  · rcases ra_mv_1_or hb hw hr hi hj with h | h | h | h
    · rw [h]; exact hg.1
    · rw [h]; exact hg.2.1
    · rw [h.2]; exact hg.2.2.2
    · omega
  · rcases ra_mv_2_or hb hw hr hi hj with h | h | h | h
    · rw [h]; exact hg.1
    · rw [h]; exact hg.2.1
    · rw [h.2]; exact hg.2.2.1
    · omega
theorem ra_mv_some {g : ra_G} {b i j : Nat} (h : ra_mv g b i j ≠ (-100000000 : Int)) : ∃ a, ra_m g b i j = some a := by
  unfold ra_mv at h
  cases hc : ra_m g b i j with
  | none => rw [hc] at h; exact absurd rfl h
  | some a => exact ⟨a, rfl⟩
theorem ra_g1_eq {g : ra_G} (hw : ra_wf g) {b i j n : Nat} (hb : b ≠ 1) (hr : ra_re g b i j) (hn : 1 ≤ n) (hi : i + n ≤ g.la) (h : ra_mv g 1 (i + n) j ≠ (-100000000 : Int)) : ra_g1 g i j n = ra_o1 g j + ra_m1 g j * n := by
  obtain ⟨a, ha⟩ := ra_mv_some h
  have e := ra_gap1 hw hb hr hn hi
  rw [ha] at e
  simp only [ra_sc, Option.some.injEq, Prod.mk.injEq] at e
  omega
theorem ra_g2_eq {g : ra_G} (hw : ra_wf g) {b i j n : Nat} (hb : b ≠ 2) (hr : ra_re g b i j) (hn : 1 ≤ n) (hj : j + n ≤ g.lb) (h : ra_mv g 2 i (j + n) ≠ (-100000000 : Int)) : ra_g2 g i j n = ra_o2 g i + ra_m2 g i * n := by
  obtain ⟨a, ha⟩ := ra_mv_some h
  have e := ra_gap2 hw hb hr hn hj
  rw [ha] at e
  simp only [ra_sc, Option.some.injEq, Prod.mk.injEq] at e
  omega
/-- the end is best -/
theorem ra_xe_iff {g : ra_G} (hb : ra_bd g) {b i j : Nat} (hi : i ≤ g.la) (hj : j ≤ g.lb) : ra_xe g i j = ra_r g b i j ↔ (i = g.la ∧ j = g.lb) ∨ (g.pt = true ∧ ra_r g b i j = 0) := by
  have hbd := ra_r_bd hb (b := b) hi hj
  constructor
  · intro h
    unfold ra_xe at h
    split at h
    · rename_i hc
      rcases hc with hc | hc
      · exact Or.inr ⟨hc, by omega⟩
      · exact Or.inl hc
    · omega
  · intro h
    unfold ra_xe
    rcases h with ⟨rfl, rfl⟩ | ⟨h1, h2⟩
    · rw [if_pos (Or.inr ⟨rfl, rfl⟩), ra_r_end hb]
    · rw [if_pos (Or.inl h1), h2]
theorem ra_xp_iff {g : ra_G} (hb : ra_bd g) (hw : ra_wf g) {b i j : Nat} (hi : i ≤ g.la) (hj : j ≤ g.lb) : ra_xp g i j = ra_r g b i j ↔ (i < g.la ∧ j < g.lb) ∧ ra_is g (g.sc i j) 0 (i + 1) (j + 1) (ra_r g b i j) := by
  constructor
  · intro h
    have hc := ra_xp_in hb hi hj h
    have hbd := ra_r_bd hb (b := 0) (i := i + 1) (j := j + 1) (by omega) (by omega)
    have e := ra_mv_0 hw (g := g) (i := i + 1) (j := j + 1) (Or.inr (Or.inl ⟨rfl, Or.inr ⟨by omega, by omega⟩⟩))
    unfold ra_xp at h; rw [if_pos hc] at h
    refine ⟨hc, ?_, ?_⟩
    · rw [e]; omega
    · rw [e]; exact h
  · intro ⟨hc, _, h⟩
    have e := ra_mv_0 hw (g := g) (i := i + 1) (j := j + 1) (Or.inr (Or.inl ⟨rfl, Or.inr ⟨by omega, by omega⟩⟩))
    unfold ra_xp; rw [if_pos hc, ← e]; exact h
theorem ra_w1_b {g : ra_G} {b i j : Nat} (hi : i < g.la) : ra_w g b i j 1 = ra_r g 1 (i + 1) j - ra_m1 g j - (if b = 1 then 0 else ra_o1 g j) := by
  unfold ra_w ra_xo
  rw [if_pos hi, if_neg (by omega), if_pos rfl]
  split <;> omega
theorem ra_w2_b {g : ra_G} {b i j : Nat} (hj : j < g.lb) : ra_w g b i j 2 = ra_r g 2 i (j + 1) - ra_m2 g i - (if b = 2 then 0 else ra_o2 g i) := by
  unfold ra_w ra_xt
  rw [if_pos hj, if_neg (by omega), if_neg (by omega)]
  split <;> omega
theorem ra_mul1 (x : Int) (n : Nat) : x * ((n + 1 : Nat) : Int) = x * (n : Int) + x := by
  rw [Int.natCast_add, Int.mul_add]; simp
theorem ra_r1_mono {g : ra_G} (hb : ra_bd g) {j : Nat} (hj : j ≤ g.lb) : ∀ (d i : Nat), i + d ≤ g.la → ra_r g 1 (i + d) j - ra_m1 g j * d ≤ ra_r g 1 i j := by
  intro d
  induction d with
  | zero => intro i _; simp
  | succ d ih =>
    intro i hd
    have h1 := ih (i + 1) (by omega)
    have hm := (ra_r_ge hb (b := 1) (i := i) (j := j) (by omega) hj).2.2.1
    have hw := ra_w1_b (g := g) (b := 1) (i := i) (j := j) (by omega)
    rw [if_pos rfl] at hw
    rw [ra_mul1, show i + (d + 1) = i + 1 + d by omega]
    omega
theorem ra_r2_mono {g : ra_G} (hb : ra_bd g) {i : Nat} (hi : i ≤ g.la) : ∀ (d j : Nat), j + d ≤ g.lb → ra_r g 2 i (j + d) - ra_m2 g i * d ≤ ra_r g 2 i j := by
  intro d
  induction d with
  | zero => intro j _; simp
  | succ d ih =>
    intro j hd
    have h1 := ih (j + 1) (by omega)
    have hm := (ra_r_ge hb (b := 2) (i := i) (j := j) hi (by omega)).2.2.2
    have hw := ra_w2_b (g := g) (b := 2) (i := i) (j := j) (by omega)
    rw [if_pos rfl] at hw
    rw [ra_mul1, show j + (d + 1) = j + 1 + d by omega]
    omega
theorem ra_go_none {g : ra_G} {i j : Nat} {goal : Int} : ∀ (k n last : Nat), (∀ n', n ≤ n' → n' < n + k → ¬ ra_is g (-(ra_g1 g i j n')) 1 (i + n') j goal) → ra_go g i j goal k n last = last := by
  intro k
  induction k with
  | zero => intro n last _; rfl
  | succ k ih =>
    intro n last h
    simp only [ra_go]
    rw [if_neg (h n (Nat.le_refl _) (by omega))]
    exact ih (n + 1) last (fun n' h1 h2 => h n' (by omega) (by omega))
/-- closing the run of A at a later place can't be best where going on isn't -/
theorem ra_is_later {g : ra_G} (hb : ra_bd g) (hw : ra_wf g) {b i j n' : Nat} {goal : Int} (hb1 : b ≠ 1) (hr : ra_re g b i j) (hn : 1 ≤ n') (hi : i + n' ≤ g.la) (hj : j ≤ g.lb) (h : ra_is g (-(ra_g1 g i j n')) 1 (i + n') j goal) : goal + ra_o1 g j + ra_m1 g j * n' ≤ ra_r g 1 (i + n') j := by
  have e := ra_g1_eq hw hb1 hr hn hi h.1
  have q := ra_mv_le hb hw (b := 1) (i := i + n') (j := j) (by omega) (Or.inr (Or.inr (Or.inl ⟨rfl, by omega⟩))) hi hj
  have h2 := h.2
  omega
theorem ra_run1 {g : ra_G} (hb : ra_bd g) (hw : ra_wf g) {b i j : Nat} {goal : Int} (hb1 : b ≠ 1) (hr : ra_re g b i j) (hj : j ≤ g.lb) :
    ∀ (k n last : Nat), 1 ≤ n → i + n ≤ g.la → k + (i + n) = g.la + 1 → -(ra_o1 g j + ra_m1 g j * n) + ra_r g 1 (i + n) j = goal →
      ∃ N, n ≤ N ∧ i + N ≤ g.la ∧ ra_go g i j goal k n last = N ∧ ra_pth g 1 (i + n) j = List.replicate (N - n) 1 ++ ra_pth g 1 (i + N) j ∧ ra_mv g 1 (i + N) j = ra_r g 1 (i + N) j ∧ ra_st g 1 (i + N) j ≠ 1 := by
  intro k
  induction k with
  | zero => intro n last h1 h2 h3; omega
  | succ k ih =>
    intro n last h1 h2 h3 htr
    have hre : ra_re g 1 (i + n) j := Or.inr (Or.inr (Or.inl ⟨rfl, by omega⟩))
    have hbd := ra_r_bd hb (b := 1) (i := i + n) (j := j) h2 hj
    have hle := ra_mv_le hb hw (b := 1) (by omega) hre h2 hj
    have hge := ra_mv_1_ge hb hw hre h2 hj
    have hxe := ra_xe_iff hb (b := 1) (i := i + n) (j := j) h2 hj
    have hxp := ra_xp_iff hb hw (b := 1) (i := i + n) (j := j) h2 hj
    have hco : ra_mv g 1 (i + n) j = ra_r g 1 (i + n) j → ra_is g (-(ra_g1 g i j n)) 1 (i + n) j goal := by
      intro h
      have hne : ra_mv g 1 (i + n) j ≠ (-100000000 : Int) := by rw [h]; omega
      refine ⟨hne, ?_⟩
      rw [ra_g1_eq hw hb1 hr h1 h2 hne, h]; exact htr
    have hoc : ra_is g (-(ra_g1 g i j n)) 1 (i + n) j goal → ra_mv g 1 (i + n) j = ra_r g 1 (i + n) j := by
      intro h
      have e := ra_g1_eq hw hb1 hr h1 h2 h.1
      have := h.2
      omega
    have hfin : ra_mv g 1 (i + n) j = ra_r g 1 (i + n) j → (ra_fin g i j n ↔ ra_xe g (i + n) j = ra_r g 1 (i + n) j ∨ ra_xp g (i + n) j = ra_r g 1 (i + n) j) := by
      intro h
      rw [hxe, hxp]
      unfold ra_fin
      rw [h]
    have hst := ra_st_le g 1 (i + n) j
    have cs : ra_st g 1 (i + n) j = 3 ∨ ra_st g 1 (i + n) j = 0 ∨ ra_st g 1 (i + n) j = 1 ∨ ra_st g 1 (i + n) j = 2 := by omega
    rcases cs with hs | hs | hs | hs
    · have a := ra_st_3 hs
      have hM : ra_mv g 1 (i + n) j = ra_r g 1 (i + n) j := Int.le_antisymm hle (a ▸ hge.1)
      refine ⟨n, Nat.le_refl _, h2, ?_, by simp, hM, by omega⟩
      simp only [ra_go]; rw [if_pos (hco hM), if_pos ((hfin hM).2 (Or.inl a))]
    · have a := (ra_st_0 hs).2
      have hM : ra_mv g 1 (i + n) j = ra_r g 1 (i + n) j := Int.le_antisymm hle (a ▸ hge.2.1)
      refine ⟨n, Nat.le_refl _, h2, ?_, by simp, hM, by omega⟩
      simp only [ra_go]; rw [if_pos (hco hM), if_pos ((hfin hM).2 (Or.inr a))]
    · have a := ra_st_1 hs
      have hlt := ra_w1_in hb h2 hj a.2.2
      have hw1 := ra_w1_b (g := g) (b := 1) (i := i + n) (j := j) hlt
      rw [if_pos rfl] at hw1
      have tr' : -(ra_o1 g j + ra_m1 g j * ((n + 1 : Nat) : Int)) + ra_r g 1 (i + (n + 1)) j = goal := by
        rw [ra_mul1, show i + (n + 1) = i + n + 1 by omega]; omega
      have go : ∀ l', ∃ N, n ≤ N ∧ i + N ≤ g.la ∧ ra_go g i j goal k (n + 1) l' = N ∧ ra_pth g 1 (i + n) j = List.replicate (N - n) 1 ++ ra_pth g 1 (i + N) j ∧ ra_mv g 1 (i + N) j = ra_r g 1 (i + N) j ∧ ra_st g 1 (i + N) j ≠ 1 := by
        intro l'
        obtain ⟨N, q1, q2, q3, q4, q5, q6⟩ := ih (n + 1) l' (by omega) (by omega) (by omega) tr'
        refine ⟨N, by omega, q2, q3, ?_, q5, q6⟩
        rw [ra_pth_step hb h2 hj (by omega), hs]
        show 1 :: ra_pth g 1 (i + (n + 1)) j = _
        rw [q4, show N - n = (N - (n + 1)) + 1 by omega]
        rfl
      simp only [ra_go]
      by_cases hi1 : ra_is g (-(ra_g1 g i j n)) 1 (i + n) j goal
      · have hM := hoc hi1
        have nf : ¬ ra_fin g i j n := fun h => by
          rcases (hfin hM).1 h with h | h
          · exact a.1 h
          · exact a.2.1 h
        rw [if_pos hi1, if_neg nf]
        exact go n
      · rw [if_neg hi1]
        exact go last
    · have a := ra_st_2 hb h2 hj hs
      have hlt := ra_w2_in hb h2 hj a.2.2.2
      have hM : ra_mv g 1 (i + n) j = ra_r g 1 (i + n) j := Int.le_antisymm hle (a.2.2.2 ▸ hge.2.2 hlt)
      have nf : ¬ ra_fin g i j n := fun h => by
        rcases (hfin hM).1 h with h | h
        · exact a.1 h
        · exact a.2.1 h
      refine ⟨n, Nat.le_refl _, h2, ?_, by simp, hM, by omega⟩
      simp only [ra_go]; rw [if_pos (hco hM), if_neg nf]
      refine ra_go_none k (n + 1) n (fun n' h4 h5 h6 => ?_)
      have q := ra_is_later hb hw hb1 hr (by omega) (by omega) hj h6
      have m1 := ra_r1_mono hb hj (n' - (n + 1)) (i + n + 1) (by omega)
      have hw1 := ra_w1_b (g := g) (b := 1) (i := i + n) (j := j) (by omega)
      rw [if_pos rfl] at hw1
      have hmx := (ra_r_ge hb (b := 1) (i := i + n) (j := j) h2 hj).2.2.1
      have e1 : i + n + 1 + (n' - (n + 1)) = i + n' := by omega
      rw [e1] at m1
      have e2 : ra_m1 g j * (n' : Int) = ra_m1 g j * ((n' - (n + 1) : Nat) : Int) + ra_m1 g j * (n : Int) + ra_m1 g j := by
        rw [show (n' : Int) = ((n' - (n + 1) : Nat) : Int) + (n : Int) + 1 by omega, Int.mul_add, Int.mul_add, Int.mul_one]
      exact a.2.2.1 (by omega)
theorem ra_run2 {g : ra_G} (hb : ra_bd g) (hw : ra_wf g) {b i j : Nat} {goal : Int} (hb2 : b ≠ 2) (hr : ra_re g b i j) (hi : i ≤ g.la) :
    ∀ (k n : Nat), 1 ≤ n → j + n ≤ g.lb → k + (j + n) = g.lb + 1 → -(ra_o2 g i + ra_m2 g i * n) + ra_r g 2 i (j + n) = goal →
      ∃ N, n ≤ N ∧ j + N ≤ g.lb ∧ ra_gh g i j goal k n = N ∧ ra_pth g 2 i (j + n) = List.replicate (N - n) 2 ++ ra_pth g 2 i (j + N) ∧ ra_mv g 2 i (j + N) = ra_r g 2 i (j + N) := by
  intro k
  induction k with
  | zero => intro n h1 h2 h3; omega
  | succ k ih =>
    intro n h1 h2 h3 htr
    have hre : ra_re g 2 i (j + n) := Or.inr (Or.inr (Or.inr ⟨rfl, by omega⟩))
    have hbd := ra_r_bd hb (b := 2) (i := i) (j := j + n) hi h2
    have hle := ra_mv_le hb hw (b := 2) (by omega) hre hi h2
    have hge := ra_mv_2_ge hb hw hre hi h2
    have hco : ra_mv g 2 i (j + n) = ra_r g 2 i (j + n) → ra_is g (-(ra_g2 g i j n)) 2 i (j + n) goal := by
      intro h
      have hne : ra_mv g 2 i (j + n) ≠ (-100000000 : Int) := by rw [h]; omega
      refine ⟨hne, ?_⟩
      rw [ra_g2_eq hw hb2 hr h1 h2 hne, h]; exact htr
    have hst := ra_st_le g 2 i (j + n)
    have cs : ra_st g 2 i (j + n) = 3 ∨ ra_st g 2 i (j + n) = 0 ∨ ra_st g 2 i (j + n) = 1 ∨ ra_st g 2 i (j + n) = 2 := by omega
    have stay : ra_mv g 2 i (j + n) = ra_r g 2 i (j + n) → ∃ N, n ≤ N ∧ j + N ≤ g.lb ∧ ra_gh g i j goal (k + 1) n = N ∧ ra_pth g 2 i (j + n) = List.replicate (N - n) 2 ++ ra_pth g 2 i (j + N) ∧ ra_mv g 2 i (j + N) = ra_r g 2 i (j + N) := by
      intro hM
      refine ⟨n, Nat.le_refl _, h2, ?_, by simp, hM⟩
      simp only [ra_gh]; rw [if_pos (hco hM)]
    rcases cs with hs | hs | hs | hs
    · have a := ra_st_3 hs
      exact stay (Int.le_antisymm hle (a ▸ hge.1))
    · have a := (ra_st_0 hs).2
      exact stay (Int.le_antisymm hle (a ▸ hge.2.1))
    · have a := ra_st_1 hs
      have hlt := ra_w1_in hb hi h2 a.2.2
      exact stay (Int.le_antisymm hle (a.2.2 ▸ hge.2.2 hlt))
    · have a := ra_st_2 hb hi h2 hs
      have hlt := ra_w2_in hb hi h2 a.2.2.2
      have hw2 := ra_w2_b (g := g) (b := 2) (i := i) (j := j + n) hlt
      rw [if_pos rfl] at hw2
      have tr' : -(ra_o2 g i + ra_m2 g i * ((n + 1 : Nat) : Int)) + ra_r g 2 i (j + (n + 1)) = goal := by
        rw [ra_mul1, show j + (n + 1) = j + n + 1 by omega]; omega
      have nM : ra_mv g 2 i (j + n) ≠ ra_r g 2 i (j + n) := by
        rcases ra_mv_2_or hb hw hre hi h2 with h | h | h | h
        · rw [h]; exact a.1
        · rw [h]; exact a.2.1
        · rw [h.2]; exact a.2.2.1
        · omega
      have ni : ¬ ra_is g (-(ra_g2 g i j n)) 2 i (j + n) goal := fun h => by
        have e := ra_g2_eq hw hb2 hr h1 h2 h.1
        have := h.2
        omega
      obtain ⟨N, q1, q2, q3, q4, q5⟩ := ih (n + 1) (by omega) (by omega) (by omega) tr'
      refine ⟨N, by omega, q2, ?_, ?_, q5⟩
      · simp only [ra_gh]; rw [if_neg ni]; exact q3
      · rw [ra_pth_step hb hi h2 (by omega), hs]
        show 2 :: ra_pth g 2 i (j + (n + 1)) = _
        rw [q4, show N - n = (N - (n + 1)) + 1 by omega]
        rfl
/-- **the first of the best layings is the same, step by step and run by run** -/
theorem ra_mp_eq {g : ra_G} (hb : ra_bd g) (hw : ra_wf g) : ∀ (k b i j : Nat), b < 3 → i ≤ g.la → j ≤ g.lb → ra_re g b i j → (g.la - i) + (g.lb - j) < k → ra_mv g b i j = ra_r g b i j → (b = 1 → ra_st g b i j ≠ 1) → ra_mp g k b i j = ra_pth g b i j := by
  intro k
  induction k with
  | zero => intro b i j _ _ _ _ h; omega
  | succ k ih =>
    intro b i j h3 hi hj hr hk hM hn1
    have hbd := ra_r_bd hb (b := b) hi hj
    have hxe := ra_xe_iff hb (b := b) hi hj
    have hxp := ra_xp_iff hb hw (b := b) hi hj
    have hst := ra_st_le g b i j
    simp only [ra_mp]
    rw [hM]
    have cs : ra_st g b i j = 3 ∨ ra_st g b i j = 0 ∨ ra_st g b i j = 1 ∨ ra_st g b i j = 2 := by omega
    rcases cs with hs | hs | hs | hs
    · rw [if_pos (hxe.1 (ra_st_3 hs)), ra_pth_stop hb hi hj hs]
    · have a := ra_st_0 hs
      have c := ra_xp_in hb hi hj a.2
      rw [if_neg (fun h => a.1 (hxe.2 h)), if_pos (hxp.1 a.2), ra_pth_step hb hi hj (by omega), hs]
      show 0 :: _ = 0 :: ra_pth g 0 (i + 1) (j + 1)
      have re : ra_re g 0 (i + 1) (j + 1) := Or.inr (Or.inl ⟨rfl, Or.inr ⟨by omega, by omega⟩⟩)
      rw [ih 0 (i + 1) (j + 1) (by omega) (by omega) (by omega) re (by omega) (ra_mv_0 hw re) (by omega)]
    · have a := ra_st_1 hs
      have hb1 : b ≠ 1 := fun h => hn1 h hs
      have c := ra_w1_in hb hi hj a.2.2
      have e := ra_w1_b (g := g) (b := b) (i := i) (j := j) c
      rw [if_neg hb1] at e
      rw [if_neg (fun h => a.1 (hxe.2 h)), if_neg (fun h => a.2.1 (hxp.2 h))]
      obtain ⟨N, q1, q2, q3, q4, q5, q6⟩ := ra_run1 hb hw (goal := ra_r g b i j) hb1 hr hj (g.la - i) 1 0 (by omega) (by omega) (by omega) (by
        have h1 : ((1 : Nat) : Int) = 1 := rfl
        rw [h1, Int.mul_one]; omega)
      rw [q3, if_pos ⟨hb1, by omega⟩, ra_pth_step hb hi hj (by omega), hs]
      show _ = 1 :: ra_pth g 1 (i + 1) j
      rw [q4, ih 1 (i + N) j (by omega) q2 hj (Or.inr (Or.inr (Or.inl ⟨rfl, by omega⟩))) (by omega) q5 (fun _ => q6)]
      obtain ⟨N, rfl⟩ : ∃ t, N = t + 1 := ⟨N - 1, by omega⟩
      rfl
    · have a := ra_st_2 hb hi hj hs
      have c := ra_w2_in hb hi hj a.2.2.2
      have e := ra_w2_b (g := g) (b := b) (i := i) (j := j) c
      have hb2 : b ≠ 2 := fun h => by
        subst h
        rcases ra_mv_2_or hb hw hr hi hj with h | h | h | h
        · rw [hM] at h; exact a.1 h.symm
        · rw [hM] at h; exact a.2.1 h.symm
        · rw [hM] at h; exact a.2.2.1 h.2.symm
        · rw [hM] at h; omega
      rw [if_neg hb2] at e
      rw [if_neg (fun h => a.1 (hxe.2 h)), if_neg (fun h => a.2.1 (hxp.2 h))]
      have no : ¬ (b ≠ 1 ∧ 0 < ra_go g i j (ra_r g b i j) (g.la - i) 1 0) := by
        rintro ⟨hb1, hgo⟩
        rw [ra_go_none (g.la - i) 1 0 (fun n' h4 h5 h6 => ?_)] at hgo
        · omega
        · have q := ra_is_later hb hw hb1 hr (by omega) (by omega) hj h6
          have m1 := ra_r1_mono hb hj (n' - 1) (i + 1) (by omega)
          have hw1 := ra_w1_b (g := g) (b := b) (i := i) (j := j) (by omega)
          have hmx := (ra_r_ge hb (b := b) hi hj).2.2.1
          rw [if_neg hb1] at hw1
          rw [show i + 1 + (n' - 1) = i + n' by omega] at m1
          have e2 : ra_m1 g j * (n' : Int) = ra_m1 g j * ((n' - 1 : Nat) : Int) + ra_m1 g j := by
            rw [show (n' : Int) = ((n' - 1 : Nat) : Int) + 1 by omega, Int.mul_add, Int.mul_one]
          exact a.2.2.1 (by omega)
      rw [if_neg no]
      obtain ⟨N, q1, q2, q3, q4, q5⟩ := ra_run2 hb hw (goal := ra_r g b i j) hb2 hr hi (g.lb - j) 1 (by omega) (by omega) (by omega) (by
        have h1 : ((1 : Nat) : Int) = 1 := rfl
        rw [h1, Int.mul_one]; omega)
      rw [q3, ra_pth_step hb hi hj (by omega), hs]
      show _ = 2 :: ra_pth g 2 i (j + 1)
      rw [q4, ih 2 i (j + N) (by omega) hi q2 (Or.inr (Or.inr (Or.inr ⟨rfl, by omega⟩))) (by omega) q5 (fun h => by omega)]
      obtain ⟨N, rfl⟩ : ∃ t, N = t + 1 := ⟨N - 1, by omega⟩
      rfl
