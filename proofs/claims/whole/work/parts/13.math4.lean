/-! Mathematics, fourth part: where the best layings go. -/
/-- some best laying comes to (i, j) by a step b; at most n - 1 steps -/
def ra_rf (g : ra_G) : Nat → Nat → Nat → Nat → Prop
  | 0, _, _, _ => False
  | n + 1, b, i, j => (b = 0 ∧ i = 0 ∧ j = 0) ∨ (b = 0 ∧ 0 < i ∧ 0 < j ∧ ∃ b', b' < 3 ∧ ra_rf g n b' (i - 1) (j - 1) ∧ ra_w g b' (i - 1) (j - 1) 0 = ra_r g b' (i - 1) (j - 1))
      ∨ (b = 1 ∧ 0 < i ∧ ∃ b', b' < 3 ∧ ra_rf g n b' (i - 1) j ∧ ra_w g b' (i - 1) j 1 = ra_r g b' (i - 1) j)
      ∨ (b = 2 ∧ 0 < j ∧ ∃ b', b' < 3 ∧ ra_rf g n b' i (j - 1) ∧ ra_w g b' i (j - 1) 2 = ra_r g b' i (j - 1))
theorem ra_rf_fuel (g : ra_G) : ∀ (n m b i j : Nat), i + j < n → i + j < m → (ra_rf g n b i j ↔ ra_rf g m b i j) := by
  have one : ∀ (n m b i j : Nat), i + j < n → i + j < m → ra_rf g n b i j → ra_rf g m b i j := by
    intro n
    induction n with
    | zero => intro m b i j h; omega
    | succ n ih =>
      intro m b i j h1 h2 h
      cases m with
      | zero => omega
      | succ m =>
        rcases h with h | ⟨e, p1, p2, b', q1, q2, q3⟩ | ⟨e, p1, b', q1, q2, q3⟩ | ⟨e, p1, b', q1, q2, q3⟩
        · exact Or.inl h
        · exact Or.inr (Or.inl ⟨e, p1, p2, b', q1, ih m _ _ _ (by omega) (by omega) q2, q3⟩)
        · exact Or.inr (Or.inr (Or.inl ⟨e, p1, b', q1, ih m _ _ _ (by omega) (by omega) q2, q3⟩))
        · exact Or.inr (Or.inr (Or.inr ⟨e, p1, b', q1, ih m _ _ _ (by omega) (by omega) q2, q3⟩))
  intro n m b i j h1 h2
  exact ⟨one n m b i j h1 h2, one m n b i j h2 h1⟩
def ra_rc (g : ra_G) (b i j : Nat) : Prop := ra_rf g (i + j + 1) b i j
theorem ra_rc_start (g : ra_G) : ra_rc g 0 0 0 := Or.inl ⟨rfl, rfl, rfl⟩
theorem ra_rc_0 (g : ra_G) (i j : Nat) : ra_rc g 0 (i + 1) (j + 1) ↔ ∃ b', b' < 3 ∧ ra_rc g b' i j ∧ ra_w g b' i j 0 = ra_r g b' i j := by
  unfold ra_rc
  constructor
  · rintro (h | ⟨e, p1, p2, b', q1, q2, q3⟩ | ⟨e, _⟩ | ⟨e, _⟩)
    · omega
    · exact ⟨b', q1, (ra_rf_fuel g _ _ b' i j (by omega) (by omega)).1 q2, q3⟩
    · omega
    · omega
  · rintro ⟨b', q1, q2, q3⟩
    exact Or.inr (Or.inl ⟨rfl, by omega, by omega, b', q1, (ra_rf_fuel g _ _ b' i j (by omega) (by omega)).1 q2, q3⟩)
theorem ra_rc_1 (g : ra_G) (i j : Nat) : ra_rc g 1 (i + 1) j ↔ ∃ b', b' < 3 ∧ ra_rc g b' i j ∧ ra_w g b' i j 1 = ra_r g b' i j := by
  unfold ra_rc
  constructor
  · rintro (h | ⟨e, _⟩ | ⟨e, p1, b', q1, q2, q3⟩ | ⟨e, _⟩)
    · omega
    · omega
    · exact ⟨b', q1, (ra_rf_fuel g _ _ b' i j (by omega) (by omega)).1 q2, q3⟩
    · omega
  · rintro ⟨b', q1, q2, q3⟩
    exact Or.inr (Or.inr (Or.inl ⟨rfl, by omega, b', q1, (ra_rf_fuel g _ _ b' i j (by omega) (by omega)).1 q2, q3⟩))
theorem ra_rc_2 (g : ra_G) (i j : Nat) : ra_rc g 2 i (j + 1) ↔ ∃ b', b' < 3 ∧ ra_rc g b' i j ∧ ra_w g b' i j 2 = ra_r g b' i j := by
  unfold ra_rc
  constructor
  · rintro (h | ⟨e, _⟩ | ⟨e, _⟩ | ⟨e, p1, b', q1, q2, q3⟩)
    · omega
    · omega
    · omega
    · exact ⟨b', q1, (ra_rf_fuel g _ _ b' i j (by omega) (by omega)).1 q2, q3⟩
  · rintro ⟨b', q1, q2, q3⟩
    exact Or.inr (Or.inr (Or.inr ⟨rfl, by omega, b', q1, (ra_rf_fuel g _ _ b' i j (by omega) (by omega)).1 q2, q3⟩))
theorem ra_rc_1z (g : ra_G) (j : Nat) : ¬ ra_rc g 1 0 j := by
  unfold ra_rc; rintro (h | ⟨e, _⟩ | ⟨_, p, _⟩ | ⟨e, _⟩) <;> omega
theorem ra_rc_2z (g : ra_G) (i : Nat) : ¬ ra_rc g 2 i 0 := by
  unfold ra_rc; rintro (h | ⟨e, _⟩ | ⟨e, _⟩ | ⟨_, p, _⟩) <;> omega
theorem ra_rc_0z {g : ra_G} {i j : Nat} (h : ra_rc g 0 i j) : (i = 0 ∧ j = 0) ∨ (0 < i ∧ 0 < j) := by
  unfold ra_rc at h
  rcases h with h | ⟨e, p1, p2, _⟩ | ⟨e, _⟩ | ⟨e, _⟩ <;> omega
theorem ra_rc_b {g : ra_G} {b i j : Nat} (h : ra_rc g b i j) : b < 3 := by
  unfold ra_rc at h
  rcases h with h | ⟨e, _⟩ | ⟨e, _⟩ | ⟨e, _⟩ <;> omega
/-- a way to (i, j) by a step b, of worth v -/
def ra_lf (g : ra_G) : Nat → Nat → Nat → Nat → Int → Prop
  | 0, _, _, _, _ => False
  | n + 1, b, i, j, v => (b = 0 ∧ i = 0 ∧ j = 0 ∧ v = 0) ∨ (b = 0 ∧ 0 < i ∧ 0 < j ∧ ∃ b' v', b' < 3 ∧ ra_lf g n b' (i - 1) (j - 1) v' ∧ v = v' + g.sc (i - 1) (j - 1))
      ∨ (b = 1 ∧ 0 < i ∧ ∃ b' v', b' < 3 ∧ ra_lf g n b' (i - 1) j v' ∧ v = v' - ra_m1 g j - (if b' = 1 then 0 else ra_o1 g j))
      ∨ (b = 2 ∧ 0 < j ∧ ∃ b' v', b' < 3 ∧ ra_lf g n b' i (j - 1) v' ∧ v = v' - ra_m2 g i - (if b' = 2 then 0 else ra_o2 g i))
theorem ra_lf_up (g : ra_G) : ∀ (n m b i j : Nat) (v : Int), i + j < m → ra_lf g n b i j v → ra_lf g m b i j v := by
  intro n
  induction n with
  | zero => intro m b i j v _ h; exact h.elim
  | succ n ih =>
    intro m b i j v h2 h
    cases m with
    | zero => omega
    | succ m =>
      rcases h with h | ⟨e, p1, p2, b', v', q1, q2, q3⟩ | ⟨e, p1, b', v', q1, q2, q3⟩ | ⟨e, p1, b', v', q1, q2, q3⟩
      · exact Or.inl h
      · exact Or.inr (Or.inl ⟨e, p1, p2, b', v', q1, ih m _ _ _ _ (by omega) q2, q3⟩)
      · exact Or.inr (Or.inr (Or.inl ⟨e, p1, b', v', q1, ih m _ _ _ _ (by omega) q2, q3⟩))
      · exact Or.inr (Or.inr (Or.inr ⟨e, p1, b', v', q1, ih m _ _ _ _ (by omega) q2, q3⟩))
def ra_lp (g : ra_G) (b i j : Nat) (v : Int) : Prop := ra_lf g (i + j + 1) b i j v
theorem ra_lp_start (g : ra_G) : ra_lp g 0 0 0 0 := Or.inl ⟨rfl, rfl, rfl, rfl⟩
theorem ra_lp_0 {g : ra_G} {b i j : Nat} {v : Int} (hb : b < 3) (h : ra_lp g b i j v) : ra_lp g 0 (i + 1) (j + 1) (v + g.sc i j) :=
  Or.inr (Or.inl ⟨rfl, by omega, by omega, b, v, hb, ra_lf_up g _ _ b i j v (by omega) h, rfl⟩)
theorem ra_lp_1 {g : ra_G} {b i j : Nat} {v : Int} (hb : b < 3) (h : ra_lp g b i j v) : ra_lp g 1 (i + 1) j (v - ra_m1 g j - (if b = 1 then 0 else ra_o1 g j)) :=
  Or.inr (Or.inr (Or.inl ⟨rfl, by omega, b, v, hb, ra_lf_up g _ _ b i j v (by omega) h, rfl⟩))
theorem ra_lp_2 {g : ra_G} {b i j : Nat} {v : Int} (hb : b < 3) (h : ra_lp g b i j v) : ra_lp g 2 i (j + 1) (v - ra_m2 g i - (if b = 2 then 0 else ra_o2 g i)) :=
  Or.inr (Or.inr (Or.inr ⟨rfl, by omega, b, v, hb, ra_lf_up g _ _ b i j v (by omega) h, rfl⟩))
theorem ra_lp_re {g : ra_G} {b i j : Nat} {v : Int} (h : ra_lp g b i j v) : ra_re g b i j := by
  unfold ra_lp at h
  unfold ra_re
  rcases h with ⟨e1, e2, e3, _⟩ | ⟨e, p1, p2, _⟩ | ⟨e, p1, _⟩ | ⟨e, p1, _⟩ <;> omega
theorem ra_lp_ext1 {g : ra_G} {b i j : Nat} {v : Int} (h3 : b < 3) (hb1 : b ≠ 1) (h : ra_lp g b i j v) : ∀ p : Nat, ra_lp g 1 (i + (p + 1)) j (v - ra_o1 g j - ra_m1 g j * ((p + 1 : Nat) : Int)) := by
  intro p
  induction p with
  | zero =>
    have q := ra_lp_1 h3 h
    rw [if_neg hb1] at q
    have e : v - ra_m1 g j - ra_o1 g j = v - ra_o1 g j - ra_m1 g j * ((0 + 1 : Nat) : Int) := by simp; omega
    rw [e] at q; exact q
  | succ p ih =>
    have q := ra_lp_1 (by omega) ih
    rw [if_pos rfl] at q
    have e : v - ra_o1 g j - ra_m1 g j * ((p + 1 : Nat) : Int) - ra_m1 g j - 0 = v - ra_o1 g j - ra_m1 g j * ((p + 1 + 1 : Nat) : Int) := by rw [ra_mul1 _ (p + 1)]; omega
    rw [e] at q; exact q
theorem ra_lp_ext2 {g : ra_G} {b i j : Nat} {v : Int} (h3 : b < 3) (hb1 : b ≠ 2) (h : ra_lp g b i j v) : ∀ p : Nat, ra_lp g 2 i (j + (p + 1)) (v - ra_o2 g i - ra_m2 g i * ((p + 1 : Nat) : Int)) := by
  intro p
  induction p with
  | zero =>
    have q := ra_lp_2 h3 h
    rw [if_neg hb1] at q
    have e : v - ra_m2 g i - ra_o2 g i = v - ra_o2 g i - ra_m2 g i * ((0 + 1 : Nat) : Int) := by simp; omega
    rw [e] at q; exact q
  | succ p ih =>
    have q := ra_lp_2 (by omega) ih
    rw [if_pos rfl] at q
    have e : v - ra_o2 g i - ra_m2 g i * ((p + 1 : Nat) : Int) - ra_m2 g i - 0 = v - ra_o2 g i - ra_m2 g i * ((p + 1 + 1 : Nat) : Int) := by rw [ra_mul1 _ (p + 1)]; omega
    rw [e] at q; exact q
/-- no way there and on is better than the best; and those as good are the best layings' -/
theorem ra_lp_top {g : ra_G} (hb : ra_bd g) : ∀ (n b i j : Nat) (v : Int), ra_lf g n b i j v → i ≤ g.la → j ≤ g.lb → v + ra_r g b i j ≤ ra_r g 0 0 0 ∧ (v + ra_r g b i j = ra_r g 0 0 0 → ra_rc g b i j) := by
  intro n
  induction n with
  | zero => intro b i j v h; exact h.elim
  | succ n ih =>
    intro b i j v h hi hj
    rcases h with ⟨rfl, rfl, rfl, rfl⟩ | ⟨rfl, p1, p2, b', v', q1, q2, q3⟩ | ⟨rfl, p1, b', v', q1, q2, q3⟩ | ⟨rfl, p1, b', v', q1, q2, q3⟩
    · exact ⟨by omega, fun _ => ra_rc_start g⟩
    · obtain ⟨i, rfl⟩ : ∃ k, i = k + 1 := ⟨i - 1, by omega⟩
      obtain ⟨j, rfl⟩ : ∃ k, j = k + 1 := ⟨j - 1, by omega⟩
      simp only [Nat.add_sub_cancel] at q2 q3
      obtain ⟨u1, u2⟩ := ih _ _ _ _ q2 (by omega) (by omega)
      have hm := (ra_r_ge hb (b := b') (i := i) (j := j) (by omega) (by omega)).2.1
      have e : ra_xp g i j = g.sc i j + ra_r g 0 (i + 1) (j + 1) := by unfold ra_xp; rw [if_pos ⟨by omega, by omega⟩]
      refine ⟨by omega, fun h => ?_⟩
      exact (ra_rc_0 g i j).2 ⟨b', q1, u2 (by omega), by rw [ra_w_0]; omega⟩
    · obtain ⟨i, rfl⟩ : ∃ k, i = k + 1 := ⟨i - 1, by omega⟩
      simp only [Nat.add_sub_cancel] at q2 q3
      obtain ⟨u1, u2⟩ := ih _ _ _ _ q2 (by omega) hj
      have hm := (ra_r_ge hb (b := b') (i := i) (j := j) (by omega) hj).2.2.1
      have e := ra_w1_b (g := g) (b := b') (i := i) (j := j) (by omega)
      refine ⟨by omega, fun h => ?_⟩
      exact (ra_rc_1 g i j).2 ⟨b', q1, u2 (by omega), by omega⟩
    · obtain ⟨j, rfl⟩ : ∃ k, j = k + 1 := ⟨j - 1, by omega⟩
      simp only [Nat.add_sub_cancel] at q2 q3
      obtain ⟨u1, u2⟩ := ih _ _ _ _ q2 hi (by omega)
      have hm := (ra_r_ge hb (b := b') (i := i) (j := j) hi (by omega)).2.2.2
      have e := ra_w2_b (g := g) (b := b') (i := i) (j := j) (by omega)
      refine ⟨by omega, fun h => ?_⟩
      exact (ra_rc_2 g i j).2 ⟨b', q1, u2 (by omega), by omega⟩
/-- every row of places is crossed -/
theorem ra_rc_down {g : ra_G} (hb : ra_bd g) (hp : g.pt = false) : ∀ (d b i j : Nat), g.lb - j ≤ d → i < g.la → j ≤ g.lb → ra_rc g b i j → ∃ b' j', j' ≤ g.lb ∧ ra_rc g b' (i + 1) j' := by
  intro d
  induction d with
  | zero =>
    intro b i j hd hi hj h
    have h3 := ra_rc_b h
    have ne : ra_st g b i j ≠ 3 := fun hs => by
      have q := (ra_xe_iff hb (b := b) (by omega) hj).1 (ra_st_3 hs)
      rw [hp] at q; simp at q; omega
    have hst := ra_st_le g b i j
    have cs : ra_st g b i j = 0 ∨ ra_st g b i j = 1 ∨ ra_st g b i j = 2 := by omega
    rcases cs with hs | hs | hs
    · have a := (ra_st_0 hs).2
      have c := ra_xp_in hb (by omega) hj a
      exact ⟨0, j + 1, by omega, (ra_rc_0 g i j).2 ⟨b, h3, h, by rw [ra_w_0]; exact a⟩⟩
    · exact ⟨1, j, hj, (ra_rc_1 g i j).2 ⟨b, h3, h, (ra_st_1 hs).2.2⟩⟩
    · have c := ra_w2_in hb (by omega) hj (ra_st_2 hb (by omega) hj hs).2.2.2
      omega
  | succ d ih =>
    intro b i j hd hi hj h
    have h3 := ra_rc_b h
    have ne : ra_st g b i j ≠ 3 := fun hs => by
      have q := (ra_xe_iff hb (b := b) (by omega) hj).1 (ra_st_3 hs)
      rw [hp] at q; simp at q; omega
    have hst := ra_st_le g b i j
    have cs : ra_st g b i j = 0 ∨ ra_st g b i j = 1 ∨ ra_st g b i j = 2 := by omega
    rcases cs with hs | hs | hs
    · have a := (ra_st_0 hs).2
      have c := ra_xp_in hb (by omega) hj a
      exact ⟨0, j + 1, by omega, (ra_rc_0 g i j).2 ⟨b, h3, h, by rw [ra_w_0]; exact a⟩⟩
    · exact ⟨1, j, hj, (ra_rc_1 g i j).2 ⟨b, h3, h, (ra_st_1 hs).2.2⟩⟩
    · have a := (ra_st_2 hb (by omega) hj hs).2.2.2
      have c := ra_w2_in hb (by omega) hj a
      exact ih 2 i (j + 1) (by omega) hi (by omega) ((ra_rc_2 g i j).2 ⟨b, h3, h, a⟩)
theorem ra_rc_row {g : ra_G} (hb : ra_bd g) (hp : g.pt = false) : ∀ i, i ≤ g.la → ∃ b j, j ≤ g.lb ∧ ra_rc g b i j := by
  intro i
  induction i with
  | zero => intro _; exact ⟨0, 0, by omega, ra_rc_start g⟩
  | succ i ih =>
    intro hi
    obtain ⟨b, j, h1, h2⟩ := ih (by omega)
    exact ra_rc_down hb hp (g.lb - j) b i j (Nat.le_refl _) (by omega) h1 h2
/-- what the forward table of the runs says: sound, and nothing forgotten -/
def ra_LS (g : ra_G) (L : Nat → Nat → Nat → Int) : Prop := ∀ b i j, b < 3 → i ≤ g.la → j ≤ g.lb → L b i j ≠ (-100000000 : Int) → -400000 ≤ L b i j ∧ L b i j ≤ 400000 ∧ ∃ v, L b i j ≤ v ∧ ra_lp g b i j v
def ra_LC (g : ra_G) (L : Nat → Nat → Nat → Int) : Prop := 0 ≤ L 0 0 0 ∧ ∀ b i j, b < 3 → i ≤ g.la → j ≤ g.lb → L b i j ≠ (-100000000 : Int) →
  (i < g.la → j < g.lb → L b i j + g.sc i j ≤ L 0 (i + 1) (j + 1)) ∧ (b ≠ 1 → ∀ n, 1 ≤ n → i + n ≤ g.la → L b i j - ra_g1 g i j n ≤ L 1 (i + n) j) ∧ (b ≠ 2 → ∀ n, 1 ≤ n → j + n ≤ g.lb → L b i j - ra_g2 g i j n ≤ L 2 i (j + n))
/-- where going on with the run isn't best, ending it is -/
theorem ra_mv_1_stop {g : ra_G} (hb : ra_bd g) (hw : ra_wf g) {i j : Nat} (hr : ra_re g 1 i j) (hi : i ≤ g.la) (hj : j ≤ g.lb) (h : ra_w g 1 i j 1 ≠ ra_r g 1 i j) : ra_mv g 1 i j = ra_r g 1 i j := by
  have hle := ra_mv_le hb hw (b := 1) (by omega) hr hi hj
  have hge := ra_mv_1_ge hb hw hr hi hj
  rcases ra_r_or hb (b := 1) hi hj with q | q | q | q
  · exact Int.le_antisymm hle (q ▸ hge.1)
  · exact Int.le_antisymm hle (q ▸ hge.2.1)
  · exact absurd q h
  · exact Int.le_antisymm hle (q ▸ hge.2.2 (ra_w2_in hb hi hj q))
theorem ra_mv_2_stop {g : ra_G} (hb : ra_bd g) (hw : ra_wf g) {i j : Nat} (hr : ra_re g 2 i j) (hi : i ≤ g.la) (hj : j ≤ g.lb) (h : ra_w g 2 i j 2 ≠ ra_r g 2 i j) : ra_mv g 2 i j = ra_r g 2 i j := by
  have hle := ra_mv_le hb hw (b := 2) (by omega) hr hi hj
  have hge := ra_mv_2_ge hb hw hr hi hj
  rcases ra_r_or hb (b := 2) hi hj with q | q | q | q
  · exact Int.le_antisymm hle (q ▸ hge.1)
  · exact Int.le_antisymm hle (q ▸ hge.2.1)
  · exact Int.le_antisymm hle (q ▸ hge.2.2 (ra_w1_in hb hi hj q))
  · exact absurd q h
/-- the run that is under way ends somewhere best -/
theorem ra_run1_end {g : ra_G} (hb : ra_bd g) (hw : ra_wf g) {j : Nat} (hj : j ≤ g.lb) : ∀ (d i : Nat), 0 < i → i ≤ g.la → g.la - i ≤ d → ∃ e, i + e ≤ g.la ∧ ra_mv g 1 (i + e) j = ra_r g 1 (i + e) j ∧ ra_r g 1 i j = ra_r g 1 (i + e) j - ra_m1 g j * e := by
  intro d
  induction d with
  | zero =>
    intro i h0 hi hd
    have hre : ra_re g 1 i j := Or.inr (Or.inr (Or.inl ⟨rfl, h0⟩))
    exact ⟨0, hi, ra_mv_1_stop hb hw hre hi hj (fun h => by have := ra_w1_in hb hi hj h; omega), by simp⟩
  | succ d ih =>
    intro i h0 hi hd
    have hre : ra_re g 1 i j := Or.inr (Or.inr (Or.inl ⟨rfl, h0⟩))
    by_cases hw1 : ra_w g 1 i j 1 = ra_r g 1 i j
    case neg => exact ⟨0, hi, ra_mv_1_stop hb hw hre hi hj hw1, by simp⟩
    case pos =>
      have c := ra_w1_in hb hi hj hw1
      have e := ra_w1_b (g := g) (b := 1) (i := i) (j := j) c
      rw [if_pos rfl] at e
      obtain ⟨e', q1, q2, q3⟩ := ih (i + 1) (by omega) (by omega) (by omega)
      refine ⟨e' + 1, by omega, ?_, ?_⟩
      · rw [show i + (e' + 1) = i + 1 + e' by omega]; exact q2
      · rw [show i + (e' + 1) = i + 1 + e' by omega, ra_mul1]; omega
theorem ra_run2_end {g : ra_G} (hb : ra_bd g) (hw : ra_wf g) {i : Nat} (hi : i ≤ g.la) : ∀ (d j : Nat), 0 < j → j ≤ g.lb → g.lb - j ≤ d → ∃ e, j + e ≤ g.lb ∧ ra_mv g 2 i (j + e) = ra_r g 2 i (j + e) ∧ ra_r g 2 i j = ra_r g 2 i (j + e) - ra_m2 g i * e := by
  intro d
  induction d with
  | zero =>
    intro j h0 hj hd
    have hre : ra_re g 2 i j := Or.inr (Or.inr (Or.inr ⟨rfl, h0⟩))
    exact ⟨0, hj, ra_mv_2_stop hb hw hre hi hj (fun h => by have := ra_w2_in hb hi hj h; omega), by simp⟩
  | succ d ih =>
    intro j h0 hj hd
    have hre : ra_re g 2 i j := Or.inr (Or.inr (Or.inr ⟨rfl, h0⟩))
    by_cases hw1 : ra_w g 2 i j 2 = ra_r g 2 i j
    case neg => exact ⟨0, hj, ra_mv_2_stop hb hw hre hi hj hw1, by simp⟩
    case pos =>
      have c := ra_w2_in hb hi hj hw1
      have e := ra_w2_b (g := g) (b := 2) (i := i) (j := j) c
      rw [if_pos rfl] at e
      obtain ⟨e', q1, q2, q3⟩ := ih (j + 1) (by omega) (by omega) (by omega)
      refine ⟨e' + 1, by omega, ?_, ?_⟩
      · rw [show j + (e' + 1) = j + 1 + e' by omega]; exact q2
      · rw [show j + (e' + 1) = j + 1 + e' by omega, ra_mul1]; omega
theorem ra_rc_re {g : ra_G} {b i j : Nat} (h : ra_rc g b i j) : ra_re g b i j := by
  unfold ra_rc at h
  unfold ra_re
  rcases h with ⟨e1, e2, e3⟩ | ⟨e, p1, p2, _⟩ | ⟨e, p1, _⟩ | ⟨e, p1, _⟩ <;> omega
/-- what the forward table holds where a best laying comes along -/
def ra_Dst (g : ra_G) (L : Nat → Nat → Nat → Int) (b i j : Nat) : Prop := (b = 0 → ra_r g 0 0 0 ≤ L 0 i j + ra_r g 0 i j)
  ∧ (b = 1 → ∃ i0 p b', i = i0 + (p + 1) ∧ b' < 3 ∧ b' ≠ 1 ∧ L b' i0 j ≠ (-100000000 : Int) ∧ ra_r g 0 0 0 ≤ L b' i0 j - ra_o1 g j - ra_m1 g j * ((p + 1 : Nat) : Int) + ra_r g 1 i j)
  ∧ (b = 2 → ∃ j0 p b', j = j0 + (p + 1) ∧ b' < 3 ∧ b' ≠ 2 ∧ L b' i j0 ≠ (-100000000 : Int) ∧ ra_r g 0 0 0 ≤ L b' i j0 - ra_o2 g i - ra_m2 g i * ((p + 1 : Nat) : Int) + ra_r g 2 i j)
theorem ra_cl {g : ra_G} (hb : ra_bd g) (hw : ra_wf g) {L : Nat → Nat → Nat → Int} (hS : ra_LS g L) (hC : ra_LC g L) {b i j : Nat} (h3 : b < 3) (hi : i ≤ g.la) (hj : j ≤ g.lb) (hD : ra_Dst g L b i j) (hM : ra_mv g b i j = ra_r g b i j) : L b i j ≠ (-100000000 : Int) ∧ ra_r g 0 0 0 ≤ L b i j + ra_r g b i j := by
  have hbd := ra_r_bd hb (b := b) hi hj
  have hgo := ra_r_bd hb (b := 0) (i := 0) (j := 0) (by omega) (by omega)
  have hne : ra_mv g b i j ≠ (-100000000 : Int) := by rw [hM]; omega
  have cs : b = 0 ∨ b = 1 ∨ b = 2 := by omega
  rcases cs with rfl | rfl | rfl
  · have := hD.1 rfl
    exact ⟨by omega, this⟩
  · obtain ⟨i0, p, b', rfl, q1, q2, q3, q4⟩ := hD.2.1 rfl
    obtain ⟨_, _, v, v1, v2⟩ := hS b' i0 j q1 (by omega) hj q3
    have c := (hC.2 b' i0 j q1 (by omega) hj q3).2.1 q2 (p + 1) (by omega) hi
    rw [ra_g1_eq hw q2 (ra_lp_re v2) (by omega) hi hne] at c
    exact ⟨by omega, by omega⟩
  · obtain ⟨j0, p, b', rfl, q1, q2, q3, q4⟩ := hD.2.2 rfl
    obtain ⟨_, _, v, v1, v2⟩ := hS b' i j0 q1 hi (by omega) q3
    have c := (hC.2 b' i j0 q1 hi (by omega) q3).2.2 q2 (p + 1) (by omega) hj
    rw [ra_g2_eq hw q2 (ra_lp_re v2) (by omega) hj hne] at c
    exact ⟨by omega, by omega⟩
/-- closing a run here is best wherever the next step is of another kind -/
theorem ra_M_of {g : ra_G} (hb : ra_bd g) (hw : ra_wf g) {b i j s : Nat} (h3 : b < 3) (hi : i ≤ g.la) (hj : j ≤ g.lb) (hr : ra_re g b i j) (hs : s < 3) (hsb : s = 0 ∨ s ≠ b) (h : ra_w g b i j s = ra_r g b i j) : ra_mv g b i j = ra_r g b i j := by
  have hle := ra_mv_le hb hw h3 hr hi hj
  have cs : b = 0 ∨ b = 1 ∨ b = 2 := by omega
  have ss : s = 0 ∨ s = 1 ∨ s = 2 := by omega
  rcases cs with rfl | rfl | rfl
  · exact ra_mv_0 hw hr
  · have e := ra_mv_1_ge hb hw hr hi hj
    rcases ss with rfl | rfl | rfl
    · rw [ra_w_0] at h; exact Int.le_antisymm hle (h ▸ e.2.1)
    · omega
    · exact Int.le_antisymm hle (h ▸ e.2.2 (ra_w2_in hb hi hj h))
  · have e := ra_mv_2_ge hb hw hr hi hj
    rcases ss with rfl | rfl | rfl
    · rw [ra_w_0] at h; exact Int.le_antisymm hle (h ▸ e.2.1)
    · exact Int.le_antisymm hle (h ▸ e.2.2 (ra_w1_in hb hi hj h))
    · omega
theorem ra_D {g : ra_G} (hb : ra_bd g) (hw : ra_wf g) {L : Nat → Nat → Nat → Int} (hS : ra_LS g L) (hC : ra_LC g L) : ∀ (n b i j : Nat), i + j < n → i ≤ g.la → j ≤ g.lb → ra_rc g b i j → ra_Dst g L b i j := by
  intro n
  induction n with
  | zero => intro b i j h; omega
  | succ n ih =>
    intro b i j hn hi hj h
    have h3 := ra_rc_b h
    refine ⟨?_, ?_, ?_⟩
    · rintro rfl
      rcases ra_rc_0z h with ⟨rfl, rfl⟩ | ⟨p1, p2⟩
      · have := hC.1; omega
      · obtain ⟨i, rfl⟩ : ∃ k, i = k + 1 := ⟨i - 1, by omega⟩
        obtain ⟨j, rfl⟩ : ∃ k, j = k + 1 := ⟨j - 1, by omega⟩
        obtain ⟨b', q1, q2, q3⟩ := (ra_rc_0 g i j).1 h
        have hM := ra_M_of hb hw (s := 0) q1 (by omega) (by omega) (ra_rc_re q2) (by omega) (Or.inl rfl) q3
        have c := ra_cl hb hw hS hC q1 (by omega) (by omega) (ih b' i j (by omega) (by omega) (by omega) q2) hM
        have d := (hC.2 b' i j q1 (by omega) (by omega) c.1).1 (by omega) (by omega)
        have e : ra_xp g i j = g.sc i j + ra_r g 0 (i + 1) (j + 1) := by unfold ra_xp; rw [if_pos ⟨by omega, by omega⟩]
        rw [ra_w_0] at q3
        omega
    · rintro rfl
      have p1 : 0 < i := by
        refine Nat.pos_of_ne_zero fun h0 => ?_
        subst h0; exact ra_rc_1z g j h
      obtain ⟨i, rfl⟩ : ∃ k, i = k + 1 := ⟨i - 1, by omega⟩
      obtain ⟨b', q1, q2, q3⟩ := (ra_rc_1 g i j).1 h
      have e := ra_w1_b (g := g) (b := b') (i := i) (j := j) (by omega)
      have I := ih b' i j (by omega) (by omega) hj q2
      by_cases hb1 : b' = 1
      · subst hb1
        rw [if_pos rfl] at e
        obtain ⟨i0, p, b'', e0, r1, r2, r3, r4⟩ := I.2.1 rfl
        refine ⟨i0, p + 1, b'', by omega, r1, r2, r3, ?_⟩
        rw [ra_mul1 _ (p + 1)]; omega
      · rw [if_neg hb1] at e
        have hM := ra_M_of hb hw (s := 1) q1 (by omega) hj (ra_rc_re q2) (by omega) (Or.inr (by omega)) q3
        have c := ra_cl hb hw hS hC q1 (by omega) hj I hM
        refine ⟨i, 0, b', by omega, q1, hb1, c.1, ?_⟩
        have h1 : ((0 + 1 : Nat) : Int) = 1 := rfl
        rw [h1, Int.mul_one]; omega
    · rintro rfl
      have p1 : 0 < j := by
        refine Nat.pos_of_ne_zero fun h0 => ?_
        subst h0; exact ra_rc_2z g i h
      obtain ⟨j, rfl⟩ : ∃ k, j = k + 1 := ⟨j - 1, by omega⟩
      obtain ⟨b', q1, q2, q3⟩ := (ra_rc_2 g i j).1 h
      have e := ra_w2_b (g := g) (b := b') (i := i) (j := j) (by omega)
      have I := ih b' i j (by omega) hi (by omega) q2
      by_cases hb1 : b' = 2
      · subst hb1
        rw [if_pos rfl] at e
        obtain ⟨j0, p, b'', e0, r1, r2, r3, r4⟩ := I.2.2 rfl
        refine ⟨j0, p + 1, b'', by omega, r1, r2, r3, ?_⟩
        rw [ra_mul1 _ (p + 1)]; omega
      · rw [if_neg hb1] at e
        have hM := ra_M_of hb hw (s := 2) q1 hi (by omega) (ra_rc_re q2) (by omega) (Or.inr (by omega)) q3
        have c := ra_cl hb hw hS hC q1 hi (by omega) I hM
        refine ⟨j, 0, b', by omega, q1, hb1, c.1, ?_⟩
        have h1 : ((0 + 1 : Nat) : Int) = 1 := rfl
        rw [h1, Int.mul_one]; omega
/-- the reference's question whether a best laying goes over (i, j) -/
def ra_X (g : ra_G) (L : Nat → Nat → Nat → Int) (goal : Int) (i j : Nat) : Prop := (∃ b, b < 3 ∧ L b i j ≠ (-100000000 : Int) ∧ ra_mv g b i j ≠ (-100000000 : Int) ∧ L b i j + ra_mv g b i j = goal)
  ∨ (∃ p e b, 1 ≤ p ∧ p ≤ i ∧ 1 ≤ e ∧ e ≤ g.la - i ∧ b < 3 ∧ b ≠ 1 ∧ L b (i - p) j ≠ (-100000000 : Int) ∧ ra_mv g 1 (i + e) j ≠ (-100000000 : Int) ∧ L b (i - p) j - ra_g1 g (i - p) j (p + e) + ra_mv g 1 (i + e) j = goal)
  ∨ (∃ p e b, 1 ≤ p ∧ p ≤ j ∧ 1 ≤ e ∧ e ≤ g.lb - j ∧ b < 3 ∧ b ≠ 2 ∧ L b i (j - p) ≠ (-100000000 : Int) ∧ ra_mv g 2 i (j + e) ≠ (-100000000 : Int) ∧ L b i (j - p) - ra_g2 g i (j - p) (p + e) + ra_mv g 2 i (j + e) = goal)
theorem ra_mulS (x : Int) (p e : Nat) : x * ((p + e : Nat) : Int) = x * (p : Int) + x * (e : Int) := by
  rw [Int.natCast_add, Int.mul_add]
/-- inside a run of A: the sum is at most the best, and as good only on a best laying -/
theorem ra_in1 {g : ra_G} (hb : ra_bd g) (hw : ra_wf g) {L : Nat → Nat → Nat → Int} (hS : ra_LS g L) {b i0 j p e : Nat} (h3 : b < 3) (hb1 : b ≠ 1) (he : i0 + (p + 1) + e ≤ g.la) (hj : j ≤ g.lb) (hL : L b i0 j ≠ (-100000000 : Int)) :
    L b i0 j - ra_o1 g j - ra_m1 g j * ((p + 1 : Nat) : Int) - ra_m1 g j * (e : Int) + ra_mv g 1 (i0 + (p + 1) + e) j ≤ ra_r g 0 0 0 ∧ (L b i0 j - ra_o1 g j - ra_m1 g j * ((p + 1 : Nat) : Int) - ra_m1 g j * (e : Int) + ra_mv g 1 (i0 + (p + 1) + e) j = ra_r g 0 0 0 → ra_rc g 1 (i0 + (p + 1)) j) := by
  obtain ⟨_, _, v, v1, v2⟩ := hS b i0 j h3 (by omega) hj hL
  have x := ra_lp_ext1 h3 hb1 v2 p
  have t := ra_lp_top hb _ _ _ _ _ x (by omega) hj
  have m := ra_r1_mono hb hj e (i0 + (p + 1)) he
  have q := ra_mv_le hb hw (b := 1) (i := i0 + (p + 1) + e) (j := j) (by omega) (Or.inr (Or.inr (Or.inl ⟨rfl, by omega⟩))) he hj
  exact ⟨by omega, fun h => t.2 (by omega)⟩
theorem ra_in2 {g : ra_G} (hb : ra_bd g) (hw : ra_wf g) {L : Nat → Nat → Nat → Int} (hS : ra_LS g L) {b i j0 p e : Nat} (h3 : b < 3) (hb1 : b ≠ 2) (he : j0 + (p + 1) + e ≤ g.lb) (hi : i ≤ g.la) (hL : L b i j0 ≠ (-100000000 : Int)) :
    L b i j0 - ra_o2 g i - ra_m2 g i * ((p + 1 : Nat) : Int) - ra_m2 g i * (e : Int) + ra_mv g 2 i (j0 + (p + 1) + e) ≤ ra_r g 0 0 0 ∧ (L b i j0 - ra_o2 g i - ra_m2 g i * ((p + 1 : Nat) : Int) - ra_m2 g i * (e : Int) + ra_mv g 2 i (j0 + (p + 1) + e) = ra_r g 0 0 0 → ra_rc g 2 i (j0 + (p + 1))) := by
  obtain ⟨_, _, v, v1, v2⟩ := hS b i j0 h3 hi (by omega) hL
  have x := ra_lp_ext2 h3 hb1 v2 p
  have t := ra_lp_top hb _ _ _ _ _ x hi (by omega)
  have m := ra_r2_mono hb hi e (j0 + (p + 1)) he
  have q := ra_mv_le hb hw (b := 2) (i := i) (j := j0 + (p + 1) + e) (by omega) (Or.inr (Or.inr (Or.inr ⟨rfl, by omega⟩))) hi he
  exact ⟨by omega, fun h => t.2 (by omega)⟩
/-- **the reference's crossing is the best layings' own** -/
theorem ra_X_iff {g : ra_G} (hb : ra_bd g) (hw : ra_wf g) {L : Nat → Nat → Nat → Int} (hS : ra_LS g L) (hC : ra_LC g L) {i j : Nat} (hi : i ≤ g.la) (hj : j ≤ g.lb) : ra_X g L (ra_r g 0 0 0) i j ↔ ∃ b, ra_rc g b i j := by
  have hgo := ra_r_bd hb (b := 0) (i := 0) (j := 0) (by omega) (by omega)
  constructor
  · rintro (⟨b, h3, h1, h2, h4⟩ | ⟨p, e, b, p1, p2, p3, p4, h3, hb1, h1, h2, h4⟩ | ⟨p, e, b, p1, p2, p3, p4, h3, hb1, h1, h2, h4⟩)
    · obtain ⟨_, _, v, v1, v2⟩ := hS b i j h3 hi hj h1
      have q := ra_mv_le hb hw h3 (ra_lp_re v2) hi hj
      have t := ra_lp_top hb _ _ _ _ _ v2 hi hj
      exact ⟨b, t.2 (by omega)⟩
    · obtain ⟨p, rfl⟩ : ∃ k, p = k + 1 := ⟨p - 1, by omega⟩
      obtain ⟨i0, rfl⟩ : ∃ k, i = k + (p + 1) := ⟨i - (p + 1), by omega⟩
      simp only [Nat.add_sub_cancel] at h1 h4
      obtain ⟨_, _, v, v1, v2⟩ := hS b i0 j h3 (by omega) hj h1
      have ge := ra_g1_eq hw hb1 (ra_lp_re v2) (n := p + 1 + e) (by omega) (by omega) (by rw [← Nat.add_assoc]; exact h2)
      have t := ra_in1 hb hw hS (p := p) (e := e) h3 hb1 (by omega) hj h1
      rw [ra_mulS] at ge
      exact ⟨1, t.2 (by omega)⟩
    · obtain ⟨p, rfl⟩ : ∃ k, p = k + 1 := ⟨p - 1, by omega⟩
      obtain ⟨j0, rfl⟩ : ∃ k, j = k + (p + 1) := ⟨j - (p + 1), by omega⟩
      simp only [Nat.add_sub_cancel] at h1 h4
      obtain ⟨_, _, v, v1, v2⟩ := hS b i j0 h3 hi (by omega) h1
      have ge := ra_g2_eq hw hb1 (ra_lp_re v2) (n := p + 1 + e) (by omega) (by omega) (by rw [← Nat.add_assoc]; exact h2)
      have t := ra_in2 hb hw hS (p := p) (e := e) h3 hb1 (by omega) hi h1
      rw [ra_mulS] at ge
      exact ⟨2, t.2 (by omega)⟩
  · rintro ⟨b, h⟩
    have h3 := ra_rc_b h
    have D := ra_D hb hw hS hC (i + j + 1) b i j (by omega) hi hj h
    have hbd := ra_r_bd hb (b := b) hi hj
    by_cases hM : ra_mv g b i j = ra_r g b i j
    · have c := ra_cl hb hw hS hC h3 hi hj D hM
      obtain ⟨_, _, v, v1, v2⟩ := hS b i j h3 hi hj c.1
      have t := ra_lp_top hb _ _ _ _ _ v2 hi hj
      exact Or.inl ⟨b, h3, c.1, by rw [hM]; omega, by rw [hM]; omega⟩
    · have cs : b = 0 ∨ b = 1 ∨ b = 2 := by omega
      rcases cs with rfl | rfl | rfl
      · exact absurd (ra_mv_0 hw (ra_rc_re h)) hM
      · obtain ⟨i0, p, b', rfl, q1, q2, q3, q4⟩ := D.2.1 rfl
        obtain ⟨e, r1, r2, r3⟩ := ra_run1_end hb hw hj (g.la - (i0 + (p + 1))) (i0 + (p + 1)) (by omega) hi (Nat.le_refl _)
        have he : 1 ≤ e := by
          refine Nat.pos_of_ne_zero fun h0 => ?_
          subst h0; exact hM r2
        have hbe := ra_r_bd hb (b := 1) (i := i0 + (p + 1) + e) (j := j) r1 hj
        have hne : ra_mv g 1 (i0 + (p + 1) + e) j ≠ (-100000000 : Int) := by rw [r2]; omega
        obtain ⟨_, _, v, v1, v2⟩ := hS b' i0 j q1 (by omega) hj q3
        have ge := ra_g1_eq hw q2 (ra_lp_re v2) (n := p + 1 + e) (by omega) (by omega) (by rw [← Nat.add_assoc]; exact hne)
        have t := ra_in1 hb hw hS (p := p) (e := e) q1 q2 r1 hj q3
        rw [ra_mulS] at ge
        refine Or.inr (Or.inl ⟨p + 1, e, b', by omega, by omega, he, by omega, q1, q2, ?_, hne, ?_⟩)
        · rw [Nat.add_sub_cancel]; exact q3
        · rw [Nat.add_sub_cancel, ge]; omega
      · obtain ⟨j0, p, b', rfl, q1, q2, q3, q4⟩ := D.2.2 rfl
        obtain ⟨e, r1, r2, r3⟩ := ra_run2_end hb hw hi (g.lb - (j0 + (p + 1))) (j0 + (p + 1)) (by omega) hj (Nat.le_refl _)
        have he : 1 ≤ e := by
          refine Nat.pos_of_ne_zero fun h0 => ?_
          subst h0; exact hM r2
        have hbe := ra_r_bd hb (b := 2) (i := i) (j := j0 + (p + 1) + e) hi r1
        have hne : ra_mv g 2 i (j0 + (p + 1) + e) ≠ (-100000000 : Int) := by rw [r2]; omega
        obtain ⟨_, _, v, v1, v2⟩ := hS b' i j0 q1 hi (by omega) q3
        have ge := ra_g2_eq hw q2 (ra_lp_re v2) (n := p + 1 + e) (by omega) (by omega) (by rw [← Nat.add_assoc]; exact hne)
        have t := ra_in2 hb hw hS (p := p) (e := e) q1 q2 r1 hi q3
        rw [ra_mulS] at ge
        refine Or.inr (Or.inr ⟨p + 1, e, b', by omega, by omega, he, by omega, q1, q2, ?_, hne, ?_⟩)
        · rw [Nat.add_sub_cancel]; exact q3
        · rw [Nat.add_sub_cancel, ge]; omega
