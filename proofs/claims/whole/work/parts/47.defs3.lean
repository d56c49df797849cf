/-! Crossings: the walk over all rows. -/
def ra_CI (g : ra_G) (RT : Nat → Bool) (i j : Nat) : Prop :=
  (∀ b j', b < 3 → j' ≤ g.lb → (RT ((i % 2 * 3 + b) * 97 + j') = true ↔ ra_rc g b i j' ∧ (b = 2 → j' ≤ j))) ∧
  (i < g.la → ∀ b j', b < 3 → j' ≤ g.lb → (RT (((i + 1) % 2 * 3 + b) * 97 + j') = true ↔ (b = 0 ∧ j' ≤ j ∧ ra_rc g 0 (i + 1) j') ∨ (b = 1 ∧ j' < j ∧ ra_rc g 1 (i + 1) j')))
def ra_CR (g : ra_G) (RT : Nat → Bool) (i : Nat) : Prop := ∀ b j', b < 3 → j' ≤ g.lb → (RT ((i % 2 * 3 + b) * 97 + j') = true ↔ ra_rc g b i j' ∧ (b = 2 → j' ≤ 0))
theorem ra_ix0 (i j : Nat) : ra_ix i j 0 = ((i + 1) % 2 * 3 + 0) * 97 + (j + 1) := rfl
theorem ra_ix1 (i j : Nat) : ra_ix i j 1 = ((i + 1) % 2 * 3 + 1) * 97 + j := rfl
theorem ra_ix2 (i j : Nat) : ra_ix i j 2 = (i % 2 * 3 + 2) * 97 + (j + 1) := rfl
theorem ra_CI_step {g : ra_G} (hb : ra_bd g) {RT : Nat → Bool} {i j : Nat} (h : ra_CI g RT i j) (hi : i ≤ g.la) (hj : j ≤ g.lb) : ra_CI g (ra_gg g i j RT) i (j + 1) := by
  have hlb := hb.2.1
  have hat : ∀ b, b < 3 → (RT ((i % 2 * 3 + b) * 97 + j) = true ↔ ra_rc g b i j) := fun b h3 => by
    rw [h.1 b j h3 hj]; exact ⟨fun q => q.1, fun q => ⟨q, fun _ => Nat.le_refl _⟩⟩
  refine ⟨fun b' j' hb' hj' => ?_, fun hil b' j' hb' hj' => ?_⟩
  · rw [ra_gg_iff (by omega), h.1 b' j' hb' hj']
    constructor
    · rintro (⟨q1, q2⟩ | ⟨b, s, h3, hs, q1, q2, e⟩)
      · exact ⟨q1, fun z => by have := q2 z; omega⟩
      · have cs : s = 0 ∨ s = 1 ∨ s = 2 := by omega
        rcases cs with rfl | rfl | rfl
        · have := ra_xp_in hb hi hj (by rw [← ra_w_0 g b]; exact q2)
          rw [ra_ix0] at e; omega
        · rw [ra_ix1] at e; omega
        · have := ra_w2_in hb hi hj q2
          rw [ra_ix2] at e
          have e1 : b' = 2 := by omega
          have e2 : j' = j + 1 := by omega
          subst e1; subst e2
          exact ⟨(ra_rc_2 g i j).2 ⟨b, h3, (hat b h3).1 q1, q2⟩, fun _ => Nat.le_refl _⟩
    · rintro ⟨q1, q2⟩
      by_cases e : b' = 2 ∧ j' = j + 1
      · obtain ⟨rfl, rfl⟩ := e
        obtain ⟨b, h3, r1, r2⟩ := (ra_rc_2 g i j).1 q1
        exact Or.inr ⟨b, 2, h3, by omega, (hat b h3).2 r1, r2, by rw [ra_ix2]⟩
      · exact Or.inl ⟨q1, fun z => by have := q2 z; omega⟩
  · rw [ra_gg_iff (by omega), h.2 hil b' j' hb' hj']
    constructor
    · rintro ((⟨q1, q2, q3⟩ | ⟨q1, q2, q3⟩) | ⟨b, s, h3, hs, q1, q2, e⟩)
      · exact Or.inl ⟨q1, by omega, q3⟩
      · exact Or.inr ⟨q1, by omega, q3⟩
      · have cs : s = 0 ∨ s = 1 ∨ s = 2 := by omega
        rcases cs with rfl | rfl | rfl
        · have := ra_xp_in hb hi hj (by rw [← ra_w_0 g b]; exact q2)
          rw [ra_ix0] at e
          have e1 : b' = 0 := by omega
          have e2 : j' = j + 1 := by omega
          subst e1; subst e2
          exact Or.inl ⟨rfl, Nat.le_refl _, (ra_rc_0 g i j).2 ⟨b, h3, (hat b h3).1 q1, q2⟩⟩
        · rw [ra_ix1] at e
          have e1 : b' = 1 := by omega
          have e2 : j' = j := by omega
          subst e1; subst e2
          exact Or.inr ⟨rfl, by omega, (ra_rc_1 g i j').2 ⟨b, h3, (hat b h3).1 q1, q2⟩⟩
        · have := ra_w2_in hb hi hj q2
          rw [ra_ix2] at e; omega
    · rintro (⟨rfl, q2, q3⟩ | ⟨rfl, q2, q3⟩)
      · by_cases e : j' = j + 1
        · subst e
          obtain ⟨b, h3, r1, r2⟩ := (ra_rc_0 g i j).1 q3
          exact Or.inr ⟨b, 0, h3, by omega, (hat b h3).2 r1, r2, by rw [ra_ix0]⟩
        · exact Or.inl (Or.inl ⟨rfl, by omega, q3⟩)
      · by_cases e : j' = j
        · subst e
          obtain ⟨b, h3, r1, r2⟩ := (ra_rc_1 g i j').1 q3
          exact Or.inr ⟨b, 1, h3, by omega, (hat b h3).2 r1, r2, by rw [ra_ix1]⟩
        · exact Or.inl (Or.inr ⟨rfl, by omega, q3⟩)
theorem ra_gg_none {g : ra_G} {RT : Nat → Bool} {i j : Nat} (h : ¬ (RT ((i % 2 * 3 + 0) * 97 + j) = true ∨ RT ((i % 2 * 3 + 1) * 97 + j) = true ∨ RT ((i % 2 * 3 + 2) * 97 + j) = true)) : ra_gg g i j RT = RT := by
  have h0 : ¬ RT ((i % 2 * 3 + 0) * 97 + j) = true := fun q => h (Or.inl q)
  have h1 : ¬ RT ((i % 2 * 3 + (0 + 1)) * 97 + j) = true := fun q => h (Or.inr (Or.inl q))
  have h2 : ¬ RT ((i % 2 * 3 + (0 + 1 + 1)) * 97 + j) = true := fun q => h (Or.inr (Or.inr q))
  unfold ra_gg
  rw [ra_gf_f h0, ra_gf_f h1, ra_gf_f h2]
theorem ra_CI_rc {g : ra_G} {RT : Nat → Bool} {i j : Nat} (h : ra_CI g RT i j) (hj : j ≤ g.lb) : (RT ((i % 2 * 3 + 0) * 97 + j) = true ∨ RT ((i % 2 * 3 + 1) * 97 + j) = true ∨ RT ((i % 2 * 3 + 2) * 97 + j) = true) ↔ ∃ b, ra_rc g b i j := by
  constructor
  · rintro (q | q | q)
    · exact ⟨0, ((h.1 0 j (by omega) hj).1 q).1⟩
    · exact ⟨1, ((h.1 1 j (by omega) hj).1 q).1⟩
    · exact ⟨2, ((h.1 2 j (by omega) hj).1 q).1⟩
  · rintro ⟨b, q⟩
    have h3 := ra_rc_b q
    have cs : b = 0 ∨ b = 1 ∨ b = 2 := by omega
    rcases cs with rfl | rfl | rfl
    · exact Or.inl ((h.1 0 j (by omega) hj).2 ⟨q, by omega⟩)
    · exact Or.inr (Or.inl ((h.1 1 j (by omega) hj).2 ⟨q, by omega⟩))
    · exact Or.inr (Or.inr ((h.1 2 j (by omega) hj).2 ⟨q, by omega⟩))
theorem ra_CI_row {g : ra_G} {RT : Nat → Bool} {i jj : Nat} (h : ra_CI g RT i jj) (hj : g.lb < jj) (hi : i + 1 ≤ g.la) : ra_CR g RT (i + 1) := by
  intro b j' hb hj'
  rw [h.2 (by omega) b j' hb hj']
  constructor
  · rintro (⟨rfl, _, q⟩ | ⟨rfl, _, q⟩)
    · exact ⟨q, by omega⟩
    · exact ⟨q, by omega⟩
  · rintro ⟨q1, q2⟩
    have cs : b = 0 ∨ b = 1 ∨ b = 2 := by omega
    rcases cs with rfl | rfl | rfl
    · exact Or.inl ⟨rfl, by omega, q1⟩
    · exact Or.inr ⟨rfl, by omega, q1⟩
    · have e : j' = 0 := by have := q2 rfl; omega
      subst e; exact absurd q1 (ra_rc_2z g (i + 1))
theorem ra_CR_clear {g : ra_G} (hlb : g.lb ≤ 96) {RT : Nat → Bool} {i : Nat} (h : ra_CR g RT i) : ra_CI g (ra_cz RT ((i + 1) % 2 * 291) 291) i 0 := by
  refine ⟨fun b j' hb hj' => ?_, fun _ b j' hb hj' => ?_⟩
  · have e : ra_cz RT ((i + 1) % 2 * 291) 291 ((i % 2 * 3 + b) * 97 + j') = RT ((i % 2 * 3 + b) * 97 + j') := if_neg (by omega)
    rw [e]; exact h b j' hb hj'
  · have e : ra_cz RT ((i + 1) % 2 * 291) 291 (((i + 1) % 2 * 3 + b) * 97 + j') = false := if_pos (by omega)
    rw [e]
    constructor
    · intro q; cases q
    · rintro (⟨rfl, q1, q2⟩ | ⟨rfl, q1, q2⟩)
      · have := ra_rc_0z q2; omega
      · omega
theorem ra_CR_init {g : ra_G} (hlb : g.lb ≤ 96) (RT : Nat → Bool) : ra_CR g (iU (ra_cz RT (0 % 2 * 291) 291) ((0 * 3 + 0) * 97 + 0) true) 0 := by
  intro b j' hb hj'
  have e : iU (ra_cz RT (0 % 2 * 291) 291) ((0 * 3 + 0) * 97 + 0) true ((0 % 2 * 3 + b) * 97 + j') = true ↔ b = 0 ∧ j' = 0 := by
    by_cases q : b = 0 ∧ j' = 0
    · obtain ⟨rfl, rfl⟩ := q; simp [iU]
    · rw [iU_n (by omega)]
      have e : ra_cz RT (0 % 2 * 291) 291 ((0 % 2 * 3 + b) * 97 + j') = false := if_pos (by omega)
      rw [e]
      exact ⟨fun z => (by cases z), fun z => absurd z q⟩
  rw [e]
  constructor
  · rintro ⟨rfl, rfl⟩
    exact ⟨ra_rc_start g, by omega⟩
  · rintro ⟨q1, q2⟩
    have cs : b = 0 ∨ b = 1 ∨ b = 2 := by omega
    rcases cs with rfl | rfl | rfl
    · have := ra_rc_0z q1; exact ⟨rfl, by omega⟩
    · exact absurd q1 (ra_rc_1z g j')
    · have e2 : j' = 0 := by have := q2 rfl; omega
      subst e2; exact absurd q1 (ra_rc_2z g 0)
/-- the least place crossed in row i -/
def ra_LF (g : ra_G) (LE : Nat → Int) (i : Nat) : Prop := ∃ m : Nat, m ≤ g.lb ∧ LE i = (m : Int) ∧ (∃ b, ra_rc g b i m) ∧ ∀ j', j' < m → ∀ b, ¬ ra_rc g b i j'
def ra_LI (g : ra_G) (x : Int) (i j : Nat) : Prop := (x = -1 ∧ ∀ j', j' < j → ∀ b, ¬ ra_rc g b i j') ∨ ∃ m : Nat, m < j ∧ m ≤ g.lb ∧ x = (m : Int) ∧ (∃ b, ra_rc g b i m) ∧ ∀ j', j' < m → ∀ b, ¬ ra_rc g b i j'
theorem ra_LI_0 (g : ra_G) (i : Nat) : ra_LI g (-1) i 0 := Or.inl ⟨rfl, fun j' h => by omega⟩
theorem ra_LI_no {g : ra_G} {x : Int} {i j : Nat} (h : ra_LI g x i j) (hn : ¬ ∃ b, ra_rc g b i j) : ra_LI g x i (j + 1) := by
  rcases h with ⟨h1, h2⟩ | ⟨m, h1, h2, h3, h4, h5⟩
  · refine Or.inl ⟨h1, fun j' hj b q => ?_⟩
    by_cases e : j' = j
    · subst e; exact hn ⟨b, q⟩
    · exact h2 j' (by omega) b q
  · exact Or.inr ⟨m, by omega, h2, h3, h4, h5⟩
theorem ra_LI_yes {g : ra_G} {x : Int} {i j : Nat} (h : ra_LI g x i j) (hj : j ≤ g.lb) (hy : ∃ b, ra_rc g b i j) : ra_LI g (if x = -1 then ((j : Nat) : Int) else x) i (j + 1) := by
  rcases h with ⟨h1, h2⟩ | ⟨m, h1, h2, h3, h4, h5⟩
  · rw [if_pos h1]; exact Or.inr ⟨j, by omega, hj, rfl, hy, h2⟩
  · rw [if_neg (by omega)]; exact Or.inr ⟨m, by omega, h2, h3, h4, h5⟩
theorem ra_LI_R {g : ra_G} (hlb : g.lb ≤ 96) {x : Int} {i j : Nat} (h : ra_LI g x i j) : -1 ≤ x ∧ x ≤ 96 := by
  rcases h with ⟨h1, _⟩ | ⟨m, _, h2, h3, _⟩ <;> omega
theorem ra_LI_end {g : ra_G} (hb : ra_bd g) (hp : g.pt = false) {LE : Nat → Int} {i j : Nat} (h : ra_LI g (LE i) i j) (hi : i ≤ g.la) (hj : g.lb < j) : ra_LF g LE i := by
  rcases h with ⟨_, h2⟩ | ⟨m, _, h2, h3, h4, h5⟩
  · obtain ⟨b, j', q1, q2⟩ := ra_rc_row hb hp i hi
    exact absurd q2 (h2 j' (by omega) b)
  · exact ⟨m, h2, h3, h4, h5⟩
theorem ra_LF_up {g : ra_G} {LE : Nat → Int} {i k : Nat} {x : Int} (h : ra_LF g LE i) (hk : i ≠ k) : ra_LF g (iU LE k x) i := by
  obtain ⟨m, h1, h2, h3⟩ := h
  exact ⟨m, h1, by rw [iU_n hk]; exact h2, h3⟩
