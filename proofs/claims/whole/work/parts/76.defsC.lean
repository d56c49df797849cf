theorem ra_cx_more {g : ra_G} (hb : ra_bd g) (hp : g.pt = false) {x jj : Nat} (hx : x ≤ g.la) (h : ∀ j', j' < jj + 1 → ∀ b, ¬ ra_rc g b x j') : jj + 1 ≤ g.lb := by
  obtain ⟨b, j, h1, h2⟩ := ra_rc_row hb hp x hx
  apply Classical.byContradiction
  intro c
  exact h j (by omega) b h2
theorem ra_cx_s {g : ra_G} {x jj : Nat} (h : ∀ j', j' < jj → ∀ b, ¬ ra_rc g b x j') (hn : ¬ ∃ b, ra_rc g b x jj) : ∀ j', j' < jj + 1 → ∀ b, ¬ ra_rc g b x j' := by
  intro j' hj b q
  by_cases c : j' = jj
  · subst c; exact hn ⟨b, q⟩
  · exact h j' (by omega) b q
