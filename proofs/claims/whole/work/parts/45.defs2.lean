/-! Ways and crossings: what the two rows of their tables hold. -/
/-- the counts behind (i, j), two rows of them -/
def ra_KB (g : ra_G) (K : Nat → Int64) (i j : Nat) : Prop := (i < g.la → j < g.lb → K (((i + 1) % 2 * 3 + 0) * 97 + (j + 1)) = ra_k g 0 (i + 1) (j + 1)) ∧ (i < g.la → K (((i + 1) % 2 * 3 + 1) * 97 + j) = ra_k g 1 (i + 1) j) ∧ (j < g.lb → K ((i % 2 * 3 + 2) * 97 + (j + 1)) = ra_k g 2 i (j + 1))
theorem ra_KB_up {g : ra_G} {K : Nat → Int64} {i j b : Nat} {v : Int64} (h : ra_KB g K i j) (hb : b < 3) (hlb : g.lb ≤ 96) (hj : j ≤ g.lb) : ra_KB g (iU K ((i % 2 * 3 + b) * 97 + j) v) i j := by
  refine ⟨fun h1 h2 => ?_, fun h1 => ?_, fun h1 => ?_⟩
  · rw [iU_n (by omega)]; exact h.1 h1 h2
  · rw [iU_n (by omega)]; exact h.2.1 h1
  · rw [iU_n (by omega)]; exact h.2.2 h1
def ra_KD (g : ra_G) (K : Nat → Int64) (ii jj : Nat) : Prop := ∀ b i j, b < 3 → i ≤ g.la → j ≤ g.lb → (i = ii ∨ (i + 1 = ii ∧ jj ≤ j)) → K ((i % 2 * 3 + b) * 97 + j) = ra_k g b i j
theorem ra_KD_KB {g : ra_G} {K : Nat → Int64} {i j : Nat} (h : ra_KD g K (i + 1) (j + 1)) (hi : i ≤ g.la) (hj : j ≤ g.lb) : ra_KB g K i j :=
  ⟨fun h1 h2 => h 0 (i + 1) (j + 1) (by omega) (by omega) (by omega) (Or.inl rfl), fun h1 => h 1 (i + 1) j (by omega) (by omega) hj (Or.inl rfl), fun h1 => h 2 i (j + 1) (by omega) hi (by omega) (Or.inr ⟨rfl, by omega⟩)⟩
theorem ra_KD_row {g : ra_G} {K : Nat → Int64} {i : Nat} (h : ra_KD g K (i + 1) 0) : ra_KD g K i (g.lb + 1) := by
  intro b i' j hb hi hj hc
  exact h b i' j hb hi hj (by omega)
theorem ra_KD_step {g : ra_G} {K : Nat → Int64} {i j : Nat} {v0 v1 v2 : Int64} (h : ra_KD g K (i + 1) (j + 1)) (hlb : g.lb ≤ 96) (hj : j ≤ g.lb) (h0 : v0 = ra_k g 0 i j) (h1 : v1 = ra_k g 1 i j) (h2 : v2 = ra_k g 2 i j) :
    ra_KD g (iU (iU (iU K ((i % 2 * 3 + 0) * 97 + j) v0) ((i % 2 * 3 + (0 + 1)) * 97 + j) v1) ((i % 2 * 3 + (0 + 1 + 1)) * 97 + j) v2) (i + 1) j := by
  intro b i' j' hb hi' hj' hc
  by_cases e : i' = i ∧ j' = j
  · obtain ⟨rfl, rfl⟩ := e
    have cs : b = 0 ∨ b = 1 ∨ b = 2 := by omega
    rcases cs with rfl | rfl | rfl
    · rw [iU_n (by omega), iU_n (by omega), iU_s, h0]
    · rw [iU_n (by omega), iU_s, h1]
    · rw [iU_s, h2]
  · rw [iU_n (by omega), iU_n (by omega), iU_n (by omega)]
    exact h b i' j' hb hi' hj' (by omega)
theorem ra_w_X {g : ra_G} (h : ra_bd g) {b i j s : Nat} (hi : i ≤ g.la) (hj : j ≤ g.lb) : -500000000 ≤ ra_w g b i j s ∧ ra_w g b i j s ≤ 500000000 := by
  obtain ⟨h1, h2, h3, h4, h5, h6⟩ := ra_lk_X h hi hj
  unfold raX at h1 h2 h3 h4 h5 h6
  unfold ra_w
  split
  · omega
  · split
    · split <;> omega
    · split <;> omega
def ra_sm (f : Nat → Int64) : Nat → Int64
  | 0 => 0
  | k + 1 => ra_sm f k + f k
/-- a best laying may begin here -/
abbrev ra_cst (g : ra_G) (best : Int) (i j : Nat) : Prop := (g.pt = true ∧ ra_r g 0 i j = best) ∨ (¬ g.pt = true ∧ i = 0 ∧ j = 0)
def ra_sw (g : ra_G) (best : Int) (i j : Nat) : Int64 := if ra_cst g best i j then ra_k g 0 i j else 0
/-- all ways, summed from the ends of the rows on -/
def ra_wr (g : ra_G) (best : Int) (i : Nat) : Nat → Int64 := ra_sm (fun t => ra_sw g best i (g.lb - t))
def ra_wa (g : ra_G) (best : Int) : Nat → Int64 := ra_sm (fun t => ra_wr g best (g.la - t) (g.lb + 1))
/-! crossings -/
/-- the places that a best laying goes on to, by the step s -/
abbrev ra_ix (i j s : Nat) : Nat := ((i + ra_da s) % 2 * 3 + s) * 97 + (j + ra_db s)
def ra_gs (g : ra_G) (b i j s : Nat) (RT : Nat → Bool) : Nat → Bool := if ra_w g b i j s = ra_r g b i j then iU RT (ra_ix i j s) true else RT
def ra_gt (g : ra_G) (b i j : Nat) (RT : Nat → Bool) : Nat → Bool := ra_gs g b i j (0 + 1 + 1) (ra_gs g b i j (0 + 1) (ra_gs g b i j 0 RT))
def ra_gf (g : ra_G) (i j b : Nat) (RT : Nat → Bool) : Nat → Bool := if RT ((i % 2 * 3 + b) * 97 + j) = true then ra_gt g b i j RT else RT
def ra_gg (g : ra_G) (i j : Nat) (RT : Nat → Bool) : Nat → Bool := ra_gf g i j (0 + 1 + 1) (ra_gf g i j (0 + 1) (ra_gf g i j 0 RT))
theorem ra_gs_iff {g : ra_G} {b i j s : Nat} {RT : Nat → Bool} {q : Nat} : ra_gs g b i j s RT q = true ↔ RT q = true ∨ (ra_w g b i j s = ra_r g b i j ∧ q = ra_ix i j s) := by
  unfold ra_gs
  by_cases h : ra_w g b i j s = ra_r g b i j
  · rw [if_pos h]
    by_cases e : q = ra_ix i j s
    · rw [e, iU_s]; simp [h]
    · rw [iU_n e]; simp [e]
  · rw [if_neg h]; simp [h]
theorem ra_gt_iff {g : ra_G} {b i j : Nat} {RT : Nat → Bool} {q : Nat} : ra_gt g b i j RT q = true ↔ RT q = true ∨ ∃ s, s < 3 ∧ ra_w g b i j s = ra_r g b i j ∧ q = ra_ix i j s := by
  unfold ra_gt
  rw [ra_gs_iff, ra_gs_iff, ra_gs_iff]
  constructor
  · rintro (((h | h) | h) | h)
    · exact Or.inl h
    · exact Or.inr ⟨0, by omega, h⟩
    · exact Or.inr ⟨1, by omega, h⟩
    · exact Or.inr ⟨2, by omega, h⟩
  · rintro (h | ⟨s, hs, h⟩)
    · exact Or.inl (Or.inl (Or.inl h))
    · have cs : s = 0 ∨ s = 1 ∨ s = 2 := by omega
      rcases cs with rfl | rfl | rfl
      · exact Or.inl (Or.inl (Or.inr h))
      · exact Or.inl (Or.inr h)
      · exact Or.inr h
theorem ra_ix_ne {i j s b : Nat} (hs : s < 3) (hb : b < 3) (hj : j ≤ 96) : ra_ix i j s ≠ (i % 2 * 3 + b) * 97 + j := by
  have cs : s = 0 ∨ s = 1 ∨ s = 2 := by omega
  rcases cs with rfl | rfl | rfl <;> simp only [ra_ix, ra_da, ra_db] <;> simp <;> omega
theorem ra_gf_iff {g : ra_G} {b i j : Nat} {RT : Nat → Bool} {q : Nat} : ra_gf g i j b RT q = true ↔ RT q = true ∨ (RT ((i % 2 * 3 + b) * 97 + j) = true ∧ ∃ s, s < 3 ∧ ra_w g b i j s = ra_r g b i j ∧ q = ra_ix i j s) := by
  unfold ra_gf
  by_cases h : RT ((i % 2 * 3 + b) * 97 + j) = true
  · rw [if_pos h, ra_gt_iff]; simp [h]
  · rw [if_neg h]; simp [h]
theorem ra_gf_at {g : ra_G} {b b' i j : Nat} {RT : Nat → Bool} (hb' : b' < 3) (hj : j ≤ 96) : ra_gf g i j b RT ((i % 2 * 3 + b') * 97 + j) = true ↔ RT ((i % 2 * 3 + b') * 97 + j) = true := by
  rw [ra_gf_iff]
  constructor
  · rintro (h | ⟨_, s, hs, _, e⟩)
    · exact h
    · exact absurd e.symm (ra_ix_ne hs hb' hj)
  · exact Or.inl
theorem ra_gg_iff {g : ra_G} {i j : Nat} {RT : Nat → Bool} {q : Nat} (hj : j ≤ 96) : ra_gg g i j RT q = true ↔ RT q = true ∨ ∃ b s, b < 3 ∧ s < 3 ∧ RT ((i % 2 * 3 + b) * 97 + j) = true ∧ ra_w g b i j s = ra_r g b i j ∧ q = ra_ix i j s := by
  unfold ra_gg
  rw [ra_gf_iff, ra_gf_iff, ra_gf_iff, ra_gf_at (by omega) hj, ra_gf_at (by omega) hj, ra_gf_at (by omega) hj]
  constructor
  · rintro (((h | ⟨h, s, hs, h2⟩) | ⟨h, s, hs, h2⟩) | ⟨h, s, hs, h2⟩)
    · exact Or.inl h
    · exact Or.inr ⟨0, s, by omega, hs, h, h2⟩
    · exact Or.inr ⟨1, s, by omega, hs, h, h2⟩
    · exact Or.inr ⟨2, s, by omega, hs, h, h2⟩
  · rintro (h | ⟨b, s, hb, hs, h, h2⟩)
    · exact Or.inl (Or.inl (Or.inl h))
    · have cs : b = 0 ∨ b = 1 ∨ b = 2 := by omega
      rcases cs with rfl | rfl | rfl
      · exact Or.inl (Or.inl (Or.inr ⟨h, s, hs, h2⟩))
      · exact Or.inl (Or.inr ⟨h, s, hs, h2⟩)
      · exact Or.inr ⟨h, s, hs, h2⟩
theorem ra_sw_t {g : ra_G} {best : Int} {i j : Nat} (h : ra_cst g best i j) : ra_sw g best i j = ra_k g 0 i j := if_pos h
theorem ra_sw_f {g : ra_G} {best : Int} {i j : Nat} (h : ¬ ra_cst g best i j) : ra_sw g best i j = 0 := if_neg h
theorem ra_wr_0 (g : ra_G) (best : Int) (i n : Nat) : ra_wr g best i (n - n) = 0 := by rw [Nat.sub_self]; rfl
theorem ra_wr_s {g : ra_G} {best : Int} {i j : Nat} (hj : j ≤ g.lb) : ra_wr g best i (g.lb + 1 - j) = ra_wr g best i (g.lb + 1 - (j + 1)) + ra_sw g best i j := by
  rw [show g.lb + 1 - j = (g.lb + 1 - (j + 1)) + 1 by omega]
  show ra_sm _ _ + ra_sw g best i (g.lb - (g.lb + 1 - (j + 1))) = _
  rw [show g.lb - (g.lb + 1 - (j + 1)) = j by omega]; rfl
theorem ra_wa_s {g : ra_G} {best : Int} {i : Nat} (hi : i ≤ g.la) : ra_wa g best (g.la + 1 - i) = ra_wa g best (g.la + 1 - (i + 1)) + ra_wr g best i (g.lb + 1 - 0) := by
  rw [show g.la + 1 - i = (g.la + 1 - (i + 1)) + 1 by omega]
  show ra_sm _ _ + ra_wr g best (g.la - (g.la + 1 - (i + 1))) (g.lb + 1) = _
  rw [show g.la - (g.la + 1 - (i + 1)) = i by omega]; rfl
/-- a stretch of places cleared, so far -/
def ra_cz (RT : Nat → Bool) (a k : Nat) : Nat → Bool := fun q => if a ≤ q ∧ q < a + k then false else RT q
theorem ra_cz_0 (RT : Nat → Bool) (a : Nat) : ra_cz RT a 0 = RT := by
  funext q; unfold ra_cz; rw [if_neg (by omega)]
theorem ra_cz_s (RT : Nat → Bool) (a k : Nat) : iU (ra_cz RT a k) (a + k) false = ra_cz RT a (k + 1) := by
  funext q
  by_cases h : q = a + k
  · subst h; rw [iU_s]; unfold ra_cz; rw [if_pos (by omega)]
  · rw [iU_n h]; unfold ra_cz
    by_cases h2 : a ≤ q ∧ q < a + k
    · rw [if_pos h2, if_pos (show a ≤ q ∧ q < a + (k + 1) by omega)]
    · rw [if_neg h2, if_neg (show ¬ (a ≤ q ∧ q < a + (k + 1)) by omega)]
theorem ra_gs_t {g : ra_G} {b i j s : Nat} {RT : Nat → Bool} (h : ra_w g b i j s = ra_r g b i j) : ra_gs g b i j s RT = iU RT (ra_ix i j s) true := if_pos h
theorem ra_gs_f {g : ra_G} {b i j s : Nat} {RT : Nat → Bool} (h : ¬ ra_w g b i j s = ra_r g b i j) : ra_gs g b i j s RT = RT := if_neg h
theorem ra_gf_t {g : ra_G} {b i j : Nat} {RT : Nat → Bool} (h : RT ((i % 2 * 3 + b) * 97 + j) = true) : ra_gf g i j b RT = ra_gt g b i j RT := if_pos h
theorem ra_gf_f {g : ra_G} {b i j : Nat} {RT : Nat → Bool} (h : ¬ RT ((i % 2 * 3 + b) * 97 + j) = true) : ra_gf g i j b RT = RT := if_neg h
