/-- the entry that a step of kind s and length n leads to -/
def ra_tg (i j s n : Nat) : Nat := if s = 0 then (97 * (i + 1) + (j + 1)) * 3 + 0 else if s = 1 then (97 * (i + n) + j) * 3 + 1 else (97 * i + (j + n)) * 3 + 2
def ra_tw (g : ra_G) (i j s n : Nat) : Int := if s = 0 then g.sc i j else if s = 1 then -(ra_g1 g i j n) else -(ra_g2 g i j n)
def ra_okk (g : ra_G) (i j bf s n : Nat) : Prop := (s = 0 ∧ i < g.la ∧ j < g.lb) ∨ (s = 1 ∧ bf ≠ 1 ∧ 1 ≤ n ∧ i + n ≤ g.la) ∨ (s = 2 ∧ bf ≠ 2 ∧ 1 ≤ n ∧ j + n ≤ g.lb)
def ra_LR (g : ra_G) (Y u : Nat → Int) (i j bf : Nat) (D : Nat → Nat → Prop) : Prop := (∀ t, Y t ≤ u t) ∧ (∀ t, u t ≠ Y t → ∃ s n, ra_okk g i j bf s n ∧ t = ra_tg i j s n ∧ u t = Y ((97 * i + j) * 3 + bf) + ra_tw g i j s n) ∧ (∀ s n, ra_okk g i j bf s n → D s n → Y ((97 * i + j) * 3 + bf) + ra_tw g i j s n ≤ u (ra_tg i j s n))
theorem ra_LR_0 (g : ra_G) (Y : Nat → Int) (i j bf : Nat) : ra_LR g Y Y i j bf (fun _ _ => False) :=
  ⟨fun _ => Int.le_refl _, fun _ h => absurd rfl h, fun _ _ _ h => h.elim⟩
theorem ra_LR_weak {g : ra_G} {Y u : Nat → Int} {i j bf : Nat} {D D' : Nat → Nat → Prop} (h : ra_LR g Y u i j bf D) (hD : ∀ s n, ra_okk g i j bf s n → D' s n → D s n) : ra_LR g Y u i j bf D' :=
  ⟨h.1, h.2.1, fun s n h1 h2 => h.2.2 s n h1 (hD s n h1 h2)⟩
theorem ra_LR_step {g : ra_G} {Y u : Nat → Int} {i j bf s n t : Nat} {w : Int} {D D' : Nat → Nat → Prop} (h : ra_LR g Y u i j bf D) (hk : ra_okk g i j bf s n) (ht : t = ra_tg i j s n) (hw : w = Y ((97 * i + j) * 3 + bf) + ra_tw g i j s n) (hD : ∀ s' n', ra_okk g i j bf s' n' → D' s' n' → D s' n' ∨ (ra_tg i j s' n' = t ∧ ra_tw g i j s' n' = ra_tw g i j s n)) : ra_LR g Y (iU u t (if u t < w then w else u t)) i j bf D' := by
  subst hw
  have hge : ∀ q, u q ≤ iU u t (if u t < Y ((97 * i + j) * 3 + bf) + ra_tw g i j s n then Y ((97 * i + j) * 3 + bf) + ra_tw g i j s n else u t) q := by
    intro q
    unfold iU
    split
    · next e => rw [e]; split <;> omega
    · exact Int.le_refl _
  refine ⟨fun q => Int.le_trans (h.1 q) (hge q), ?_, ?_⟩
  · intro q hq
    by_cases e : q = t
    · subst e
      have e2 : iU u q (if u q < Y ((97 * i + j) * 3 + bf) + ra_tw g i j s n then Y ((97 * i + j) * 3 + bf) + ra_tw g i j s n else u q) q = if u q < Y ((97 * i + j) * 3 + bf) + ra_tw g i j s n then Y ((97 * i + j) * 3 + bf) + ra_tw g i j s n else u q := if_pos rfl
      rw [e2] at hq ⊢
      by_cases c : u q < Y ((97 * i + j) * 3 + bf) + ra_tw g i j s n
      · rw [if_pos c]
        exact ⟨s, n, hk, ht, rfl⟩
      · rw [if_neg c] at hq ⊢
        exact h.2.1 q hq
    · have e2 : iU u t (if u t < Y ((97 * i + j) * 3 + bf) + ra_tw g i j s n then Y ((97 * i + j) * 3 + bf) + ra_tw g i j s n else u t) q = u q := if_neg e
      rw [e2] at hq ⊢
      exact h.2.1 q hq
  · intro s' n' h1 h2
    rcases hD s' n' h1 h2 with q | ⟨q1, q2⟩
    · exact Int.le_trans (h.2.2 s' n' h1 q) (hge _)
    · rw [q1, q2]
      have e2 : iU u t (if u t < Y ((97 * i + j) * 3 + bf) + ra_tw g i j s n then Y ((97 * i + j) * 3 + bf) + ra_tw g i j s n else u t) t = if u t < Y ((97 * i + j) * 3 + bf) + ra_tw g i j s n then Y ((97 * i + j) * 3 + bf) + ra_tw g i j s n else u t := if_pos rfl
      rw [e2]
      split <;> omega
/-- the bounds of the entries while one place leads on -/
theorem ra_LR_bd {g : ra_G} (hb : ra_bd g) {Y u : Nat → Int} {i j bf : Nat} {D : Nat → Nat → Prop} (h : ra_LR g Y u i j bf D) (hY : ∀ t, -100000000 ≤ Y t ∧ Y t ≤ 400000) (t : Nat) : -100000000 ≤ u t ∧ u t ≤ 500000 := by
  have h1 := h.1 t
  have h2 := hY t
  refine ⟨by omega, ?_⟩
  by_cases c : u t = Y t
  · omega
  · obtain ⟨s, n, h3, -, h5⟩ := h.2.1 t c
    have h6 := hY ((97 * i + j) * 3 + bf)
    rw [h5]
    obtain ⟨-, -, hs, o0, -, m0, -, -⟩ := hb
    unfold ra_tw
    rcases h3 with ⟨q, q1, q2⟩ | ⟨q, -, q1, q2⟩ | ⟨q, -, q1, q2⟩
    · rw [if_pos q]
      have := hs i j q1 q2
      omega
    · rw [if_neg (by omega), if_pos q]
      have z : (0 : Int) ≤ g.mo * (n : Int) := Int.mul_nonneg m0 (by omega)
      have : 0 ≤ ra_g1 g i j n := by unfold ra_g1; split <;> omega
      omega
    · rw [if_neg (by omega), if_neg (by omega)]
      have z : (0 : Int) ≤ g.mo * (n : Int) := Int.mul_nonneg m0 (by omega)
      have : 0 ≤ ra_g2 g i j n := by unfold ra_g2; split <;> omega
      omega
abbrev ra_d1 (k : Nat) : Nat → Nat → Prop := fun s n => s = 0 ∨ (s = 1 ∧ n < k)
abbrev ra_d2 (k : Nat) : Nat → Nat → Prop := fun s n => s = 0 ∨ s = 1 ∨ n < k
theorem ra_LR_pair {g : ra_G} {Y u : Nat → Int} {i j bf : Nat} {w : Int} (h : ra_LR g Y u i j bf (fun _ _ => False)) (hi : i < g.la) (hj : j < g.lb) (hw : w = Y ((97 * i + j) * 3 + bf) + g.sc i j) : ra_LR g Y (iU u ((97 * (i + 1) + (j + 1)) * 3 + 0) (if u ((97 * (i + 1) + (j + 1)) * 3 + 0) < w then w else u ((97 * (i + 1) + (j + 1)) * 3 + 0))) i j bf (ra_d1 1) := by
  refine ra_LR_step (s := 0) (n := 1) h (Or.inl ⟨rfl, hi, hj⟩) rfl hw ?_
  intro s' n' h1 h2
  right
  have e : s' = 0 := by
    rcases h1 with q | q | q
    · exact q.1
    · rcases h2 with z | z
      · exact z
      · omega
    · rcases h2 with z | z
      · exact z
      · omega
  subst e
  exact ⟨rfl, rfl⟩
theorem ra_LR_nopair {g : ra_G} {Y u : Nat → Int} {i j bf : Nat} (h : ra_LR g Y u i j bf (fun _ _ => False)) (hn : ¬ (i < g.la ∧ j < g.lb)) : ra_LR g Y u i j bf (ra_d1 1) := by
  refine ra_LR_weak h ?_
  intro s' n' h1 h2
  rcases h1 with q | q | q <;> rcases h2 with z | z <;> omega
theorem ra_LR_one {g : ra_G} {Y u : Nat → Int} {i j bf n : Nat} {w : Int} (h : ra_LR g Y u i j bf (ra_d1 n)) (hb : bf ≠ 1) (hn : 1 ≤ n) (hi : i + n ≤ g.la) (hw : w = Y ((97 * i + j) * 3 + bf) - ra_g1 g i j n) : ra_LR g Y (iU u ((97 * (i + n) + j) * 3 + 1) (if u ((97 * (i + n) + j) * 3 + 1) < w then w else u ((97 * (i + n) + j) * 3 + 1))) i j bf (ra_d1 (n + 1)) := by
  refine ra_LR_step (s := 1) (n := n) h (Or.inr (Or.inl ⟨rfl, hb, hn, hi⟩)) rfl (by rw [hw]; show _ = _ + -(ra_g1 g i j n); omega) ?_
  intro s' n' h1 h2
  by_cases c : s' = 1 ∧ n' = n
  · right; rw [c.1, c.2]; exact ⟨rfl, rfl⟩
  · left
    rcases h2 with z | z
    · exact Or.inl z
    · exact Or.inr (by omega)
theorem ra_LR_ones {g : ra_G} {Y u : Nat → Int} {i j bf n : Nat} (h : ra_LR g Y u i j bf (ra_d1 n)) (hn : bf = 1 ∨ g.la < i + n) : ra_LR g Y u i j bf (ra_d2 1) := by
  refine ra_LR_weak h ?_
  intro s' n' h1 h2
  rcases h1 with q | q | q
  · exact Or.inl q.1
  · exact Or.inr (by omega)
  · rcases h2 with z | z | z <;> omega
theorem ra_LR_other {g : ra_G} {Y u : Nat → Int} {i j bf n : Nat} {w : Int} (h : ra_LR g Y u i j bf (ra_d2 n)) (hb : bf ≠ 2) (hn : 1 ≤ n) (hi : j + n ≤ g.lb) (hw : w = Y ((97 * i + j) * 3 + bf) - ra_g2 g i j n) : ra_LR g Y (iU u ((97 * i + (j + n)) * 3 + 2) (if u ((97 * i + (j + n)) * 3 + 2) < w then w else u ((97 * i + (j + n)) * 3 + 2))) i j bf (ra_d2 (n + 1)) := by
  refine ra_LR_step (s := 2) (n := n) h (Or.inr (Or.inr ⟨rfl, hb, hn, hi⟩)) rfl (by rw [hw]; show _ = _ + -(ra_g2 g i j n); omega) ?_
  intro s' n' h1 h2
  by_cases c : s' = 2 ∧ n' = n
  · right; rw [c.1, c.2]; exact ⟨rfl, rfl⟩
  · left
    rcases h1 with q | q | q
    · exact Or.inl q.1
    · exact Or.inr (Or.inl q.1)
    · rcases h2 with z | z | z
      · exact Or.inl z
      · exact Or.inr (Or.inl z)
      · exact Or.inr (Or.inr (by omega))
theorem ra_LR_all {g : ra_G} {Y u : Nat → Int} {i j bf n : Nat} (h : ra_LR g Y u i j bf (ra_d2 n)) (hn : bf = 2 ∨ g.lb < j + n) : ra_LR g Y u i j bf (fun _ _ => True) := by
  refine ra_LR_weak h ?_
  intro s' n' h1 h2
  rcases h1 with q | q | q
  · exact Or.inl q.1
  · exact Or.inr (Or.inl q.1)
  · exact Or.inr (Or.inr (by omega))
