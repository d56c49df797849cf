theorem ra_cr_mono (d : Nat → Nat) (a : Nat) : ∀ n, ra_cr d a ≤ ra_cr d (a + n) := by
  intro n
  induction n with
  | zero => exact Nat.le_refl _
  | succ n ih => exact Nat.le_trans ih (Nat.le_add_right _ _)
theorem ra_run_ex {d : Nat → Nat} {x : Nat} : ∀ N, x < ra_cr d N → ∃ k, k < N ∧ ra_bg d k ∧ ra_cr d k = x := by
  intro N
  induction N with
  | zero => intro h; exact absurd h (Nat.not_lt_zero _)
  | succ N ih =>
    intro h
    by_cases c : x < ra_cr d N
    · obtain ⟨k, h1, h2⟩ := ih c
      exact ⟨k, by omega, h2⟩
    · by_cases b : ra_bg d N
      · rw [ra_cr_t b] at h
        exact ⟨N, by omega, b, by omega⟩
      · rw [ra_cr_f b] at h
        omega
theorem ra_nbg {d : Nat → Nat} {k : Nat} (h : ¬ ra_bg d k) : d k = d (k - 1) := Classical.byContradiction fun c => h (Or.inr c)
theorem ra_run_k {d : Nat → Nat} {x k : Nat} (hb : ra_bg d k) (hc : ra_cr d k = x) : ∀ m, ra_rk d x (k + 1 + m) = d k ∧ ((ra_cr d (k + 1 + m) = x + 1 ∧ d (k + m) = d k) ∨ x + 2 ≤ ra_cr d (k + 1 + m)) := by
  intro m
  induction m with
  | zero =>
    have e : ra_cr d (k + 1) = x + 1 := by rw [ra_cr_t hb, hc]
    exact ⟨ra_rk_t e, Or.inl ⟨e, rfl⟩⟩
  | succ m ih =>
    obtain ⟨h1, h2⟩ := ih
    show ra_rk d x (k + 1 + m + 1) = d k ∧ ((ra_cr d (k + 1 + m + 1) = x + 1 ∧ d (k + (m + 1)) = d k) ∨ x + 2 ≤ ra_cr d (k + 1 + m + 1))
    have e0 : k + (m + 1) = k + 1 + m := by omega
    have e1 : k + 1 + m - 1 = k + m := by omega
    rw [e0]
    by_cases b : ra_bg d (k + 1 + m)
    · have e := ra_cr_t b
      rw [ra_rk_f (by omega)]
      exact ⟨h1, Or.inr (by omega)⟩
    · have e := ra_cr_f b
      have f := ra_nbg b
      rw [e1] at f
      rcases h2 with ⟨q1, q2⟩ | q
      · rw [ra_rk_t (by omega)]
        exact ⟨f.trans q2, Or.inl ⟨by omega, f.trans q2⟩⟩
      · rw [ra_rk_f (by omega)]
        exact ⟨h1, Or.inr (by omega)⟩
theorem ra_run_kind {d : Nat → Nat} {x k N : Nat} (hk : k < N) (hb : ra_bg d k) (hc : ra_cr d k = x) : ra_rk d x N = d k := by
  have h := (ra_run_k hb hc (N - (k + 1))).1
  rw [show k + 1 + (N - (k + 1)) = N by omega] at h
  exact h
theorem ra_rm_before {d : Nat → Nat} {x k : Nat} (hc : ra_cr d k = x) : ∀ n, n ≤ k → ra_rm d x n = 0 := by
  intro n
  induction n with
  | zero => intro _; rfl
  | succ n ih =>
    intro h
    have e := ra_cr_mono d (n + 1) (k - (n + 1))
    rw [show n + 1 + (k - (n + 1)) = k by omega] at e
    rw [ra_rm_f (by omega)]
    exact ih (by omega)
theorem ra_rm_in {d : Nat → Nat} {x k u : Nat} (hb : ra_bg d k) (hc : ra_cr d k = x) (hu : ∀ t, k < t → t < u → ¬ ra_bg d t) : ∀ m, k + 1 + m ≤ u → ra_rm d x (k + 1 + m) = m + 1 ∧ ra_cr d (k + 1 + m) = x + 1 := by
  intro m
  induction m with
  | zero =>
    intro _
    have e : ra_cr d (k + 1) = x + 1 := by rw [ra_cr_t hb, hc]
    refine ⟨?_, e⟩
    show ra_rm d x (k + 1) = 1
    rw [ra_rm_t e, ra_rm_before hc k (Nat.le_refl _)]
  | succ m ih =>
    intro h
    obtain ⟨h1, h2⟩ := ih (by omega)
    have e := ra_cr_f (hu (k + 1 + m) (by omega) (by omega))
    show ra_rm d x (k + 1 + m + 1) = m + 1 + 1 ∧ ra_cr d (k + 1 + m + 1) = x + 1
    rw [ra_rm_t (by omega), h1]
    exact ⟨rfl, by omega⟩
theorem ra_run_many {d : Nat → Nat} {x k u N : Nat} (hb : ra_bg d k) (hc : ra_cr d k = x) (h1 : k < u) (h2 : u ≤ N) (hu : ∀ t, k < t → t < u → ¬ ra_bg d t) (he : u = N ∨ ra_bg d u) : ra_rm d x N = u - k := by
  have a := ra_rm_in hb hc hu (u - (k + 1)) (by omega)
  rw [show k + 1 + (u - (k + 1)) = u by omega] at a
  rcases he with rfl | he
  · rw [a.1]; omega
  · have b : ∀ m, ra_rm d x (u + m) = u - k ∧ (0 < m → x + 2 ≤ ra_cr d (u + m)) := by
      intro m
      induction m with
      | zero => exact ⟨by show ra_rm d x u = u - k; rw [a.1]; omega, fun q => by omega⟩
      | succ m ih =>
        have q : x + 2 ≤ ra_cr d (u + m + 1) := by
          by_cases c : m = 0
          · subst c
            show x + 2 ≤ ra_cr d (u + 1)
            rw [ra_cr_t he, a.2]; exact Nat.le_refl _
          · have := ih.2 (by omega)
            have := ra_cr_mono d (u + m) 1
            omega
        show ra_rm d x (u + m + 1) = u - k ∧ (0 < m + 1 → x + 2 ≤ ra_cr d (u + m + 1))
        rw [ra_rm_f (by omega)]
        exact ⟨ih.1, fun _ => q⟩
    have c := (b (N - u)).1
    rw [show u + (N - u) = N by omega] at c
    exact c
