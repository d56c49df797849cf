/-! Mathematics, fifth part: what a drawn laying is worth, step by step and run by run. -/
def ra_qi (d : Nat → Nat) : Nat → Nat
  | 0 => 0
  | k + 1 => ra_qi d k + ra_da (d k)
def ra_qj (d : Nat → Nat) : Nat → Nat
  | 0 => 0
  | k + 1 => ra_qj d k + ra_db (d k)
def ra_bf (d : Nat → Nat) : Nat → Nat
  | 0 => 0
  | k + 1 => d k
def ra_tm (g : ra_G) (d : Nat → Nat) (k : Nat) : Int := if d k = 0 then g.sc (ra_qi d k) (ra_qj d k) else if (if d k = 1 then ra_f1 g (ra_qj d k) else ra_f2 g (ra_qi d k)) = true then 0 else -(g.mo + if d k = ra_bf d k then 0 else g.op)
def ra_cs (g : ra_G) (d : Nat → Nat) : Nat → Int
  | 0 => 0
  | k + 1 => ra_cs g d k + ra_tm g d k
/-- the class's answer -/
def ra_wo (g : ra_G) (d : Nat → Nat) (N : Nat) : Int := if ra_qi d N = g.la ∧ ra_qj d N = g.lb then ra_cs g d N else -1000000
theorem ra_qi_mono (d : Nat → Nat) (k : Nat) : ∀ t, ra_qi d k ≤ ra_qi d (k + t) := by
  intro t
  induction t with
  | zero => exact Nat.le_refl _
  | succ t ih => show _ ≤ ra_qi d (k + t) + _; omega
theorem ra_qj_mono (d : Nat → Nat) (k : Nat) : ∀ t, ra_qj d k ≤ ra_qj d (k + t) := by
  intro t
  induction t with
  | zero => exact Nat.le_refl _
  | succ t ih => show _ ≤ ra_qj d (k + t) + _; omega
theorem ra_db_0 {s : Nat} (h : ra_db s = 0) : s = 1 := by
  unfold ra_db at h; split at h
  · assumption
  · omega
theorem ra_da_0 {s : Nat} (h : ra_da s = 0) : s = 2 := by
  unfold ra_da at h; split at h
  · assumption
  · omega
/-- where B's letters don't move on, all steps are of A -/
theorem ra_qj_flat (d : Nat → Nat) (k t : Nat) (h : ra_qj d (k + t) = ra_qj d k) : ∀ u, u < t → d (k + u) = 1 := by
  intro u hu
  have h1 := ra_qj_mono d k u
  have h2 := ra_qj_mono d (k + u + 1) (t - (u + 1))
  rw [show k + u + 1 + (t - (u + 1)) = k + t by omega] at h2
  have h3 : ra_qj d (k + u + 1) = ra_qj d (k + u) + ra_db (d (k + u)) := rfl
  exact ra_db_0 (by omega)
theorem ra_qi_flat (d : Nat → Nat) (k t : Nat) (h : ra_qi d (k + t) = ra_qi d k) : ∀ u, u < t → d (k + u) = 2 := by
  intro u hu
  have h1 := ra_qi_mono d k u
  have h2 := ra_qi_mono d (k + u + 1) (t - (u + 1))
  rw [show k + u + 1 + (t - (u + 1)) = k + t by omega] at h2
  have h3 : ra_qi d (k + u + 1) = ra_qi d (k + u) + ra_da (d (k + u)) := rfl
  exact ra_da_0 (by omega)
theorem ra_q_run1 (d : Nat → Nat) (k : Nat) : ∀ n, (∀ t, t < n → d (k + t) = 1) → ra_qi d (k + n) = ra_qi d k + n ∧ ra_qj d (k + n) = ra_qj d k := by
  intro n
  induction n with
  | zero => intro _; exact ⟨rfl, rfl⟩
  | succ n ih =>
    intro h
    obtain ⟨a, b⟩ := ih (fun t ht => h t (by omega))
    have e := h n (by omega)
    constructor
    · show ra_qi d (k + n) + ra_da (d (k + n)) = _
      rw [a, e]; simp [ra_da]; omega
    · show ra_qj d (k + n) + ra_db (d (k + n)) = _
      rw [b, e]; simp [ra_db]
theorem ra_q_run2 (d : Nat → Nat) (k : Nat) : ∀ n, (∀ t, t < n → d (k + t) = 2) → ra_qi d (k + n) = ra_qi d k ∧ ra_qj d (k + n) = ra_qj d k + n := by
  intro n
  induction n with
  | zero => intro _; exact ⟨rfl, rfl⟩
  | succ n ih =>
    intro h
    obtain ⟨a, b⟩ := ih (fun t ht => h t (by omega))
    have e := h n (by omega)
    constructor
    · show ra_qi d (k + n) + ra_da (d (k + n)) = _
      rw [a, e]; simp [ra_da]
    · show ra_qj d (k + n) + ra_db (d (k + n)) = _
      rw [b, e]; simp [ra_db]; omega
theorem ra_cs_run1 (g : ra_G) (d : Nat → Nat) (k : Nat) (hk : ra_bf d k ≠ 1) : ∀ n, (∀ t, t < n + 1 → d (k + t) = 1) → ra_cs g d (k + (n + 1)) = ra_cs g d k - (if ra_f1 g (ra_qj d k) = true then 0 else g.op + g.mo * ((n + 1 : Nat) : Int)) := by
  intro n
  induction n with
  | zero =>
    intro h
    have e : d k = 1 := h 0 (by omega)
    show ra_cs g d k + ra_tm g d k = _
    unfold ra_tm
    rw [e]
    simp only [Nat.one_ne_zero, if_false, if_true]
    have h1 : ((0 + 1 : Nat) : Int) = 1 := rfl
    rw [if_neg (show ¬ 1 = ra_bf d k from fun q => hk q.symm), h1, Int.mul_one]
    split <;> omega
  | succ n ih =>
    intro h
    have a := ih (fun t ht => h t (by omega))
    have e : d (k + (n + 1)) = 1 := h (n + 1) (by omega)
    have e' : ra_bf d (k + (n + 1)) = 1 := h n (by omega)
    have q := (ra_q_run1 d k (n + 1) (fun t ht => h t (by omega))).2
    show ra_cs g d (k + (n + 1)) + ra_tm g d (k + (n + 1)) = _
    rw [a]
    unfold ra_tm
    rw [e, e', q]
    simp only [Nat.one_ne_zero, if_false, if_true]
    rw [ra_mul1 _ (n + 1)]
    split <;> omega
theorem ra_cs_run2 (g : ra_G) (d : Nat → Nat) (k : Nat) (hk : ra_bf d k ≠ 2) : ∀ n, (∀ t, t < n + 1 → d (k + t) = 2) → ra_cs g d (k + (n + 1)) = ra_cs g d k - (if ra_f2 g (ra_qi d k) = true then 0 else g.op + g.mo * ((n + 1 : Nat) : Int)) := by
  intro n
  induction n with
  | zero =>
    intro h
    have e : d k = 2 := h 0 (by omega)
    show ra_cs g d k + ra_tm g d k = _
    unfold ra_tm
    rw [e]
    simp only [show ¬ (2 : Nat) = 0 by omega, show ¬ (2 : Nat) = 1 by omega, if_false]
    have h1 : ((0 + 1 : Nat) : Int) = 1 := rfl
    rw [if_neg (show ¬ 2 = ra_bf d k from fun q => hk q.symm), h1, Int.mul_one]
    split <;> omega
  | succ n ih =>
    intro h
    have a := ih (fun t ht => h t (by omega))
    have e : d (k + (n + 1)) = 2 := h (n + 1) (by omega)
    have e' : ra_bf d (k + (n + 1)) = 2 := h n (by omega)
    have q := (ra_q_run2 d k (n + 1) (fun t ht => h t (by omega))).1
    show ra_cs g d (k + (n + 1)) + ra_tm g d (k + (n + 1)) = _
    rw [a]
    unfold ra_tm
    rw [e, e', q]
    simp only [show ¬ (2 : Nat) = 0 by omega, show ¬ (2 : Nat) = 1 by omega, if_false, if_true]
    rw [ra_mul1 _ (n + 1)]
    split <;> omega
/-- a run of A in a whole laying costs what the reference says -/
theorem ra_wo_run1 {g : ra_G} {d : Nat → Nat} {N k n : Nat} (hi : ra_qi d N = g.la) (hj : ra_qj d N = g.lb) (hn : 1 ≤ n) (hk : k + n ≤ N) (hb : ra_bf d k ≠ 1) (hd : ∀ t, t < n → d (k + t) = 1) (he : k + n = N ∨ d (k + n) ≠ 1) :
    ra_cs g d (k + n) = ra_cs g d k - ra_g1 g (ra_qi d k) (ra_qj d k) n := by
  obtain ⟨n, rfl⟩ : ∃ t, n = t + 1 := ⟨n - 1, by omega⟩
  rw [ra_cs_run1 g d k hb n hd]
  have h0 : (ra_qi d k = 0 ∧ ra_qj d k = 0) ↔ ra_qj d k = 0 := by
    refine ⟨fun h => h.2, fun h => ⟨?_, h⟩⟩
    cases k with
    | zero => rfl
    | succ k =>
      have f := ra_qj_flat d 0 (k + 1) (by rw [Nat.zero_add]; exact h) k (by omega)
      rw [Nat.zero_add] at f
      exact absurd f hb
  have h1 : (ra_qi d k + (n + 1) = g.la ∧ ra_qj d k = g.lb) ↔ ra_qj d k = g.lb := by
    refine ⟨fun h => h.2, fun h => ⟨?_, h⟩⟩
    have q := (ra_q_run1 d k (n + 1) hd).1
    by_cases e2 : k + (n + 1) = N
    · rw [← q, e2, hi]
    · rcases he with he | he
      · exact absurd he e2
      · exact absurd (ra_qj_flat d k (N - k) (by rw [show k + (N - k) = N by omega, hj, h]) (n + 1) (by omega)) he
  unfold ra_g1 ra_f1
  simp only [h0, h1]
  by_cases c : (ra_qj d k = 0 ∧ g.fr.testBit 0 = true) ∨ (ra_qj d k = g.lb ∧ g.fr.testBit 2 = true)
  · have c' : ((ra_qj d k == 0 && g.fr.testBit 0) || (ra_qj d k == g.lb && g.fr.testBit 2)) = true := by simpa using c
    rw [if_pos c, if_pos c']
  · have c' : ¬ ((ra_qj d k == 0 && g.fr.testBit 0) || (ra_qj d k == g.lb && g.fr.testBit 2)) = true := by simpa using c
    rw [if_neg c, if_neg c']
/-- a run of B in a whole laying costs what the reference says -/
theorem ra_wo_run2 {g : ra_G} {d : Nat → Nat} {N k n : Nat} (hi : ra_qi d N = g.la) (hj : ra_qj d N = g.lb) (hn : 1 ≤ n) (hk : k + n ≤ N) (hb : ra_bf d k ≠ 2) (hd : ∀ t, t < n → d (k + t) = 2) (he : k + n = N ∨ d (k + n) ≠ 2) :
    ra_cs g d (k + n) = ra_cs g d k - ra_g2 g (ra_qi d k) (ra_qj d k) n := by
  obtain ⟨n, rfl⟩ : ∃ t, n = t + 1 := ⟨n - 1, by omega⟩
  rw [ra_cs_run2 g d k hb n hd]
  have h0 : (ra_qi d k = 0 ∧ ra_qj d k = 0) ↔ ra_qi d k = 0 := by
    refine ⟨fun h => h.1, fun h => ⟨h, ?_⟩⟩
    cases k with
    | zero => rfl
    | succ k =>
      have f := ra_qi_flat d 0 (k + 1) (by rw [Nat.zero_add]; exact h) k (by omega)
      rw [Nat.zero_add] at f
      exact absurd f hb
  have h1 : (ra_qi d k = g.la ∧ ra_qj d k + (n + 1) = g.lb) ↔ ra_qi d k = g.la := by
    refine ⟨fun h => h.1, fun h => ⟨h, ?_⟩⟩
    have q := (ra_q_run2 d k (n + 1) hd).2
    by_cases e2 : k + (n + 1) = N
    · rw [← q, e2, hj]
    · rcases he with he | he
      · exact absurd he e2
      · exact absurd (ra_qi_flat d k (N - k) (by rw [show k + (N - k) = N by omega, hi, h]) (n + 1) (by omega)) he
  unfold ra_g2 ra_f2
  simp only [h0, h1]
  by_cases c : (ra_qi d k = 0 ∧ g.fr.testBit 1 = true) ∨ (ra_qi d k = g.la ∧ g.fr.testBit 3 = true)
  · have c' : ((ra_qi d k == 0 && g.fr.testBit 1) || (ra_qi d k == g.la && g.fr.testBit 3)) = true := by simpa using c
    rw [if_pos c, if_pos c']
  · have c' : ¬ ((ra_qi d k == 0 && g.fr.testBit 1) || (ra_qi d k == g.la && g.fr.testBit 3)) = true := by simpa using c
    rw [if_neg c, if_neg c']
