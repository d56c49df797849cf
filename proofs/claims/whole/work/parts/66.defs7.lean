theorem ra_cg_t {d : Nat → Nat} {k : Nat} (h1 : ¬ d k = 0) (h : ra_bg d k) : ra_cg d (k + 1) = ra_cg d k + 1 := by
  show ra_cg d k + _ = _; rw [if_pos ⟨h1, h⟩]
theorem ra_cg_f {d : Nat → Nat} {k : Nat} (h : ¬ (¬ d k = 0 ∧ ra_bg d k)) : ra_cg d (k + 1) = ra_cg d k := by
  show ra_cg d k + _ = _; rw [if_neg h]; rfl
theorem ra_cl9_t {d : Nat → Nat} {k : Nat} (h1 : ¬ d k = 0) : ra_cl9 d (k + 1) = ra_cl9 d k + 1 := by
  show ra_cl9 d k + _ = _; rw [if_pos h1]
theorem ra_cl9_f {d : Nat → Nat} {k : Nat} (h : d k = 0) : ra_cl9 d (k + 1) = ra_cl9 d k := by
  show ra_cl9 d k + _ = _; rw [if_neg (fun q => q h)]; rfl
/-- the turning of one row in the reference's one array of letters -/
def ra_tn (L : Nat → Nat) (o n k : Nat) : Nat → Nat := fun t => if o ≤ t then ra_rv (fun q => L (o + q)) n k (t - o) else L t
theorem ra_tn_0 (L : Nat → Nat) (o n : Nat) : ra_tn L o n 0 = L := by
  funext t
  unfold ra_tn
  rw [ra_rv_0]
  split
  · show L (o + (t - o)) = L t
    congr 1; omega
  · rfl
theorem ra_tn_at (L : Nat → Nat) (o n k q : Nat) : ra_tn L o n k (o + q) = ra_rv (fun q => L (o + q)) n k q := by
  unfold ra_tn
  rw [if_pos (Nat.le_add_right o q), Nat.add_sub_cancel_left]
theorem ra_tn_step (L : Nat → Nat) {o n k : Nat} (h : k < n / 2) : iU (iU (ra_tn L o n k) (o + k) (ra_tn L o n k (o + (n - 1 - k)))) (o + (n - 1 - k)) (ra_tn L o n k (o + k)) = ra_tn L o n (k + 1) := by
  rw [ra_tn_at, ra_tn_at]
  funext t
  by_cases ht : o ≤ t
  · obtain ⟨q, rfl⟩ : ∃ q, t = o + q := ⟨t - o, by omega⟩
    rw [ra_tn_at]
    have e := congrFun (ra_rv_step (fun q => L (o + q)) h) q
    rw [← e]
    unfold iU
    by_cases h1 : q = n - 1 - k
    · rw [if_pos (by omega), if_pos h1]
    · rw [if_neg (by omega), if_neg h1]
      by_cases h2 : q = k
      · rw [if_pos (by omega), if_pos h2]
      · rw [if_neg (by omega), if_neg h2, ra_tn_at]
  · unfold iU
    rw [if_neg (by omega), if_neg (by omega)]
    unfold ra_tn
    rw [if_neg ht, if_neg ht]
theorem ra_tn_lt {L : Nat → Nat} (hL : ∀ k, L k < 26) (o n k : Nat) : ∀ t, ra_tn L o n k t < 26 := by
  intro t
  unfold ra_tn ra_rv
  split
  · split
    · exact hL _
    · exact hL _
  · exact hL _
