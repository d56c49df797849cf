theorem ra_ty_s0 (L : Nat → Nat) (o : Nat) (w : Int64) (k : Nat) : iU (ra_ty L o w k) (o + k) (ra_by w k - 97) = ra_ty L o w (k + 1) := by
  have h := ra_ty_s L 0 o w k
  rw [Nat.zero_add, Nat.zero_add] at h
  exact h
