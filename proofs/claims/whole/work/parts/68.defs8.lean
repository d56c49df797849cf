theorem ra_qi_2 {d : Nat → Nat} {k : Nat} (a : Nat) (h : d k = 2) : a + ra_qi d k = a + ra_qi d (k + 1) := by
  show _ = a + (ra_qi d k + ra_da (d k)); unfold ra_da; rw [if_pos h]; rfl
theorem ra_qi_n {d : Nat → Nat} {k : Nat} (a : Nat) (h : ¬ d k = 2) : a + ra_qi d k + 1 = a + ra_qi d (k + 1) := by
  show _ = a + (ra_qi d k + ra_da (d k)); unfold ra_da; rw [if_neg h]; omega
theorem ra_qj_1 {d : Nat → Nat} {k : Nat} (a : Nat) (h : d k = 1) : a + ra_qj d k = a + ra_qj d (k + 1) := by
  show _ = a + (ra_qj d k + ra_db (d k)); unfold ra_db; rw [if_pos h]; rfl
theorem ra_qj_n {d : Nat → Nat} {k : Nat} (a : Nat) (h : ¬ d k = 1) : a + ra_qj d k + 1 = a + ra_qj d (k + 1) := by
  show _ = a + (ra_qj d k + ra_db (d k)); unfold ra_db; rw [if_neg h]; omega
/-- the kind of run x, as the reference reckons it in one pass -/
def ra_rk (d : Nat → Nat) (x : Nat) : Nat → Nat
  | 0 => 0
  | k + 1 => if ra_cr d (k + 1) = x + 1 then d k else ra_rk d x k
/-- the length of run x, as the reference reckons it in one pass -/
def ra_rm (d : Nat → Nat) (x : Nat) : Nat → Nat
  | 0 => 0
  | k + 1 => if ra_cr d (k + 1) = x + 1 then ra_rm d x k + 1 else ra_rm d x k
theorem ra_rk_t {d : Nat → Nat} {x k : Nat} (h : ra_cr d (k + 1) = x + 1) : ra_rk d x (k + 1) = d k := if_pos h
theorem ra_rk_f {d : Nat → Nat} {x k : Nat} (h : ¬ ra_cr d (k + 1) = x + 1) : ra_rk d x (k + 1) = ra_rk d x k := if_neg h
theorem ra_rm_t {d : Nat → Nat} {x k : Nat} (h : ra_cr d (k + 1) = x + 1) : ra_rm d x (k + 1) = ra_rm d x k + 1 := if_pos h
theorem ra_rm_f {d : Nat → Nat} {x k : Nat} (h : ¬ ra_cr d (k + 1) = x + 1) : ra_rm d x (k + 1) = ra_rm d x k := if_neg h
/-- the reference's sum over the best beginnings -/
def ra_me (T : Nat → Int) (K : Nat → Int64) (goal : Int) (i j : Nat) : Int64 := if T ((97 * i + j) * 3 + 0) = goal then K ((97 * i + j) * 3 + 0) else 0
def ra_mw (T : Nat → Int) (K : Nat → Int64) (goal : Int) (lb i : Nat) : Int64 := ra_sm (fun j => ra_me T K goal i j) (lb + 1)
def ra_ma (T : Nat → Int) (K : Nat → Int64) (goal : Int) (lb ii jj : Nat) : Int64 := ra_sm (fun i => ra_mw T K goal lb i) ii + ra_sm (fun j => ra_me T K goal ii j) jj
theorem ra_ma_0 (T : Nat → Int) (K : Nat → Int64) (goal : Int) (lb : Nat) : ra_ma T K goal lb 0 0 = 0 := rfl
theorem ra_ma_row (T : Nat → Int) (K : Nat → Int64) (goal : Int) (lb ii : Nat) : ra_ma T K goal lb ii (lb + 1) = ra_ma T K goal lb (ii + 1) 0 := by
  show _ = (ra_sm (fun i => ra_mw T K goal lb i) ii + ra_mw T K goal lb ii) + 0
  rw [Int64.add_zero]; rfl
theorem ra_ma_t {T : Nat → Int} {K : Nat → Int64} {goal : Int} {lb ii jj : Nat} (h : T ((97 * ii + jj) * 3 + 0) = goal) : ra_ma T K goal lb ii jj + K ((97 * ii + jj) * 3 + 0) = ra_ma T K goal lb ii (jj + 1) := by
  have e : ra_me T K goal ii jj = K ((97 * ii + jj) * 3 + 0) := if_pos h
  show _ = ra_sm (fun i => ra_mw T K goal lb i) ii + (ra_sm (fun j => ra_me T K goal ii j) jj + ra_me T K goal ii jj)
  rw [e, ← Int64.add_assoc]; rfl
theorem ra_ma_f {T : Nat → Int} {K : Nat → Int64} {goal : Int} {lb ii jj : Nat} (h : ¬ T ((97 * ii + jj) * 3 + 0) = goal) : ra_ma T K goal lb ii jj = ra_ma T K goal lb ii (jj + 1) := by
  have e : ra_me T K goal ii jj = 0 := if_neg h
  show _ = ra_sm (fun i => ra_mw T K goal lb i) ii + (ra_sm (fun j => ra_me T K goal ii j) jj + ra_me T K goal ii jj)
  rw [e, Int64.add_zero]; rfl
