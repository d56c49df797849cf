theorem ra_lt_A {L : Nat → Nat} {w : Int64} {z nn : Nat} (h : z + nn ≤ 96) : (fun k => ra_ty L (96 * 0 + z) w nn (96 + k)) = fun k => L (96 + k) := by
  funext k
  exact if_neg (by omega)
theorem ra_lt_A0 (L : Nat → Nat) (w : Int64) (z nn : Nat) : ra_ty L (96 * 0 + z) w nn = ra_ty L z w nn := by
  rw [Nat.mul_zero, Nat.zero_add]
theorem ra_lt_B {L : Nat → Nat} {w : Int64} {z nn : Nat} : (fun k => ra_ty L (96 * 1 + z) w nn (96 + k)) = ra_ty (fun k => L (96 + k)) z w nn := by
  funext k
  unfold ra_ty
  by_cases c : z ≤ k ∧ k < z + nn
  · rw [if_pos c, if_pos (by omega), show 96 + k - (96 * 1 + z) = k - z by omega]
  · rw [if_neg c, if_neg (by omega)]
theorem ra_lt_B0 {L : Nat → Nat} {w : Int64} {z nn j : Nat} (hj : j < 96) : L j = ra_ty L (96 * 1 + z) w nn j := (if_neg (by omega)).symm
theorem ra_tn_A (L : Nat → Nat) (z k : Nat) : ra_tn L (96 * 0) z k = ra_rv L z k := by
  funext t
  have h := ra_tn_at L 0 z k t
  rw [Nat.zero_add] at h
  rw [Nat.mul_zero, h]
  have e : (fun q => L (0 + q)) = L := funext fun q => by rw [Nat.zero_add]
  rw [e]
theorem ra_tn_A1 {L : Nat → Nat} {z k : Nat} (hz : z ≤ 96) (hk : k ≤ z) : (fun t => ra_tn L (96 * 0) z k (96 + t)) = fun t => L (96 + t) := by
  funext t
  rw [ra_tn_A]
  exact if_neg (by omega)
theorem ra_tn_B (L : Nat → Nat) (z k : Nat) : (fun t => ra_tn L (96 * 1) z k (96 + t)) = ra_rv (fun t => L (96 + t)) z k := by
  funext t
  exact ra_tn_at L 96 z k t
theorem ra_tn_B0 {L : Nat → Nat} {z k j : Nat} (hj : j < 96) : L j = ra_tn L (96 * 1) z k j := (if_neg (by omega)).symm
theorem ra_bg_congr {d d' : Nat → Nat} {n k : Nat} (h : ∀ t, t < n → d t = d' t) (hk : k < n) : ra_bg d k ↔ ra_bg d' k := by
  unfold ra_bg
  rw [h k hk, h (k - 1) (by omega)]
theorem ra_cr_congr {d d' : Nat → Nat} : ∀ n, (∀ t, t < n → d t = d' t) → ra_cr d n = ra_cr d' n := by
  intro n
  induction n with
  | zero => intro _; rfl
  | succ n ih =>
    intro h
    have q := ih (fun t ht => h t (by omega))
    by_cases b : ra_bg d n
    · rw [ra_cr_t b, ra_cr_t ((ra_bg_congr h (by omega)).1 b), q]
    · rw [ra_cr_f b, ra_cr_f (fun z => b ((ra_bg_congr h (by omega)).2 z)), q]
theorem ra_cg_congr {d d' : Nat → Nat} : ∀ n, (∀ t, t < n → d t = d' t) → ra_cg d n = ra_cg d' n := by
  intro n
  induction n with
  | zero => intro _; rfl
  | succ n ih =>
    intro h
    have q := ih (fun t ht => h t (by omega))
    have e := h n (by omega)
    by_cases b : ¬ d n = 0 ∧ ra_bg d n
    · rw [ra_cg_t b.1 b.2, ra_cg_t (by rw [← e]; exact b.1) ((ra_bg_congr h (by omega)).1 b.2), q]
    · rw [ra_cg_f b, ra_cg_f (fun z => b ⟨by rw [e]; exact z.1, (ra_bg_congr h (by omega)).2 z.2⟩), q]
theorem ra_cl9_congr {d d' : Nat → Nat} : ∀ n, (∀ t, t < n → d t = d' t) → ra_cl9 d n = ra_cl9 d' n := by
  intro n
  induction n with
  | zero => intro _; rfl
  | succ n ih =>
    intro h
    have q := ih (fun t ht => h t (by omega))
    have e := h n (by omega)
    by_cases b : d n = 0
    · rw [ra_cl9_f b, ra_cl9_f (by rw [← e]; exact b), q]
    · rw [ra_cl9_t b, ra_cl9_t (by rw [← e]; exact b), q]
theorem ra_cp_congr {LA LB d d' : Nat → Nat} {sa sb : Nat} : ∀ n, (∀ t, t < n → d t = d' t) → ra_cp LA LB d sa sb n = ra_cp LA LB d' sa sb n := by
  intro n
  induction n with
  | zero => intro _; rfl
  | succ n ih =>
    intro h
    have q := ih (fun t ht => h t (by omega))
    have e := h n (by omega)
    have e1 := ra_qi_congr n (fun t ht => h t (by omega))
    have e2 := ra_qj_congr n (fun t ht => h t (by omega))
    by_cases b : d n = 0 ∧ LA (sa + ra_qi d n) = LB (sb + ra_qj d n)
    · rw [ra_cp_t b.1 b.2, ra_cp_t (by rw [← e]; exact b.1) (by rw [← e1, ← e2]; exact b.2), q]
    · rw [ra_cp_f b, ra_cp_f (fun z => b ⟨by rw [e]; exact z.1, by rw [e1, e2]; exact z.2⟩), q]
theorem ra_rk_congr {d d' : Nat → Nat} {x : Nat} : ∀ n, (∀ t, t < n → d t = d' t) → ra_rk d x n = ra_rk d' x n ∧ ra_rm d x n = ra_rm d' x n := by
  intro n
  induction n with
  | zero => intro _; exact ⟨rfl, rfl⟩
  | succ n ih =>
    intro h
    have q := ih (fun t ht => h t (by omega))
    have e := ra_cr_congr (n + 1) h
    by_cases b : ra_cr d (n + 1) = x + 1
    · rw [ra_rk_t b, ra_rm_t b, ra_rk_t (by rw [← e]; exact b), ra_rm_t (by rw [← e]; exact b), h n (by omega), q.2]
      exact ⟨rfl, rfl⟩
    · rw [ra_rk_f b, ra_rm_f b, ra_rk_f (by rw [← e]; exact b), ra_rm_f (by rw [← e]; exact b)]
      exact q
