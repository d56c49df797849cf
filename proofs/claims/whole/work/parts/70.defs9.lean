theorem ra_qrun {d : Nat → Nat} {k n : Nat} (hd : ∀ t, d t < 3) (h0 : d k = 0 → n = 1) (hr : ∀ t, t < n → d (k + t) = d k) : (d k = 2 → ra_qi d (k + n) = ra_qi d k) ∧ (d k ≠ 2 → ra_qi d (k + n) = ra_qi d k + n) ∧ (d k = 1 → ra_qj d (k + n) = ra_qj d k) ∧ (d k ≠ 1 → ra_qj d (k + n) = ra_qj d k + n) := by
  have h3 := hd k
  have cs : d k = 0 ∨ d k = 1 ∨ d k = 2 := by omega
  rcases cs with c | c | c
  · have e := h0 c
    subst e
    have a : ra_qi d (k + 1) = ra_qi d k + 1 := by show ra_qi d k + ra_da (d k) = _; rw [c]; rfl
    have b : ra_qj d (k + 1) = ra_qj d k + 1 := by show ra_qj d k + ra_db (d k) = _; rw [c]; rfl
    refine ⟨fun q => by omega, fun _ => a, fun q => by omega, fun _ => b⟩
  · have q := ra_q_run1 d k n (fun t ht => by rw [hr t ht, c])
    exact ⟨fun q => by omega, fun _ => q.1, fun _ => q.2, fun q => absurd c q⟩
  · have q := ra_q_run2 d k n (fun t ht => by rw [hr t ht, c])
    exact ⟨fun _ => q.1, fun q => absurd c q, fun q => by omega, fun _ => q.2⟩
theorem ra_wo_end {g : ra_G} {d : Nat → Nat} {N k : Nat} {sum : Int} (hk : k = N) (h : ra_qi d N = g.la ∧ ra_qj d N = g.lb → sum = ra_cs g d k) (h1 : ra_qi d k = g.la) (h2 : ra_qj d k = g.lb) : sum = ra_wo g d N := by
  subst hk
  rw [h ⟨h1, h2⟩]
  exact (if_pos ⟨h1, h2⟩).symm
theorem ra_wo_no {g : ra_G} {d : Nat → Nat} {N : Nat} (h : ¬ (ra_qi d N = g.la ∧ ra_qj d N = g.lb)) : -1000000 = ra_wo g d N := (if_neg h).symm
theorem ra_wo_s0 {Z L : Nat → Nat} {SC : Nat → Int} {op mr : Int} {fr : Nat} {pt : Bool} {d : Nat → Nat} {k n : Nat} {sum : Int} (h : d k = 0) (hn : n = 1) (hs : sum = ra_cs (ra_mg Z L SC op mr fr pt) d k) : sum + SC (L (ra_qi d k) * 26 + L (96 + ra_qj d k)) = ra_cs (ra_mg Z L SC op mr fr pt) d (k + n) := by
  subst hn
  rw [hs, ra_cs_0 h]
theorem ra_wo_sg {g : ra_G} {d : Nat → Nat} {N k n : Nat} {sum : Int} (hd : ∀ t, d t < 3) (h : ¬ d k = 0) (hN : ra_qi d N = g.la ∧ ra_qj d N = g.lb) (hn : 1 ≤ n) (hk : k + n ≤ N) (hb : d k = 0 ∨ ¬ ra_bf d k = d k) (hr : ∀ t, t < n → d (k + t) = d k) (he : d k = 0 ∨ k + n = N ∨ ¬ d (k + n) = d k) (hs : sum = ra_cs g d k) :
    sum + -(if decide (d k = 1) = true then ra_g1 g (ra_qi d k) (ra_qj d k) n else ra_g2 g (ra_qi d k) (ra_qj d k) n) = ra_cs g d (k + n) := by
  have h3 := hd k
  rw [hs]
  by_cases c : d k = 1
  · rw [if_pos (decide_eq_true c), ra_wo_run1 hN.1 hN.2 hn hk (by omega) (fun t ht => by rw [hr t ht, c]) (by omega)]
    omega
  · have c2 : d k = 2 := by omega
    rw [if_neg (fun q => c (of_decide_eq_true q)), ra_wo_run2 hN.1 hN.2 hn hk (by omega) (fun t ht => by rw [hr t ht, c2]) (by omega)]
    omega
/-- the next run begins: another step stands there -/
theorem ra_bf_next {d : Nat → Nat} {N k n : Nat} (hn : 1 ≤ n) (h0 : d k = 0 → n = 1) (hr : ∀ t, t < n → d (k + t) = d k) (he : d k = 0 ∨ k + n = N ∨ ¬ d (k + n) = d k) : k + n < N → d (k + n) = 0 ∨ ¬ ra_bf d (k + n) = d (k + n) := by
  intro h
  obtain ⟨t, rfl⟩ : ∃ t, n = t + 1 := ⟨n - 1, by omega⟩
  have e : ra_bf d (k + (t + 1)) = d (k + t) := rfl
  rw [e, hr t (by omega)]
  rcases he with q | q | q
  · by_cases c : d (k + (t + 1)) = 0
    · exact Or.inl c
    · exact Or.inr (by omega)
  · omega
  · exact Or.inr (by omega)
