theorem ra_q_ge {d : Nat → Nat} (hd : ∀ t, d t < 3) : ∀ k, k ≤ ra_qi d k + ra_qj d k := by
  intro k
  induction k with
  | zero => omega
  | succ k ih =>
    show k + 1 ≤ (ra_qi d k + ra_da (d k)) + (ra_qj d k + ra_db (d k))
    have h := hd k
    unfold ra_da ra_db
    split <;> split <;> omega
theorem ra_FL_k {g : ra_G} (hb : ra_bd g) {sa sb k : Nat} {d : Nat → Nat} {bf i j : Nat} (h : ra_FL g sa sb k d bf i j) (hd : ∀ t, d t < 3) : k ≤ i + j := by
  have := ra_q_ge hd k
  have e1 := h.2.2.2.1
  have e2 := h.2.2.2.2.1
  omega
theorem ra_FL_0p {g : ra_G} (hb : ra_bd g) {sa sb k : Nat} {d : Nat → Nat} {bf i j : Nat} (h : ra_FL g sa sb k d bf i j) (hs : ra_st g bf i j = 0) : ra_FL g sa sb (k + 1) (ra_pd d k 0 1) 0 (i + 1) (j + 1) := by
  have c := ra_xp_in hb h.2.1 h.2.2.1 (ra_st_0 hs).2
  refine ra_FL_run (s := 0) (n := 1) h (by omega) ?_ (by show i + 1 ≤ g.la; omega) (by show j + 1 ≤ g.lb; omega)
  rw [ra_pth_step hb h.2.1 h.2.2.1 (by omega), hs]; rfl
theorem ra_FL_1p {g : ra_G} (hb : ra_bd g) (hw : ra_wf g) {sa sb k : Nat} {d : Nat → Nat} {bf i j : Nat} (h : ra_FL g sa sb k d bf i j) (hk : ra_WK g bf i j) (hb1 : bf ≠ 1) (hs : ra_st g bf i j = 1) :
    ra_FL g sa sb (k + ra_go g i j (ra_r g bf i j) (g.la - i) 1 0) (ra_pd d k 1 (ra_go g i j (ra_r g bf i j) (g.la - i) 1 0)) 1 (i + ra_go g i j (ra_r g bf i j) (g.la - i) 1 0) j ∧ ra_WK g 1 (i + ra_go g i j (ra_r g bf i j) (g.la - i) 1 0) j := by
  obtain ⟨q1, q2, q3, q4, q5⟩ := ra_one hb hw h.2.1 h.2.2.1 hb1 hk.2.2 hs
  generalize ra_go g i j (ra_r g bf i j) (g.la - i) 1 0 = N at q1 q2 q3 q4 q5 ⊢
  have e : i + ra_da 1 * N = i + N := by show i + 1 * N = i + N; omega
  have e' : j + ra_db 1 * N = j := by show j + 0 * N = j; omega
  refine ⟨?_, q4, fun _ => q5, Or.inr (Or.inr (Or.inl ⟨rfl, by omega⟩))⟩
  have z := ra_FL_run (s := 1) (n := N) h (by omega) (by rw [e, e']; exact q3) (by rw [e]; exact q2) (by rw [e']; exact h.2.2.1)
  rw [e, e'] at z
  exact z
theorem ra_FL_2p {g : ra_G} (hb : ra_bd g) (hw : ra_wf g) {sa sb k : Nat} {d : Nat → Nat} {bf i j : Nat} (h : ra_FL g sa sb k d bf i j) (hk : ra_WK g bf i j) (hs : ra_st g bf i j = 2) :
    ra_FL g sa sb (k + ra_gh g i j (ra_r g bf i j) (g.lb - j) 1) (ra_pd d k 2 (ra_gh g i j (ra_r g bf i j) (g.lb - j) 1)) 2 i (j + ra_gh g i j (ra_r g bf i j) (g.lb - j) 1) ∧ ra_WK g 2 i (j + ra_gh g i j (ra_r g bf i j) (g.lb - j) 1) ∧ 1 ≤ ra_gh g i j (ra_r g bf i j) (g.lb - j) 1 ∧ j + ra_gh g i j (ra_r g bf i j) (g.lb - j) 1 ≤ g.lb := by
  obtain ⟨-, q1, q2, q3, q4⟩ := ra_two hb hw h.2.1 h.2.2.1 h.1 hk.2.2 hk.1 hs
  generalize ra_gh g i j (ra_r g bf i j) (g.lb - j) 1 = N at q1 q2 q3 q4 ⊢
  have e : i + ra_da 2 * N = i := by show i + 0 * N = i; omega
  have e' : j + ra_db 2 * N = j + N := by show j + 1 * N = j + N; omega
  refine ⟨?_, ⟨q4, by omega, Or.inr (Or.inr (Or.inr ⟨rfl, by omega⟩))⟩, q1, q2⟩
  have z := ra_FL_run (s := 2) (n := N) h (by omega) (by rw [e, e']; exact q3) (by rw [e]; exact h.2.1) (by rw [e']; exact q2)
  rw [e, e'] at z
  exact z
theorem ra_WK_1 {g : ra_G} (hb : ra_bd g) (hw : ra_wf g) {bf i j : Nat} (hi : i ≤ g.la) (hj : j ≤ g.lb) (h3 : bf < 3) (hk : ra_WK g bf i j) (h12 : ra_st g bf i j = 1 ∨ ra_st g bf i j = 2) : (0 < (if bf = 1 then 0 else ra_go g i j (ra_r g bf i j) (g.la - i) 1 0) → bf ≠ 1 ∧ ra_st g bf i j = 1 ∧ i + ra_go g i j (ra_r g bf i j) (g.la - i) 1 0 ≤ g.la) ∧ (¬ 0 < (if bf = 1 then 0 else ra_go g i j (ra_r g bf i j) (g.la - i) 1 0) → ra_st g bf i j = 2) := by
  constructor
  · intro h
    by_cases hb1 : bf = 1
    · rw [if_pos hb1] at h; omega
    · rw [if_neg hb1] at h
      rcases h12 with q | q
      · exact ⟨hb1, q, (ra_one hb hw hi hj hb1 hk.2.2 q).2.1⟩
      · have := (ra_two hb hw hi hj h3 hk.2.2 hk.1 q).1 hb1; omega
  · intro h
    rcases h12 with q | q
    · by_cases hb1 : bf = 1
      · exact absurd q (hk.2.1 hb1)
      · rw [if_neg hb1] at h
        have := (ra_one hb hw hi hj hb1 hk.2.2 q).1; omega
    · exact q
theorem ra_pd_3 {d : Nat → Nat} (hd : ∀ t, d t < 3) {k s n : Nat} (hs : s < 3) : ∀ t, ra_pd d k s n t < 3 := by
  intro t; unfold ra_pd; split
  · exact hs
  · exact hd t
