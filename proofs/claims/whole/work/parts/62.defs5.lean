/-! The reference's path. -/
/-- the run table stands in T -/
def ra_TM (g : ra_G) (T : Nat → Int) : Prop := ∀ b i j, b < 3 → i ≤ g.la → j ≤ g.lb → T ((97 * i + j) * 3 + b) = ra_mv g b i j
theorem ra_MD_TM {g : ra_G} {T : Nat → Int} {K : Nat → Int64} (h : ra_MD g T K 0 0 0) : ra_TM g T := fun b i j hb hi hj => (h b i j hb hi hj (Or.inl (by omega))).1
theorem ra_mv_bd {g : ra_G} (h : ra_bd g) (b i j : Nat) : -100000000 ≤ ra_mv g b i j ∧ ra_mv g b i j ≤ 200000 := ra_vl_bd (ra_m_ok h b i j) (by omega) (by omega)
theorem ra_TM_bd {g : ra_G} (h : ra_bd g) {T : Nat → Int} (hT : ra_TM g T) {b i j : Nat} (hb : b < 3) (hi : i ≤ g.la) (hj : j ≤ g.lb) : -200000000 ≤ T ((97 * i + j) * 3 + b) ∧ T ((97 * i + j) * 3 + b) ≤ 200000000 := by
  rw [hT b i j hb hi hj]
  have := ra_mv_bd h b i j
  omega
def ra_pd (d : Nat → Nat) (k s n : Nat) : Nat → Nat := fun q => if k ≤ q ∧ q < k + n then s else d q
theorem ra_pd_0 (d : Nat → Nat) (k s : Nat) : ra_pd d k s 0 = d := by
  funext q; unfold ra_pd; rw [if_neg (by omega)]
theorem ra_pd_s (d : Nat → Nat) (k s n : Nat) : iU (ra_pd d k s n) (k + n) s = ra_pd d k s (n + 1) := by
  funext q
  by_cases h : q = k + n
  · subst h; rw [iU_s]; unfold ra_pd; rw [if_pos (by omega)]
  · rw [iU_n h]; unfold ra_pd
    by_cases h2 : k ≤ q ∧ q < k + n
    · rw [if_pos h2, if_pos (show k ≤ q ∧ q < k + (n + 1) by omega)]
    · rw [if_neg h2, if_neg (show ¬ (k ≤ q ∧ q < k + (n + 1)) by omega)]
theorem ra_pd_in {d : Nat → Nat} {k s n q : Nat} (h : k ≤ q ∧ q < k + n) : ra_pd d k s n q = s := if_pos h
theorem ra_pd_out {d : Nat → Nat} {k s n q : Nat} (h : ¬ (k ≤ q ∧ q < k + n)) : ra_pd d k s n q = d q := if_neg h
theorem ra_qi_rep (d : Nat → Nat) (k s : Nat) : ∀ n, (∀ t, t < n → d (k + t) = s) → ra_qi d (k + n) = ra_qi d k + ra_da s * n := by
  intro n
  induction n with
  | zero => intro _; rfl
  | succ n ih => intro h; show ra_qi d (k + n) + ra_da (d (k + n)) = _; rw [ih (fun t ht => h t (by omega)), h n (by omega), Nat.mul_succ]; omega
theorem ra_qj_rep (d : Nat → Nat) (k s : Nat) : ∀ n, (∀ t, t < n → d (k + t) = s) → ra_qj d (k + n) = ra_qj d k + ra_db s * n := by
  intro n
  induction n with
  | zero => intro _; rfl
  | succ n ih => intro h; show ra_qj d (k + n) + ra_db (d (k + n)) = _; rw [ih (fun t ht => h t (by omega)), h n (by omega), Nat.mul_succ]; omega
theorem ra_FL_run {g : ra_G} {sa sb k : Nat} {d : Nat → Nat} {bf i j s n : Nat} (h : ra_FL g sa sb k d bf i j) (hs : s < 3) (hp : ra_pth g bf i j = List.replicate n s ++ ra_pth g s (i + ra_da s * n) (j + ra_db s * n)) (hi : i + ra_da s * n ≤ g.la) (hj : j + ra_db s * n ≤ g.lb) : ra_FL g sa sb (k + n) (ra_pd d k s n) s (i + ra_da s * n) (j + ra_db s * n) := by
  obtain ⟨h1, h2, h3, h4, h5, h6, h7⟩ := h
  have c1 : ∀ t, t < k → d t = ra_pd d k s n t := fun t ht => (ra_pd_out (by omega)).symm
  have c2 : ∀ t, t < n → ra_pd d k s n (k + t) = s := fun t ht => ra_pd_in (by omega)
  refine ⟨hs, hi, hj, ?_, ?_, ?_, ?_⟩
  · rw [ra_qi_rep _ k s n c2, ← ra_qi_congr k c1]; omega
  · rw [ra_qj_rep _ k s n c2, ← ra_qj_congr k c1]; omega
  · rw [← List.drop_drop, h6, hp]
    rw [List.drop_append_of_le_length (by simp)]
    simp
  · intro t ht
    by_cases e : t < k
    · rw [← c1 t e]; exact h7 t e
    · obtain ⟨u, rfl⟩ : ∃ u, t = k + u := ⟨t - k, by omega⟩
      rw [c2 u (by omega)]
      have z : ((ra_pth g 0 sa sb).drop k)[u]? = some s := by
        rw [h6, hp, List.getElem?_append_left (by rw [List.length_replicate]; omega), List.getElem?_replicate, if_pos (by omega)]
      rw [List.getElem?_drop] at z
      exact z
theorem ra_one {g : ra_G} (hb : ra_bd g) (hw : ra_wf g) {b i j : Nat} (hi : i ≤ g.la) (hj : j ≤ g.lb) (hb1 : b ≠ 1) (hr : ra_re g b i j) (hs : ra_st g b i j = 1) :
    1 ≤ ra_go g i j (ra_r g b i j) (g.la - i) 1 0 ∧ i + ra_go g i j (ra_r g b i j) (g.la - i) 1 0 ≤ g.la ∧ ra_pth g b i j = List.replicate (ra_go g i j (ra_r g b i j) (g.la - i) 1 0) 1 ++ ra_pth g 1 (i + ra_go g i j (ra_r g b i j) (g.la - i) 1 0) j ∧ ra_mv g 1 (i + ra_go g i j (ra_r g b i j) (g.la - i) 1 0) j = ra_r g 1 (i + ra_go g i j (ra_r g b i j) (g.la - i) 1 0) j ∧ ra_st g 1 (i + ra_go g i j (ra_r g b i j) (g.la - i) 1 0) j ≠ 1 := by
  have a := ra_st_1 hs
  have c := ra_w1_in hb hi hj a.2.2
  have e := ra_w1_b (g := g) (b := b) (i := i) (j := j) c
  rw [if_neg hb1] at e
  obtain ⟨N, q1, q2, q3, q4, q5, q6⟩ := ra_run1 hb hw (goal := ra_r g b i j) hb1 hr hj (g.la - i) 1 0 (by omega) (by omega) (by omega) (by
    have h1 : ((1 : Nat) : Int) = 1 := rfl
    rw [h1, Int.mul_one]; omega)
  rw [q3]
  refine ⟨q1, q2, ?_, q5, q6⟩
  rw [ra_pth_step hb hi hj (by omega), hs]
  show 1 :: ra_pth g 1 (i + 1) j = _
  rw [q4]
  obtain ⟨N, rfl⟩ : ∃ t, N = t + 1 := ⟨N - 1, by omega⟩
  rfl
theorem ra_two {g : ra_G} (hb : ra_bd g) (hw : ra_wf g) {b i j : Nat} (hi : i ≤ g.la) (hj : j ≤ g.lb) (h3 : b < 3) (hr : ra_re g b i j) (hM : ra_mv g b i j = ra_r g b i j) (hs : ra_st g b i j = 2) :
    (b ≠ 1 → ra_go g i j (ra_r g b i j) (g.la - i) 1 0 = 0) ∧ 1 ≤ ra_gh g i j (ra_r g b i j) (g.lb - j) 1 ∧ j + ra_gh g i j (ra_r g b i j) (g.lb - j) 1 ≤ g.lb ∧ ra_pth g b i j = List.replicate (ra_gh g i j (ra_r g b i j) (g.lb - j) 1) 2 ++ ra_pth g 2 i (j + ra_gh g i j (ra_r g b i j) (g.lb - j) 1) ∧ ra_mv g 2 i (j + ra_gh g i j (ra_r g b i j) (g.lb - j) 1) = ra_r g 2 i (j + ra_gh g i j (ra_r g b i j) (g.lb - j) 1) := by
  have a := ra_st_2 hb hi hj hs
  have c := ra_w2_in hb hi hj a.2.2.2
  have e := ra_w2_b (g := g) (b := b) (i := i) (j := j) c
  have hbd := ra_r_bd hb (b := b) hi hj
  have hb2 : b ≠ 2 := fun h => by
    subst h
    rcases ra_mv_2_or hb hw hr hi hj with h | h | h | h
    · rw [hM] at h; exact a.1 h.symm
    · rw [hM] at h; exact a.2.1 h.symm
    · rw [hM] at h; exact a.2.2.1 h.2.symm
    · rw [hM] at h; omega
  rw [if_neg hb2] at e
  obtain ⟨N, q1, q2, q3, q4, q5⟩ := ra_run2 hb hw (goal := ra_r g b i j) hb2 hr hi (g.lb - j) 1 (by omega) (by omega) (by omega) (by
    have h1 : ((1 : Nat) : Int) = 1 := rfl
    rw [h1, Int.mul_one]; omega)
  rw [q3]
  refine ⟨fun hb1 => ?_, q1, q2, ?_, q5⟩
  · refine ra_go_none (g.la - i) 1 0 (fun n' h4 h5 h6 => ?_)
    have q := ra_is_later hb hw hb1 hr (by omega) (by omega) hj h6
    have m1 := ra_r1_mono hb hj (n' - 1) (i + 1) (by omega)
    have hw1 := ra_w1_b (g := g) (b := b) (i := i) (j := j) (by omega)
    have hmx := (ra_r_ge hb (b := b) hi hj).2.2.1
    rw [if_neg hb1] at hw1
    rw [show i + 1 + (n' - 1) = i + n' by omega] at m1
    have e2 : ra_m1 g j * (n' : Int) = ra_m1 g j * ((n' - 1 : Nat) : Int) + ra_m1 g j := by
      rw [show (n' : Int) = ((n' - 1 : Nat) : Int) + 1 by omega, Int.mul_add, Int.mul_one]
    exact a.2.2.1 (by omega)
  · rw [ra_pth_step hb hi hj (by omega), hs]
    show 2 :: ra_pth g 2 i (j + 1) = _
    rw [q4]
    obtain ⟨N, rfl⟩ : ∃ t, N = t + 1 := ⟨N - 1, by omega⟩
    rfl
theorem ra_fin_T {Z L : Nat → Nat} {SC : Nat → Int} {op mr : Int} {fr : Nat} {pt : Bool} {T : Nat → Int} (hTM : ra_TM (ra_mg Z L SC op mr fr pt) T) {i j n : Nat} (hn : i + n ≤ Z 0) (hj : j ≤ Z 1) :
    (((i + n = Z 0 ∧ j = Z 1) ∨ (pt = true ∧ T ((97 * (i + n) + j) * 3 + 1) = 0)) ∨ ((i + n < Z 0 ∧ j < Z 1) ∧ (¬ T ((97 * (i + n + 1) + (j + 1)) * 3 + 0) = -100000000 ∧ SC (L (i + n) * 26 + L (96 + j)) + T ((97 * (i + n + 1) + (j + 1)) * 3 + 0) = T ((97 * (i + n) + j) * 3 + 1)))) ↔ ra_fin (ra_mg Z L SC op mr fr pt) i j n := by
  rw [hTM 1 (i + n) j (by omega) hn hj]
  constructor
  · rintro (h | ⟨c, h⟩)
    · exact Or.inl h
    · rw [hTM 0 (i + n + 1) (j + 1) (by omega) (by change i + n + 1 ≤ Z 0; omega) (by change j + 1 ≤ Z 1; omega)] at h
      exact Or.inr ⟨c, h⟩
  · rintro (h | ⟨c, h⟩)
    · exact Or.inl h
    · have c1 : i + n < Z 0 := c.1
      have c2 : j < Z 1 := c.2
      rw [hTM 0 (i + n + 1) (j + 1) (by omega) (by change i + n + 1 ≤ Z 0; omega) (by change j + 1 ≤ Z 1; omega)]
      exact Or.inr ⟨c, h⟩
theorem ra_go_le {g : ra_G} {i j : Nat} {goal : Int} : ∀ (k n last : Nat), last < n → ra_go g i j goal k n last < n + k := by
  intro k
  induction k with
  | zero => intro n last h; exact h
  | succ k ih =>
    intro n last h
    simp only [ra_go]
    split
    · split
      · omega
      · have := ih (n + 1) n (by omega); omega
    · have := ih (n + 1) last (by omega); omega
theorem ra_gh_le {g : ra_G} {i j : Nat} {goal : Int} : ∀ (k n : Nat), 0 < n → ra_gh g i j goal k n < n + k := by
  intro k
  induction k with
  | zero => intro n h; exact h
  | succ k ih =>
    intro n h
    simp only [ra_gh]
    split
    · omega
    · have := ih (n + 1) (by omega); omega
/-- the state of the reference's walk between two runs -/
def ra_WK (g : ra_G) (bf i j : Nat) : Prop := ra_mv g bf i j = ra_r g bf i j ∧ (bf = 1 → ra_st g bf i j ≠ 1) ∧ ra_re g bf i j
theorem ra_WK_0 {g : ra_G} (hw : ra_wf g) {i j : Nat} (h : ra_re g 0 i j) : ra_WK g 0 i j := ⟨ra_mv_0 hw h, by omega, h⟩
theorem ra_WK_st3 {g : ra_G} (hb : ra_bd g) {bf i j : Nat} (hi : i ≤ g.la) (hj : j ≤ g.lb) (h : (i = g.la ∧ j = g.lb) ∨ (g.pt = true ∧ ra_r g bf i j = 0)) : ra_st g bf i j = 3 := by
  unfold ra_st; rw [if_pos ((ra_xe_iff hb hi hj).2 h)]
theorem ra_WK_st0 {g : ra_G} (hb : ra_bd g) (hw : ra_wf g) {bf i j : Nat} (hi : i ≤ g.la) (hj : j ≤ g.lb) (h1 : ¬ ((i = g.la ∧ j = g.lb) ∨ (g.pt = true ∧ ra_r g bf i j = 0))) (h : (i < g.la ∧ j < g.lb) ∧ ra_is g (g.sc i j) 0 (i + 1) (j + 1) (ra_r g bf i j)) : ra_st g bf i j = 0 := by
  unfold ra_st; rw [if_neg (fun q => h1 ((ra_xe_iff hb hi hj).1 q)), ra_w_0, if_pos ((ra_xp_iff hb hw hi hj).2 h)]
theorem ra_WK_st12 {g : ra_G} (hb : ra_bd g) (hw : ra_wf g) {bf i j : Nat} (hi : i ≤ g.la) (hj : j ≤ g.lb) (h1 : ¬ ((i = g.la ∧ j = g.lb) ∨ (g.pt = true ∧ ra_r g bf i j = 0))) (h : ¬ ((i < g.la ∧ j < g.lb) ∧ ra_is g (g.sc i j) 0 (i + 1) (j + 1) (ra_r g bf i j))) : ra_st g bf i j = 1 ∨ ra_st g bf i j = 2 := by
  have a : ra_st g bf i j ≠ 3 := fun q => h1 ((ra_xe_iff hb hi hj).1 (ra_st_3 q))
  have b : ra_st g bf i j ≠ 0 := fun q => h ((ra_xp_iff hb hw hi hj).1 (ra_st_0 q).2)
  have := ra_st_le g bf i j
  omega
