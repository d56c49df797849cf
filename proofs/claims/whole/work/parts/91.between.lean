theorem ra_FB_congr {V V' : Nat → Nat → Int} {la lb p q : Nat} (hv : ∀ i j, i ≤ la → j ≤ lb → V i j = V' i j) (h : ra_FB V la lb p q) : ra_FB V' la lb p q := by
  obtain ⟨h1, h2, h3, h4⟩ := h
  refine ⟨h1, h2, ?_, ?_⟩
  · intro i j hi hj
    rw [← hv i j hi hj, ← hv p q h1 h2]
    exact h3 i j hi hj
  · intro i j hi hj hc
    rw [← hv i j hi hj, ← hv p q h1 h2]
    exact h4 i j hi hj hc
/-- both sides' tables at the beginnings, where no end is free -/
theorem ra_same_V {g : ra_G} (hw : ra_wf g) (hf : g.fr = 0) {T T' : Nat → Int} (hT : ra_TD g T 0 0) (hM : ra_TM g T') {i j : Nat} (hi : i ≤ g.la) (hj : j ≤ g.lb) : T ((i * 3 + 0) * 97 + j) = T' ((97 * i + j) * 3 + 0) := by
  rw [hT 0 i j (by omega) hi hj (Or.inl (by omega)), hM 0 i j (by omega) hi hj]
  exact (ra_mv_0 hw (Or.inl hf)).symm
theorem ra_same_begin {g : ra_G} (hw : ra_wf g) (hf : g.fr = 0) {T T' : Nat → Int} (hT : ra_TD g T 0 0) (hM : ra_TM g T') {p q p' q' : Nat} (h : ra_FB (fun i j => T ((i * 3 + 0) * 97 + j)) g.la g.lb p q) (h' : ra_FB (fun i j => T' ((97 * i + j) * 3 + 0)) g.la g.lb p' q') : p = p' ∧ q = q' :=
  ra_FB_one (ra_FB_congr (fun _ _ hi hj => ra_same_V hw hf hT hM hi hj) h) h'
theorem ra_same_whole {g : ra_G} (hw : ra_wf g) {T T' : Nat → Int} (hT : ra_TD g T 0 0) (hM : ra_TM g T') : T ((0 * 3 + 0) * 97 + 0) = T' 0 := by
  have h1 := hT 0 0 0 (by omega) (Nat.zero_le _) (Nat.zero_le _) (Or.inl (by omega))
  have h2 : T' 0 = ra_mv g 0 0 0 := hM 0 0 0 (by omega) (Nat.zero_le _) (Nat.zero_le _)
  rw [h1, h2]
  exact (ra_mv_0 hw (Or.inr (Or.inl ⟨rfl, Or.inl ⟨rfl, rfl⟩⟩))).symm
theorem ra_same_crossing {g : ra_G} {LE : Nat → Int} {x m : Nat} (h : ra_LF g LE x) (h1 : ∃ b, ra_rc g b x m) (h2 : ∀ j, j < m → ∀ b, ¬ ra_rc g b x j) : LE x = (m : Int) := by
  obtain ⟨m', -, q2, ⟨b', q3⟩, q4⟩ := h
  obtain ⟨b, h3⟩ := h1
  rw [q2]
  have c : m' = m := by
    rcases Nat.lt_trichotomy m' m with z | z | z
    · exact absurd q3 (h2 m' z b')
    · exact z
    · exact absurd h3 (q4 m z b)
  rw [c]
theorem ra_sm_congr {f g : Nat → Int64} : ∀ n, (∀ t, t < n → f t = g t) → ra_sm f n = ra_sm g n := by
  intro n
  induction n with
  | zero => intro _; rfl
  | succ n ih =>
    intro h
    show ra_sm f n + f n = ra_sm g n + g n
    rw [ih (fun t ht => h t (by omega)), h n (by omega)]
theorem ra_sm_head (f : Nat → Int64) : ∀ n, ra_sm f (n + 1) = f 0 + ra_sm (fun t => f (t + 1)) n := by
  intro n
  induction n with
  | zero => show (0 : Int64) + f 0 = f 0 + 0; rw [Int64.zero_add, Int64.add_zero]
  | succ n ih =>
    show ra_sm f (n + 1) + f (n + 1) = f 0 + (ra_sm (fun t => f (t + 1)) n + f (n + 1))
    rw [ih, Int64.add_assoc]
theorem ra_sm_rev (f : Nat → Int64) : ∀ n, ra_sm (fun t => f (n - t)) (n + 1) = ra_sm f (n + 1) := by
  intro n
  induction n with
  | zero => rfl
  | succ n ih =>
    rw [ra_sm_head]
    show f (n + 1) + ra_sm (fun t => f (n + 1 - (t + 1))) (n + 1) = ra_sm f (n + 1) + f (n + 1)
    rw [show (fun t => f (n + 1 - (t + 1))) = (fun t => f (n - t)) from funext fun t => by rw [Nat.add_sub_add_right], ih, Int64.add_comm]
/-- the number of best ways from here, on both sides -/
theorem ra_same_k {g : ra_G} (hw : ra_wf g) {T' : Nat → Int} {K : Nat → Int64} (hM : ra_MD g T' K 0 0 0) {i j : Nat} (hi : i ≤ g.la) (hj : j ≤ g.lb) (hr : ra_re g 0 i j) : K ((97 * i + j) * 3 + 0) = ra_k g 0 i j := by
  have h := (hM 0 i j (by omega) hi hj (Or.inl (by omega))).2
  rw [h]
  unfold ra_k
  rw [(ra_rel hw _ i j (Nat.le_refl _)).1 hr]
theorem ra_sm_0 {f : Nat → Int64} : ∀ n, (∀ t, t < n → f t = 0) → ra_sm f n = 0 := by
  intro n
  induction n with
  | zero => intro _; rfl
  | succ n ih =>
    intro h
    show ra_sm f n + f n = 0
    rw [ih (fun t ht => h t (by omega)), h n (by omega), Int64.add_zero]
theorem ra_sm_first {f : Nat → Int64} (n : Nat) (h : ∀ t, 0 < t → t < n + 1 → f t = 0) : ra_sm f (n + 1) = f 0 := by
  rw [ra_sm_head, ra_sm_0 n (fun t ht => h (t + 1) (by omega) (by omega)), Int64.add_zero]
theorem ra_wa_up (g : ra_G) (best : Int) : ra_wa g best (g.la + 1) = ra_sm (fun i => ra_sm (fun j => ra_sw g best i j) (g.lb + 1)) (g.la + 1) := by
  have e : ∀ i, ra_wr g best i (g.lb + 1) = ra_sm (fun j => ra_sw g best i j) (g.lb + 1) := fun i => ra_sm_rev (fun j => ra_sw g best i j) g.lb
  show ra_sm (fun t => ra_wr g best (g.la - t) (g.lb + 1)) (g.la + 1) = _
  rw [ra_sm_rev (fun i => ra_wr g best i (g.lb + 1)) g.la]
  exact ra_sm_congr _ (fun i _ => e i)
theorem ra_same_ways_p {g : ra_G} (hw : ra_wf g) (hf : g.fr = 0) (hp : g.pt = true) {T' : Nat → Int} {K : Nat → Int64} (hM : ra_MD g T' K 0 0 0) (best : Int) : ra_wa g best (g.la + 1) = ra_ma T' K best g.lb (g.la + 1) 0 := by
  rw [ra_wa_up]
  show _ = ra_sm (fun i => ra_mw T' K best g.lb i) (g.la + 1) + 0
  rw [Int64.add_zero]
  refine ra_sm_congr _ (fun i hi => ?_)
  refine ra_sm_congr _ (fun j hj => ?_)
  have h1 : T' ((97 * i + j) * 3 + 0) = ra_r g 0 i j := (ra_MD_TM hM 0 i j (by omega) (by omega) (by omega)).trans (ra_mv_0 hw (Or.inl hf))
  have h2 := ra_same_k hw hM (i := i) (j := j) (by omega) (by omega) (Or.inl hf)
  show ra_sw g best i j = ra_me T' K best i j
  unfold ra_me
  rw [h1, h2]
  by_cases c : ra_r g 0 i j = best
  · rw [if_pos c]
    exact ra_sw_t (Or.inl ⟨hp, c⟩)
  · rw [if_neg c]
    exact ra_sw_f (fun q => q.elim (fun z => c z.2) (fun z => z.1 hp))
theorem ra_same_ways_w {g : ra_G} (hw : ra_wf g) (hp : g.pt = false) {T' : Nat → Int} {K : Nat → Int64} (hM : ra_MD g T' K 0 0 0) (best : Int) : ra_wa g best (g.la + 1) = K 0 := by
  have hp' : ¬ g.pt = true := by rw [hp]; decide
  have h0 : ∀ i j, ¬ (i = 0 ∧ j = 0) → ra_sw g best i j = 0 := fun i j c => ra_sw_f (fun q => q.elim (fun z => hp' z.1) (fun z => c z.2))
  rw [ra_wa_up, ra_sm_first g.la (fun i hi _ => ra_sm_0 _ (fun j _ => h0 i j (by omega))), ra_sm_first g.lb (fun j hj _ => h0 0 j (by omega))]
  have h2 : K 0 = ra_k g 0 0 0 := ra_same_k hw hM (i := 0) (j := 0) (Nat.zero_le _) (Nat.zero_le _) (Or.inr (Or.inl ⟨rfl, Or.inl ⟨rfl, rfl⟩⟩))
  rw [h2]
  exact ra_sw_t (Or.inr ⟨hp', rfl, rfl⟩)
/-- two arrays of steps that hold the same path are the same below its length -/
theorem ra_same_steps {ph : List Nat} {d d' : Nat → Nat} (h : ∀ t, t < ph.length → ph[t]? = some (d t)) (h' : ∀ t, t < ph.length → ph[t]? = some (d' t)) : ∀ t, t < ph.length → d t = d' t :=
  fun t ht => Option.some.inj ((h t ht).symm.trans (h' t ht))
