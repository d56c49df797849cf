def ra_pr9 (a b kk i j bb : Nat) : Prop := i < a ∨ (i = a ∧ (j < b ∨ (j = b ∧ bb < kk)))
/-- the forward table of the reference, led on from all places before (a, b, kk) -/
def ra_L9 (g : ra_G) (Y : Nat → Int) (a b kk : Nat) : Prop :=
  (∀ t, -100000000 ≤ Y t ∧ Y t ≤ 400000)
  ∧ (∀ bb i j, bb < 3 → i ≤ g.la → j ≤ g.lb → Y ((97 * i + j) * 3 + bb) ≠ -100000000 → -(1024 * ((i + j : Nat) : Int)) ≤ Y ((97 * i + j) * 3 + bb) ∧ Y ((97 * i + j) * 3 + bb) ≤ 1024 * ((i + j : Nat) : Int) ∧ ∃ v, Y ((97 * i + j) * 3 + bb) ≤ v ∧ ra_lp g bb i j v)
  ∧ 0 ≤ Y 0
  ∧ (∀ bb i j, bb < 3 → i ≤ g.la → j ≤ g.lb → ra_pr9 a b kk i j bb → Y ((97 * i + j) * 3 + bb) ≠ -100000000 → ∀ s n, ra_okk g i j bb s n → Y ((97 * i + j) * 3 + bb) + ra_tw g i j s n ≤ Y (ra_tg i j s n))
theorem ra_mo_n {g : ra_G} (hb : ra_bd g) (n : Nat) : 0 ≤ g.mo * (n : Int) ∧ g.mo * (n : Int) ≤ 512 * (n : Int) := by
  obtain ⟨-, -, -, -, -, m0, m1, -⟩ := hb
  exact ⟨Int.mul_nonneg m0 (by omega), Int.mul_le_mul_of_nonneg_right m1 (by omega)⟩
theorem ra_tw_bd {g : ra_G} (hb : ra_bd g) {i j bf s n : Nat} (h : ra_okk g i j bf s n) : ra_tw g i j s n ≤ 512 ∧ (s = 0 → -512 ≤ ra_tw g i j s n) ∧ (s ≠ 0 → -(512 + 512 * (n : Int)) ≤ ra_tw g i j s n) := by
  have z := ra_mo_n hb n
  obtain ⟨-, -, hs, o0, o1, m0, -, -⟩ := hb
  unfold ra_tw
  rcases h with ⟨q, q1, q2⟩ | ⟨q, -, q1, q2⟩ | ⟨q, -, q1, q2⟩
  · rw [if_pos q]
    have := hs i j q1 q2
    omega
  · rw [if_neg (by omega), if_pos q]
    have : 0 ≤ ra_g1 g i j n ∧ ra_g1 g i j n ≤ 512 + 512 * (n : Int) := by unfold ra_g1; split <;> omega
    omega
  · rw [if_neg (by omega), if_neg (by omega)]
    have : 0 ≤ ra_g2 g i j n ∧ ra_g2 g i j n ≤ 512 + 512 * (n : Int) := by unfold ra_g2; split <;> omega
    omega
theorem ra_g1_lo {g : ra_G} (hb : ra_bd g) (i j n : Nat) : ra_o1 g j + ra_m1 g j * (n : Int) ≤ ra_g1 g i j n := by
  have z := ra_mo_n hb n
  obtain ⟨-, -, -, o0, -, m0, -, -⟩ := hb
  unfold ra_g1 ra_o1 ra_m1
  by_cases c : ra_f1 g j = true
  · rw [if_pos c, if_pos c]
    split <;> omega
  · rw [if_neg c, if_neg c]
    rw [if_neg]
    · exact Int.le_refl _
    · intro q
      apply c
      unfold ra_f1
      rcases q with ⟨⟨-, q1⟩, q2⟩ | ⟨⟨-, q1⟩, q2⟩
      · simp [q1, q2]
      · simp [q1, q2]
theorem ra_g2_lo {g : ra_G} (hb : ra_bd g) (i j n : Nat) : ra_o2 g i + ra_m2 g i * (n : Int) ≤ ra_g2 g i j n := by
  have z := ra_mo_n hb n
  obtain ⟨-, -, -, o0, -, m0, -, -⟩ := hb
  unfold ra_g2 ra_o2 ra_m2
  by_cases c : ra_f2 g i = true
  · rw [if_pos c, if_pos c]
    split <;> omega
  · rw [if_neg c, if_neg c]
    rw [if_neg]
    · exact Int.le_refl _
    · intro q
      apply c
      unfold ra_f2
      rcases q with ⟨⟨q1, -⟩, q2⟩ | ⟨⟨q1, -⟩, q2⟩
      · simp [q1, q2]
      · simp [q1, q2]
/-- which entry a step leads to -/
theorem ra_tg_at {g : ra_G} (hb : ra_bd g) {a b bf s n bb i j : Nat} (h : ra_okk g a b bf s n) (hbb : bb < 3) (hj : j ≤ 96) (ha : a ≤ g.la) (hb' : b ≤ g.lb) (e : (97 * i + j) * 3 + bb = ra_tg a b s n) : (s = 0 ∧ bb = 0 ∧ i = a + 1 ∧ j = b + 1) ∨ (s = 1 ∧ bb = 1 ∧ i = a + n ∧ j = b) ∨ (s = 2 ∧ bb = 2 ∧ i = a ∧ j = b + n) := by
  have h1 := hb.1
  have h2 := hb.2.1
  unfold ra_tg at e
  rcases h with ⟨q, q1, q2⟩ | ⟨q, -, q1, q2⟩ | ⟨q, -, q1, q2⟩
  · rw [if_pos q] at e; left; omega
  · rw [if_neg (by omega), if_pos q] at e; right; left; omega
  · rw [if_neg (by omega), if_neg (by omega)] at e; right; right; omega
theorem ra_tg_0 {g : ra_G} (hb : ra_bd g) {a b bf s n : Nat} (h : ra_okk g a b bf s n) (hbf : bf < 3) (ha : a ≤ g.la) (hb' : b ≤ g.lb) : ra_tg a b s n ≠ (97 * a + b) * 3 + bf := by
  intro e
  have h2 := hb.2.1
  unfold ra_tg at e
  rcases h with ⟨q, q1, q2⟩ | ⟨q, z, q1, q2⟩ | ⟨q, z, q1, q2⟩
  · rw [if_pos q] at e; omega
  · rw [if_neg (by omega), if_pos q] at e; omega
  · rw [if_neg (by omega), if_neg (by omega)] at e; omega
theorem ra_L9_src {g : ra_G} (hb : ra_bd g) {Y u : Nat → Int} {a b bf kk bb i j : Nat} {D : Nat → Nat → Prop} (hR : ra_LR g Y u a b bf D) (ha : a ≤ g.la) (hbl : b ≤ g.lb) (hbb : bb < 3) (hj : j ≤ g.lb) (hp : ra_pr9 a b kk i j bb) : u ((97 * i + j) * 3 + bb) = Y ((97 * i + j) * 3 + bb) := by
  apply Classical.byContradiction
  intro c
  obtain ⟨s, n, h1, h2, -⟩ := hR.2.1 _ c
  have h3 := hb.2.1
  have h4 := ra_tg_at hb h1 hbb (by omega) ha hbl h2
  unfold ra_pr9 at hp
  rcases h1 with ⟨q, q1, q2⟩ | ⟨q, z, q1, q2⟩ | ⟨q, z, q1, q2⟩ <;> omega
theorem ra_L9_keep {g : ra_G} (hb : ra_bd g) {Y u : Nat → Int} {a b bf kk : Nat} {D : Nat → Nat → Prop} (h : ra_L9 g Y a b kk) (hbf : bf < 3) (ha : a ≤ g.la) (hbl : b ≤ g.lb) (hW : ¬ Y ((97 * a + b) * 3 + bf) = -100000000) (hR : ra_LR g Y u a b bf D) : ra_L9 g u a b kk := by
  have h96a := hb.1
  have h96b := hb.2.1
  obtain ⟨p1, p2, p3, p4⟩ := h
  obtain ⟨w1, w2, v, v1, v2⟩ := p2 bf a b hbf ha hbl hW
  refine ⟨?_, ?_, Int.le_trans p3 (hR.1 0), ?_⟩
  · intro t
    have q1 := p1 t
    have q2 := hR.1 t
    refine ⟨by omega, ?_⟩
    by_cases c : u t = Y t
    · omega
    · obtain ⟨s, n, h1, -, h3⟩ := hR.2.1 t c
      have h4 := ra_tw_bd hb h1
      omega
  · intro bb i j hbb hi hj hne
    by_cases c : u ((97 * i + j) * 3 + bb) = Y ((97 * i + j) * 3 + bb)
    · rw [c] at hne ⊢
      exact p2 bb i j hbb hi hj hne
    · obtain ⟨s, n, h1, h2, h3⟩ := hR.2.1 _ c
      have h4 := ra_tw_bd hb h1
      have h5 := ra_tg_at hb h1 hbb (by omega) ha hbl h2
      rw [h3]
      rcases h1 with ⟨q, q1, q2⟩ | ⟨q, z, q1, q2⟩ | ⟨q, z, q1, q2⟩
      · have h6 : bb = 0 ∧ i = a + 1 ∧ j = b + 1 := by omega
        obtain ⟨rfl, rfl, rfl⟩ := h6
        refine ⟨by omega, by omega, v + g.sc a b, ?_, ra_lp_0 hbf v2⟩
        unfold ra_tw
        rw [if_pos q]
        omega
      · have h6 : bb = 1 ∧ i = a + n ∧ j = b := by omega
        obtain ⟨rfl, rfl, rfl⟩ := h6
        obtain ⟨m, rfl⟩ : ∃ m, n = m + 1 := ⟨n - 1, by omega⟩
        refine ⟨by omega, by omega, _, ?_, ra_lp_ext1 hbf z v2 m⟩
        have h7 := ra_g1_lo hb a j (m + 1)
        unfold ra_tw
        rw [if_neg (by omega), if_pos q]
        omega
      · have h6 : bb = 2 ∧ i = a ∧ j = b + n := by omega
        obtain ⟨rfl, rfl, rfl⟩ := h6
        obtain ⟨m, rfl⟩ : ∃ m, n = m + 1 := ⟨n - 1, by omega⟩
        refine ⟨by omega, by omega, _, ?_, ra_lp_ext2 hbf z v2 m⟩
        have h7 := ra_g2_lo hb i b (m + 1)
        unfold ra_tw
        rw [if_neg (by omega), if_neg (by omega)]
        omega
  · intro bb i j hbb hi hj hp hne s n hok
    have e := ra_L9_src hb hR ha hbl hbb hj hp
    rw [e] at hne ⊢
    exact Int.le_trans (p4 bb i j hbb hi hj hp hne s n hok) (hR.1 _)
theorem ra_L9_step {g : ra_G} (hb : ra_bd g) {Y u : Nat → Int} {a b bf : Nat} (h : ra_L9 g Y a b bf) (hbf : bf < 3) (ha : a ≤ g.la) (hbl : b ≤ g.lb) (hu : (Y ((97 * a + b) * 3 + bf) = -100000000 → u = Y) ∧ (¬ Y ((97 * a + b) * 3 + bf) = -100000000 → ra_LR g Y u a b bf (fun _ _ => True))) : ra_L9 g u a b (bf + 1) := by
  by_cases c : Y ((97 * a + b) * 3 + bf) = -100000000
  · rw [hu.1 c]
    obtain ⟨p1, p2, p3, p4⟩ := h
    refine ⟨p1, p2, p3, ?_⟩
    intro bb i j hbb hi hj hp hne s n hok
    by_cases d : ra_pr9 a b bf i j bb
    · exact p4 bb i j hbb hi hj d hne s n hok
    · exfalso
      have e : bb = bf ∧ i = a ∧ j = b := by unfold ra_pr9 at hp d; omega
      rw [e.1, e.2.1, e.2.2] at hne
      exact hne c
  · have hR := hu.2 c
    obtain ⟨p1, p2, p3, p4⟩ := ra_L9_keep hb h hbf ha hbl c hR
    refine ⟨p1, p2, p3, ?_⟩
    intro bb i j hbb hi hj hp hne s n hok
    by_cases d : ra_pr9 a b bf i j bb
    · exact p4 bb i j hbb hi hj d hne s n hok
    · have e : bb = bf ∧ i = a ∧ j = b := by unfold ra_pr9 at hp d; omega
      obtain ⟨rfl, rfl, rfl⟩ := e
      have e2 : u ((97 * i + j) * 3 + bb) = Y ((97 * i + j) * 3 + bb) := by
        apply Classical.byContradiction
        intro c2
        obtain ⟨s', n', h1, h2, -⟩ := hR.2.1 _ c2
        exact ra_tg_0 hb h1 hbb hi hj h2.symm
      rw [e2]
      exact hR.2.2 s n hok trivial
theorem ra_L9_again {g : ra_G} (hb : ra_bd g) {Y u : Nat → Int} {a b bf kk : Nat} (h : ra_L9 g Y a b kk) (hbf : bf < 3) (ha : a ≤ g.la) (hbl : b ≤ g.lb) (hu : (Y ((97 * a + b) * 3 + bf) = -100000000 → u = Y) ∧ (¬ Y ((97 * a + b) * 3 + bf) = -100000000 → ra_LR g Y u a b bf (fun _ _ => True))) : ra_L9 g u a b kk := by
  by_cases c : Y ((97 * a + b) * 3 + bf) = -100000000
  · rw [hu.1 c]; exact h
  · exact ra_L9_keep hb h hbf ha hbl c (hu.2 c)
theorem ra_L9_col {g : ra_G} {Y : Nat → Int} {a b : Nat} (h : ra_L9 g Y a b 3) : ra_L9 g Y a (b + 1) 0 :=
  ⟨h.1, h.2.1, h.2.2.1, fun bb i j hbb hi hj hp => h.2.2.2 bb i j hbb hi hj (by unfold ra_pr9 at hp ⊢; omega)⟩
theorem ra_L9_row {g : ra_G} {Y : Nat → Int} {a b : Nat} (h : ra_L9 g Y a b 0) (hb : g.lb < b) : ra_L9 g Y (a + 1) 0 0 :=
  ⟨h.1, h.2.1, h.2.2.1, fun bb i j hbb hi hj hp => h.2.2.2 bb i j hbb hi hj (by unfold ra_pr9 at hp ⊢; omega)⟩
abbrev ra_l9 (Y : Nat → Int) : Nat → Nat → Nat → Int := fun b i j => Y ((97 * i + j) * 3 + b)
theorem ra_L9_LS {g : ra_G} (hb : ra_bd g) {Y : Nat → Int} {a b kk : Nat} (h : ra_L9 g Y a b kk) : ra_LS g (ra_l9 Y) := by
  intro bb i j hbb hi hj hne
  have h1 := hb.1
  have h2 := hb.2.1
  obtain ⟨q1, q2, q3⟩ := h.2.1 bb i j hbb hi hj hne
  exact ⟨by show -400000 ≤ Y _; omega, by show Y _ ≤ 400000; omega, q3⟩
theorem ra_L9_LC {g : ra_G} (hb : ra_bd g) {Y : Nat → Int} {a : Nat} (h : ra_L9 g Y a 0 0) (ha : g.la < a) : ra_LC g (ra_l9 Y) := by
  refine ⟨h.2.2.1, ?_⟩
  intro bb i j hbb hi hj hne
  have q := h.2.2.2 bb i j hbb hi hj (Or.inl (by omega)) hne
  refine ⟨?_, ?_, ?_⟩
  · intro h1 h2
    exact q 0 1 (Or.inl ⟨rfl, h1, h2⟩)
  · intro h0 n h1 h2
    have z : Y ((97 * i + j) * 3 + bb) + -(ra_g1 g i j n) ≤ Y ((97 * (i + n) + j) * 3 + 1) := q 1 n (Or.inr (Or.inl ⟨rfl, h0, h1, h2⟩))
    show Y ((97 * i + j) * 3 + bb) - ra_g1 g i j n ≤ Y ((97 * (i + n) + j) * 3 + 1)
    omega
  · intro h0 n h1 h2
    have z : Y ((97 * i + j) * 3 + bb) + -(ra_g2 g i j n) ≤ Y ((97 * i + (j + n)) * 3 + 2) := q 2 n (Or.inr (Or.inr ⟨rfl, h0, h1, h2⟩))
    show Y ((97 * i + j) * 3 + bb) - ra_g2 g i j n ≤ Y ((97 * i + (j + n)) * 3 + 2)
    omega
/-- the table when it's been cleared up to k -/
def ra_fl (Y : Nat → Int) (k : Nat) : Nat → Int := fun t => if t < k then -100000000 else Y t
theorem ra_fl_0 (Y : Nat → Int) : ra_fl Y 0 = Y := by
  funext t; exact if_neg (by omega)
theorem ra_fl_s (Y : Nat → Int) (k : Nat) : iU (ra_fl Y k) k (-100000000) = ra_fl Y (k + 1) := by
  funext t
  unfold iU ra_fl
  by_cases c : t = k
  · rw [if_pos c, if_pos (by omega)]
  · rw [if_neg c]
    by_cases d : t < k
    · rw [if_pos d, if_pos (by omega)]
    · rw [if_neg d, if_neg (by omega)]
theorem ra_L9_start {g : ra_G} (hb : ra_bd g) {Y : Nat → Int} (hY : ∀ t, -100000000 ≤ Y t ∧ Y t ≤ 400000) : ra_L9 g (iU (ra_fl Y 28227) 0 0) 0 0 0 := by
  have h1 := hb.1
  have h2 := hb.2.1
  have e0 : iU (ra_fl Y 28227) 0 0 0 = 0 := if_pos rfl
  have e1 : ∀ t, t ≠ 0 → t < 28227 → iU (ra_fl Y 28227) 0 0 t = -100000000 := fun t h3 h4 => (if_neg h3).trans (if_pos h4)
  refine ⟨?_, ?_, by rw [e0]; exact Int.le_refl _, ?_⟩
  · intro t
    by_cases c : t = 0
    · rw [c, e0]; omega
    · by_cases d : t < 28227
      · rw [e1 t c d]; omega
      · have e2 : iU (ra_fl Y 28227) 0 0 t = Y t := (if_neg c).trans (if_neg d)
        rw [e2]; exact hY t
  · intro bb i j hbb hi hj hne
    by_cases c : (97 * i + j) * 3 + bb = 0
    · have e : bb = 0 ∧ i = 0 ∧ j = 0 := by omega
      obtain ⟨rfl, rfl, rfl⟩ := e
      refine ⟨?_, ?_, 0, ?_, ra_lp_start g⟩
      · show _ ≤ iU (ra_fl Y 28227) 0 0 0; rw [e0]; omega
      · show iU (ra_fl Y 28227) 0 0 0 ≤ _; rw [e0]; omega
      · show iU (ra_fl Y 28227) 0 0 0 ≤ _; rw [e0]; omega
    · exact absurd (e1 _ c (by omega)) hne
  · intro bb i j _ _ _ hp
    unfold ra_pr9 at hp
    omega

def ra_cA (g : ra_G) (Y T : Nat → Int) (gl : Int) (i j p e b : Nat) : Prop := (b < 3 ∧ b ≠ 1) ∧ (¬ Y ((97 * (i - p) + j) * 3 + b) = -100000000 ∧ ¬ T ((97 * (i + e) + j) * 3 + 1) = -100000000) ∧ Y ((97 * (i - p) + j) * 3 + b) - ra_g1 g (i - p) j (p + e) + T ((97 * (i + e) + j) * 3 + 1) = gl
def ra_XA (g : ra_G) (Y T : Nat → Int) (gl : Int) (i j : Nat) : Prop := ∃ p e b, 1 ≤ p ∧ p ≤ i ∧ 1 ≤ e ∧ i + e ≤ g.la ∧ ra_cA g Y T gl i j p e b
def ra_NA (g : ra_G) (Y T : Nat → Int) (gl : Int) (i j P E : Nat) : Prop := ∀ p e b, 1 ≤ p → p ≤ i → 1 ≤ e → i + e ≤ g.la → (p < P ∨ (p = P ∧ e < E)) → ¬ ra_cA g Y T gl i j p e b
theorem ra_NA_0 (g : ra_G) (Y T : Nat → Int) (gl : Int) (i j : Nat) : ra_NA g Y T gl i j 1 1 := fun p e b h1 _ h2 _ h3 => by omega
theorem ra_NA_s {g : ra_G} {Y T : Nat → Int} {gl : Int} {i j P E : Nat} (h : ra_NA g Y T gl i j P E) (h0 : ¬ ra_cA g Y T gl i j P E 0) (h1 : ¬ ra_cA g Y T gl i j P E 1) (h2 : ¬ ra_cA g Y T gl i j P E 2) : ra_NA g Y T gl i j P (E + 1) := by
  intro p e b q1 q2 q3 q4 q5
  by_cases c : p = P ∧ e = E
  · rw [c.1, c.2]
    intro z
    have z1 := z.1.1
    have cs : b = 0 ∨ b = 1 ∨ b = 2 := by omega
    rcases cs with rfl | rfl | rfl
    · exact h0 z
    · exact h1 z
    · exact h2 z
  · exact h p e b q1 q2 q3 q4 (by omega)
theorem ra_NA_row {g : ra_G} {Y T : Nat → Int} {gl : Int} {i j P E : Nat} (h : ra_NA g Y T gl i j P E) (hE : g.la < i + E) : ra_NA g Y T gl i j (P + 1) 1 := fun p e b q1 q2 q3 q4 q5 => h p e b q1 q2 q3 q4 (by omega)
theorem ra_NA_end {g : ra_G} {Y T : Nat → Int} {gl : Int} {i j P E : Nat} (h : ra_NA g Y T gl i j P E) (hP : i < P) : ¬ ra_XA g Y T gl i j := fun ⟨p, e, b, q1, q2, q3, q4, q5⟩ => h p e b q1 q2 q3 q4 (by omega) q5
def ra_cB (g : ra_G) (Y T : Nat → Int) (gl : Int) (i j p e b : Nat) : Prop := (b < 3 ∧ b ≠ 2) ∧ (¬ Y ((97 * i + (j - p)) * 3 + b) = -100000000 ∧ ¬ T ((97 * i + (j + e)) * 3 + 2) = -100000000) ∧ Y ((97 * i + (j - p)) * 3 + b) - ra_g2 g i (j - p) (p + e) + T ((97 * i + (j + e)) * 3 + 2) = gl
def ra_XB (g : ra_G) (Y T : Nat → Int) (gl : Int) (i j : Nat) : Prop := ∃ p e b, 1 ≤ p ∧ p ≤ j ∧ 1 ≤ e ∧ j + e ≤ g.lb ∧ ra_cB g Y T gl i j p e b
def ra_NB (g : ra_G) (Y T : Nat → Int) (gl : Int) (i j P E : Nat) : Prop := ∀ p e b, 1 ≤ p → p ≤ j → 1 ≤ e → j + e ≤ g.lb → (p < P ∨ (p = P ∧ e < E)) → ¬ ra_cB g Y T gl i j p e b
theorem ra_NB_0 (g : ra_G) (Y T : Nat → Int) (gl : Int) (i j : Nat) : ra_NB g Y T gl i j 1 1 := fun p e b h1 _ h2 _ h3 => by omega
theorem ra_NB_s {g : ra_G} {Y T : Nat → Int} {gl : Int} {i j P E : Nat} (h : ra_NB g Y T gl i j P E) (h0 : ¬ ra_cB g Y T gl i j P E 0) (h1 : ¬ ra_cB g Y T gl i j P E 1) (h2 : ¬ ra_cB g Y T gl i j P E 2) : ra_NB g Y T gl i j P (E + 1) := by
  intro p e b q1 q2 q3 q4 q5
  by_cases c : p = P ∧ e = E
  · rw [c.1, c.2]
    intro z
    have z1 := z.1.1
    have cs : b = 0 ∨ b = 1 ∨ b = 2 := by omega
    rcases cs with rfl | rfl | rfl
    · exact h0 z
    · exact h1 z
    · exact h2 z
  · exact h p e b q1 q2 q3 q4 (by omega)
theorem ra_NB_row {g : ra_G} {Y T : Nat → Int} {gl : Int} {i j P E : Nat} (h : ra_NB g Y T gl i j P E) (hE : g.lb < j + E) : ra_NB g Y T gl i j (P + 1) 1 := fun p e b q1 q2 q3 q4 q5 => h p e b q1 q2 q3 q4 (by omega)
theorem ra_NB_end {g : ra_G} {Y T : Nat → Int} {gl : Int} {i j P E : Nat} (h : ra_NB g Y T gl i j P E) (hP : j < P) : ¬ ra_XB g Y T gl i j := fun ⟨p, e, b, q1, q2, q3, q4, q5⟩ => h p e b q1 q2 q3 q4 (by omega) q5
noncomputable def ra_tv (p : Prop) : Bool := @decide p (Classical.propDecidable p)
theorem ra_tv_iff {p : Prop} : ra_tv p = true ↔ p := @decide_eq_true_iff p (Classical.propDecidable p)
theorem ra_X_of {g : ra_G} {Y T : Nat → Int} (hT : ra_TM g T) {gl : Int} {i j : Nat} (hi : i ≤ g.la) (hj : j ≤ g.lb) : ra_X g (ra_l9 Y) gl i j ↔ (∃ b, b < 3 ∧ ¬ Y ((97 * i + j) * 3 + b) = -100000000 ∧ ¬ T ((97 * i + j) * 3 + b) = -100000000 ∧ Y ((97 * i + j) * 3 + b) + T ((97 * i + j) * 3 + b) = gl) ∨ ra_XA g Y T gl i j ∨ ra_XB g Y T gl i j := by
  have e0 : ∀ b, b < 3 → T ((97 * i + j) * 3 + b) = ra_mv g b i j := fun b hb => hT b i j hb hi hj
  have e1 : ∀ e, i + e ≤ g.la → T ((97 * (i + e) + j) * 3 + 1) = ra_mv g 1 (i + e) j := fun e he => hT 1 (i + e) j (by omega) he hj
  have e2 : ∀ e, j + e ≤ g.lb → T ((97 * i + (j + e)) * 3 + 2) = ra_mv g 2 i (j + e) := fun e he => hT 2 i (j + e) (by omega) hi he
  unfold ra_X
  refine or_congr ?_ (or_congr ?_ ?_)
  · constructor
    · rintro ⟨b, h1, h2, h3, h4⟩
      exact ⟨b, h1, h2, by rw [e0 b h1]; exact h3, by rw [e0 b h1]; exact h4⟩
    · rintro ⟨b, h1, h2, h3, h4⟩
      rw [e0 b h1] at h3 h4
      exact ⟨b, h1, h2, h3, h4⟩
  · constructor
    · rintro ⟨p, e, b, q1, q2, q3, q4, q5, q6, q7, q8, q9⟩
      have q4' : i + e ≤ g.la := by omega
      exact ⟨p, e, b, q1, q2, q3, q4', ⟨q5, q6⟩, ⟨q7, by rw [e1 e q4']; exact q8⟩, by rw [e1 e q4']; exact q9⟩
    · rintro ⟨p, e, b, q1, q2, q3, q4, ⟨q5, q6⟩, ⟨q7, q8⟩, q9⟩
      rw [e1 e q4] at q8 q9
      exact ⟨p, e, b, q1, q2, q3, by omega, q5, q6, q7, q8, q9⟩
  · constructor
    · rintro ⟨p, e, b, q1, q2, q3, q4, q5, q6, q7, q8, q9⟩
      have q4' : j + e ≤ g.lb := by omega
      exact ⟨p, e, b, q1, q2, q3, q4', ⟨q5, q6⟩, ⟨q7, by rw [e2 e q4']; exact q8⟩, by rw [e2 e q4']; exact q9⟩
    · rintro ⟨p, e, b, q1, q2, q3, q4, ⟨q5, q6⟩, ⟨q7, q8⟩, q9⟩
      rw [e2 e q4] at q8 q9
      exact ⟨p, e, b, q1, q2, q3, by omega, q5, q6, q7, q8, q9⟩
