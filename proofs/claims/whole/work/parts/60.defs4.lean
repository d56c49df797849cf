/-! The reference's words for its state. -/
abbrev ra_mg (Z L : Nat → Nat) (SC : Nat → Int) (op mr : Int) (fr : Nat) (pt : Bool) : ra_G := ra_mk (Z 0) (Z 1) L (fun k => L (96 + k)) SC op mr fr pt
abbrev raM (Z L : Nat → Nat) (SC : Nat → Int) (op mr : Int) (fr : Nat) : Prop := raH (Z 0) (Z 1) L (fun k => L (96 + k)) SC op mr fr
/-- an offer: a worth w ahead of the entry t, for the entry h -/
def ra_oT (T : Nat → Int) (h : Nat) (w : Int) (t : Nat) : Nat → Int := if T t = -100000000 ∨ w + T t < T h then T else iU T h (w + T t)
def ra_oK (T : Nat → Int) (K : Nat → Int64) (h : Nat) (w : Int) (t : Nat) : Nat → Int64 := if T t = -100000000 ∨ w + T t < T h then K else iU K h (if T h < w + T t then K t else K h + K t)
/-- the entry q codes x -/
def ra_cd (T : Nat → Int) (K : Nat → Int64) (q : Nat) (x : ra_V) : Prop := T q = ra_vl x ∧ K q = ra_ct x
theorem ra_offer {T : Nat → Int} {K : Nat → Int64} {h t : Nat} {w B : Int} {x y : ra_V} (hx : ra_cd T K h x) (hy : ra_cd T K t y) (ox : ra_ok B x) (oy : ra_ok B (ra_sc w y)) (oy' : ra_ok B y) (hB : B < 100000000) : ra_cd (ra_oT T h w t) (ra_oK T K h w t) h (ra_or x (ra_sc w y)) := by
  obtain ⟨x1, x2⟩ := hx
  obtain ⟨y1, y2⟩ := hy
  rcases y with _ | ⟨b, n⟩
  · have e : T t = -100000000 := y1
    unfold ra_oT ra_oK
    rw [if_pos (Or.inl e), if_pos (Or.inl e)]
    show T h = ra_vl (ra_or x none) ∧ K h = ra_ct (ra_or x none)
    rw [ra_or_none]; exact ⟨x1, x2⟩
  · have e : T t = b := y1
    have e2 : K t = n := y2
    have b1 := oy' _ rfl
    simp only at b1
    have ne : ¬ T t = -100000000 := by omega
    have v := ra_vl_or ox oy hB
    rcases x with _ | ⟨a, k⟩
    · have f : T h = -100000000 := x1
      have f2 : K h = 0 := x2
      have b2 := oy _ rfl
      simp only at b2
      have hc : ¬ (T t = -100000000 ∨ w + T t < T h) := by omega
      unfold ra_oT ra_oK
      rw [if_neg hc, if_neg hc]
      refine ⟨?_, ?_⟩
      · rw [iU_s, e]; rfl
      · rw [iU_s, if_pos (by omega), e2]; rfl
    · have f : T h = a := x1
      have f2 : K h = k := x2
      by_cases hc : w + T t < T h
      · unfold ra_oT ra_oK
        rw [if_pos (Or.inr hc), if_pos (Or.inr hc)]
        have z : ra_or (some (a, k)) (ra_sc w (some (b, n))) = some (a, k) := by
          simp only [ra_or, ra_sc]; rw [if_pos (by omega)]
        rw [z]; exact ⟨f, f2⟩
      · have hc' : ¬ (T t = -100000000 ∨ w + T t < T h) := by omega
        unfold ra_oT ra_oK
        rw [if_neg hc', if_neg hc']
        by_cases hd : T h < w + T t
        · have z : ra_or (some (a, k)) (ra_sc w (some (b, n))) = some (w + b, n) := by
            simp only [ra_or, ra_sc]; rw [if_neg (by omega), if_pos (by omega)]
          rw [z, if_pos hd]
          exact ⟨by rw [iU_s, e]; rfl, by rw [iU_s, e2]; rfl⟩
        · have z : ra_or (some (a, k)) (ra_sc w (some (b, n))) = some (a, k + n) := by
            simp only [ra_or, ra_sc]; rw [if_neg (by omega), if_neg (by omega)]
          rw [z, if_neg hd]
          refine ⟨?_, ?_⟩
          · rw [iU_s]; show w + T t = a; omega
          · rw [iU_s, f2, e2]; rfl
theorem ra_oT_n {T : Nat → Int} {h q : Nat} {w : Int} {t : Nat} (hq : q ≠ h) : ra_oT T h w t q = T q := by
  unfold ra_oT; split
  · rfl
  · rw [iU_n hq]
theorem ra_oK_n {T : Nat → Int} {K : Nat → Int64} {h q : Nat} {w : Int} {t : Nat} (hq : q ≠ h) : ra_oK T K h w t q = K q := by
  unfold ra_oK; split
  · rfl
  · rw [iU_n hq]
theorem ra_mf_ok {g : ra_G} (h : ra_bd g) : ∀ (n b i j : Nat), ra_ok (1024 * (((g.la - i) + (g.lb - j) : Nat) : Int)) (ra_mf g n b i j) := by
  intro n
  induction n with
  | zero => intro b i j; exact ra_ok_none _
  | succ n ih =>
    intro b i j
    obtain ⟨_, _, h3, h4, h5, h6, h7, _⟩ := h
    simp only [ra_mf]
    have gp : ∀ t : Nat, 1 ≤ t → 0 ≤ g.op + g.mo * (t : Int) ∧ g.op + g.mo * (t : Int) ≤ 1024 * (t : Int) := fun t ht => by
      have m1 : g.mo * (t : Int) ≤ 512 * (t : Int) := Int.mul_le_mul_of_nonneg_right h7 (by omega)
      have m2 : 0 ≤ g.mo * (t : Int) := Int.mul_nonneg h6 (by omega)
      omega
    refine ra_su_ok (ra_su_ok (ra_ok_or (ra_end_ok g i j _ (by omega)) ?_) ?_) ?_
    · split
      · rename_i hc
        have hs := h3 i j hc.1 hc.2
        refine ra_ok_sc (ih 0 (i + 1) (j + 1)) ?_ ?_ <;> omega
      · exact ra_ok_none _
    · intro t h1 h2
      split at h2
      · omega
      · have q := gp t h1
        have z : 0 ≤ ra_g1 g i j t ∧ ra_g1 g i j t ≤ 1024 * (t : Int) := by unfold ra_g1; split <;> omega
        refine ra_ok_sc (ih 1 (i + t) j) ?_ ?_ <;> omega
    · intro t h1 h2
      split at h2
      · omega
      · have q := gp t h1
        have z : 0 ≤ ra_g2 g i j t ∧ ra_g2 g i j t ≤ 1024 * (t : Int) := by unfold ra_g2; split <;> omega
        refine ra_ok_sc (ih 2 i (j + t)) ?_ ?_ <;> omega
theorem ra_m_ok {g : ra_G} (h : ra_bd g) (b i j : Nat) : ra_ok 200000 (ra_m g b i j) := by
  refine ra_ok_mono (ra_mf_ok h _ b i j) ?_
  have h1 := h.1
  have h2 := h.2.1
  omega
theorem ra_g1_bd {g : ra_G} (h : ra_bd g) {i j t : Nat} (h1 : 1 ≤ t) (h2 : t ≤ 96) : 0 ≤ ra_g1 g i j t ∧ ra_g1 g i j t ≤ 100000 := by
  obtain ⟨_, _, _, h4, h5, h6, h7, _⟩ := h
  have m1 : g.mo * (t : Int) ≤ 512 * (t : Int) := Int.mul_le_mul_of_nonneg_right h7 (by omega)
  have m2 : 0 ≤ g.mo * (t : Int) := Int.mul_nonneg h6 (by omega)
  unfold ra_g1; split <;> omega
theorem ra_g2_bd {g : ra_G} (h : ra_bd g) {i j t : Nat} (h1 : 1 ≤ t) (h2 : t ≤ 96) : 0 ≤ ra_g2 g i j t ∧ ra_g2 g i j t ≤ 100000 := by
  obtain ⟨_, _, _, h4, h5, h6, h7, _⟩ := h
  have m1 : g.mo * (t : Int) ≤ 512 * (t : Int) := Int.mul_le_mul_of_nonneg_right h7 (by omega)
  have m2 : 0 ≤ g.mo * (t : Int) := Int.mul_nonneg h6 (by omega)
  unfold ra_g2; split <;> omega
theorem ra_vl_bd {B : Int} {x : ra_V} (h : ra_ok B x) (hB : 0 ≤ B) (hB2 : B < 100000000) : -100000000 ≤ ra_vl x ∧ ra_vl x ≤ B := by
  rcases x with _ | a
  · show -100000000 ≤ (-100000000 : Int) ∧ (-100000000 : Int) ≤ B; omega
  · have := h a rfl; show -100000000 ≤ a.1 ∧ a.1 ≤ B; omega
/-- the entries behind (i, j) are done -/
def ra_SB (g : ra_G) (T : Nat → Int) (K : Nat → Int64) (i j : Nat) : Prop := (i < g.la → j < g.lb → ra_cd T K ((97 * (i + 1) + (j + 1)) * 3 + 0) (ra_m g 0 (i + 1) (j + 1))) ∧ (∀ t, 1 ≤ t → i + t ≤ g.la → ra_cd T K ((97 * (i + t) + j) * 3 + 1) (ra_m g 1 (i + t) j)) ∧ (∀ t, 1 ≤ t → j + t ≤ g.lb → ra_cd T K ((97 * i + (j + t)) * 3 + 2) (ra_m g 2 i (j + t)))
/-- the entry h under way: it codes x; all else as before -/
def ra_RI (T0 : Nat → Int) (K0 : Nat → Int64) (T : Nat → Int) (K : Nat → Int64) (h : Nat) (x : ra_V) : Prop := ra_cd T K h x ∧ ∀ q, q ≠ h → T q = T0 q ∧ K q = K0 q
theorem ra_RI_0 {g : ra_G} {T0 : Nat → Int} {K0 : Nat → Int64} {h i j : Nat} : ra_RI T0 K0 (iU T0 h (ra_xe g i j)) (iU K0 h (ra_ct (ra_end g i j))) h (ra_end g i j) :=
  ⟨⟨by rw [iU_s, ra_vl_end], by rw [iU_s]⟩, fun q hq => ⟨iU_n hq, iU_n hq⟩⟩
theorem ra_RI_offer {T0 : Nat → Int} {K0 : Nat → Int64} {T : Nat → Int} {K : Nat → Int64} {h t : Nat} {w B : Int} {x y : ra_V} (hx : ra_RI T0 K0 T K h x) (ht : t ≠ h) (hy : ra_cd T0 K0 t y) (ox : ra_ok B x) (oy : ra_ok B (ra_sc w y)) (oy' : ra_ok B y) (hB : B < 100000000) : ra_RI T0 K0 (ra_oT T h w t) (ra_oK T K h w t) h (ra_or x (ra_sc w y)) := by
  have e := hx.2 t ht
  refine ⟨ra_offer hx.1 ⟨by rw [e.1]; exact hy.1, by rw [e.2]; exact hy.2⟩ ox oy oy' hB, fun q hq => ?_⟩
  rw [ra_oT_n hq, ra_oK_n hq]
  exact hx.2 q hq
theorem ra_RI_t {T0 : Nat → Int} {K0 : Nat → Int64} {T : Nat → Int} {K : Nat → Int64} {h t : Nat} {x y : ra_V} {B : Int} (hx : ra_RI T0 K0 T K h x) (ht : t ≠ h) (hy : ra_cd T0 K0 t y) (oy : ra_ok B y) (hB : 0 ≤ B) (hB2 : B < 100000000) : -200000000 ≤ T t ∧ T t ≤ 200000000 := by
  rw [(hx.2 t ht).1, hy.1]
  have := ra_vl_bd oy hB hB2
  omega
theorem ra_RI_h {T0 : Nat → Int} {K0 : Nat → Int64} {T : Nat → Int} {K : Nat → Int64} {h : Nat} {x : ra_V} {B : Int} (hx : ra_RI T0 K0 T K h x) (ox : ra_ok B x) (hB : 0 ≤ B) (hB2 : B < 100000000) : -200000000 ≤ T h ∧ T h ≤ 200000000 := by
  rw [hx.1.1]
  have := ra_vl_bd ox hB hB2
  omega
def ra_X1 (g : ra_G) (i j : Nat) : ra_V := ra_or (ra_end g i j) (ra_p1 g i j)
def ra_F1 (g : ra_G) (i j : Nat) : Nat → ra_V := fun t => ra_sc (-(ra_g1 g i j t)) (ra_m g 1 (i + t) j)
def ra_F2 (g : ra_G) (i j : Nat) : Nat → ra_V := fun t => ra_sc (-(ra_g2 g i j t)) (ra_m g 2 i (j + t))
theorem ra_X1_ok {g : ra_G} (h : ra_bd g) (i j : Nat) : ra_ok 300000 (ra_X1 g i j) := by
  refine ra_ok_or (ra_end_ok g i j _ (by omega)) ?_
  unfold ra_p1
  split
  · rename_i hc
    have hs := h.2.2.1 i j hc.1 hc.2
    exact ra_ok_sc (ra_m_ok h _ _ _) (by omega) (by omega)
  · exact ra_ok_none _
theorem ra_F1_ok {g : ra_G} (h : ra_bd g) (i j : Nat) {t : Nat} (h1 : 1 ≤ t) (h2 : t ≤ 96) : ra_ok 300000 (ra_F1 g i j t) := by
  have q := ra_g1_bd h (i := i) (j := j) h1 h2
  exact ra_ok_sc (ra_m_ok h _ _ _) (by omega) (by omega)
theorem ra_F2_ok {g : ra_G} (h : ra_bd g) (i j : Nat) {t : Nat} (h1 : 1 ≤ t) (h2 : t ≤ 96) : ra_ok 300000 (ra_F2 g i j t) := by
  have q := ra_g2_bd h (i := i) (j := j) h1 h2
  exact ra_ok_sc (ra_m_ok h _ _ _) (by omega) (by omega)
theorem ra_S1_ok {g : ra_G} (h : ra_bd g) (i j : Nat) {t : Nat} (h2 : t ≤ 96) : ra_ok 300000 (ra_su (ra_X1 g i j) t (ra_F1 g i j)) :=
  ra_su_ok (ra_X1_ok h i j) (fun n h1 h3 => ra_F1_ok h i j h1 (by omega))
theorem ra_S2_ok {g : ra_G} (h : ra_bd g) (i j : Nat) {t t' : Nat} (h2 : t ≤ 96) (h2' : t' ≤ 96) : ra_ok 300000 (ra_su (ra_su (ra_X1 g i j) t (ra_F1 g i j)) t' (ra_F2 g i j)) :=
  ra_su_ok (ra_S1_ok h i j h2) (fun n h1 h3 => ra_F2_ok h i j h1 (by omega))
theorem ra_m_XF (g : ra_G) (b i j : Nat) : ra_m g b i j = ra_su (ra_su (ra_X1 g i j) (if b = 1 then 0 else g.la - i) (ra_F1 g i j)) (if b = 2 then 0 else g.lb - j) (ra_F2 g i j) := ra_m_eq g b i j
theorem ra_X1_t {g : ra_G} {i j : Nat} (h : i < g.la ∧ j < g.lb) : ra_X1 g i j = ra_or (ra_end g i j) (ra_sc (g.sc i j) (ra_m g 0 (i + 1) (j + 1))) := by
  unfold ra_X1 ra_p1; rw [if_pos h]
theorem ra_X1_f {g : ra_G} {i j : Nat} (h : ¬ (i < g.la ∧ j < g.lb)) : ra_X1 g i j = ra_end g i j := by
  unfold ra_X1 ra_p1; rw [if_neg h, ra_or_none]
section RCE
variable {la lb : Nat} {LA LB : Nat → Nat} {SC : Nat → Int} {op mo : Int} {fr : Nat} {pt : Bool}
theorem ra_ce_t {i j : Nat} (h : pt = true ∨ (i = la ∧ j = lb)) : ra_ct (ra_end (ra_mk la lb LA LB SC op mo fr pt) i j) = 1 := by
  unfold ra_end; rw [if_pos h]; rfl
theorem ra_ce_f {i j : Nat} (h : ¬ pt = true) (h2 : ¬ (i = la ∧ j = lb)) : ra_ct (ra_end (ra_mk la lb LA LB SC op mo fr pt) i j) = 0 := by
  unfold ra_end; rw [if_neg (fun q => q.elim h h2)]; rfl
end RCE
/-- the run table is done from (ii - 1, jj) on, of (ii - 1, jj - 1) the first kk entries -/
def ra_MD (g : ra_G) (T : Nat → Int) (K : Nat → Int64) (ii jj kk : Nat) : Prop := ∀ b i j, b < 3 → i ≤ g.la → j ≤ g.lb → (ii ≤ i ∨ (i + 1 = ii ∧ (jj ≤ j ∨ (j + 1 = jj ∧ b < kk)))) → ra_cd T K ((97 * i + j) * 3 + b) (ra_m g b i j)
theorem ra_MD_SB {g : ra_G} {T : Nat → Int} {K : Nat → Int64} {i j kk : Nat} (h : ra_MD g T K (i + 1) (j + 1) kk) (hi : i ≤ g.la) (hj : j ≤ g.lb) : ra_SB g T K i j :=
  ⟨fun h1 h2 => h 0 (i + 1) (j + 1) (by omega) (by omega) (by omega) (Or.inl (by omega)), fun t h1 h2 => h 1 (i + t) j (by omega) (by omega) hj (Or.inl (by omega)), fun t h1 h2 => h 2 i (j + t) (by omega) hi (by omega) (Or.inr ⟨rfl, Or.inl (by omega)⟩)⟩
theorem ra_MD_step {g : ra_G} {T T' : Nat → Int} {K K' : Nat → Int64} {i j b : Nat} (h : ra_MD g T K (i + 1) (j + 1) b) (hlb : g.lb ≤ 96) (hj : j ≤ g.lb) (hb : b < 3) (h1 : ra_RI T K T' K' ((97 * i + j) * 3 + b) (ra_m g b i j)) : ra_MD g T' K' (i + 1) (j + 1) (b + 1) := by
  intro b' i' j' hb' hi' hj' hc
  by_cases e : b' = b ∧ i' = i ∧ j' = j
  · obtain ⟨rfl, rfl, rfl⟩ := e; exact h1.1
  · have ne : (97 * i' + j') * 3 + b' ≠ (97 * i + j) * 3 + b := by omega
    have z := h1.2 _ ne
    have w := h b' i' j' hb' hi' hj' (by omega)
    exact ⟨by rw [z.1]; exact w.1, by rw [z.2]; exact w.2⟩
theorem ra_MD_next {g : ra_G} {T : Nat → Int} {K : Nat → Int64} {i j : Nat} (h : ra_MD g T K (i + 1) (j + 1) 3) : ra_MD g T K (i + 1) j 0 := fun b' i' j' hb' hi' hj' hc => h b' i' j' hb' hi' hj' (by omega)
theorem ra_MD_row {g : ra_G} {T : Nat → Int} {K : Nat → Int64} {i : Nat} (h : ra_MD g T K (i + 1) 0 0) : ra_MD g T K i (g.lb + 1) 0 := fun b' i' j' hb' hi' hj' hc => h b' i' j' hb' hi' hj' (by omega)
