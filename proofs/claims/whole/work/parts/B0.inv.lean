/-! What holds between two calls: both sides speak of the same ground. -/
theorem ra_FL_at {g : ra_G} (hb : ra_bd g) {sa sb : Nat} {d : Nat → Nat} (ha : sa ≤ g.la) (hsb : sb ≤ g.lb) (hp : ∀ t, t < (ra_pth g 0 sa sb).length → (ra_pth g 0 sa sb)[t]? = some (d t)) : ∀ k, k ≤ (ra_pth g 0 sa sb).length → ∃ bf i j, ra_FL g sa sb k d bf i j
  | 0, _ => ⟨0, sa, sb, ra_FL_0 d ha hsb⟩
  | k + 1, hk => by
    obtain ⟨bf, i, j, h⟩ := ra_FL_at hb ha hsb hp k (by omega)
    have hs : ra_st g bf i j ≠ 3 := fun e => by have := ra_FL_stop hb h e; omega
    have h2 := ra_FL_step hb h hs
    have e1 := h2.2.2.2.2.2.2 k (by omega)
    rw [iU_s] at e1
    have e3 : d k = ra_st g bf i j := Option.some.inj ((hp k (by omega)).symm.trans e1)
    have e4 : iU d k (ra_st g bf i j) = d := by
      funext t
      by_cases et : t = k
      · subst et; rw [iU_s, e3]
      · rw [iU_n et]
    rw [e4] at h2
    exact ⟨_, _, _, h2⟩
theorem ra_FL_pos {g : ra_G} (hb : ra_bd g) {sa sb : Nat} {d : Nat → Nat} (ha : sa ≤ g.la) (hsb : sb ≤ g.lb) (hp : ∀ t, t < (ra_pth g 0 sa sb).length → (ra_pth g 0 sa sb)[t]? = some (d t)) {k : Nat} (hk : k ≤ (ra_pth g 0 sa sb).length) : sa + ra_qi d k ≤ g.la ∧ sb + ra_qj d k ≤ g.lb := by
  obtain ⟨bf, i, j, h⟩ := ra_FL_at hb ha hsb hp k hk
  obtain ⟨-, h2, h3, h4, h5, -⟩ := h
  omega
theorem ra_FL_pair {g : ra_G} (hb : ra_bd g) {sa sb : Nat} {d : Nat → Nat} (ha : sa ≤ g.la) (hsb : sb ≤ g.lb) (hp : ∀ t, t < (ra_pth g 0 sa sb).length → (ra_pth g 0 sa sb)[t]? = some (d t)) {k : Nat} (hk : k < (ra_pth g 0 sa sb).length) (h0 : d k = 0) : sa + ra_qi d k < g.la ∧ sb + ra_qj d k < g.lb := by
  have h := ra_FL_pos hb ha hsb hp (k := k + 1) hk
  have e1 : ra_qi d (k + 1) = ra_qi d k + ra_da (d k) := rfl
  have e2 : ra_qj d (k + 1) = ra_qj d k + ra_db (d k) := rfl
  rw [e1, e2, h0] at h
  have e3 : ra_da 0 = 1 := rfl
  have e4 : ra_db 0 = 1 := rfl
  omega
/-- the rows, the prices, the draft -/
def raI (L Z : Nat → Nat) (SC : Nat → Int) (op mr : Int) (DD : Nat → Nat) (dn : Nat) : Prop := (∀ k, L k < 26) ∧ (∀ k, Z k ≤ 96) ∧ (∀ k, -512 ≤ SC k ∧ SC k ≤ 512) ∧ (0 ≤ op ∧ op ≤ 512) ∧ (0 ≤ mr ∧ mr ≤ 512) ∧ dn ≤ 200 ∧ ∀ t, DD t < 3
/-- what is laid: the class's table T, the reference's B and KW, at one ground -/
def raJ (L Z : Nat → Nat) (SC : Nat → Int) (op mr : Int) (fr : Nat) (pt : Bool) (T : Nat → Int) (best : Int) (si sj ln ea eb : Nat) (d : Nat → Nat) (wn xf : Bool) (cw : Int64) (LE : Nat → Int) (md MB ME : Nat → Nat) (B : Nat → Int) (KW : Nat → Int64) : Prop :=
  (fr < 16 ∧ (pt = true → fr = 0) ∧ (pt = false → si = 0 ∧ sj = 0) ∧ si ≤ Z 0 ∧ sj ≤ Z 1 ∧ best = T ((si * 3 + 0) * 97 + sj)) ∧
  (ra_TD (ra_mg Z L SC op mr fr pt) T 0 0 ∧ ra_MD (ra_mg Z L SC op mr fr pt) B KW 0 0 0) ∧
  (ln = (ra_pth (ra_mg Z L SC op mr fr pt) 0 si sj).length ∧ (∀ t, t < ln → (ra_pth (ra_mg Z L SC op mr fr pt) 0 si sj)[t]? = some (d t)) ∧ (∀ t, t < ln → (ra_pth (ra_mg Z L SC op mr fr pt) 0 si sj)[t]? = some (md t))) ∧
  (MB 0 = si ∧ MB 1 = sj ∧ ME 0 = ea ∧ ME 1 = eb) ∧
  (wn = true → cw = ra_wa (ra_mg Z L SC op mr fr pt) best (Z 0 + 1) &&& (9223372036854775807 : Int64)) ∧
  (xf = true → ∀ t, t ≤ Z 0 → ra_LF (ra_mg Z L SC op mr fr pt) LE t)
theorem raI.H {L Z : Nat → Nat} {SC : Nat → Int} {op mr : Int} {DD : Nat → Nat} {dn : Nat} (h : raI L Z SC op mr DD dn) {fr : Nat} (hf : fr < 16) : raH (Z 0) (Z 1) L (fun k => L (96 + k)) SC op mr fr :=
  ⟨h.2.1 0, h.2.1 1, h.1, fun k => h.1 _, h.2.2.1, h.2.2.2.1.1, h.2.2.2.1.2, h.2.2.2.2.1.1, h.2.2.2.2.1.2, hf⟩
theorem iU_all {α : Type} {P : α → Prop} {f : Nat → α} {k : Nat} {x : α} (h : ∀ t, P (f t)) (hx : P x) : ∀ t, P (iU f k x t) := fun t => by
  unfold iU
  split
  · exact hx
  · exact h t
section RI
variable {L Z : Nat → Nat} {SC : Nat → Int} {op mr : Int} {DD : Nat → Nat} {dn : Nat}
theorem raI.setZ (h : raI L Z SC op mr DD dn) {q y : Nat} (hy : y ≤ 96) : raI L (iU Z q y) SC op mr DD dn := ⟨h.1, iU_all (P := fun z => z ≤ 96) h.2.1 hy, h.2.2⟩
theorem raI.setL (h : raI L Z SC op mr DD dn) {L' : Nat → Nat} (hL : ∀ k, L' k < 26) : raI L' Z SC op mr DD dn := ⟨hL, h.2⟩
theorem raI.setS (h : raI L Z SC op mr DD dn) {S' : Nat → Int} (hS : ∀ k, -512 ≤ S' k ∧ S' k ≤ 512) : raI L Z S' op mr DD dn := ⟨h.1, h.2.1, hS, h.2.2.2⟩
theorem raI.setC (h : raI L Z SC op mr DD dn) {a b : Int} (ha : 0 ≤ a ∧ a ≤ 512) (hb : 0 ≤ b ∧ b ≤ 512) : raI L Z SC a b DD dn := ⟨h.1, h.2.1, h.2.2.1, ha, hb, h.2.2.2.2.2⟩
theorem raI.setD (h : raI L Z SC op mr DD dn) {D' : Nat → Nat} {n' : Nat} (hn : n' ≤ 200) (hD : ∀ t, D' t < 3) : raI L Z SC op mr D' n' := ⟨h.1, h.2.1, h.2.2.1, h.2.2.2.1, h.2.2.2.2.1, hn, hD⟩
variable {fr : Nat} {pt : Bool} {T : Nat → Int} {best : Int} {si sj ln ea eb : Nat} {d : Nat → Nat} {wn xf : Bool} {cw : Int64} {LE : Nat → Int} {md MB ME : Nat → Nat} {B : Nat → Int} {KW : Nat → Int64}
theorem raJ.same (j : raJ L Z SC op mr fr pt T best si sj ln ea eb d wn xf cw LE md MB ME B KW) : ∀ t, t < ln → d t = md t := fun t ht => Option.some.inj ((j.2.2.1.2.1 t ht).symm.trans (j.2.2.1.2.2 t ht))
theorem raJ.bd (h : raI L Z SC op mr DD dn) (j : raJ L Z SC op mr fr pt T best si sj ln ea eb d wn xf cw LE md MB ME B KW) : ra_bd (ra_mg Z L SC op mr fr pt) := (h.H j.1.1).bd pt
theorem raJ.wf (j : raJ L Z SC op mr fr pt T best si sj ln ea eb d wn xf cw LE md MB ME B KW) : ra_wf (ra_mg Z L SC op mr fr pt) := j.1.2.1
theorem raJ.long (h : raI L Z SC op mr DD dn) (j : raJ L Z SC op mr fr pt T best si sj ln ea eb d wn xf cw LE md MB ME B KW) : ln ≤ 192 := by
  have h1 := (ra_pth_len (j.bd h) _ 0 si sj j.1.2.2.2.1 j.1.2.2.2.2.1 (Nat.le_refl _)).1
  have h2 := j.2.2.1.1
  have h3 := h.2.1 0
  have h4 := h.2.1 1
  have h5 : (ra_mg Z L SC op mr fr pt).la = Z 0 := rfl
  have h6 : (ra_mg Z L SC op mr fr pt).lb = Z 1 := rfl
  omega
theorem raJ.pos (h : raI L Z SC op mr DD dn) (j : raJ L Z SC op mr fr pt T best si sj ln ea eb d wn xf cw LE md MB ME B KW) : ∀ k, k ≤ ln → si + ra_qi d k ≤ 96 ∧ sj + ra_qj d k ≤ 96 := fun k hk => by
  have e := j.2.2.1.1
  have h1 := ra_FL_pos (j.bd h) j.1.2.2.2.1 j.1.2.2.2.2.1 (fun t ht => j.2.2.1.2.1 t (by omega)) (k := k) (by omega)
  have h3 := h.2.1 0
  have h4 := h.2.1 1
  have h5 : (ra_mg Z L SC op mr fr pt).la = Z 0 := rfl
  have h6 : (ra_mg Z L SC op mr fr pt).lb = Z 1 := rfl
  omega
theorem raJ.pair (h : raI L Z SC op mr DD dn) (j : raJ L Z SC op mr fr pt T best si sj ln ea eb d wn xf cw LE md MB ME B KW) : ∀ k, k < ln → d k = 0 → si + ra_qi d k < 96 ∧ sj + ra_qj d k < 96 := fun k hk h0 => by
  have e := j.2.2.1.1
  have h1 := ra_FL_pair (j.bd h) j.1.2.2.2.1 j.1.2.2.2.2.1 (fun t ht => j.2.2.1.2.1 t (by omega)) (k := k) (by omega) h0
  have h3 := h.2.1 0
  have h4 := h.2.1 1
  have h5 : (ra_mg Z L SC op mr fr pt).la = Z 0 := rfl
  have h6 : (ra_mg Z L SC op mr fr pt).lb = Z 1 := rfl
  omega
theorem raJ.pairM (h : raI L Z SC op mr DD dn) (j : raJ L Z SC op mr fr pt T best si sj ln ea eb d wn xf cw LE md MB ME B KW) : ∀ k, k < ln → md k = 0 → MB 0 + ra_qi md k < 96 ∧ MB 1 + ra_qj md k < 96 := fun k hk h0 => by
  have hs := j.same
  have e1 := ra_qi_congr (d := d) (d' := md) k (fun t ht => hs t (by omega))
  have e2 := ra_qj_congr (d := d) (d' := md) k (fun t ht => hs t (by omega))
  have h1 := j.pair h k hk (by rw [hs k hk]; exact h0)
  have b0 := j.2.2.2.1.1
  have b1 := j.2.2.2.1.2.1
  omega
theorem raJ.best8 (h : raI L Z SC op mr DD dn) (j : raJ L Z SC op mr fr pt T best si sj ln ea eb d wn xf cw LE md MB ME B KW) : best = ra_r (ra_mg Z L SC op mr fr pt) 0 si sj := by
  rw [j.1.2.2.2.2.2]
  exact j.2.1.1 0 si sj (by omega) j.1.2.2.2.1 j.1.2.2.2.2.1 (Or.inl (Nat.zero_le _))
end RI
theorem ra_wo_pt {la lb : Nat} {sc : Nat → Nat → Int} {op mo : Int} {fr : Nat} (b b' : Bool) (d : Nat → Nat) (N : Nat) : ra_wo (la, lb, sc, op, mo, fr, b) d N = ra_wo (la, lb, sc, op, mo, fr, b') d N := by
  have h : ∀ k, ra_cs (la, lb, sc, op, mo, fr, b) d k = ra_cs (la, lb, sc, op, mo, fr, b') d k := by
    intro k
    induction k with
    | zero => rfl
    | succ k ih =>
      show ra_cs _ d k + ra_tm _ d k = ra_cs _ d k + ra_tm _ d k
      rw [ih]
      rfl
  unfold ra_wo
  rw [h]
theorem ra_sq_in {SC : Nat → Int} {x y : Int} {m : Nat} (h : ∀ k, -512 ≤ SC k ∧ SC k ≤ 512) (hx : -512 ≤ x ∧ x ≤ 512) (hy : -512 ≤ y ∧ y ≤ 512) : ∀ k, -512 ≤ ra_sq SC x y m k ∧ ra_sq SC x y m k ≤ 512 := fun k => by
  unfold ra_sq
  repeat' split
  · exact hx
  · exact hy
  · exact h k
theorem ra_ty_lt {L : Nat → Nat} {o n : Nat} {w : Int64} (h : ∀ t, L t < 26) (hac : ra_ac w n) : ∀ t, ra_ty L o w n t < 26 := fun t => by
  unfold ra_ty
  split
  · have h1 := hac (t - o) (by omega)
    omega
  · exact h t
section RI2
variable {L Z : Nat → Nat} {SC : Nat → Int} {op mr : Int} {DD : Nat → Nat} {dn : Nat} {fr : Nat} {pt : Bool} {T : Nat → Int} {best : Int} {si sj ln ea eb : Nat} {d : Nat → Nat} {wn xf : Bool} {cw : Int64} {LE : Nat → Int} {md MB ME : Nat → Nat} {B : Nat → Int} {KW : Nat → Int64}
theorem raJ.ways_p (h : raI L Z SC op mr DD dn) (j : raJ L Z SC op mr fr pt T best si sj ln ea eb d wn xf cw LE md MB ME B KW) (hp : pt = true) : ra_wa (ra_mg Z L SC op mr fr pt) best (Z 0 + 1) = ra_ma B KW (B ((97 * MB 0 + MB 1) * 3 + 0)) (Z 1) (Z 0 + 1) 0 := by
  have hf : (ra_mg Z L SC op mr fr pt).fr = 0 := j.1.2.1 hp
  have e : best = B ((97 * MB 0 + MB 1) * 3 + 0) := by
    rw [j.2.2.2.1.1, j.2.2.2.1.2.1, j.1.2.2.2.2.2]
    exact ra_same_V j.wf hf j.2.1.1 (ra_MD_TM j.2.1.2) j.1.2.2.2.1 j.1.2.2.2.2.1
  rw [← e]
  exact ra_same_ways_p j.wf hf hp j.2.1.2 best
end RI2
theorem raJ.best9 {L Z : Nat → Nat} {SC : Nat → Int} {op mr : Int} {DD : Nat → Nat} {dn : Nat} {fr : Nat} {pt : Bool} {T : Nat → Int} {best : Int} {si sj ln ea eb : Nat} {d : Nat → Nat} {wn xf : Bool} {cw : Int64} {LE : Nat → Int} {md MB ME : Nat → Nat} {B : Nat → Int} {KW : Nat → Int64} (h : raI L Z SC op mr DD dn) (j : raJ L Z SC op mr fr pt T best si sj ln ea eb d wn xf cw LE md MB ME B KW) : -200000 ≤ best ∧ best ≤ 200000 := by
  rw [j.best8 h]
  exact ra_r_bd (j.bd h) j.1.2.2.2.1 j.1.2.2.2.2.1
