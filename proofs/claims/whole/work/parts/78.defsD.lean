/-- byte k of a long -/
def ra_by (w : Int64) (k : Nat) : Nat := (w.toBitVec.toNat >>> (8 * k)) % 2 ^ 8
theorem ra_by_lt (w : Int64) (k : Nat) : ra_by w k < 256 := Nat.mod_lt _ (by decide)
theorem ra_by_bit (w : Int64) (k i : Nat) : (ra_by w k).testBit i = (decide (i < 8) && w.toBitVec.getLsbD (8 * k + i)) := by
  unfold ra_by
  rw [Nat.testBit_mod_two_pow, Nat.testBit_shiftRight]; rfl
theorem ra_by_sh (k : Nat) (hk : k < 8) : ((iI ((8 * k : Nat) : Int)).toInt64.toUInt64 &&& Int64.toUInt64 63).toBitVec = BitVec.ofNat 64 (8 * k) ∧ ((iI ((8 * k : Nat) : Int)).toInt64 &&& 63).toBitVec = BitVec.ofNat 64 (8 * k) := by
  have h : ∀ k : Fin 8, ((iI ((8 * k.val : Nat) : Int)).toInt64.toUInt64 &&& Int64.toUInt64 63).toBitVec = BitVec.ofNat 64 (8 * k.val) ∧ ((iI ((8 * k.val : Nat) : Int)).toInt64 &&& 63).toBitVec = BitVec.ofNat 64 (8 * k.val) := by decide +kernel
  exact h ⟨k, hk⟩
theorem ra_255 (i : Nat) : (255#32).getLsbD i = decide (i < 8) := by
  by_cases h : i < 32
  · have q : ∀ i : Fin 32, (255#32).getLsbD i.val = decide (i.val < 8) := by decide +kernel
    exact q ⟨i, h⟩
  · rw [BitVec.getLsbD_of_ge _ _ (by omega)]
    exact (decide_eq_false (by omega)).symm
theorem ra_255L (i : Nat) : (255#64).getLsbD i = decide (i < 8) := by
  by_cases h : i < 64
  · have q : ∀ i : Fin 64, (255#64).getLsbD i.val = decide (i.val < 8) := by decide +kernel
    exact q ⟨i, h⟩
  · rw [BitVec.getLsbD_of_ge _ _ (by omega)]
    exact (decide_eq_false (by omega)).symm
theorem ra_by_iI (w : Int64) (k i : Nat) (hi : i < 32) : (iI ((ra_by w k : Nat) : Int)).toBitVec.getLsbD i = (decide (i < 8) && w.toBitVec.getLsbD (8 * k + i)) := by
  rw [← ra_by_bit]
  show (BitVec.ofInt 32 ((ra_by w k : Nat) : Int)).getLsbD i = _
  rw [BitVec.ofInt_natCast, BitVec.getLsbD_ofNat, decide_eq_true hi, Bool.true_and]
/-- the class's way to a character -/
theorem ra_by_u (w : Int64) (k : Nat) (hk : k < 8) : (w.toUInt64 >>> ((iI ((8 * k : Nat) : Int)).toInt64.toUInt64 &&& Int64.toUInt64 63)).toInt64.toInt32 &&& iI ((255 : Nat) : Int) = iI ((ra_by w k : Nat) : Int) := by
  apply Int32.toBitVec.inj
  apply BitVec.eq_of_getLsbD_eq
  intro i hi
  rw [ra_by_iI w k i hi]
  have e : ((w.toUInt64 >>> ((iI ((8 * k : Nat) : Int)).toInt64.toUInt64 &&& Int64.toUInt64 63)).toInt64.toInt32 &&& iI ((255 : Nat) : Int)).toBitVec = (w.toBitVec >>> (((iI ((8 * k : Nat) : Int)).toInt64.toUInt64 &&& Int64.toUInt64 63).toBitVec % 64)).signExtend 32 &&& 255#32 := rfl
  rw [e, (ra_by_sh k hk).1, BitVec.getLsbD_and, ra_255, BitVec.getLsbD_signExtend]
  rw [BitVec.ushiftRight_eq', BitVec.getLsbD_ushiftRight]
  have e2 : (BitVec.ofNat 64 (8 * k) % 64#64).toNat = 8 * k := by
    rw [BitVec.toNat_umod, BitVec.toNat_ofNat]
    show 8 * k % 2 ^ 64 % 64 = 8 * k
    omega
  have e3 : (BitVec.ofNat 64 (8 * k) % (64 : BitVec 64)).toNat = 8 * k := e2
  rw [e3, decide_eq_true hi, if_pos (by omega), Bool.true_and, Bool.and_comm]
/-- the reference's way to a character -/
theorem ra_by_s (w : Int64) (k : Nat) (hk : k < 8) : ((w >>> ((iI ((8 * k : Nat) : Int)).toInt64 &&& 63)) &&& (255 : Int64)).toInt32 = iI ((ra_by w k : Nat) : Int) := by
  apply Int32.toBitVec.inj
  apply BitVec.eq_of_getLsbD_eq
  intro i hi
  rw [ra_by_iI w k i hi]
  have e : ((w >>> ((iI ((8 * k : Nat) : Int)).toInt64 &&& 63)) &&& (255 : Int64)).toInt32.toBitVec = ((w.toBitVec.sshiftRight' (((iI ((8 * k : Nat) : Int)).toInt64 &&& 63).toBitVec.smod 64)) &&& 255#64).signExtend 32 := rfl
  have e2 : ∀ k : Fin 8, ((BitVec.ofNat 64 (8 * k.val)).smod 64#64).toNat = 8 * k.val := by decide +kernel
  have e3 : ((BitVec.ofNat 64 (8 * k)).smod (64 : BitVec 64)).toNat = 8 * k := e2 ⟨k, hk⟩
  rw [e, (ra_by_sh k hk).2, BitVec.getLsbD_signExtend, decide_eq_true hi, if_pos (by omega), Bool.true_and, BitVec.getLsbD_and, ra_255L, BitVec.sshiftRight_eq', BitVec.getLsbD_sshiftRight, e3]
  by_cases c : i < 8
  · rw [decide_eq_true c, Bool.true_and, Bool.and_true, if_pos (by omega)]
    have e4 : decide (64 ≤ i) = false := decide_eq_false (by omega)
    rw [e4]; rfl
  · rw [decide_eq_false c, Bool.false_and, Bool.and_false]
/-- the first n bytes are small letters -/
def ra_ac (w : Int64) (n : Nat) : Prop := ∀ k, k < n → 97 ≤ ra_by w k ∧ ra_by w k ≤ 122
theorem ra_ac_0 (w : Int64) : ra_ac w 0 := fun k h => absurd h (by omega)
theorem ra_ac_s {w : Int64} {k : Nat} (h : ra_ac w k) (q : 97 ≤ ra_by w k ∧ ra_by w k ≤ 122) : ra_ac w (k + 1) := by
  intro t ht
  by_cases c : t = k
  · rw [c]; exact q
  · exact h t (by omega)
/-- the reference's letters with k of the typed ones behind -/
def ra_ty (L : Nat → Nat) (o : Nat) (w : Int64) (k : Nat) : Nat → Nat := fun t => if o ≤ t ∧ t < o + k then ra_by w (t - o) - 97 else L t
theorem ra_ty_0 (L : Nat → Nat) (o : Nat) (w : Int64) : ra_ty L o w 0 = L := by
  funext t; exact if_neg (by omega)
theorem ra_ty_s (L : Nat → Nat) (a b : Nat) (w : Int64) (k : Nat) : iU (ra_ty L (a + b) w k) (a + (b + k)) (ra_by w k - 97) = ra_ty L (a + b) w (k + 1) := by
  funext t
  unfold iU ra_ty
  by_cases c : t = a + (b + k)
  · rw [if_pos c, if_pos (by omega), show t - (a + b) = k by omega]
  · rw [if_neg c]
    by_cases d : a + b ≤ t ∧ t < a + b + k
    · rw [if_pos d, if_pos (by omega)]
    · rw [if_neg d, if_neg (by omega)]
theorem iU_at {α : Type} (f : Nat → α) (k : Nat) (x : α) : iU f k x k = x := if_pos rfl
theorem iU_iU {α : Type} (f : Nat → α) (k : Nat) (x y : α) : iU (iU f k x) k y = iU f k y := by
  funext t
  unfold iU
  by_cases c : t = k
  · rw [if_pos c, if_pos c]
  · rw [if_neg c, if_neg c, if_neg c]
theorem iU_id {α : Type} (f : Nat → α) (k : Nat) : iU f k (f k) = f := by
  funext t
  unfold iU
  split
  · next c => rw [c]
  · rfl
