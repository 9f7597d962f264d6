/-! bits of a long -/
def bit (x : Int64) (m : Int) : Prop := x.toBitVec.getLsbD m.toNat = true
theorem bit_0 (m : Int) : ¬ bit 0 m := by
  unfold bit
  rw [show (0 : Int64).toBitVec = 0#64 from rfl, BitVec.getLsbD_zero]
  exact Bool.false_ne_true
theorem bit_or (x y : Int64) (m : Int) : bit (x ||| y) m ↔ bit x m ∨ bit y m := by
  unfold bit
  rw [show (x ||| y).toBitVec = x.toBitVec ||| y.toBitVec from rfl, BitVec.getLsbD_or, Bool.or_eq_true]
theorem lc_0 (x y : Int64) : lc x y = 0 ↔ x = y := by
  unfold lc
  by_cases h : x > y
  · rw [if_pos h]
    constructor
    · intro q; omega
    · intro q; rw [q] at h; exact absurd h Int64.lt_irrefl
  · rw [if_neg h]
    by_cases e : x = y
    · rw [if_pos e]; exact ⟨fun _ => e, fun _ => rfl⟩
    · rw [if_neg e]
      constructor
      · intro q; omega
      · intro q; exact absurd q e
theorem lc_r (x y : Int64) : -2147483648 ≤ lc x y ∧ lc x y ≤ 2147483647 := by
  unfold lc
  by_cases h : x > y
  · rw [if_pos h]; omega
  · rw [if_neg h]
    by_cases e : x = y
    · rw [if_pos e]; omega
    · rw [if_neg e]; omega
theorem sh63 : ∀ k : Nat, k < 64 → (Int32.toInt64 (iI (k : Int)) &&& 63).toBitVec = BitVec.ofNat 64 k := by decide +kernel
theorem bit_1 {k : Nat} (hk : k < 64) (m : Int) (hm : 0 ≤ m) : bit ((1 : Int64) <<< (Int32.toInt64 (iI (k : Int)) &&& 63)) m ↔ m = k := by
  unfold bit
  have h1 : ((1 : Int64) <<< (Int32.toInt64 (iI (k : Int)) &&& 63)).toBitVec = (1#64) <<< k := by
    rw [Int64.toBitVec_shiftLeft, sh63 k hk]
    have : (BitVec.ofNat 64 k).smod 64 = BitVec.ofNat 64 k := by
      revert k
      decide +kernel
    rw [this]
    show (1#64) <<< (BitVec.ofNat 64 k).toNat = _
    rw [BitVec.toNat_ofNat, Nat.mod_eq_of_lt (by omega)]
  rw [h1, BitVec.getLsbD_shiftLeft]
  by_cases e : m = k
  · rw [e]
    simp [hk]
  · simp only [BitVec.getLsbD_one]
    constructor
    · intro q
      simp at q
      omega
    · intro q; exact absurd q e
theorem bit_has {k : Nat} (hk : k < 64) (x : Int64) : (x >>> (Int32.toInt64 (iI (k : Int)) &&& 63)) &&& 1 = 0 ↔ ¬ bit x k := by
  unfold bit
  have h1 : (x >>> (Int32.toInt64 (iI (k : Int)) &&& 63)).toBitVec = x.toBitVec.sshiftRight k := by
    rw [Int64.toBitVec_shiftRight, sh63 k hk]
    have : (BitVec.ofNat 64 k).smod 64 = BitVec.ofNat 64 k := by
      revert k
      decide +kernel
    rw [this]
    show x.toBitVec.sshiftRight (BitVec.ofNat 64 k).toNat = _
    rw [BitVec.toNat_ofNat, Nat.mod_eq_of_lt (by omega)]
  have h2 : (x >>> (Int32.toInt64 (iI (k : Int)) &&& 63)) &&& 1 = 0 ↔ (x.toBitVec.sshiftRight k &&& 1#64) = 0#64 := by
    rw [← Int64.toBitVec_inj, show ((x >>> (Int32.toInt64 (iI (k : Int)) &&& 63)) &&& 1).toBitVec = (x >>> (Int32.toInt64 (iI (k : Int)) &&& 63)).toBitVec &&& 1#64 from rfl, h1]
    exact Iff.rfl
  rw [h2]
  have h3 : (x.toBitVec.sshiftRight k).getLsbD 0 = x.toBitVec.getLsbD k := by
    rw [BitVec.getLsbD_sshiftRight]
    simp [hk]
  rw [show ((k : Int).toNat) = k from rfl, ← h3]
  constructor
  · intro q r
    have h4 : (x.toBitVec.sshiftRight k &&& 1#64).getLsbD 0 = (0#64).getLsbD 0 := by rw [q]
    rw [BitVec.getLsbD_and, r, BitVec.getLsbD_one, BitVec.getLsbD_zero] at h4
    simp at h4
  · intro q
    apply BitVec.eq_of_getLsbD_eq
    intro i hi
    rw [BitVec.getLsbD_and, BitVec.getLsbD_one]
    by_cases e : i = 0
    · subst e; simp at q; simp [q]
    · simp [e]
theorem e_has {F : Nat} {x : Int64} {m : Int} (hm : 0 ≤ m ∧ m < 64) : f_GateOrder_has F x m = some (bz (¬ (x >>> (Int32.toInt64 (iI m) &&& 63)) &&& 1 = 0)) := by
  apply ok_eq
  unfold f_GateOrder_has
  have h1 := lc_0 ((x >>> (Int32.toInt64 (iI m) &&& 63)) &&& 1) 0
  have h2 := lc_r ((x >>> (Int32.toInt64 (iI m) &&& 63)) &&& 1) 0
  refine ok_gr h2 (ok_if (fun q => ?_) (fun q => ?_))
  · refine ok_gb (Or.inl rfl) (ok_some.mpr ?_)
    unfold bz
    rw [if_neg (fun r => r (h1.mp q))]
  · refine ok_gb (Or.inr rfl) (ok_some.mpr ?_)
    unfold bz
    rw [if_pos (fun r => q (h1.mpr r))]
theorem has_bit {x : Int64} {m : Int} (hm : 0 ≤ m ∧ m < 64) : (¬ (x >>> (Int32.toInt64 (iI m) &&& 63)) &&& 1 = 0) ↔ bit x m := by
  have := bit_has (k := m.toNat) (by omega) x
  rw [show ((m.toNat : Nat) : Int) = m by omega] at this
  rw [this]
  exact ⟨fun h => Classical.not_not.mp h, fun h q => q h⟩
