/-! how many bits are set: the count itself -/
def t1 (b : Nat) : Nat := b - ((b / 2) &&& 85)
def t2 (c : Nat) : Nat := (c &&& 51) + ((c / 4) &&& 51)
theorem byte5 : ∀ b, b < 256 → t1 b < 256 ∧ t2 (t1 b) ≤ 68 ∧ t2 (t1 b) % 16 ≤ 4 ∧ pc8 b ≤ 8 ∧ pc8 b = ((t2 (t1 b) + t2 (t1 b) / 16) &&& 15) := by decide +kernel
theorem sw1_cat (k a b : Nat) (hb : b < 256) : sw1 (k + 1) (256 * a + b) = 256 * sw1 k a + t1 b := by
  unfold sw1 t1
  have h1 : (256 * a + b) / 2 = 256 * (a / 2) + (128 * (a % 2) + b / 2) := by omega
  have h2 : msk 85 (k + 1) = 256 * msk 85 k + 85 := rfl
  rw [h1, h2, land_cat _ _ _ _ (by omega) (by omega), byte1 (a % 2) (by omega) b hb]
  have h3 : (a / 2) &&& msk 85 k ≤ a / 2 := Nat.and_le_left
  have h4 := byte4 b hb
  omega
theorem sw2_cat (k a b : Nat) (hb : b < 256) : sw2 (k + 1) (256 * a + b) = 256 * sw2 k a + t2 b := by
  unfold sw2 t2
  have h1 : (256 * a + b) / 4 = 256 * (a / 4) + (64 * (a % 4) + b / 4) := by omega
  have h2 : msk 51 (k + 1) = 256 * msk 51 k + 51 := rfl
  rw [h1, h2, land_cat _ _ _ _ (by omega) (by omega), land_cat _ _ _ _ (by omega) (by omega), byte2 (a % 4) (by omega) b hb]
  omega
theorem and15 (x : Nat) : x &&& 15 = x % 16 := Nat.and_two_pow_sub_one_eq_mod x 4
theorem sw3_cat (k a d : Nat) (hd : d ≤ 68) (ha : a % 16 ≤ 4) : sw3 (k + 1) (256 * a + d) = 256 * sw3 k a + ((d + d / 16) &&& 15) := by
  unfold sw3
  have h1 : 256 * a + d + (256 * a + d) / 16 = 256 * (a + a / 16) + (16 * (a % 16) + (d + d / 16)) := by omega
  have h2 : msk 15 (k + 1) = 256 * msk 15 k + 15 := rfl
  rw [h1, h2, land_cat _ _ _ _ (by omega) (by omega), and15, and15]
  omega
theorem sw_nib (k n : Nat) : sw2 k (sw1 k n) % 16 ≤ 4 := by
  cases k with
  | zero =>
    have : sw2 0 (sw1 0 n) = 0 := by
      unfold sw2
      rw [show msk 51 0 = 0 from rfl, Nat.and_zero, Nat.and_zero]
    omega
  | succ k =>
    have h1 : n = 256 * (n / 256) + n % 256 := by omega
    have h2 := byte5 (n % 256) (by omega)
    rw [h1, sw1_cat k _ _ (by omega), sw2_cat k _ _ h2.1]
    omega
theorem sw_all : ∀ (k n : Nat), n < 256 ^ k → sw3 k (sw2 k (sw1 k n)) = pcs k n := by
  intro k
  induction k with
  | zero =>
    intro n _
    unfold sw3
    rw [show msk 15 0 = 0 from rfl, Nat.and_zero]
    rfl
  | succ k ih =>
    intro n hn
    have h1 : n = 256 * (n / 256) + n % 256 := by omega
    have h2 := byte5 (n % 256) (by omega)
    have h3 : n / 256 < 256 ^ k := by
      rw [Nat.pow_succ] at hn
      omega
    show _ = 256 * pcs k (n / 256) + pc8 (n % 256)
    rw [← ih _ h3, h2.2.2.2.2]
    conv => lhs; rw [h1]
    rw [sw1_cat k _ _ (by omega), sw2_cat k _ _ h2.1, sw3_cat k _ _ h2.2.1 (sw_nib k _)]
/-- the number of bits of a byte string -/
def pcB : Nat → Nat → Nat
  | 0, _ => 0
  | k + 1, n => pc8 (n % 256) + pcB k (n / 256)
theorem l4112 {a b c d : Nat} (h1 : a ≤ 8) (h2 : b ≤ 8) (h3 : c ≤ 8) (h4 : d ≤ 8) : 256 * (a + b) + (c + d) ≤ 4112 := by omega
theorem d2064 {a b : Nat} (h1 : a ≤ 8) (h2 : b ≤ 8) : 256 * a + b + a ≤ 2064 := by omega
theorem pop_mod {c0 c1 c2 c3 c4 c5 c6 c7 C D l1 l2 l3 v4 : Nat} (h0 : c0 ≤ 8) (h1 : c1 ≤ 8) (h2 : c2 ≤ 8) (h3 : c3 ≤ 8) (h4 : c4 ≤ 8) (h5 : c5 ≤ 8) (h6 : c6 ≤ 8) (h7 : c7 ≤ 8) (hl1 : l1 = 256 * (c1 + c2) + (c0 + c1)) (hl2 : l2 = 256 * (c3 + c4) + (c2 + c3)) (hl3 : l3 = 256 * (c5 + c6) + (c4 + c5)) (hD : D = 256 * c7 + c6 + c7) (hC : C = 65536 * D + l3) (e4 : v4 = 4294967296 * (C + D) + (65536 * (l2 + l3) + l1 + l2)) (d5 : v4 / 4294967296 = C + D) :
    (v4 + v4 / 4294967296) % 128 = c0 + c1 + c2 + c3 + c4 + c5 + c6 + c7 := by
  rw [d5, e4]
  have q1 : C + D = 128 * (512 * D + 2 * (c5 + c6) + 2 * c7) + (c4 + c5 + c6 + c7) := by clear e4 d5; omega
  have q2 : 65536 * (l2 + l3) + l1 + l2 = 128 * (512 * (l2 + l3) + 2 * (c1 + c2) + 2 * (c3 + c4)) + (c0 + c1 + c2 + c3) := by clear e4 d5 hC q1; omega
  have q3 : 4294967296 * (C + D) + (65536 * (l2 + l3) + l1 + l2) + (C + D) = 128 * (33554432 * (C + D) + (512 * (l2 + l3) + 2 * (c1 + c2) + 2 * (c3 + c4)) + (512 * D + 2 * (c5 + c6) + 2 * c7)) + (c0 + c1 + c2 + c3 + c4 + c5 + c6 + c7) := by clear e4 d5 hC hl1 hl2 hl3 hD; omega
  rw [q3, Nat.mul_add_mod]
  exact Nat.mod_eq_of_lt (by clear q1 q2 q3 e4 d5 hC hl1 hl2 hl3 hD; omega)
theorem pop_lin {c0 c1 c2 c3 c4 c5 c6 c7 A1 A2 A3 A4 A5 A6 v2 v3 v4 : Nat} (h0 : c0 ≤ 8) (h1 : c1 ≤ 8) (h2 : c2 ≤ 8) (h3 : c3 ≤ 8) (h4 : c4 ≤ 8) (h5 : c5 ≤ 8) (h6 : c6 ≤ 8) (h7 : c7 ≤ 8)
    (a1 : A1 = 256 * A2 + c1) (a2 : A2 = 256 * A3 + c2) (a3 : A3 = 256 * A4 + c3) (a4 : A4 = 256 * A5 + c4) (a5 : A5 = 256 * A6 + c5) (a6 : A6 = 256 * c7 + c6) (hv : v2 = 256 * A1 + c0) (hw : v2 + v2 / 256 = v3) (hu : v3 + v3 / 65536 = v4) :
    (v4 + v4 / 4294967296) % 128 = c0 + c1 + c2 + c3 + c4 + c5 + c6 + c7 ∧ v3 < 2 ^ 63 ∧ v4 < 2 ^ 63 ∧ v2 < 2 ^ 63 := by
  have d1 : v2 / 256 = A1 := by rw [hv, Nat.mul_add_div (by decide), Nat.div_eq_of_lt (by omega)]; rfl
  obtain ⟨B, hB⟩ : ∃ B, B = A2 + A3 := ⟨_, rfl⟩
  obtain ⟨C, hC⟩ : ∃ C, C = A4 + A5 := ⟨_, rfl⟩
  obtain ⟨D, hD⟩ : ∃ D, D = A6 + c7 := ⟨_, rfl⟩
  obtain ⟨l1, hl1⟩ : ∃ l, l = 256 * (c1 + c2) + (c0 + c1) := ⟨_, rfl⟩
  obtain ⟨l2, hl2⟩ : ∃ l, l = 256 * (c3 + c4) + (c2 + c3) := ⟨_, rfl⟩
  obtain ⟨l3, hl3⟩ : ∃ l, l = 256 * (c5 + c6) + (c4 + c5) := ⟨_, rfl⟩
  have e3 : v3 = 65536 * B + l1 := by rw [d1] at hw; omega
  have d3 : v3 / 65536 = B := by rw [e3, Nat.mul_add_div (by decide), Nat.div_eq_of_lt (by omega)]; rfl
  have eB : B = 65536 * C + l2 := by omega
  have eC : C = 65536 * D + l3 := by omega
  have e4 : v4 = 4294967296 * (C + D) + (65536 * (l2 + l3) + l1 + l2) := by rw [d3] at hu; clear d1 d3; omega
  have d5 : v4 / 4294967296 = C + D := by rw [e4, Nat.mul_add_div (by decide), Nat.div_eq_of_lt (by clear e4 e3 hu hw hv d1 d3; omega)]; rfl
  have l1b : l1 ≤ 4112 := by rw [hl1]; exact l4112 h1 h2 h0 h1
  have l2b : l2 ≤ 4112 := by rw [hl2]; exact l4112 h3 h4 h2 h3
  have l3b : l3 ≤ 4112 := by rw [hl3]; exact l4112 h5 h6 h4 h5
  have Db : D ≤ 2064 := by rw [hD, a6]; exact d2064 h7 h6
  have Cb : C ≤ 65536 * 2064 + 4112 := by rw [eC]; exact Nat.add_le_add (Nat.mul_le_mul_left _ Db) l3b
  have Bb : B ≤ 65536 * (65536 * 2064 + 4112) + 4112 := by rw [eB]; exact Nat.add_le_add (Nat.mul_le_mul_left _ Cb) l2b
  have v3b : v3 ≤ 65536 * (65536 * (65536 * 2064 + 4112) + 4112) + 4112 := by rw [e3]; exact Nat.add_le_add (Nat.mul_le_mul_left _ Bb) l1b
  refine ⟨?_, Nat.lt_of_le_of_lt v3b (by decide), ?_, Nat.lt_of_le_of_lt (show v2 ≤ v3 by rw [← hw]; exact Nat.le_add_right _ _) (Nat.lt_of_le_of_lt v3b (by decide))⟩
  · exact pop_mod h0 h1 h2 h3 h4 h5 h6 h7 (hl1 := hl1) (hl2 := hl2) (hl3 := hl3) (by rw [hD, a6]) eC e4 d5
  · rw [← hu, d3]
    exact Nat.lt_of_le_of_lt (Nat.add_le_add v3b Bb) (by decide)
theorem pop_fin (n v3 v4 : Nat) (hw : pcs 8 n + pcs 8 n / 256 = v3) (hu : v3 + v3 / 65536 = v4) : (v4 + v4 / 4294967296) % 128 = pcB 8 n ∧ v3 < 2 ^ 63 ∧ v4 < 2 ^ 63 ∧ pcs 8 n < 2 ^ 63 := by
  have hb : ∀ z, pc8 (z % 256) ≤ 8 := fun z => (byte5 (z % 256) (Nat.mod_lt _ (by decide))).2.2.2.1
  have h := pop_lin (hb n) (hb (n / 256)) (hb (n / 256 / 256)) (hb (n / 256 / 256 / 256)) (hb (n / 256 / 256 / 256 / 256)) (hb (n / 256 / 256 / 256 / 256 / 256)) (hb (n / 256 / 256 / 256 / 256 / 256 / 256)) (hb (n / 256 / 256 / 256 / 256 / 256 / 256 / 256)) (A1 := pcs 7 (n / 256)) (A2 := pcs 6 (n / 256 / 256)) (A3 := pcs 5 (n / 256 / 256 / 256)) (A4 := pcs 4 (n / 256 / 256 / 256 / 256)) (A5 := pcs 3 (n / 256 / 256 / 256 / 256 / 256)) (A6 := pcs 2 (n / 256 / 256 / 256 / 256 / 256 / 256)) rfl rfl rfl rfl rfl (by show 256 * (256 * 0 + pc8 _) + pc8 _ = _; rw [Nat.mul_zero, Nat.zero_add]) (v2 := pcs 8 n) rfl hw hu
  refine ⟨h.1.trans ?_, h.2⟩
  show _ = pc8 _ + (pc8 _ + (pc8 _ + (pc8 _ + (pc8 _ + (pc8 _ + (pc8 _ + (pc8 _ + 0)))))))
  rw [Nat.add_zero]
  simp only [Nat.add_assoc]
theorem shr_k {k : Nat} (hk : k < 64) (x : Int64) : ((Int64.toUInt64 x >>> (Int64.toUInt64 (Int32.toInt64 (iI (k : Int))) &&& Int64.toUInt64 63)).toInt64).toBitVec.toNat = x.toBitVec.toNat / 2 ^ k := by
  have h1 : ((Int64.toUInt64 x >>> (Int64.toUInt64 (Int32.toInt64 (iI (k : Int))) &&& Int64.toUInt64 63)).toInt64).toBitVec = x.toBitVec >>> k := by
    show (Int64.toUInt64 x >>> (Int64.toUInt64 (Int32.toInt64 (iI (k : Int))) &&& Int64.toUInt64 63)).toBitVec = _
    rw [UInt64.toBitVec_shiftRight]
    have h2 : ((Int64.toUInt64 (Int32.toInt64 (iI (k : Int))) &&& Int64.toUInt64 63).toBitVec % 64) = BitVec.ofNat 64 k := by
      revert k
      decide +kernel
    rw [h2]
    show x.toBitVec >>> (BitVec.ofNat 64 k).toNat = _
    rw [BitVec.toNat_ofNat, Nat.mod_eq_of_lt (by omega)]
  rw [h1, BitVec.toNat_ushiftRight, Nat.shiftRight_eq_div_pow]
theorem fin7 (v : Int64) : (iI (Int64.toInt32 v).toInt &&& iI 127).toInt = ((v.toBitVec.toNat % 128 : Nat) : Int) := by
  have h0 : iI (Int64.toInt32 v).toInt = Int64.toInt32 v := Int32.ofInt_toInt _
  rw [h0, show iI 127 = (127 : Int32) from rfl]
  have h1 : (Int64.toInt32 v &&& 127).toBitVec.toNat = (Int64.toInt32 v).toBitVec.toNat &&& 127 := by
    rw [show (Int64.toInt32 v &&& 127).toBitVec = (Int64.toInt32 v).toBitVec &&& 127#32 from rfl, BitVec.toNat_and]
    rfl
  have h2 : (Int64.toInt32 v).toBitVec.toNat &&& 127 = (Int64.toInt32 v).toBitVec.toNat % 128 := Nat.and_two_pow_sub_one_eq_mod _ 7
  have h3 : (Int64.toInt32 v).toBitVec.toNat = v.toBitVec.toNat % 2 ^ 32 := by
    show (v.toBitVec.signExtend 32).toNat = _
    rw [BitVec.signExtend_eq_setWidth_of_le _ (by omega), BitVec.toNat_setWidth]
  have h4 : (Int64.toInt32 v &&& 127).toInt = (Int64.toInt32 v &&& 127).toBitVec.toInt := rfl
  rw [h4, BitVec.toInt_eq_toNat_of_lt (by omega), h1, h2, h3]
  congr 1
  omega
theorem tn_sub {x y : Int64} (h : y.toBitVec.toNat ≤ x.toBitVec.toNat) : (x - y).toBitVec.toNat = x.toBitVec.toNat - y.toBitVec.toNat := by
  rw [show (x - y).toBitVec = x.toBitVec - y.toBitVec from rfl]
  exact BitVec.toNat_sub_of_le (BitVec.le_def.mpr h)
theorem tn_add {x y : Int64} (h : x.toBitVec.toNat + y.toBitVec.toNat < 2 ^ 64) : (x + y).toBitVec.toNat = x.toBitVec.toNat + y.toBitVec.toNat := by
  rw [show (x + y).toBitVec = x.toBitVec + y.toBitVec from rfl, BitVec.toNat_add]
  exact Nat.mod_eq_of_lt h
theorem tn_and {x y : Int64} : (x &&& y).toBitVec.toNat = x.toBitVec.toNat &&& y.toBitVec.toNat := by
  rw [show (x &&& y).toBitVec = x.toBitVec &&& y.toBitVec from rfl, BitVec.toNat_and]
theorem e_bitCount {F : Nat} (x : Int64) : f_Long_bitCount F x = some ((pcB 8 x.toBitVec.toNat : Nat) : Int) := by
  have hx : x.toBitVec.toNat < 256 ^ 8 := x.toBitVec.isLt
  unfold f_Long_bitCount bd
  have s1 := shr_k (k := 1) (by omega) x
  rw [show ((1 : Nat) : Int) = 1 from rfl] at s1
  have m1 : (6148914691236517205 : Int64).toBitVec.toNat = msk 85 8 := by decide +kernel
  have m2 : (3689348814741910323 : Int64).toBitVec.toNat = msk 51 8 := by decide +kernel
  have m3 : (1085102592571150095 : Int64).toBitVec.toNat = msk 15 8 := by decide +kernel
  have k2 : msk 51 8 = 3689348814741910323 := by decide +kernel
  generalize hv0 : x - (((Int64.toUInt64 x >>> (Int64.toUInt64 (Int32.toInt64 (iI 1)) &&& Int64.toUInt64 63)).toInt64) &&& 6148914691236517205) = v0
  have a0 : v0.toBitVec.toNat = sw1 8 x.toBitVec.toNat := by
    have h1 : (((Int64.toUInt64 x >>> (Int64.toUInt64 (Int32.toInt64 (iI 1)) &&& Int64.toUInt64 63)).toInt64) &&& 6148914691236517205).toBitVec.toNat = (x.toBitVec.toNat / 2) &&& msk 85 8 := by rw [tn_and, s1, m1]
    have h2 : (x.toBitVec.toNat / 2) &&& msk 85 8 ≤ x.toBitVec.toNat / 2 := Nat.and_le_left
    rw [← hv0, tn_sub (by rw [h1]; omega), h1]
    rfl
  have s2 := shr_k (k := 2) (by omega) v0
  rw [show ((2 : Nat) : Int) = 2 from rfl] at s2
  generalize hv1 : (v0 &&& 3689348814741910323) + (((Int64.toUInt64 v0 >>> (Int64.toUInt64 (Int32.toInt64 (iI 2)) &&& Int64.toUInt64 63)).toInt64) &&& 3689348814741910323) = v1
  have b1 : (v0.toBitVec.toNat &&& msk 51 8) ≤ msk 51 8 := Nat.and_le_right
  have b2 : (v0.toBitVec.toNat / 2 ^ 2 &&& msk 51 8) ≤ msk 51 8 := Nat.and_le_right
  have a1 : v1.toBitVec.toNat = sw2 8 (sw1 8 x.toBitVec.toNat) := by
    rw [← hv1, tn_add (by rw [tn_and, tn_and, s2, m2]; omega), tn_and, tn_and, s2, m2, a0]
    rfl
  have b3 : v1.toBitVec.toNat ≤ 2 * msk 51 8 := by
    rw [← hv1, tn_add (by rw [tn_and, tn_and, s2, m2]; omega), tn_and, tn_and, s2, m2]
    omega
  have s3 := shr_k (k := 4) (by omega) v1
  rw [show ((4 : Nat) : Int) = 4 from rfl] at s3
  generalize hv2 : (v1 + ((Int64.toUInt64 v1 >>> (Int64.toUInt64 (Int32.toInt64 (iI 4)) &&& Int64.toUInt64 63)).toInt64)) &&& 1085102592571150095 = v2
  have a2 : v2.toBitVec.toNat = pcs 8 x.toBitVec.toNat := by
    rw [← hv2, tn_and, m3, tn_add (by rw [s3]; omega), s3, a1, ← sw_all 8 _ hx]
    rfl
  obtain ⟨p1, p3, p4, p5⟩ := pop_fin x.toBitVec.toNat _ _ rfl rfl
  have s4 := shr_k (k := 8) (by omega) v2
  rw [show ((8 : Nat) : Int) = 8 from rfl] at s4
  generalize hv3 : v2 + ((Int64.toUInt64 v2 >>> (Int64.toUInt64 (Int32.toInt64 (iI 8)) &&& Int64.toUInt64 63)).toInt64) = v3
  have a3 : v3.toBitVec.toNat = pcs 8 x.toBitVec.toNat + pcs 8 x.toBitVec.toNat / 256 := by
    rw [← hv3, tn_add (by rw [s4, a2]; omega), s4, a2]
  have s5 := shr_k (k := 16) (by omega) v3
  rw [show ((16 : Nat) : Int) = 16 from rfl] at s5
  generalize hv4 : v3 + ((Int64.toUInt64 v3 >>> (Int64.toUInt64 (Int32.toInt64 (iI 16)) &&& Int64.toUInt64 63)).toInt64) = v4
  have a4 : v4.toBitVec.toNat = v3.toBitVec.toNat + v3.toBitVec.toNat / 65536 := by
    rw [← hv4, tn_add (by rw [s5, a3]; omega), s5]
  have s6 := shr_k (k := 32) (by omega) v4
  rw [show ((32 : Nat) : Int) = 32 from rfl] at s6
  generalize hv5 : v4 + ((Int64.toUInt64 v4 >>> (Int64.toUInt64 (Int32.toInt64 (iI 32)) &&& Int64.toUInt64 63)).toInt64) = v5
  have a5 : v5.toBitVec.toNat = v4.toBitVec.toNat + v4.toBitVec.toNat / 4294967296 := by
    rw [← hv5, tn_add (by rw [s6, a4, a3]; omega), s6]
  subst hv5 hv4 hv3 hv2 hv1
  show some ((iI (Int64.toInt32 _).toInt &&& iI 127).toInt) = _
  rw [fin7, a5, a4, a3, p1]
