/-! how many bits are set: the JDK's way of counting, byte by byte -/
theorem land_cat (a b r t : Nat) (hr : r < 256) (ht : t < 256) : (256 * a + r) &&& (256 * b + t) = 256 * (a &&& b) + (r &&& t) := by
  apply Nat.eq_of_testBit_eq
  intro i
  have h1 := Nat.testBit_two_pow_mul_add a (i := 8) (b := r) hr i
  have h2 := Nat.testBit_two_pow_mul_add b (i := 8) (b := t) ht i
  have h3 := Nat.testBit_two_pow_mul_add (a &&& b) (i := 8) (b := r &&& t) (Nat.lt_of_le_of_lt Nat.and_le_left hr) i
  rw [Nat.testBit_and]
  show ((2 ^ 8 * a + r).testBit i && (2 ^ 8 * b + t).testBit i) = (2 ^ 8 * (a &&& b) + (r &&& t)).testBit i
  rw [h1, h2, h3]
  by_cases h : i < 8
  · rw [if_pos h, if_pos h, if_pos h, Nat.testBit_and]
  · rw [if_neg h, if_neg h, if_neg h, Nat.testBit_and]
/-- a mask that is the same in k bytes -/
def msk (c : Nat) : Nat → Nat
  | 0 => 0
  | k + 1 => 256 * msk c k + c
/-- a byte's bits, all bytes' bits -/
def pc8 (b : Nat) : Nat := b % 2 + b / 2 % 2 + b / 4 % 2 + b / 8 % 2 + b / 16 % 2 + b / 32 % 2 + b / 64 % 2 + b / 128 % 2
/-- each byte's number of bits, in its place -/
def pcs : Nat → Nat → Nat
  | 0, _ => 0
  | k + 1, n => 256 * pcs k (n / 256) + pc8 (n % 256)
def sw1 (k n : Nat) : Nat := n - ((n / 2) &&& msk 85 k)
def sw2 (k n : Nat) : Nat := (n &&& msk 51 k) + ((n / 4) &&& msk 51 k)
def sw3 (k n : Nat) : Nat := (n + n / 16) &&& msk 15 k
theorem byte1 : ∀ t, t < 2 → ∀ b, b < 256 → (128 * t + b / 2) &&& 85 = (b / 2) &&& 85 := by decide +kernel
theorem byte2 : ∀ t, t < 4 → ∀ b, b < 256 → (64 * t + b / 4) &&& 51 = (b / 4) &&& 51 := by decide +kernel
theorem byte3 : ∀ b, b < 256 → pc8 b = (let c := b - ((b / 2) &&& 85); let d := (c &&& 51) + ((c / 4) &&& 51); (d + d / 16) &&& 15) := by decide +kernel
theorem byte4 : ∀ b, b < 256 → ((b / 2) &&& 85) ≤ b := by decide +kernel
