/-! the class's order: by how many gates lead to each -/
theorem ct_add (T : Int → Int) (a : Nat) : ∀ b : Nat, ct T (a + b) = ct T a + ct (fun m => T (m + a)) b := by
  intro b
  induction b with
  | zero => rfl
  | succ b ih =>
    show ct T (a + b) + (if T ((a + b : Nat) : Int) = 1 then 1 else 0) = ct T a + (ct (fun m => T (m + a)) b + (if T ((b : Int) + a) = 1 then 1 else 0))
    rw [ih, show ((a + b : Nat) : Int) = (b : Int) + a by omega]
    omega
def tb (n : Nat) : Int → Int := fun m => if n.testBit m.toNat then 1 else 0
theorem tb_1 (n : Nat) (m : Int) : tb n m = 1 ↔ n.testBit m.toNat = true := by
  unfold tb
  by_cases h : n.testBit m.toNat = true
  · rw [if_pos h]; exact ⟨fun _ => h, fun _ => rfl⟩
  · rw [if_neg h]; exact ⟨fun q => by omega, fun q => absurd q h⟩
theorem tb_d (n i : Nat) : (if tb n (i : Int) = 1 then 1 else 0) = n / 2 ^ i % 2 := by
  have h1 := tb_1 n (i : Int)
  rw [show ((i : Int)).toNat = i from rfl, Nat.testBit_eq_decide_div_mod_eq, decide_eq_true_iff] at h1
  by_cases h : tb n (i : Int) = 1
  · rw [if_pos h, h1.mp h]
  · rw [if_neg h]
    have := fun q => h (h1.mpr q)
    omega
theorem pcB_ct : ∀ (k n : Nat), ct (tb n) (8 * k) = pcB k n := by
  intro k
  induction k with
  | zero => intro n; rfl
  | succ k ih =>
    intro n
    rw [show 8 * (k + 1) = 8 + 8 * k by omega, ct_add]
    show _ = pc8 (n % 256) + pcB k (n / 256)
    rw [← ih (n / 256)]
    have h1 : ct (fun m => tb n (m + (8 : Nat))) (8 * k) = ct (tb (n / 256)) (8 * k) := by
      refine ct_same _ (fun m a _ => ?_)
      show (if n.testBit (m + (8 : Nat)).toNat then (1 : Int) else 0) = (if (n / 256).testBit m.toNat then 1 else 0)
      have : (n / 2 ^ 8).testBit m.toNat = n.testBit (m.toNat + 8) := Nat.testBit_div_two_pow _ _
      rw [show (2 : Nat) ^ 8 = 256 from rfl] at this
      rw [this, show (m + (8 : Nat)).toNat = m.toNat + 8 by omega]
    rw [h1]
    congr 1
    show 0 + (if tb n ((0 : Nat) : Int) = 1 then 1 else 0) + (if tb n ((1 : Nat) : Int) = 1 then 1 else 0) + (if tb n ((2 : Nat) : Int) = 1 then 1 else 0) + (if tb n ((3 : Nat) : Int) = 1 then 1 else 0) + (if tb n ((4 : Nat) : Int) = 1 then 1 else 0) + (if tb n ((5 : Nat) : Int) = 1 then 1 else 0) + (if tb n ((6 : Nat) : Int) = 1 then 1 else 0) + (if tb n ((7 : Nat) : Int) = 1 then 1 else 0) = _
    rw [tb_d, tb_d, tb_d, tb_d, tb_d, tb_d, tb_d, tb_d]
    unfold pc8
    have e0 : n / 2 ^ 0 % 2 = n % 256 % 2 := by rw [show (2 : Nat) ^ 0 = 1 from rfl]; omega
    have e1 : n / 2 ^ 1 % 2 = n % 256 / 2 % 2 := by rw [show (2 : Nat) ^ 1 = 2 from rfl]; omega
    have e2 : n / 2 ^ 2 % 2 = n % 256 / 4 % 2 := by rw [show (2 : Nat) ^ 2 = 4 from rfl]; omega
    have e3 : n / 2 ^ 3 % 2 = n % 256 / 8 % 2 := by rw [show (2 : Nat) ^ 3 = 8 from rfl]; omega
    have e4 : n / 2 ^ 4 % 2 = n % 256 / 16 % 2 := by rw [show (2 : Nat) ^ 4 = 16 from rfl]; omega
    have e5 : n / 2 ^ 5 % 2 = n % 256 / 32 % 2 := by rw [show (2 : Nat) ^ 5 = 32 from rfl]; omega
    have e6 : n / 2 ^ 6 % 2 = n % 256 / 64 % 2 := by rw [show (2 : Nat) ^ 6 = 64 from rfl]; omega
    have e7 : n / 2 ^ 7 % 2 = n % 256 / 128 % 2 := by rw [show (2 : Nat) ^ 7 = 128 from rfl]; omega
    rw [e0, e1, e2, e3, e4, e5, e6, e7, Nat.zero_add]
def rnk (O : Int → Int64) (n : Int) : Nat := pcB 8 (O n).toBitVec.toNat
theorem rnk_ct (O : Int → Int64) (n : Int) : rnk O n = ct (tb (O n).toBitVec.toNat) 64 := (pcB_ct 8 _).symm
theorem bit_tb (x : Int64) (m : Int) : bit x m ↔ tb x.toBitVec.toNat m = 1 := by
  rw [tb_1]
  exact Iff.rfl
section CST
variable {F : Nat} {kd pn so se : Int → Int} {size : Int} {O : Int → Int64}
theorem rnk_lt (hkd : ∀ i, kd i ≠ 0 → 0 < i ∧ i < size) (hz : size ≤ 48) (hac : ∀ n, ¬ wl (Eg kd pn so) size.toNat n n) (hO : ∀ n, 0 ≤ n → n < size → ∀ m, 0 ≤ m → (bit (O n) m ↔ wl (Eg kd pn so) size.toNat n m)) {n m : Int} (h : Eg kd pn so n m) : rnk O m < rnk O n := by
  have hin := Eg_in (kd := kd) (pn := pn) (so := so) hkd
  have a := hin n m h
  rw [rnk_ct, rnk_ct]
  refine ct_lt 64 (fun k k1 k2 q => ?_) ⟨m, by omega, ?_, fun q => ?_⟩
  · have q1 := (hO m (by omega) (by omega) k k1).mp ((bit_tb _ _).mpr q)
    exact (bit_tb _ _).mp ((hO n (by omega) (by omega) k k1).mpr (wl_trans hin (wl_up _ _ _ _ h) q1))
  · exact (bit_tb _ _).mp ((hO n (by omega) (by omega) m (by omega)).mpr (wl_up _ _ _ _ h))
  · exact hac m ((hO m (by omega) (by omega) m (by omega)).mp ((bit_tb _ _).mpr q))
theorem ct48 : ct (fun m => if m < 48 then 1 else 0) 64 = 48 := by decide +kernel
theorem rnk_48 (hkd : ∀ i, kd i ≠ 0 → 0 < i ∧ i < size) (hz : size ≤ 48) (hac : ∀ n, ¬ wl (Eg kd pn so) size.toNat n n) (hO : ∀ n, 0 ≤ n → n < size → ∀ m, 0 ≤ m → (bit (O n) m ↔ wl (Eg kd pn so) size.toNat n m)) {n : Int} (h : 0 ≤ n ∧ n < size) : rnk O n < 48 := by
  have hin := Eg_in (kd := kd) (pn := pn) (so := so) hkd
  rw [rnk_ct, ← ct48]
  refine ct_lt 64 (fun k k1 k2 q => ?_) ⟨n, by omega, if_pos (by omega), fun q => ?_⟩
  · have q1 := (hO n h.1 h.2 k k1).mp ((bit_tb _ _).mpr q)
    have q2 := (wl_in hin _ _ _ q1).2
    exact if_pos (by omega)
  · exact hac n ((hO n h.1 h.2 n h.1).mp ((bit_tb _ _).mpr q))
theorem s_Csort (hF : 200 ≤ F) (hz : 1 ≤ size ∧ size ≤ 48) (hk : ∀ i, 0 ≤ kd i ∧ kd i ≤ 4) (hkd : ∀ i, kd i ≠ 0 → 0 < i ∧ i < size) (hp : ∀ i, 0 ≤ pn i ∧ pn i ≤ 3)
    (hac : ∀ n, ¬ wl (Eg kd pn so) size.toNat n n) (hO : ∀ n, 0 ≤ n → n < size → ∀ m, 0 ≤ m → (bit (O n) m ↔ wl (Eg kd pn so) size.toNat n m)) {gt : Int → Int} :
    ok (f_GateOrder_sort F O gt size kd) (fun r => (0 ≤ r.2 ∧ r.2 ≤ 48) ∧ SI kd pn so se (lst r.1 r.2) ∧ ∀ n, kd n = 2 → n ∈ lst r.1 r.2) := by
  unfold f_GateOrder_sort
  refine lq3_ok (fun v G c => (0 ≤ v ∧ v ≤ 48) ∧ (0 ≤ c ∧ c ≤ 48) ∧ SI kd pn so se (lst G c) ∧ ∀ n, n ∈ lst G c ↔ kd n = 2 ∧ (rnk O n : Int) < v) (fun v _ _ => (48 - v).toNat) _ ?_ F 0 gt 0 ⟨by omega, by omega, ⟨trivial, fun m hm => absurd hm List.not_mem_nil⟩, fun n => ⟨fun q => absurd q List.not_mem_nil, fun q => by omega⟩⟩ (by show (48 - (0 : Int)).toNat < F; omega)
  rintro self v G c ⟨hv, hc, hSI, hm⟩ hs
  unfold f_GateOrder_sort_b7
  refine ok_gr ⟨by omega, by omega⟩ (ok_if (fun h => ?_) (fun h => ?_))
  · refine ok_some.mpr ⟨hc, hSI, fun n hn => (hm n).mpr ⟨hn, ?_⟩⟩
    have := hkd n (by omega)
    have := rnk_48 hkd hz.2 hac hO (n := n) (by omega)
    omega
  · refine lq3_ok (fun k G c => (0 ≤ k ∧ k ≤ size) ∧ (0 ≤ c ∧ c ≤ 48) ∧ SI kd pn so se (lst G c) ∧ ∀ n, n ∈ lst G c ↔ kd n = 2 ∧ ((rnk O n : Int) < v ∨ ((rnk O n : Int) = v ∧ n < k))) (fun k _ _ => (48 - k).toNat) _ ?_ F 0 G c ⟨by omega, hc, hSI, fun n => ?_⟩ (by show (48 - (0 : Int)).toNat < F; omega)
    · clear hc hSI hm G c
      rintro self2 k G c ⟨hk2, hc, hSI, hm⟩ hs2
      unfold f_GateOrder_sort_b15
      refine ok_gr ⟨by omega, by omega⟩ (ok_gr ⟨by omega, by omega⟩ (ok_if (fun h1 => ?_) (fun h1 => ?_)))
      · refine hs _ _ _ ⟨by omega, hc, hSI, fun n => ?_⟩ (by show (48 - (v + 1)).toNat < (48 - v).toNat; omega)
        rw [hm n]
        constructor
        · rintro ⟨q1, q2⟩; exact ⟨q1, by omega⟩
        · rintro ⟨q1, q2⟩
          have := hkd n (by omega)
          exact ⟨q1, by omega⟩
      · have hkk := hk k
        have hmeas : (48 - (k + 1)).toNat < (48 - k).toNat := by omega
        have hskip : ¬ (kd k = 2 ∧ (rnk O k : Int) = v) → ok (self2 (k + 1) G c) (fun r => (0 ≤ r.2 ∧ r.2 ≤ 48) ∧ SI kd pn so se (lst r.1 r.2) ∧ ∀ n, kd n = 2 → n ∈ lst r.1 r.2) := by
          intro hno
          refine hs2 _ _ _ ⟨by omega, hc, hSI, fun n => ?_⟩ hmeas
          rw [hm n]
          constructor
          · rintro ⟨q1, q2⟩; exact ⟨q1, by omega⟩
          · rintro ⟨q1, q2⟩
            refine ⟨q1, ?_⟩
            by_cases e : n = k
            · subst e; exact Or.inl (by omega)
            · omega
        refine ok_gi ⟨by omega, by omega⟩ (ok_gr ⟨by omega, by omega⟩ (ok_if (fun h2 => ?_) (fun h2 => hskip (fun q => h2 q.1))))
        refine ok_gi ⟨by omega, by omega⟩ ?_
        rw [e_bitCount, ob1_s]
        have hr := rnk_48 hkd hz.2 hac hO (n := k) (by omega)
        have hr2 : ((pcB 8 (O k).toBitVec.toNat : Nat) : Int) = (rnk O k : Int) := rfl
        rw [hr2]
        refine ok_gr ⟨by omega, by omega⟩ (ok_gr ⟨by omega, by omega⟩ (ok_if (fun h3 => ?_) (fun h3 => hskip (fun q => h3 q.2))))
        have hno : k ∉ lst G c := fun q => by have := (hm k).mp q; omega
        have hlen := SI_len1 hz.2 hkd hSI h2 hno
        rw [lst_len] at hlen
        have e1 := lst_succ (A := G) (n := c) (v := k) hc.1
        refine ok_gi ⟨by omega, by omega⟩ (ok_bd.mpr (hs2 _ _ _ ⟨by omega, by omega, ?_, fun n => ?_⟩ hmeas))
        · rw [e1]
          refine SI_add hkd hp hac hSI h2 hno (fun p a b q => (hm _).mpr ⟨q, Or.inl ?_⟩)
          have := rnk_lt hkd hz.2 hac hO (n := k) (m := so (3 * k + p)) ⟨h2, p, ⟨a, b⟩, rfl, q⟩
          omega
        · rw [e1, List.mem_append, List.mem_singleton, hm n]
          constructor
          · rintro (⟨q1, q2⟩ | q)
            · exact ⟨q1, by omega⟩
            · subst q; exact ⟨h2, by omega⟩
          · rintro ⟨q1, q2⟩
            by_cases e : n = k
            · exact Or.inr e
            · exact Or.inl ⟨q1, by omega⟩
    · rw [hm n]
      constructor
      · rintro ⟨q1, q2⟩; exact ⟨q1, by omega⟩
      · rintro ⟨q1, q2⟩
        have := hkd n (by omega)
        exact ⟨q1, by omega⟩
end CST
