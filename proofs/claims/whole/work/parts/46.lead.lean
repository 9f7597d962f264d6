/-! which gates lead to which: the class's way -/
theorem ex_succ {P : Int → Prop} {v : Int} (h0 : 0 ≤ v) : (∃ p, (0 ≤ p ∧ p < v + 1) ∧ P p) ↔ (∃ p, (0 ≤ p ∧ p < v) ∧ P p) ∨ P v := by
  constructor
  · rintro ⟨p, h1, h2⟩
    by_cases e : p = v
    · exact Or.inr (e ▸ h2)
    · exact Or.inl ⟨p, by omega, h2⟩
  · rintro (⟨p, h1, h2⟩ | h)
    · exact ⟨p, by omega, h2⟩
    · exact ⟨v, by omega, h⟩
/-- m is wired to the gate n, both gates -/
def Eg (kd pn so : Int → Int) (n m : Int) : Prop := kd n = 2 ∧ ∃ p, (0 ≤ p ∧ p < pn n) ∧ so (3 * n + p) = m ∧ kd m = 2
theorem s_wired {F : Nat} {kd pn so : Int → Int} {n : Int} (hF : 10 ≤ F) (hk : ∀ i, 0 ≤ kd i ∧ kd i ≤ 4) (hp : ∀ i, 0 ≤ pn i ∧ pn i ≤ 3) (hs : ∀ i, -1 ≤ so i ∧ so i < 48) (hn : 0 ≤ n ∧ n < 48) :
    ok (f_GateOrder_gatesWiredTo F kd pn so n) (fun w => ∀ m, 0 ≤ m → (bit w m ↔ ∃ p, (0 ≤ p ∧ p < pn n) ∧ so (3 * n + p) = m ∧ kd m = 2)) := by
  unfold f_GateOrder_gatesWiredTo
  have hpn := hp n
  refine lq2_ok (fun w v => (0 ≤ v ∧ v ≤ pn n) ∧ ∀ m, 0 ≤ m → (bit w m ↔ ∃ p, (0 ≤ p ∧ p < v) ∧ so (3 * n + p) = m ∧ kd m = 2)) (fun _ v => (3 - v).toNat) _ ?_ F 0 0 ⟨by omega, fun m _ => ⟨fun q => absurd q (bit_0 m), fun ⟨p, q, _⟩ => by omega⟩⟩ (by show (3 - (0 : Int)).toNat < F; omega)
  rintro self w v ⟨hv, hI⟩ hs'
  unfold f_GateOrder_gatesWiredTo_b5
  refine ok_gi ⟨by omega, by omega⟩ (ok_gr ⟨by omega, by omega⟩ (ok_gr ⟨by omega, by omega⟩ (ok_if (fun h => ?_) (fun h => ?_))))
  · have e : v = pn n := by omega
    subst e
    exact ok_some.mpr hI
  · rw [show n * 3 + v = 3 * n + v by omega]
    have h1 := hs (3 * n + v)
    refine ok_gi ⟨by omega, by omega⟩ (ok_bd.mpr (ok_gr ⟨by omega, by omega⟩ (ok_if (fun h2 => ?_) (fun h2 => ?_))))
    · refine hs' _ _ ⟨by omega, fun m hm => ?_⟩ (by show (3 - (v + 1)).toNat < (3 - v).toNat; omega)
      rw [hI m hm, ex_succ hv.1]
      exact ⟨Or.inl, fun q => q.elim id (fun r => by omega)⟩
    · have h3 := hk (so (3 * n + v))
      refine ok_gi ⟨by omega, by omega⟩ (ok_gr ⟨by omega, by omega⟩ (ok_if (fun h4 => ?_) (fun h4 => ?_)))
      · refine ok_bd.mpr (hs' _ _ ⟨by omega, fun m hm => ?_⟩ (by show (3 - (v + 1)).toNat < (3 - v).toNat; omega))
        rw [bit_or, hI m hm, ex_succ hv.1]
        have e2 : ((so (3 * n + v)).toNat : Int) = so (3 * n + v) := by omega
        have h5 := bit_1 (k := (so (3 * n + v)).toNat) (by omega) m hm
        rw [e2] at h5
        rw [h5]
        constructor
        · rintro (q | q)
          · exact Or.inl q
          · exact Or.inr ⟨q.symm, by rw [q]; exact h4⟩
        · rintro (q | q)
          · exact Or.inl q
          · exact Or.inr q.1.symm
      · refine hs' _ _ ⟨by omega, fun m hm => ?_⟩ (by show (3 - (v + 1)).toNat < (3 - v).toNat; omega)
        rw [hI m hm, ex_succ hv.1]
        exact ⟨Or.inl, fun q => q.elim id (fun r => absurd (by rw [r.1]; exact r.2) h4)⟩
theorem wl_mid (E : Int → Int → Prop) (k : Nat) (m : Int) : wl E (k + 1) k m ↔ wl E k k m := by
  constructor
  · rintro (h | h)
    · exact h
    · exact h.2
  · exact Or.inl
theorem s_leading {F : Nat} {kd pn so : Int → Int} {size : Int} {ld : Int → Int64} (hF : 100 ≤ F) (hz : 1 ≤ size ∧ size ≤ 48) (hk : ∀ i, 0 ≤ kd i ∧ kd i ≤ 4) (hp : ∀ i, 0 ≤ pn i ∧ pn i ≤ 3) (hs : ∀ i, -1 ≤ so i ∧ so i < 48) :
    ok (f_GateOrder_findLeading F ld size kd pn so) (fun O => ∀ n, 0 ≤ n → n < size → ∀ m, 0 ≤ m → (bit (O n) m ↔ wl (Eg kd pn so) size.toNat n m)) := by
  unfold f_GateOrder_findLeading
  refine lq2_ok (fun v O => (0 ≤ v ∧ v ≤ size) ∧ ∀ n, 0 ≤ n → n < v → ∀ m, 0 ≤ m → (bit (O n) m ↔ Eg kd pn so n m)) (fun v _ => (48 - v).toNat) _ ?_ F 0 ld ⟨by omega, fun n a b => by omega⟩ (by show (48 - (0 : Int)).toNat < F; omega)
  rintro self v O ⟨hv, hI⟩ hs'
  unfold f_GateOrder_findLeading_b2
  refine ok_gr ⟨by omega, by omega⟩ (ok_gr ⟨by omega, by omega⟩ (ok_if (fun h => ?_) (fun h => ?_)))
  · have e : v = size := by omega
    subst e
    refine lq2_ok (fun k O => (0 ≤ k ∧ k ≤ v) ∧ ∀ n, 0 ≤ n → n < v → ∀ m, 0 ≤ m → (bit (O n) m ↔ wl (Eg kd pn so) k.toNat n m)) (fun k _ => (48 - k).toNat) _ ?_ F 0 O ⟨by omega, hI⟩ (by show (48 - (0 : Int)).toNat < F; omega)
    rintro self2 k O ⟨hk2, hI2⟩ hs2
    unfold f_GateOrder_findLeading_b49
    refine ok_gr ⟨by omega, by omega⟩ (ok_gr ⟨by omega, by omega⟩ (ok_if (fun h => ?_) (fun h => ?_)))
    · have e : k = v := by omega
      subst e
      exact ok_some.mpr hI2
    · have ek : ((k.toNat : Nat) : Int) = k := by omega
      refine lq2_ok (fun j O => (0 ≤ j ∧ j ≤ v) ∧ ∀ n, 0 ≤ n → n < v → ∀ m, 0 ≤ m → (bit (O n) m ↔ if n < j then wl (Eg kd pn so) (k.toNat + 1) n m else wl (Eg kd pn so) k.toNat n m)) (fun j _ => (48 - j).toNat) _ ?_ F 0 O ⟨by omega, fun n a b m c => by rw [if_neg (by omega)]; exact hI2 n a b m c⟩ (by show (48 - (0 : Int)).toNat < F; omega)
      rintro self3 j O ⟨hj, hI3⟩ hs3
      unfold f_GateOrder_findLeading_b62
      refine ok_gr ⟨by omega, by omega⟩ (ok_gr ⟨by omega, by omega⟩ (ok_if (fun h3 => ?_) (fun h3 => ?_)))
      · refine hs2 _ _ ⟨by omega, fun n a b m c => ?_⟩ (by show (48 - (k + 1)).toNat < (48 - k).toNat; omega)
        rw [hI3 n a b m c, if_pos (by omega), show (k + 1).toNat = k.toNat + 1 by omega]
      · refine ok_gi ⟨by omega, by omega⟩ ?_
        rw [e_has (by omega), ob1_s]
        have z1 := bz_1 (¬ (O j >>> (Int32.toInt64 (iI k) &&& 63)) &&& 1 = 0)
        have z2 := bz_01 (¬ (O j >>> (Int32.toInt64 (iI k) &&& 63)) &&& 1 = 0)
        have z3 := has_bit (x := O j) (m := k) (by omega)
        have z4 := hI3 j hj.1 (by omega) k hk2.1
        rw [if_neg (by omega)] at z4
        have hmid : ∀ m, 0 ≤ m → (bit (O k) m ↔ wl (Eg kd pn so) k.toNat k m) := by
          intro m hm
          have q := hI3 k hk2.1 (by omega) m hm
          by_cases e : k < j
          · rw [if_pos e] at q
            rw [q]
            have r := wl_mid (Eg kd pn so) k.toNat m
            rwa [ek] at r
          · rw [if_neg e] at q; exact q
        have hsu : ∀ m, wl (Eg kd pn so) (k.toNat + 1) j m ↔ wl (Eg kd pn so) k.toNat j m ∨ (wl (Eg kd pn so) k.toNat j k ∧ wl (Eg kd pn so) k.toNat k m) := by
          intro m
          show (wl (Eg kd pn so) k.toNat j m ∨ (wl (Eg kd pn so) k.toNat j (k.toNat : Int) ∧ wl (Eg kd pn so) k.toNat (k.toNat : Int) m)) ↔ _
          rw [ek]
        refine ok_gr ⟨by omega, by omega⟩ (ok_if (fun h4 => ?_) (fun h4 => ?_))
        · have h5 : ¬ wl (Eg kd pn so) k.toNat j k := fun q => by
            have := z1.mpr (z3.mpr (z4.mpr q)); omega
          refine hs3 _ _ ⟨by omega, fun n a b m c => ?_⟩ (by show (48 - (j + 1)).toNat < (48 - j).toNat; omega)
          rw [hI3 n a b m c]
          by_cases e : n = j
          · subst e
            rw [if_neg (by omega), if_pos (by omega), hsu m]
            exact ⟨Or.inl, fun q => q.elim id (fun r => absurd r.1 h5)⟩
          · by_cases e2 : n < j
            · rw [if_pos e2, if_pos (by omega)]
            · rw [if_neg e2, if_neg (by omega)]
        · have h5 : wl (Eg kd pn so) k.toNat j k := z4.mp (z3.mp (z1.mp (by omega)))
          refine ok_gi ⟨by omega, by omega⟩ (ok_gi ⟨by omega, by omega⟩ (ok_gi ⟨by omega, by omega⟩ (ok_bd.mpr ?_)))
          refine hs3 _ _ ⟨by omega, fun n a b m c => ?_⟩ (by show (48 - (j + 1)).toNat < (48 - j).toNat; omega)
          show bit (if n = j then O j ||| O k else O n) m ↔ _
          by_cases e : n = j
          · subst e
            rw [if_pos rfl, if_pos (by omega), bit_or, hsu m, hI3 n a b m c, if_neg (by omega), hmid m c]
            exact ⟨fun q => q.elim Or.inl (fun r => Or.inr ⟨h5, r⟩), fun q => q.elim Or.inl (fun r => Or.inr r.2)⟩
          · rw [if_neg e, hI3 n a b m c]
            by_cases e2 : n < j
            · rw [if_pos e2, if_pos (by omega)]
            · rw [if_neg e2, if_neg (by omega)]
  · have h1 := hk v
    refine ok_gi ⟨by omega, by omega⟩ (ok_gr ⟨by omega, by omega⟩ (ok_if (fun h2 => ?_) (fun h2 => ?_)))
    · refine ok_ob1 (s_wired (F := F) (n := v) (by omega) hk hp hs (by omega)) (fun w hw => ?_)
      unfold f_GateOrder_findLeading_j40
      refine ok_gi ⟨by omega, by omega⟩ (ok_bd.mpr (hs' _ _ ⟨by omega, fun n a b m c => ?_⟩ (by show (48 - (v + 1)).toNat < (48 - v).toNat; omega)))
      show bit (if n = v then w else O n) m ↔ _
      by_cases e : n = v
      · subst e
        rw [if_pos rfl, hw m c]
        exact ⟨fun q => ⟨h2, q⟩, fun q => q.2⟩
      · rw [if_neg e]; exact hI n a (by omega) m c
    · unfold f_GateOrder_findLeading_j40
      refine ok_gi ⟨by omega, by omega⟩ (ok_bd.mpr (hs' _ _ ⟨by omega, fun n a b m c => ?_⟩ (by show (48 - (v + 1)).toNat < (48 - v).toNat; omega)))
      show bit (if n = v then 0 else O n) m ↔ _
      by_cases e : n = v
      · subst e
        rw [if_pos rfl]
        exact ⟨fun q => absurd q (bit_0 m), fun q => absurd q.1 h2⟩
      · rw [if_neg e]; exact hI n a (by omega) m c
/-- the least node of a cycle, or none -/
def isCyc (kd pn so : Int → Int) (size r : Int) : Prop := (r = -2147483648 ∧ ∀ n, 0 ≤ n → n < size → ¬ wl (Eg kd pn so) size.toNat n n) ∨ ((0 ≤ r ∧ r < size) ∧ wl (Eg kd pn so) size.toNat r r ∧ ∀ n, 0 ≤ n → n < r → ¬ wl (Eg kd pn so) size.toNat n n)
theorem isCyc_u {kd pn so : Int → Int} {size a b : Int} (h1 : isCyc kd pn so size a) (h2 : isCyc kd pn so size b) : a = b := by
  rcases h1 with ⟨a1, a2⟩ | ⟨a1, a2, a3⟩
  · rcases h2 with ⟨b1, b2⟩ | ⟨b1, b2, b3⟩
    · omega
    · exact absurd b2 (a2 b b1.1 b1.2)
  · rcases h2 with ⟨b1, b2⟩ | ⟨b1, b2, b3⟩
    · exact absurd a2 (b2 a a1.1 a1.2)
    · by_cases q : a < b
      · exact absurd a2 (b3 a a1.1 q)
      · by_cases r : b < a
        · exact absurd b2 (a3 b b1.1 r)
        · omega
theorem s_onCycle {F : Nat} {kd pn so : Int → Int} {size : Int} {ld : Int → Int64} (hF : 100 ≤ F) (hz : 1 ≤ size ∧ size ≤ 48) (hk : ∀ i, 0 ≤ kd i ∧ kd i ≤ 4) (hp : ∀ i, 0 ≤ pn i ∧ pn i ≤ 3) (hs : ∀ i, -1 ≤ so i ∧ so i < 48) :
    ok (f_GateOrder_leastOnCycle F ld size kd pn so) (fun r => isCyc kd pn so size r.1 ∧ ∀ n, 0 ≤ n → n < size → ∀ m, 0 ≤ m → (bit (r.2 n) m ↔ wl (Eg kd pn so) size.toNat n m)) := by
  unfold f_GateOrder_leastOnCycle
  refine ok_ob1 (s_leading hF hz hk hp hs) (fun O hO => ?_)
  refine lq1_ok (fun v => (0 ≤ v ∧ v ≤ size) ∧ ∀ n, 0 ≤ n → n < v → ¬ wl (Eg kd pn so) size.toNat n n) (fun v => (48 - v).toNat) _ ?_ F 0 ⟨by omega, fun n a b => by omega⟩ (by show (48 - (0 : Int)).toNat < F; omega)
  rintro self v ⟨hv, hI⟩ hs'
  unfold f_GateOrder_leastOnCycle_b6
  refine ok_gr ⟨by omega, by omega⟩ (ok_gr ⟨by omega, by omega⟩ (ok_if (fun h => ?_) (fun h => ?_)))
  · exact ok_some.mpr ⟨Or.inl ⟨rfl, fun n a b => hI n a (by omega)⟩, hO⟩
  · refine ok_gi ⟨by omega, by omega⟩ ?_
    rw [e_has (by omega), ob1_s]
    have z1 := bz_1 (¬ (O v >>> (Int32.toInt64 (iI v) &&& 63)) &&& 1 = 0)
    have z2 := bz_01 (¬ (O v >>> (Int32.toInt64 (iI v) &&& 63)) &&& 1 = 0)
    have z3 := has_bit (x := O v) (m := v) (by omega)
    have z4 := hO v hv.1 (by omega) v hv.1
    refine ok_gr ⟨by omega, by omega⟩ (ok_if (fun h4 => ?_) (fun h4 => ?_))
    · refine hs' _ ⟨by omega, fun n a b => ?_⟩ (by show (48 - (v + 1)).toNat < (48 - v).toNat; omega)
      by_cases e : n = v
      · subst e
        intro q
        have := z1.mpr (z3.mpr (z4.mpr q)); omega
      · exact hI n a (by omega)
    · exact ok_some.mpr ⟨Or.inr ⟨by omega, z4.mp (z3.mp (z1.mp (by omega))), hI⟩, hO⟩
