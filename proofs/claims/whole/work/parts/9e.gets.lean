/-! what class and reference answer -/
theorem og_n {α : Type} {y : Option α} : og none y = y := rfl
theorem og_s {α : Type} {k : α} {y : Option α} : og (some k) y = some k := rfl
section GET
variable {F : Nat} {size : Int} {kd : Int → Int}
theorem nA1 : f_T_needAnalysis F 1 = some () := rfl
theorem nA0 : g_T_needAnalysis F 0 = some 1 := rfl
theorem nG1 : g_T_needAnalysis F 1 = none := rfl
theorem nB1 {a : Int} (ha : -2147483648 ≤ a ∧ a ≤ 2147483647) (h : a = 0 ∨ a = 1) : f_T_needBit F a = some () ∧ g_T_needBit F a = none := by
  constructor
  · unfold f_T_needBit
    rw [e_isBit ha, ob1_s, (bz_1 _).mpr h]
    rfl
  · unfold g_T_needBit
    rw [e_isBit ha, ob1_s, (bz_1 _).mpr h]
    rfl
theorem bz_f {P : Prop} [Decidable P] (h : ¬ P) : bz P = 0 := by unfold bz; rw [if_neg h]
theorem nB0 {a : Int} (ha : -2147483648 ≤ a ∧ a ≤ 2147483647) (h : ¬ (a = 0 ∨ a = 1)) : g_T_needBit F a = some 0 := by
  unfold g_T_needBit
  rw [e_isBit ha, ob1_s, bz_f h]
  rfl
/-- the law's comparison of both answers -/
theorem tl {x : Option (Int × Int)} {out : Int → Int64} {q0 v : Int} (hx : x = some (v, q0)) (hq : 0 ≤ q0 ∧ q0 ≤ 3) (ho : q0 = 0 → out 0 = Int32.toInt64 (iI v)) : ok (ob2 x (fun r t => ob1 (f_M_thrown F t) (fun r2 => gr r2 (gr q0 ((if r2 = q0 then gr q0 ((if q0 = 0 then gi 0 1 (gr (lc (out 0) (Int32.toInt64 (iI r))) ((if (lc (out 0) (Int32.toInt64 (iI r))) = 0 then (some t) else none))) else (some t))) else none)))))) (fun z => z = q0) := by
  refine ok_ob2 (P := fun r => r = (v, q0)) ⟨_, hx, rfl⟩ (fun a1 a2 hh => ?_)
  cases hh
  rw [show f_M_thrown F q0 = some q0 from rfl, ob1_s]
  refine ok_gr ⟨by omega, by omega⟩ (ok_gr ⟨by omega, by omega⟩ (ok_if (fun _ => ok_gr ⟨by omega, by omega⟩ (ok_if (fun h => ?_) (fun _ => ok_some.mpr rfl))) (fun z => absurd rfl z)))
  exact ok_gi ⟨by decide, by decide⟩ (ok_gr (lc_r _ _) (ok_if (fun _ => ok_some.mpr rfl) (fun z => absurd ((lc_0 _ _).mpr (ho h)) z)))
theorem hdw {x : Option Int} {out : Int → Int64} {v : Int} (hx : x = some v) : ok (ob2 (ob1 x (fun r4 => gi 0 1 (bd (ul out 0 (Int32.toInt64 (iI r4))) (fun (out_1 : Int → Int64) => (some ((0 : Int), out_1)))))) (fun r o => some (r, o))) (fun z => z = ((0 : Int), ul out 0 (Int32.toInt64 (iI v)))) := by
  rw [hx, ob1_s]
  refine ok_ob2 (P := fun r => r = ((0 : Int), ul out 0 (Int32.toInt64 (iI v)))) (ok_gi ⟨by decide, by decide⟩ (ok_bd.mpr (ok_some.mpr rfl))) (fun a1 a2 hh => ?_)
  cases hh
  exact ok_some.mpr rfl
theorem hdg {x : Option Nat} {k : Nat} (hx : x = some k) : ok (ob1 x (fun k9 => (some k9))) (fun z => z = k) := by
  rw [hx, ob1_s]
  exact ok_some.mpr rfl
theorem ul_0 {out : Int → Int64} {v : Int64} : ul out 0 v 0 = v := if_pos rfl
theorem tieV {s a : Int} (h : tie s a) : (if a = 1000000000 then -2147483648 else a) = s := by
  rcases h with ⟨h1, h2⟩ | ⟨h1, h2, h3⟩
  · rw [if_pos h2, h1]
  · rw [if_neg h3, h1]
-- ways
theorem ways_v {c wc : Int → Int} {a : Int} (hz : 1 ≤ size ∧ size ≤ 48) (hk : ∀ i, 0 ≤ kd i ∧ kd i ≤ 4) (ha : -2147483648 ≤ a ∧ a ≤ 2147483647) (h : (0 ≤ a ∧ a < size) ∧ kd a = 3) (hw : c a = wc a) : f_T_ways F 1 c size kd a = some (wc a) ∧ f_M_ways F size 1 kd wc a = some (wc a, 0) := by
  have hka := hk a
  constructor
  · apply ok_eq
    unfold f_T_ways f_T_ways_j28
    rw [nA1, ob0_s, e_isNode hz ha, ob1_s, (bz_1 _).mpr h.1]
    refine ok_gr ⟨by omega, by omega⟩ (ok_if (fun z => by omega) (fun _ => ok_gi ⟨by omega, by omega⟩ (ok_gr ⟨by omega, by omega⟩ (ok_if (fun _ => ok_gi ⟨by omega, by omega⟩ (ok_some.mpr hw)) (fun z => absurd h.2 z)))))
  · apply ok_eq
    unfold f_M_ways f_M_ways_j34 f_M_ways_j39
    refine ok_gr ⟨by omega, by omega⟩ (ok_if (fun z => by omega) (fun _ => ok_gr ha (ok_if (fun z => by omega) (fun _ => ok_gr ha (ok_gr ⟨by omega, by omega⟩ (ok_if (fun z => by omega) (fun _ => ok_gi ⟨by omega, by omega⟩ (ok_gr ⟨by omega, by omega⟩ (ok_if (fun _ => ?_) (fun z => absurd h.2 z))))))))))
    exact ok_gr ⟨by omega, by omega⟩ (ok_if (fun _ => ok_gi ⟨by omega, by omega⟩ (ok_some.mpr rfl)) (fun z => by omega))
theorem ways_0 {wc : Int → Int} {a : Int} (hz : 1 ≤ size ∧ size ≤ 48) (hk : ∀ i, 0 ≤ kd i ∧ kd i ≤ 4) (ha : -2147483648 ≤ a ∧ a ≤ 2147483647) (h : ¬ ((0 ≤ a ∧ a < size) ∧ kd a = 3)) : g_T_ways F 1 size kd a = some 0 ∧ f_M_ways F size 1 kd wc a = some (0, 2) := by
  have hka := hk a
  constructor
  · apply ok_eq
    unfold g_T_ways g_T_ways_j28
    rw [nG1, og_n, nA1, ob0_s, e_isNode hz ha, ob1_s]
    have z1 := bz_1 (0 ≤ a ∧ a < size)
    have z2 := bz_01 (0 ≤ a ∧ a < size)
    refine ok_gr ⟨by omega, by omega⟩ (ok_if (fun _ => ok_some.mpr rfl) (fun q => ?_))
    have hn := z1.mp (by omega)
    exact ok_gi ⟨by omega, by omega⟩ (ok_gr ⟨by omega, by omega⟩ (ok_if (fun z => absurd ⟨hn, z⟩ h) (fun _ => ok_some.mpr rfl)))
  · apply ok_eq
    unfold f_M_ways f_M_ways_j34 f_M_ways_j39
    refine ok_gr ⟨by omega, by omega⟩ (ok_if (fun z => by omega) (fun _ => ok_gr ha (ok_if (fun _ => ?_) (fun _ => ok_gr ha (ok_gr ⟨by omega, by omega⟩ (ok_if (fun _ => ?_) (fun _ => ok_gi ⟨by omega, by omega⟩ (ok_gr ⟨by omega, by omega⟩ (ok_if (fun z => by omega) (fun _ => ?_))))))))))
    all_goals exact ok_gr ⟨by omega, by omega⟩ (ok_if (fun z => by omega) (fun _ => ok_some.mpr rfl))
theorem ways_1 {wc : Int → Int} {a : Int} : g_T_ways F 0 size kd a = some 1 ∧ f_M_ways F size 0 kd wc a = some (0, 1) := by
  constructor
  · unfold g_T_ways
    rw [nA0, og_s]
  · rfl
-- arrival
theorem arr_v {Zc Ze Zl Vc Ve Vl so wE wL le ge : Int → Int} {a b c x4 v : Int} (hz : 1 ≤ size ∧ size ≤ 48) (ha : -2147483648 ≤ a ∧ a ≤ 2147483647) (hb : -2147483648 ≤ b ∧ b ≤ 2147483647) (hc : -2147483648 ≤ c ∧ c ≤ 2147483647) (h : (0 ≤ a ∧ a < size) ∧ (b = 0 ∨ b = 1) ∧ (c = 0 ∨ c = 1)) (hx : x4 = 0 ∨ x4 = 1) (hv : v = if x4 = 0 then le (4 * a + 2 * b + c) else ge (4 * a + 2 * b + c)) (ht : f_Arrivals_timeAt F Zc Ze Zl Vc Ve Vl size kd so wE wL a b c x4 = some v) : f_T_arrival F 1 Zc Ze Zl Vc Ve Vl size kd so wE wL a b c x4 = some v ∧ f_M_arrival F size 1 le ge a b c x4 = some (v, 0) := by
  constructor
  · apply ok_eq
    unfold f_T_arrival f_T_arrival_j29
    rw [nA1, ob0_s, e_isNode hz ha, ob1_s, (bz_1 _).mpr h.1]
    refine ok_gr ⟨by omega, by omega⟩ (ok_if (fun z => by omega) (fun _ => ?_))
    rw [e_isBit hb, ob1_s, (bz_1 _).mpr h.2.1]
    refine ok_gr ⟨by omega, by omega⟩ (ok_if (fun z => by omega) (fun _ => ?_))
    rw [e_isBit hc, ob1_s, (bz_1 _).mpr h.2.2]
    refine ok_gr ⟨by omega, by omega⟩ (ok_if (fun z => by omega) (fun _ => ?_))
    rw [ht, ob1_s]
    exact ok_some.mpr rfl
  · apply ok_eq
    unfold f_M_arrival f_M_arrival_j38 f_M_arrival_j43
    rw [e_noBit hb, e_noBit hc, bz_f (fun z => z h.2.1), bz_f (fun z => z h.2.2), ob1_s, ob1_s, hv]
    refine ok_gr ⟨by omega, by omega⟩ (ok_if (fun z => by omega) (fun _ => ok_gr ha (ok_if (fun z => by omega) (fun _ => ok_gr ha (ok_gr ⟨by omega, by omega⟩ (ok_if (fun z => by omega) (fun _ => ok_gr ⟨by omega, by omega⟩ (ok_if (fun _ => ok_gr ⟨by omega, by omega⟩ (ok_if (fun _ => ?_) (fun z => absurd rfl z))) (fun z => absurd rfl z)))))))))
    exact ok_gr ⟨by omega, by omega⟩ (ok_if (fun _ => ok_gr ⟨by omega, by omega⟩ (ok_if (fun q => ok_gi ⟨by omega, by omega⟩ (ok_some.mpr (by rw [if_pos q]))) (fun q => ok_gi ⟨by omega, by omega⟩ (ok_some.mpr (by rw [if_neg q]))))) (fun z => by omega))
theorem arr_0 {Zc Ze Zl Vc Ve Vl so wE wL le ge : Int → Int} {a b c x4 : Int} (hz : 1 ≤ size ∧ size ≤ 48) (ha : -2147483648 ≤ a ∧ a ≤ 2147483647) (hb : -2147483648 ≤ b ∧ b ≤ 2147483647) (hc : -2147483648 ≤ c ∧ c ≤ 2147483647) (h : ¬ ((0 ≤ a ∧ a < size) ∧ (b = 0 ∨ b = 1) ∧ (c = 0 ∨ c = 1))) (hx : x4 = 0 ∨ x4 = 1) : g_T_arrival F 1 Zc Ze Zl Vc Ve Vl size kd so wE wL a b c x4 = some 0 ∧ f_M_arrival F size 1 le ge a b c x4 = some (0, 2) := by
  have z1 := bz_1 (0 ≤ a ∧ a < size)
  have z2 := bz_01 (0 ≤ a ∧ a < size)
  have z3 := bz_1 (b = 0 ∨ b = 1)
  have z4 := bz_01 (b = 0 ∨ b = 1)
  have z5 := bz_1 (c = 0 ∨ c = 1)
  have z6 := bz_01 (c = 0 ∨ c = 1)
  have y3 := bz_1 (¬ (b = 0 ∨ b = 1))
  have y4 := bz_01 (¬ (b = 0 ∨ b = 1))
  have y5 := bz_1 (¬ (c = 0 ∨ c = 1))
  have y6 := bz_01 (¬ (c = 0 ∨ c = 1))
  constructor
  · apply ok_eq
    unfold g_T_arrival g_T_arrival_j29
    rw [nG1, og_n, nA1, ob0_s, e_isNode hz ha, ob1_s]
    refine ok_gr ⟨by omega, by omega⟩ (ok_if (fun _ => ok_some.mpr rfl) (fun q1 => ?_))
    rw [e_isBit hb, ob1_s]
    refine ok_gr ⟨by omega, by omega⟩ (ok_if (fun _ => ok_some.mpr rfl) (fun q2 => ?_))
    rw [e_isBit hc, ob1_s]
    refine ok_gr ⟨by omega, by omega⟩ (ok_if (fun _ => ok_some.mpr rfl) (fun q3 => ?_))
    exact absurd ⟨z1.mp (by omega), z3.mp (by omega), z5.mp (by omega)⟩ h
  · apply ok_eq
    unfold f_M_arrival f_M_arrival_j38 f_M_arrival_j43
    rw [e_noBit hb, e_noBit hc, ob1_s, ob1_s]
    refine ok_gr ⟨by omega, by omega⟩ (ok_if (fun z => by omega) (fun _ => ok_gr ha (ok_if (fun _ => ?_) (fun _ => ok_gr ha (ok_gr ⟨by omega, by omega⟩ (ok_if (fun _ => ?_) (fun _ => ok_gr ⟨by omega, by omega⟩ (ok_if (fun _ => ok_gr ⟨by omega, by omega⟩ (ok_if (fun z => by omega) (fun _ => ?_))) (fun _ => ?_)))))))))
    all_goals exact ok_gr ⟨by omega, by omega⟩ (ok_if (fun z => by omega) (fun _ => ok_some.mpr rfl))
theorem arr_1 {Zc Ze Zl Vc Ve Vl so wE wL le ge : Int → Int} {a b c x4 : Int} : g_T_arrival F 0 Zc Ze Zl Vc Ve Vl size kd so wE wL a b c x4 = some 1 ∧ f_M_arrival F size 0 le ge a b c x4 = some (0, 1) := by
  constructor
  · unfold g_T_arrival
    rw [nA0, og_s]
  · rfl
-- slack
theorem slk_v {A S : Int → Int} {a b : Int} (hz : 1 ≤ size ∧ size ≤ 48) (hk : ∀ i, 0 ≤ kd i ∧ kd i ≤ 4) (ha : -2147483648 ≤ a ∧ a ≤ 2147483647) (hb : -2147483648 ≤ b ∧ b ≤ 2147483647) (h : ((0 ≤ a ∧ a < size) ∧ (kd a = 4 ∨ kd a = 3)) ∧ (b = 0 ∨ b = 1)) (ht : tie (S (2 * a + b)) (A (2 * a + b))) (hA : -100000000 ≤ A (2 * a + b) ∧ A (2 * a + b) ≤ 1000000000) : f_T_slack F 1 A size kd a b = some (S (2 * a + b)) ∧ f_M_slack F size 1 kd S a b = some (S (2 * a + b), 0) := by
  have hka := hk a
  constructor
  · apply ok_eq
    unfold f_T_slack f_T_slack_j22 f_Slacks_leastAt
    rw [nA1, ob0_s, e_isEnd hz hk ha, ob1_s, (bz_1 _).mpr h.1]
    refine ok_gr ⟨by omega, by omega⟩ (ok_if (fun z => by omega) (fun _ => ?_))
    rw [e_isBit hb, ob1_s, (bz_1 _).mpr h.2]
    refine ok_gr ⟨by omega, by omega⟩ (ok_if (fun z => by omega) (fun _ => ?_))
    have hv := tieV ht
    refine ok_ob1 (P := fun r => r = S (2 * a + b)) (ok_gi ⟨by omega, by omega⟩ (ok_bd.mpr (ok_gr ⟨by omega, by omega⟩ (ok_if (fun q => ok_some.mpr ?_) (fun q => ok_some.mpr ?_))))) (fun a1 hh => ok_some.mpr hh)
    · rw [if_pos q] at hv; exact hv
    · rw [if_neg q] at hv; exact hv
  · apply ok_eq
    unfold f_M_slack f_M_slack_j27 f_M_slack_j32
    rw [e_MisEnd hz hk ha, ob1_s, (bz_1 _).mpr h.1, e_noBit hb, bz_f (fun z => z h.2), ob1_s]
    (repeat' (first | refine ok_gr ⟨by omega, by omega⟩ ?_ | refine ok_gi ⟨by omega, by omega⟩ ?_ | refine ok_gb (by omega) ?_ | refine ok_gp ⟨by omega, by omega⟩ ?_ | refine ok_some.mpr ?_ | refine ok_if (fun _ => ?_) (fun _ => ?_))) <;> first | rfl | (exfalso; omega)
theorem slk_0 {A S : Int → Int} {a b : Int} (hz : 1 ≤ size ∧ size ≤ 48) (hk : ∀ i, 0 ≤ kd i ∧ kd i ≤ 4) (ha : -2147483648 ≤ a ∧ a ≤ 2147483647) (hb : -2147483648 ≤ b ∧ b ≤ 2147483647) (h : ¬ (((0 ≤ a ∧ a < size) ∧ (kd a = 4 ∨ kd a = 3)) ∧ (b = 0 ∨ b = 1))) : g_T_slack F 1 A size kd a b = some 0 ∧ f_M_slack F size 1 kd S a b = some (0, 2) := by
  have hka := hk a
  have z1 := bz_1 ((0 ≤ a ∧ a < size) ∧ (kd a = 4 ∨ kd a = 3))
  have z2 := bz_01 ((0 ≤ a ∧ a < size) ∧ (kd a = 4 ∨ kd a = 3))
  have z3 := bz_1 (b = 0 ∨ b = 1)
  have z4 := bz_01 (b = 0 ∨ b = 1)
  have y3 := bz_1 (¬ (b = 0 ∨ b = 1))
  have y4 := bz_01 (¬ (b = 0 ∨ b = 1))
  constructor
  · apply ok_eq
    unfold g_T_slack g_T_slack_j22
    rw [nG1, og_n, nA1, ob0_s, e_isEnd hz hk ha, ob1_s]
    refine ok_gr ⟨by omega, by omega⟩ (ok_if (fun _ => ok_some.mpr rfl) (fun q1 => ?_))
    rw [e_isBit hb, ob1_s]
    refine ok_gr ⟨by omega, by omega⟩ (ok_if (fun _ => ok_some.mpr rfl) (fun q2 => ?_))
    exact absurd ⟨z1.mp (by omega), z3.mp (by omega)⟩ h
  · apply ok_eq
    unfold f_M_slack f_M_slack_j27 f_M_slack_j32
    rw [e_MisEnd hz hk ha, ob1_s, e_noBit hb, ob1_s]
    (repeat' (first | refine ok_gr ⟨by omega, by omega⟩ ?_ | refine ok_gi ⟨by omega, by omega⟩ ?_ | refine ok_gb (by omega) ?_ | refine ok_gp ⟨by omega, by omega⟩ ?_ | refine ok_some.mpr ?_ | refine ok_if (fun _ => ?_) (fun _ => ?_))) <;> first | rfl | (exfalso; omega)
theorem slk_1 {A S : Int → Int} {a b : Int} : g_T_slack F 0 A size kd a b = some 1 ∧ f_M_slack F size 0 kd S a b = some (0, 1) := by
  constructor
  · unfold g_T_slack
    rw [nA0, og_s]
  · rfl
-- worst
theorem tie_min {s a s' a' : Int} (h : tie s a) (h' : tie s' a') (ha : a ≤ 1000000000) (ha' : a' ≤ 1000000000) : tie (if s' = -2147483648 then s else if s = -2147483648 then s' else if s ≤ s' then s else s') (min a a') := by
  unfold tie at *
  by_cases q : s' = -2147483648
  · rw [if_pos q]; omega
  · rw [if_neg q]
    by_cases q2 : s = -2147483648
    · rw [if_pos q2]; omega
    · rw [if_neg q2]
      by_cases q3 : s ≤ s'
      · rw [if_pos q3]; omega
      · rw [if_neg q3]; omega
def cWo (A : Int → Int) (x : Int) : Nat → Int
  | 0 => 1000000000
  | n + 1 => min (cWo A x n) (A (2 * n + x))
def mWo (S : Int → Int) (x : Int) : Nat → Int
  | 0 => -2147483648
  | n + 1 => if S (2 * n + x) = -2147483648 then mWo S x n else if mWo S x n = -2147483648 then S (2 * n + x) else if mWo S x n ≤ S (2 * n + x) then mWo S x n else S (2 * n + x)
theorem wo_tie {A S : Int → Int} {x : Int} : ∀ n : Nat, (∀ m : Nat, m < n → tie (S (2 * m + x)) (A (2 * m + x)) ∧ -100000000 ≤ A (2 * m + x) ∧ A (2 * m + x) ≤ 1000000000) → tie (mWo S x n) (cWo A x n) ∧ -100000000 ≤ cWo A x n ∧ cWo A x n ≤ 1000000000 := by
  intro n
  induction n with
  | zero => intro _; exact ⟨Or.inl ⟨rfl, rfl⟩, by show -100000000 ≤ (1000000000 : Int); omega, Int.le_refl _⟩
  | succ n ih =>
    intro h
    obtain ⟨i1, i2, i3⟩ := ih (fun m hm => h m (by omega))
    obtain ⟨j1, j2, j3⟩ := h n (by omega)
    have := tie_min i1 j1 i3 j3
    show tie (if S (2 * n + x) = -2147483648 then mWo S x n else if mWo S x n = -2147483648 then S (2 * n + x) else if mWo S x n ≤ S (2 * n + x) then mWo S x n else S (2 * n + x)) (min (cWo A x n) (A (2 * n + x))) ∧ -100000000 ≤ min (cWo A x n) (A (2 * n + x)) ∧ min (cWo A x n) (A (2 * n + x)) ≤ 1000000000
    exact ⟨this, by omega, by omega⟩
theorem tie_r {s a : Int} (h : tie s a) (ha : -100000000 ≤ a ∧ a ≤ 1000000000) : -2147483648 ≤ s ∧ s ≤ 2147483647 := by
  unfold tie at h; omega
theorem wst_v {A S : Int → Int} {a : Int} (hF : 200 ≤ F) (hz : 1 ≤ size ∧ size ≤ 48) (ha : -2147483648 ≤ a ∧ a ≤ 2147483647) (h : a = 0 ∨ a = 1) (ht : ∀ m, 0 ≤ m → m < size → tie (S (2 * m + a)) (A (2 * m + a)) ∧ -100000000 ≤ A (2 * m + a) ∧ A (2 * m + a) ≤ 1000000000) : f_T_worst F 1 A size a = some (mWo S a size.toNat) ∧ f_M_worst F size 1 S a = some (mWo S a size.toNat, 0) := by
  have hall : ∀ n : Nat, (n : Int) ≤ size → tie (mWo S a n) (cWo A a n) ∧ -100000000 ≤ cWo A a n ∧ cWo A a n ≤ 1000000000 := fun n hn => wo_tie n (fun m hm => ht m (by omega) (by omega))
  constructor
  · apply ok_eq
    unfold f_T_worst
    rw [nA1, ob0_s, (nB1 ha h).1, ob0_s]
    refine ok_ob1 (P := fun r => r = mWo S a size.toNat) ?_ (fun a1 hh => ok_some.mpr hh)
    unfold f_Slacks_leastOfAll
    refine lq2_ok (fun (q v : Int) => (0 ≤ v ∧ v ≤ size) ∧ q = cWo A a v.toNat) (fun _ v => (48 - v).toNat) _ ?_ F _ 0 ⟨by omega, rfl⟩ (by show (48 - (0 : Int)).toNat < F; omega)
    rintro self q v ⟨hv, hq⟩ hs
    obtain ⟨i1, i2, i3⟩ := hall v.toNat (by omega)
    unfold f_Slacks_leastOfAll_b5
    refine ok_gr ⟨by omega, by omega⟩ (ok_gr ⟨by omega, by omega⟩ (ok_if (fun c => ?_) (fun c => ?_)))
    · have e : v = size := by omega
      rw [e] at hq i1 i2 i3
      have hv2 := tieV i1
      rw [← hq] at hv2 i2 i3
      refine ok_gr ⟨by omega, by omega⟩ (ok_if (fun q2 => ok_some.mpr ?_) (fun q2 => ok_some.mpr ?_))
      · rw [if_pos q2] at hv2; exact hv2
      · rw [if_neg q2] at hv2; exact hv2
    · have hm := ht v hv.1 (by omega)
      refine ok_gi ⟨by omega, by omega⟩ (ok_gr ⟨by omega, by omega⟩ (ok_gr ⟨by omega, by omega⟩ (ok_bd.mpr ?_)))
      refine hs _ _ ⟨by omega, ?_⟩ (by show (48 - (v + 1)).toNat < (48 - v).toNat; omega)
      rw [show (v + 1).toNat = v.toNat + 1 by omega]
      show min q (A (2 * v + a)) = min (cWo A a v.toNat) (A (2 * (v.toNat : Int) + a))
      rw [hq, show ((v.toNat : Nat) : Int) = v by omega]
  · apply ok_eq
    unfold f_M_worst f_M_worst_j24
    refine ok_gr ⟨by omega, by omega⟩ (ok_if (fun z => by omega) (fun _ => ?_))
    rw [e_noBit ha, ob1_s, bz_f (fun z => z h)]
    refine ok_gr ⟨by omega, by omega⟩ (ok_if (fun _ => ?_) (fun z => absurd rfl z))
    refine lq2_ok (fun (q v : Int) => (0 ≤ v ∧ v ≤ size) ∧ q = mWo S a v.toNat) (fun _ v => (48 - v).toNat) _ ?_ F _ 0 ⟨by omega, rfl⟩ (by show (48 - (0 : Int)).toNat < F; omega)
    rintro self q v ⟨hv, hq⟩ hs
    obtain ⟨i1, i2, i3⟩ := hall v.toNat (by omega)
    have hr1 := tie_r i1 ⟨i2, i3⟩
    rw [← hq] at hr1
    unfold f_M_worst_b32 f_M_worst_j91 f_M_worst_j83 f_M_worst_j78 f_M_worst_j84
    refine ok_gr ⟨by omega, by omega⟩ (ok_gr ⟨by omega, by omega⟩ (ok_if (fun c => ?_) (fun c => ?_)))
    · have e : v = size := by omega
      rw [e] at hq
      exact ok_gr ⟨by omega, by omega⟩ (ok_if (fun _ => ok_some.mpr (by rw [hq])) (fun z => by omega))
    · have hm := ht v hv.1 (by omega)
      have hr2 := tie_r hm.1 hm.2
      have hstep : mWo S a (v + 1).toNat = if S (2 * v + a) = -2147483648 then q else if q = -2147483648 then S (2 * v + a) else if q ≤ S (2 * v + a) then q else S (2 * v + a) := by
        rw [show (v + 1).toNat = v.toNat + 1 by omega, hq]
        show (if S (2 * (v.toNat : Int) + a) = -2147483648 then _ else _) = _
        rw [show ((v.toNat : Nat) : Int) = v by omega]
      refine ok_gr ⟨by omega, by omega⟩ (ok_if (fun _ => ?_) (fun z => absurd rfl z))
      refine ok_gi ⟨by omega, by omega⟩ (ok_bd.mpr (ok_gr hr2 (ok_if (fun q1 => ?_) (fun q1 => ?_))))
      · exact hs _ _ ⟨by omega, by rw [hstep, if_pos q1]⟩ (by show (48 - (v + 1)).toNat < (48 - v).toNat; omega)
      · refine ok_gr hr1 (ok_if (fun q2 => ?_) (fun q2 => ok_gr hr2 (ok_gr hr1 (ok_if (fun q3 => ?_) (fun q3 => ?_)))))
        · exact hs _ _ ⟨by omega, by rw [hstep, if_neg q1, if_pos q2]⟩ (by show (48 - (v + 1)).toNat < (48 - v).toNat; omega)
        · exact hs _ _ ⟨by omega, by rw [hstep, if_neg q1, if_neg q2, if_pos q3]⟩ (by show (48 - (v + 1)).toNat < (48 - v).toNat; omega)
        · exact hs _ _ ⟨by omega, by rw [hstep, if_neg q1, if_neg q2, if_neg q3]⟩ (by show (48 - (v + 1)).toNat < (48 - v).toNat; omega)
theorem wst_q {S : Int → Int} {q1 a : Int} (hF : 200 ≤ F) (hz : 1 ≤ size ∧ size ≤ 48) (hq : q1 = 1 ∨ q1 = 2) : f_M_worst_j24 F size S a q1 = some (0, q1) := by
  apply ok_eq
  unfold f_M_worst_j24
  refine lq2_ok (fun (q v : Int) => v = 0) (fun _ _ => 0) _ ?_ F _ 0 rfl (by omega)
  rintro self q v rfl hs
  unfold f_M_worst_b32 f_M_worst_j91
  refine ok_gr ⟨by omega, by omega⟩ (ok_gr ⟨by omega, by omega⟩ (ok_if (fun c => by omega) (fun c => ?_)))
  refine ok_gr ⟨by omega, by omega⟩ (ok_if (fun z => by omega) (fun _ => ?_))
  exact ok_gr ⟨by omega, by omega⟩ (ok_if (fun z => by omega) (fun _ => ok_some.mpr rfl))
theorem wst_0 {A S : Int → Int} {a : Int} (hF : 200 ≤ F) (hz : 1 ≤ size ∧ size ≤ 48) (ha : -2147483648 ≤ a ∧ a ≤ 2147483647) (h : ¬ (a = 0 ∨ a = 1)) : g_T_worst F 1 A size a = some 0 ∧ f_M_worst F size 1 S a = some (0, 2) := by
  constructor
  · unfold g_T_worst
    rw [nG1, og_n, nA1, ob0_s, nB0 ha h, og_s]
  · apply ok_eq
    unfold f_M_worst
    refine ok_gr ⟨by omega, by omega⟩ (ok_if (fun z => by omega) (fun _ => ?_))
    rw [e_noBit ha, ob1_s, (bz_1 _).mpr h]
    refine ok_gr ⟨by omega, by omega⟩ (ok_if (fun z => by omega) (fun _ => ?_))
    exact ⟨_, wst_q hF hz (Or.inr rfl), rfl⟩
theorem wst_1 {A S : Int → Int} {a : Int} (hF : 200 ≤ F) (hz : 1 ≤ size ∧ size ≤ 48) : g_T_worst F 0 A size a = some 1 ∧ f_M_worst F size 0 S a = some (0, 1) := by
  constructor
  · unfold g_T_worst
    rw [nA0, og_s]
  · apply ok_eq
    unfold f_M_worst
    refine ok_gr ⟨by omega, by omega⟩ (ok_if (fun _ => ?_) (fun z => absurd rfl z))
    exact ⟨_, wst_q hF hz (Or.inl rfl), rfl⟩
-- total
def mTo (S : Int → Int) (x : Int) : Nat → Int
  | 0 => 0
  | n + 1 => mTo S x n + (if S (2 * n + x) = -2147483648 then 0 else if 0 ≤ S (2 * n + x) then 0 else S (2 * n + x))
theorem tot_v {A S : Int → Int} {a : Int} (hF : 200 ≤ F) (hz : 1 ≤ size ∧ size ≤ 48) (ha : -2147483648 ≤ a ∧ a ≤ 2147483647) (h : a = 0 ∨ a = 1) (ht : ∀ m, 0 ≤ m → m < size → tie (S (2 * m + a)) (A (2 * m + a)) ∧ -100000000 ≤ A (2 * m + a) ∧ A (2 * m + a) ≤ 1000000000) : f_T_total F 1 A size a = some (mTo S a size.toNat) ∧ f_M_total F size 1 S a = some (mTo S a size.toNat, 0) := by
  have hstep : ∀ v, 0 ≤ v → mTo S a (v + 1).toNat = mTo S a v.toNat + (if S (2 * v + a) = -2147483648 then 0 else if 0 ≤ S (2 * v + a) then 0 else S (2 * v + a)) := by
    intro v hv
    rw [show (v + 1).toNat = v.toNat + 1 by omega]
    show mTo S a v.toNat + (if S (2 * (v.toNat : Int) + a) = -2147483648 then 0 else if 0 ≤ S (2 * (v.toNat : Int) + a) then 0 else S (2 * (v.toNat : Int) + a)) = _
    rw [show ((v.toNat : Nat) : Int) = v by omega]
  constructor
  · apply ok_eq
    unfold f_T_total
    rw [nA1, ob0_s, (nB1 ha h).1, ob0_s]
    refine ok_ob1 (P := fun r => r = mTo S a size.toNat) ?_ (fun a1 hh => ok_some.mpr hh)
    unfold f_Slacks_sumBelowZero
    refine lq2_ok (fun (q v : Int) => (0 ≤ v ∧ v ≤ size) ∧ q = mTo S a v.toNat) (fun _ v => (48 - v).toNat) _ ?_ F _ 0 ⟨by omega, rfl⟩ (by show (48 - (0 : Int)).toNat < F; omega)
    rintro self q v ⟨hv, hq⟩ hs
    unfold f_Slacks_sumBelowZero_b4
    refine ok_gr ⟨by omega, by omega⟩ (ok_gr ⟨by omega, by omega⟩ (ok_if (fun c => ?_) (fun c => ?_)))
    · have e : v = size := by omega
      rw [e] at hq
      exact ok_some.mpr hq
    · obtain ⟨m1, m2, m3⟩ := ht v hv.1 (by omega)
      refine ok_gi ⟨by omega, by omega⟩ (ok_gr ⟨by omega, by omega⟩ (ok_bd.mpr ?_))
      refine hs _ _ ⟨by omega, ?_⟩ (by show (48 - (v + 1)).toNat < (48 - v).toNat; omega)
      rw [hstep v hv.1, ← hq]
      unfold tie at m1
      by_cases q1 : S (2 * v + a) = -2147483648
      · rw [if_pos q1]; omega
      · rw [if_neg q1]
        by_cases q2 : 0 ≤ S (2 * v + a)
        · rw [if_pos q2]; omega
        · rw [if_neg q2]; omega
  · apply ok_eq
    unfold f_M_total f_M_total_j24
    refine ok_gr ⟨by omega, by omega⟩ (ok_if (fun z => by omega) (fun _ => ?_))
    rw [e_noBit ha, ob1_s, bz_f (fun z => z h)]
    refine ok_gr ⟨by omega, by omega⟩ (ok_if (fun _ => ?_) (fun z => absurd rfl z))
    refine lq2_ok (fun (q v : Int) => (0 ≤ v ∧ v ≤ size) ∧ q = mTo S a v.toNat) (fun _ v => (48 - v).toNat) _ ?_ F _ 0 ⟨by omega, rfl⟩ (by show (48 - (0 : Int)).toNat < F; omega)
    rintro self q v ⟨hv, hq⟩ hs
    unfold f_M_total_b31 f_M_total_j85 f_M_total_j76 f_M_total_j77
    refine ok_gr ⟨by omega, by omega⟩ (ok_gr ⟨by omega, by omega⟩ (ok_if (fun c => ?_) (fun c => ?_)))
    · have e : v = size := by omega
      rw [e] at hq
      exact ok_some.mpr (by rw [hq])
    · have hm := ht v hv.1 (by omega)
      have hr2 := tie_r hm.1 hm.2
      have hst := hstep v hv.1
      rw [← hq] at hst
      refine ok_gr ⟨by omega, by omega⟩ (ok_if (fun _ => ?_) (fun z => absurd rfl z))
      refine ok_gi ⟨by omega, by omega⟩ (ok_bd.mpr (ok_gr hr2 (ok_if (fun q1 => ?_) (fun q1 => ok_gr hr2 (ok_if (fun q2 => ?_) (fun q2 => ?_))))))
      · exact ok_bd.mpr (hs _ _ ⟨by omega, by rw [hst, if_pos q1]⟩ (by show (48 - (v + 1)).toNat < (48 - v).toNat; omega))
      · exact ok_bd.mpr (hs _ _ ⟨by omega, by rw [hst, if_neg q1, if_pos q2]⟩ (by show (48 - (v + 1)).toNat < (48 - v).toNat; omega))
      · exact ok_bd.mpr (hs _ _ ⟨by omega, by rw [hst, if_neg q1, if_neg q2]⟩ (by show (48 - (v + 1)).toNat < (48 - v).toNat; omega))
theorem tot_q {S : Int → Int} {q1 a : Int} (hF : 200 ≤ F) (hz : 1 ≤ size ∧ size ≤ 48) (hq : q1 = 1 ∨ q1 = 2) : f_M_total_j24 F size S a q1 = some (0, q1) := by
  apply ok_eq
  unfold f_M_total_j24
  refine lq2_ok (fun (q v : Int) => v = 0 ∧ q = 0) (fun _ _ => 0) _ ?_ F _ 0 ⟨rfl, rfl⟩ (by omega)
  rintro self q v ⟨rfl, rfl⟩ hs
  unfold f_M_total_b31 f_M_total_j85
  refine ok_gr ⟨by omega, by omega⟩ (ok_gr ⟨by omega, by omega⟩ (ok_if (fun c => by omega) (fun c => ?_)))
  exact ok_gr ⟨by omega, by omega⟩ (ok_if (fun z => by omega) (fun _ => ok_some.mpr rfl))
theorem tot_0 {A S : Int → Int} {a : Int} (hF : 200 ≤ F) (hz : 1 ≤ size ∧ size ≤ 48) (ha : -2147483648 ≤ a ∧ a ≤ 2147483647) (h : ¬ (a = 0 ∨ a = 1)) : g_T_total F 1 A size a = some 0 ∧ f_M_total F size 1 S a = some (0, 2) := by
  constructor
  · unfold g_T_total
    rw [nG1, og_n, nA1, ob0_s, nB0 ha h, og_s]
  · apply ok_eq
    unfold f_M_total
    refine ok_gr ⟨by omega, by omega⟩ (ok_if (fun z => by omega) (fun _ => ?_))
    rw [e_noBit ha, ob1_s, (bz_1 _).mpr h]
    refine ok_gr ⟨by omega, by omega⟩ (ok_if (fun z => by omega) (fun _ => ?_))
    exact ⟨_, tot_q hF hz (Or.inr rfl), rfl⟩
theorem tot_1 {A S : Int → Int} {a : Int} (hF : 200 ≤ F) (hz : 1 ≤ size ∧ size ≤ 48) : g_T_total F 0 A size a = some 1 ∧ f_M_total F size 0 S a = some (0, 1) := by
  constructor
  · unfold g_T_total
    rw [nA0, og_s]
  · apply ok_eq
    unfold f_M_total
    refine ok_gr ⟨by omega, by omega⟩ (ok_if (fun _ => ?_) (fun z => absurd rfl z))
    exact ⟨_, tot_q hF hz (Or.inl rfl), rfl⟩
-- leastPeriod
theorem lpe_v {LM LF ww wo per wid : Int} (hw : 1 ≤ wid ∧ wid < per ∧ per ≤ 1000000) (h1 : tie ww LM) (h2 : tie wo LF) (r1 : -100000000 ≤ LM ∧ LM ≤ 1000000000) (r2 : -100000000 ≤ LF ∧ LF ≤ 1000000000) : ∃ v, f_T_leastPeriod F 1 LM LF per wid = some v ∧ f_M_leastPeriod F per wid 1 ww wo = some (v, 0) := by
  have t1 := tie_r h1 r1
  have t2 := tie_r h2 r2
  unfold tie at h1 h2
  refine ⟨if LF < 0 ∨ 1000000 < max (wid + 1) (per - LM) then -2147483648 else max (wid + 1) (per - LM), ?_, ?_⟩
  · apply ok_eq
    unfold f_T_leastPeriod
    rw [nA1, ob0_s]
    refine ok_ob1 (P := fun r => r = _) ?_ (fun a1 hh => ok_some.mpr hh)
    unfold f_Slacks_leastPeriodKept f_Slacks_leastPeriodKept_j38
    refine ok_gr ⟨by omega, by omega⟩ (ok_gr ⟨by omega, by omega⟩ (ok_bd.mpr (ok_gr ⟨by omega, by omega⟩ (ok_if (fun q => ok_some.mpr ?_) (fun q => ok_gr ⟨by omega, by omega⟩ (ok_if (fun q2 => ok_some.mpr ?_) (fun q2 => ok_some.mpr ?_)))))))
    · rw [if_pos (Or.inl q)]
    · rw [if_neg (by omega)]
    · rw [if_pos (Or.inr (by omega))]
  · apply ok_eq
    unfold f_M_leastPeriod f_M_leastPeriod_j13 f_M_leastPeriod_j44 f_M_leastPeriod_j71 f_M_leastPeriod_j90
    by_cases hcase : LF < 0 ∨ 1000000 < max (wid + 1) (per - LM)
    · rw [if_pos hcase]
      (repeat' (first | refine ok_gr ⟨by omega, by omega⟩ ?_ | refine ok_gi ⟨by omega, by omega⟩ ?_ | refine ok_gb (by omega) ?_ | refine ok_gp ⟨by omega, by omega⟩ ?_ | refine ok_some.mpr ?_ | refine ok_if (fun _ => ?_) (fun _ => ?_))) <;> first | rfl | (exfalso; omega)
    · rw [if_neg hcase]
      (repeat' (first | refine ok_gr ⟨by omega, by omega⟩ ?_ | refine ok_gi ⟨by omega, by omega⟩ ?_ | refine ok_gb (by omega) ?_ | refine ok_gp ⟨by omega, by omega⟩ ?_ | refine ok_some.mpr ?_ | refine ok_if (fun _ => ?_) (fun _ => ?_))) <;> first | (exfalso; omega) | (refine Prod.ext ?_ rfl; simp only; omega)
theorem lpe_1 {LM LF ww wo per wid : Int} : g_T_leastPeriod F 0 LM LF per wid = some 1 ∧ f_M_leastPeriod F per wid 0 ww wo = some (0, 1) := by
  constructor
  · unfold g_T_leastPeriod
    rw [nA0, og_s]
  · rfl
-- paths
theorem lc_4000 (x : Int64) : (0 < lc x 4000 ↔ 4000 < x.toInt) ∧ (lc x 4000 ≤ 0 ↔ x.toInt ≤ 4000) := by
  have h := lc_pos (x := x) (y := 4000)
  rw [show (4000 : Int64).toInt = 4000 from rfl] at h
  exact ⟨h, by omega⟩
theorem pat_v {pc : Int} {all : Int64} (h : pc = min all.toInt 4001 ∧ 0 ≤ all.toInt ∧ all.toInt ≤ 1000000000) : ∃ v, f_T_paths F 1 pc = some v ∧ f_M_paths F 1 all = some (v, 0) := by
  have hl := lc_4000 all
  have hr := lc_r all 4000
  have h32 : (Int64.toInt32 all).toInt = all.toInt := by
    rw [Int64.toInt_toInt32]
    exact Int.bmod_eq_of_le (by show -(4294967296 / 2) ≤ all.toInt; omega) (by show all.toInt < (4294967296 + 1) / 2; omega)
  refine ⟨if pc ≤ 4000 then pc else -3, ?_, ?_⟩
  · apply ok_eq
    unfold f_T_paths
    rw [nA1, ob0_s]
    refine ok_gr ⟨by omega, by omega⟩ (ok_if (fun q => ok_some.mpr (by rw [if_pos q])) (fun q => ok_some.mpr (by rw [if_neg q])))
  · apply ok_eq
    unfold f_M_paths f_M_paths_j13
    rw [h32]
    refine ok_gr ⟨by omega, by omega⟩ (ok_if (fun z => by omega) (fun _ => ok_gr ⟨by omega, by omega⟩ (ok_if (fun _ => ok_gr hr (ok_if (fun q => ok_some.mpr ?_) (fun q => ok_some.mpr ?_))) (fun z => by omega))))
    · rw [if_pos (by omega), show pc = all.toInt by omega]
    · rw [if_neg (by omega)]
theorem pat_1 {pc : Int} {all : Int64} : g_T_paths F 0 pc = some 1 ∧ f_M_paths F 0 all = some (0, 1) := by
  constructor
  · unfold g_T_paths
    rw [nA0, og_s]
  · rfl
end GET
