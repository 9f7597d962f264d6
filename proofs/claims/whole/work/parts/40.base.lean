/-! small methods of class and reference, as equations -/
theorem ui_z {A : Int → Int} {i v : Int} (h : A i = v) : ui A i v = A := by rw [← h]; exact ui_id A i
theorem e_isWithin {F : Nat} {a b c : Int} (ha : -2147483648 ≤ a ∧ a ≤ 2147483647) (hb : -2147483648 ≤ b ∧ b ≤ 2147483647) (hc : -2147483648 ≤ c ∧ c ≤ 2147483647) : f_T_isWithin F a b c = some (bz (b ≤ a ∧ a ≤ c)) := by
  apply ok_eq
  unfold f_T_isWithin
  (repeat' (first | refine ok_gr ⟨by omega, by omega⟩ ?_ | refine ok_gi ⟨by omega, by omega⟩ ?_ | refine ok_gb (by omega) ?_ | refine ok_gp ⟨by omega, by omega⟩ ?_ | refine ok_some.mpr ?_ | refine ok_if (fun _ => ?_) (fun _ => ?_))) <;> (unfold bz; first | rw [if_pos (by omega)] | rw [if_neg (by omega)])
theorem e_isInputTime {F : Nat} {a b : Int} (ha : -2147483648 ≤ a ∧ a ≤ 2147483647) (hb : -2147483648 ≤ b ∧ b ≤ 2147483647) : f_T_isInputTime F a b = some (bz (-1000000 ≤ a ∧ b ≤ 1000000 ∧ a ≤ b)) := by
  apply ok_eq
  unfold f_T_isInputTime
  (repeat' (first | refine ok_gr ⟨by omega, by omega⟩ ?_ | refine ok_gi ⟨by omega, by omega⟩ ?_ | refine ok_gb (by omega) ?_ | refine ok_gp ⟨by omega, by omega⟩ ?_ | refine ok_some.mpr ?_ | refine ok_if (fun _ => ?_) (fun _ => ?_))) <;> (unfold bz; first | rw [if_pos (by omega)] | rw [if_neg (by omega)])
theorem e_isDelay {F : Nat} {a b : Int} (ha : -2147483648 ≤ a ∧ a ≤ 2147483647) (hb : -2147483648 ≤ b ∧ b ≤ 2147483647) : f_T_isDelay F a b = some (bz (0 ≤ a ∧ b ≤ 10000 ∧ a ≤ b)) := by
  apply ok_eq
  unfold f_T_isDelay
  (repeat' (first | refine ok_gr ⟨by omega, by omega⟩ ?_ | refine ok_gi ⟨by omega, by omega⟩ ?_ | refine ok_gb (by omega) ?_ | refine ok_gp ⟨by omega, by omega⟩ ?_ | refine ok_some.mpr ?_ | refine ok_if (fun _ => ?_) (fun _ => ?_))) <;> (unfold bz; first | rw [if_pos (by omega)] | rw [if_neg (by omega)])
theorem e_isBit {F : Nat} {a : Int} (ha : -2147483648 ≤ a ∧ a ≤ 2147483647) : f_T_isBit F a = some (bz (a = 0 ∨ a = 1)) := by
  apply ok_eq
  unfold f_T_isBit
  (repeat' (first | refine ok_gr ⟨by omega, by omega⟩ ?_ | refine ok_gi ⟨by omega, by omega⟩ ?_ | refine ok_gb (by omega) ?_ | refine ok_gp ⟨by omega, by omega⟩ ?_ | refine ok_some.mpr ?_ | refine ok_if (fun _ => ?_) (fun _ => ?_))) <;> (unfold bz; first | rw [if_pos (by omega)] | rw [if_neg (by omega)])
theorem e_isCheckTime {F : Nat} {a : Int} (ha : -2147483648 ≤ a ∧ a ≤ 2147483647) : f_T_isCheckTime F a = some (bz (-10000 ≤ a ∧ a ≤ 10000)) := by
  apply ok_eq
  unfold f_T_isCheckTime
  rw [e_isWithin ha (by omega) (by omega), ob1_s]
  have := bz_01 (-10000 ≤ a ∧ a ≤ 10000)
  (repeat' (first | refine ok_gr ⟨by omega, by omega⟩ ?_ | refine ok_gi ⟨by omega, by omega⟩ ?_ | refine ok_gb (by omega) ?_ | refine ok_gp ⟨by omega, by omega⟩ ?_ | refine ok_some.mpr ?_ | refine ok_if (fun _ => ?_) (fun _ => ?_)))
  rfl
theorem e_isNode {F : Nat} {size n : Int} (hz : 1 ≤ size ∧ size ≤ 48) (ha : -2147483648 ≤ n ∧ n ≤ 2147483647) : f_Net_isNode F size n = some (bz (0 ≤ n ∧ n < size)) := by
  apply ok_eq
  unfold f_Net_isNode
  rw [e_isWithin ha (by omega) (by omega), ob1_s]
  have := bz_01 (0 ≤ n ∧ n ≤ size - 1)
  (repeat' (first | refine ok_gr ⟨by omega, by omega⟩ ?_ | refine ok_gi ⟨by omega, by omega⟩ ?_ | refine ok_gb (by omega) ?_ | refine ok_gp ⟨by omega, by omega⟩ ?_ | refine ok_some.mpr ?_ | refine ok_if (fun _ => ?_) (fun _ => ?_)))
  exact bz_cg (by omega)
theorem e_hasPin {F : Nat} {size n p : Int} {pn : Int → Int} (hz : 1 ≤ size ∧ size ≤ 48) (hp : ∀ i, 0 ≤ pn i ∧ pn i ≤ 3) (ha : -2147483648 ≤ n ∧ n ≤ 2147483647) (hb : -2147483648 ≤ p ∧ p ≤ 2147483647) : f_Net_hasPin F size pn n p = some (bz ((0 ≤ n ∧ n < size) ∧ 0 ≤ p ∧ p < pn n)) := by
  apply ok_eq
  unfold f_Net_hasPin
  rw [e_isNode hz ha, ob1_s]
  have h1 := bz_01 (0 ≤ n ∧ n < size)
  have h2 := bz_1 (0 ≤ n ∧ n < size)
  have h3 := hp n
  refine ok_gr ⟨by omega, by omega⟩ (ok_if (fun q => ?_) (fun q => ?_))
  · (repeat' (first | refine ok_gr ⟨by omega, by omega⟩ ?_ | refine ok_gi ⟨by omega, by omega⟩ ?_ | refine ok_gb (by omega) ?_ | refine ok_gp ⟨by omega, by omega⟩ ?_ | refine ok_some.mpr ?_ | refine ok_if (fun _ => ?_) (fun _ => ?_))); (unfold bz; first | rw [if_pos (by omega)] | rw [if_neg (by omega)])
  · refine ok_gi ⟨by omega, by omega⟩ ?_
    rw [e_isWithin hb (by omega) (by omega), ob1_s]
    have h4 := bz_01 (0 ≤ p ∧ p ≤ pn n - 1)
    have h5 := bz_1 (0 ≤ p ∧ p ≤ pn n - 1)
    (repeat' (first | refine ok_gr ⟨by omega, by omega⟩ ?_ | refine ok_gi ⟨by omega, by omega⟩ ?_ | refine ok_gb (by omega) ?_ | refine ok_gp ⟨by omega, by omega⟩ ?_ | refine ok_some.mpr ?_ | refine ok_if (fun _ => ?_) (fun _ => ?_))) <;> (unfold bz; first | rw [if_pos (by omega)] | rw [if_neg (by omega)])
theorem e_maySend {F : Nat} {size n : Int} {kd : Int → Int} (hz : 1 ≤ size ∧ size ≤ 48) (hk : ∀ i, 0 ≤ kd i ∧ kd i ≤ 4) (ha : -2147483648 ≤ n ∧ n ≤ 2147483647) : f_Net_maySend F size kd n = some (bz ((0 ≤ n ∧ n < size) ∧ kd n ≠ 4)) := by
  apply ok_eq
  unfold f_Net_maySend
  rw [e_isNode hz ha, ob1_s]
  have h1 := bz_01 (0 ≤ n ∧ n < size)
  have h2 := bz_1 (0 ≤ n ∧ n < size)
  have h3 := hk n
  (repeat' (first | refine ok_gr ⟨by omega, by omega⟩ ?_ | refine ok_gi ⟨by omega, by omega⟩ ?_ | refine ok_gb (by omega) ?_ | refine ok_gp ⟨by omega, by omega⟩ ?_ | refine ok_some.mpr ?_ | refine ok_if (fun _ => ?_) (fun _ => ?_))) <;> (unfold bz; first | rw [if_pos (by omega)] | rw [if_neg (by omega)])
theorem e_hasDelay {F : Nat} {size n p : Int} {kd pn : Int → Int} (hz : 1 ≤ size ∧ size ≤ 48) (hk : ∀ i, 0 ≤ kd i ∧ kd i ≤ 4) (hp : ∀ i, 0 ≤ pn i ∧ pn i ≤ 3) (ha : -2147483648 ≤ n ∧ n ≤ 2147483647) (hb : -2147483648 ≤ p ∧ p ≤ 2147483647) : f_Net_hasDelay F size kd pn n p = some (bz (((0 ≤ n ∧ n < size) ∧ 0 ≤ p ∧ p < pn n) ∧ (kd n = 2 ∨ kd n = 3 ∧ p = 1))) := by
  apply ok_eq
  unfold f_Net_hasDelay
  rw [e_hasPin hz hp ha hb, ob1_s]
  have h1 := bz_01 ((0 ≤ n ∧ n < size) ∧ 0 ≤ p ∧ p < pn n)
  have h2 := bz_1 ((0 ≤ n ∧ n < size) ∧ 0 ≤ p ∧ p < pn n)
  have h3 := hk n
  (repeat' (first | refine ok_gr ⟨by omega, by omega⟩ ?_ | refine ok_gi ⟨by omega, by omega⟩ ?_ | refine ok_gb (by omega) ?_ | refine ok_gp ⟨by omega, by omega⟩ ?_ | refine ok_some.mpr ?_ | refine ok_if (fun _ => ?_) (fun _ => ?_))) <;> (unfold bz; first | rw [if_pos (by omega)] | rw [if_neg (by omega)])
theorem e_isEnd {F : Nat} {size n : Int} {kd : Int → Int} (hz : 1 ≤ size ∧ size ≤ 48) (hk : ∀ i, 0 ≤ kd i ∧ kd i ≤ 4) (ha : -2147483648 ≤ n ∧ n ≤ 2147483647) : f_Net_isEnd F size kd n = some (bz ((0 ≤ n ∧ n < size) ∧ (kd n = 4 ∨ kd n = 3))) := by
  apply ok_eq
  unfold f_Net_isEnd
  rw [e_isNode hz ha, ob1_s]
  have h1 := bz_01 (0 ≤ n ∧ n < size)
  have h2 := bz_1 (0 ≤ n ∧ n < size)
  have h3 := hk n
  (repeat' (first | refine ok_gr ⟨by omega, by omega⟩ ?_ | refine ok_gi ⟨by omega, by omega⟩ ?_ | refine ok_gb (by omega) ?_ | refine ok_gp ⟨by omega, by omega⟩ ?_ | refine ok_some.mpr ?_ | refine ok_if (fun _ => ?_) (fun _ => ?_))) <;> (unfold bz; first | rw [if_pos (by omega)] | rw [if_neg (by omega)])
theorem e_isStart {F : Nat} {size n : Int} {kd : Int → Int} (hz : 1 ≤ size ∧ size ≤ 48) (hk : ∀ i, 0 ≤ kd i ∧ kd i ≤ 4) (ha : -2147483648 ≤ n ∧ n ≤ 2147483647) : f_Net_isStart F size kd n = some (bz ((0 ≤ n ∧ n < size) ∧ (kd n = 1 ∨ kd n = 3))) := by
  apply ok_eq
  unfold f_Net_isStart
  rw [e_isNode hz ha, ob1_s]
  have h1 := bz_01 (0 ≤ n ∧ n < size)
  have h2 := bz_1 (0 ≤ n ∧ n < size)
  have h3 := hk n
  (repeat' (first | refine ok_gr ⟨by omega, by omega⟩ ?_ | refine ok_gi ⟨by omega, by omega⟩ ?_ | refine ok_gb (by omega) ?_ | refine ok_gp ⟨by omega, by omega⟩ ?_ | refine ok_some.mpr ?_ | refine ok_if (fun _ => ?_) (fun _ => ?_))) <;> (unfold bz; first | rw [if_pos (by omega)] | rw [if_neg (by omega)])
theorem e_noTimes {F : Nat} {a b c d : Int} (ha : -2147483648 ≤ a ∧ a ≤ 2147483647) (hb : -2147483648 ≤ b ∧ b ≤ 2147483647) (hc : -2147483648 ≤ c ∧ c ≤ 2147483647) (hd : -2147483648 ≤ d ∧ d ≤ 2147483647) : f_M_noTimes F a b c d = some (bz (¬ (d ≤ a ∧ b ≤ c ∧ a ≤ b))) := by
  apply ok_eq
  unfold f_M_noTimes
  (repeat' (first | refine ok_gr ⟨by omega, by omega⟩ ?_ | refine ok_gi ⟨by omega, by omega⟩ ?_ | refine ok_gb (by omega) ?_ | refine ok_gp ⟨by omega, by omega⟩ ?_ | refine ok_some.mpr ?_ | refine ok_if (fun _ => ?_) (fun _ => ?_))) <;> (unfold bz; first | rw [if_pos (by omega)] | rw [if_neg (by omega)])
theorem e_noPin {F : Nat} {size n p : Int} {pn : Int → Int} (hz : 1 ≤ size ∧ size ≤ 48) (hp : ∀ i, 0 ≤ pn i ∧ pn i ≤ 3) (ha : -2147483648 ≤ n ∧ n ≤ 2147483647) (hb : -2147483648 ≤ p ∧ p ≤ 2147483647) : f_M_noPin F size pn n p = some (bz (¬ ((0 ≤ n ∧ n < size) ∧ 0 ≤ p ∧ p < pn n))) := by
  apply ok_eq
  unfold f_M_noPin
  have h3 := hp n
  (repeat' (first | refine ok_gr ⟨by omega, by omega⟩ ?_ | refine ok_gi ⟨by omega, by omega⟩ ?_ | refine ok_gb (by omega) ?_ | refine ok_gp ⟨by omega, by omega⟩ ?_ | refine ok_some.mpr ?_ | refine ok_if (fun _ => ?_) (fun _ => ?_))) <;> (unfold bz; first | rw [if_pos (by omega)] | rw [if_neg (by omega)])
theorem e_MisEnd {F : Nat} {size n : Int} {kd : Int → Int} (hz : 1 ≤ size ∧ size ≤ 48) (hk : ∀ i, 0 ≤ kd i ∧ kd i ≤ 4) (ha : -2147483648 ≤ n ∧ n ≤ 2147483647) : f_M_isEnd F size kd n = some (bz ((0 ≤ n ∧ n < size) ∧ (kd n = 4 ∨ kd n = 3))) := by
  apply ok_eq
  unfold f_M_isEnd
  have h3 := hk n
  (repeat' (first | refine ok_gr ⟨by omega, by omega⟩ ?_ | refine ok_gi ⟨by omega, by omega⟩ ?_ | refine ok_gb (by omega) ?_ | refine ok_gp ⟨by omega, by omega⟩ ?_ | refine ok_some.mpr ?_ | refine ok_if (fun _ => ?_) (fun _ => ?_))) <;> (unfold bz; first | rw [if_pos (by omega)] | rw [if_neg (by omega)])
theorem e_noBit {F : Nat} {a : Int} (ha : -2147483648 ≤ a ∧ a ≤ 2147483647) : f_M_noBit F a = some (bz (¬ (a = 0 ∨ a = 1))) := by
  apply ok_eq
  unfold f_M_noBit
  (repeat' (first | refine ok_gr ⟨by omega, by omega⟩ ?_ | refine ok_gi ⟨by omega, by omega⟩ ?_ | refine ok_gb (by omega) ?_ | refine ok_gp ⟨by omega, by omega⟩ ?_ | refine ok_some.mpr ?_ | refine ok_if (fun _ => ?_) (fun _ => ?_))) <;> (unfold bz; first | rw [if_pos (by omega)] | rw [if_neg (by omega)])
theorem e_isGate {F : Nat} {n : Int} {kd : Int → Int} (hk : ∀ i, 0 ≤ kd i ∧ kd i ≤ 4) (ha : -2147483648 ≤ n ∧ n < 48) : f_M_isGate F kd n = some (bz (0 ≤ n ∧ kd n = 2)) := by
  apply ok_eq
  unfold f_M_isGate
  have h3 := hk n
  (repeat' (first | refine ok_gr ⟨by omega, by omega⟩ ?_ | refine ok_gi ⟨by omega, by omega⟩ ?_ | refine ok_gb (by omega) ?_ | refine ok_gp ⟨by omega, by omega⟩ ?_ | refine ok_some.mpr ?_ | refine ok_if (fun _ => ?_) (fun _ => ?_))) <;> (unfold bz; first | rw [if_pos (by omega)] | rw [if_neg (by omega)])
theorem e_lets {F : Nat} {se : Int → Int} {i was is : Int} (hs : ∀ i, 0 ≤ se i ∧ se i ≤ 2) (hi : 0 ≤ i ∧ i < 144) (h1 : was = 0 ∨ was = 1) (h2 : is = 0 ∨ is = 1) : f_Net_lets F se i was is = some (bz (ltz (se i) was is = true)) := by
  apply ok_eq
  unfold f_Net_lets
  have h3 := hs i
  have h4 : ltz (se i) was is = true ↔ (se i = 2 ∨ (se i = 1 ∧ was ≠ is) ∨ (se i = 0 ∧ was = is)) := by
    unfold ltz
    by_cases q : se i = 2
    · rw [if_pos q]; simp [q]
    · rw [if_neg q, decide_eq_true_iff]; omega
  rw [bz_cg h4]
  (repeat' (first | refine ok_gr ⟨by omega, by omega⟩ ?_ | refine ok_gi ⟨by omega, by omega⟩ ?_ | refine ok_gb (by omega) ?_ | refine ok_gp ⟨by omega, by omega⟩ ?_ | refine ok_some.mpr ?_ | refine ok_if (fun _ => ?_) (fun _ => ?_))) <;> (unfold bz; first | rw [if_pos (by omega)] | rw [if_neg (by omega)])
theorem e_Mlets {F : Nat} {se : Int → Int} {n p was is : Int} (hs : ∀ i, 0 ≤ se i ∧ se i ≤ 2) (hi : 0 ≤ 3 * n + p ∧ 3 * n + p < 144) (h1 : was = 0 ∨ was = 1) (h2 : is = 0 ∨ is = 1) : f_M_lets F se n p was is = some (bz (ltz (se (3 * n + p)) was is = true)) := by
  apply ok_eq
  unfold f_M_lets
  have h3 := hs (3 * n + p)
  have h4 : ltz (se (3 * n + p)) was is = true ↔ (se (3 * n + p) = 2 ∨ (se (3 * n + p) = 1 ∧ was ≠ is) ∨ (se (3 * n + p) = 0 ∧ was = is)) := by
    unfold ltz
    by_cases q : se (3 * n + p) = 2
    · rw [if_pos q]; simp [q]
    · rw [if_neg q, decide_eq_true_iff]; omega
  rw [bz_cg h4]
  (repeat' (first | refine ok_gr ⟨by omega, by omega⟩ ?_ | refine ok_gi ⟨by omega, by omega⟩ ?_ | refine ok_gb (by omega) ?_ | refine ok_gp ⟨by omega, by omega⟩ ?_ | refine ok_some.mpr ?_ | refine ok_if (fun _ => ?_) (fun _ => ?_))) <;> (unfold bz; first | rw [if_pos (by omega)] | rw [if_neg (by omega)])
theorem e_stepEarly {F : Nat} {wE gE : Int → Int} {i c : Int} (hi : 0 ≤ i ∧ i < 144) (hc : c = 0 ∨ c = 1) : f_Net_stepEarly F wE gE i c = some (wE i + gE (2 * i + c)) := by
  apply ok_eq
  unfold f_Net_stepEarly
  (repeat' (first | refine ok_gr ⟨by omega, by omega⟩ ?_ | refine ok_gi ⟨by omega, by omega⟩ ?_ | refine ok_gb (by omega) ?_ | refine ok_gp ⟨by omega, by omega⟩ ?_ | refine ok_some.mpr ?_ | refine ok_if (fun _ => ?_) (fun _ => ?_)))
  rfl
theorem e_stepLate {F : Nat} {wE gE : Int → Int} {i c : Int} (hi : 0 ≤ i ∧ i < 144) (hc : c = 0 ∨ c = 1) : f_Net_stepLate F wE gE i c = some (wE i + gE (2 * i + c)) := by
  apply ok_eq
  unfold f_Net_stepLate
  (repeat' (first | refine ok_gr ⟨by omega, by omega⟩ ?_ | refine ok_gi ⟨by omega, by omega⟩ ?_ | refine ok_gb (by omega) ?_ | refine ok_gp ⟨by omega, by omega⟩ ?_ | refine ok_some.mpr ?_ | refine ok_if (fun _ => ?_) (fun _ => ?_)))
  rfl
theorem e_elementOf {F : Nat} {n p c : Int} : f_T_elementOf F n p c = some (8 * n + 2 * p + c) := by
  apply ok_eq
  unfold f_T_elementOf
  (repeat' (first | refine ok_gr ⟨by omega, by omega⟩ ?_ | refine ok_gi ⟨by omega, by omega⟩ ?_ | refine ok_gb (by omega) ?_ | refine ok_gp ⟨by omega, by omega⟩ ?_ | refine ok_some.mpr ?_ | refine ok_if (fun _ => ?_) (fun _ => ?_)))
  rfl
