/-! the calls that edit the net, both sides -/
section OPS
variable {F : Nat} {size per wid : Int} {kd pn so wE wL se gE gL sE sL su ho : Int → Int} {mper mwid msize : Int} {mk mp fr mwE mwL mse dE dL fo sc : Int → Int}
theorem t_wire {a b f x y : Int} (hN : InvN size per wid kd pn so wE wL se gE gL sE sL su ho) (ha : -2147483648 ≤ a ∧ a ≤ 2147483647) (hb : -2147483648 ≤ b ∧ b ≤ 2147483647) (hf : -2147483648 ≤ f ∧ f ≤ 2147483647) (hx : -2147483648 ≤ x ∧ x ≤ 2147483647) (hy : -2147483648 ≤ y ∧ y ≤ 2147483647) (h : ((0 ≤ a ∧ a < size) ∧ 0 ≤ b ∧ b < pn a) ∧ ((0 ≤ f ∧ f < size) ∧ kd f ≠ 4) ∧ (0 ≤ x ∧ y ≤ 10000 ∧ x ≤ y)) : f_T_wire F size kd pn so wE wL a b f x y = some (0, ui so (a * 3 + b) f, ui wE (a * 3 + b) x, ui wL (a * 3 + b) y) := by
  obtain ⟨n1, n2, n3, n4, n5, n6, n7, n8, n9, n10, n11, n12, n13, n14, n15⟩ := hN
  clear n2 n3 n5 n7 n8 n9 n10 n11 n12 n13 n14 n15
  have hp := n6 a
  apply ok_eq
  unfold f_T_wire
  rw [e_hasPin n1 n6 ha hb, ob1_s, e_maySend n1 n4 hf, ob1_s, e_isDelay hx hy, ob1_s]
  have z0 := bz_1 ((0 ≤ a ∧ a < size) ∧ 0 ≤ b ∧ b < pn a)
  have y0 := bz_01 ((0 ≤ a ∧ a < size) ∧ 0 ≤ b ∧ b < pn a)
  have z1 := bz_1 ((0 ≤ f ∧ f < size) ∧ kd f ≠ 4)
  have y1 := bz_01 ((0 ≤ f ∧ f < size) ∧ kd f ≠ 4)
  have z2 := bz_1 (0 ≤ x ∧ y ≤ 10000 ∧ x ≤ y)
  have y2 := bz_01 (0 ≤ x ∧ y ≤ 10000 ∧ x ≤ y)
  have e : f_Net_setWire F so wE wL (a * 3 + b) f x y = some (ui so (a * 3 + b) f, ui wE (a * 3 + b) x, ui wL (a * 3 + b) y) := by
    apply ok_eq
    unfold f_Net_setWire
    (repeat' (first | refine ok_gr ⟨by omega, by omega⟩ ?_ | refine ok_gi ⟨by omega, by omega⟩ ?_ | refine ok_gb (by omega) ?_ | refine ok_gp ⟨by omega, by omega⟩ ?_ | refine ok_some.mpr ?_ | refine ok_if (fun _ => ?_) (fun _ => ?_)))
    rfl
  rw [e, ob3_s]
  (repeat' (first | refine ok_gr ⟨by omega, by omega⟩ ?_ | refine ok_gi ⟨by omega, by omega⟩ ?_ | refine ok_gb (by omega) ?_ | refine ok_gp ⟨by omega, by omega⟩ ?_ | refine ok_some.mpr ?_ | refine ok_if (fun _ => ?_) (fun _ => ?_))) <;> first | rfl | (exfalso; omega)
theorem t_wire0 {a b f x y : Int} (hN : InvN size per wid kd pn so wE wL se gE gL sE sL su ho) (ha : -2147483648 ≤ a ∧ a ≤ 2147483647) (hb : -2147483648 ≤ b ∧ b ≤ 2147483647) (hf : -2147483648 ≤ f ∧ f ≤ 2147483647) (hx : -2147483648 ≤ x ∧ x ≤ 2147483647) (hy : -2147483648 ≤ y ∧ y ≤ 2147483647) (h : ¬ (((0 ≤ a ∧ a < size) ∧ 0 ≤ b ∧ b < pn a) ∧ ((0 ≤ f ∧ f < size) ∧ kd f ≠ 4) ∧ (0 ≤ x ∧ y ≤ 10000 ∧ x ≤ y))) : g_T_wire F size kd pn a b f x y = some 0 := by
  obtain ⟨n1, n2, n3, n4, n5, n6, n7, n8, n9, n10, n11, n12, n13, n14, n15⟩ := hN
  clear n2 n3 n5 n7 n8 n9 n10 n11 n12 n13 n14 n15
  apply ok_eq
  unfold g_T_wire
  rw [e_hasPin n1 n6 ha hb, ob1_s, e_maySend n1 n4 hf, ob1_s, e_isDelay hx hy, ob1_s]
  have z0 := bz_1 ((0 ≤ a ∧ a < size) ∧ 0 ≤ b ∧ b < pn a)
  have y0 := bz_01 ((0 ≤ a ∧ a < size) ∧ 0 ≤ b ∧ b < pn a)
  have z1 := bz_1 ((0 ≤ f ∧ f < size) ∧ kd f ≠ 4)
  have y1 := bz_01 ((0 ≤ f ∧ f < size) ∧ kd f ≠ 4)
  have z2 := bz_1 (0 ≤ x ∧ y ≤ 10000 ∧ x ≤ y)
  have y2 := bz_01 (0 ≤ x ∧ y ≤ 10000 ∧ x ≤ y)
  (repeat' (first | refine ok_gr ⟨by omega, by omega⟩ ?_ | refine ok_gi ⟨by omega, by omega⟩ ?_ | refine ok_gb (by omega) ?_ | refine ok_gp ⟨by omega, by omega⟩ ?_ | refine ok_some.mpr ?_ | refine ok_if (fun _ => ?_) (fun _ => ?_))) <;> first | rfl | (exfalso; omega)
theorem t_sense {a b x : Int} (hN : InvN size per wid kd pn so wE wL se gE gL sE sL su ho) (ha : -2147483648 ≤ a ∧ a ≤ 2147483647) (hb : -2147483648 ≤ b ∧ b ≤ 2147483647) (hx : -2147483648 ≤ x ∧ x ≤ 2147483647) (h : ((0 ≤ a ∧ a < size) ∧ 0 ≤ b ∧ b < pn a) ∧ kd a = 2 ∧ (0 ≤ x ∧ x ≤ 2)) : f_T_sense F size kd pn se a b x = some (0, ui se (a * 3 + b) x) := by
  obtain ⟨n1, n2, n3, n4, n5, n6, n7, n8, n9, n10, n11, n12, n13, n14, n15⟩ := hN
  clear n2 n3 n5 n7 n8 n9 n10 n11 n12 n13 n14 n15
  have hp := n6 a
  have hk := n4 a
  apply ok_eq
  unfold f_T_sense
  rw [e_hasPin n1 n6 ha hb, ob1_s, e_isWithin hx (by omega) (by omega), ob1_s]
  have z0 := bz_1 ((0 ≤ a ∧ a < size) ∧ 0 ≤ b ∧ b < pn a)
  have y0 := bz_01 ((0 ≤ a ∧ a < size) ∧ 0 ≤ b ∧ b < pn a)
  have z1 := bz_1 (0 ≤ x ∧ x ≤ 2)
  have y1 := bz_01 (0 ≤ x ∧ x ≤ 2)
  (repeat' (first | refine ok_gr ⟨by omega, by omega⟩ ?_ | refine ok_gi ⟨by omega, by omega⟩ ?_ | refine ok_gb (by omega) ?_ | refine ok_gp ⟨by omega, by omega⟩ ?_ | refine ok_some.mpr ?_ | refine ok_if (fun _ => ?_) (fun _ => ?_))) <;> first | rfl | (exfalso; omega)
theorem t_sense0 {a b x : Int} (hN : InvN size per wid kd pn so wE wL se gE gL sE sL su ho) (ha : -2147483648 ≤ a ∧ a ≤ 2147483647) (hb : -2147483648 ≤ b ∧ b ≤ 2147483647) (hx : -2147483648 ≤ x ∧ x ≤ 2147483647) (h : ¬ (((0 ≤ a ∧ a < size) ∧ 0 ≤ b ∧ b < pn a) ∧ kd a = 2 ∧ (0 ≤ x ∧ x ≤ 2))) : g_T_sense F size kd pn a b x = some 0 := by
  obtain ⟨n1, n2, n3, n4, n5, n6, n7, n8, n9, n10, n11, n12, n13, n14, n15⟩ := hN
  clear n2 n3 n5 n7 n8 n9 n10 n11 n12 n13 n14 n15
  have hp := n6 a
  have hk := n4 a
  apply ok_eq
  unfold g_T_sense
  rw [e_hasPin n1 n6 ha hb, ob1_s, e_isWithin hx (by omega) (by omega), ob1_s]
  have z0 := bz_1 ((0 ≤ a ∧ a < size) ∧ 0 ≤ b ∧ b < pn a)
  have y0 := bz_01 ((0 ≤ a ∧ a < size) ∧ 0 ≤ b ∧ b < pn a)
  have z1 := bz_1 (0 ≤ x ∧ x ≤ 2)
  have y1 := bz_01 (0 ≤ x ∧ x ≤ 2)
  (repeat' (first | refine ok_gr ⟨by omega, by omega⟩ ?_ | refine ok_gi ⟨by omega, by omega⟩ ?_ | refine ok_gb (by omega) ?_ | refine ok_gp ⟨by omega, by omega⟩ ?_ | refine ok_some.mpr ?_ | refine ok_if (fun _ => ?_) (fun _ => ?_))) <;> first | rfl | (exfalso; omega)
theorem t_delay {a b c x y : Int} (hN : InvN size per wid kd pn so wE wL se gE gL sE sL su ho) (ha : -2147483648 ≤ a ∧ a ≤ 2147483647) (hb : -2147483648 ≤ b ∧ b ≤ 2147483647) (hc : -2147483648 ≤ c ∧ c ≤ 2147483647) (hx : -2147483648 ≤ x ∧ x ≤ 2147483647) (hy : -2147483648 ≤ y ∧ y ≤ 2147483647) (h : (((0 ≤ a ∧ a < size) ∧ 0 ≤ b ∧ b < pn a) ∧ (kd a = 2 ∨ kd a = 3 ∧ b = 1)) ∧ (c = 0 ∨ c = 1) ∧ (0 ≤ x ∧ y ≤ 10000 ∧ x ≤ y)) (hk2 : kd a = 2) : f_T_delay F size kd pn gE gL sE sL a b c x y = some (0, ui gE (2 * (a * 3 + b) + c) x, ui gL (2 * (a * 3 + b) + c) y, sE, sL) := by
  obtain ⟨n1, n2, n3, n4, n5, n6, n7, n8, n9, n10, n11, n12, n13, n14, n15⟩ := hN
  clear n2 n3 n5 n7 n8 n9 n10 n11 n12 n13 n14 n15
  have hp := n6 a
  apply ok_eq
  unfold f_T_delay
  rw [e_hasDelay n1 n4 n6 ha hb, ob1_s, e_isBit hc, ob1_s, e_isDelay hx hy, ob1_s]
  have z0 := bz_1 (((0 ≤ a ∧ a < size) ∧ 0 ≤ b ∧ b < pn a) ∧ (kd a = 2 ∨ kd a = 3 ∧ b = 1))
  have y0 := bz_01 (((0 ≤ a ∧ a < size) ∧ 0 ≤ b ∧ b < pn a) ∧ (kd a = 2 ∨ kd a = 3 ∧ b = 1))
  have z1 := bz_1 (c = 0 ∨ c = 1)
  have y1 := bz_01 (c = 0 ∨ c = 1)
  have z2 := bz_1 (0 ≤ x ∧ y ≤ 10000 ∧ x ≤ y)
  have y2 := bz_01 (0 ≤ x ∧ y ≤ 10000 ∧ x ≤ y)
  have e : f_Net_setGateDelay F gE gL (a * 3 + b) c x y = some (ui gE (2 * (a * 3 + b) + c) x, ui gL (2 * (a * 3 + b) + c) y) := by
    apply ok_eq
    unfold f_Net_setGateDelay
    (repeat' (first | refine ok_gr ⟨by omega, by omega⟩ ?_ | refine ok_gi ⟨by omega, by omega⟩ ?_ | refine ok_gb (by omega) ?_ | refine ok_gp ⟨by omega, by omega⟩ ?_ | refine ok_some.mpr ?_ | refine ok_if (fun _ => ?_) (fun _ => ?_)))
    rfl
  rw [e, ob2_s]
  (repeat' (first | refine ok_gr ⟨by omega, by omega⟩ ?_ | refine ok_gi ⟨by omega, by omega⟩ ?_ | refine ok_gb (by omega) ?_ | refine ok_gp ⟨by omega, by omega⟩ ?_ | refine ok_some.mpr ?_ | refine ok_if (fun _ => ?_) (fun _ => ?_))) <;> first | rfl | (exfalso; omega)
theorem t_delay3 {a b c x y : Int} (hN : InvN size per wid kd pn so wE wL se gE gL sE sL su ho) (ha : -2147483648 ≤ a ∧ a ≤ 2147483647) (hb : -2147483648 ≤ b ∧ b ≤ 2147483647) (hc : -2147483648 ≤ c ∧ c ≤ 2147483647) (hx : -2147483648 ≤ x ∧ x ≤ 2147483647) (hy : -2147483648 ≤ y ∧ y ≤ 2147483647) (h : (((0 ≤ a ∧ a < size) ∧ 0 ≤ b ∧ b < pn a) ∧ (kd a = 2 ∨ kd a = 3 ∧ b = 1)) ∧ (c = 0 ∨ c = 1) ∧ (0 ≤ x ∧ y ≤ 10000 ∧ x ≤ y)) (hk2 : kd a = 3) : f_T_delay F size kd pn gE gL sE sL a b c x y = some (0, gE, gL, ui sE (2 * a + c) x, ui sL (2 * a + c) y) := by
  obtain ⟨n1, n2, n3, n4, n5, n6, n7, n8, n9, n10, n11, n12, n13, n14, n15⟩ := hN
  clear n2 n3 n5 n7 n8 n9 n10 n11 n12 n13 n14 n15
  have hp := n6 a
  apply ok_eq
  unfold f_T_delay
  rw [e_hasDelay n1 n4 n6 ha hb, ob1_s, e_isBit hc, ob1_s, e_isDelay hx hy, ob1_s]
  have z0 := bz_1 (((0 ≤ a ∧ a < size) ∧ 0 ≤ b ∧ b < pn a) ∧ (kd a = 2 ∨ kd a = 3 ∧ b = 1))
  have y0 := bz_01 (((0 ≤ a ∧ a < size) ∧ 0 ≤ b ∧ b < pn a) ∧ (kd a = 2 ∨ kd a = 3 ∧ b = 1))
  have z1 := bz_1 (c = 0 ∨ c = 1)
  have y1 := bz_01 (c = 0 ∨ c = 1)
  have z2 := bz_1 (0 ≤ x ∧ y ≤ 10000 ∧ x ≤ y)
  have y2 := bz_01 (0 ≤ x ∧ y ≤ 10000 ∧ x ≤ y)
  have e : f_Net_setStart F sE sL a c x y = some (ui sE (2 * a + c) x, ui sL (2 * a + c) y) := by
    apply ok_eq
    unfold f_Net_setStart
    (repeat' (first | refine ok_gr ⟨by omega, by omega⟩ ?_ | refine ok_gi ⟨by omega, by omega⟩ ?_ | refine ok_gb (by omega) ?_ | refine ok_gp ⟨by omega, by omega⟩ ?_ | refine ok_some.mpr ?_ | refine ok_if (fun _ => ?_) (fun _ => ?_)))
    rfl
  rw [e, ob2_s]
  (repeat' (first | refine ok_gr ⟨by omega, by omega⟩ ?_ | refine ok_gi ⟨by omega, by omega⟩ ?_ | refine ok_gb (by omega) ?_ | refine ok_gp ⟨by omega, by omega⟩ ?_ | refine ok_some.mpr ?_ | refine ok_if (fun _ => ?_) (fun _ => ?_))) <;> first | rfl | (exfalso; omega)
theorem t_delay0 {a b c x y : Int} (hN : InvN size per wid kd pn so wE wL se gE gL sE sL su ho) (ha : -2147483648 ≤ a ∧ a ≤ 2147483647) (hb : -2147483648 ≤ b ∧ b ≤ 2147483647) (hc : -2147483648 ≤ c ∧ c ≤ 2147483647) (hx : -2147483648 ≤ x ∧ x ≤ 2147483647) (hy : -2147483648 ≤ y ∧ y ≤ 2147483647) (h : ¬ ((((0 ≤ a ∧ a < size) ∧ 0 ≤ b ∧ b < pn a) ∧ (kd a = 2 ∨ kd a = 3 ∧ b = 1)) ∧ (c = 0 ∨ c = 1) ∧ (0 ≤ x ∧ y ≤ 10000 ∧ x ≤ y))) : g_T_delay F size kd pn a b c x y = some 0 := by
  obtain ⟨n1, n2, n3, n4, n5, n6, n7, n8, n9, n10, n11, n12, n13, n14, n15⟩ := hN
  clear n2 n3 n5 n7 n8 n9 n10 n11 n12 n13 n14 n15
  apply ok_eq
  unfold g_T_delay
  rw [e_hasDelay n1 n4 n6 ha hb, ob1_s, e_isBit hc, ob1_s, e_isDelay hx hy, ob1_s]
  have z0 := bz_1 (((0 ≤ a ∧ a < size) ∧ 0 ≤ b ∧ b < pn a) ∧ (kd a = 2 ∨ kd a = 3 ∧ b = 1))
  have y0 := bz_01 (((0 ≤ a ∧ a < size) ∧ 0 ≤ b ∧ b < pn a) ∧ (kd a = 2 ∨ kd a = 3 ∧ b = 1))
  have z1 := bz_1 (c = 0 ∨ c = 1)
  have y1 := bz_01 (c = 0 ∨ c = 1)
  have z2 := bz_1 (0 ≤ x ∧ y ≤ 10000 ∧ x ≤ y)
  have y2 := bz_01 (0 ≤ x ∧ y ≤ 10000 ∧ x ≤ y)
  (repeat' (first | refine ok_gr ⟨by omega, by omega⟩ ?_ | refine ok_gi ⟨by omega, by omega⟩ ?_ | refine ok_gb (by omega) ?_ | refine ok_gp ⟨by omega, by omega⟩ ?_ | refine ok_some.mpr ?_ | refine ok_if (fun _ => ?_) (fun _ => ?_))) <;> first | rfl | (exfalso; omega)
theorem t_check {a c x y : Int} (hN : InvN size per wid kd pn so wE wL se gE gL sE sL su ho) (ha : -2147483648 ≤ a ∧ a ≤ 2147483647) (hc : -2147483648 ≤ c ∧ c ≤ 2147483647) (hx : -2147483648 ≤ x ∧ x ≤ 2147483647) (hy : -2147483648 ≤ y ∧ y ≤ 2147483647) (h : ((0 ≤ a ∧ a < size) ∧ (kd a = 4 ∨ kd a = 3)) ∧ (c = 0 ∨ c = 1) ∧ (-10000 ≤ x ∧ x ≤ 10000) ∧ (-10000 ≤ y ∧ y ≤ 10000)) : f_T_check F size kd su ho a c x y = some (0, ui su (2 * a + c) x, ui ho (2 * a + c) y) := by
  obtain ⟨n1, n2, n3, n4, n5, n6, n7, n8, n9, n10, n11, n12, n13, n14, n15⟩ := hN
  clear n2 n3 n5 n7 n8 n9 n10 n11 n12 n13 n14 n15
  apply ok_eq
  unfold f_T_check
  rw [e_isEnd n1 n4 ha, ob1_s, e_isBit hc, ob1_s, e_isCheckTime hx, ob1_s, e_isCheckTime hy, ob1_s]
  have z0 := bz_1 ((0 ≤ a ∧ a < size) ∧ (kd a = 4 ∨ kd a = 3))
  have y0 := bz_01 ((0 ≤ a ∧ a < size) ∧ (kd a = 4 ∨ kd a = 3))
  have z1 := bz_1 (c = 0 ∨ c = 1)
  have y1 := bz_01 (c = 0 ∨ c = 1)
  have z2 := bz_1 (-10000 ≤ x ∧ x ≤ 10000)
  have y2 := bz_01 (-10000 ≤ x ∧ x ≤ 10000)
  have z3 := bz_1 (-10000 ≤ y ∧ y ≤ 10000)
  have y3 := bz_01 (-10000 ≤ y ∧ y ≤ 10000)
  (repeat' (first | refine ok_gr ⟨by omega, by omega⟩ ?_ | refine ok_gi ⟨by omega, by omega⟩ ?_ | refine ok_gb (by omega) ?_ | refine ok_gp ⟨by omega, by omega⟩ ?_ | refine ok_some.mpr ?_ | refine ok_if (fun _ => ?_) (fun _ => ?_))) <;> first | rfl | (exfalso; omega)
theorem t_check0 {a c x y : Int} (hN : InvN size per wid kd pn so wE wL se gE gL sE sL su ho) (ha : -2147483648 ≤ a ∧ a ≤ 2147483647) (hc : -2147483648 ≤ c ∧ c ≤ 2147483647) (hx : -2147483648 ≤ x ∧ x ≤ 2147483647) (hy : -2147483648 ≤ y ∧ y ≤ 2147483647) (h : ¬ (((0 ≤ a ∧ a < size) ∧ (kd a = 4 ∨ kd a = 3)) ∧ (c = 0 ∨ c = 1) ∧ (-10000 ≤ x ∧ x ≤ 10000) ∧ (-10000 ≤ y ∧ y ≤ 10000))) : g_T_check F size kd a c x y = some 0 := by
  obtain ⟨n1, n2, n3, n4, n5, n6, n7, n8, n9, n10, n11, n12, n13, n14, n15⟩ := hN
  clear n2 n3 n5 n7 n8 n9 n10 n11 n12 n13 n14 n15
  apply ok_eq
  unfold g_T_check
  rw [e_isEnd n1 n4 ha, ob1_s, e_isBit hc, ob1_s, e_isCheckTime hx, ob1_s, e_isCheckTime hy, ob1_s]
  have z0 := bz_1 ((0 ≤ a ∧ a < size) ∧ (kd a = 4 ∨ kd a = 3))
  have y0 := bz_01 ((0 ≤ a ∧ a < size) ∧ (kd a = 4 ∨ kd a = 3))
  have z1 := bz_1 (c = 0 ∨ c = 1)
  have y1 := bz_01 (c = 0 ∨ c = 1)
  have z2 := bz_1 (-10000 ≤ x ∧ x ≤ 10000)
  have y2 := bz_01 (-10000 ≤ x ∧ x ≤ 10000)
  have z3 := bz_1 (-10000 ≤ y ∧ y ≤ 10000)
  have y3 := bz_01 (-10000 ≤ y ∧ y ≤ 10000)
  (repeat' (first | refine ok_gr ⟨by omega, by omega⟩ ?_ | refine ok_gi ⟨by omega, by omega⟩ ?_ | refine ok_gb (by omega) ?_ | refine ok_gp ⟨by omega, by omega⟩ ?_ | refine ok_some.mpr ?_ | refine ok_if (fun _ => ?_) (fun _ => ?_))) <;> first | rfl | (exfalso; omega)
theorem t_clock {a b : Int} (ha : -2147483648 ≤ a ∧ a ≤ 2147483647) (hb : -2147483648 ≤ b ∧ b ≤ 2147483647) (h : 2 ≤ a ∧ a ≤ 1000000 ∧ 1 ≤ b ∧ b < a) : f_T_clock F a b = some (0, a, b) := by
  apply ok_eq
  unfold f_T_clock
  rw [e_isWithin ha (by omega) (by omega), ob1_s, e_isWithin hb (by omega) (by omega), ob1_s]
  have z0 := bz_1 (2 ≤ a ∧ a ≤ 1000000)
  have y0 := bz_01 (2 ≤ a ∧ a ≤ 1000000)
  have z1 := bz_1 (1 ≤ b ∧ b ≤ a - 1)
  have y1 := bz_01 (1 ≤ b ∧ b ≤ a - 1)
  (repeat' (first | refine ok_gr ⟨by omega, by omega⟩ ?_ | refine ok_gi ⟨by omega, by omega⟩ ?_ | refine ok_gb (by omega) ?_ | refine ok_gp ⟨by omega, by omega⟩ ?_ | refine ok_some.mpr ?_ | refine ok_if (fun _ => ?_) (fun _ => ?_))) <;> first | rfl | (exfalso; omega)
theorem t_clock0 {a b : Int} (ha : -2147483648 ≤ a ∧ a ≤ 2147483647) (hb : -2147483648 ≤ b ∧ b ≤ 2147483647) (h : ¬ (2 ≤ a ∧ a ≤ 1000000 ∧ 1 ≤ b ∧ b < a)) : g_T_clock F a b = some 0 := by
  apply ok_eq
  unfold g_T_clock
  rw [e_isWithin ha (by omega) (by omega), ob1_s]
  have z0 := bz_1 (2 ≤ a ∧ a ≤ 1000000)
  have y0 := bz_01 (2 ≤ a ∧ a ≤ 1000000)
  refine ok_gr ⟨by omega, by omega⟩ (ok_if (fun q => ok_some.mpr rfl) (fun q => ?_))
  rw [e_isWithin hb (by omega) (by omega), ob1_s]
  have z0 := bz_1 (1 ≤ b ∧ b ≤ a - 1)
  have y0 := bz_01 (1 ≤ b ∧ b ≤ a - 1)
  (repeat' (first | refine ok_gr ⟨by omega, by omega⟩ ?_ | refine ok_gi ⟨by omega, by omega⟩ ?_ | refine ok_gb (by omega) ?_ | refine ok_gp ⟨by omega, by omega⟩ ?_ | refine ok_some.mpr ?_ | refine ok_if (fun _ => ?_) (fun _ => ?_))) <;> first | rfl | (exfalso; omega)
theorem r_clock {a b p w ta : Int} (ha : -2147483648 ≤ a ∧ a ≤ 2147483647) (hb : -2147483648 ≤ b ∧ b ≤ 2147483647) : f_M_clock F p w ta a b = if 2 ≤ a ∧ a ≤ 1000000 ∧ 1 ≤ b ∧ b < a then some (0, a, b, 0) else some (1, p, w, ta) := by
  by_cases h : 2 ≤ a ∧ a ≤ 1000000 ∧ 1 ≤ b ∧ b < a
  · rw [if_pos h]
    apply ok_eq
    unfold f_M_clock
    (repeat' (first | refine ok_gr ⟨by omega, by omega⟩ ?_ | refine ok_gi ⟨by omega, by omega⟩ ?_ | refine ok_gb (by omega) ?_ | refine ok_gp ⟨by omega, by omega⟩ ?_ | refine ok_some.mpr ?_ | refine ok_if (fun _ => ?_) (fun _ => ?_))) <;> first | rfl | (exfalso; omega)
  · rw [if_neg h]
    apply ok_eq
    unfold f_M_clock
    (repeat' (first | refine ok_gr ⟨by omega, by omega⟩ ?_ | refine ok_gi ⟨by omega, by omega⟩ ?_ | refine ok_gb (by omega) ?_ | refine ok_gp ⟨by omega, by omega⟩ ?_ | refine ok_some.mpr ?_ | refine ok_if (fun _ => ?_) (fun _ => ?_))) <;> first | rfl | (exfalso; omega)
theorem r_wire {a b f x y ta : Int} (hN : InvN size per wid kd pn so wE wL se gE gL sE sL su ho) (hM : InvM size per wid kd pn so wE wL se gE gL sE sL su ho mper mwid msize mk mp fr mwE mwL mse dE dL fo sc) (ha : -2147483648 ≤ a ∧ a ≤ 2147483647) (hb : -2147483648 ≤ b ∧ b ≤ 2147483647) (hf : -2147483648 ≤ f ∧ f ≤ 2147483647) (hx : -2147483648 ≤ x ∧ x ≤ 2147483647) (hy : -2147483648 ≤ y ∧ y ≤ 2147483647) : f_M_wire F msize ta mk mp fr mwE mwL a b f x y = if ((0 ≤ a ∧ a < size) ∧ 0 ≤ b ∧ b < pn a) ∧ ((0 ≤ f ∧ f < size) ∧ kd f ≠ 4) ∧ (0 ≤ x ∧ y ≤ 10000 ∧ x ≤ y) then some (0, ui fr (3 * a + b) f, ui wE (3 * a + b) x, ui wL (3 * a + b) y, 0) else some (1, fr, wE, wL, ta) := by
  obtain ⟨n1, n2, n3, n4, n5, n6, n7, n8, n9, n10, n11, n12, n13, n14, n15⟩ := hN
  clear n2 n3 n5 n7 n8 n9 n10 n11 n12 n13 n14 n15
  obtain ⟨⟨rfl, rfl, rfl⟩, ⟨rfl, rfl, rfl, rfl, rfl⟩, m3, m4, m5, m6, m7, m8, m9, m10, m11, m12, m13⟩ := hM
  have hp := n6 a
  have hk := n4 f
  by_cases h : ((0 ≤ a ∧ a < msize) ∧ 0 ≤ b ∧ b < mp a) ∧ ((0 ≤ f ∧ f < msize) ∧ mk f ≠ 4) ∧ (0 ≤ x ∧ y ≤ 10000 ∧ x ≤ y)
  · rw [if_pos h]
    clear m3 m4 m5 m6 m7 m8 m9 m10 m11 m12 m13
    apply ok_eq
    unfold f_M_wire
    rw [e_noPin n1 n6 ha hb, ob1_s, e_noTimes hx hy (by omega) (by omega), ob1_s]
    have z0 := bz_1 (¬ ((0 ≤ a ∧ a < msize) ∧ 0 ≤ b ∧ b < mp a))
    have y0 := bz_01 (¬ ((0 ≤ a ∧ a < msize) ∧ 0 ≤ b ∧ b < mp a))
    have z1 := bz_1 (¬ (0 ≤ x ∧ y ≤ 10000 ∧ x ≤ y))
    have y1 := bz_01 (¬ (0 ≤ x ∧ y ≤ 10000 ∧ x ≤ y))
    (repeat' (first | refine ok_gr ⟨by omega, by omega⟩ ?_ | refine ok_gi ⟨by omega, by omega⟩ ?_ | refine ok_gb (by omega) ?_ | refine ok_gp ⟨by omega, by omega⟩ ?_ | refine ok_some.mpr ?_ | refine ok_if (fun _ => ?_) (fun _ => ?_))) <;> first | rfl | (exfalso; omega)
  · rw [if_neg h]
    clear m3 m4 m5 m6 m7 m8 m9 m10 m11 m12 m13
    apply ok_eq
    unfold f_M_wire
    rw [e_noPin n1 n6 ha hb, ob1_s, e_noTimes hx hy (by omega) (by omega), ob1_s]
    have z0 := bz_1 (¬ ((0 ≤ a ∧ a < msize) ∧ 0 ≤ b ∧ b < mp a))
    have y0 := bz_01 (¬ ((0 ≤ a ∧ a < msize) ∧ 0 ≤ b ∧ b < mp a))
    have z1 := bz_1 (¬ (0 ≤ x ∧ y ≤ 10000 ∧ x ≤ y))
    have y1 := bz_01 (¬ (0 ≤ x ∧ y ≤ 10000 ∧ x ≤ y))
    (repeat' (first | refine ok_gr ⟨by omega, by omega⟩ ?_ | refine ok_gi ⟨by omega, by omega⟩ ?_ | refine ok_gb (by omega) ?_ | refine ok_gp ⟨by omega, by omega⟩ ?_ | refine ok_some.mpr ?_ | refine ok_if (fun _ => ?_) (fun _ => ?_))) <;> first | rfl | (exfalso; omega)
theorem r_sense {a b x ta : Int} (hN : InvN size per wid kd pn so wE wL se gE gL sE sL su ho) (hM : InvM size per wid kd pn so wE wL se gE gL sE sL su ho mper mwid msize mk mp fr mwE mwL mse dE dL fo sc) (ha : -2147483648 ≤ a ∧ a ≤ 2147483647) (hb : -2147483648 ≤ b ∧ b ≤ 2147483647) (hx : -2147483648 ≤ x ∧ x ≤ 2147483647) : f_M_sense F msize ta mk mp mse a b x = if ((0 ≤ a ∧ a < size) ∧ 0 ≤ b ∧ b < pn a) ∧ kd a = 2 ∧ (0 ≤ x ∧ x ≤ 2) then some (0, ui se (3 * a + b) x, 0) else some (1, se, ta) := by
  obtain ⟨n1, n2, n3, n4, n5, n6, n7, n8, n9, n10, n11, n12, n13, n14, n15⟩ := hN
  clear n2 n3 n5 n7 n8 n9 n10 n11 n12 n13 n14 n15
  obtain ⟨⟨rfl, rfl, rfl⟩, ⟨rfl, rfl, rfl, rfl, rfl⟩, m3, m4, m5, m6, m7, m8, m9, m10, m11, m12, m13⟩ := hM
  have hp := n6 a
  have hk := n4 a
  by_cases h : ((0 ≤ a ∧ a < msize) ∧ 0 ≤ b ∧ b < mp a) ∧ mk a = 2 ∧ (0 ≤ x ∧ x ≤ 2)
  · rw [if_pos h]
    clear m3 m4 m5 m6 m7 m8 m9 m10 m11 m12 m13
    apply ok_eq
    unfold f_M_sense
    rw [e_noPin n1 n6 ha hb, ob1_s]
    have z0 := bz_1 (¬ ((0 ≤ a ∧ a < msize) ∧ 0 ≤ b ∧ b < mp a))
    have y0 := bz_01 (¬ ((0 ≤ a ∧ a < msize) ∧ 0 ≤ b ∧ b < mp a))
    (repeat' (first | refine ok_gr ⟨by omega, by omega⟩ ?_ | refine ok_gi ⟨by omega, by omega⟩ ?_ | refine ok_gb (by omega) ?_ | refine ok_gp ⟨by omega, by omega⟩ ?_ | refine ok_some.mpr ?_ | refine ok_if (fun _ => ?_) (fun _ => ?_))) <;> first | rfl | (exfalso; omega)
  · rw [if_neg h]
    clear m3 m4 m5 m6 m7 m8 m9 m10 m11 m12 m13
    apply ok_eq
    unfold f_M_sense
    rw [e_noPin n1 n6 ha hb, ob1_s]
    have z0 := bz_1 (¬ ((0 ≤ a ∧ a < msize) ∧ 0 ≤ b ∧ b < mp a))
    have y0 := bz_01 (¬ ((0 ≤ a ∧ a < msize) ∧ 0 ≤ b ∧ b < mp a))
    (repeat' (first | refine ok_gr ⟨by omega, by omega⟩ ?_ | refine ok_gi ⟨by omega, by omega⟩ ?_ | refine ok_gb (by omega) ?_ | refine ok_gp ⟨by omega, by omega⟩ ?_ | refine ok_some.mpr ?_ | refine ok_if (fun _ => ?_) (fun _ => ?_))) <;> first | rfl | (exfalso; omega)
theorem r_delay {a b c x y ta : Int} (hN : InvN size per wid kd pn so wE wL se gE gL sE sL su ho) (hM : InvM size per wid kd pn so wE wL se gE gL sE sL su ho mper mwid msize mk mp fr mwE mwL mse dE dL fo sc) (ha : -2147483648 ≤ a ∧ a ≤ 2147483647) (hb : -2147483648 ≤ b ∧ b ≤ 2147483647) (hc : -2147483648 ≤ c ∧ c ≤ 2147483647) (hx : -2147483648 ≤ x ∧ x ≤ 2147483647) (hy : -2147483648 ≤ y ∧ y ≤ 2147483647) : f_M_delay F msize ta mk mp dE dL a b c x y = if (((0 ≤ a ∧ a < size) ∧ 0 ≤ b ∧ b < pn a) ∧ (kd a = 2 ∨ kd a = 3 ∧ b = 1)) ∧ (c = 0 ∨ c = 1) ∧ (0 ≤ x ∧ y ≤ 10000 ∧ x ≤ y) then some (0, ui dE (6 * a + 2 * b + c) x, ui dL (6 * a + 2 * b + c) y, 0) else some (1, dE, dL, ta) := by
  obtain ⟨n1, n2, n3, n4, n5, n6, n7, n8, n9, n10, n11, n12, n13, n14, n15⟩ := hN
  clear n2 n3 n5 n7 n8 n9 n10 n11 n12 n13 n14 n15
  obtain ⟨⟨rfl, rfl, rfl⟩, ⟨rfl, rfl, rfl, rfl, rfl⟩, m3, m4, m5, m6, m7, m8, m9, m10, m11, m12, m13⟩ := hM
  have hp := n6 a
  have hk := n4 a
  by_cases h : (((0 ≤ a ∧ a < msize) ∧ 0 ≤ b ∧ b < mp a) ∧ (mk a = 2 ∨ mk a = 3 ∧ b = 1)) ∧ (c = 0 ∨ c = 1) ∧ (0 ≤ x ∧ y ≤ 10000 ∧ x ≤ y)
  · rw [if_pos h]
    clear m3 m4 m5 m6 m7 m8 m9 m10 m11 m12 m13
    apply ok_eq
    unfold f_M_delay f_M_delay_j35
    rw [e_noPin n1 n6 ha hb, ob1_s, e_noTimes hx hy (by omega) (by omega), ob1_s]
    have z0 := bz_1 (¬ ((0 ≤ a ∧ a < msize) ∧ 0 ≤ b ∧ b < mp a))
    have y0 := bz_01 (¬ ((0 ≤ a ∧ a < msize) ∧ 0 ≤ b ∧ b < mp a))
    have z1 := bz_1 (¬ (0 ≤ x ∧ y ≤ 10000 ∧ x ≤ y))
    have y1 := bz_01 (¬ (0 ≤ x ∧ y ≤ 10000 ∧ x ≤ y))
    (repeat' (first | refine ok_gr ⟨by omega, by omega⟩ ?_ | refine ok_gi ⟨by omega, by omega⟩ ?_ | refine ok_gb (by omega) ?_ | refine ok_gp ⟨by omega, by omega⟩ ?_ | refine ok_some.mpr ?_ | refine ok_if (fun _ => ?_) (fun _ => ?_))) <;> first | rfl | (exfalso; omega)
  · rw [if_neg h]
    clear m3 m4 m5 m6 m7 m8 m9 m10 m11 m12 m13
    apply ok_eq
    unfold f_M_delay f_M_delay_j35
    rw [e_noPin n1 n6 ha hb, ob1_s, e_noTimes hx hy (by omega) (by omega), ob1_s]
    have z0 := bz_1 (¬ ((0 ≤ a ∧ a < msize) ∧ 0 ≤ b ∧ b < mp a))
    have y0 := bz_01 (¬ ((0 ≤ a ∧ a < msize) ∧ 0 ≤ b ∧ b < mp a))
    have z1 := bz_1 (¬ (0 ≤ x ∧ y ≤ 10000 ∧ x ≤ y))
    have y1 := bz_01 (¬ (0 ≤ x ∧ y ≤ 10000 ∧ x ≤ y))
    (repeat' (first | refine ok_gr ⟨by omega, by omega⟩ ?_ | refine ok_gi ⟨by omega, by omega⟩ ?_ | refine ok_gb (by omega) ?_ | refine ok_gp ⟨by omega, by omega⟩ ?_ | refine ok_some.mpr ?_ | refine ok_if (fun _ => ?_) (fun _ => ?_))) <;> first | rfl | (exfalso; omega)
theorem r_check {a c x y ta : Int} (hN : InvN size per wid kd pn so wE wL se gE gL sE sL su ho) (hM : InvM size per wid kd pn so wE wL se gE gL sE sL su ho mper mwid msize mk mp fr mwE mwL mse dE dL fo sc) (ha : -2147483648 ≤ a ∧ a ≤ 2147483647) (hc : -2147483648 ≤ c ∧ c ≤ 2147483647) (hx : -2147483648 ≤ x ∧ x ≤ 2147483647) (hy : -2147483648 ≤ y ∧ y ≤ 2147483647) : f_M_check F msize ta mk fo sc a c x y = if ((0 ≤ a ∧ a < size) ∧ (kd a = 4 ∨ kd a = 3)) ∧ (c = 0 ∨ c = 1) ∧ (-10000 ≤ x ∧ x ≤ 10000) ∧ (-10000 ≤ y ∧ y ≤ 10000) then some (0, ui fo (2 * a + c) x, ui sc (2 * a + c) y, 0) else some (1, fo, sc, ta) := by
  obtain ⟨n1, n2, n3, n4, n5, n6, n7, n8, n9, n10, n11, n12, n13, n14, n15⟩ := hN
  clear n2 n3 n5 n7 n8 n9 n10 n11 n12 n13 n14 n15
  obtain ⟨⟨rfl, rfl, rfl⟩, ⟨rfl, rfl, rfl, rfl, rfl⟩, m3, m4, m5, m6, m7, m8, m9, m10, m11, m12, m13⟩ := hM
  have hk := n4 a
  by_cases h : ((0 ≤ a ∧ a < msize) ∧ (mk a = 4 ∨ mk a = 3)) ∧ (c = 0 ∨ c = 1) ∧ (-10000 ≤ x ∧ x ≤ 10000) ∧ (-10000 ≤ y ∧ y ≤ 10000)
  · rw [if_pos h]
    clear m3 m4 m5 m6 m7 m8 m9 m10 m11 m12 m13
    apply ok_eq
    unfold f_M_check
    rw [e_MisEnd n1 n4 ha, ob1_s]
    have z0 := bz_1 ((0 ≤ a ∧ a < msize) ∧ (mk a = 4 ∨ mk a = 3))
    have y0 := bz_01 ((0 ≤ a ∧ a < msize) ∧ (mk a = 4 ∨ mk a = 3))
    (repeat' (first | refine ok_gr ⟨by omega, by omega⟩ ?_ | refine ok_gi ⟨by omega, by omega⟩ ?_ | refine ok_gb (by omega) ?_ | refine ok_gp ⟨by omega, by omega⟩ ?_ | refine ok_some.mpr ?_ | refine ok_if (fun _ => ?_) (fun _ => ?_))) <;> first | rfl | (exfalso; omega)
  · rw [if_neg h]
    clear m3 m4 m5 m6 m7 m8 m9 m10 m11 m12 m13
    apply ok_eq
    unfold f_M_check
    rw [e_MisEnd n1 n4 ha, ob1_s]
    have z0 := bz_1 ((0 ≤ a ∧ a < msize) ∧ (mk a = 4 ∨ mk a = 3))
    have y0 := bz_01 ((0 ≤ a ∧ a < msize) ∧ (mk a = 4 ∨ mk a = 3))
    (repeat' (first | refine ok_gr ⟨by omega, by omega⟩ ?_ | refine ok_gi ⟨by omega, by omega⟩ ?_ | refine ok_gb (by omega) ?_ | refine ok_gp ⟨by omega, by omega⟩ ?_ | refine ok_some.mpr ?_ | refine ok_if (fun _ => ?_) (fun _ => ?_))) <;> first | rfl | (exfalso; omega)
end OPS
