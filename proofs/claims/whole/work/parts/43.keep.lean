/-! the invariant of the net, kept by each call that edits it -/
theorem ui_e (A : Int → Int) (j v i : Int) : ui A j v i = if i = j then v else A i := rfl
section KP
variable {F : Nat} {size per wid : Int} {kd pn so wE wL se gE gL sE sL su ho : Int → Int} {mper mwid msize : Int} {mk mp fr mwE mwL mse dE dL fo sc : Int → Int} {a b c f x y : Int}
theorem k_clock (hN : InvN size per wid kd pn so wE wL se gE gL sE sL su ho) (hM : InvM size per wid kd pn so wE wL se gE gL sE sL su ho mper mwid msize mk mp fr mwE mwL mse dE dL fo sc) (h : 2 ≤ a ∧ a ≤ 1000000 ∧ 1 ≤ b ∧ b < a) :
    InvN size a b kd pn so wE wL se gE gL sE sL su ho ∧ InvM size a b kd pn so wE wL se gE gL sE sL su ho a b msize mk mp fr mwE mwL mse dE dL fo sc := by
  obtain ⟨n1, n2, n3⟩ := hN
  obtain ⟨m1, m2⟩ := hM
  exact ⟨⟨n1, h, n3⟩, ⟨rfl, rfl, m1.2.2⟩, m2⟩
theorem k_wire (hN : InvN size per wid kd pn so wE wL se gE gL sE sL su ho) (hM : InvM size per wid kd pn so wE wL se gE gL sE sL su ho mper mwid msize mk mp fr mwE mwL mse dE dL fo sc) (h : ((0 ≤ a ∧ a < size) ∧ 0 ≤ b ∧ b < pn a) ∧ ((0 ≤ f ∧ f < size) ∧ kd f ≠ 4) ∧ (0 ≤ x ∧ y ≤ 10000 ∧ x ≤ y)) :
    InvN size per wid kd pn (ui so (a * 3 + b) f) (ui wE (a * 3 + b) x) (ui wL (a * 3 + b) y) se gE gL sE sL su ho ∧ InvM size per wid kd pn (ui so (a * 3 + b) f) (ui wE (a * 3 + b) x) (ui wL (a * 3 + b) y) se gE gL sE sL su ho mper mwid msize mk mp (ui fr (3 * a + b) f) (ui wE (3 * a + b) x) (ui wL (3 * a + b) y) mse dE dL fo sc := by
  rw [show a * 3 + b = 3 * a + b by omega]
  obtain ⟨n1, n2, n3, n4, n5, n6, n7, n8, n9, n10, n11, n12, n13, n14, n15⟩ := hN
  obtain ⟨m1, ⟨rfl, rfl, rfl, rfl, rfl⟩, m3, m4, m5, m6⟩ := hM
  have hp := n6 a
  refine ⟨⟨n1, n2, n3, n4, n5, n6, n7, fun i => ?_, fun i q => ?_, fun i => ?_, n11, n12, n13, n14, n15⟩, m1, ⟨rfl, rfl, rfl, rfl, rfl⟩, fun i q1 q2 => ?_, fun i => ?_, fun i q => ?_, m6⟩
  · rw [ui_e]
    by_cases e : i = 3 * a + b
    · rw [if_pos e]; omega
    · rw [if_neg e]; exact n8 i
  · rw [ui_e] at q ⊢
    by_cases e : i = 3 * a + b
    · rw [if_pos e]; exact h.2.1.2
    · rw [if_neg e] at q ⊢; exact n9 i q
  · rw [ui_e, ui_e]
    by_cases e : i = 3 * a + b
    · rw [if_pos e, if_pos e]; omega
    · rw [if_neg e, if_neg e]; exact n10 i
  · rw [ui_e, ui_e]
    by_cases e : i = 3 * a + b
    · rw [if_pos e, if_pos e]; exact Or.inr ⟨h.2.1.1.1, rfl⟩
    · rw [if_neg e, if_neg e]; exact m3 i q1 q2
  · rw [ui_e]
    by_cases e : i = 3 * a + b
    · rw [if_pos e]; omega
    · rw [if_neg e]; exact m4 i
  · rw [ui_e, ui_e, ui_e, if_neg (by omega), if_neg (by omega), if_neg (by omega)]
    exact m5 i q
theorem k_sense (hN : InvN size per wid kd pn so wE wL se gE gL sE sL su ho) (hM : InvM size per wid kd pn so wE wL se gE gL sE sL su ho mper mwid msize mk mp fr mwE mwL mse dE dL fo sc) (h : ((0 ≤ a ∧ a < size) ∧ 0 ≤ b ∧ b < pn a) ∧ kd a = 2 ∧ (0 ≤ x ∧ x ≤ 2)) :
    InvN size per wid kd pn so wE wL (ui se (a * 3 + b) x) gE gL sE sL su ho ∧ InvM size per wid kd pn so wE wL (ui se (a * 3 + b) x) gE gL sE sL su ho mper mwid msize mk mp fr mwE mwL (ui se (3 * a + b) x) dE dL fo sc := by
  rw [show a * 3 + b = 3 * a + b by omega]
  obtain ⟨n1, n2, n3, n4, n5, n6, n7, n8, n9, n10, n11, n12, n13, n14, n15⟩ := hN
  obtain ⟨m1, ⟨rfl, rfl, rfl, rfl, rfl⟩, m3, m4, m5, m6⟩ := hM
  have hp := n6 a
  refine ⟨⟨n1, n2, n3, n4, n5, n6, n7, n8, n9, n10, fun i => ?_, n12, n13, n14, n15⟩, m1, ⟨rfl, rfl, rfl, rfl, rfl⟩, m3, m4, fun i q => ?_, m6⟩
  · rw [ui_e]
    by_cases e : i = 3 * a + b
    · rw [if_pos e]; omega
    · rw [if_neg e]; exact n11 i
  · rw [ui_e, if_neg (by omega)]
    exact m5 i q
theorem k_delay (hN : InvN size per wid kd pn so wE wL se gE gL sE sL su ho) (hM : InvM size per wid kd pn so wE wL se gE gL sE sL su ho mper mwid msize mk mp fr mwE mwL mse dE dL fo sc) (h : (((0 ≤ a ∧ a < size) ∧ 0 ≤ b ∧ b < pn a) ∧ (kd a = 2 ∨ kd a = 3 ∧ b = 1)) ∧ (c = 0 ∨ c = 1) ∧ (0 ≤ x ∧ y ≤ 10000 ∧ x ≤ y)) (hk : kd a = 2) :
    InvN size per wid kd pn so wE wL se (ui gE (2 * (a * 3 + b) + c) x) (ui gL (2 * (a * 3 + b) + c) y) sE sL su ho ∧ InvM size per wid kd pn so wE wL se (ui gE (2 * (a * 3 + b) + c) x) (ui gL (2 * (a * 3 + b) + c) y) sE sL su ho mper mwid msize mk mp fr mwE mwL mse (ui dE (6 * a + 2 * b + c) x) (ui dL (6 * a + 2 * b + c) y) fo sc := by
  rw [show 2 * (a * 3 + b) + c = 6 * a + 2 * b + c by omega]
  obtain ⟨n1, n2, n3, n4, n5, n6, n7, n8, n9, n10, n11, n12, n13, n14, n15⟩ := hN
  obtain ⟨m1, ⟨rfl, rfl, rfl, rfl, rfl⟩, m3, m4, m5, m6, m7, m8, m9, m10, m11, m12, m13⟩ := hM
  have hp := n6 a
  refine ⟨⟨n1, n2, n3, n4, n5, n6, n7, n8, n9, n10, n11, fun i => ?_, n13, n14, n15⟩, m1, ⟨rfl, rfl, rfl, rfl, rfl⟩, m3, m4, m5, fun i q => ?_, m7, fun i q => ?_, fun n c' q q2 => ?_, fun i => ?_, m11, m12, m13⟩
  · rw [ui_e, ui_e]
    by_cases e : i = 6 * a + 2 * b + c
    · rw [if_pos e, if_pos e]; omega
    · rw [if_neg e, if_neg e]; exact n12 i
  · rw [ui_e, ui_e, ui_e, ui_e, if_neg (by omega), if_neg (by omega), if_neg (by omega), if_neg (by omega)]
    exact m6 i q
  · rw [ui_e, ui_e, ui_e, ui_e]
    by_cases e : i = 6 * a + 2 * b + c
    · rw [if_pos e, if_pos e, if_pos e, if_pos e]; exact ⟨rfl, rfl⟩
    · rw [if_neg e, if_neg e, if_neg e, if_neg e]; exact m8 i q
  · have hne : n ≠ a := fun e => by rw [e] at q; omega
    rw [ui_e, ui_e, if_neg (by omega), if_neg (by omega)]
    exact m9 n c' q q2
  · rw [ui_e, ui_e]
    by_cases e : i = 6 * a + 2 * b + c
    · rw [if_pos e, if_pos e]; omega
    · rw [if_neg e, if_neg e]; exact m10 i
theorem k_delay3 (hN : InvN size per wid kd pn so wE wL se gE gL sE sL su ho) (hM : InvM size per wid kd pn so wE wL se gE gL sE sL su ho mper mwid msize mk mp fr mwE mwL mse dE dL fo sc) (h : (((0 ≤ a ∧ a < size) ∧ 0 ≤ b ∧ b < pn a) ∧ (kd a = 2 ∨ kd a = 3 ∧ b = 1)) ∧ (c = 0 ∨ c = 1) ∧ (0 ≤ x ∧ y ≤ 10000 ∧ x ≤ y)) (hk : kd a = 3) :
    InvN size per wid kd pn so wE wL se gE gL (ui sE (2 * a + c) x) (ui sL (2 * a + c) y) su ho ∧ InvM size per wid kd pn so wE wL se gE gL (ui sE (2 * a + c) x) (ui sL (2 * a + c) y) su ho mper mwid msize mk mp fr mwE mwL mse (ui dE (6 * a + 2 * b + c) x) (ui dL (6 * a + 2 * b + c) y) fo sc := by
  obtain ⟨n1, n2, n3, n4, n5, n6, n7, n8, n9, n10, n11, n12, n13, n14, n15⟩ := hN
  obtain ⟨m1, ⟨rfl, rfl, rfl, rfl, rfl⟩, m3, m4, m5, m6, m7, m8, m9, m10, m11, m12, m13⟩ := hM
  have hp := n6 a
  have hb1 : b = 1 := by omega
  subst hb1
  refine ⟨⟨n1, n2, n3, n4, n5, n6, n7, n8, n9, n10, n11, n12, fun i => ?_, n14, n15⟩, m1, ⟨rfl, rfl, rfl, rfl, rfl⟩, m3, m4, m5, fun i q => ?_, fun i q => ?_, fun i q => ?_, fun n c' q q2 => ?_, fun i => ?_, fun i q => ?_, m12, m13⟩
  · rw [ui_e, ui_e]
    by_cases e : i = 2 * a + c
    · rw [if_pos e, if_pos e]; omega
    · rw [if_neg e, if_neg e]; exact n13 i
  · rw [ui_e, ui_e, if_neg (by omega), if_neg (by omega)]
    exact m6 i q
  · rw [ui_e, ui_e, if_neg (by omega), if_neg (by omega)]
    exact m7 i q
  · have hne : i / 6 ≠ a := fun e => by rw [e] at q; omega
    rw [ui_e, ui_e, if_neg (by omega), if_neg (by omega)]
    exact m8 i q
  · rw [ui_e, ui_e, ui_e, ui_e]
    by_cases e : 2 * n + c' = 2 * a + c
    · rw [if_pos e, if_pos e, if_pos (by omega), if_pos (by omega)]; exact ⟨rfl, rfl⟩
    · rw [if_neg e, if_neg e, if_neg (by omega), if_neg (by omega)]; exact m9 n c' q q2
  · rw [ui_e, ui_e]
    by_cases e : i = 6 * a + 2 * 1 + c
    · rw [if_pos e, if_pos e]; omega
    · rw [if_neg e, if_neg e]; exact m10 i
  · have hne : i / 2 ≠ a := fun e => by rw [e] at q; omega
    rw [ui_e, ui_e, if_neg (by omega), if_neg (by omega)]
    exact m11 i q
theorem k_check (hN : InvN size per wid kd pn so wE wL se gE gL sE sL su ho) (hM : InvM size per wid kd pn so wE wL se gE gL sE sL su ho mper mwid msize mk mp fr mwE mwL mse dE dL fo sc) (h : ((0 ≤ a ∧ a < size) ∧ (kd a = 4 ∨ kd a = 3)) ∧ (c = 0 ∨ c = 1) ∧ (-10000 ≤ x ∧ x ≤ 10000) ∧ (-10000 ≤ y ∧ y ≤ 10000)) :
    InvN size per wid kd pn so wE wL se gE gL sE sL (ui su (2 * a + c) x) (ui ho (2 * a + c) y) ∧ InvM size per wid kd pn so wE wL se gE gL sE sL (ui su (2 * a + c) x) (ui ho (2 * a + c) y) mper mwid msize mk mp fr mwE mwL mse dE dL (ui fo (2 * a + c) x) (ui sc (2 * a + c) y) := by
  obtain ⟨n1, n2, n3, n4, n5, n6, n7, n8, n9, n10, n11, n12, n13, n14, n15⟩ := hN
  obtain ⟨m1, ⟨rfl, rfl, rfl, rfl, rfl⟩, m3, m4, m5, m6, m7, m8, m9, m10, m11, m12, m13⟩ := hM
  refine ⟨⟨n1, n2, n3, n4, n5, n6, n7, n8, n9, n10, n11, n12, n13, fun i => ?_, fun i => ?_⟩, m1, ⟨rfl, rfl, rfl, rfl, rfl⟩, m3, m4, m5, m6, fun i q => ?_, m8, m9, m10, fun i q => ?_, fun i q => ?_, fun i => ?_⟩
  · rw [ui_e]
    by_cases e : i = 2 * a + c
    · rw [if_pos e]; omega
    · rw [if_neg e]; exact n14 i
  · rw [ui_e]
    by_cases e : i = 2 * a + c
    · rw [if_pos e]; omega
    · rw [if_neg e]; exact n15 i
  · rw [ui_e, ui_e, ui_e, ui_e, if_neg (by omega), if_neg (by omega), if_neg (by omega), if_neg (by omega)]
    exact m7 i q
  · have hne : i / 2 ≠ a := fun e => by rw [e] at q; omega
    rw [ui_e, ui_e, if_neg (by omega), if_neg (by omega)]
    exact m11 i q
  · rw [ui_e, ui_e, ui_e, ui_e]
    by_cases e : i = 2 * a + c
    · rw [if_pos e, if_pos e, if_pos e, if_pos e]; exact ⟨rfl, rfl⟩
    · rw [if_neg e, if_neg e, if_neg e, if_neg e]; exact m12 i q
  · rw [ui_e, ui_e]
    by_cases e : i = 2 * a + c
    · rw [if_pos e, if_pos e]; omega
    · rw [if_neg e, if_neg e]; exact m13 i
/-- an input's times -/
theorem k_start (hN : InvN size per wid kd pn so wE wL se gE gL sE sL su ho) (hM : InvM size per wid kd pn so wE wL se gE gL sE sL su ho mper mwid msize mk mp fr mwE mwL mse dE dL fo sc) (ha : kd a = 1) (hc : c = 0 ∨ c = 1) (h : -1000000 ≤ x ∧ y ≤ 1000000 ∧ x ≤ y) :
    InvN size per wid kd pn so wE wL se gE gL (ui sE (2 * a + c) x) (ui sL (2 * a + c) y) su ho ∧ InvM size per wid kd pn so wE wL se gE gL (ui sE (2 * a + c) x) (ui sL (2 * a + c) y) su ho mper mwid msize mk mp fr mwE mwL mse dE dL (ui fo (2 * a + c) x) (ui sc (2 * a + c) y) := by
  obtain ⟨n1, n2, n3, n4, n5, n6, n7, n8, n9, n10, n11, n12, n13, n14, n15⟩ := hN
  obtain ⟨m1, ⟨rfl, rfl, rfl, rfl, rfl⟩, m3, m4, m5, m6, m7, m8, m9, m10, m11, m12, m13⟩ := hM
  have ha2 := n5 a (by omega)
  refine ⟨⟨n1, n2, n3, n4, n5, n6, n7, n8, n9, n10, n11, n12, fun i => ?_, n14, n15⟩, m1, ⟨rfl, rfl, rfl, rfl, rfl⟩, m3, m4, m5, m6, fun i q => ?_, m8, fun n c' q q2 => ?_, m10, fun i q => ?_, fun i q => ?_, fun i => ?_⟩
  · rw [ui_e, ui_e]
    by_cases e : i = 2 * a + c
    · rw [if_pos e, if_pos e]; omega
    · rw [if_neg e, if_neg e]; exact n13 i
  · rw [ui_e, ui_e, ui_e, ui_e, if_neg (by omega), if_neg (by omega), if_neg (by omega), if_neg (by omega)]
    exact m7 i q
  · have hne : n ≠ a := fun e => by rw [e] at q; omega
    rw [ui_e, ui_e, if_neg (by omega), if_neg (by omega)]
    exact m9 n c' q q2
  · rw [ui_e, ui_e, ui_e, ui_e]
    by_cases e : i = 2 * a + c
    · rw [if_pos e, if_pos e, if_pos e, if_pos e]; exact ⟨rfl, rfl⟩
    · rw [if_neg e, if_neg e, if_neg e, if_neg e]; exact m11 i q
  · have hne : i / 2 ≠ a := fun e => by rw [e] at q; omega
    rw [ui_e, ui_e, if_neg (by omega), if_neg (by omega)]
    exact m12 i q
  · rw [ui_e, ui_e]
    by_cases e : i = 2 * a + c
    · rw [if_pos e, if_pos e]; omega
    · rw [if_neg e, if_neg e]; exact m13 i
end KP
