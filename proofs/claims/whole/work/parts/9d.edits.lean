/-! cases of the law that change the net (laid by wip/whole/cases.py) -/
section DOE
variable {F : Nat} {x : St} {i : Int} {L : Nat} {sc : Int → Int}
theorem IM_same {size per wid : Int} {kd pn so wE wL se gE gL sE sL su ho : Int → Int} {mper mwid msize : Int} {mk mp fr mwE mwL mse dM dN fo sc : Int → Int} (h : InvM size per wid kd pn so wE wL se gE gL sE sL su ho mper mwid msize mk mp fr mwE mwL mse dM dN fo sc) : InvM size per wid kd pn so wE wL se gE gL sE sL su ho mper mwid size kd pn fr wE wL se dM dN fo sc := by
  have h' := h
  obtain ⟨⟨e1, e2, e3⟩, ⟨e4, e5, e6, e7, e8⟩, -⟩ := h'
  rw [e3, e4, e5, e6, e7, e8] at h
  exact h
theorem do_0 (hF : 200 ≤ F) (hI : Inv F x) (hi : 0 ≤ i) (hiL : i + 6 ≤ L) (hsc : ∀ j, -2147483648 ≤ sc j ∧ sc j ≤ 2147483647) : ∃ x', Do_0 F i L sc x x' ∧ Inv F x' := by
  have hI' := hI
  obtain ⟨hN, hM, hrs, hTA, hA⟩ := hI'
  obtain ⟨⟨e1, e2, e3⟩, ⟨e4, e5, e6, e7, e8⟩, -⟩ := id hM
  by_cases h : 2 ≤ (sc (i + 1)) ∧ (sc (i + 1)) ≤ 1000000 ∧ 1 ≤ (sc (i + 2)) ∧ (sc (i + 2)) < (sc (i + 1))
  · have hk := k_clock hN hM h
    have h1 : f_lh_0 F i L sc = some (0, 0, (sc (i + 1)), (sc (i + 2))) := by
      apply ok_eq
      unfold f_lh_0 f_Law_clock
      refine (ok_gi ⟨by omega, by omega⟩ (ok_gi ⟨by omega, by omega⟩ ?_))
      refine ok_ob4 (P := fun r => r = (0, 0, (sc (i + 1)), (sc (i + 2)))) ?_ (fun a1 a2 a3 a4 hh => ?_)
      · refine ok_ob3 (P := fun r => r = (0, (sc (i + 1)), (sc (i + 2)))) ⟨_, t_clock (hsc _) (hsc _) h, rfl⟩ (fun a1 a2 a3 hh => ?_)
        cases hh
        exact ok_some.mpr rfl
      · cases hh
        exact ok_some.mpr rfl
    have h2 : f_lr_0 F x.M_period x.M_width x.M_analysed i L sc 0 = some (0, (sc (i + 1)), (sc (i + 2)), 0) := by
      apply ok_eq
      unfold f_lr_0
      refine (ok_gi ⟨by omega, by omega⟩ (ok_gi ⟨by omega, by omega⟩ ?_))
      refine ok_ob4 (P := fun r => r = (0, (sc (i + 1)), (sc (i + 2)), 0)) ⟨_, (r_clock (F := F) (p := x.M_period) (w := x.M_width) (ta := x.M_analysed) (hsc (i + 1)) (hsc (i + 2))).trans (if_pos h), rfl⟩ (fun a1 a2 a3 a4 hh => ?_)
      cases hh
      rw [show f_M_thrown F 0 = some 0 from rfl, ob1_s]
      exact ok_gr ⟨by decide, by decide⟩ (ok_gr ⟨by decide, by decide⟩ (ok_if (fun _ => ok_some.mpr rfl) (fun z => absurd rfl z)))
    exact ⟨_, Or.inl ⟨_, _, _, _, h1, _, _, _, _, h2, rfl⟩, by rw [Inv_mk]; exact ⟨hk.1, hk.2, hrs, rfl, Or.inl rfl⟩⟩
  · have h1 : f_lt_0_0 F i L sc = some 0 := by
      apply ok_eq
      unfold f_lt_0_0
      refine (ok_gi ⟨by omega, by omega⟩ (ok_gi ⟨by omega, by omega⟩ ?_))
      rw [t_clock0 (hsc _) (hsc _) h, ob1_s]
      exact ok_some.mpr rfl
    have h2 : f_lr_0 F x.M_period x.M_width x.M_analysed i L sc 1 = some (1, x.M_period, x.M_width, x.M_analysed) := by
      apply ok_eq
      unfold f_lr_0
      refine (ok_gi ⟨by omega, by omega⟩ (ok_gi ⟨by omega, by omega⟩ ?_))
      refine ok_ob4 (P := fun r => r = (1, x.M_period, x.M_width, x.M_analysed)) ⟨_, ((r_clock (F := F) (p := x.M_period) (w := x.M_width) (ta := x.M_analysed) (hsc (i + 1)) (hsc (i + 2))).trans (if_neg h)), rfl⟩ (fun a1 a2 a3 a4 hh => ?_)
      cases hh
      rw [show f_M_thrown F 1 = some 1 from rfl, ob1_s]
      exact ok_gr ⟨by decide, by decide⟩ (ok_gr ⟨by decide, by decide⟩ (ok_if (fun _ => ok_some.mpr rfl) (fun z => absurd rfl z)))
    exact ⟨_, Or.inr ⟨h1, _, _, _, _, h2, rfl⟩, by rw [Inv_mk]; exact hI⟩
theorem do_5 (hF : 200 ≤ F) (hI : Inv F x) (hi : 0 ≤ i) (hiL : i + 6 ≤ L) (hsc : ∀ j, -2147483648 ≤ sc j ∧ sc j ≤ 2147483647) : ∃ x', Do_5 F i L sc x x' ∧ Inv F x' := by
  have hI' := hI
  obtain ⟨hN, hM, hrs, hTA, hA⟩ := hI'
  obtain ⟨⟨e1, e2, e3⟩, ⟨e4, e5, e6, e7, e8⟩, -⟩ := id hM
  by_cases h : ((0 ≤ (sc (i + 1)) ∧ (sc (i + 1)) < x.N_size) ∧ 0 ≤ (sc (i + 2)) ∧ (sc (i + 2)) < x.N_pins (sc (i + 1))) ∧ ((0 ≤ (sc (i + 3)) ∧ (sc (i + 3)) < x.N_size) ∧ x.N_kind (sc (i + 3)) ≠ 4) ∧ (0 ≤ (sc (i + 4)) ∧ (sc (i + 5)) ≤ 10000 ∧ (sc (i + 4)) ≤ (sc (i + 5)))
  · have hk := k_wire hN hM h
    have h1 : f_lh_5 F x.N_size x.N_kind x.N_pins x.N_source x.N_wireEarly x.N_wireLate i L sc = some (0, 0, ui x.N_source ((sc (i + 1)) * 3 + (sc (i + 2))) (sc (i + 3)), ui x.N_wireEarly ((sc (i + 1)) * 3 + (sc (i + 2))) (sc (i + 4)), ui x.N_wireLate ((sc (i + 1)) * 3 + (sc (i + 2))) (sc (i + 5))) := by
      apply ok_eq
      unfold f_lh_5 f_Law_wire
      refine (ok_gi ⟨by omega, by omega⟩ (ok_gi ⟨by omega, by omega⟩ (ok_gi ⟨by omega, by omega⟩ (ok_gi ⟨by omega, by omega⟩ (ok_gi ⟨by omega, by omega⟩ ?_)))))
      refine ok_ob5 (P := fun r => r = (0, 0, ui x.N_source ((sc (i + 1)) * 3 + (sc (i + 2))) (sc (i + 3)), ui x.N_wireEarly ((sc (i + 1)) * 3 + (sc (i + 2))) (sc (i + 4)), ui x.N_wireLate ((sc (i + 1)) * 3 + (sc (i + 2))) (sc (i + 5)))) ?_ (fun a1 a2 a3 a4 a5 hh => ?_)
      · refine ok_ob4 (P := fun r => r = (0, ui x.N_source ((sc (i + 1)) * 3 + (sc (i + 2))) (sc (i + 3)), ui x.N_wireEarly ((sc (i + 1)) * 3 + (sc (i + 2))) (sc (i + 4)), ui x.N_wireLate ((sc (i + 1)) * 3 + (sc (i + 2))) (sc (i + 5)))) ⟨_, t_wire hN (hsc _) (hsc _) (hsc _) (hsc _) (hsc _) h, rfl⟩ (fun a1 a2 a3 a4 hh => ?_)
        cases hh
        exact ok_some.mpr rfl
      · cases hh
        exact ok_some.mpr rfl
    have h2 : f_lr_5 F x.M_nodes x.M_analysed x.M_kinds x.M_pins x.M_froms x.M_wireEarly x.M_wireLate i L sc 0 = some (0, ui x.M_froms (3 * (sc (i + 1)) + (sc (i + 2))) (sc (i + 3)), ui x.N_wireEarly (3 * (sc (i + 1)) + (sc (i + 2))) (sc (i + 4)), ui x.N_wireLate (3 * (sc (i + 1)) + (sc (i + 2))) (sc (i + 5)), 0) := by
      apply ok_eq
      unfold f_lr_5
      refine (ok_gi ⟨by omega, by omega⟩ (ok_gi ⟨by omega, by omega⟩ (ok_gi ⟨by omega, by omega⟩ (ok_gi ⟨by omega, by omega⟩ (ok_gi ⟨by omega, by omega⟩ ?_)))))
      refine ok_ob5 (P := fun r => r = (0, ui x.M_froms (3 * (sc (i + 1)) + (sc (i + 2))) (sc (i + 3)), ui x.N_wireEarly (3 * (sc (i + 1)) + (sc (i + 2))) (sc (i + 4)), ui x.N_wireLate (3 * (sc (i + 1)) + (sc (i + 2))) (sc (i + 5)), 0)) ⟨_, (r_wire (F := F) (ta := x.M_analysed) hN hM (hsc (i + 1)) (hsc (i + 2)) (hsc (i + 3)) (hsc (i + 4)) (hsc (i + 5))).trans (if_pos h), rfl⟩ (fun a1 a2 a3 a4 a5 hh => ?_)
      cases hh
      rw [show f_M_thrown F 0 = some 0 from rfl, ob1_s]
      exact ok_gr ⟨by decide, by decide⟩ (ok_gr ⟨by decide, by decide⟩ (ok_if (fun _ => ok_some.mpr rfl) (fun z => absurd rfl z)))
    exact ⟨_, Or.inl ⟨_, _, _, _, _, h1, _, _, _, _, _, h2, rfl⟩, by rw [Inv_mk]; exact ⟨hk.1, hk.2, hrs, rfl, Or.inl rfl⟩⟩
  · have h1 : f_lt_5_0 F x.N_size x.N_kind x.N_pins i L sc = some 0 := by
      apply ok_eq
      unfold f_lt_5_0
      refine (ok_gi ⟨by omega, by omega⟩ (ok_gi ⟨by omega, by omega⟩ (ok_gi ⟨by omega, by omega⟩ (ok_gi ⟨by omega, by omega⟩ (ok_gi ⟨by omega, by omega⟩ ?_)))))
      rw [t_wire0 hN (hsc _) (hsc _) (hsc _) (hsc _) (hsc _) h, ob1_s]
      exact ok_some.mpr rfl
    have h2 : f_lr_5 F x.M_nodes x.M_analysed x.M_kinds x.M_pins x.M_froms x.M_wireEarly x.M_wireLate i L sc 1 = some (1, x.M_froms, x.M_wireEarly, x.M_wireLate, x.M_analysed) := by
      apply ok_eq
      unfold f_lr_5
      refine (ok_gi ⟨by omega, by omega⟩ (ok_gi ⟨by omega, by omega⟩ (ok_gi ⟨by omega, by omega⟩ (ok_gi ⟨by omega, by omega⟩ (ok_gi ⟨by omega, by omega⟩ ?_)))))
      refine ok_ob5 (P := fun r => r = (1, x.M_froms, x.M_wireEarly, x.M_wireLate, x.M_analysed)) ⟨_, ((r_wire (F := F) (ta := x.M_analysed) hN hM (hsc (i + 1)) (hsc (i + 2)) (hsc (i + 3)) (hsc (i + 4)) (hsc (i + 5))).trans (if_neg h)).trans (by rw [e6, e7]), rfl⟩ (fun a1 a2 a3 a4 a5 hh => ?_)
      cases hh
      rw [show f_M_thrown F 1 = some 1 from rfl, ob1_s]
      exact ok_gr ⟨by decide, by decide⟩ (ok_gr ⟨by decide, by decide⟩ (ok_if (fun _ => ok_some.mpr rfl) (fun z => absurd rfl z)))
    exact ⟨_, Or.inr ⟨h1, _, _, _, _, _, h2, rfl⟩, by rw [Inv_mk]; exact hI⟩
theorem do_6 (hF : 200 ≤ F) (hI : Inv F x) (hi : 0 ≤ i) (hiL : i + 6 ≤ L) (hsc : ∀ j, -2147483648 ≤ sc j ∧ sc j ≤ 2147483647) : ∃ x', Do_6 F i L sc x x' ∧ Inv F x' := by
  have hI' := hI
  obtain ⟨hN, hM, hrs, hTA, hA⟩ := hI'
  obtain ⟨⟨e1, e2, e3⟩, ⟨e4, e5, e6, e7, e8⟩, -⟩ := id hM
  by_cases h : ((0 ≤ (sc (i + 1)) ∧ (sc (i + 1)) < x.N_size) ∧ 0 ≤ (sc (i + 2)) ∧ (sc (i + 2)) < x.N_pins (sc (i + 1))) ∧ x.N_kind (sc (i + 1)) = 2 ∧ (0 ≤ (sc (i + 3)) ∧ (sc (i + 3)) ≤ 2)
  · have hk := k_sense hN hM h
    have h1 : f_lh_6 F x.N_size x.N_kind x.N_pins x.N_senses i L sc = some (0, 0, ui x.N_senses ((sc (i + 1)) * 3 + (sc (i + 2))) (sc (i + 3))) := by
      apply ok_eq
      unfold f_lh_6 f_Law_sense
      refine (ok_gi ⟨by omega, by omega⟩ (ok_gi ⟨by omega, by omega⟩ (ok_gi ⟨by omega, by omega⟩ ?_)))
      refine ok_ob3 (P := fun r => r = (0, 0, ui x.N_senses ((sc (i + 1)) * 3 + (sc (i + 2))) (sc (i + 3)))) ?_ (fun a1 a2 a3 hh => ?_)
      · refine ok_ob2 (P := fun r => r = (0, ui x.N_senses ((sc (i + 1)) * 3 + (sc (i + 2))) (sc (i + 3)))) ⟨_, t_sense hN (hsc _) (hsc _) (hsc _) h, rfl⟩ (fun a1 a2 hh => ?_)
        cases hh
        exact ok_some.mpr rfl
      · cases hh
        exact ok_some.mpr rfl
    have h2 : f_lr_6 F x.M_nodes x.M_analysed x.M_kinds x.M_pins x.M_senses i L sc 0 = some (0, ui x.N_senses (3 * (sc (i + 1)) + (sc (i + 2))) (sc (i + 3)), 0) := by
      apply ok_eq
      unfold f_lr_6
      refine (ok_gi ⟨by omega, by omega⟩ (ok_gi ⟨by omega, by omega⟩ (ok_gi ⟨by omega, by omega⟩ ?_)))
      refine ok_ob3 (P := fun r => r = (0, ui x.N_senses (3 * (sc (i + 1)) + (sc (i + 2))) (sc (i + 3)), 0)) ⟨_, (r_sense (F := F) (ta := x.M_analysed) hN hM (hsc (i + 1)) (hsc (i + 2)) (hsc (i + 3))).trans (if_pos h), rfl⟩ (fun a1 a2 a3 hh => ?_)
      cases hh
      rw [show f_M_thrown F 0 = some 0 from rfl, ob1_s]
      exact ok_gr ⟨by decide, by decide⟩ (ok_gr ⟨by decide, by decide⟩ (ok_if (fun _ => ok_some.mpr rfl) (fun z => absurd rfl z)))
    exact ⟨_, Or.inl ⟨_, _, _, h1, _, _, _, h2, rfl⟩, by rw [Inv_mk]; exact ⟨hk.1, hk.2, hrs, rfl, Or.inl rfl⟩⟩
  · have h1 : f_lt_6_0 F x.N_size x.N_kind x.N_pins i L sc = some 0 := by
      apply ok_eq
      unfold f_lt_6_0
      refine (ok_gi ⟨by omega, by omega⟩ (ok_gi ⟨by omega, by omega⟩ (ok_gi ⟨by omega, by omega⟩ ?_)))
      rw [t_sense0 hN (hsc _) (hsc _) (hsc _) h, ob1_s]
      exact ok_some.mpr rfl
    have h2 : f_lr_6 F x.M_nodes x.M_analysed x.M_kinds x.M_pins x.M_senses i L sc 1 = some (1, x.M_senses, x.M_analysed) := by
      apply ok_eq
      unfold f_lr_6
      refine (ok_gi ⟨by omega, by omega⟩ (ok_gi ⟨by omega, by omega⟩ (ok_gi ⟨by omega, by omega⟩ ?_)))
      refine ok_ob3 (P := fun r => r = (1, x.M_senses, x.M_analysed)) ⟨_, ((r_sense (F := F) (ta := x.M_analysed) hN hM (hsc (i + 1)) (hsc (i + 2)) (hsc (i + 3))).trans (if_neg h)).trans (by rw [e8]), rfl⟩ (fun a1 a2 a3 hh => ?_)
      cases hh
      rw [show f_M_thrown F 1 = some 1 from rfl, ob1_s]
      exact ok_gr ⟨by decide, by decide⟩ (ok_gr ⟨by decide, by decide⟩ (ok_if (fun _ => ok_some.mpr rfl) (fun z => absurd rfl z)))
    exact ⟨_, Or.inr ⟨h1, _, _, _, h2, rfl⟩, by rw [Inv_mk]; exact hI⟩
theorem do_8 (hF : 200 ≤ F) (hI : Inv F x) (hi : 0 ≤ i) (hiL : i + 6 ≤ L) (hsc : ∀ j, -2147483648 ≤ sc j ∧ sc j ≤ 2147483647) : ∃ x', Do_8 F i L sc x x' ∧ Inv F x' := by
  have hI' := hI
  obtain ⟨hN, hM, hrs, hTA, hA⟩ := hI'
  obtain ⟨⟨e1, e2, e3⟩, ⟨e4, e5, e6, e7, e8⟩, -⟩ := id hM
  by_cases h : ((0 ≤ (sc (i + 1)) ∧ (sc (i + 1)) < x.N_size) ∧ (x.N_kind (sc (i + 1)) = 4 ∨ x.N_kind (sc (i + 1)) = 3)) ∧ ((sc (i + 2)) = 0 ∨ (sc (i + 2)) = 1) ∧ (-10000 ≤ (sc (i + 3)) ∧ (sc (i + 3)) ≤ 10000) ∧ (-10000 ≤ (sc (i + 4)) ∧ (sc (i + 4)) ≤ 10000)
  · have hk := k_check hN hM h
    have h1 : f_lh_8 F x.N_size x.N_kind x.N_setups x.N_holds i L sc = some (0, 0, ui x.N_setups (2 * (sc (i + 1)) + (sc (i + 2))) (sc (i + 3)), ui x.N_holds (2 * (sc (i + 1)) + (sc (i + 2))) (sc (i + 4))) := by
      apply ok_eq
      unfold f_lh_8 f_Law_check
      refine (ok_gi ⟨by omega, by omega⟩ (ok_gi ⟨by omega, by omega⟩ (ok_gi ⟨by omega, by omega⟩ (ok_gi ⟨by omega, by omega⟩ ?_))))
      refine ok_ob4 (P := fun r => r = (0, 0, ui x.N_setups (2 * (sc (i + 1)) + (sc (i + 2))) (sc (i + 3)), ui x.N_holds (2 * (sc (i + 1)) + (sc (i + 2))) (sc (i + 4)))) ?_ (fun a1 a2 a3 a4 hh => ?_)
      · refine ok_ob3 (P := fun r => r = (0, ui x.N_setups (2 * (sc (i + 1)) + (sc (i + 2))) (sc (i + 3)), ui x.N_holds (2 * (sc (i + 1)) + (sc (i + 2))) (sc (i + 4)))) ⟨_, t_check hN (hsc _) (hsc _) (hsc _) (hsc _) h, rfl⟩ (fun a1 a2 a3 hh => ?_)
        cases hh
        exact ok_some.mpr rfl
      · cases hh
        exact ok_some.mpr rfl
    have h2 : f_lr_8 F x.M_nodes x.M_analysed x.M_kinds x.M_firstOf x.M_secondOf i L sc 0 = some (0, ui x.M_firstOf (2 * (sc (i + 1)) + (sc (i + 2))) (sc (i + 3)), ui x.M_secondOf (2 * (sc (i + 1)) + (sc (i + 2))) (sc (i + 4)), 0) := by
      apply ok_eq
      unfold f_lr_8
      refine (ok_gi ⟨by omega, by omega⟩ (ok_gi ⟨by omega, by omega⟩ (ok_gi ⟨by omega, by omega⟩ (ok_gi ⟨by omega, by omega⟩ ?_))))
      refine ok_ob4 (P := fun r => r = (0, ui x.M_firstOf (2 * (sc (i + 1)) + (sc (i + 2))) (sc (i + 3)), ui x.M_secondOf (2 * (sc (i + 1)) + (sc (i + 2))) (sc (i + 4)), 0)) ⟨_, (r_check (F := F) (ta := x.M_analysed) hN hM (hsc (i + 1)) (hsc (i + 2)) (hsc (i + 3)) (hsc (i + 4))).trans (if_pos h), rfl⟩ (fun a1 a2 a3 a4 hh => ?_)
      cases hh
      rw [show f_M_thrown F 0 = some 0 from rfl, ob1_s]
      exact ok_gr ⟨by decide, by decide⟩ (ok_gr ⟨by decide, by decide⟩ (ok_if (fun _ => ok_some.mpr rfl) (fun z => absurd rfl z)))
    exact ⟨_, Or.inl ⟨_, _, _, _, h1, _, _, _, _, h2, rfl⟩, by rw [Inv_mk]; exact ⟨hk.1, hk.2, hrs, rfl, Or.inl rfl⟩⟩
  · have h1 : f_lt_8_0 F x.N_size x.N_kind i L sc = some 0 := by
      apply ok_eq
      unfold f_lt_8_0
      refine (ok_gi ⟨by omega, by omega⟩ (ok_gi ⟨by omega, by omega⟩ (ok_gi ⟨by omega, by omega⟩ (ok_gi ⟨by omega, by omega⟩ ?_))))
      rw [t_check0 hN (hsc _) (hsc _) (hsc _) (hsc _) h, ob1_s]
      exact ok_some.mpr rfl
    have h2 : f_lr_8 F x.M_nodes x.M_analysed x.M_kinds x.M_firstOf x.M_secondOf i L sc 1 = some (1, x.M_firstOf, x.M_secondOf, x.M_analysed) := by
      apply ok_eq
      unfold f_lr_8
      refine (ok_gi ⟨by omega, by omega⟩ (ok_gi ⟨by omega, by omega⟩ (ok_gi ⟨by omega, by omega⟩ (ok_gi ⟨by omega, by omega⟩ ?_))))
      refine ok_ob4 (P := fun r => r = (1, x.M_firstOf, x.M_secondOf, x.M_analysed)) ⟨_, ((r_check (F := F) (ta := x.M_analysed) hN hM (hsc (i + 1)) (hsc (i + 2)) (hsc (i + 3)) (hsc (i + 4))).trans (if_neg h)), rfl⟩ (fun a1 a2 a3 a4 hh => ?_)
      cases hh
      rw [show f_M_thrown F 1 = some 1 from rfl, ob1_s]
      exact ok_gr ⟨by decide, by decide⟩ (ok_gr ⟨by decide, by decide⟩ (ok_if (fun _ => ok_some.mpr rfl) (fun z => absurd rfl z)))
    exact ⟨_, Or.inr ⟨h1, _, _, _, _, h2, rfl⟩, by rw [Inv_mk]; exact hI⟩
theorem do_7 (hF : 200 ≤ F) (hI : Inv F x) (hi : 0 ≤ i) (hiL : i + 6 ≤ L) (hsc : ∀ j, -2147483648 ≤ sc j ∧ sc j ≤ 2147483647) : ∃ x', Do_7 F i L sc x x' ∧ Inv F x' := by
  have hI' := hI
  obtain ⟨hN, hM, hrs, hTA, hA⟩ := hI'
  by_cases h : ((((0 ≤ (sc (i + 1)) ∧ (sc (i + 1)) < x.N_size) ∧ 0 ≤ (sc (i + 2)) ∧ (sc (i + 2)) < x.N_pins (sc (i + 1))) ∧ (x.N_kind (sc (i + 1)) = 2 ∨ x.N_kind (sc (i + 1)) = 3 ∧ (sc (i + 2)) = 1)) ∧ ((sc (i + 3)) = 0 ∨ (sc (i + 3)) = 1) ∧ (0 ≤ (sc (i + 4)) ∧ (sc (i + 5)) ≤ 10000 ∧ (sc (i + 4)) ≤ (sc (i + 5))))
  · by_cases hk2 : x.N_kind (sc (i + 1)) = 2
    · have hk := k_delay hN hM h hk2
      have h1 : f_lh_7 F x.N_size x.N_kind x.N_pins x.N_gateEarly x.N_gateLate x.N_startEarly x.N_startLate i L sc = some (0, 0, ui x.N_gateEarly (2 * ((sc (i + 1)) * 3 + (sc (i + 2))) + (sc (i + 3))) (sc (i + 4)), ui x.N_gateLate (2 * ((sc (i + 1)) * 3 + (sc (i + 2))) + (sc (i + 3))) (sc (i + 5)), x.N_startEarly, x.N_startLate) := by
        apply ok_eq
        unfold f_lh_7 f_Law_delay
        refine (ok_gi ⟨by omega, by omega⟩ (ok_gi ⟨by omega, by omega⟩ (ok_gi ⟨by omega, by omega⟩ (ok_gi ⟨by omega, by omega⟩ (ok_gi ⟨by omega, by omega⟩ ?_)))))
        refine ok_ob6 (P := fun r => r = (0, 0, ui x.N_gateEarly (2 * ((sc (i + 1)) * 3 + (sc (i + 2))) + (sc (i + 3))) (sc (i + 4)), ui x.N_gateLate (2 * ((sc (i + 1)) * 3 + (sc (i + 2))) + (sc (i + 3))) (sc (i + 5)), x.N_startEarly, x.N_startLate)) ?_ (fun a1 a2 a3 a4 a5 a6 hh => ?_)
        · refine ok_ob5 (P := fun r => r = (0, ui x.N_gateEarly (2 * ((sc (i + 1)) * 3 + (sc (i + 2))) + (sc (i + 3))) (sc (i + 4)), ui x.N_gateLate (2 * ((sc (i + 1)) * 3 + (sc (i + 2))) + (sc (i + 3))) (sc (i + 5)), x.N_startEarly, x.N_startLate)) ⟨_, t_delay hN (hsc _) (hsc _) (hsc _) (hsc _) (hsc _) h hk2, rfl⟩ (fun a1 a2 a3 a4 a5 hh => ?_)
          cases hh
          exact ok_some.mpr rfl
        · cases hh
          exact ok_some.mpr rfl
      have h2 : f_lr_7 F x.M_nodes x.M_analysed x.M_kinds x.M_pins x.M_delayEarly x.M_delayLate i L sc 0 = some (0, ui x.M_delayEarly (6 * (sc (i + 1)) + 2 * (sc (i + 2)) + (sc (i + 3))) (sc (i + 4)), ui x.M_delayLate (6 * (sc (i + 1)) + 2 * (sc (i + 2)) + (sc (i + 3))) (sc (i + 5)), 0) := by
        apply ok_eq
        unfold f_lr_7
        refine (ok_gi ⟨by omega, by omega⟩ (ok_gi ⟨by omega, by omega⟩ (ok_gi ⟨by omega, by omega⟩ (ok_gi ⟨by omega, by omega⟩ (ok_gi ⟨by omega, by omega⟩ ?_)))))
        refine ok_ob4 (P := fun r => r = (0, ui x.M_delayEarly (6 * (sc (i + 1)) + 2 * (sc (i + 2)) + (sc (i + 3))) (sc (i + 4)), ui x.M_delayLate (6 * (sc (i + 1)) + 2 * (sc (i + 2)) + (sc (i + 3))) (sc (i + 5)), 0)) ⟨_, (r_delay (F := F) (ta := x.M_analysed) hN hM (hsc (i + 1)) (hsc (i + 2)) (hsc (i + 3)) (hsc (i + 4)) (hsc (i + 5))).trans (if_pos h), rfl⟩ (fun a1 a2 a3 a4 hh => ?_)
        cases hh
        rw [show f_M_thrown F 0 = some 0 from rfl, ob1_s]
        exact ok_gr ⟨by decide, by decide⟩ (ok_gr ⟨by decide, by decide⟩ (ok_if (fun _ => ok_some.mpr rfl) (fun z => absurd rfl z)))
      exact ⟨_, Or.inl ⟨_, _, _, _, _, _, h1, _, _, _, _, h2, rfl⟩, by rw [Inv_mk]; exact ⟨hk.1, hk.2, hrs, rfl, Or.inl rfl⟩⟩
    · have hk2 : x.N_kind (sc (i + 1)) = 3 := by
        rcases h.1.2 with z | z
        · exact absurd z hk2
        · exact z.1
      have hk := k_delay3 hN hM h hk2
      have h1 : f_lh_7 F x.N_size x.N_kind x.N_pins x.N_gateEarly x.N_gateLate x.N_startEarly x.N_startLate i L sc = some (0, 0, x.N_gateEarly, x.N_gateLate, ui x.N_startEarly (2 * (sc (i + 1)) + (sc (i + 3))) (sc (i + 4)), ui x.N_startLate (2 * (sc (i + 1)) + (sc (i + 3))) (sc (i + 5))) := by
        apply ok_eq
        unfold f_lh_7 f_Law_delay
        refine (ok_gi ⟨by omega, by omega⟩ (ok_gi ⟨by omega, by omega⟩ (ok_gi ⟨by omega, by omega⟩ (ok_gi ⟨by omega, by omega⟩ (ok_gi ⟨by omega, by omega⟩ ?_)))))
        refine ok_ob6 (P := fun r => r = (0, 0, x.N_gateEarly, x.N_gateLate, ui x.N_startEarly (2 * (sc (i + 1)) + (sc (i + 3))) (sc (i + 4)), ui x.N_startLate (2 * (sc (i + 1)) + (sc (i + 3))) (sc (i + 5)))) ?_ (fun a1 a2 a3 a4 a5 a6 hh => ?_)
        · refine ok_ob5 (P := fun r => r = (0, x.N_gateEarly, x.N_gateLate, ui x.N_startEarly (2 * (sc (i + 1)) + (sc (i + 3))) (sc (i + 4)), ui x.N_startLate (2 * (sc (i + 1)) + (sc (i + 3))) (sc (i + 5)))) ⟨_, t_delay3 hN (hsc _) (hsc _) (hsc _) (hsc _) (hsc _) h hk2, rfl⟩ (fun a1 a2 a3 a4 a5 hh => ?_)
          cases hh
          exact ok_some.mpr rfl
        · cases hh
          exact ok_some.mpr rfl
      have h2 : f_lr_7 F x.M_nodes x.M_analysed x.M_kinds x.M_pins x.M_delayEarly x.M_delayLate i L sc 0 = some (0, ui x.M_delayEarly (6 * (sc (i + 1)) + 2 * (sc (i + 2)) + (sc (i + 3))) (sc (i + 4)), ui x.M_delayLate (6 * (sc (i + 1)) + 2 * (sc (i + 2)) + (sc (i + 3))) (sc (i + 5)), 0) := by
        apply ok_eq
        unfold f_lr_7
        refine (ok_gi ⟨by omega, by omega⟩ (ok_gi ⟨by omega, by omega⟩ (ok_gi ⟨by omega, by omega⟩ (ok_gi ⟨by omega, by omega⟩ (ok_gi ⟨by omega, by omega⟩ ?_)))))
        refine ok_ob4 (P := fun r => r = (0, ui x.M_delayEarly (6 * (sc (i + 1)) + 2 * (sc (i + 2)) + (sc (i + 3))) (sc (i + 4)), ui x.M_delayLate (6 * (sc (i + 1)) + 2 * (sc (i + 2)) + (sc (i + 3))) (sc (i + 5)), 0)) ⟨_, (r_delay (F := F) (ta := x.M_analysed) hN hM (hsc (i + 1)) (hsc (i + 2)) (hsc (i + 3)) (hsc (i + 4)) (hsc (i + 5))).trans (if_pos h), rfl⟩ (fun a1 a2 a3 a4 hh => ?_)
        cases hh
        rw [show f_M_thrown F 0 = some 0 from rfl, ob1_s]
        exact ok_gr ⟨by decide, by decide⟩ (ok_gr ⟨by decide, by decide⟩ (ok_if (fun _ => ok_some.mpr rfl) (fun z => absurd rfl z)))
      exact ⟨_, Or.inl ⟨_, _, _, _, _, _, h1, _, _, _, _, h2, rfl⟩, by rw [Inv_mk]; exact ⟨hk.1, hk.2, hrs, rfl, Or.inl rfl⟩⟩
  · have h1 : f_lt_7_0 F x.N_size x.N_kind x.N_pins i L sc = some 0 := by
      apply ok_eq
      unfold f_lt_7_0
      refine (ok_gi ⟨by omega, by omega⟩ (ok_gi ⟨by omega, by omega⟩ (ok_gi ⟨by omega, by omega⟩ (ok_gi ⟨by omega, by omega⟩ (ok_gi ⟨by omega, by omega⟩ ?_)))))
      rw [t_delay0 hN (hsc _) (hsc _) (hsc _) (hsc _) (hsc _) h, ob1_s]
      exact ok_some.mpr rfl
    have h2 : f_lr_7 F x.M_nodes x.M_analysed x.M_kinds x.M_pins x.M_delayEarly x.M_delayLate i L sc 1 = some (1, x.M_delayEarly, x.M_delayLate, x.M_analysed) := by
      apply ok_eq
      unfold f_lr_7
      refine (ok_gi ⟨by omega, by omega⟩ (ok_gi ⟨by omega, by omega⟩ (ok_gi ⟨by omega, by omega⟩ (ok_gi ⟨by omega, by omega⟩ (ok_gi ⟨by omega, by omega⟩ ?_)))))
      refine ok_ob4 (P := fun r => r = (1, x.M_delayEarly, x.M_delayLate, x.M_analysed)) ⟨_, (r_delay (F := F) (ta := x.M_analysed) hN hM (hsc (i + 1)) (hsc (i + 2)) (hsc (i + 3)) (hsc (i + 4)) (hsc (i + 5))).trans (if_neg h), rfl⟩ (fun a1 a2 a3 a4 hh => ?_)
      cases hh
      rw [show f_M_thrown F 1 = some 1 from rfl, ob1_s]
      exact ok_gr ⟨by decide, by decide⟩ (ok_gr ⟨by decide, by decide⟩ (ok_if (fun _ => ok_some.mpr rfl) (fun z => absurd rfl z)))
    exact ⟨_, Or.inr ⟨h1, _, _, _, _, h2, rfl⟩, by rw [Inv_mk]; exact hI⟩
theorem do_3 (hF : 200 ≤ F) (hI : Inv F x) (hi : 0 ≤ i) (hiL : i + 6 ≤ L) (hsc : ∀ j, -2147483648 ≤ sc j ∧ sc j ≤ 2147483647) : ∃ x', Do_3 F i L sc x x' ∧ Inv F x' := by
  have hI' := hI
  obtain ⟨hN, hM, hrs, hTA, hA⟩ := hI'
  have hz := hN.1
  by_cases h : x.N_size < 48
  · have hk := add_inv hN hM h (k := 3) (m := 2) (Or.inr (Or.inr (Or.inl ⟨rfl, rfl⟩)))
    have hk2 := IM_same hk.2
    have h1 : f_T_register F x.T_analysed x.N_size x.N_kind x.N_pins = some (x.N_size, 0, x.N_size + 1, ui x.N_kind x.N_size 3, ui x.N_pins x.N_size 2) := by
      apply ok_eq
      unfold f_T_register
      refine ok_ob5 (P := fun r => r = (x.N_size, 0, x.N_size + 1, ui x.N_kind x.N_size 3, ui x.N_pins x.N_size 2)) ⟨_, (m_addT hN x.T_analysed 3 2).trans (if_pos h), rfl⟩ (fun a1 a2 a3 a4 a5 hh => ?_)
      cases hh
      exact ok_some.mpr rfl
    have h2 : f_M_register F x.M_nodes x.M_analysed x.M_kinds x.M_pins x.M_froms x.M_wireEarly x.M_wireLate x.M_senses x.M_delayEarly x.M_delayLate x.M_firstOf x.M_secondOf = some (x.N_size, 0, x.N_size + 1, ui x.N_kind x.N_size 3, ui x.N_pins x.N_size 2, (fun i => if 3 * x.N_size ≤ i ∧ i < 3 * x.N_size + 3 then -2147483648 else x.M_froms i), x.N_wireEarly, x.N_wireLate, x.N_senses, x.M_delayEarly, x.M_delayLate, x.M_firstOf, x.M_secondOf, 0) := by
      apply ok_eq
      unfold f_M_register
      refine ok_ob13 (P := fun r => r = (x.N_size, x.N_size + 1, ui x.N_kind x.N_size 3, ui x.N_pins x.N_size 2, (fun i => if 3 * x.N_size ≤ i ∧ i < 3 * x.N_size + 3 then -2147483648 else x.M_froms i), x.N_wireEarly, x.N_wireLate, x.N_senses, x.M_delayEarly, x.M_delayLate, x.M_firstOf, x.M_secondOf, 0)) ⟨_, (m_addM (F := F) (by omega) hN hM x.M_analysed 3 2).trans (if_pos h), rfl⟩ (fun a1 a2 a3 a4 a5 a6 a7 a8 a9 a10 a11 a12 a13 hh => ?_)
      cases hh
      exact ok_some.mpr rfl
    have h3 : f_lr_3 F x.T_analysed x.M_nodes x.M_analysed x.M_kinds x.M_pins x.M_froms x.M_wireEarly x.M_wireLate x.M_senses x.M_delayEarly x.M_delayLate x.M_firstOf x.M_secondOf x.N_size x.N_kind x.N_pins = some (0, 0, x.N_size + 1, ui x.N_kind x.N_size 3, ui x.N_pins x.N_size 2, (fun i => if 3 * x.N_size ≤ i ∧ i < 3 * x.N_size + 3 then -2147483648 else x.M_froms i), x.N_wireEarly, x.N_wireLate, x.N_senses, x.M_delayEarly, x.M_delayLate, x.M_firstOf, x.M_secondOf, 0, x.N_size + 1, ui x.N_kind x.N_size 3, ui x.N_pins x.N_size 2) := by
      apply ok_eq
      unfold f_lr_3
      refine ok_ob5 (P := fun r => r = (x.N_size, 0, x.N_size + 1, ui x.N_kind x.N_size 3, ui x.N_pins x.N_size 2)) ⟨_, h1, rfl⟩ (fun a1 a2 a3 a4 a5 hh => ?_)
      cases hh
      refine ok_ob14 (P := fun r => r = (x.N_size, 0, x.N_size + 1, ui x.N_kind x.N_size 3, ui x.N_pins x.N_size 2, (fun i => if 3 * x.N_size ≤ i ∧ i < 3 * x.N_size + 3 then -2147483648 else x.M_froms i), x.N_wireEarly, x.N_wireLate, x.N_senses, x.M_delayEarly, x.M_delayLate, x.M_firstOf, x.M_secondOf, 0)) ⟨_, h2, rfl⟩ (fun a1 a2 a3 a4 a5 a6 a7 a8 a9 a10 a11 a12 a13 a14 hh => ?_)
      cases hh
      exact ok_gr ⟨by omega, by omega⟩ (ok_gr ⟨by omega, by omega⟩ (ok_if (fun _ => ok_some.mpr rfl) (fun z => absurd rfl z)))
    exact ⟨_, ⟨_, _, _, _, _, _, _, _, _, _, _, _, _, _, _, _, _, h3, rfl⟩, by rw [Inv_mk]; exact ⟨hk.1, hk2, hrs, rfl, Or.inl rfl⟩⟩
  · have hM2 := IM_same hM
    have h1 : f_T_register F x.T_analysed x.N_size x.N_kind x.N_pins = some (-2147483648, x.T_analysed, x.N_size, x.N_kind, x.N_pins) := by
      apply ok_eq
      unfold f_T_register
      refine ok_ob5 (P := fun r => r = (-2147483648, x.T_analysed, x.N_size, x.N_kind, x.N_pins)) ⟨_, (m_addT hN x.T_analysed 3 2).trans (if_neg h), rfl⟩ (fun a1 a2 a3 a4 a5 hh => ?_)
      cases hh
      exact ok_some.mpr rfl
    have h2 : f_M_register F x.M_nodes x.M_analysed x.M_kinds x.M_pins x.M_froms x.M_wireEarly x.M_wireLate x.M_senses x.M_delayEarly x.M_delayLate x.M_firstOf x.M_secondOf = some (-2147483648, 0, x.N_size, x.N_kind, x.N_pins, x.M_froms, x.N_wireEarly, x.N_wireLate, x.N_senses, x.M_delayEarly, x.M_delayLate, x.M_firstOf, x.M_secondOf, x.M_analysed) := by
      apply ok_eq
      unfold f_M_register
      refine ok_ob13 (P := fun r => r = (-2147483648, x.N_size, x.N_kind, x.N_pins, x.M_froms, x.N_wireEarly, x.N_wireLate, x.N_senses, x.M_delayEarly, x.M_delayLate, x.M_firstOf, x.M_secondOf, x.M_analysed)) ⟨_, (m_addM (F := F) (by omega) hN hM x.M_analysed 3 2).trans (if_neg h), rfl⟩ (fun a1 a2 a3 a4 a5 a6 a7 a8 a9 a10 a11 a12 a13 hh => ?_)
      cases hh
      exact ok_some.mpr rfl
    have h3 : f_lr_3 F x.T_analysed x.M_nodes x.M_analysed x.M_kinds x.M_pins x.M_froms x.M_wireEarly x.M_wireLate x.M_senses x.M_delayEarly x.M_delayLate x.M_firstOf x.M_secondOf x.N_size x.N_kind x.N_pins = some (x.T_analysed, 0, x.N_size, x.N_kind, x.N_pins, x.M_froms, x.N_wireEarly, x.N_wireLate, x.N_senses, x.M_delayEarly, x.M_delayLate, x.M_firstOf, x.M_secondOf, x.M_analysed, x.N_size, x.N_kind, x.N_pins) := by
      apply ok_eq
      unfold f_lr_3
      refine ok_ob5 (P := fun r => r = (-2147483648, x.T_analysed, x.N_size, x.N_kind, x.N_pins)) ⟨_, h1, rfl⟩ (fun a1 a2 a3 a4 a5 hh => ?_)
      cases hh
      refine ok_ob14 (P := fun r => r = (-2147483648, 0, x.N_size, x.N_kind, x.N_pins, x.M_froms, x.N_wireEarly, x.N_wireLate, x.N_senses, x.M_delayEarly, x.M_delayLate, x.M_firstOf, x.M_secondOf, x.M_analysed)) ⟨_, h2, rfl⟩ (fun a1 a2 a3 a4 a5 a6 a7 a8 a9 a10 a11 a12 a13 a14 hh => ?_)
      cases hh
      exact ok_gr ⟨by omega, by omega⟩ (ok_gr ⟨by omega, by omega⟩ (ok_if (fun _ => ok_some.mpr rfl) (fun z => absurd rfl z)))
    exact ⟨_, ⟨_, _, _, _, _, _, _, _, _, _, _, _, _, _, _, _, _, h3, rfl⟩, by rw [Inv_mk]; exact ⟨hN, hM2, hrs, hTA, hA⟩⟩
theorem do_4 (hF : 200 ≤ F) (hI : Inv F x) (hi : 0 ≤ i) (hiL : i + 6 ≤ L) (hsc : ∀ j, -2147483648 ≤ sc j ∧ sc j ≤ 2147483647) : ∃ x', Do_4 F i L sc x x' ∧ Inv F x' := by
  have hI' := hI
  obtain ⟨hN, hM, hrs, hTA, hA⟩ := hI'
  have hz := hN.1
  by_cases h : x.N_size < 48
  · have hk := add_inv hN hM h (k := 4) (m := 1) (Or.inr (Or.inr (Or.inr ⟨rfl, rfl⟩)))
    have hk2 := IM_same hk.2
    have h1 : f_T_output F x.T_analysed x.N_size x.N_kind x.N_pins = some (x.N_size, 0, x.N_size + 1, ui x.N_kind x.N_size 4, ui x.N_pins x.N_size 1) := by
      apply ok_eq
      unfold f_T_output
      refine ok_ob5 (P := fun r => r = (x.N_size, 0, x.N_size + 1, ui x.N_kind x.N_size 4, ui x.N_pins x.N_size 1)) ⟨_, (m_addT hN x.T_analysed 4 1).trans (if_pos h), rfl⟩ (fun a1 a2 a3 a4 a5 hh => ?_)
      cases hh
      exact ok_some.mpr rfl
    have h2 : f_M_output F x.M_nodes x.M_analysed x.M_kinds x.M_pins x.M_froms x.M_wireEarly x.M_wireLate x.M_senses x.M_delayEarly x.M_delayLate x.M_firstOf x.M_secondOf = some (x.N_size, 0, x.N_size + 1, ui x.N_kind x.N_size 4, ui x.N_pins x.N_size 1, (fun i => if 3 * x.N_size ≤ i ∧ i < 3 * x.N_size + 3 then -2147483648 else x.M_froms i), x.N_wireEarly, x.N_wireLate, x.N_senses, x.M_delayEarly, x.M_delayLate, x.M_firstOf, x.M_secondOf, 0) := by
      apply ok_eq
      unfold f_M_output
      refine ok_ob13 (P := fun r => r = (x.N_size, x.N_size + 1, ui x.N_kind x.N_size 4, ui x.N_pins x.N_size 1, (fun i => if 3 * x.N_size ≤ i ∧ i < 3 * x.N_size + 3 then -2147483648 else x.M_froms i), x.N_wireEarly, x.N_wireLate, x.N_senses, x.M_delayEarly, x.M_delayLate, x.M_firstOf, x.M_secondOf, 0)) ⟨_, (m_addM (F := F) (by omega) hN hM x.M_analysed 4 1).trans (if_pos h), rfl⟩ (fun a1 a2 a3 a4 a5 a6 a7 a8 a9 a10 a11 a12 a13 hh => ?_)
      cases hh
      exact ok_some.mpr rfl
    have h3 : f_lr_4 F x.T_analysed x.M_nodes x.M_analysed x.M_kinds x.M_pins x.M_froms x.M_wireEarly x.M_wireLate x.M_senses x.M_delayEarly x.M_delayLate x.M_firstOf x.M_secondOf x.N_size x.N_kind x.N_pins = some (0, 0, x.N_size + 1, ui x.N_kind x.N_size 4, ui x.N_pins x.N_size 1, (fun i => if 3 * x.N_size ≤ i ∧ i < 3 * x.N_size + 3 then -2147483648 else x.M_froms i), x.N_wireEarly, x.N_wireLate, x.N_senses, x.M_delayEarly, x.M_delayLate, x.M_firstOf, x.M_secondOf, 0, x.N_size + 1, ui x.N_kind x.N_size 4, ui x.N_pins x.N_size 1) := by
      apply ok_eq
      unfold f_lr_4
      refine ok_ob5 (P := fun r => r = (x.N_size, 0, x.N_size + 1, ui x.N_kind x.N_size 4, ui x.N_pins x.N_size 1)) ⟨_, h1, rfl⟩ (fun a1 a2 a3 a4 a5 hh => ?_)
      cases hh
      refine ok_ob14 (P := fun r => r = (x.N_size, 0, x.N_size + 1, ui x.N_kind x.N_size 4, ui x.N_pins x.N_size 1, (fun i => if 3 * x.N_size ≤ i ∧ i < 3 * x.N_size + 3 then -2147483648 else x.M_froms i), x.N_wireEarly, x.N_wireLate, x.N_senses, x.M_delayEarly, x.M_delayLate, x.M_firstOf, x.M_secondOf, 0)) ⟨_, h2, rfl⟩ (fun a1 a2 a3 a4 a5 a6 a7 a8 a9 a10 a11 a12 a13 a14 hh => ?_)
      cases hh
      exact ok_gr ⟨by omega, by omega⟩ (ok_gr ⟨by omega, by omega⟩ (ok_if (fun _ => ok_some.mpr rfl) (fun z => absurd rfl z)))
    exact ⟨_, ⟨_, _, _, _, _, _, _, _, _, _, _, _, _, _, _, _, _, h3, rfl⟩, by rw [Inv_mk]; exact ⟨hk.1, hk2, hrs, rfl, Or.inl rfl⟩⟩
  · have hM2 := IM_same hM
    have h1 : f_T_output F x.T_analysed x.N_size x.N_kind x.N_pins = some (-2147483648, x.T_analysed, x.N_size, x.N_kind, x.N_pins) := by
      apply ok_eq
      unfold f_T_output
      refine ok_ob5 (P := fun r => r = (-2147483648, x.T_analysed, x.N_size, x.N_kind, x.N_pins)) ⟨_, (m_addT hN x.T_analysed 4 1).trans (if_neg h), rfl⟩ (fun a1 a2 a3 a4 a5 hh => ?_)
      cases hh
      exact ok_some.mpr rfl
    have h2 : f_M_output F x.M_nodes x.M_analysed x.M_kinds x.M_pins x.M_froms x.M_wireEarly x.M_wireLate x.M_senses x.M_delayEarly x.M_delayLate x.M_firstOf x.M_secondOf = some (-2147483648, 0, x.N_size, x.N_kind, x.N_pins, x.M_froms, x.N_wireEarly, x.N_wireLate, x.N_senses, x.M_delayEarly, x.M_delayLate, x.M_firstOf, x.M_secondOf, x.M_analysed) := by
      apply ok_eq
      unfold f_M_output
      refine ok_ob13 (P := fun r => r = (-2147483648, x.N_size, x.N_kind, x.N_pins, x.M_froms, x.N_wireEarly, x.N_wireLate, x.N_senses, x.M_delayEarly, x.M_delayLate, x.M_firstOf, x.M_secondOf, x.M_analysed)) ⟨_, (m_addM (F := F) (by omega) hN hM x.M_analysed 4 1).trans (if_neg h), rfl⟩ (fun a1 a2 a3 a4 a5 a6 a7 a8 a9 a10 a11 a12 a13 hh => ?_)
      cases hh
      exact ok_some.mpr rfl
    have h3 : f_lr_4 F x.T_analysed x.M_nodes x.M_analysed x.M_kinds x.M_pins x.M_froms x.M_wireEarly x.M_wireLate x.M_senses x.M_delayEarly x.M_delayLate x.M_firstOf x.M_secondOf x.N_size x.N_kind x.N_pins = some (x.T_analysed, 0, x.N_size, x.N_kind, x.N_pins, x.M_froms, x.N_wireEarly, x.N_wireLate, x.N_senses, x.M_delayEarly, x.M_delayLate, x.M_firstOf, x.M_secondOf, x.M_analysed, x.N_size, x.N_kind, x.N_pins) := by
      apply ok_eq
      unfold f_lr_4
      refine ok_ob5 (P := fun r => r = (-2147483648, x.T_analysed, x.N_size, x.N_kind, x.N_pins)) ⟨_, h1, rfl⟩ (fun a1 a2 a3 a4 a5 hh => ?_)
      cases hh
      refine ok_ob14 (P := fun r => r = (-2147483648, 0, x.N_size, x.N_kind, x.N_pins, x.M_froms, x.N_wireEarly, x.N_wireLate, x.N_senses, x.M_delayEarly, x.M_delayLate, x.M_firstOf, x.M_secondOf, x.M_analysed)) ⟨_, h2, rfl⟩ (fun a1 a2 a3 a4 a5 a6 a7 a8 a9 a10 a11 a12 a13 a14 hh => ?_)
      cases hh
      exact ok_gr ⟨by omega, by omega⟩ (ok_gr ⟨by omega, by omega⟩ (ok_if (fun _ => ok_some.mpr rfl) (fun z => absurd rfl z)))
    exact ⟨_, ⟨_, _, _, _, _, _, _, _, _, _, _, _, _, _, _, _, _, h3, rfl⟩, by rw [Inv_mk]; exact ⟨hN, hM2, hrs, hTA, hA⟩⟩
theorem do_2 (hF : 200 ≤ F) (hI : Inv F x) (hi : 0 ≤ i) (hiL : i + 6 ≤ L) (hsc : ∀ j, -2147483648 ≤ sc j ∧ sc j ≤ 2147483647) : ∃ x', Do_2 F i L sc x x' ∧ Inv F x' := by
  have hI' := hI
  obtain ⟨hN, hM, hrs, hTA, hA⟩ := hI'
  have hz := hN.1
  by_cases hc : 1 ≤ (sc (i + 1)) ∧ (sc (i + 1)) ≤ 3
  · by_cases h : x.N_size < 48
    · have hk := add_inv hN hM h (k := 2) (m := (sc (i + 1))) (Or.inr (Or.inl ⟨rfl, hc⟩))
      have hk2 := IM_same hk.2
      have h1 : f_lh_2 F x.T_analysed x.N_size x.N_kind x.N_pins x.out i L sc = some (0, 0, x.N_size + 1, ui x.N_kind x.N_size 2, ui x.N_pins x.N_size (sc (i + 1)), ul x.out 0 (Int32.toInt64 (iI (x.N_size)))) := by
        apply ok_eq
        unfold f_lh_2 f_Law_gate f_T_gate
        refine ok_gi ⟨by omega, by omega⟩ ?_
        refine ok_ob6 (P := fun r => r = (0, 0, x.N_size + 1, ui x.N_kind x.N_size 2, ui x.N_pins x.N_size (sc (i + 1)), ul x.out 0 (Int32.toInt64 (iI (x.N_size))))) ?_ (fun a1 a2 a3 a4 a5 a6 hh => ?_)
        · refine ok_ob5 (P := fun r => r = (x.N_size, 0, x.N_size + 1, ui x.N_kind x.N_size 2, ui x.N_pins x.N_size (sc (i + 1)))) ?_ (fun a1 a2 a3 a4 a5 hh => ?_)
          · rw [e_isWithin (hsc _) (by omega) (by omega), ob1_s, (bz_1 _).mpr hc]
            refine ok_gr ⟨by omega, by omega⟩ (ok_if (fun z => by omega) (fun _ => ?_))
            refine ok_ob5 (P := fun r => r = (x.N_size, 0, x.N_size + 1, ui x.N_kind x.N_size 2, ui x.N_pins x.N_size (sc (i + 1)))) ⟨_, (m_addT hN x.T_analysed 2 (sc (i + 1))).trans (if_pos h), rfl⟩ (fun a1 a2 a3 a4 a5 hh => ?_)
            cases hh
            exact ok_some.mpr rfl
          · cases hh
            exact ok_gi ⟨by decide, by decide⟩ (ok_bd.mpr (ok_some.mpr rfl))
        · cases hh
          exact ok_some.mpr rfl
      have h2 : f_M_gate F x.M_nodes x.M_analysed x.M_kinds x.M_pins x.M_froms x.M_wireEarly x.M_wireLate x.M_senses x.M_delayEarly x.M_delayLate x.M_firstOf x.M_secondOf (sc (i + 1)) = some (x.N_size, 0, x.N_size + 1, ui x.N_kind x.N_size 2, ui x.N_pins x.N_size (sc (i + 1)), (fun i => if 3 * x.N_size ≤ i ∧ i < 3 * x.N_size + 3 then -2147483648 else x.M_froms i), x.N_wireEarly, x.N_wireLate, x.N_senses, x.M_delayEarly, x.M_delayLate, x.M_firstOf, x.M_secondOf, 0) := by
        apply ok_eq
        unfold f_M_gate f_M_gate_j16
        refine ok_gr (hsc _) (ok_if (fun z => by omega) (fun _ => ok_gr (hsc _) (ok_if (fun _ => ?_) (fun z => by omega))))
        refine ok_gr ⟨by omega, by omega⟩ (ok_if (fun _ => ?_) (fun z => by omega))
        refine ok_ob13 (P := fun r => r = (x.N_size, x.N_size + 1, ui x.N_kind x.N_size 2, ui x.N_pins x.N_size (sc (i + 1)), (fun i => if 3 * x.N_size ≤ i ∧ i < 3 * x.N_size + 3 then -2147483648 else x.M_froms i), x.N_wireEarly, x.N_wireLate, x.N_senses, x.M_delayEarly, x.M_delayLate, x.M_firstOf, x.M_secondOf, 0)) ⟨_, (m_addM (F := F) (by omega) hN hM x.M_analysed 2 (sc (i + 1))).trans (if_pos h), rfl⟩ (fun a1 a2 a3 a4 a5 a6 a7 a8 a9 a10 a11 a12 a13 hh => ?_)
        cases hh
        exact ok_some.mpr rfl
      have h3 : f_lr_2 F x.M_nodes x.M_analysed x.M_kinds x.M_pins x.M_froms x.M_wireEarly x.M_wireLate x.M_senses x.M_delayEarly x.M_delayLate x.M_firstOf x.M_secondOf (ul x.out 0 (Int32.toInt64 (iI (x.N_size)))) i L sc 0 = some (0, x.N_size + 1, ui x.N_kind x.N_size 2, ui x.N_pins x.N_size (sc (i + 1)), (fun i => if 3 * x.N_size ≤ i ∧ i < 3 * x.N_size + 3 then -2147483648 else x.M_froms i), x.N_wireEarly, x.N_wireLate, x.N_senses, x.M_delayEarly, x.M_delayLate, x.M_firstOf, x.M_secondOf, 0) := by
        apply ok_eq
        unfold f_lr_2 f_lr_2_j329
        refine ok_gi ⟨by omega, by omega⟩ ?_
        refine ok_ob14 (P := fun r => r = (x.N_size, 0, x.N_size + 1, ui x.N_kind x.N_size 2, ui x.N_pins x.N_size (sc (i + 1)), (fun i => if 3 * x.N_size ≤ i ∧ i < 3 * x.N_size + 3 then -2147483648 else x.M_froms i), x.N_wireEarly, x.N_wireLate, x.N_senses, x.M_delayEarly, x.M_delayLate, x.M_firstOf, x.M_secondOf, 0)) ⟨_, h2, rfl⟩ (fun a1 a2 a3 a4 a5 a6 a7 a8 a9 a10 a11 a12 a13 a14 hh => ?_)
        cases hh
        rw [show f_M_thrown F 0 = some 0 from rfl, ob1_s]
        exact ok_gr ⟨by decide, by decide⟩ (ok_gr ⟨by decide, by decide⟩ (ok_if (fun _ => ok_gr ⟨by decide, by decide⟩ (ok_if (fun _ => ok_gi ⟨by decide, by decide⟩ (ok_gr (lc_r _ _) (ok_if (fun _ => ok_some.mpr rfl) (fun z => absurd ((lc_0 _ _).mpr (if_pos rfl)) z)))) (fun z => absurd rfl z))) (fun z => absurd rfl z)))
      exact ⟨_, Or.inl ⟨_, _, _, _, _, _, h1, _, _, _, _, _, _, _, _, _, _, _, _, _, h3, rfl⟩, by rw [Inv_mk]; exact ⟨hk.1, hk2, hrs, rfl, Or.inl rfl⟩⟩
    · have hM2 := IM_same hM
      have h1 : f_lh_2 F x.T_analysed x.N_size x.N_kind x.N_pins x.out i L sc = some (0, x.T_analysed, x.N_size, x.N_kind, x.N_pins, ul x.out 0 (Int32.toInt64 (iI (-2147483648)))) := by
        apply ok_eq
        unfold f_lh_2 f_Law_gate f_T_gate
        refine ok_gi ⟨by omega, by omega⟩ ?_
        refine ok_ob6 (P := fun r => r = (0, x.T_analysed, x.N_size, x.N_kind, x.N_pins, ul x.out 0 (Int32.toInt64 (iI (-2147483648))))) ?_ (fun a1 a2 a3 a4 a5 a6 hh => ?_)
        · refine ok_ob5 (P := fun r => r = (-2147483648, x.T_analysed, x.N_size, x.N_kind, x.N_pins)) ?_ (fun a1 a2 a3 a4 a5 hh => ?_)
          · rw [e_isWithin (hsc _) (by omega) (by omega), ob1_s, (bz_1 _).mpr hc]
            refine ok_gr ⟨by omega, by omega⟩ (ok_if (fun z => by omega) (fun _ => ?_))
            refine ok_ob5 (P := fun r => r = (-2147483648, x.T_analysed, x.N_size, x.N_kind, x.N_pins)) ⟨_, (m_addT hN x.T_analysed 2 (sc (i + 1))).trans (if_neg h), rfl⟩ (fun a1 a2 a3 a4 a5 hh => ?_)
            cases hh
            exact ok_some.mpr rfl
          · cases hh
            exact ok_gi ⟨by decide, by decide⟩ (ok_bd.mpr (ok_some.mpr rfl))
        · cases hh
          exact ok_some.mpr rfl
      have h2 : f_M_gate F x.M_nodes x.M_analysed x.M_kinds x.M_pins x.M_froms x.M_wireEarly x.M_wireLate x.M_senses x.M_delayEarly x.M_delayLate x.M_firstOf x.M_secondOf (sc (i + 1)) = some (-2147483648, 0, x.N_size, x.N_kind, x.N_pins, x.M_froms, x.N_wireEarly, x.N_wireLate, x.N_senses, x.M_delayEarly, x.M_delayLate, x.M_firstOf, x.M_secondOf, x.M_analysed) := by
        apply ok_eq
        unfold f_M_gate f_M_gate_j16
        refine ok_gr (hsc _) (ok_if (fun z => by omega) (fun _ => ok_gr (hsc _) (ok_if (fun _ => ?_) (fun z => by omega))))
        refine ok_gr ⟨by omega, by omega⟩ (ok_if (fun _ => ?_) (fun z => by omega))
        refine ok_ob13 (P := fun r => r = (-2147483648, x.N_size, x.N_kind, x.N_pins, x.M_froms, x.N_wireEarly, x.N_wireLate, x.N_senses, x.M_delayEarly, x.M_delayLate, x.M_firstOf, x.M_secondOf, x.M_analysed)) ⟨_, (m_addM (F := F) (by omega) hN hM x.M_analysed 2 (sc (i + 1))).trans (if_neg h), rfl⟩ (fun a1 a2 a3 a4 a5 a6 a7 a8 a9 a10 a11 a12 a13 hh => ?_)
        cases hh
        exact ok_some.mpr rfl
      have h3 : f_lr_2 F x.M_nodes x.M_analysed x.M_kinds x.M_pins x.M_froms x.M_wireEarly x.M_wireLate x.M_senses x.M_delayEarly x.M_delayLate x.M_firstOf x.M_secondOf (ul x.out 0 (Int32.toInt64 (iI (-2147483648)))) i L sc 0 = some (0, x.N_size, x.N_kind, x.N_pins, x.M_froms, x.N_wireEarly, x.N_wireLate, x.N_senses, x.M_delayEarly, x.M_delayLate, x.M_firstOf, x.M_secondOf, x.M_analysed) := by
        apply ok_eq
        unfold f_lr_2 f_lr_2_j329
        refine ok_gi ⟨by omega, by omega⟩ ?_
        refine ok_ob14 (P := fun r => r = (-2147483648, 0, x.N_size, x.N_kind, x.N_pins, x.M_froms, x.N_wireEarly, x.N_wireLate, x.N_senses, x.M_delayEarly, x.M_delayLate, x.M_firstOf, x.M_secondOf, x.M_analysed)) ⟨_, h2, rfl⟩ (fun a1 a2 a3 a4 a5 a6 a7 a8 a9 a10 a11 a12 a13 a14 hh => ?_)
        cases hh
        rw [show f_M_thrown F 0 = some 0 from rfl, ob1_s]
        exact ok_gr ⟨by decide, by decide⟩ (ok_gr ⟨by decide, by decide⟩ (ok_if (fun _ => ok_gr ⟨by decide, by decide⟩ (ok_if (fun _ => ok_gi ⟨by decide, by decide⟩ (ok_gr (lc_r _ _) (ok_if (fun _ => ok_some.mpr rfl) (fun z => absurd ((lc_0 _ _).mpr (if_pos rfl)) z)))) (fun z => absurd rfl z))) (fun z => absurd rfl z)))
      exact ⟨_, Or.inl ⟨_, _, _, _, _, _, h1, _, _, _, _, _, _, _, _, _, _, _, _, _, h3, rfl⟩, by rw [Inv_mk]; exact ⟨hN, hM2, hrs, hTA, hA⟩⟩
  · have h1 : f_lt_2_0 F i L sc = some 0 := by
      apply ok_eq
      unfold f_lt_2_0 g_T_gate
      refine ok_gi ⟨by omega, by omega⟩ ?_
      have z1 := bz_1 (1 ≤ (sc (i + 1)) ∧ (sc (i + 1)) ≤ 3)
      have z2 := bz_01 (1 ≤ (sc (i + 1)) ∧ (sc (i + 1)) ≤ 3)
      have z3 : bz (1 ≤ (sc (i + 1)) ∧ (sc (i + 1)) ≤ 3) = 0 := by
        rcases z2 with q | q
        · exact q
        · exact absurd (z1.mp q) hc
      refine ok_ob1 (P := fun r => r = 0) ?_ (fun a1 hh => ?_)
      · rw [e_isWithin (hsc _) (by omega) (by omega), ob1_s, z3]
        exact ok_gr ⟨by omega, by omega⟩ (ok_if (fun _ => ok_some.mpr rfl) (fun z => absurd rfl z))
      · cases hh
        exact ok_some.mpr rfl
    have h2 : f_M_gate F x.M_nodes x.M_analysed x.M_kinds x.M_pins x.M_froms x.M_wireEarly x.M_wireLate x.M_senses x.M_delayEarly x.M_delayLate x.M_firstOf x.M_secondOf (sc (i + 1)) = some (0, 1, x.M_nodes, x.M_kinds, x.M_pins, x.M_froms, x.M_wireEarly, x.M_wireLate, x.M_senses, x.M_delayEarly, x.M_delayLate, x.M_firstOf, x.M_secondOf, x.M_analysed) := by
      apply ok_eq
      unfold f_M_gate f_M_gate_j11 f_M_gate_j16
      refine ok_gr (hsc _) (ok_if (fun _ => ?_) (fun q => ok_gr (hsc _) (ok_if (fun z => by omega) (fun _ => ?_))))
      · exact ok_gr ⟨by omega, by omega⟩ (ok_if (fun z => by omega) (fun _ => ok_some.mpr rfl))
      · exact ok_gr ⟨by omega, by omega⟩ (ok_if (fun z => by omega) (fun _ => ok_some.mpr rfl))
    have h3 : f_lr_2 F x.M_nodes x.M_analysed x.M_kinds x.M_pins x.M_froms x.M_wireEarly x.M_wireLate x.M_senses x.M_delayEarly x.M_delayLate x.M_firstOf x.M_secondOf x.out i L sc 1 = some (1, x.M_nodes, x.M_kinds, x.M_pins, x.M_froms, x.M_wireEarly, x.M_wireLate, x.M_senses, x.M_delayEarly, x.M_delayLate, x.M_firstOf, x.M_secondOf, x.M_analysed) := by
      apply ok_eq
      unfold f_lr_2 f_lr_2_j329
      refine ok_gi ⟨by omega, by omega⟩ ?_
      refine ok_ob14 (P := fun r => r = (0, 1, x.M_nodes, x.M_kinds, x.M_pins, x.M_froms, x.M_wireEarly, x.M_wireLate, x.M_senses, x.M_delayEarly, x.M_delayLate, x.M_firstOf, x.M_secondOf, x.M_analysed)) ⟨_, h2, rfl⟩ (fun a1 a2 a3 a4 a5 a6 a7 a8 a9 a10 a11 a12 a13 a14 hh => ?_)
      cases hh
      rw [show f_M_thrown F 1 = some 1 from rfl, ob1_s]
      exact ok_gr ⟨by decide, by decide⟩ (ok_gr ⟨by decide, by decide⟩ (ok_if (fun _ => ok_gr ⟨by decide, by decide⟩ (ok_if (fun z => by omega) (fun _ => ok_some.mpr rfl))) (fun z => absurd rfl z)))
    exact ⟨_, Or.inr ⟨h1, _, _, _, _, _, _, _, _, _, _, _, _, _, h3, rfl⟩, by rw [Inv_mk]; exact hI⟩
theorem do_1 (hF : 200 ≤ F) (hI : Inv F x) (hi : 0 ≤ i) (hiL : i + 6 ≤ L) (hsc : ∀ j, -2147483648 ≤ sc j ∧ sc j ≤ 2147483647) : ∃ x', Do_1 F i L sc x x' ∧ Inv F x' := by
  have hI' := hI
  obtain ⟨hN, hM, hrs, hTA, hA⟩ := hI'
  have hz := hN.1
  by_cases hc : (-1000000 ≤ (sc (i + 1)) ∧ (sc (i + 2)) ≤ 1000000 ∧ (sc (i + 1)) ≤ (sc (i + 2))) ∧ (-1000000 ≤ (sc (i + 3)) ∧ (sc (i + 4)) ≤ 1000000 ∧ (sc (i + 3)) ≤ (sc (i + 4)))
  · by_cases h : x.N_size < 48
    · have hk := add_inv hN hM h (k := 1) (m := 0) (Or.inl ⟨rfl, rfl⟩)
      have hka := k_start (a := x.N_size) (c := 0) hk.1 (IM_same hk.2) (ui_s _ _ _) (Or.inl rfl) hc.1
      rw [Int.add_zero] at hka
      have hkb := k_start (a := x.N_size) (c := 1) hka.1 hka.2 (ui_s _ _ _) (Or.inr rfl) hc.2
      have h0 : f_T_input F x.T_analysed x.N_size x.N_kind x.N_pins x.N_startEarly x.N_startLate (sc (i + 1)) (sc (i + 2)) (sc (i + 3)) (sc (i + 4)) = some (x.N_size, 0, x.N_size + 1, ui x.N_kind x.N_size 1, ui x.N_pins x.N_size 0, ui (ui x.N_startEarly (2 * x.N_size) (sc (i + 1))) (2 * x.N_size + 1) (sc (i + 3)), ui (ui x.N_startLate (2 * x.N_size) (sc (i + 2))) (2 * x.N_size + 1) (sc (i + 4))) := by
        apply ok_eq
        unfold f_T_input f_T_input_j65
        rw [e_isInputTime (hsc _) (hsc _), ob1_s, (bz_1 _).mpr hc.1]
        refine ok_gr ⟨by omega, by omega⟩ (ok_if (fun z => by omega) (fun _ => ?_))
        rw [e_isInputTime (hsc _) (hsc _), ob1_s, (bz_1 _).mpr hc.2]
        refine ok_gr ⟨by omega, by omega⟩ (ok_if (fun z => by omega) (fun _ => ?_))
        refine ok_ob5 (P := fun r => r = (x.N_size, 0, x.N_size + 1, ui x.N_kind x.N_size 1, ui x.N_pins x.N_size 0)) ⟨_, (m_addT hN x.T_analysed 1 0).trans (if_pos h), rfl⟩ (fun a1 a2 a3 a4 a5 hh => ?_)
        cases hh
        refine ok_gr ⟨by omega, by omega⟩ (ok_if (fun z => by omega) (fun _ => ?_))
        unfold f_Net_setStart
        rw [Int.add_zero]
        refine ok_ob2 (P := fun r => r = (ui x.N_startEarly (2 * x.N_size) (sc (i + 1)), ui x.N_startLate (2 * x.N_size) (sc (i + 2)))) (ok_gi ⟨by omega, by omega⟩ (ok_bd.mpr (ok_gi ⟨by omega, by omega⟩ (ok_bd.mpr (ok_some.mpr rfl))))) (fun a1 a2 hh => ?_)
        cases hh
        refine ok_ob2 (P := fun r => r = (ui (ui x.N_startEarly (2 * x.N_size) (sc (i + 1))) (2 * x.N_size + 1) (sc (i + 3)), ui (ui x.N_startLate (2 * x.N_size) (sc (i + 2))) (2 * x.N_size + 1) (sc (i + 4)))) (ok_gi ⟨by omega, by omega⟩ (ok_bd.mpr (ok_gi ⟨by omega, by omega⟩ (ok_bd.mpr (ok_some.mpr rfl))))) (fun a1 a2 hh => ?_)
        cases hh
        exact ok_some.mpr rfl
      have h1 : f_lh_1 F x.T_analysed x.N_size x.N_kind x.N_pins x.N_startEarly x.N_startLate x.out i L sc = some (0, 0, x.N_size + 1, ui x.N_kind x.N_size 1, ui x.N_pins x.N_size 0, ui (ui x.N_startEarly (2 * x.N_size) (sc (i + 1))) (2 * x.N_size + 1) (sc (i + 3)), ui (ui x.N_startLate (2 * x.N_size) (sc (i + 2))) (2 * x.N_size + 1) (sc (i + 4)), ul x.out 0 (Int32.toInt64 (iI (x.N_size)))) := by
        apply ok_eq
        unfold f_lh_1 f_Law_input
        refine (ok_gi ⟨by omega, by omega⟩ (ok_gi ⟨by omega, by omega⟩ (ok_gi ⟨by omega, by omega⟩ (ok_gi ⟨by omega, by omega⟩ ?_))))
        refine ok_ob8 (P := fun r => r = (0, 0, x.N_size + 1, ui x.N_kind x.N_size 1, ui x.N_pins x.N_size 0, ui (ui x.N_startEarly (2 * x.N_size) (sc (i + 1))) (2 * x.N_size + 1) (sc (i + 3)), ui (ui x.N_startLate (2 * x.N_size) (sc (i + 2))) (2 * x.N_size + 1) (sc (i + 4)), ul x.out 0 (Int32.toInt64 (iI (x.N_size))))) ?_ (fun a1 a2 a3 a4 a5 a6 a7 a8 hh => ?_)
        · refine ok_ob7 (P := fun r => r = (x.N_size, 0, x.N_size + 1, ui x.N_kind x.N_size 1, ui x.N_pins x.N_size 0, ui (ui x.N_startEarly (2 * x.N_size) (sc (i + 1))) (2 * x.N_size + 1) (sc (i + 3)), ui (ui x.N_startLate (2 * x.N_size) (sc (i + 2))) (2 * x.N_size + 1) (sc (i + 4)))) ⟨_, h0, rfl⟩ (fun a1 a2 a3 a4 a5 a6 a7 hh => ?_)
          cases hh
          exact ok_gi ⟨by decide, by decide⟩ (ok_bd.mpr (ok_some.mpr rfl))
        · cases hh
          exact ok_some.mpr rfl
      have h2 : f_M_input F x.M_nodes x.M_analysed x.M_kinds x.M_pins x.M_froms x.M_wireEarly x.M_wireLate x.M_senses x.M_delayEarly x.M_delayLate x.M_firstOf x.M_secondOf (sc (i + 1)) (sc (i + 2)) (sc (i + 3)) (sc (i + 4)) = some (x.N_size, 0, x.N_size + 1, ui x.N_kind x.N_size 1, ui x.N_pins x.N_size 0, (fun i => if 3 * x.N_size ≤ i ∧ i < 3 * x.N_size + 3 then -2147483648 else x.M_froms i), x.N_wireEarly, x.N_wireLate, x.N_senses, x.M_delayEarly, x.M_delayLate, ui (ui x.M_firstOf (2 * x.N_size) (sc (i + 1))) (2 * x.N_size + 1) (sc (i + 3)), ui (ui x.M_secondOf (2 * x.N_size) (sc (i + 2))) (2 * x.N_size + 1) (sc (i + 4)), 0) := by
        apply ok_eq
        unfold f_M_input f_M_input_j31 f_M_input_j101
        have z1 := bz_1 (¬ (-1000000 ≤ (sc (i + 1)) ∧ (sc (i + 2)) ≤ 1000000 ∧ (sc (i + 1)) ≤ (sc (i + 2))))
        have z2 := bz_01 (¬ (-1000000 ≤ (sc (i + 1)) ∧ (sc (i + 2)) ≤ 1000000 ∧ (sc (i + 1)) ≤ (sc (i + 2))))
        have z3 := bz_1 (¬ (-1000000 ≤ (sc (i + 3)) ∧ (sc (i + 4)) ≤ 1000000 ∧ (sc (i + 3)) ≤ (sc (i + 4))))
        have z4 := bz_01 (¬ (-1000000 ≤ (sc (i + 3)) ∧ (sc (i + 4)) ≤ 1000000 ∧ (sc (i + 3)) ≤ (sc (i + 4))))
        rw [e_noTimes (hsc _) (hsc _) (by omega) (by omega), ob1_s]
        refine ok_gr ⟨by omega, by omega⟩ (ok_if (fun _ => ?_) (fun z => absurd hc.1 (z1.mp (by omega))))
        rw [e_noTimes (hsc _) (hsc _) (by omega) (by omega), ob1_s]
        refine ok_gr ⟨by omega, by omega⟩ (ok_if (fun _ => ?_) (fun z => absurd hc.2 (z3.mp (by omega))))
        refine ok_gr ⟨by omega, by omega⟩ (ok_if (fun _ => ?_) (fun z => by omega))
        refine ok_ob13 (P := fun r => r = (x.N_size, x.N_size + 1, ui x.N_kind x.N_size 1, ui x.N_pins x.N_size 0, (fun i => if 3 * x.N_size ≤ i ∧ i < 3 * x.N_size + 3 then -2147483648 else x.M_froms i), x.N_wireEarly, x.N_wireLate, x.N_senses, x.M_delayEarly, x.M_delayLate, x.M_firstOf, x.M_secondOf, 0)) ⟨_, (m_addM (F := F) (by omega) hN hM x.M_analysed 1 0).trans (if_pos h), rfl⟩ (fun a1 a2 a3 a4 a5 a6 a7 a8 a9 a10 a11 a12 a13 hh => ?_)
        cases hh
        refine ok_gr ⟨by omega, by omega⟩ (ok_if (fun z => by omega) (fun _ => ?_))
        exact ok_gi ⟨by omega, by omega⟩ (ok_bd.mpr (ok_gi ⟨by omega, by omega⟩ (ok_bd.mpr (ok_gi ⟨by omega, by omega⟩ (ok_bd.mpr (ok_gi ⟨by omega, by omega⟩ (ok_bd.mpr (ok_some.mpr rfl))))))))
      have h3 : f_lr_1 F x.M_nodes x.M_analysed x.M_kinds x.M_pins x.M_froms x.M_wireEarly x.M_wireLate x.M_senses x.M_delayEarly x.M_delayLate x.M_firstOf x.M_secondOf (ul x.out 0 (Int32.toInt64 (iI (x.N_size)))) i L sc 0 = some (0, x.N_size + 1, ui x.N_kind x.N_size 1, ui x.N_pins x.N_size 0, (fun i => if 3 * x.N_size ≤ i ∧ i < 3 * x.N_size + 3 then -2147483648 else x.M_froms i), x.N_wireEarly, x.N_wireLate, x.N_senses, x.M_delayEarly, x.M_delayLate, ui (ui x.M_firstOf (2 * x.N_size) (sc (i + 1))) (2 * x.N_size + 1) (sc (i + 3)), ui (ui x.M_secondOf (2 * x.N_size) (sc (i + 2))) (2 * x.N_size + 1) (sc (i + 4)), 0) := by
        apply ok_eq
        unfold f_lr_1 f_lr_1_j273
        refine (ok_gi ⟨by omega, by omega⟩ (ok_gi ⟨by omega, by omega⟩ (ok_gi ⟨by omega, by omega⟩ (ok_gi ⟨by omega, by omega⟩ ?_))))
        refine ok_ob14 (P := fun r => r = (x.N_size, 0, x.N_size + 1, ui x.N_kind x.N_size 1, ui x.N_pins x.N_size 0, (fun i => if 3 * x.N_size ≤ i ∧ i < 3 * x.N_size + 3 then -2147483648 else x.M_froms i), x.N_wireEarly, x.N_wireLate, x.N_senses, x.M_delayEarly, x.M_delayLate, ui (ui x.M_firstOf (2 * x.N_size) (sc (i + 1))) (2 * x.N_size + 1) (sc (i + 3)), ui (ui x.M_secondOf (2 * x.N_size) (sc (i + 2))) (2 * x.N_size + 1) (sc (i + 4)), 0)) ⟨_, h2, rfl⟩ (fun a1 a2 a3 a4 a5 a6 a7 a8 a9 a10 a11 a12 a13 a14 hh => ?_)
        cases hh
        rw [show f_M_thrown F 0 = some 0 from rfl, ob1_s]
        exact ok_gr ⟨by decide, by decide⟩ (ok_gr ⟨by decide, by decide⟩ (ok_if (fun _ => ok_gr ⟨by decide, by decide⟩ (ok_if (fun _ => ok_gi ⟨by decide, by decide⟩ (ok_gr (lc_r _ _) (ok_if (fun _ => ok_some.mpr rfl) (fun z => absurd ((lc_0 _ _).mpr (if_pos rfl)) z)))) (fun z => absurd rfl z))) (fun z => absurd rfl z)))
      exact ⟨_, Or.inl ⟨_, _, _, _, _, _, _, _, h1, _, _, _, _, _, _, _, _, _, _, _, _, _, h3, rfl⟩, by rw [Inv_mk]; exact ⟨hkb.1, hkb.2, hrs, rfl, Or.inl rfl⟩⟩
    · have hM2 := IM_same hM
      have h0 : f_T_input F x.T_analysed x.N_size x.N_kind x.N_pins x.N_startEarly x.N_startLate (sc (i + 1)) (sc (i + 2)) (sc (i + 3)) (sc (i + 4)) = some (-2147483648, x.T_analysed, x.N_size, x.N_kind, x.N_pins, x.N_startEarly, x.N_startLate) := by
        apply ok_eq
        unfold f_T_input f_T_input_j65
        rw [e_isInputTime (hsc _) (hsc _), ob1_s, (bz_1 _).mpr hc.1]
        refine ok_gr ⟨by omega, by omega⟩ (ok_if (fun z => by omega) (fun _ => ?_))
        rw [e_isInputTime (hsc _) (hsc _), ob1_s, (bz_1 _).mpr hc.2]
        refine ok_gr ⟨by omega, by omega⟩ (ok_if (fun z => by omega) (fun _ => ?_))
        refine ok_ob5 (P := fun r => r = (-2147483648, x.T_analysed, x.N_size, x.N_kind, x.N_pins)) ⟨_, (m_addT hN x.T_analysed 1 0).trans (if_neg h), rfl⟩ (fun a1 a2 a3 a4 a5 hh => ?_)
        cases hh
        exact ok_gr ⟨by omega, by omega⟩ (ok_if (fun _ => ok_some.mpr rfl) (fun z => absurd rfl z))
      have h1 : f_lh_1 F x.T_analysed x.N_size x.N_kind x.N_pins x.N_startEarly x.N_startLate x.out i L sc = some (0, x.T_analysed, x.N_size, x.N_kind, x.N_pins, x.N_startEarly, x.N_startLate, ul x.out 0 (Int32.toInt64 (iI (-2147483648)))) := by
        apply ok_eq
        unfold f_lh_1 f_Law_input
        refine (ok_gi ⟨by omega, by omega⟩ (ok_gi ⟨by omega, by omega⟩ (ok_gi ⟨by omega, by omega⟩ (ok_gi ⟨by omega, by omega⟩ ?_))))
        refine ok_ob8 (P := fun r => r = (0, x.T_analysed, x.N_size, x.N_kind, x.N_pins, x.N_startEarly, x.N_startLate, ul x.out 0 (Int32.toInt64 (iI (-2147483648))))) ?_ (fun a1 a2 a3 a4 a5 a6 a7 a8 hh => ?_)
        · refine ok_ob7 (P := fun r => r = (-2147483648, x.T_analysed, x.N_size, x.N_kind, x.N_pins, x.N_startEarly, x.N_startLate)) ⟨_, h0, rfl⟩ (fun a1 a2 a3 a4 a5 a6 a7 hh => ?_)
          cases hh
          exact ok_gi ⟨by decide, by decide⟩ (ok_bd.mpr (ok_some.mpr rfl))
        · cases hh
          exact ok_some.mpr rfl
      have h2 : f_M_input F x.M_nodes x.M_analysed x.M_kinds x.M_pins x.M_froms x.M_wireEarly x.M_wireLate x.M_senses x.M_delayEarly x.M_delayLate x.M_firstOf x.M_secondOf (sc (i + 1)) (sc (i + 2)) (sc (i + 3)) (sc (i + 4)) = some (-2147483648, 0, x.N_size, x.N_kind, x.N_pins, x.M_froms, x.N_wireEarly, x.N_wireLate, x.N_senses, x.M_delayEarly, x.M_delayLate, x.M_firstOf, x.M_secondOf, x.M_analysed) := by
        apply ok_eq
        unfold f_M_input f_M_input_j31 f_M_input_j101
        have z1 := bz_1 (¬ (-1000000 ≤ (sc (i + 1)) ∧ (sc (i + 2)) ≤ 1000000 ∧ (sc (i + 1)) ≤ (sc (i + 2))))
        have z2 := bz_01 (¬ (-1000000 ≤ (sc (i + 1)) ∧ (sc (i + 2)) ≤ 1000000 ∧ (sc (i + 1)) ≤ (sc (i + 2))))
        have z3 := bz_1 (¬ (-1000000 ≤ (sc (i + 3)) ∧ (sc (i + 4)) ≤ 1000000 ∧ (sc (i + 3)) ≤ (sc (i + 4))))
        have z4 := bz_01 (¬ (-1000000 ≤ (sc (i + 3)) ∧ (sc (i + 4)) ≤ 1000000 ∧ (sc (i + 3)) ≤ (sc (i + 4))))
        rw [e_noTimes (hsc _) (hsc _) (by omega) (by omega), ob1_s]
        refine ok_gr ⟨by omega, by omega⟩ (ok_if (fun _ => ?_) (fun z => absurd hc.1 (z1.mp (by omega))))
        rw [e_noTimes (hsc _) (hsc _) (by omega) (by omega), ob1_s]
        refine ok_gr ⟨by omega, by omega⟩ (ok_if (fun _ => ?_) (fun z => absurd hc.2 (z3.mp (by omega))))
        refine ok_gr ⟨by omega, by omega⟩ (ok_if (fun _ => ?_) (fun z => by omega))
        refine ok_ob13 (P := fun r => r = (-2147483648, x.N_size, x.N_kind, x.N_pins, x.M_froms, x.N_wireEarly, x.N_wireLate, x.N_senses, x.M_delayEarly, x.M_delayLate, x.M_firstOf, x.M_secondOf, x.M_analysed)) ⟨_, (m_addM (F := F) (by omega) hN hM x.M_analysed 1 0).trans (if_neg h), rfl⟩ (fun a1 a2 a3 a4 a5 a6 a7 a8 a9 a10 a11 a12 a13 hh => ?_)
        cases hh
        exact ok_gr ⟨by omega, by omega⟩ (ok_if (fun _ => ok_some.mpr rfl) (fun z => absurd z (by omega)))
      have h3 : f_lr_1 F x.M_nodes x.M_analysed x.M_kinds x.M_pins x.M_froms x.M_wireEarly x.M_wireLate x.M_senses x.M_delayEarly x.M_delayLate x.M_firstOf x.M_secondOf (ul x.out 0 (Int32.toInt64 (iI (-2147483648)))) i L sc 0 = some (0, x.N_size, x.N_kind, x.N_pins, x.M_froms, x.N_wireEarly, x.N_wireLate, x.N_senses, x.M_delayEarly, x.M_delayLate, x.M_firstOf, x.M_secondOf, x.M_analysed) := by
        apply ok_eq
        unfold f_lr_1 f_lr_1_j273
        refine (ok_gi ⟨by omega, by omega⟩ (ok_gi ⟨by omega, by omega⟩ (ok_gi ⟨by omega, by omega⟩ (ok_gi ⟨by omega, by omega⟩ ?_))))
        refine ok_ob14 (P := fun r => r = (-2147483648, 0, x.N_size, x.N_kind, x.N_pins, x.M_froms, x.N_wireEarly, x.N_wireLate, x.N_senses, x.M_delayEarly, x.M_delayLate, x.M_firstOf, x.M_secondOf, x.M_analysed)) ⟨_, h2, rfl⟩ (fun a1 a2 a3 a4 a5 a6 a7 a8 a9 a10 a11 a12 a13 a14 hh => ?_)
        cases hh
        rw [show f_M_thrown F 0 = some 0 from rfl, ob1_s]
        exact ok_gr ⟨by decide, by decide⟩ (ok_gr ⟨by decide, by decide⟩ (ok_if (fun _ => ok_gr ⟨by decide, by decide⟩ (ok_if (fun _ => ok_gi ⟨by decide, by decide⟩ (ok_gr (lc_r _ _) (ok_if (fun _ => ok_some.mpr rfl) (fun z => absurd ((lc_0 _ _).mpr (if_pos rfl)) z)))) (fun z => absurd rfl z))) (fun z => absurd rfl z)))
      exact ⟨_, Or.inl ⟨_, _, _, _, _, _, _, _, h1, _, _, _, _, _, _, _, _, _, _, _, _, _, h3, rfl⟩, by rw [Inv_mk]; exact ⟨hN, hM2, hrs, hTA, hA⟩⟩
  · have z1 := bz_1 (-1000000 ≤ (sc (i + 1)) ∧ (sc (i + 2)) ≤ 1000000 ∧ (sc (i + 1)) ≤ (sc (i + 2)))
    have z2 := bz_01 (-1000000 ≤ (sc (i + 1)) ∧ (sc (i + 2)) ≤ 1000000 ∧ (sc (i + 1)) ≤ (sc (i + 2)))
    have z3 := bz_1 (-1000000 ≤ (sc (i + 3)) ∧ (sc (i + 4)) ≤ 1000000 ∧ (sc (i + 3)) ≤ (sc (i + 4)))
    have z4 := bz_01 (-1000000 ≤ (sc (i + 3)) ∧ (sc (i + 4)) ≤ 1000000 ∧ (sc (i + 3)) ≤ (sc (i + 4)))
    have y1 := bz_1 (¬ (-1000000 ≤ (sc (i + 1)) ∧ (sc (i + 2)) ≤ 1000000 ∧ (sc (i + 1)) ≤ (sc (i + 2))))
    have y2 := bz_01 (¬ (-1000000 ≤ (sc (i + 1)) ∧ (sc (i + 2)) ≤ 1000000 ∧ (sc (i + 1)) ≤ (sc (i + 2))))
    have y3 := bz_1 (¬ (-1000000 ≤ (sc (i + 3)) ∧ (sc (i + 4)) ≤ 1000000 ∧ (sc (i + 3)) ≤ (sc (i + 4))))
    have y4 := bz_01 (¬ (-1000000 ≤ (sc (i + 3)) ∧ (sc (i + 4)) ≤ 1000000 ∧ (sc (i + 3)) ≤ (sc (i + 4))))
    have h1 : f_lt_1_0 F i L sc = some 0 := by
      apply ok_eq
      unfold f_lt_1_0 g_T_input g_T_input_j17
      refine (ok_gi ⟨by omega, by omega⟩ (ok_gi ⟨by omega, by omega⟩ (ok_gi ⟨by omega, by omega⟩ (ok_gi ⟨by omega, by omega⟩ ?_))))
      refine ok_ob1 (P := fun r => r = 0) ?_ (fun a1 hh => ?_)
      · rw [e_isInputTime (hsc _) (hsc _), ob1_s]
        refine ok_gr ⟨by omega, by omega⟩ (ok_if (fun _ => ok_some.mpr rfl) (fun q1 => ?_))
        rw [e_isInputTime (hsc _) (hsc _), ob1_s]
        refine ok_gr ⟨by omega, by omega⟩ (ok_if (fun _ => ok_some.mpr rfl) (fun q2 => ?_))
        exact absurd ⟨z1.mp (by omega), z3.mp (by omega)⟩ hc
      · cases hh
        exact ok_some.mpr rfl
    have h2 : f_M_input F x.M_nodes x.M_analysed x.M_kinds x.M_pins x.M_froms x.M_wireEarly x.M_wireLate x.M_senses x.M_delayEarly x.M_delayLate x.M_firstOf x.M_secondOf (sc (i + 1)) (sc (i + 2)) (sc (i + 3)) (sc (i + 4)) = some (0, 1, x.M_nodes, x.M_kinds, x.M_pins, x.M_froms, x.M_wireEarly, x.M_wireLate, x.M_senses, x.M_delayEarly, x.M_delayLate, x.M_firstOf, x.M_secondOf, x.M_analysed) := by
      apply ok_eq
      unfold f_M_input f_M_input_j26 f_M_input_j31
      rw [e_noTimes (hsc _) (hsc _) (by omega) (by omega), ob1_s]
      refine ok_gr ⟨by omega, by omega⟩ (ok_if (fun q1 => ?_) (fun _ => ?_))
      · rw [e_noTimes (hsc _) (hsc _) (by omega) (by omega), ob1_s]
        refine ok_gr ⟨by omega, by omega⟩ (ok_if (fun q2 => ?_) (fun _ => ?_))
        · exfalso
          refine hc ⟨?_, ?_⟩
          · by_cases w : (-1000000 ≤ (sc (i + 1)) ∧ (sc (i + 2)) ≤ 1000000 ∧ (sc (i + 1)) ≤ (sc (i + 2)))
            · exact w
            · have := y1.mpr w; omega
          · by_cases w : (-1000000 ≤ (sc (i + 3)) ∧ (sc (i + 4)) ≤ 1000000 ∧ (sc (i + 3)) ≤ (sc (i + 4)))
            · exact w
            · have := y3.mpr w; omega
        · exact ok_gr ⟨by omega, by omega⟩ (ok_if (fun z => by omega) (fun _ => ok_some.mpr rfl))
      · exact ok_gr ⟨by omega, by omega⟩ (ok_if (fun z => by omega) (fun _ => ok_some.mpr rfl))
    have h3 : f_lr_1 F x.M_nodes x.M_analysed x.M_kinds x.M_pins x.M_froms x.M_wireEarly x.M_wireLate x.M_senses x.M_delayEarly x.M_delayLate x.M_firstOf x.M_secondOf x.out i L sc 1 = some (1, x.M_nodes, x.M_kinds, x.M_pins, x.M_froms, x.M_wireEarly, x.M_wireLate, x.M_senses, x.M_delayEarly, x.M_delayLate, x.M_firstOf, x.M_secondOf, x.M_analysed) := by
      apply ok_eq
      unfold f_lr_1 f_lr_1_j273
      refine (ok_gi ⟨by omega, by omega⟩ (ok_gi ⟨by omega, by omega⟩ (ok_gi ⟨by omega, by omega⟩ (ok_gi ⟨by omega, by omega⟩ ?_))))
      refine ok_ob14 (P := fun r => r = (0, 1, x.M_nodes, x.M_kinds, x.M_pins, x.M_froms, x.M_wireEarly, x.M_wireLate, x.M_senses, x.M_delayEarly, x.M_delayLate, x.M_firstOf, x.M_secondOf, x.M_analysed)) ⟨_, h2, rfl⟩ (fun a1 a2 a3 a4 a5 a6 a7 a8 a9 a10 a11 a12 a13 a14 hh => ?_)
      cases hh
      rw [show f_M_thrown F 1 = some 1 from rfl, ob1_s]
      exact ok_gr ⟨by decide, by decide⟩ (ok_gr ⟨by decide, by decide⟩ (ok_if (fun _ => ok_gr ⟨by decide, by decide⟩ (ok_if (fun z => by omega) (fun _ => ok_some.mpr rfl))) (fun z => absurd rfl z)))
    exact ⟨_, Or.inr ⟨h1, _, _, _, _, _, _, _, _, _, _, _, _, _, h3, rfl⟩, by rw [Inv_mk]; exact hI⟩
theorem do_10 (hF : 200 ≤ F) (hI : Inv F x) (hi : 0 ≤ i) (hiL : i + 6 ≤ L) (hsc : ∀ j, -2147483648 ≤ sc j ∧ sc j ≤ 2147483647) : ∃ x', Do_10 F i L sc x x' ∧ Inv F x' := by
  have hI' := hI
  obtain ⟨hN, hM, hrs, hTA, hA⟩ := hI'
  obtain ⟨⟨e1, e2, e3⟩, ⟨e4, e5, e6, e7, e8⟩, hfr, hfr2, -⟩ := id hM
  obtain ⟨hz, hpw, hk0, hk, hkd, hp, hpk, hs, -⟩ := id hN
  obtain ⟨r1, h1, c1, -⟩ := s_onCycle (F := F) (kd := x.N_kind) (pn := x.N_pins) (so := x.N_source) (size := x.N_size) (ld := x.O_leading) (by omega) hz hk hp (fun i => by have := hs i; omega)
  obtain ⟨r2, h2, c2, t2⟩ := s_cycle (F := F) (kd := x.N_kind) (pn := x.N_pins) (so := x.N_source) (size := x.N_size) (fr := x.M_froms) (th := x.M_there) (by omega) hz hk hkd hp hfr hfr2
  obtain ⟨a1, a2⟩ := r1
  obtain ⟨b1, b2, b3⟩ := r2
  have e := isCyc_u c1 c2
  simp only at e t2
  have hr : -2147483648 ≤ a1 ∧ a1 ≤ 2147483647 := by rcases c1 with ⟨q, -⟩ | ⟨q, -⟩ <;> simp only at q <;> omega
  have h3 : f_lr_10 F x.M_nodes x.M_kinds x.M_pins x.M_froms x.M_there x.O_leading x.N_size x.N_kind x.N_pins x.N_source = some (b2, b3, a2) := by
    apply ok_eq
    unfold f_lr_10 f_T_cycle
    rw [e3, e4, e5]
    refine ok_ob2 (P := fun r => r = (a1, a2)) ?_ (fun a1 a2 hh => ?_)
    · refine ok_ob2 (P := fun r => r = (a1, a2)) ⟨_, h1, rfl⟩ (fun a1 a2 hh => ?_)
      cases hh
      exact ok_some.mpr rfl
    · cases hh
      refine ok_ob3 (P := fun r => r = (b1, b2, b3)) ⟨_, h2, rfl⟩ (fun a1 a2 a3 hh => ?_)
      cases hh
      exact ok_gr hr (ok_gr (by omega) (ok_if (fun _ => ok_some.mpr rfl) (fun z => absurd e z)))
  exact ⟨_, ⟨_, _, _, h3, rfl⟩, by rw [Inv_mk]; exact hI⟩
end DOE
