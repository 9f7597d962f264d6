/-! analyse on both sides (laid by wip/whole/ana.py) -/
section ANA
variable {F : Nat} {kd pn so se wE wL gE gL sE sL su ho fo sc fr dM dN : Int → Int} {size wid per : Int}
theorem sumN_1 {g : Int → Int} (h : ∀ i, 0 ≤ g i ∧ g i ≤ 1) : ∀ k : Nat, 0 ≤ sumN g k ∧ sumN g k ≤ (k : Int) := by
  intro k
  induction k with
  | zero => exact ⟨Int.le_refl _, Int.le_refl _⟩
  | succ k ih =>
    have := h k
    show 0 ≤ sumN g k + g k ∧ sumN g k + g k ≤ ((k + 1 : Nat) : Int)
    omega
theorem AN_of {r LM LF pc sz ocn cnt an rs ww wo : Int} {A el pa ln ea la fi nx c l ba e f Zc Ze Zl Vc Ve Vl G wc le ge S lsd lsl lsz lrw : Int → Int} {all : Int64} {os : List Int} {y1 b1 : Int} {y2 y3 y4 y5 b2 b3 b4 b5 : Int → Int} (hF : 200 ≤ F) (hN : InvN size per wid kd pn so wE wL se gE gL sE sL su ho) (hM : InvM size per wid kd pn so wE wL se gE gL sE sL su ho per wid size kd pn fr wE wL se dM dN fo sc) (hT : TNA kd pn so se wE wL gE gL sE sL su ho size per wid r A LM LF pc sz el pa ln ea la fi nx c l ba e f Zc Ze Zl Vc Ve Vl G ocn) (hfu' : full kd pn so se os) (hwc : ∀ n, 0 ≤ n → n < size → kd n = 3 → wc n = ((wys kd pn so se n).length : Int)) (hall : min all.toInt 4001 = min (sumN (nbeg kd pn so se size) size.toNat) 4001 ∧ 0 ≤ all.toInt ∧ all.toInt ≤ 1000000000) (hMF : MFI kd pn so se wE wL gE gL sE sL fo sc size per wid os wc all cnt an wc le ge S ww wo all rs lsd lsl lsz lrw) : (r = cnt ∧ -2147483648 ≤ r ∧ r ≤ 2147483647) ∧ ANR F size per kd pn so wE wL se gE gL sE sL su ho wc le ge S ww wo all lsd lsl lsz lrw LM LF pc A 0 el pa ln ea la c l ba e f Zc Ze Zl Vc Ve Vl G ocn y1 y2 y3 y4 y5 b1 b2 b3 b4 b5 := by
  have hT' := hT
  obtain ⟨hcn, hfu, hCF, ⟨VZ, VV, rZ, rV, hZ, hV⟩, hLS, hr⟩ := hT'
  obtain ⟨⟨m1, m2, -, -⟩, m3, m4, m5, m6⟩ := hMF
  obtain ⟨t1, t2, t3⟩ := ties hN hM hfu' hLS m5
  obtain ⟨L1, L2, L3⟩ := LSi_b hN hfu hLS
  have hz := hN.1
  have hcnt : cntC A size = cntS S size := by
    unfold cntC cntS
    refine sumN_cg size.toNat (fun i i1 i2 => ?_)
    have q := (t1 i i1 (by omega)).1
    unfold tie at q
    by_cases z : S (2 * i) = -2147483648
    · rw [if_pos z, if_pos (by omega)]
    · rw [if_neg z, if_neg (by omega)]
  have hb := sumN_1 (g := fun i => if S (2 * i) = -2147483648 then 0 else 1) (fun i => by
    by_cases z : S (2 * i) = -2147483648
    · rw [if_pos z]; omega
    · rw [if_neg z]; omega) size.toNat
  have hb2 : 0 ≤ cntS S size ∧ cntS S size ≤ (size.toNat : Int) := hb
  have hpc := hLS.2.2.2
  refine ⟨⟨by rw [hr, m1, hcnt], by omega, by omega⟩, fun n n1 n2 n3 => ?_, m4.1, fun m c b x4 q1 q2 q3 q4 q5 => e_timeAt hN hfu hfu' rZ rV hZ hV m4 ⟨q1, q2⟩ q3 q4 q5, fun m q1 q2 => ⟨t1 m q1 q2, L1 m q1 q2⟩, ⟨t2, t3, L2, L3⟩, ⟨by omega, hall.2⟩, fun hle => ?_⟩
  · obtain ⟨Wd, Ch, Of, -, -, hCO⟩ := CF_of hN hfu hCF
    obtain ⟨o1, o2, o3, -⟩ := hCO n n1 n2
    have w := hwc n n1 n2 n3
    have := o1.length_eq
    omega
  · have hl := lc_4000 all
    obtain ⟨P0, P1, q1, q2, q3⟩ := lists_of hF hN hM hT hle (m6 (by omega))
    exact ⟨P0, P1, q1, q2, Or.inl ⟨rfl, q3⟩⟩
end ANA
section DON
variable {F : Nat} {x : St} {i : Int} {L : Nat} {sc : Int → Int}
theorem do_9 (hF : 10 ^ 160 ≤ F) (hI : Inv F x) : ∃ x', Do_9 F i L sc x x' ∧ Inv F x' := by
  have hF200 : 200 ≤ F := Nat.le_trans (by decide) hF
  have hI' := hI
  obtain ⟨hN, hM, hrs, hTA, hA⟩ := hI'
  obtain ⟨⟨e1, e2, e3⟩, ⟨e4, e5, e6, e7, e8⟩, -⟩ := id hM
  have hM' := hM
  rw [e1, e2, e3, e4, e5, e6, e7, e8] at hM'
  obtain ⟨r, hr, hTR⟩ := s_Tanalyse (F := F) (LM := x.L_leastMoving) (LF := x.L_leastFixed) (pc := x.L_pathCount) (isC := x.P_isCollected) (rlm := x.R_leastMoving) (rlf := x.R_leastFixed) (rlh := x.R_leastHold) (csz := x.C_size) (ocn := x.O_count) (A := x.L_least) (RS := x.R_setup) (RH := x.R_hold) (N := x.C_needed) (el := x.C_elements) (pa := x.C_parent) (ln := x.C_length) (ea := x.C_early) (la := x.C_late) (fi := x.C_firstOf) (nx := x.C_nextOf) (c := x.C_count) (l := x.C_last) (ba := x.C_base) (e := x.C_wayEarly) (f := x.C_wayLate) (kc := x.K_count) (ke := x.K_early) (kl := x.K_late) (Sc := x.S_count) (Se := x.S_early) (Sl := x.S_late) (Zc := x.Z_count) (Ze := x.Z_early) (Zl := x.Z_late) (Vc := x.V_count) (Ve := x.V_early) (Vl := x.V_late) (G := x.O_gates) (ld := x.O_leading) hF200 hN
  obtain ⟨r', hr', ht0, hMR⟩ := s_Manalyse (F := F) (gts := x.M_gates) (sN := x.M_startNode) (sC := x.M_startChange) (sW := x.M_startWay) (sB := x.M_startBase) (sa := x.M_startEarly) (sb := x.M_startLate) (ww := x.M_worstWith) (wo := x.M_worstWithout) (rs := x.M_rowSize) (od := x.M_order) (cw := x.M_clockWays) (th := x.M_there) (ea := x.M_early) (la := x.M_late) (le := x.M_least) (ge := x.M_greatest) (S := x.M_slacks) (wc := x.M_wayCount) (wb := x.M_wayBase) (we := x.M_wayEarly) (wlx := x.M_wayLate) (wla := x.M_wayLast) (wsz := x.M_waySize) (wr := x.M_wayRows) (wsp := x.M_waySpread) (aN := x.M_atNode) (aC := x.M_atChange) (aX := x.M_atNext) (aE := x.M_atEarly) (aL := x.M_atLate) (row := x.M_row) (lsd := x.M_listed) (lsl := x.M_listSlack) (lsz := x.M_listSize) (lrw := x.M_listRows) (go := x.M_goals) (all := x.M_all) hF hN hM' hrs
  obtain ⟨v, t1, t2, t3, t4, t5, t6, t7, t8, t9, t10, t11, t12, t13, t14, t15, t16, t17, t18, t19, t20, t21, t22, t23, t24, t25, t26, t27, t28, t29, t30, t31, t32, t33, t34, t35, t36, t37, t38, t39, t40⟩ := r
  obtain ⟨v', u1, u2, u3, u4, u5, u6, u7, u8, u9, u10, u11, u12, u13, u14, u15, u16, u17, u18, u19, u20, u21, u22, u23, u24, u25, u26, u27, u28, u29, u30, u31, u32, u33, u34, u35, u36, u37, u38, u39, u40⟩ := r'
  simp only at hTR hMR ht0
  obtain ⟨hrs2, hMR⟩ := hMR
  have key : v = v' ∧ (-2147483648 ≤ v ∧ v ≤ 2147483647) ∧ t1 = u2 ∧ (t1 = 0 ∨ (t1 = 1 ∧ ANR F x.N_size x.N_period x.N_kind x.N_pins x.N_source x.N_wireEarly x.N_wireLate x.N_senses x.N_gateEarly x.N_gateLate x.N_startEarly x.N_startLate x.N_setups x.N_holds u5 u23 u24 u25 u26 u27 u29 u37 u38 u39 u40 t3 t4 t5 t2 t6 t14 t15 t16 t17 t18 t21 t22 t23 t24 t25 t32 t33 t34 t35 t36 t37 t39 t40 x.Y_size x.Y_slotOf x.Y_slacks x.Y_lengths x.Y_rows x.B_size x.B_slotOf x.B_slacks x.B_lengths x.B_rows)) := by
    rcases hTR with ⟨⟨g, g1, g2⟩, q1, q2⟩ | ⟨g1, g2, q1, q2⟩ | ⟨g1, g2, q1, q2, hTN⟩
    · rcases hMR with ⟨-, p1, p2⟩ | ⟨k1, -⟩ | ⟨k1, -⟩
      · exact ⟨by omega, by omega, by omega, Or.inl q2⟩
      · have := isCyc_u g2 k1; omega
      · have := isCyc_u g2 k1; omega
    · rcases hMR with ⟨⟨g, k1, k2⟩, -⟩ | ⟨-, -, p1, p2⟩ | ⟨-, k2, -⟩
      · have := isCyc_u g1 k2; omega
      · exact ⟨by omega, by omega, by omega, Or.inl q2⟩
      · obtain ⟨n, n1, n2⟩ := g2
        exact absurd n2 (k2 n n1.1 n1.2)
    · rcases hMR with ⟨⟨g, k1, k2⟩, -⟩ | ⟨-, ⟨n, n1, n2⟩, -⟩ | ⟨-, -, os, h1, h2, h3, h4⟩
      · have := isCyc_u g1 k2; omega
      · exact absurd n2 (g2 n n1.1 n1.2)
      · have hAN := AN_of (y1 := x.Y_size) (y2 := x.Y_slotOf) (y3 := x.Y_slacks) (y4 := x.Y_lengths) (y5 := x.Y_rows) (b1 := x.B_size) (b2 := x.B_slotOf) (b3 := x.B_slacks) (b4 := x.B_lengths) (b5 := x.B_rows) hF200 hN hM' hTN h1 h2 h3 h4
        rw [q2]
        exact ⟨hAN.1.1, hAN.1.2, by rw [q1, h4.1.2.1], Or.inr ⟨q1, hAN.2⟩⟩
  obtain ⟨k1, k2, k3, k4⟩ := key
  subst k1
  have hm : f_M_analyse F x.M_period x.M_width x.M_nodes x.M_gates x.M_startNode x.M_startChange x.M_startWay x.M_startBase x.M_startEarly x.M_startLate x.M_worstWith x.M_worstWithout x.M_all x.M_rowSize x.M_kinds x.M_pins x.M_froms x.M_wireEarly x.M_wireLate x.M_senses x.M_delayEarly x.M_delayLate x.M_firstOf x.M_secondOf x.M_order x.M_wayCount x.M_wayBase x.M_wayEarly x.M_wayLate x.M_wayLast x.M_waySize x.M_wayRows x.M_waySpread x.M_clockWays x.M_there x.M_early x.M_late x.M_least x.M_greatest x.M_slacks x.M_goals x.M_atNode x.M_atChange x.M_atNext x.M_atEarly x.M_atLate x.M_row x.M_listed x.M_listSlack x.M_listSize x.M_listRows = some (v, u1, u2, u3, u4, u5, u6, u7, u8, u9, u10, u11, u12, u13, u14, u15, u16, u17, u18, u19, u20, u21, u22, u23, u24, u25, u26, u27, u28, u29, u30, u31, u32, u33, u34, u35, u36, u37, u38, u39, u40) := by
    rw [e1, e2, e3, e4, e5, e6, e7, e8]
    exact hr'
  exact ⟨_, ⟨_, _, _, _, _, _, _, _, _, _, _, _, _, _, _, _, _, _, _, _, _, _, _, _, _, _, _, _, _, _, _, _, _, _, _, _, _, _, _, _, _, hr, k2, _, _, _, _, _, _, _, _, _, _, _, _, _, _, _, _, _, _, _, _, _, _, _, _, _, _, _, _, _, _, _, _, _, _, _, _, _, _, _, _, hm, rfl⟩, by rw [Inv_mk]; exact ⟨hN, hM, hrs2, k3, k4⟩⟩
end DON
