/-! the lists' answers (laid by wip/whole/paths.py) -/
section PTH
variable {F : Nat} {kd pn so se wE wL gE gL sE sL su ho : Int → Int} {size per : Int} {el pa ln ea la c l ba e f G : Int → Int} {ocn : Int} {P0 P1 : List (Int × List Int)}
theorem nP_v {pc a b : Int} (hpc : 0 ≤ pc ∧ pc ≤ 4000) (ha : -2147483648 ≤ a ∧ a ≤ 2147483647) (hb : -2147483648 ≤ b ∧ b ≤ 2147483647) (h : a = 0 ∨ a = 1) (h2 : 0 ≤ b ∧ b ≤ min 20 pc - 1) : f_T_needPath F 1 pc a b = some () := by
  apply ok_eq
  unfold f_T_needPath
  rw [nA1, ob0_s, (nB1 ha h).1, ob0_s, e_isWithin hb (by omega) (by omega), ob1_s, (bz_1 _).mpr h2]
  refine ok_gr ⟨by omega, by omega⟩ (ok_if (fun _ => ok_gr ⟨by omega, by omega⟩ (ok_gr ⟨by omega, by omega⟩ (ok_if (fun z => by omega) (fun _ => ok_some.mpr rfl)))) (fun z => by omega))
theorem nP_m {pc a b : Int} (hpc : 4000 < pc ∧ pc ≤ 4001) : g_T_needPath F 1 pc a b = some 1 := by
  apply ok_eq
  unfold g_T_needPath
  rw [nG1, og_n, nA1, ob0_s]
  exact ok_gr ⟨by omega, by omega⟩ (ok_if (fun z => by omega) (fun _ => ok_some.mpr rfl))
theorem nP_b {pc a b : Int} (hpc : 0 ≤ pc ∧ pc ≤ 4000) (ha : -2147483648 ≤ a ∧ a ≤ 2147483647) (h : ¬ (a = 0 ∨ a = 1)) : g_T_needPath F 1 pc a b = some 0 := by
  apply ok_eq
  unfold g_T_needPath
  rw [nG1, og_n, nA1, ob0_s, nB0 ha h, og_s]
  exact ok_gr ⟨by omega, by omega⟩ (ok_if (fun _ => ok_some.mpr rfl) (fun z => by omega))
theorem nP_k {pc a b : Int} (hpc : 0 ≤ pc ∧ pc ≤ 4000) (ha : -2147483648 ≤ a ∧ a ≤ 2147483647) (hb : -2147483648 ≤ b ∧ b ≤ 2147483647) (h : a = 0 ∨ a = 1) (h2 : ¬ (0 ≤ b ∧ b ≤ min 20 pc - 1)) : g_T_needPath F 1 pc a b = some 2 := by
  apply ok_eq
  unfold g_T_needPath
  rw [nG1, og_n, nA1, ob0_s, (nB1 ha h).2, og_n, (nB1 ha h).1, ob0_s, e_isWithin hb (by omega) (by omega), ob1_s, bz_f h2]
  exact ok_gr ⟨by omega, by omega⟩ (ok_if (fun _ => ok_gr ⟨by omega, by omega⟩ (ok_gr ⟨by omega, by omega⟩ (ok_if (fun _ => ok_some.mpr rfl) (fun z => absurd rfl z)))) (fun z => by omega))
theorem nP_0 {pc a b : Int} : g_T_needPath F 0 pc a b = some 1 := by
  unfold g_T_needPath
  rw [nA0, og_s]
theorem gp_of {ta pc a b : Int} {k : Nat} (h : g_T_needPath F ta pc a b = some k) : g_T_path F ta pc a b = some k ∧ g_T_element F ta pc a b = some k := by
  unfold g_T_path g_T_element
  rw [h, og_s]
  exact ⟨rfl, rfl⟩
/-- the reference refuses -/
theorem rf_v {all : Int64} {lsd : Int → Int} {a b : Int} (hall : all.toInt ≤ 4000) (ha : -2147483648 ≤ a ∧ a ≤ 2147483647) (hb : -2147483648 ≤ b ∧ b ≤ 2147483647) (h : a = 0 ∨ a = 1) (hd : 0 ≤ lsd a ∧ lsd a ≤ 20) (h2 : 0 ≤ b ∧ b < lsd a) : f_M_refused F 1 all lsd a b = some 0 := by
  have hl := lc_4000 all
  have hr := lc_r all 4000
  apply ok_eq
  unfold f_M_refused f_M_refused_j18 f_M_refused_j53
  rw [e_noBit ha, ob1_s, bz_f (fun z => z h)]
  refine ok_gr ⟨by omega, by omega⟩ (ok_if (fun z => by omega) (fun _ => ok_gr hr (ok_if (fun _ => ok_gr ⟨by omega, by omega⟩ (ok_if (fun _ => ?_) (fun z => absurd rfl z))) (fun z => by omega))))
  exact ok_gr hb (ok_if (fun z => by omega) (fun _ => ok_gr hb (ok_if (fun z => by omega) (fun _ => ok_gi ⟨by omega, by omega⟩ (ok_gr hb (ok_gr ⟨by omega, by omega⟩ (ok_if (fun _ => ok_some.mpr rfl) (fun z => by omega))))))))
theorem rf_m {all : Int64} {lsd : Int → Int} {a b : Int} (hall : 4000 < all.toInt) : f_M_refused F 1 all lsd a b = some 1 := by
  have hl := lc_4000 all
  have hr := lc_r all 4000
  apply ok_eq
  unfold f_M_refused f_M_refused_j18 f_M_refused_j53
  exact ok_gr ⟨by omega, by omega⟩ (ok_if (fun z => by omega) (fun _ => ok_gr hr (ok_if (fun z => by omega) (fun _ => ok_some.mpr rfl))))
theorem rf_b {all : Int64} {lsd : Int → Int} {a b : Int} (hall : all.toInt ≤ 4000) (ha : -2147483648 ≤ a ∧ a ≤ 2147483647) (h : ¬ (a = 0 ∨ a = 1)) : f_M_refused F 1 all lsd a b = some 2 := by
  have hl := lc_4000 all
  have hr := lc_r all 4000
  apply ok_eq
  unfold f_M_refused f_M_refused_j18 f_M_refused_j53
  rw [e_noBit ha, ob1_s, (bz_1 _).mpr h]
  exact ok_gr ⟨by omega, by omega⟩ (ok_if (fun z => by omega) (fun _ => ok_gr hr (ok_if (fun _ => ok_gr ⟨by omega, by omega⟩ (ok_if (fun z => by omega) (fun _ => ok_some.mpr rfl))) (fun z => by omega))))
theorem rf_k {all : Int64} {lsd : Int → Int} {a b : Int} (hall : all.toInt ≤ 4000) (ha : -2147483648 ≤ a ∧ a ≤ 2147483647) (hb : -2147483648 ≤ b ∧ b ≤ 2147483647) (h : a = 0 ∨ a = 1) (hd : 0 ≤ lsd a ∧ lsd a ≤ 20) (h2 : ¬ (0 ≤ b ∧ b < lsd a)) : f_M_refused F 1 all lsd a b = some 3 := by
  have hl := lc_4000 all
  have hr := lc_r all 4000
  apply ok_eq
  unfold f_M_refused f_M_refused_j18 f_M_refused_j53
  rw [e_noBit ha, ob1_s, bz_f (fun z => z h)]
  refine ok_gr ⟨by omega, by omega⟩ (ok_if (fun z => by omega) (fun _ => ok_gr hr (ok_if (fun _ => ok_gr ⟨by omega, by omega⟩ (ok_if (fun _ => ?_) (fun z => absurd rfl z))) (fun z => by omega))))
  exact ok_gr hb (ok_if (fun _ => ok_some.mpr rfl) (fun _ => ok_gr hb (ok_if (fun _ => ok_some.mpr rfl) (fun _ => ok_gi ⟨by omega, by omega⟩ (ok_gr hb (ok_gr ⟨by omega, by omega⟩ (ok_if (fun z => by omega) (fun _ => ok_some.mpr rfl))))))))
theorem rf_0 {all : Int64} {lsd : Int → Int} {a b : Int} : f_M_refused F 0 all lsd a b = some 1 := rfl
theorem mp_of {an a b q : Int} {all : Int64} {lsd lsl lsz lrw : Int → Int} (hq : 1 ≤ q ∧ q ≤ 3) (h : f_M_refused F an all lsd a b = some q) : f_M_path F an all lsd lsl a b = some (0, q) ∧ ∀ c, f_M_element F an all lsd lsz lrw a b c = some (0, q) := by
  constructor
  · apply ok_eq
    unfold f_M_path
    rw [h, ob1_s]
    exact ok_gr ⟨by omega, by omega⟩ (ok_if (fun z => by omega) (fun _ => ok_some.mpr rfl))
  · intro c
    apply ok_eq
    unfold f_M_element
    rw [h, ob1_s]
    exact ok_gr ⟨by omega, by omega⟩ (ok_if (fun z => by omega) (fun _ => ok_some.mpr rfl))
/-- an element of a row -/
def elE (p : Int × List Int) (i : Int) : Int := if 0 ≤ i ∧ i < (p.2.length : Int) then (p.2[i.toNat]?).getD 0 else -1
theorem elE_at {p : Int × List Int} {A : Int → Int} {b i : Int} (h : rowAt A b p.2) (hi : 0 ≤ i ∧ i < (p.2.length : Int)) : A (b + i) = elE p i := by
  unfold elE
  rw [if_pos hi]
  have hl : i.toNat < p.2.length := by omega
  have := h i.toNat _ (List.getElem?_eq_getElem hl)
  rw [show ((i.toNat : Nat) : Int) = i by omega] at this
  rw [this, List.getElem?_eq_getElem hl]
  rfl
theorem m_path {a b : Int} {all : Int64} {lsd lsl lsz lrw : Int → Int} {p : Int × List Int} (hr : f_M_refused F 1 all lsd a b = some 0) (hab : 0 ≤ 21 * a + b ∧ 21 * a + b < 42) (hp : ME lsl lsz lrw (21 * a + b) p) : f_M_path F 1 all lsd lsl a b = some (p.1, 0) ∧ ∀ i, (-2147483648 ≤ i ∧ i ≤ 2147483647) → f_M_element F 1 all lsd lsz lrw a b i = some (elE p i, 0) := by
  obtain ⟨p1, p2, p3, p4⟩ := hp
  have hlen := p4.2.1
  constructor
  · apply ok_eq
    unfold f_M_path
    rw [hr, ob1_s]
    exact ok_gr ⟨by omega, by omega⟩ (ok_if (fun _ => ok_gi hab (ok_some.mpr (by rw [p1]))) (fun z => by omega))
  · intro i hi
    apply ok_eq
    unfold f_M_element f_M_element_j40
    rw [hr, ob1_s, p2]
    refine ok_gr ⟨by omega, by omega⟩ (ok_if (fun _ => ok_gr hi (ok_if (fun q => ok_some.mpr ?_) (fun q => ok_gi hab (ok_gr hi (ok_gr ⟨by omega, by omega⟩ (ok_if (fun q2 => ok_gi ⟨by omega, by omega⟩ (ok_some.mpr ?_)) (fun q2 => ok_some.mpr ?_))))))) (fun z => by omega))
    · unfold elE; rw [if_neg (by omega)]
    · rw [elE_at p3 ⟨by omega, q2⟩]
    · unfold elE; rw [if_neg (by omega)]
theorem c_path {sz k : Int} {sl sk ln rw : Int → Int} {P : List (Int × List Int)} {p : Int × List Int} (hP : CL sz sl sk ln rw P) (hk : 0 ≤ k) (hp : P[k.toNat]? = some p) : f_PathList_slackOf F sz sl sk k = some p.1 ∧ ∀ i, (-2147483648 ≤ i ∧ i ≤ 2147483647) → f_PathList_elementAt F sz sl ln rw k i = some (elE p i) := by
  obtain ⟨h1, h20, hsr, hin1, hinj, hP4⟩ := hP
  have hlt := getE_lt hp
  have hC := hP4 _ p hp
  rw [show ((k.toNat : Nat) : Int) = k by omega] at hC
  have hsl := hin1 k hk (by omega)
  obtain ⟨p1, p2, p3, p4⟩ := hC
  have hlen := p4.2.1
  constructor
  · apply ok_eq
    unfold f_PathList_slackOf
    exact ok_gr ⟨by omega, by omega⟩ (ok_gr ⟨by omega, by omega⟩ (ok_if (fun z => by omega) (fun _ => ok_gi ⟨by omega, by omega⟩ (ok_gi ⟨by omega, by omega⟩ (ok_some.mpr p1)))))
  · intro i hi
    apply ok_eq
    unfold f_PathList_elementAt f_PathList_elementAt_j27
    rw [p2]
    refine ok_gr ⟨by omega, by omega⟩ (ok_gr ⟨by omega, by omega⟩ (ok_if (fun z => by omega) (fun _ => ok_gr hi (ok_if (fun q => ok_some.mpr ?_) (fun q => ok_gi ⟨by omega, by omega⟩ (ok_gi ⟨by omega, by omega⟩ (ok_gr hi (ok_gr ⟨by omega, by omega⟩ (ok_if (fun q2 => ok_gi ⟨by omega, by omega⟩ (ok_gi ⟨by omega, by omega⟩ (ok_some.mpr ?_))) (fun q2 => ok_some.mpr ?_))))))))))
    · unfold elE; rw [if_neg (by omega)]
    · exact elE_at p3 ⟨by omega, q2⟩
    · unfold elE; rw [if_neg (by omega)]
theorem col_ok {ps pe pc isC lm lf lh : Int} {tr row S H Sc Se Sl : Int → Int} {y1 b1 : Int} {y2 y3 y4 y5 b2 b3 b4 b5 : Int → Int} (h : (isC = 0 ∧ CLT F kd pn so se wE wL gE gL sE sL su ho size per el pa ln ea la c l ba e f G ocn P0 P1) ∨ (isC = 1 ∧ CL2 y1 y2 y3 y4 y5 b1 b2 b3 b4 b5 P0 P1)) : ok (f_WorstPaths_collect F ps pe pc isC tr row lm lf lh S H el pa ln ea la c l ba e f Sc Se Sl ocn G per size kd pn so wE wL se gE gL sE sL su ho y1 y2 y3 y4 y5 b1 b2 b3 b4 b5) (fun r => r.2.2.2.2.2.1 = 1 ∧ CL2 r.2.2.2.2.2.2.2.2.2.2.2.2.2.2.1 r.2.2.2.2.2.2.2.2.2.2.2.2.2.2.2.1 r.2.2.2.2.2.2.2.2.2.2.2.2.2.2.2.2.1 r.2.2.2.2.2.2.2.2.2.2.2.2.2.2.2.2.2.1 r.2.2.2.2.2.2.2.2.2.2.2.2.2.2.2.2.2.2.1 r.2.2.2.2.2.2.2.2.2.2.2.2.2.2.2.2.2.2.2.1 r.2.2.2.2.2.2.2.2.2.2.2.2.2.2.2.2.2.2.2.2.1 r.2.2.2.2.2.2.2.2.2.2.2.2.2.2.2.2.2.2.2.2.2.1 r.2.2.2.2.2.2.2.2.2.2.2.2.2.2.2.2.2.2.2.2.2.2.1 r.2.2.2.2.2.2.2.2.2.2.2.2.2.2.2.2.2.2.2.2.2.2.2 P0 P1) := by
  rcases h with ⟨h1, h2⟩ | ⟨h1, h2⟩
  · rw [h1]
    exact h2 _ _ _ _ _ _ _ _ _ _ _ _ _ _ _ _ _ _ _ _ _ _ _
  · unfold f_WorstPaths_collect
    exact ok_gr ⟨by omega, by omega⟩ (ok_if (fun z => by omega) (fun _ => ok_some.mpr ⟨h1, h2⟩))
theorem t_path {ps pe pc isC lm lf lh : Int} {tr row S H Sc Se Sl : Int → Int} {y1 b1 : Int} {y2 y3 y4 y5 b2 b3 b4 b5 : Int → Int} {pcn a b : Int} {p : Int × List Int} (h : (isC = 0 ∧ CLT F kd pn so se wE wL gE gL sE sL su ho size per el pa ln ea la c l ba e f G ocn P0 P1) ∨ (isC = 1 ∧ CL2 y1 y2 y3 y4 y5 b1 b2 b3 b4 b5 P0 P1)) (hpc : 0 ≤ pcn ∧ pcn ≤ 4000) (ha : a = 0 ∨ a = 1) (h2 : 0 ≤ b ∧ b ≤ min 20 pcn - 1) (hp : (if a = 0 then P0 else P1)[b.toNat]? = some p) : ok (f_T_path F 1 pcn ps pe pc isC tr row lm lf lh S H el pa ln ea la c l ba e f Sc Se Sl ocn G per size kd pn so wE wL se gE gL sE sL su ho y1 y2 y3 y4 y5 b1 b2 b3 b4 b5 a b) (fun r => r.1 = p.1 ∧ r.2.2.2.2.2.2.1 = 1 ∧ CL2 r.2.2.2.2.2.2.2.2.2.2.2.2.2.2.2.1 r.2.2.2.2.2.2.2.2.2.2.2.2.2.2.2.2.1 r.2.2.2.2.2.2.2.2.2.2.2.2.2.2.2.2.2.1 r.2.2.2.2.2.2.2.2.2.2.2.2.2.2.2.2.2.2.1 r.2.2.2.2.2.2.2.2.2.2.2.2.2.2.2.2.2.2.2.1 r.2.2.2.2.2.2.2.2.2.2.2.2.2.2.2.2.2.2.2.2.1 r.2.2.2.2.2.2.2.2.2.2.2.2.2.2.2.2.2.2.2.2.2.1 r.2.2.2.2.2.2.2.2.2.2.2.2.2.2.2.2.2.2.2.2.2.2.1 r.2.2.2.2.2.2.2.2.2.2.2.2.2.2.2.2.2.2.2.2.2.2.2.1 r.2.2.2.2.2.2.2.2.2.2.2.2.2.2.2.2.2.2.2.2.2.2.2.2 P0 P1) := by
  unfold f_T_path
  rw [nP_v hpc (by omega) (by omega) ha h2, ob0_s]
  refine ok_ob24 (col_ok h) (fun a1 a2 a3 a4 a5 a6 a7 a8 a9 a10 a11 a12 a13 a14 a15 a16 a17 a18 a19 a20 a21 a22 a23 a24 hr => ?_)
  obtain ⟨r1, r2⟩ := hr
  simp only at r1 r2
  unfold f_WorstPaths_listOf
  rcases ha with ha | ha
  · have hpp : P0[b.toNat]? = some p := by rw [if_pos ha] at hp; exact hp
    refine ok_ob1 (P := fun r => r = 0) (ok_gr ⟨by omega, by omega⟩ (ok_if (fun _ => ok_some.mpr rfl) (fun z => absurd ha z))) (fun z hz => ?_)
    rw [hz, (c_path (F := F) r2.1 h2.1 hpp).1, ob1_s]
    exact ok_if (fun _ => ok_some.mpr ⟨rfl, r1, r2⟩) (fun z => absurd rfl z)
  · have hpp : P1[b.toNat]? = some p := by rw [if_neg (by omega)] at hp; exact hp
    refine ok_ob1 (P := fun r => r = 1) (ok_gr ⟨by omega, by omega⟩ (ok_if (fun z => by omega) (fun _ => ok_some.mpr rfl))) (fun z hz => ?_)
    rw [hz, (c_path (F := F) r2.2 h2.1 hpp).1, ob1_s]
    exact ok_if (fun z => absurd z (by decide)) (fun _ => ok_some.mpr ⟨rfl, r1, r2⟩)
theorem t_element {ps pe pc isC lm lf lh : Int} {tr row S H Sc Se Sl : Int → Int} {y1 b1 : Int} {y2 y3 y4 y5 b2 b3 b4 b5 : Int → Int} {pcn a b : Int} {p : Int × List Int} {i : Int} (h : (isC = 0 ∧ CLT F kd pn so se wE wL gE gL sE sL su ho size per el pa ln ea la c l ba e f G ocn P0 P1) ∨ (isC = 1 ∧ CL2 y1 y2 y3 y4 y5 b1 b2 b3 b4 b5 P0 P1)) (hpc : 0 ≤ pcn ∧ pcn ≤ 4000) (ha : a = 0 ∨ a = 1) (h2 : 0 ≤ b ∧ b ≤ min 20 pcn - 1) (hp : (if a = 0 then P0 else P1)[b.toNat]? = some p) (hi : -2147483648 ≤ i ∧ i ≤ 2147483647) : ok (f_T_element F 1 pcn ps pe pc isC tr row lm lf lh S H el pa ln ea la c l ba e f Sc Se Sl ocn G per size kd pn so wE wL se gE gL sE sL su ho y1 y2 y3 y4 y5 b1 b2 b3 b4 b5 a b i) (fun r => r.1 = elE p i ∧ r.2.2.2.2.2.2.1 = 1 ∧ CL2 r.2.2.2.2.2.2.2.2.2.2.2.2.2.2.2.1 r.2.2.2.2.2.2.2.2.2.2.2.2.2.2.2.2.1 r.2.2.2.2.2.2.2.2.2.2.2.2.2.2.2.2.2.1 r.2.2.2.2.2.2.2.2.2.2.2.2.2.2.2.2.2.2.1 r.2.2.2.2.2.2.2.2.2.2.2.2.2.2.2.2.2.2.2.1 r.2.2.2.2.2.2.2.2.2.2.2.2.2.2.2.2.2.2.2.2.1 r.2.2.2.2.2.2.2.2.2.2.2.2.2.2.2.2.2.2.2.2.2.1 r.2.2.2.2.2.2.2.2.2.2.2.2.2.2.2.2.2.2.2.2.2.2.1 r.2.2.2.2.2.2.2.2.2.2.2.2.2.2.2.2.2.2.2.2.2.2.2.1 r.2.2.2.2.2.2.2.2.2.2.2.2.2.2.2.2.2.2.2.2.2.2.2.2 P0 P1) := by
  unfold f_T_element
  rw [nP_v hpc (by omega) (by omega) ha h2, ob0_s]
  refine ok_ob24 (col_ok h) (fun a1 a2 a3 a4 a5 a6 a7 a8 a9 a10 a11 a12 a13 a14 a15 a16 a17 a18 a19 a20 a21 a22 a23 a24 hr => ?_)
  obtain ⟨r1, r2⟩ := hr
  simp only at r1 r2
  unfold f_WorstPaths_listOf
  rcases ha with ha | ha
  · have hpp : P0[b.toNat]? = some p := by rw [if_pos ha] at hp; exact hp
    refine ok_ob1 (P := fun r => r = 0) (ok_gr ⟨by omega, by omega⟩ (ok_if (fun _ => ok_some.mpr rfl) (fun z => absurd ha z))) (fun z hz => ?_)
    rw [hz, (c_path (F := F) r2.1 h2.1 hpp).2 i hi, ob1_s]
    exact ok_if (fun _ => ok_some.mpr ⟨rfl, r1, r2⟩) (fun z => absurd rfl z)
  · have hpp : P1[b.toNat]? = some p := by rw [if_neg (by omega)] at hp; exact hp
    refine ok_ob1 (P := fun r => r = 1) (ok_gr ⟨by omega, by omega⟩ (ok_if (fun z => by omega) (fun _ => ok_some.mpr rfl))) (fun z hz => ?_)
    rw [hz, (c_path (F := F) r2.2 h2.1 hpp).2 i hi, ob1_s]
    exact ok_if (fun z => absurd z (by decide)) (fun _ => ok_some.mpr ⟨rfl, r1, r2⟩)
end PTH
section DOP
variable {F : Nat} {x : St} {i : Int} {L : Nat} {sc : Int → Int}
theorem do_18 (hF : 200 ≤ F) (hI : Inv F x) (hi : 0 ≤ i) (hiL : i + 6 ≤ L) (hsc : ∀ j, -2147483648 ≤ sc j ∧ sc j ≤ 2147483647) : ∃ x', Do_18 F i L sc x x' ∧ Inv F x' := by
  have hI' := hI
  obtain ⟨hN, hM, hrs, hTA, hA⟩ := hI'
  rcases hA with h0 | ⟨h1, hA⟩
  · have hm : x.M_analysed = 0 := by rw [← hTA]; exact h0
    have t := gp_of (F := F) (nP_0 (F := F) (pc := x.L_pathCount) (a := (sc (i + 1))) (b := (sc (i + 2))))
    have u := (mp_of (F := F) (lsl := x.M_listSlack) (lsz := x.M_listSize) (lrw := x.M_listRows) (by omega) (rf_0 (F := F) (all := x.M_all) (lsd := x.M_listed) (a := (sc (i + 1))) (b := (sc (i + 2))))).1
    have a1 : f_lt_18_1 F x.T_analysed x.L_pathCount i L sc = some 1 := by
      apply ok_eq
      unfold f_lt_18_1
      rw [h0]
      exact (ok_gi ⟨by omega, by omega⟩ (ok_gi ⟨by omega, by omega⟩ (hdg t.1)))
    have a2 : f_lr_18 F x.M_analysed x.M_all x.M_listed x.M_listSlack x.out i L sc 1 = some 1 := by
      apply ok_eq
      unfold f_lr_18 f_lr_18_j1181
      rw [hm]
      exact (ok_gi ⟨by omega, by omega⟩ (ok_gi ⟨by omega, by omega⟩ (tl u (by omega) (fun z => by omega))))
    exact ⟨_, Or.inr (Or.inr (Or.inl ⟨a1, _, a2, rfl⟩)), by rw [Inv_mk]; exact hI⟩
  · have hm : x.M_analysed = 1 := by rw [← hTA]; exact h1
    obtain ⟨A1, A2, A3, A4, A5, A6, A7⟩ := hA
    by_cases hpc : x.L_pathCount ≤ 4000
    · have hall : x.M_all.toInt ≤ 4000 := by clear A7; omega
      have hpc0 : 0 ≤ x.L_pathCount ∧ x.L_pathCount ≤ 4000 := by clear A7; omega
      obtain ⟨P0, P1, ⟨l0, l1⟩, hML, hcol⟩ := A7 hpc
      clear A7
      by_cases hb : (sc (i + 1)) = 0 ∨ (sc (i + 1)) = 1
      · have hd : x.M_listed (sc (i + 1)) = min 20 x.L_pathCount := by
          rcases hb with q | q
          · rw [q, hML.1.1, l0]
          · rw [q, hML.2.1, l1]
        by_cases hk : 0 ≤ (sc (i + 2)) ∧ (sc (i + 2)) ≤ min 20 x.L_pathCount - 1
        · have hrf := rf_v (F := F) (lsd := x.M_listed) hall (hsc (i + 1)) (hsc (i + 2)) hb (by omega) (by omega)
          obtain ⟨p, hp, hME⟩ : ∃ p, (if (sc (i + 1)) = 0 then P0 else P1)[(sc (i + 2)).toNat]? = some p ∧ ME x.M_listSlack x.M_listSize x.M_listRows (21 * (sc (i + 1)) + (sc (i + 2))) p := by
            rcases hb with q | q
            · rw [if_pos q, q]
              have hlt : (sc (i + 2)).toNat < P0.length := by omega
              have hg := List.getElem?_eq_getElem hlt
              have := hML.1.2.2.2 _ _ hg
              rw [show ((((sc (i + 2)).toNat : Nat)) : Int) = (sc (i + 2)) by omega] at this
              exact ⟨_, hg, this⟩
            · rw [if_neg (by omega), q]
              have hlt : (sc (i + 2)).toNat < P1.length := by omega
              have hg := List.getElem?_eq_getElem hlt
              have := hML.2.2.2.2 _ _ hg
              rw [show ((((sc (i + 2)).toNat : Nat)) : Int) = (sc (i + 2)) by omega] at this
              exact ⟨_, hg, this⟩
          have u := (m_path (F := F) (lsl := x.M_listSlack) (lsz := x.M_listSize) (lrw := x.M_listRows) hrf (by omega) hME).1
          obtain ⟨r, hr, hv, hc6, hCL⟩ := t_path (F := F) (ps := x.P_start) (pe := x.P_end) (pc := x.P_endChange) (tr := x.P_trail) (row := x.P_row) (lm := x.R_leastMoving) (lf := x.R_leastFixed) (lh := x.R_leastHold) (S := x.R_setup) (H := x.R_hold) (Sc := x.S_count) (Se := x.S_early) (Sl := x.S_late) hcol hpc0 hb hk hp
          obtain ⟨v, t1, t2, t3, t4, t5, t6, t7, t8, t9, t10, t11, t12, t13, t14, t15, t16, t17, t18, t19, t20, t21, t22, t23, t24⟩ := r
          simp only at hv hc6 hCL
          subst hv
          have a1 : f_lh_18 F x.T_analysed x.L_pathCount x.P_start x.P_end x.P_endChange x.P_isCollected x.P_trail x.P_row x.R_leastMoving x.R_leastFixed x.R_leastHold x.R_setup x.R_hold x.C_elements x.C_parent x.C_length x.C_early x.C_late x.C_count x.C_last x.C_base x.C_wayEarly x.C_wayLate x.S_count x.S_early x.S_late x.O_count x.O_gates x.N_period x.N_size x.N_kind x.N_pins x.N_source x.N_wireEarly x.N_wireLate x.N_senses x.N_gateEarly x.N_gateLate x.N_startEarly x.N_startLate x.N_setups x.N_holds x.Y_size x.Y_slotOf x.Y_slacks x.Y_lengths x.Y_rows x.B_size x.B_slotOf x.B_slacks x.B_lengths x.B_rows x.out i L sc = some (0, t1, t2, t3, t4, t5, t6, t7, t8, t9, t10, t11, t12, t13, t14, t15, t16, t17, t18, t19, t20, t21, t22, t23, t24, ul x.out 0 (Int32.toInt64 (iI (p.1)))) := by
            apply ok_eq
            unfold f_lh_18 f_Law_path
            rw [h1]
            refine (ok_gi ⟨by omega, by omega⟩ (ok_gi ⟨by omega, by omega⟩ ?_))
            refine ok_ob26 (P := fun r => r = (0, t1, t2, t3, t4, t5, t6, t7, t8, t9, t10, t11, t12, t13, t14, t15, t16, t17, t18, t19, t20, t21, t22, t23, t24, ul x.out 0 (Int32.toInt64 (iI (p.1))))) ?_ (fun a1 a2 a3 a4 a5 a6 a7 a8 a9 a10 a11 a12 a13 a14 a15 a16 a17 a18 a19 a20 a21 a22 a23 a24 a25 a26 hh => ?_)
            · refine ok_ob25 (P := fun r => r = (p.1, t1, t2, t3, t4, t5, t6, t7, t8, t9, t10, t11, t12, t13, t14, t15, t16, t17, t18, t19, t20, t21, t22, t23, t24)) ⟨_, hr, rfl⟩ (fun a1 a2 a3 a4 a5 a6 a7 a8 a9 a10 a11 a12 a13 a14 a15 a16 a17 a18 a19 a20 a21 a22 a23 a24 a25 hh => ?_)
              cases hh
              exact ok_gi ⟨by decide, by decide⟩ (ok_bd.mpr (ok_some.mpr rfl))
            · cases hh
              exact ok_some.mpr rfl
          have a2 : f_lr_18 F x.M_analysed x.M_all x.M_listed x.M_listSlack (ul x.out 0 (Int32.toInt64 (iI (p.1)))) i L sc 0 = some 0 := by
            apply ok_eq
            unfold f_lr_18 f_lr_18_j1181
            rw [hm]
            exact (ok_gi ⟨by omega, by omega⟩ (ok_gi ⟨by omega, by omega⟩ (tl u (by omega) (fun _ => ul_0))))
          exact ⟨_, Or.inl ⟨_, _, _, _, _, _, _, _, _, _, _, _, _, _, _, _, _, _, _, _, _, _, _, _, _, _, a1, _, a2, rfl⟩, by rw [Inv_mk]; exact ⟨hN, hM, hrs, hTA, Or.inr ⟨h1, A1, A2, A3, A4, A5, A6, fun _ => ⟨P0, P1, ⟨l0, l1⟩, hML, Or.inr ⟨hc6, hCL⟩⟩⟩⟩⟩
        · have t := gp_of (F := F) (nP_k (F := F) hpc0 (hsc (i + 1)) (hsc (i + 2)) hb hk)
          have u := (mp_of (F := F) (lsl := x.M_listSlack) (lsz := x.M_listSize) (lrw := x.M_listRows) (by omega) (rf_k (F := F) (lsd := x.M_listed) hall (hsc (i + 1)) (hsc (i + 2)) hb (by omega) (by omega))).1
          have a1 : f_lt_18_2 F x.T_analysed x.L_pathCount i L sc = some 2 := by
            apply ok_eq
            unfold f_lt_18_2
            rw [h1]
            exact (ok_gi ⟨by omega, by omega⟩ (ok_gi ⟨by omega, by omega⟩ (hdg t.1)))
          have a2 : f_lr_18 F x.M_analysed x.M_all x.M_listed x.M_listSlack x.out i L sc 3 = some 3 := by
            apply ok_eq
            unfold f_lr_18 f_lr_18_j1181
            rw [hm]
            exact (ok_gi ⟨by omega, by omega⟩ (ok_gi ⟨by omega, by omega⟩ (tl u (by omega) (fun z => by omega))))
          exact ⟨_, Or.inr (Or.inr (Or.inr ⟨a1, _, a2, rfl⟩)), by rw [Inv_mk]; exact hI⟩
      · have t := gp_of (F := F) (nP_b (F := F) (b := (sc (i + 2))) hpc0 (hsc (i + 1)) hb)
        have u := (mp_of (F := F) (lsl := x.M_listSlack) (lsz := x.M_listSize) (lrw := x.M_listRows) (by omega) (rf_b (F := F) (lsd := x.M_listed) (b := (sc (i + 2))) hall (hsc (i + 1)) hb)).1
        have a1 : f_lt_18_0 F x.T_analysed x.L_pathCount i L sc = some 0 := by
          apply ok_eq
          unfold f_lt_18_0
          rw [h1]
          exact (ok_gi ⟨by omega, by omega⟩ (ok_gi ⟨by omega, by omega⟩ (hdg t.1)))
        have a2 : f_lr_18 F x.M_analysed x.M_all x.M_listed x.M_listSlack x.out i L sc 2 = some 2 := by
          apply ok_eq
          unfold f_lr_18 f_lr_18_j1181
          rw [hm]
          exact (ok_gi ⟨by omega, by omega⟩ (ok_gi ⟨by omega, by omega⟩ (tl u (by omega) (fun z => by omega))))
        exact ⟨_, Or.inr (Or.inl ⟨a1, _, a2, rfl⟩), by rw [Inv_mk]; exact hI⟩
    · clear A7
      have t := gp_of (F := F) (nP_m (F := F) (a := (sc (i + 1))) (b := (sc (i + 2))) (pc := x.L_pathCount) (by omega))
      have u := (mp_of (F := F) (lsl := x.M_listSlack) (lsz := x.M_listSize) (lrw := x.M_listRows) (by omega) (rf_m (F := F) (all := x.M_all) (lsd := x.M_listed) (a := (sc (i + 1))) (b := (sc (i + 2))) (by omega))).1
      have a1 : f_lt_18_1 F x.T_analysed x.L_pathCount i L sc = some 1 := by
        apply ok_eq
        unfold f_lt_18_1
        rw [h1]
        exact (ok_gi ⟨by omega, by omega⟩ (ok_gi ⟨by omega, by omega⟩ (hdg t.1)))
      have a2 : f_lr_18 F x.M_analysed x.M_all x.M_listed x.M_listSlack x.out i L sc 1 = some 1 := by
        apply ok_eq
        unfold f_lr_18 f_lr_18_j1181
        rw [hm]
        exact (ok_gi ⟨by omega, by omega⟩ (ok_gi ⟨by omega, by omega⟩ (tl u (by omega) (fun z => by omega))))
      exact ⟨_, Or.inr (Or.inr (Or.inl ⟨a1, _, a2, rfl⟩)), by rw [Inv_mk]; exact hI⟩
theorem do_19 (hF : 200 ≤ F) (hI : Inv F x) (hi : 0 ≤ i) (hiL : i + 6 ≤ L) (hsc : ∀ j, -2147483648 ≤ sc j ∧ sc j ≤ 2147483647) : ∃ x', Do_19 F i L sc x x' ∧ Inv F x' := by
  have hI' := hI
  obtain ⟨hN, hM, hrs, hTA, hA⟩ := hI'
  rcases hA with h0 | ⟨h1, hA⟩
  · have hm : x.M_analysed = 0 := by rw [← hTA]; exact h0
    have t := gp_of (F := F) (nP_0 (F := F) (pc := x.L_pathCount) (a := (sc (i + 1))) (b := (sc (i + 2))))
    have u := (mp_of (F := F) (lsl := x.M_listSlack) (lsz := x.M_listSize) (lrw := x.M_listRows) (by omega) (rf_0 (F := F) (all := x.M_all) (lsd := x.M_listed) (a := (sc (i + 1))) (b := (sc (i + 2))))).2 (sc (i + 3))
    have a1 : f_lt_19_1 F x.T_analysed x.L_pathCount i L sc = some 1 := by
      apply ok_eq
      unfold f_lt_19_1
      rw [h0]
      exact (ok_gi ⟨by omega, by omega⟩ (ok_gi ⟨by omega, by omega⟩ (ok_gi ⟨by omega, by omega⟩ (hdg t.2))))
    have a2 : f_lr_19 F x.M_analysed x.M_all x.M_listed x.M_listSize x.M_listRows x.out i L sc 1 = some 1 := by
      apply ok_eq
      unfold f_lr_19 f_lr_19_j1261
      rw [hm]
      exact (ok_gi ⟨by omega, by omega⟩ (ok_gi ⟨by omega, by omega⟩ (ok_gi ⟨by omega, by omega⟩ (tl u (by omega) (fun z => by omega)))))
    exact ⟨_, Or.inr (Or.inr (Or.inl ⟨a1, _, a2, rfl⟩)), by rw [Inv_mk]; exact hI⟩
  · have hm : x.M_analysed = 1 := by rw [← hTA]; exact h1
    obtain ⟨A1, A2, A3, A4, A5, A6, A7⟩ := hA
    by_cases hpc : x.L_pathCount ≤ 4000
    · have hall : x.M_all.toInt ≤ 4000 := by clear A7; omega
      have hpc0 : 0 ≤ x.L_pathCount ∧ x.L_pathCount ≤ 4000 := by clear A7; omega
      obtain ⟨P0, P1, ⟨l0, l1⟩, hML, hcol⟩ := A7 hpc
      clear A7
      by_cases hb : (sc (i + 1)) = 0 ∨ (sc (i + 1)) = 1
      · have hd : x.M_listed (sc (i + 1)) = min 20 x.L_pathCount := by
          rcases hb with q | q
          · rw [q, hML.1.1, l0]
          · rw [q, hML.2.1, l1]
        by_cases hk : 0 ≤ (sc (i + 2)) ∧ (sc (i + 2)) ≤ min 20 x.L_pathCount - 1
        · have hrf := rf_v (F := F) (lsd := x.M_listed) hall (hsc (i + 1)) (hsc (i + 2)) hb (by omega) (by omega)
          obtain ⟨p, hp, hME⟩ : ∃ p, (if (sc (i + 1)) = 0 then P0 else P1)[(sc (i + 2)).toNat]? = some p ∧ ME x.M_listSlack x.M_listSize x.M_listRows (21 * (sc (i + 1)) + (sc (i + 2))) p := by
            rcases hb with q | q
            · rw [if_pos q, q]
              have hlt : (sc (i + 2)).toNat < P0.length := by omega
              have hg := List.getElem?_eq_getElem hlt
              have := hML.1.2.2.2 _ _ hg
              rw [show ((((sc (i + 2)).toNat : Nat)) : Int) = (sc (i + 2)) by omega] at this
              exact ⟨_, hg, this⟩
            · rw [if_neg (by omega), q]
              have hlt : (sc (i + 2)).toNat < P1.length := by omega
              have hg := List.getElem?_eq_getElem hlt
              have := hML.2.2.2.2 _ _ hg
              rw [show ((((sc (i + 2)).toNat : Nat)) : Int) = (sc (i + 2)) by omega] at this
              exact ⟨_, hg, this⟩
          have u := (m_path (F := F) (lsl := x.M_listSlack) (lsz := x.M_listSize) (lrw := x.M_listRows) hrf (by omega) hME).2 (sc (i + 3)) (hsc _)
          obtain ⟨r, hr, hv, hc6, hCL⟩ := t_element (F := F) (ps := x.P_start) (pe := x.P_end) (pc := x.P_endChange) (tr := x.P_trail) (row := x.P_row) (lm := x.R_leastMoving) (lf := x.R_leastFixed) (lh := x.R_leastHold) (S := x.R_setup) (H := x.R_hold) (Sc := x.S_count) (Se := x.S_early) (Sl := x.S_late) hcol hpc0 hb hk hp (hsc (i + 3))
          obtain ⟨v, t1, t2, t3, t4, t5, t6, t7, t8, t9, t10, t11, t12, t13, t14, t15, t16, t17, t18, t19, t20, t21, t22, t23, t24⟩ := r
          simp only at hv hc6 hCL
          subst hv
          have a1 : f_lh_19 F x.T_analysed x.L_pathCount x.P_start x.P_end x.P_endChange x.P_isCollected x.P_trail x.P_row x.R_leastMoving x.R_leastFixed x.R_leastHold x.R_setup x.R_hold x.C_elements x.C_parent x.C_length x.C_early x.C_late x.C_count x.C_last x.C_base x.C_wayEarly x.C_wayLate x.S_count x.S_early x.S_late x.O_count x.O_gates x.N_period x.N_size x.N_kind x.N_pins x.N_source x.N_wireEarly x.N_wireLate x.N_senses x.N_gateEarly x.N_gateLate x.N_startEarly x.N_startLate x.N_setups x.N_holds x.Y_size x.Y_slotOf x.Y_slacks x.Y_lengths x.Y_rows x.B_size x.B_slotOf x.B_slacks x.B_lengths x.B_rows x.out i L sc = some (0, t1, t2, t3, t4, t5, t6, t7, t8, t9, t10, t11, t12, t13, t14, t15, t16, t17, t18, t19, t20, t21, t22, t23, t24, ul x.out 0 (Int32.toInt64 (iI (elE p (sc (i + 3)))))) := by
            apply ok_eq
            unfold f_lh_19 f_Law_element
            rw [h1]
            refine (ok_gi ⟨by omega, by omega⟩ (ok_gi ⟨by omega, by omega⟩ (ok_gi ⟨by omega, by omega⟩ ?_)))
            refine ok_ob26 (P := fun r => r = (0, t1, t2, t3, t4, t5, t6, t7, t8, t9, t10, t11, t12, t13, t14, t15, t16, t17, t18, t19, t20, t21, t22, t23, t24, ul x.out 0 (Int32.toInt64 (iI (elE p (sc (i + 3))))))) ?_ (fun a1 a2 a3 a4 a5 a6 a7 a8 a9 a10 a11 a12 a13 a14 a15 a16 a17 a18 a19 a20 a21 a22 a23 a24 a25 a26 hh => ?_)
            · refine ok_ob25 (P := fun r => r = (elE p (sc (i + 3)), t1, t2, t3, t4, t5, t6, t7, t8, t9, t10, t11, t12, t13, t14, t15, t16, t17, t18, t19, t20, t21, t22, t23, t24)) ⟨_, hr, rfl⟩ (fun a1 a2 a3 a4 a5 a6 a7 a8 a9 a10 a11 a12 a13 a14 a15 a16 a17 a18 a19 a20 a21 a22 a23 a24 a25 hh => ?_)
              cases hh
              exact ok_gi ⟨by decide, by decide⟩ (ok_bd.mpr (ok_some.mpr rfl))
            · cases hh
              exact ok_some.mpr rfl
          have a2 : f_lr_19 F x.M_analysed x.M_all x.M_listed x.M_listSize x.M_listRows (ul x.out 0 (Int32.toInt64 (iI (elE p (sc (i + 3)))))) i L sc 0 = some 0 := by
            apply ok_eq
            unfold f_lr_19 f_lr_19_j1261
            rw [hm]
            exact (ok_gi ⟨by omega, by omega⟩ (ok_gi ⟨by omega, by omega⟩ (ok_gi ⟨by omega, by omega⟩ (tl u (by omega) (fun _ => ul_0)))))
          exact ⟨_, Or.inl ⟨_, _, _, _, _, _, _, _, _, _, _, _, _, _, _, _, _, _, _, _, _, _, _, _, _, _, a1, _, a2, rfl⟩, by rw [Inv_mk]; exact ⟨hN, hM, hrs, hTA, Or.inr ⟨h1, A1, A2, A3, A4, A5, A6, fun _ => ⟨P0, P1, ⟨l0, l1⟩, hML, Or.inr ⟨hc6, hCL⟩⟩⟩⟩⟩
        · have t := gp_of (F := F) (nP_k (F := F) hpc0 (hsc (i + 1)) (hsc (i + 2)) hb hk)
          have u := (mp_of (F := F) (lsl := x.M_listSlack) (lsz := x.M_listSize) (lrw := x.M_listRows) (by omega) (rf_k (F := F) (lsd := x.M_listed) hall (hsc (i + 1)) (hsc (i + 2)) hb (by omega) (by omega))).2 (sc (i + 3))
          have a1 : f_lt_19_2 F x.T_analysed x.L_pathCount i L sc = some 2 := by
            apply ok_eq
            unfold f_lt_19_2
            rw [h1]
            exact (ok_gi ⟨by omega, by omega⟩ (ok_gi ⟨by omega, by omega⟩ (ok_gi ⟨by omega, by omega⟩ (hdg t.2))))
          have a2 : f_lr_19 F x.M_analysed x.M_all x.M_listed x.M_listSize x.M_listRows x.out i L sc 3 = some 3 := by
            apply ok_eq
            unfold f_lr_19 f_lr_19_j1261
            rw [hm]
            exact (ok_gi ⟨by omega, by omega⟩ (ok_gi ⟨by omega, by omega⟩ (ok_gi ⟨by omega, by omega⟩ (tl u (by omega) (fun z => by omega)))))
          exact ⟨_, Or.inr (Or.inr (Or.inr ⟨a1, _, a2, rfl⟩)), by rw [Inv_mk]; exact hI⟩
      · have t := gp_of (F := F) (nP_b (F := F) (b := (sc (i + 2))) hpc0 (hsc (i + 1)) hb)
        have u := (mp_of (F := F) (lsl := x.M_listSlack) (lsz := x.M_listSize) (lrw := x.M_listRows) (by omega) (rf_b (F := F) (lsd := x.M_listed) (b := (sc (i + 2))) hall (hsc (i + 1)) hb)).2 (sc (i + 3))
        have a1 : f_lt_19_0 F x.T_analysed x.L_pathCount i L sc = some 0 := by
          apply ok_eq
          unfold f_lt_19_0
          rw [h1]
          exact (ok_gi ⟨by omega, by omega⟩ (ok_gi ⟨by omega, by omega⟩ (ok_gi ⟨by omega, by omega⟩ (hdg t.2))))
        have a2 : f_lr_19 F x.M_analysed x.M_all x.M_listed x.M_listSize x.M_listRows x.out i L sc 2 = some 2 := by
          apply ok_eq
          unfold f_lr_19 f_lr_19_j1261
          rw [hm]
          exact (ok_gi ⟨by omega, by omega⟩ (ok_gi ⟨by omega, by omega⟩ (ok_gi ⟨by omega, by omega⟩ (tl u (by omega) (fun z => by omega)))))
        exact ⟨_, Or.inr (Or.inl ⟨a1, _, a2, rfl⟩), by rw [Inv_mk]; exact hI⟩
    · clear A7
      have t := gp_of (F := F) (nP_m (F := F) (a := (sc (i + 1))) (b := (sc (i + 2))) (pc := x.L_pathCount) (by omega))
      have u := (mp_of (F := F) (lsl := x.M_listSlack) (lsz := x.M_listSize) (lrw := x.M_listRows) (by omega) (rf_m (F := F) (all := x.M_all) (lsd := x.M_listed) (a := (sc (i + 1))) (b := (sc (i + 2))) (by omega))).2 (sc (i + 3))
      have a1 : f_lt_19_1 F x.T_analysed x.L_pathCount i L sc = some 1 := by
        apply ok_eq
        unfold f_lt_19_1
        rw [h1]
        exact (ok_gi ⟨by omega, by omega⟩ (ok_gi ⟨by omega, by omega⟩ (ok_gi ⟨by omega, by omega⟩ (hdg t.2))))
      have a2 : f_lr_19 F x.M_analysed x.M_all x.M_listed x.M_listSize x.M_listRows x.out i L sc 1 = some 1 := by
        apply ok_eq
        unfold f_lr_19 f_lr_19_j1261
        rw [hm]
        exact (ok_gi ⟨by omega, by omega⟩ (ok_gi ⟨by omega, by omega⟩ (ok_gi ⟨by omega, by omega⟩ (tl u (by omega) (fun z => by omega)))))
      exact ⟨_, Or.inr (Or.inr (Or.inl ⟨a1, _, a2, rfl⟩)), by rw [Inv_mk]; exact hI⟩
end DOP
