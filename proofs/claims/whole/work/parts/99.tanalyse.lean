/-! the class's analysis -/
section TAN
variable {F : Nat} {kd pn so se wE wL gE gL sE sL su ho : Int → Int} {size wid per : Int}
theorem LSi_b (hN : InvN size per wid kd pn so wE wL se gE gL sE sL su ho) {os : List Int} (hfu : full kd pn so se os) {v : Int} {A : Int → Int} {LM LF pc : Int} (h : LSi kd pn so se wE wL gE gL sE sL su ho size wid per v A LM LF pc) : (∀ m, 0 ≤ m → m < size → (-100000000 ≤ A (2 * m) ∧ A (2 * m) ≤ 1000000000) ∧ -100000000 ≤ A (2 * m + 1) ∧ A (2 * m + 1) ≤ 1000000000) ∧ (-100000000 ≤ LM ∧ LM ≤ 1000000000) ∧ (-100000000 ≤ LF ∧ LF ≤ 1000000000) := by
  obtain ⟨hz, hpw, hk0, hk, hkd, hp, hpk, hs, hs4, hw, hse, hg, hsr, hsu, hho⟩ := hN
  have hwid : 1 ≤ wid ∧ wid < per ∧ per ≤ 1000000 := ⟨by omega, by omega, by omega⟩
  obtain ⟨h1, h2, h3, -⟩ := h
  refine ⟨fun m m1 m2 => ⟨mnF_r (h1 m m1 m2).1 (fun x ⟨n, _, _, q⟩ => SLs_b hz.2 hwid hkd hk0 hw hg hsr hsu hfu q), mnF_r (h1 m m1 m2).2 (fun x ⟨n, _, _, q⟩ => SLh_b hz.2 hwid hkd hk0 hw hg hsr hho hfu q)⟩, mnF_r h2 (fun x ⟨n, m, _, _, _, q⟩ => SLs_b hz.2 hwid hkd hk0 hw hg hsr hsu hfu q), mnF_r h3 (fun x ⟨n, m, _, _, _, q⟩ => SLs_b hz.2 hwid hkd hk0 hw hg hsr hsu hfu q)⟩
def cntC (A : Int → Int) (size : Int) : Int := sumN (fun i => if A (2 * i) = 1000000000 then 0 else 1) size.toNat
theorem e_countEnds {A : Int → Int} (hF : 200 ≤ F) (hz : 1 ≤ size ∧ size ≤ 48) (hA : ∀ m, 0 ≤ m → m < size → -100000000 ≤ A (2 * m) ∧ A (2 * m) ≤ 1000000000) : f_Slacks_countEnds F A size = some (cntC A size) := by
  apply ok_eq
  unfold f_Slacks_countEnds
  refine lq2_ok (fun (q v : Int) => (0 ≤ v ∧ v ≤ size) ∧ q = sumN (fun i => if A (2 * i) = 1000000000 then 0 else 1) v.toNat) (fun _ v => (48 - v).toNat) _ ?_ F 0 0 ⟨by omega, rfl⟩ (by show (48 - (0 : Int)).toNat < F; omega)
  rintro self q v ⟨hv, hq⟩ hs
  unfold f_Slacks_countEnds_b4
  refine ok_gr ⟨by omega, by omega⟩ (ok_gr ⟨by omega, by omega⟩ (ok_if (fun h => ?_) (fun h => ?_)))
  · have e : v = size := by omega
    refine ok_some.mpr ?_
    unfold cntC
    rw [hq, e]
  · have hSv := hA v hv.1 (by omega)
    rw [Int.add_zero]
    refine ok_gi ⟨by omega, by omega⟩ (ok_gr ⟨by omega, by omega⟩ (ok_if (fun h1 => ?_) (fun h1 => ?_)))
    · unfold f_Slacks_countEnds_j33
      refine hs _ _ ⟨by omega, ?_⟩ (by show (48 - (v + 1)).toNat < (48 - v).toNat; omega)
      rw [sumN_s hv.1, ← hq, if_pos h1]; omega
    · unfold f_Slacks_countEnds_j33
      refine hs _ _ ⟨by omega, ?_⟩ (by show (48 - (v + 1)).toNat < (48 - v).toNat; omega)
      rw [sumN_s hv.1, ← hq, if_neg h1]
/-- what the class knows behind an analysis that found neither a cycle nor a tangle -/
def TNA (kd pn so se wE wL gE gL sE sL su ho : Int → Int) (size per wid : Int) (r : Int) (A : Int → Int) (LM LF pc : Int) (sz : Int) (el pa ln ea la fi nx c l ba e f Zc Ze Zl Vc Ve Vl G : Int → Int) (ocn : Int) : Prop :=
  (0 ≤ ocn ∧ ocn ≤ 48) ∧ full kd pn so se (lst G ocn) ∧ CF kd pn so se wE wL gE gL size wid sz el pa ln ea la fi nx c l ba e f ∧ (∃ VZ VV, RV 4001 (fG pn so se wE wL gE gL (lst G ocn) VZ) Zc Ze Zl ∧ RV 4001 (fG pn so se wE wL gE gL (lst G ocn) VV) Vc Ve Vl ∧ (∀ s v, v ∈ VZ s ↔ stS kd pn so se wE wL gE gL sE sL size wid 0 s v) ∧ ∀ s v, v ∈ VV s ↔ stS kd pn so se wE wL gE gL sE sL size wid 1 s v) ∧ LSi kd pn so se wE wL gE gL sE sL su ho size wid per size A LM LF pc ∧ r = cntC A size
def TAR (kd pn so se wE wL gE gL sE sL su ho : Int → Int) (size per wid : Int) (r an : Int) (A : Int → Int) (LM LF pc isC : Int) (sz : Int) (el pa ln ea la fi nx c l ba e f Zc Ze Zl Vc Ve Vl G : Int → Int) (ocn : Int) : Prop :=
  ((∃ g, (0 ≤ g ∧ g < size) ∧ isCyc kd pn so size g) ∧ r = -1 ∧ an = 0) ∨ (isCyc kd pn so size (-2147483648) ∧ (∃ n, (0 ≤ n ∧ n < size) ∧ tang kd pn so se n) ∧ r = -2 ∧ an = 0) ∨
  (isCyc kd pn so size (-2147483648) ∧ (∀ n, 0 ≤ n → n < size → ¬ tang kd pn so se n) ∧ an = 1 ∧ isC = 0 ∧ TNA kd pn so se wE wL gE gL sE sL su ho size per wid r A LM LF pc sz el pa ln ea la fi nx c l ba e f Zc Ze Zl Vc Ve Vl G ocn)
theorem CF_of (hN : InvN size per wid kd pn so wE wL se gE gL sE sL su ho) {os : List Int} (hfu : full kd pn so se os) {sz : Int} {el pa ln ea la fi nx c l ba e f : Int → Int} (h : CF kd pn so se wE wL gE gL size wid sz el pa ln ea la fi nx c l ba e f) : ∃ (Wd : Int → Int × List Int) (Ch : Int → List Int) (Of : Int → List (Option (Int × List Int))), TR (dE wE gE) (dE wL gL) sz el pa ln ea la fi nx Wd Ch ∧ (∀ t u, 0 ≤ t → t < sz → 0 ≤ u → u < sz → Wd t = Wd u → t = u) ∧ ∀ n, 0 ≤ n → n < size → CO kd pn so se wE wL gE gL wid sz Wd c l ba e f n (Of n) := by
  obtain ⟨hz, hpw, hk0, hk, hkd, hp, hpk, hs, hs4, hw, hse, hg, hsr, hsu, hho⟩ := hN
  obtain ⟨Wd, Ch, h1, h2, h3, h4⟩ := h
  have hex : ∀ n, 0 ≤ n → n < size → ∃ Os, CO kd pn so se wE wL gE gL wid sz Wd c l ba e f n Os := fun n a b => CF_ways hz hkd hk0 hs hfu h1 h2 h3 ⟨a, b⟩
  refine ⟨Wd, Ch, fun n => if q : 0 ≤ n ∧ n < size then Classical.choose (hex n q.1 q.2) else [], h1, h4, fun n a b => ?_⟩
  simp only
  rw [dif_pos ⟨a, b⟩]
  exact Classical.choose_spec (hex n a b)
theorem s_Tanalyse {LM LF pc isC rlm rlf rlh csz ocn : Int} {A RS RH N el pa ln ea la fi nx c l ba e f kc ke kl Sc Se Sl Zc Ze Zl Vc Ve Vl G : Int → Int} {ld : Int → Int64} (hF : 200 ≤ F) (hN : InvN size per wid kd pn so wE wL se gE gL sE sL su ho) :
    ok (f_T_analyse F LM LF pc A isC rlm rlf rlh RS RH csz N el pa ln ea la fi nx c l ba e f kc ke kl Sc Se Sl Zc Ze Zl Vc Ve Vl ocn ld G per wid size kd pn so wE wL se gE gL sE sL su ho) (fun r => TAR kd pn so se wE wL gE gL sE sL su ho size per wid r.1 r.2.1 r.2.2.1 r.2.2.2.1 r.2.2.2.2.1 r.2.2.2.2.2.1 r.2.2.2.2.2.2.1 r.2.2.2.2.2.2.2.2.2.2.2.2.2.1 r.2.2.2.2.2.2.2.2.2.2.2.2.2.2.1 r.2.2.2.2.2.2.2.2.2.2.2.2.2.2.2.1 r.2.2.2.2.2.2.2.2.2.2.2.2.2.2.2.2.1 r.2.2.2.2.2.2.2.2.2.2.2.2.2.2.2.2.2.1 r.2.2.2.2.2.2.2.2.2.2.2.2.2.2.2.2.2.2.1 r.2.2.2.2.2.2.2.2.2.2.2.2.2.2.2.2.2.2.2.1 r.2.2.2.2.2.2.2.2.2.2.2.2.2.2.2.2.2.2.2.2.1 r.2.2.2.2.2.2.2.2.2.2.2.2.2.2.2.2.2.2.2.2.2.1 r.2.2.2.2.2.2.2.2.2.2.2.2.2.2.2.2.2.2.2.2.2.2.1 r.2.2.2.2.2.2.2.2.2.2.2.2.2.2.2.2.2.2.2.2.2.2.2.1 r.2.2.2.2.2.2.2.2.2.2.2.2.2.2.2.2.2.2.2.2.2.2.2.2.1 r.2.2.2.2.2.2.2.2.2.2.2.2.2.2.2.2.2.2.2.2.2.2.2.2.2.1 r.2.2.2.2.2.2.2.2.2.2.2.2.2.2.2.2.2.2.2.2.2.2.2.2.2.2.2.2.2.2.2.2.1 r.2.2.2.2.2.2.2.2.2.2.2.2.2.2.2.2.2.2.2.2.2.2.2.2.2.2.2.2.2.2.2.2.2.1 r.2.2.2.2.2.2.2.2.2.2.2.2.2.2.2.2.2.2.2.2.2.2.2.2.2.2.2.2.2.2.2.2.2.2.1 r.2.2.2.2.2.2.2.2.2.2.2.2.2.2.2.2.2.2.2.2.2.2.2.2.2.2.2.2.2.2.2.2.2.2.2.1 r.2.2.2.2.2.2.2.2.2.2.2.2.2.2.2.2.2.2.2.2.2.2.2.2.2.2.2.2.2.2.2.2.2.2.2.2.1 r.2.2.2.2.2.2.2.2.2.2.2.2.2.2.2.2.2.2.2.2.2.2.2.2.2.2.2.2.2.2.2.2.2.2.2.2.2.1 r.2.2.2.2.2.2.2.2.2.2.2.2.2.2.2.2.2.2.2.2.2.2.2.2.2.2.2.2.2.2.2.2.2.2.2.2.2.2.2.1 r.2.2.2.2.2.2.2.2.2.2.2.2.2.2.2.2.2.2.2.2.2.2.2.2.2.2.2.2.2.2.2.2.2.2.2.2.2.2.2.2) := by
  have hN' := hN
  obtain ⟨hz, hpw, hk0, hk, hkd, hp, hpk, hs, hs4, hw, hse, hg, hsr, hsu, hho⟩ := hN'
  have hwid : 1 ≤ wid ∧ wid < per ∧ per ≤ 1000000 := ⟨by omega, by omega, by omega⟩
  unfold f_T_analyse
  refine ok_ob2 (s_onCycle (by omega) hz hk hp (fun i => by have := hs i; omega)) (fun r9 O1 hr => ?_)
  obtain ⟨hc, hO⟩ := hr
  simp only at hc hO
  have hcr : -2147483648 ≤ r9 ∧ r9 < 48 := by rcases hc with ⟨q, -⟩ | ⟨q, -⟩ <;> omega
  refine ok_gr ⟨by omega, by omega⟩ (ok_if (fun h => ?_) (fun h => ?_))
  · rw [h] at hc
    have hac : ∀ n, ¬ wl (Eg kd pn so) size.toNat n n := by
      intro n q
      have := wl_in (Eg_in (pn := pn) (so := so) hkd) _ _ _ q
      rcases hc with ⟨-, q2⟩ | ⟨q2, -⟩
      · exact q2 n (by omega) (by omega) q
      · omega
    refine ok_ob2 (s_Csort (se := se) (by omega) hz hk hkd hp hac hO) (fun G2 ocn2 hr => ?_)
    obtain ⟨hcn, hfu⟩ := hr
    simp only at hcn hfu
    have hfu' : full kd pn so se (lst G2 ocn2) := hfu
    refine ok_ob18 (s_find (wid := wid) hF hz hk hkd hk0 hs hse hw hg hp hcn hfu') (fun f1 f2 f3 f4 f5 f6 f7 f8 f9 f10 f11 f12 f13 f14 f15 f16 f17 f18 hr => ?_)
    simp only at hr
    rcases hr with ⟨q1, q2⟩ | ⟨⟨q1, q2⟩, hCF⟩
    · refine ok_gr ⟨by omega, by omega⟩ (ok_if (fun _ => ?_) (fun z => by omega))
      exact ok_some.mpr (Or.inr (Or.inl ⟨hc, q2, rfl, rfl⟩))
    · refine ok_gr ⟨by omega, by omega⟩ (ok_if (fun z => by omega) (fun _ => ?_))
      obtain ⟨Wd, Ch, Of, hT, hinj, hCO⟩ := CF_of hN hfu' hCF
      refine ok_ob6 (s_arrivals hF hz ⟨by omega, by omega⟩ hk hkd hk0 hs hse hw hg hsr hp hcn hfu' (fun n a b => ⟨_, hCO n a b⟩)) (fun z1 z2 z3 v1 v2 v3 hV => ?_)
      simp only at hV
      refine ok_ob12 (s_slacks hF hz hwid hk hkd hk0 hs hse hw hg hsr hsu hho hp hcn hfu' hT hinj (fun n a b => ⟨_, hCO n a b⟩)) (fun l1 l2 l3 l4 l5 l6 l7 l8 l9 l10 l11 l12 hL => ?_)
      simp only at hL
      have hLb := LSi_b hN hfu' hL
      unfold f_WorstPaths_forget
      rw [ob1_s, e_countEnds hF hz (fun m a b => (hLb.1 m a b).1), ob1_s]
      exact ok_some.mpr (Or.inr (Or.inr ⟨hc, q2, rfl, rfl, hcn, hfu', hCF, hV, hL, rfl⟩))
  · refine ok_some.mpr (Or.inl ⟨⟨r9, ?_, hc⟩, rfl, rfl⟩)
    rcases hc with ⟨q, -⟩ | ⟨q, -⟩
    · exact absurd q h
    · exact q
end TAN
