/-! the reference at an end, from one start: all of it -/
section FAT
variable {F : Nat} {kd pn so se wE wL gE gL fo sc : Int → Int} {size wid per : Int} {wc wb we wl wla wsz wr wsp : Int → Int} {LL : Int → List (Int × List Int)}
/-- what the reference has of one start: its way, its values at all states -/
def MS (kd pn so se wE wL gE gL fo sc : Int → Int) (size wid per : Int) (wc wb we wl wla wsz wr wsp : Int → Int) (LL : Int → List (Int × List Int)) (n p B : Int) (o : Option (Int × List Int)) (W : Int → List (Int × Int)) : Prop :=
  (1 ≤ wid ∧ wid < per ∧ per ≤ 1000000) ∧ isQ wE wL gE gL wid wc wb we wl wla wsz wr wsp LL n p o ∧ (-2147483648 ≤ p ∧ p < 384) ∧ B = wbs wid o ∧ (∀ s v, v ∈ W s → (-20000000 ≤ v.1 ∧ v.1 ≤ 20000000) ∧ -20000000 ≤ v.2 ∧ v.2 ≤ 20000000) ∧ (∀ m, ∀ o' ∈ wys kd pn so se m, (0 ≤ crd (dE wE gE) (dE wL gL) wE wL n o m o' ∧ crd (dE wE gE) (dE wL gL) wE wL n o m o' ≤ 970000) ∧ (0 ≤ wdl wE gE m o' ∧ wdl wE gE m o' ≤ 970000) ∧ (0 ≤ wdl wL gL m o' ∧ wdl wL gL m o' ≤ 970000)) ∧ (∀ i, -1000000 ≤ fo i ∧ fo i ≤ 1000000 ∧ -1000000 ≤ sc i ∧ sc i ≤ 1000000) ∧ (∀ i, 0 ≤ wE i ∧ wE i ≤ wL i ∧ wL i ≤ 10000) ∧ ∀ m, 0 ≤ m → m < size → (kd m = 4 ∨ kd m = 3) → endW kd pn so se wE wL gE gL wid wc wb we wl wla wsz wr wsp LL m
def WA (so : Int → Int) (W : Int → List (Int × Int)) (m c : Int) : List (Int × Int) := if so (3 * m) < 0 then [] else W (2 * so (3 * m) + c)
/-- the start's arrivals at an end -/
def UE (so wE wL : Int → Int) (W : Int → List (Int × Int)) (m c : Int) (u : Int × Int) : Prop := ∃ v ∈ WA so W m c, u = (v.1 + wE (3 * m), v.2 + wL (3 * m))
/-- the start's slacks at an end -/
def XQ (kd pn so se : Int → Int) (Q : Int → Int → Option (Int × List Int) → Int → Prop) (k m x : Int) : Prop := ∃ c, (c = 0 ∨ c = 1) ∧ c < k ∧ ∃ o' ∈ wys kd pn so se m, Q m c o' x
def Y0 (so wE wL gE gL fo : Int → Int) (per wid : Int) (W : Int → List (Int × Int)) (n : Int) (o : Option (Int × List Int)) (K : Option (Int × List Int) → Prop) (m c : Int) (o' : Option (Int × List Int)) (x : Int) : Prop := K o' ∧ Q0 wE wL gE gL fo per wid (WA so W m c) n o m c o' x
def Y1 (so wE wL gE gL sc : Int → Int) (per wid : Int) (W : Int → List (Int × Int)) (n : Int) (o : Option (Int × List Int)) (m c : Int) (o' : Option (Int × List Int)) (x : Int) : Prop := Q1 wE wL gE gL sc per wid (WA so W m c) n o m c o' x
theorem XQ_s {Q : Int → Int → Option (Int × List Int) → Int → Prop} {c m x : Int} (hc : c = 0 ∨ c = 1) : XQ kd pn so se Q (c + 1) m x ↔ XQ kd pn so se Q c m x ∨ ∃ o' ∈ wys kd pn so se m, Q m c o' x := by
  constructor
  · rintro ⟨c', h1, h2, h3⟩
    by_cases e : c' = c
    · subst e; exact Or.inr h3
    · exact Or.inl ⟨c', h1, by omega, h3⟩
  · rintro (⟨c', h1, h2, h3⟩ | h)
    · exact ⟨c', h1, by omega, h3⟩
    · exact ⟨c, hc, by omega, h⟩
theorem SL4_cg {m : Int} {A B : Int → Int} {w o w' o' : Int} {X0 X1 Xm Xf Y0 Y1 Ym Yf : Int → Prop} (h : SL4 m A w o X0 X1 Xm Xf B w' o') (e0 : ∀ x, X0 x ↔ Y0 x) (e1 : ∀ x, X1 x ↔ Y1 x) (e2 : ∀ x, Xm x ↔ Ym x) (e3 : ∀ x, Xf x ↔ Yf x) : SL4 m A w o Y0 Y1 Ym Yf B w' o' := by
  obtain ⟨a1, a3, a4, a5, a6⟩ := h
  exact ⟨a1, fun P q => mnN_cg (fun x => or_congr Iff.rfl (e0 x)) (a3 P q), fun P q => mnN_cg (fun x => or_congr Iff.rfl (e1 x)) (a4 P q), fun P q => mnN_cg (fun x => or_congr Iff.rfl (e2 x)) (a5 P q), fun P q => mnN_cg (fun x => or_congr Iff.rfl (e3 x)) (a6 P q)⟩
theorem s_finishAt {n p B m ww wo b0 : Int} {o : Option (Int × List Int)} {W : Int → List (Int × Int)} {fr T E L A B1 S : Int → Int} (hF : 200 ≤ F) (hz : 1 ≤ size ∧ size ≤ 48) (hMS : MS kd pn so se wE wL gE gL fo sc size wid per wc wb we wl wla wsz wr wsp LL n p B o W) (hR : RV 1 W T E L) (hm : 0 ≤ m ∧ m < size) (hkm : kd m = 4 ∨ kd m = 3) (hs : -1 ≤ so (3 * m) ∧ so (3 * m) < size) (hfr : (so (3 * m) = -1 ∧ fr (3 * m) = -2147483648) ∨ (0 ≤ so (3 * m) ∧ fr (3 * m) = so (3 * m))) (hb0 : b0 = if B = 0 then 0 else 1)
    (rA : ∀ i, 0 ≤ i → i < 192 → (-2147483648 ≤ A i ∧ A i ≤ 2147483647) ∧ -2147483648 ≤ B1 i ∧ B1 i ≤ 2147483647) (rS : (∀ i, 0 ≤ i → i < 96 → -2147483648 ≤ S i ∧ S i ≤ 2147483647) ∧ (-2147483648 ≤ ww ∧ ww ≤ 2147483647) ∧ (-2147483648 ≤ wo ∧ wo ≤ 2147483647)) :
    ok (f_M_finishAt F per p B ww wo kd fr wE wL fo sc wc wb we wl wla wsz wr wsp T E L A B1 S m) (fun r => AT m b0 2 (UE so wE wL W m) A B1 r.1 r.2.1 ∧ SL4 m S ww wo (XQ kd pn so se (Y0 so wE wL gE gL fo per wid W n o (fun _ => True)) 2 m) (XQ kd pn so se (Y1 so wE wL gE gL sc per wid W n o) 2 m) (XQ kd pn so se (Y0 so wE wL gE gL fo per wid W n o (fun o' => wbs wid o' ≤ wbs wid o)) 2 m) (XQ kd pn so se (Y0 so wE wL gE gL fo per wid W n o (fun o' => ¬ wbs wid o' ≤ wbs wid o)) 2 m) r.2.2.1 r.2.2.2.1 r.2.2.2.2) := by
  obtain ⟨hwid, hq, hp2, hB, hW, hcr, hrf, hrw, hE⟩ := hMS
  have hEm := hE m hm.1 hm.2 hkm
  have hb01 : b0 = 0 ∨ b0 = 1 := by rw [hb0]; by_cases q : B = 0
                                    · rw [if_pos q]; exact Or.inl rfl
                                    · rw [if_neg q]; exact Or.inr rfl
  have hBr := wbs_b hwid.1 o
  -- nothing comes: nothing changes
  have hX0 : ∀ {c x : Int} {K : Option (Int × List Int) → Prop}, WA so W m c = [] → ¬ ∃ o' ∈ wys kd pn so se m, Y0 so wE wL gE gL fo per wid W n o K m c o' x := by
    rintro c x K he ⟨o', -, -, v, q, -⟩
    rw [he] at q; cases q
  have hX1 : ∀ {c x : Int}, WA so W m c = [] → ¬ ∃ o' ∈ wys kd pn so se m, Y1 so wE wL gE gL sc per wid W n o m c o' x := by
    rintro c x he ⟨o', -, v, q, -⟩
    rw [he] at q; cases q
  unfold f_M_finishAt
  refine ok_gi ⟨by omega, by omega⟩ (ok_bd.mpr ?_)
  refine lq6_ok (fun (c : Int) A1 B2 S1 w1 o1 => (0 ≤ c ∧ c ≤ 2) ∧ AT m b0 c (UE so wE wL W m) A B1 A1 B2 ∧ SL4 m S ww wo (XQ kd pn so se (Y0 so wE wL gE gL fo per wid W n o (fun _ => True)) c m) (XQ kd pn so se (Y1 so wE wL gE gL sc per wid W n o) c m) (XQ kd pn so se (Y0 so wE wL gE gL fo per wid W n o (fun o' => wbs wid o' ≤ wbs wid o)) c m) (XQ kd pn so se (Y0 so wE wL gE gL fo per wid W n o (fun o' => ¬ wbs wid o' ≤ wbs wid o)) c m) S1 w1 o1) (fun c _ _ _ _ _ => (2 - c).toNat) _ ?_ F 0 A B1 S ww wo ⟨by omega, AT_0 rA, SL4_0 rS (fun x ⟨c, q1, q2, _⟩ => by omega) (fun x ⟨c, q1, q2, _⟩ => by omega) (fun x ⟨c, q1, q2, _⟩ => by omega) (fun x ⟨c, q1, q2, _⟩ => by omega)⟩ (by show (2 - (0 : Int)).toNat < F; omega)
  rintro self c A1 B2 S1 w1 o1 ⟨hc, hA, hS⟩ hs1
  have hempty : ∀ k, (k = 0 ∨ k = 1) → WA so W m k = [] → AT m b0 k (UE so wE wL W m) A B1 A1 B2 → SL4 m S ww wo (XQ kd pn so se (Y0 so wE wL gE gL fo per wid W n o (fun _ => True)) k m) (XQ kd pn so se (Y1 so wE wL gE gL sc per wid W n o) k m) (XQ kd pn so se (Y0 so wE wL gE gL fo per wid W n o (fun o' => wbs wid o' ≤ wbs wid o)) k m) (XQ kd pn so se (Y0 so wE wL gE gL fo per wid W n o (fun o' => ¬ wbs wid o' ≤ wbs wid o)) k m) S1 w1 o1 → AT m b0 (k + 1) (UE so wE wL W m) A B1 A1 B2 ∧ SL4 m S ww wo (XQ kd pn so se (Y0 so wE wL gE gL fo per wid W n o (fun _ => True)) (k + 1) m) (XQ kd pn so se (Y1 so wE wL gE gL sc per wid W n o) (k + 1) m) (XQ kd pn so se (Y0 so wE wL gE gL fo per wid W n o (fun o' => wbs wid o' ≤ wbs wid o)) (k + 1) m) (XQ kd pn so se (Y0 so wE wL gE gL fo per wid W n o (fun o' => ¬ wbs wid o' ≤ wbs wid o)) (k + 1) m) S1 w1 o1 := by
    intro k hk he gA gS
    refine ⟨AT_e gA (fun u ⟨v, q, _⟩ => by rw [he] at q; cases q), SL4_cg gS (fun x => ?_) (fun x => ?_) (fun x => ?_) (fun x => ?_)⟩
    · rw [XQ_s hk]; exact ⟨Or.inl, fun w => w.resolve_right (hX0 he)⟩
    · rw [XQ_s hk]; exact ⟨Or.inl, fun w => w.resolve_right (hX1 he)⟩
    · rw [XQ_s hk]; exact ⟨Or.inl, fun w => w.resolve_right (hX0 he)⟩
    · rw [XQ_s hk]; exact ⟨Or.inl, fun w => w.resolve_right (hX0 he)⟩
  unfold f_M_finishAt_b11
  refine ok_gr ⟨by omega, by omega⟩ (ok_if (fun h => ?_) (fun h => ?_))
  · have e2 : c = 2 := by omega
    subst e2
    exact ok_some.mpr ⟨hA, hS⟩
  · have hc01 : c = 0 ∨ c = 1 := by omega
    refine ok_gr ⟨by omega, by omega⟩ (ok_if (fun hneg => ?_) (fun hneg => ?_))
    · have hw0 : ∀ k, WA so W m k = [] := fun k => if_pos (by omega)
      refine ok_some.mpr ?_
      rcases hc01 with e | e
      · subst e
        obtain ⟨g1, g2⟩ := hempty 0 (by omega) (hw0 0) hA hS
        exact hempty (0 + 1) (by omega) (hw0 _) g1 g2
      · subst e
        exact hempty 1 (by omega) (hw0 1) hA hS
    · have hfs : fr (3 * m) = so (3 * m) := by omega
      rw [hfs]
      have hwc : WA so W m c = W (2 * so (3 * m) + c) := if_neg (by omega)
      have hag := hR (2 * so (3 * m) + c) (by omega) (by omega)
      have hTc := agg_c (by omega) hag
      have hmeas : (2 - (c + 1)).toNat < (2 - c).toNat := by omega
      refine ok_gi ⟨by omega, by omega⟩ (ok_gr ⟨by omega, by omega⟩ (ok_if (fun h0 => ?_) (fun h0 => ?_)))
      · have he : WA so W m c = [] := by rw [hwc]; exact (agg_0 (by omega) hag).mp h0
        unfold f_M_finishAt_j154
        exact hs1 _ _ _ _ _ _ ⟨by omega, hempty c hc01 he hA hS⟩ hmeas
      · have hne : W (2 * so (3 * m) + c) ≠ [] := fun q => h0 ((agg_0 (by omega) hag).mpr q)
        obtain ⟨hmin, hmax⟩ := hag.2 hne
        obtain ⟨ve, ve1, ve2⟩ := List.mem_map.mp hmin.1
        obtain ⟨vl, vl1, vl2⟩ := List.mem_map.mp hmax.1
        have b1 := hW _ ve ve1
        have b2 := hW _ vl vl1
        have b3 := hrw (3 * m)
        have hib : 4 * m + 2 * c + b0 = 4 * m + 2 * c + (if B = 0 then 0 else 1) := by rw [hb0]
        have rAi := hA.1 (4 * m + 2 * c + b0) (by omega) (by omega)
        refine ok_gi ⟨by omega, by omega⟩ (ok_gi ⟨by omega, by omega⟩ (ok_bd.mpr (ok_gi ⟨by omega, by omega⟩ (ok_gi ⟨by omega, by omega⟩ (ok_bd.mpr ?_)))))
        rw [e_arrive (i := 4 * m + 2 * c + b0) (by omega) (by omega) hib (by omega) (by omega) rAi.1 rAi.2, ob2_s]
        have hA' := AT_s (x := E (2 * so (3 * m) + c) + wE (3 * m)) (y := L (2 * so (3 * m) + c) + wL (3 * m)) hc01 hb01 hA ⟨_, ⟨ve, by rw [hwc]; exact ve1, rfl⟩, by show _ = ve.1 + _; rw [ve2]⟩ ⟨_, ⟨vl, by rw [hwc]; exact vl1, rfl⟩, by show _ = vl.2 + _; rw [vl2]⟩ (fun u ⟨v, q1, q2⟩ => by
          rw [hwc] at q1
          have k1 := hmin.2 v.1 (List.mem_map.mpr ⟨v, q1, rfl⟩)
          have k2 := hmax.2 v.2 (List.mem_map.mpr ⟨v, q1, rfl⟩)
          rw [q2]
          show _ ≤ v.1 + _ ∧ v.2 + _ ≤ _
          omega) (by omega) (by omega)
        have hrv : ∀ v ∈ W (2 * so (3 * m) + c), (-20000000 ≤ v.1 ∧ v.1 ≤ 20000000) ∧ -20000000 ≤ v.2 ∧ v.2 ≤ 20000000 := fun v q => hW _ v q
        have hfin : ∀ A' w' o'', SL4 m S1 w1 o1 (fun x => ∃ o' ∈ wys kd pn so se m, Q0 wE wL gE gL fo per wid (W (2 * so (3 * m) + c)) n o m c o' x) (fun x => ∃ o' ∈ wys kd pn so se m, Q1 wE wL gE gL sc per wid (W (2 * so (3 * m) + c)) n o m c o' x) (fun x => ∃ o' ∈ wys kd pn so se m, wbs wid o' ≤ wbs wid o ∧ Q0 wE wL gE gL fo per wid (W (2 * so (3 * m) + c)) n o m c o' x) (fun x => ∃ o' ∈ wys kd pn so se m, ¬ wbs wid o' ≤ wbs wid o ∧ Q0 wE wL gE gL fo per wid (W (2 * so (3 * m) + c)) n o m c o' x) A' w' o'' → SL4 m S ww wo (XQ kd pn so se (Y0 so wE wL gE gL fo per wid W n o (fun _ => True)) (c + 1) m) (XQ kd pn so se (Y1 so wE wL gE gL sc per wid W n o) (c + 1) m) (XQ kd pn so se (Y0 so wE wL gE gL fo per wid W n o (fun o' => wbs wid o' ≤ wbs wid o)) (c + 1) m) (XQ kd pn so se (Y0 so wE wL gE gL fo per wid W n o (fun o' => ¬ wbs wid o' ≤ wbs wid o)) (c + 1) m) A' w' o'' := by
          intro A' w' o'' hr
          refine SL4_tr hS hr (fun x => ?_) (fun x => ?_) (fun x => ?_) (fun x => ?_)
          · rw [XQ_s hc01]
            unfold Y0
            rw [hwc]
            exact or_congr Iff.rfl ⟨fun ⟨o', q1, q2⟩ => ⟨o', q1, q2.2⟩, fun ⟨o', q1, q2⟩ => ⟨o', q1, trivial, q2⟩⟩
          · rw [XQ_s hc01]
            unfold Y1
            rw [hwc]
          · rw [XQ_s hc01]
            unfold Y0
            rw [hwc]
          · rw [XQ_s hc01]
            unfold Y0
            rw [hwc]
        refine ok_gi ⟨by omega, by omega⟩ (ok_gr ⟨by omega, by omega⟩ (ok_if (fun h4 => ?_) (fun h4 => ?_)))
        · refine ok_ob3 ((s_meetAll hF hwid hq hEm hp2 hB (by omega) hc01 hmin hmax rfl rfl hrv (hcr m) hrf hrw hS.1.2.1 hS.1.2.2.1 hS.1.2.2.2).resolve_right (by omega)) (fun S2 w2 o2 hr => ?_)
          have hr4 := hfin _ _ _ (hr h4)
          obtain ⟨-, wc0, -⟩ := hEm.resolve_right (fun z => by have := z.1; omega)
          unfold f_M_finishAt_j107
          refine lq4_ok (fun (v : Int) A' w' o'' => v = 0 ∧ A' = S2 ∧ w' = w2 ∧ o'' = o2) (fun _ _ _ _ => 0) _ ?_ F 0 S2 w2 o2 ⟨rfl, rfl, rfl, rfl⟩ (by show 0 < F; omega)
          rintro self2 v A' w' o'' ⟨rfl, rfl, rfl, rfl⟩ -
          unfold f_M_finishAt_b110
          rw [wc0]
          refine ok_gi ⟨by omega, by omega⟩ (ok_gr ⟨by omega, by omega⟩ (ok_gr ⟨by omega, by omega⟩ (ok_if (fun _ => ?_) (fun z => absurd (Int.le_refl 0) z))))
          unfold f_M_finishAt_j154
          exact hs1 _ _ _ _ _ _ ⟨by omega, hA', hr4⟩ hmeas
        · refine s_meetReg hF hwid hq hEm (by omega) hp2 hB (by omega) hc01 hmin hmax rfl rfl hrv (hcr m) hrf hrw hS.1.2 (fun A' w' o'' hr => ?_)
          exact hs1 _ _ _ _ _ _ ⟨by omega, hA', hfin _ _ _ hr⟩ hmeas
end FAT
