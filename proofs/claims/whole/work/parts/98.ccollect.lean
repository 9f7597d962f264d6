/-! the class collects its timing paths -/
section CCO
variable {F : Nat} {kd pn so se wE wL gE gL sE sL su ho : Int → Int} {size per wid : Int} {sz : Int} {el pa ln ea la fi nx : Int → Int} {Wd : Int → Int × List Int} {Ch : Int → List Int} {cn l ba e f : Int → Int} {Of : Int → List (Option (Int × List Int))}
/-- one start's timing paths to one end by one change -/
def Ec0 (kd pn so se wE wL gE gL sL su : Int → Int) (per wid : Int) (Of : Int → List (Option (Int × List Int))) (n m c : Int) : List (Int × List Int) := (DW kd pn so se n (2 * so (3 * m) + c)).flatMap (Z0 wE wL gE gL sL su per wid n m c (Of n) (Of m) (wL (3 * m)) [])
def Ec1 (kd pn so se wE wL gE gL sE ho : Int → Int) (per wid : Int) (Of : Int → List (Option (Int × List Int))) (n m c : Int) : List (Int × List Int) := (DW kd pn so se n (2 * so (3 * m) + c)).flatMap (Z1 wE wL gE gL sE ho per wid n m c (Of n) (Of m) (wE (3 * m)) [])
def Em0 (kd pn so se wE wL gE gL sL su : Int → Int) (per wid : Int) (Of : Int → List (Option (Int × List Int))) (n m : Int) : List (Int × List Int) := if (kd m = 4 ∨ kd m = 3) ∧ 0 ≤ so (3 * m) then Ec0 kd pn so se wE wL gE gL sL su per wid Of n m 0 ++ Ec0 kd pn so se wE wL gE gL sL su per wid Of n m 1 else []
def Em1 (kd pn so se wE wL gE gL sE ho : Int → Int) (per wid : Int) (Of : Int → List (Option (Int × List Int))) (n m : Int) : List (Int × List Int) := if (kd m = 4 ∨ kd m = 3) ∧ 0 ≤ so (3 * m) then Ec1 kd pn so se wE wL gE gL sE ho per wid Of n m 0 ++ Ec1 kd pn so se wE wL gE gL sE ho per wid Of n m 1 else []
theorem C0_m {n : Int} : C0 kd pn so se wE wL gE gL sL su size per wid Of n = (pinl size).flatMap (Em0 kd pn so se wE wL gE gL sL su per wid Of n) := by
  unfold C0 enL
  rw [List.flatMap_assoc]
  refine flatMap_cg (fun m _ => ?_)
  unfold Em0
  by_cases q : (kd m = 4 ∨ kd m = 3) ∧ 0 ≤ so (3 * m)
  · rw [if_pos q, if_pos q, List.flatMap_cons, List.flatMap_cons, List.flatMap_nil, List.append_nil]
    rfl
  · rw [if_neg q, if_neg q]; rfl
theorem C1_m {n : Int} : C1 kd pn so se wE wL gE gL sE ho size per wid Of n = (pinl size).flatMap (Em1 kd pn so se wE wL gE gL sE ho per wid Of n) := by
  unfold C1 enL
  rw [List.flatMap_assoc]
  refine flatMap_cg (fun m _ => ?_)
  unfold Em1
  by_cases q : (kd m = 4 ∨ kd m = 3) ∧ 0 ≤ so (3 * m)
  · rw [if_pos q, if_pos q, List.flatMap_cons, List.flatMap_cons, List.flatMap_nil, List.append_nil]
    rfl
  · rw [if_neg q, if_neg q]; rfl
theorem Z0_nil {n m c L : Int} {T : List Int} {xw : Int × List Int} {Os Os' : List (Option (Int × List Int))} (h : Os = [] ∨ Os' = []) : Z0 wE wL gE gL sL su per wid n m c Os Os' L T xw = [] := by
  unfold Z0
  rcases h with h | h
  · rw [h]; rfl
  · rw [h]; exact List.flatMap_eq_nil_iff.mpr (fun _ _ => rfl)
theorem Z1_nil {n m c E : Int} {T : List Int} {xw : Int × List Int} {Os Os' : List (Option (Int × List Int))} (h : Os = [] ∨ Os' = []) : Z1 wE wL gE gL sE ho per wid n m c Os Os' E T xw = [] := by
  unfold Z1
  rcases h with h | h
  · rw [h]; rfl
  · rw [h]; exact List.flatMap_eq_nil_iff.mpr (fun _ _ => rfl)
theorem Em_nil {n m : Int} (h : Of n = [] ∨ Of m = []) : Em0 kd pn so se wE wL gE gL sL su per wid Of n m = [] ∧ Em1 kd pn so se wE wL gE gL sE ho per wid Of n m = [] := by
  have a : ∀ c, Ec0 kd pn so se wE wL gE gL sL su per wid Of n m c = [] := fun c => List.flatMap_eq_nil_iff.mpr (fun xw _ => Z0_nil h)
  have b : ∀ c, Ec1 kd pn so se wE wL gE gL sE ho per wid Of n m c = [] := fun c => List.flatMap_eq_nil_iff.mpr (fun xw _ => Z1_nil h)
  unfold Em0 Em1
  rw [a, a, b, b]
  by_cases q : (kd m = 4 ∨ kd m = 3) ∧ 0 ≤ so (3 * m)
  · rw [if_pos q]; exact ⟨rfl, rfl⟩
  · rw [if_neg q]; exact ⟨rfl, rfl⟩
theorem fold_3 (a b c : List (Int × List Int)) : (a ++ (b ++ c)).foldl top20 [] = c.foldl top20 ((a ++ b).foldl top20 []) := by rw [← List.append_assoc, List.foldl_append]
theorem e_reaches {Sc : Int → Int} {x : Int} (hx : 0 ≤ x ∧ x < 48) (h : ∀ s, 0 ≤ s → s < 96 → 0 ≤ Sc s ∧ Sc s ≤ 4001) : f_Spread_reaches F Sc x = some (bz (0 < Sc (2 * x) ∨ 0 < Sc (2 * x + 1))) := by
  have r1 := h (2 * x) (by omega) (by omega)
  have r2 := h (2 * x + 1) (by omega) (by omega)
  apply ok_eq
  unfold f_Spread_reaches f_Spread_reaches_j24
  refine ok_gi ⟨by omega, by omega⟩ (ok_gr ⟨by omega, by omega⟩ (ok_if (fun c => ok_gb (by omega) (ok_some.mpr ?_)) (fun c => ok_gi ⟨by omega, by omega⟩ (ok_gr ⟨by omega, by omega⟩ (ok_if (fun c2 => ok_gb (by omega) (ok_some.mpr ?_)) (fun c2 => ok_gb (by omega) (ok_some.mpr ?_)))))))
  · unfold bz; rw [if_pos (Or.inl c)]
  · unfold bz; rw [if_neg (by omega)]
  · unfold bz; rw [if_pos (Or.inr (by omega))]
theorem s_collectTo {Sc S H tr row : Int → Int} {n m pe pc lm lf lh : Int} {os : List Int} {y1 b1 : Int} {y2 y3 y4 y5 b2 b3 b4 b5 : Int → Int} {P0 P1 : List (Int × List Int)} (hF : 200 ≤ F) (hN : InvN size per wid kd pn so wE wL se gE gL sE sL su ho) (hfu : full kd pn so se os) (hT : TR (dE wE gE) (dE wL gL) sz el pa ln ea la fi nx Wd Ch) (hinj : ∀ t u, 0 ≤ t → t < sz → 0 ≤ u → u < sz → Wd t = Wd u → t = u) (hCO : ∀ n, 0 ≤ n → n < size → CO kd pn so se wE wL gE gL wid sz Wd cn l ba e f n (Of n)) (hn : 0 ≤ n ∧ n < size) (hkn : kd n = 1 ∨ kd n = 3) (hm : 0 ≤ m ∧ m < size)
    (hSc : ∀ s, 0 ≤ s → s < 96 → (0 ≤ Sc s ∧ Sc s ≤ 4001) ∧ (Sc s ≤ 0 ↔ DW kd pn so se n s = [])) (hx0 : ∀ x ∈ Em0 kd pn so se wE wL gE gL sL su per wid Of n m, PE x) (hx1 : ∀ x ∈ Em1 kd pn so se wE wL gE gL sE ho per wid Of n m, PE x) (hP : CL2 y1 y2 y3 y4 y5 b1 b2 b3 b4 b5 P0 P1) :
    ok (f_WorstPaths_collectTo F n pe pc tr row lm lf lh S H el pa ln ea la cn l ba e f Sc per size kd pn so wE wL se gE gL sE sL su ho y1 y2 y3 y4 y5 b1 b2 b3 b4 b5 m) (fun r => CL2 r.2.2.2.2.2.2.2.2.2.1 r.2.2.2.2.2.2.2.2.2.2.1 r.2.2.2.2.2.2.2.2.2.2.2.1 r.2.2.2.2.2.2.2.2.2.2.2.2.1 r.2.2.2.2.2.2.2.2.2.2.2.2.2.1 r.2.2.2.2.2.2.2.2.2.2.2.2.2.2.1 r.2.2.2.2.2.2.2.2.2.2.2.2.2.2.2.1 r.2.2.2.2.2.2.2.2.2.2.2.2.2.2.2.2.1 r.2.2.2.2.2.2.2.2.2.2.2.2.2.2.2.2.2.1 r.2.2.2.2.2.2.2.2.2.2.2.2.2.2.2.2.2.2 ((Em0 kd pn so se wE wL gE gL sL su per wid Of n m).foldl top20 P0) ((Em1 kd pn so se wE wL gE gL sE ho per wid Of n m).foldl top20 P1)) := by
  have hN' := hN
  obtain ⟨hz, hpw, hk0, hk, hkd, hp, hpk, hs, hs4, hw, hse, hg, hsr, hsu, hho⟩ := hN'
  obtain ⟨rk, hrk, hrk2⟩ := full_rk hz.2 hkd hfu
  obtain ⟨o1, o2, o3, o4⟩ := hCO m hm.1 hm.2
  have hsm := hs (3 * m)
  unfold f_WorstPaths_collectTo
  refine ok_bd.mpr ?_
  rw [e_ends hz hk hs hm (by omega), ob1_s, show m * 3 + 0 = 3 * m by omega]
  have z1 := bz_1 ((kd m = 4 ∨ kd m = 3) ∧ 0 < cn m ∧ 0 ≤ so (3 * m))
  have z2 := bz_01 ((kd m = 4 ∨ kd m = 3) ∧ 0 < cn m ∧ 0 ≤ so (3 * m))
  refine ok_gr ⟨by omega, by omega⟩ (ok_if (fun q => ?_) (fun q => ?_))
  · -- no end
    have hem : Em0 kd pn so se wE wL gE gL sL su per wid Of n m = [] ∧ Em1 kd pn so se wE wL gE gL sE ho per wid Of n m = [] := by
      by_cases h : (kd m = 4 ∨ kd m = 3) ∧ 0 ≤ so (3 * m)
      · by_cases h2 : 0 < cn m
        · have := z1.mpr ⟨h.1, h2, h.2⟩; omega
        · exact Em_nil (Or.inr (List.length_eq_zero_iff.mp (by omega)))
      · unfold Em0 Em1
        rw [if_neg h, if_neg h]
        exact ⟨rfl, rfl⟩
    rw [hem.1, hem.2]
    exact ok_some.mpr hP
  · obtain ⟨h1, h2, h3⟩ := z1.mp (by omega)
    have eE0 : Em0 kd pn so se wE wL gE gL sL su per wid Of n m = Ec0 kd pn so se wE wL gE gL sL su per wid Of n m 0 ++ Ec0 kd pn so se wE wL gE gL sL su per wid Of n m 1 := by unfold Em0; rw [if_pos ⟨h1, h3⟩]
    have eE1 : Em1 kd pn so se wE wL gE gL sE ho per wid Of n m = Ec1 kd pn so se wE wL gE gL sE ho per wid Of n m 0 ++ Ec1 kd pn so se wE wL gE gL sE ho per wid Of n m 1 := by unfold Em1; rw [if_pos ⟨h1, h3⟩]
    have hnil : ∀ c, (c = 0 ∨ c = 1) → Sc (2 * so (3 * m) + c) ≤ 0 → Ec0 kd pn so se wE wL gE gL sL su per wid Of n m c = [] ∧ Ec1 kd pn so se wE wL gE gL sE ho per wid Of n m c = [] := by
      intro c hc hle
      have := ((hSc (2 * so (3 * m) + c) (by omega) (by omega)).2).mp hle
      unfold Ec0 Ec1
      rw [this]
      exact ⟨rfl, rfl⟩
    refine ok_gi ⟨by omega, by omega⟩ ?_
    rw [e_reaches (by omega) (fun s a b => (hSc s a b).1), ob1_s]
    have z3 := bz_1 (0 < Sc (2 * so (3 * m)) ∨ 0 < Sc (2 * so (3 * m) + 1))
    have z4 := bz_01 (0 < Sc (2 * so (3 * m)) ∨ 0 < Sc (2 * so (3 * m) + 1))
    refine ok_gr ⟨by omega, by omega⟩ (ok_if (fun q2 => ?_) (fun q2 => ?_))
    · have hno : ¬ (0 < Sc (2 * so (3 * m)) ∨ 0 < Sc (2 * so (3 * m) + 1)) := fun z => by have := z3.mpr z; omega
      have a0 := hnil 0 (Or.inl rfl) (by rw [Int.add_zero]; omega)
      have a1 := hnil 1 (Or.inr rfl) (by omega)
      rw [eE0, eE1, a0.1, a0.2, a1.1, a1.2]
      exact ok_some.mpr hP
    · refine ok_ob5 (s_measure hF hz.2 ⟨by omega, by omega, by omega⟩ hkd hk0 hw hg hfu hT hinj (by omega) (by omega) (hCO n hn.1 hn.2) (hCO m hm.1 hm.2)) (fun S2 H2 lm2 lf2 lh2 hR => ?_)
      simp only at hR
      rw [eE0, eE1]
      rw [eE0] at hx0
      rw [eE1] at hx1
      have hpx0 : ∀ c, (c = 0 ∨ c = 1) → ∀ x ∈ Ec0 kd pn so se wE wL gE gL sL su per wid Of n m c, PE x := by
        intro c hc x hx
        rcases hc with rfl | rfl
        · exact hx0 x (List.mem_append.mpr (Or.inl hx))
        · exact hx0 x (List.mem_append.mpr (Or.inr hx))
      have hpx1 : ∀ c, (c = 0 ∨ c = 1) → ∀ x ∈ Ec1 kd pn so se wE wL gE gL sE ho per wid Of n m c, PE x := by
        intro c hc x hx
        rcases hc with rfl | rfl
        · exact hx1 x (List.mem_append.mpr (Or.inl hx))
        · exact hx1 x (List.mem_append.mpr (Or.inr hx))
      refine lq14_ok (fun (v : Int) _ _ _ y1 y2 y3 y4 y5 b1 b2 b3 b4 b5 => (0 ≤ v ∧ v ≤ 2) ∧ CL2 y1 y2 y3 y4 y5 b1 b2 b3 b4 b5 (((pinl v).flatMap (Ec0 kd pn so se wE wL gE gL sL su per wid Of n m)).foldl top20 P0) (((pinl v).flatMap (Ec1 kd pn so se wE wL gE gL sE ho per wid Of n m)).foldl top20 P1)) (fun v _ _ _ _ _ _ _ _ _ _ _ _ _ => (2 - v).toNat) _ ?_ F 0 tr row pc y1 y2 y3 y4 y5 b1 b2 b3 b4 b5 ⟨by omega, hP⟩ (by show (2 - (0 : Int)).toNat < F; omega)
      clear hP
      clear tr row pc y1 y2 y3 y4 y5 b1 b2 b3 b4 b5
      rintro self v tr row pc y1 y2 y3 y4 y5 b1 b2 b3 b4 b5 ⟨hv, hP⟩ hself
      unfold f_WorstPaths_collectTo_b59
      refine ok_gr ⟨by omega, by omega⟩ (ok_if (fun q3 => ?_) (fun q3 => ?_))
      · have ev : v = 2 := by omega
        have e2 : pinl 2 = [0, 1] := rfl
        rw [ev, e2, List.flatMap_cons, List.flatMap_cons, List.flatMap_nil, List.append_nil, List.flatMap_cons, List.flatMap_cons, List.flatMap_nil, List.append_nil] at hP
        exact ok_some.mpr hP
      · have hv1 : v = 0 ∨ v = 1 := by omega
        have hb := (hSc (2 * so (3 * m) + v) (by omega) (by omega))
        have hnext : ∀ (Q : Int → List (Int × List Int)) (P : List (Int × List Int)), ((pinl (v + 1)).flatMap Q).foldl top20 P = (Q v).foldl top20 (((pinl v).flatMap Q).foldl top20 P) := by
          intro Q P
          rw [pinl_succ hv.1, List.flatMap_append, List.foldl_append, List.flatMap_cons, List.flatMap_nil, List.append_nil]
        refine ok_gi ⟨by omega, by omega⟩ (ok_bd.mpr (ok_gi ⟨by omega, by omega⟩ (ok_gr ⟨by omega, by omega⟩ (ok_if (fun q4 => ?_) (fun q4 => ?_)))))
        · have a0 := hnil v hv1 q4
          unfold f_WorstPaths_collectTo_j122
          refine hself _ _ _ _ _ _ _ _ _ _ _ _ _ _ ⟨by omega, ?_⟩ (by show (2 - (v + 1)).toNat < (2 - v).toNat; omega)
          rw [hnext, hnext, a0.1, a0.2]
          exact hP
        · have hp0 := hpx0 v hv1
          have hp1 := hpx1 v hv1
          refine ok_gi ⟨by omega, by omega⟩ (ok_gi ⟨by omega, by omega⟩ ?_)
          have hl0 : lst tr ((0 : Nat) : Int) = [] := rfl
          refine ok_ob12 (P := fun r => CL2 r.2.2.1 r.2.2.2.1 r.2.2.2.2.1 r.2.2.2.2.2.1 r.2.2.2.2.2.2.1 r.2.2.2.2.2.2.2.1 r.2.2.2.2.2.2.2.2.1 r.2.2.2.2.2.2.2.2.2.1 r.2.2.2.2.2.2.2.2.2.2.1 r.2.2.2.2.2.2.2.2.2.2.2 ((Ec0 kd pn so se wE wL gE gL sL su per wid Of n m v).foldl top20 (((pinl v).flatMap (Ec0 kd pn so se wE wL gE gL sL su per wid Of n m)).foldl top20 P0)) ((Ec1 kd pn so se wE wL gE gL sE ho per wid Of n m v).foldl top20 (((pinl v).flatMap (Ec1 kd pn so se wE wL gE gL sE ho per wid Of n m)).foldl top20 P1))) ?_ (fun x1 x2 x3 x4 x5 x6 x7 x8 x9 x10 x11 x12 hr => ?_)
          · unfold f_WorstPaths_goBack
            refine ok_imp (s_goBack (s0 := 2 * so (3 * m) + v) hF hN hfu hrk hrk2 hT hn hm hv1 hkn (hCO n hn.1 hn.2) (hCO m hm.1 hm.2) hR hSc 49 (2 * so (3 * m) + v) 0 (wE (3 * m)) (wL (3 * m)) tr row y1 y2 y3 y4 y5 b1 b2 b3 b4 b5 _ _ (hrk2 _) (by omega) (by omega) (by rw [hl0]; rfl) (fun z => by have := hb.2.mpr z; omega) (fun xw hxw x hx => hp0 x (List.mem_flatMap.mpr ⟨xw, hxw, hx⟩)) (fun xw hxw x hx => hp1 x (List.mem_flatMap.mpr ⟨xw, hxw, hx⟩)) hP) (fun r hr => hr.2)
          · simp only at hr
            unfold f_WorstPaths_collectTo_j122
            refine hself _ _ _ _ _ _ _ _ _ _ _ _ _ _ ⟨by omega, ?_⟩ (by show (2 - (v + 1)).toNat < (2 - v).toNat; omega)
            rw [hnext, hnext]
            exact hr
theorem s_collect {G Sc Se Sl S H tr row : Int → Int} {ocn ps pe pc pi lm lf lh : Int} {y1 b1 : Int} {y2 y3 y4 y5 b2 b3 b4 b5 : Int → Int} (hF : 200 ≤ F) (hN : InvN size per wid kd pn so wE wL se gE gL sE sL su ho) (hcn : 0 ≤ ocn ∧ ocn ≤ 48) (hfu : full kd pn so se (lst G ocn)) (hT : TR (dE wE gE) (dE wL gL) sz el pa ln ea la fi nx Wd Ch) (hinj : ∀ t u, 0 ≤ t → t < sz → 0 ≤ u → u < sz → Wd t = Wd u → t = u) (hCO : ∀ n, 0 ≤ n → n < size → CO kd pn so se wE wL gE gL wid sz Wd cn l ba e f n (Of n)) (hx0 : ∀ x ∈ CT0 kd pn so se wE wL gE gL sL su size per wid Of size, PE x) (hx1 : ∀ x ∈ CT1 kd pn so se wE wL gE gL sE ho size per wid Of size, PE x) (hpi : pi = 0) :
    ok (f_WorstPaths_collect F ps pe pc pi tr row lm lf lh S H el pa ln ea la cn l ba e f Sc Se Sl ocn G per size kd pn so wE wL se gE gL sE sL su ho y1 y2 y3 y4 y5 b1 b2 b3 b4 b5) (fun r => r.2.2.2.2.2.1 = 1 ∧ CL2 r.2.2.2.2.2.2.2.2.2.2.2.2.2.2.1 r.2.2.2.2.2.2.2.2.2.2.2.2.2.2.2.1 r.2.2.2.2.2.2.2.2.2.2.2.2.2.2.2.2.1 r.2.2.2.2.2.2.2.2.2.2.2.2.2.2.2.2.2.1 r.2.2.2.2.2.2.2.2.2.2.2.2.2.2.2.2.2.2.1 r.2.2.2.2.2.2.2.2.2.2.2.2.2.2.2.2.2.2.2.1 r.2.2.2.2.2.2.2.2.2.2.2.2.2.2.2.2.2.2.2.2.1 r.2.2.2.2.2.2.2.2.2.2.2.2.2.2.2.2.2.2.2.2.2.1 r.2.2.2.2.2.2.2.2.2.2.2.2.2.2.2.2.2.2.2.2.2.2.1 r.2.2.2.2.2.2.2.2.2.2.2.2.2.2.2.2.2.2.2.2.2.2.2 ((CT0 kd pn so se wE wL gE gL sL su size per wid Of size).foldl top20 []) ((CT1 kd pn so se wE wL gE gL sE ho size per wid Of size).foldl top20 [])) := by
  have hN' := hN
  obtain ⟨hz, hpw, hk0, hk, hkd, hp, hpk, hs, hs4, hw, hse, hg, hsr, hsu, hho⟩ := hN'
  have hE : ∀ (sl sk ln rw : Int → Int), CL 0 sl sk ln rw [] := fun sl sk ln rw => ⟨rfl, Nat.zero_le _, List.Pairwise.nil, fun i a b => by omega, fun i j a b => by omega, fun i p q => by simp at q⟩
  unfold f_WorstPaths_collect
  refine ok_gr ⟨by omega, by omega⟩ (ok_if (fun _ => ?_) (fun z => absurd hpi z))
  refine lq24_ok (fun (v : Int) _ _ _ _ _ _ _ _ _ _ _ _ _ y1 y2 y3 y4 y5 b1 b2 b3 b4 b5 => (0 ≤ v ∧ v ≤ size) ∧ CL2 y1 y2 y3 y4 y5 b1 b2 b3 b4 b5 ((CT0 kd pn so se wE wL gE gL sL su size per wid Of v).foldl top20 []) ((CT1 kd pn so se wE wL gE gL sE ho size per wid Of v).foldl top20 [])) (fun v _ _ _ _ _ _ _ _ _ _ _ _ _ _ _ _ _ _ _ _ _ _ _ => (48 - v).toNat) _ ?_ F 0 tr row ps pe pc S H lm lf lh Sc Se Sl 0 y2 y3 y4 y5 0 b2 b3 b4 b5 ⟨by omega, hE _ _ _ _, hE _ _ _ _⟩ (by show (48 - (0 : Int)).toNat < F; omega)
  clear tr row ps pe pc S H lm lf lh Sc Se Sl y1 y2 y3 y4 y5 b1 b2 b3 b4 b5
  rintro self v tr row ps pe pc S H lm lf lh Sc Se Sl y1 y2 y3 y4 y5 b1 b2 b3 b4 b5 ⟨hv, hP⟩ hself
  unfold f_WorstPaths_collect_b31
  refine ok_gr ⟨by omega, by omega⟩ (ok_gr ⟨by omega, by omega⟩ (ok_if (fun q => ?_) (fun q => ?_)))
  · have ev : v = size := by omega
    rw [ev] at hP
    exact ok_some.mpr ⟨rfl, hP⟩
  · obtain ⟨o1, o2, o3, o4⟩ := hCO v hv.1 (by omega)
    rw [e_begins hz hk (by omega) (by omega), ob1_s]
    have z1 := bz_1 ((kd v = 1 ∨ kd v = 3) ∧ 0 < cn v)
    have z2 := bz_01 ((kd v = 1 ∨ kd v = 3) ∧ 0 < cn v)
    have c0s : CT0 kd pn so se wE wL gE gL sL su size per wid Of (v + 1) = CT0 kd pn so se wE wL gE gL sL su size per wid Of v ++ (if kd v = 1 ∨ kd v = 3 then C0 kd pn so se wE wL gE gL sL su size per wid Of v else []) := by
      unfold CT0; rw [pinl_succ hv.1, List.flatMap_append, List.flatMap_cons, List.flatMap_nil, List.append_nil]
    have c1s : CT1 kd pn so se wE wL gE gL sE ho size per wid Of (v + 1) = CT1 kd pn so se wE wL gE gL sE ho size per wid Of v ++ (if kd v = 1 ∨ kd v = 3 then C1 kd pn so se wE wL gE gL sE ho size per wid Of v else []) := by
      unfold CT1; rw [pinl_succ hv.1, List.flatMap_append, List.flatMap_cons, List.flatMap_nil, List.append_nil]
    refine ok_gr ⟨by omega, by omega⟩ (ok_if (fun q2 => ?_) (fun q2 => ?_))
    · have hem : (if kd v = 1 ∨ kd v = 3 then C0 kd pn so se wE wL gE gL sL su size per wid Of v else []) = [] ∧ (if kd v = 1 ∨ kd v = 3 then C1 kd pn so se wE wL gE gL sE ho size per wid Of v else []) = [] := by
        by_cases h : kd v = 1 ∨ kd v = 3
        · by_cases h2 : 0 < cn v
          · have := z1.mpr ⟨h, h2⟩; omega
          · have hnl : Of v = [] := List.length_eq_zero_iff.mp (by omega)
            rw [if_pos h, if_pos h, C0_m, C1_m]
            exact ⟨List.flatMap_eq_nil_iff.mpr (fun m _ => (Em_nil (sE := sE) (ho := ho) (sL := sL) (su := su) (Or.inl hnl)).1), List.flatMap_eq_nil_iff.mpr (fun m _ => (Em_nil (sE := sE) (ho := ho) (sL := sL) (su := su) (Or.inl hnl)).2)⟩
        · rw [if_neg h, if_neg h]; exact ⟨rfl, rfl⟩
      unfold f_WorstPaths_collect_j105
      refine hself _ _ _ _ _ _ _ _ _ _ _ _ _ _ _ _ _ _ _ _ _ _ _ _ ⟨by omega, ?_⟩ (by show (48 - (v + 1)).toNat < (48 - v).toNat; omega)
      rw [c0s, c1s, hem.1, hem.2, List.append_nil, List.append_nil]
      exact hP
    · obtain ⟨h1, h2⟩ := z1.mp (by omega)
      rw [if_pos h1] at c0s c1s
      rw [C0_m] at c0s
      rw [C1_m] at c1s
      have hE0 : ∀ m, 0 ≤ m → m < size → ∀ x ∈ Em0 kd pn so se wE wL gE gL sL su per wid Of v m, PE x := by
        intro m m1 m2 x hx
        refine hx0 x (List.mem_flatMap.mpr ⟨v, pinl_mem.mpr ⟨hv.1, by omega⟩, ?_⟩)
        rw [if_pos h1, C0_m]
        exact List.mem_flatMap.mpr ⟨m, pinl_mem.mpr ⟨m1, m2⟩, hx⟩
      have hE1 : ∀ m, 0 ≤ m → m < size → ∀ x ∈ Em1 kd pn so se wE wL gE gL sE ho per wid Of v m, PE x := by
        intro m m1 m2 x hx
        refine hx1 x (List.mem_flatMap.mpr ⟨v, pinl_mem.mpr ⟨hv.1, by omega⟩, ?_⟩)
        rw [if_pos h1, C1_m]
        exact List.mem_flatMap.mpr ⟨m, pinl_mem.mpr ⟨m1, m2⟩, hx⟩
      refine ok_gi ⟨by omega, by omega⟩ (ok_ob3 (s_spreadFrom hF hz hkd hs hse hw hg hsr hp hcn hfu (n := v) (k := cn v) (by omega) (by omega)) (fun Sc2 Se2 Sl2 hRV => ?_))
      simp only at hRV
      have hSc : ∀ s, 0 ≤ s → s < 96 → (0 ≤ Sc2 s ∧ Sc2 s ≤ 4001) ∧ (Sc2 s ≤ 0 ↔ DW kd pn so se v s = []) := by
        intro s s1 s2
        have r1 := (hRV s s1 s2).1
        rw [fG_len hz.2 hkd hfu (by omega)] at r1
        have hk1 : 1 ≤ (cn v).toNat := by omega
        have hmul : (DW kd pn so se v s).length * (cn v).toNat = 0 ↔ (DW kd pn so se v s).length = 0 := by
          rw [Nat.mul_eq_zero]
          omega
        refine ⟨by omega, fun hle => List.length_eq_zero_iff.mp (hmul.mp (by omega)), fun hnl => ?_⟩
        rw [hnl] at r1
        rw [r1]
        show min (((0 * (cn v).toNat : Nat)) : Int) 4001 ≤ 0
        rw [Nat.zero_mul]
        decide
      refine lq20_ok (fun (u : Int) _ _ _ _ _ _ _ _ _ y1 y2 y3 y4 y5 b1 b2 b3 b4 b5 => (0 ≤ u ∧ u ≤ size) ∧ CL2 y1 y2 y3 y4 y5 b1 b2 b3 b4 b5 ((CT0 kd pn so se wE wL gE gL sL su size per wid Of v ++ (pinl u).flatMap (Em0 kd pn so se wE wL gE gL sL su per wid Of v)).foldl top20 []) ((CT1 kd pn so se wE wL gE gL sE ho size per wid Of v ++ (pinl u).flatMap (Em1 kd pn so se wE wL gE gL sE ho per wid Of v)).foldl top20 [])) (fun u _ _ _ _ _ _ _ _ _ _ _ _ _ _ _ _ _ _ _ => (48 - u).toNat) _ ?_ F 0 tr row pe pc S H lm lf lh y1 y2 y3 y4 y5 b1 b2 b3 b4 b5 ⟨by omega, ?_⟩ (by show (48 - (0 : Int)).toNat < F; omega)
      · clear hP
        clear tr row pe pc S H lm lf lh y1 y2 y3 y4 y5 b1 b2 b3 b4 b5
        rintro self2 u tr row pe pc S H lm lf lh y1 y2 y3 y4 y5 b1 b2 b3 b4 b5 ⟨hu, hP⟩ hself2
        unfold f_WorstPaths_collect_b83
        refine ok_gr ⟨by omega, by omega⟩ (ok_gr ⟨by omega, by omega⟩ (ok_if (fun q3 => ?_) (fun q3 => ?_)))
        · have eu : u = size := by omega
          rw [eu, ← c0s, ← c1s] at hP
          unfold f_WorstPaths_collect_j105
          exact hself _ _ _ _ _ _ _ _ _ _ _ _ _ _ _ _ _ _ _ _ _ _ _ _ ⟨by omega, hP⟩ (by show (48 - (v + 1)).toNat < (48 - v).toNat; omega)
        · refine ok_ob19 (s_collectTo hF hN hfu hT hinj hCO (by omega) h1 (by omega) hSc (hE0 u hu.1 (by omega)) (hE1 u hu.1 (by omega)) hP) (fun x1 x2 x3 x4 x5 x6 x7 x8 x9 x10 x11 x12 x13 x14 x15 x16 x17 x18 x19 hr => ?_)
          simp only at hr
          refine hself2 _ _ _ _ _ _ _ _ _ _ _ _ _ _ _ _ _ _ _ _ ⟨by omega, ?_⟩ (by show (48 - (u + 1)).toNat < (48 - u).toNat; omega)
          rw [pinl_succ hu.1, List.flatMap_append, List.flatMap_append, List.flatMap_cons, List.flatMap_nil, List.append_nil, List.flatMap_cons, List.flatMap_nil, List.append_nil, fold_3, fold_3]
          exact hr
      · show CL2 _ _ _ _ _ _ _ _ _ _ ((CT0 kd pn so se wE wL gE gL sL su size per wid Of v ++ []).foldl top20 []) ((CT1 kd pn so se wE wL gE gL sE ho size per wid Of v ++ []).foldl top20 [])
        rw [List.append_nil, List.append_nil]
        exact hP
end CCO
