/-! the class goes back from an end over all data ways -/
theorem sh_1 {x : Int} (h : 0 ≤ x ∧ x < 96) : (iI x >>> (iI 1 &&& 31)).toInt = x / 2 := by
  have key : ∀ n : Fin 96, (iI ((n.val : Nat) : Int) >>> (iI 1 &&& 31)).toInt = ((n.val : Nat) : Int) / 2 := by decide
  have := key ⟨x.toNat, by omega⟩
  rwa [show (((⟨x.toNat, by omega⟩ : Fin 96).val : Nat) : Int) = x by show ((x.toNat : Nat) : Int) = x; omega] at this
theorem an_1 {x : Int} (h : 0 ≤ x ∧ x < 96) : (iI x &&& iI 1).toInt = x % 2 := by
  have key : ∀ n : Fin 96, (iI ((n.val : Nat) : Int) &&& iI 1).toInt = ((n.val : Nat) : Int) % 2 := by decide
  have := key ⟨x.toNat, by omega⟩
  rwa [show (((⟨x.toNat, by omega⟩ : Fin 96).val : Nat) : Int) = x by show ((x.toNat : Nat) : Int) = x; omega] at this
section CBK
variable {F : Nat} {kd pn so se wE wL gE gL sE sL su ho : Int → Int} {size per wid : Int} {a b : Int → Int} {sz : Int} {el pa ln ea la fi nx : Int → Int} {Wd : Int → Int × List Int} {Ch : Int → List Int} {cn l ba e f : Int → Int} {n m c : Int} {Os Os' : List (Option (Int × List Int))}
def Z0 (wE wL gE gL sL su : Int → Int) (per wid n m c : Int) (Os Os' : List (Option (Int × List Int))) (L : Int) (T : List Int) (xw : Int × List Int) : List (Int × List Int) := Os.flatMap (fun o => Os'.map (X0 wE wL gE gL su per wid n (xw.1 % 2) m c (L + sm (dE wL gL) xw.2 + sL xw.1) (T ++ xw.2).reverse o))
def Z1 (wE wL gE gL sE ho : Int → Int) (per wid n m c : Int) (Os Os' : List (Option (Int × List Int))) (E : Int) (T : List Int) (xw : Int × List Int) : List (Int × List Int) := Os.flatMap (fun o => Os'.map (X1 wE wL gE gL ho per wid n (xw.1 % 2) m c (E + sm (dE wE gE) xw.2 + sE xw.1) (T ++ xw.2).reverse o))
theorem Z0_s {L : Int} {T : List Int} {x el0 : Int} {w : List Int} : Z0 wE wL gE gL sL su per wid n m c Os Os' L T (x, el0 :: w) = Z0 wE wL gE gL sL su per wid n m c Os Os' (L + dE wL gL el0) (T ++ [el0]) (x, w) := by
  unfold Z0
  simp only
  rw [List.append_assoc, show [el0] ++ w = el0 :: w from rfl, show L + sm (dE wL gL) (el0 :: w) + sL x = L + dE wL gL el0 + sm (dE wL gL) w + sL x by show L + (dE wL gL el0 + sm (dE wL gL) w) + sL x = _; omega]
theorem Z1_s {E : Int} {T : List Int} {x el0 : Int} {w : List Int} : Z1 wE wL gE gL sE ho per wid n m c Os Os' E T (x, el0 :: w) = Z1 wE wL gE gL sE ho per wid n m c Os Os' (E + dE wE gE el0) (T ++ [el0]) (x, w) := by
  unfold Z1
  simp only
  rw [List.append_assoc, show [el0] ++ w = el0 :: w from rfl, show E + sm (dE wE gE) (el0 :: w) + sE x = E + dE wE gE el0 + sm (dE wE gE) w + sE x by show E + (dE wE gE el0 + sm (dE wE gE) w) + sE x = _; omega]
theorem DW_rec {rk : Int → Nat} (hrk : ∀ s et, et ∈ insN kd pn so se s → rk et.2 < rk s) (hrk2 : ∀ s, rk s < 49) (s : Int) : DW kd pn so se n s = if isN n s then [(s, [])] else (insN kd pn so se s).flatMap (fun et => (DW kd pn so se n et.2).map (fun w => (w.1, et.1 :: w.2))) := bw_rec hrk hrk2 s
theorem e_leads {Sc : Int → Int} {i was is : Int} (hse : ∀ i, 0 ≤ se i ∧ se i ≤ 2) (hs : ∀ i, -1 ≤ so i ∧ so i < size) (hz : size ≤ 48) (hi : 0 ≤ i ∧ i < 144) (h1 : was = 0 ∨ was = 1) (h2 : is = 0 ∨ is = 1) (hS : ∀ s, 0 ≤ s → s < 96 → 0 ≤ Sc s ∧ Sc s ≤ 4001) : f_WorstPaths_leads F Sc so se i was is = some (bz (0 ≤ so i ∧ ltz (se i) was is = true ∧ 0 < Sc (2 * so i + was))) := by
  have hsi := hs i
  apply ok_eq
  unfold f_WorstPaths_leads f_WorstPaths_leads_j50
  refine ok_gi hi (ok_bd.mpr (ok_gr ⟨by omega, by omega⟩ (ok_if (fun q => ok_gb (by omega) (ok_some.mpr ?_)) (fun q => ?_))))
  · unfold bz; rw [if_neg (fun z => by omega)]
  · rw [e_lets hse hi h1 h2, ob1_s]
    have z1 := bz_1 (ltz (se i) was is = true)
    have z2 := bz_01 (ltz (se i) was is = true)
    have r := hS (2 * so i + was) (by omega) (by omega)
    refine ok_gr ⟨by omega, by omega⟩ (ok_if (fun q2 => ok_gb (by omega) (ok_some.mpr ?_)) (fun q2 => ?_))
    · unfold bz; rw [if_neg (fun z => by have := z1.mpr z.2.1; omega)]
    · have hl := z1.mp (by omega)
      refine ok_gi ⟨by omega, by omega⟩ (ok_gr ⟨by omega, by omega⟩ (ok_if (fun q3 => ok_gb (by omega) (ok_some.mpr ?_)) (fun q3 => ok_gb (by omega) (ok_some.mpr ?_))))
      · unfold bz; rw [if_neg (fun z => by omega)]
      · unfold bz; rw [if_pos ⟨by omega, hl, by omega⟩]
theorem s_goBack {rk : Int → Nat} {Sc S H : Int → Int} {lm lf lh s0 : Int} {os : List Int} (hF : 200 ≤ F) (hN : InvN size per wid kd pn so wE wL se gE gL sE sL su ho) (hfu : full kd pn so se os) (hrk : ∀ s et, et ∈ insN kd pn so se s → rk et.2 < rk s) (hrk2 : ∀ s, rk s < 49) (hT : TR a b sz el pa ln ea la fi nx Wd Ch) (hn : 0 ≤ n ∧ n < size) (hm : 0 ≤ m ∧ m < size) (hc : c = 0 ∨ c = 1) (hkn : kd n = 1 ∨ kd n = 3) (hO : CO kd pn so se wE wL gE gL wid sz Wd cn l ba e f n Os) (hO' : CO kd pn so se wE wL gE gL wid sz Wd cn l ba e f m Os') (hR : RM wE wL gE gL per wid n Os m Os' S H lm lf lh)
    (hSc : ∀ s, 0 ≤ s → s < 96 → (0 ≤ Sc s ∧ Sc s ≤ 4001) ∧ (Sc s ≤ 0 ↔ DW kd pn so se n s = [])) :
    ∀ (fu : Nat) (s : Int) (d : Nat) (E L : Int) (tr row : Int → Int) (y1 : Int) (y2 y3 y4 y5 : Int → Int) (b1 : Int) (b2 b3 b4 b5 : Int → Int) (P0 P1 : List (Int × List Int)), rk s < fu → 0 ≤ s → s < 96 → isW (insN kd pn so se) s (lst tr d) s0 → DW kd pn so se n s ≠ [] →
      (∀ xw ∈ DW kd pn so se n s, ∀ x ∈ Z0 wE wL gE gL sL su per wid n m c Os Os' L (lst tr d) xw, PE x) → (∀ xw ∈ DW kd pn so se n s, ∀ x ∈ Z1 wE wL gE gL sE ho per wid n m c Os Os' E (lst tr d) xw, PE x) → CL2 y1 y2 y3 y4 y5 b1 b2 b3 b4 b5 P0 P1 →
      ok (lq16 (f_WorstPaths_goBack_rb F n m c S H el pa ln cn l Sc kd pn so wE wL se gE gL sE sL su ho) fu tr row y1 y2 y3 y4 y5 b1 b2 b3 b4 b5 s (d : Int) E L) (fun r => (∀ z, 0 ≤ z → z < (d : Int) → r.1 z = tr z) ∧ CL2 r.2.2.1 r.2.2.2.1 r.2.2.2.2.1 r.2.2.2.2.2.1 r.2.2.2.2.2.2.1 r.2.2.2.2.2.2.2.1 r.2.2.2.2.2.2.2.2.1 r.2.2.2.2.2.2.2.2.2.1 r.2.2.2.2.2.2.2.2.2.2.1 r.2.2.2.2.2.2.2.2.2.2.2 (((DW kd pn so se n s).flatMap (Z0 wE wL gE gL sL su per wid n m c Os Os' L (lst tr d))).foldl top20 P0) (((DW kd pn so se n s).flatMap (Z1 wE wL gE gL sE ho per wid n m c Os Os' E (lst tr d))).foldl top20 P1)) := by
  obtain ⟨hz, hpw, hk0, hk, hkd, hp, hpk, hs, hs4, hw, hse, hg, hsr, hsu, hho⟩ := hN
  have hos := os_47 hz.2 hkd hk0 hfu
  intro fu
  induction fu with
  | zero => intro s d E L tr row y1 y2 y3 y4 y5 b1 b2 b3 b4 b5 P0 P1 h; omega
  | succ fu ih =>
    intro s d E L tr row y1 y2 y3 y4 y5 b1 b2 b3 b4 b5 P0 P1 hfu1 hs0 hs96 hW hne hx0 hx1 hP
    have hdl := isW_os hfu hW
    rw [lst_len] at hdl
    have hd47 : d ≤ 47 := by omega
    show ok (f_WorstPaths_goBack_rb F n m c S H el pa ln cn l Sc kd pn so wE wL se gE gL sE sL su ho (lq16 (f_WorstPaths_goBack_rb F n m c S H el pa ln cn l Sc kd pn so wE wL se gE gL sE sL su ho) fu) tr row y1 y2 y3 y4 y5 b1 b2 b3 b4 b5 s (d : Int) E L) _
    unfold f_WorstPaths_goBack_rb
    rw [sh_1 ⟨hs0, hs96⟩, an_1 ⟨hs0, hs96⟩]
    refine ok_bd.mpr (ok_bd.mpr (ok_gr ⟨by omega, by omega⟩ (ok_gr ⟨by omega, by omega⟩ (ok_if (fun h => ?_) (fun h => ?_)))))
    · -- at the start
      have hDW : DW kd pn so se n s = [(s, [])] := by rw [DW_rec hrk hrk2 s, if_pos (by unfold isN; exact decide_eq_true h)]
      have e0 : (DW kd pn so se n s).flatMap (Z0 wE wL gE gL sL su per wid n m c Os Os' L (lst tr d)) = Os.flatMap (fun o => Os'.map (X0 wE wL gE gL su per wid n (s % 2) m c (L + sL s) (lst tr d).reverse o)) := by
        rw [hDW, List.flatMap_cons, List.flatMap_nil, List.append_nil]
        unfold Z0
        simp only
        rw [List.append_nil, show L + sm (dE wL gL) [] + sL s = L + sL s by show L + 0 + sL s = _; omega]
      have e1 : (DW kd pn so se n s).flatMap (Z1 wE wL gE gL sE ho per wid n m c Os Os' E (lst tr d)) = Os.flatMap (fun o => Os'.map (X1 wE wL gE gL ho per wid n (s % 2) m c (E + sE s) (lst tr d).reverse o)) := by
        rw [hDW, List.flatMap_cons, List.flatMap_nil, List.append_nil]
        unfold Z1
        simp only
        rw [List.append_nil, show E + sm (dE wE gE) [] + sE s = E + sE s by show E + 0 + sE s = _; omega]
      have g0 : ∀ x ∈ Os.flatMap (fun o => Os'.map (X0 wE wL gE gL su per wid n (s % 2) m c (L + sL s) (lst tr d).reverse o)), PE x := by
        rw [← e0]
        intro x hx
        obtain ⟨xw, q1, q2⟩ := List.mem_flatMap.mp hx
        exact hx0 xw q1 x q2
      have g1 : ∀ x ∈ Os.flatMap (fun o => Os'.map (X1 wE wL gE gL ho per wid n (s % 2) m c (E + sE s) (lst tr d).reverse o)), PE x := by
        rw [← e1]
        intro x hx
        obtain ⟨xw, q1, q2⟩ := List.mem_flatMap.mp hx
        exact hx1 xw q1 x q2
      rw [e0, e1]
      refine ok_gi ⟨hs0, hs96⟩ (ok_gi ⟨hs0, hs96⟩ (ok_ob11 (s_offerAll hF hk hT (by omega) (by omega) hc (by omega) hO hO' hR hkn (fun o ho o' ho' => g0 _ (List.mem_flatMap.mpr ⟨o, ho, List.mem_map.mpr ⟨o', ho', rfl⟩⟩)) (fun o ho o' ho' => g1 _ (List.mem_flatMap.mpr ⟨o, ho, List.mem_map.mpr ⟨o', ho', rfl⟩⟩)) hP) (fun x1 x2 x3 x4 x5 x6 x7 x8 x9 x10 x11 hr => ?_)))
      exact ok_some.mpr ⟨fun z _ _ => rfl, hr⟩
    · -- at a gate
      have hnN : isN n s = false := by unfold isN; exact decide_eq_false h
      have hDW : DW kd pn so se n s = (insN kd pn so se s).flatMap (fun et => (DW kd pn so se n et.2).map (fun w => (w.1, et.1 :: w.2))) := by rw [DW_rec hrk hrk2 s, hnN]; rfl
      have hk2 : kd (s / 2) = 2 := by
        by_cases q : kd (s / 2) = 2
        · exact q
        · exact absurd (by rw [hDW, ins_nil q]; rfl) hne
      have hsn := hkd (s / 2) (by omega)
      have hpn := hp (s / 2)
      have hkid := kid_0 (kd := kd) (so := so) (se := se) hp (s := s) hk2
      have hkid' : insN kd pn so se s = (pinl (2 * pn (s / 2))).flatMap (stpK so se s) := by rw [← hkid]; rfl
      obtain ⟨G0, hG0⟩ : ∃ G0 : (Int × Int) → List (Int × List Int), G0 = fun et => (DW kd pn so se n et.2).flatMap (Z0 wE wL gE gL sL su per wid n m c Os Os' (L + dE wL gL et.1) (lst tr d ++ [et.1])) := ⟨_, rfl⟩
      obtain ⟨G1, hG1⟩ : ∃ G1 : (Int × Int) → List (Int × List Int), G1 = fun et => (DW kd pn so se n et.2).flatMap (Z1 wE wL gE gL sE ho per wid n m c Os Os' (E + dE wE gE et.1) (lst tr d ++ [et.1])) := ⟨_, rfl⟩
      have e0 : (DW kd pn so se n s).flatMap (Z0 wE wL gE gL sL su per wid n m c Os Os' L (lst tr d)) = (insN kd pn so se s).flatMap G0 := by
        rw [hDW, List.flatMap_assoc, hG0]
        refine flatMap_cg (fun et _ => ?_)
        rw [List.flatMap_map]
        exact flatMap_cg (fun w _ => Z0_s)
      have e1 : (DW kd pn so se n s).flatMap (Z1 wE wL gE gL sE ho per wid n m c Os Os' E (lst tr d)) = (insN kd pn so se s).flatMap G1 := by
        rw [hDW, List.flatMap_assoc, hG1]
        refine flatMap_cg (fun et _ => ?_)
        rw [List.flatMap_map]
        exact flatMap_cg (fun w _ => Z1_s)
      have g0 : ∀ et ∈ insN kd pn so se s, ∀ xw ∈ DW kd pn so se n et.2, ∀ x ∈ Z0 wE wL gE gL sL su per wid n m c Os Os' (L + dE wL gL et.1) (lst tr d ++ [et.1]) xw, PE x := by
        intro et het xw hxw x hx
        refine hx0 (xw.1, et.1 :: xw.2) ?_ x (by rw [Z0_s]; exact hx)
        rw [hDW]
        exact List.mem_flatMap.mpr ⟨et, het, List.mem_map.mpr ⟨xw, hxw, rfl⟩⟩
      have g1 : ∀ et ∈ insN kd pn so se s, ∀ xw ∈ DW kd pn so se n et.2, ∀ x ∈ Z1 wE wL gE gL sE ho per wid n m c Os Os' (E + dE wE gE et.1) (lst tr d ++ [et.1]) xw, PE x := by
        intro et het xw hxw x hx
        refine hx1 (xw.1, et.1 :: xw.2) ?_ x (by rw [Z1_s]; exact hx)
        rw [hDW]
        exact List.mem_flatMap.mpr ⟨et, het, List.mem_map.mpr ⟨xw, hxw, rfl⟩⟩
      rw [e0, e1]
      refine lq13_ok (fun (v : Int) tr1 _ y1 y2 y3 y4 y5 b1 b2 b3 b4 b5 => (0 ≤ v ∧ v ≤ pn (s / 2)) ∧ (∀ z, 0 ≤ z → z < (d : Int) → tr1 z = tr z) ∧ CL2 y1 y2 y3 y4 y5 b1 b2 b3 b4 b5 ((((pinl (2 * v)).flatMap (stpK so se s)).flatMap G0).foldl top20 P0) ((((pinl (2 * v)).flatMap (stpK so se s)).flatMap G1).foldl top20 P1)) (fun v _ _ _ _ _ _ _ _ _ _ _ _ => (3 - v).toNat) _ ?_ F 0 tr row y1 y2 y3 y4 y5 b1 b2 b3 b4 b5 ⟨by omega, fun z _ _ => rfl, hP⟩ (by show (3 - (0 : Int)).toNat < F; omega)
      clear hP
      clear row y1 y2 y3 y4 y5 b1 b2 b3 b4 b5
      rintro self v tr1 row y1 y2 y3 y4 y5 b1 b2 b3 b4 b5 ⟨hv, htr, hP⟩ hself
      unfold f_WorstPaths_goBack_b53
      refine ok_gi ⟨by omega, by omega⟩ (ok_gr ⟨by omega, by omega⟩ (ok_gr ⟨by omega, by omega⟩ (ok_if (fun q => ?_) (fun q => ?_))))
      · have ev : v = pn (s / 2) := by omega
        rw [ev, ← hkid'] at hP
        exact ok_some.mpr ⟨htr, hP⟩
      · refine ok_gr ⟨by omega, by omega⟩ (ok_if (fun z => by omega) (fun _ => ?_))
        refine ok_bd.mpr ?_
        rw [e_elementOf, ob1_s]
        refine ok_gi ⟨by omega, by omega⟩ (ok_bd.mpr ?_)
        have hpl : s / 2 * 3 + v = 3 * (s / 2) + v := by omega
        rw [hpl]
        have hpl2 : 0 ≤ 3 * (s / 2) + v ∧ 3 * (s / 2) + v < 144 := by omega
        have hsv := hs (3 * (s / 2) + v)
        refine lq13_ok (fun (u : Int) tr2 _ y1 y2 y3 y4 y5 b1 b2 b3 b4 b5 => (0 ≤ u ∧ u ≤ 2) ∧ (∀ z, 0 ≤ z → z < (d : Int) → tr2 z = tr z) ∧ tr2 d = 8 * (s / 2) + 2 * v + s % 2 ∧ CL2 y1 y2 y3 y4 y5 b1 b2 b3 b4 b5 ((((pinl (2 * v + u)).flatMap (stpK so se s)).flatMap G0).foldl top20 P0) ((((pinl (2 * v + u)).flatMap (stpK so se s)).flatMap G1).foldl top20 P1)) (fun u _ _ _ _ _ _ _ _ _ _ _ _ => (2 - u).toNat) _ ?_ F 0 _ row y1 y2 y3 y4 y5 b1 b2 b3 b4 b5 ⟨by omega, fun z z1 z2 => by rw [ui_n (by omega)]; exact htr z z1 z2, ui_s _ _ _, by rw [Int.add_zero]; exact hP⟩ (by show (2 - (0 : Int)).toNat < F; omega)
        clear hP htr
        clear row y1 y2 y3 y4 y5 b1 b2 b3 b4 b5 tr1
        rintro self2 u tr2 row y1 y2 y3 y4 y5 b1 b2 b3 b4 b5 ⟨hu, htr, htd, hP⟩ hself2
        unfold f_WorstPaths_goBack_b101
        refine ok_gr ⟨by omega, by omega⟩ (ok_if (fun q2 => ?_) (fun q2 => ?_))
        · have eu : u = 2 := by omega
          rw [eu, show 2 * v + 2 = 2 * (v + 1) by omega] at hP
          exact hself _ _ _ _ _ _ _ _ _ _ _ _ _ ⟨by omega, htr, hP⟩ (by show (3 - (v + 1)).toNat < (3 - v).toNat; omega)
        · have hu1 : u = 0 ∨ u = 1 := by omega
          have hst : stpK so se s (2 * v + u) = if 0 ≤ so (3 * (s / 2) + v) ∧ ltz (se (3 * (s / 2) + v)) u (s % 2) = true then [(8 * (s / 2) + 2 * v + s % 2, 2 * so (3 * (s / 2) + v) + u)] else [] := by
            unfold stpK
            rw [show (2 * v + u) / 2 = v by omega, show (2 * v + u) % 2 = u by omega]
          have hps : pinl (2 * v + (u + 1)) = pinl (2 * v + u) ++ [2 * v + u] := by rw [show 2 * v + (u + 1) = 2 * v + u + 1 by omega]; exact pinl_succ (by omega)
          have hnext : ∀ (Q : (Int × Int) → List (Int × List Int)) (P : List (Int × List Int)), (((pinl (2 * v + (u + 1))).flatMap (stpK so se s)).flatMap Q).foldl top20 P = ((stpK so se s (2 * v + u)).flatMap Q).foldl top20 ((((pinl (2 * v + u)).flatMap (stpK so se s)).flatMap Q).foldl top20 P) := by
            intro Q P
            rw [hps, List.flatMap_append, List.flatMap_append, List.foldl_append, List.flatMap_cons, List.flatMap_nil, List.append_nil]
          rw [e_leads hse hs hz.2 hpl2 hu1 (by omega) (fun s a b => (hSc s a b).1), ob1_s]
          have z1 := bz_1 (0 ≤ so (3 * (s / 2) + v) ∧ ltz (se (3 * (s / 2) + v)) u (s % 2) = true ∧ 0 < Sc (2 * so (3 * (s / 2) + v) + u))
          have z2 := bz_01 (0 ≤ so (3 * (s / 2) + v) ∧ ltz (se (3 * (s / 2) + v)) u (s % 2) = true ∧ 0 < Sc (2 * so (3 * (s / 2) + v) + u))
          refine ok_gr ⟨by omega, by omega⟩ (ok_if (fun q3 => ?_) (fun q3 => ?_))
          · -- nothing there
            unfold f_WorstPaths_goBack_j169
            have hno : ¬ (0 ≤ so (3 * (s / 2) + v) ∧ ltz (se (3 * (s / 2) + v)) u (s % 2) = true ∧ 0 < Sc (2 * so (3 * (s / 2) + v) + u)) := fun z => by have := z1.mpr z; omega
            have hem : ∀ et ∈ stpK so se s (2 * v + u), DW kd pn so se n et.2 = [] := by
              intro et het
              rw [hst] at het
              by_cases z : 0 ≤ so (3 * (s / 2) + v) ∧ ltz (se (3 * (s / 2) + v)) u (s % 2) = true
              · rw [if_pos z] at het
                rw [List.mem_singleton.mp het]
                refine ((hSc (2 * so (3 * (s / 2) + v) + u) (by omega) (by omega)).2).mp ?_
                by_cases z4 : 0 < Sc (2 * so (3 * (s / 2) + v) + u)
                · exact absurd ⟨z.1, z.2, z4⟩ hno
                · omega
              · rw [if_neg z] at het; cases het
            have n0 : (stpK so se s (2 * v + u)).flatMap G0 = [] := List.flatMap_eq_nil_iff.mpr (fun et het => by rw [hG0]; show (DW kd pn so se n et.2).flatMap _ = []; rw [hem et het]; rfl)
            have n1 : (stpK so se s (2 * v + u)).flatMap G1 = [] := List.flatMap_eq_nil_iff.mpr (fun et het => by rw [hG1]; show (DW kd pn so se n et.2).flatMap _ = []; rw [hem et het]; rfl)
            refine hself2 _ _ _ _ _ _ _ _ _ _ _ _ _ ⟨by omega, htr, htd, ?_⟩ (by show (2 - (u + 1)).toNat < (2 - u).toNat; omega)
            rw [hnext, hnext, n0, n1]
            exact hP
          · -- back
            obtain ⟨k1, k2, k3⟩ := z1.mp (by omega)
            rw [if_pos ⟨k1, k2⟩] at hst
            have hins : (8 * (s / 2) + 2 * v + s % 2, 2 * so (3 * (s / 2) + v) + u) ∈ insN kd pn so se s := insN_mem.mpr ⟨hk2, v, u, by omega, hu1, k1, k2, rfl⟩
            have hrk3 := hrk _ _ hins
            simp only at hrk3
            have hlst : lst tr2 ((d + 1 : Nat) : Int) = lst tr d ++ [8 * (s / 2) + 2 * v + s % 2] := by
              rw [show ((d + 1 : Nat) : Int) = (d : Int) + 1 by omega]
              have : lst tr2 ((d : Int) + 1) = lst tr2 d ++ [tr2 d] := by
                unfold lst
                rw [pinl_succ (by omega), List.map_append]
                rfl
              rw [this, htd, lst_cg (A := tr2) (B := tr) htr]
            have hge := g0 _ hins
            have hge1 := g1 _ hins
            simp only at hge hge1
            rw [← hlst] at hge hge1
            rw [e_stepEarly hpl2 (by omega), e_stepLate hpl2 (by omega)]
            refine ok_gi hpl2 ?_
            rw [ob1_s, ob1_s]
            have d1 : wE (3 * (s / 2) + v) + gE (2 * (3 * (s / 2) + v) + s % 2) = dE wE gE (8 * (s / 2) + 2 * v + s % 2) := (dE_at (by omega) (by omega)).symm
            have d2 : wL (3 * (s / 2) + v) + gL (2 * (3 * (s / 2) + v) + s % 2) = dE wL gL (8 * (s / 2) + 2 * v + s % 2) := (dE_at (by omega) (by omega)).symm
            rw [d1, d2, show (d : Int) + 1 = ((d + 1 : Nat) : Int) by omega]
            refine ok_ob12 (ih (2 * so (3 * (s / 2) + v) + u) (d + 1) _ _ tr2 row y1 y2 y3 y4 y5 b1 b2 b3 b4 b5 _ _ (by omega) (by omega) (by omega) ?_ (fun z => ?_) hge hge1 hP) (fun x1 x2 x3 x4 x5 x6 x7 x8 x9 x10 x11 x12 hr => ?_)
            · rw [hlst]
              exact isW_snoc.mpr ⟨s, hins, hW⟩
            · have := ((hSc (2 * so (3 * (s / 2) + v) + u) (by omega) (by omega)).2).mpr z
              omega
            · obtain ⟨r1, r2⟩ := hr
              simp only at r1 r2
              unfold f_WorstPaths_goBack_j169
              refine hself2 _ _ _ _ _ _ _ _ _ _ _ _ _ ⟨by omega, fun z q5 q6 => (r1 z q5 (by omega)).trans (htr z q5 q6), (r1 d (by omega) (by omega)).trans htd, ?_⟩ (by show (2 - (u + 1)).toNat < (2 - u).toNat; omega)
              rw [hnext, hnext, hst, List.flatMap_cons, List.flatMap_nil, List.append_nil, List.flatMap_cons, List.flatMap_nil, List.append_nil, hG0, hG1]
              rw [hlst] at r2
              rw [hG0, hG1] at r2
              exact r2
end CBK
