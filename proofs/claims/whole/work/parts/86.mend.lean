/-! the reference lists the timing paths of an end -/
section MEN
variable {F : Nat} {kd pn so se wE wL gE gL fo sc : Int → Int} {size wid per : Int} {wc wb we wl wla wsz wr wsp : Int → Int} {LL : Int → List (Int × List Int)}
def rowO : Option (Int × List Int) → List Int
  | none => []
  | some w => rowW w
/-- both lists -/
def ML2 (lsd lsl lsz lrw : Int → Int) (P0 P1 : List (Int × List Int)) : Prop := MLs lsd lsl lsz lrw 0 P0 ∧ MLs lsd lsl lsz lrw 1 P1
theorem MLs_fr {lsd lsl lsz lrw lsd' lsl' lsz' lrw' : Int → Int} {ch c : Int} {P : List (Int × List Int)} (h : MLs lsd lsl lsz lrw c P) (hc : (c = 0 ∧ ch = 1) ∨ (c = 1 ∧ ch = 0)) (hd : ∀ c, c ≠ ch → lsd' c = lsd c) (hf : MFr ch lsl lsz lrw lsl' lsz' lrw') : MLs lsd' lsl' lsz' lrw' c P := by
  obtain ⟨h1, h2, h3, h4⟩ := h
  refine ⟨by rw [hd c (by omega)]; exact h1, h2, h3, fun i p q => hf _ p ?_ (h4 i p q)⟩
  have := getE_lt q
  omega
theorem s_list0 {lsd lsl lsz lrw row : Int → Int} {r : List Int} {s ch : Int} {P0 P1 : List (Int × List Int)} (hF : 200 ≤ F) (hx : PE (s, r)) (hr : rowAt row 0 r) (hch : ch = 0) (hP : ML2 lsd lsl lsz lrw P0 P1) : ok (f_M_list F (r.length : Int) row lsd lsl lsz lrw ch s) (fun x => ML2 x.1 x.2.1 x.2.2.1 x.2.2.2 (top20 P0 (s, r)) P1) := by
  subst hch
  refine ok_imp (s_list hF hx hr (Or.inl rfl) hP.1) (fun x hx => ⟨hx.1, MLs_fr hP.2 (Or.inr ⟨rfl, rfl⟩) hx.2.1 hx.2.2⟩)
theorem s_list1 {lsd lsl lsz lrw row : Int → Int} {r : List Int} {s ch : Int} {P0 P1 : List (Int × List Int)} (hF : 200 ≤ F) (hx : PE (s, r)) (hr : rowAt row 0 r) (hch : ch = 1) (hP : ML2 lsd lsl lsz lrw P0 P1) : ok (f_M_list F (r.length : Int) row lsd lsl lsz lrw ch s) (fun x => ML2 x.1 x.2.1 x.2.2.1 x.2.2.2 P0 (top20 P1 (s, r))) := by
  subst hch
  refine ok_imp (s_list hF hx hr (Or.inr rfl) hP.2) (fun x hx => ⟨MLs_fr hP.1 (Or.inl ⟨rfl, rfl⟩) hx.2.1 hx.2.2, hx.1⟩)
/-- a timing path by what the reference has at its end -/
def P0M (wE wL gE gL fo : Int → Int) (per wid n : Int) (o : Option (Int × List Int)) (r0 : List Int) (m c b : Int) (o' : Option (Int × List Int)) : Int × List Int := (edg per wid o o' + wdl wE gE m o' + crd (dE wE gE) (dE wL gL) wE wL n o m o' - fo (2 * m + c) - b, r0 ++ (8 * m + c) :: rowO o')
def P1M (wE wL gE gL sc : Int → Int) (per wid n : Int) (o : Option (Int × List Int)) (r0 : List Int) (m c a : Int) (o' : Option (Int × List Int)) : Int × List Int := (a + crd (dE wE gE) (dE wL gL) wE wL n o m o' - edg per wid o o' - wdl wL gL m o' - sc (2 * m + c) + per, r0 ++ (8 * m + c) :: rowO o')
theorem rowAt_snoc {A : Int → Int} {r : List Int} {v : Int} (h : rowAt A 0 r) : rowAt (ui A (r.length : Int) v) 0 (r ++ [v]) := by
  intro j e q
  rw [ui_e]
  by_cases c : j = r.length
  · subst c
    rw [if_pos (by omega)]
    rw [List.getElem?_append_right (Nat.le_refl _), Nat.sub_self] at q
    exact Option.some.inj q
  · rw [if_neg (by omega)]
    have hj : j < r.length := by
      have := getE_lt q
      rw [List.length_append] at this
      have e1 : [v].length = 1 := rfl
      omega
    rw [List.getElem?_append_left hj] at q
    exact h j e q
theorem s_end {n p B m c q a b sz : Int} {o o' : Option (Int × List Int)} {row lsd lsl lsz lrw : Int → Int} {r0 : List Int} {P0 P1 : List (Int × List Int)} (hF : 200 ≤ F) (hwid : 1 ≤ wid ∧ wid < per ∧ per ≤ 1000000) (hp : isQ wE wL gE gL wid wc wb we wl wla wsz wr wsp LL n p o) (hq : isQ wE wL gE gL wid wc wb we wl wla wsz wr wsp LL m q o') (hp2 : -2147483648 ≤ p ∧ p < 384) (hq2 : -2147483648 ≤ q ∧ q < 384) (hB : B = wbs wid o) (hm : 0 ≤ m ∧ m < 48) (hc : c = 0 ∨ c = 1) (hsz : sz = (r0.length : Int)) (hr0 : rowAt row 0 r0) (h0 : PE (P0M wE wL gE gL fo per wid n o r0 m c b o')) (h1 : PE (P1M wE wL gE gL sc per wid n o r0 m c a o')) (hP : ML2 lsd lsl lsz lrw P0 P1) :
    ok (f_M_end F per p B fo sc wb we wl wla wsz wr wsp row lsd lsl lsz lrw m c q sz a b) (fun x => (∀ z, 0 ≤ z → z < sz → x.1 z = row z) ∧ (-2147483648 ≤ x.2.1 ∧ x.2.1 ≤ 2147483647) ∧ ML2 x.2.2.1 x.2.2.2.1 x.2.2.2.2.1 x.2.2.2.2.2 (top20 P0 (P0M wE wL gE gL fo per wid n o r0 m c b o')) (top20 P1 (P1M wE wL gE gL sc per wid n o r0 m c a o'))) := by
  have hlen := h0.2.1
  have hlen' : r0.length + 1 + (rowO o').length ≤ 144 := by
    have : (r0 ++ (8 * m + c) :: rowO o').length ≤ 144 := hlen
    rw [List.length_append, List.length_cons] at this
    omega
  -- the row is written
  have hfin : ∀ (rw2 : Int → Int) (rs : Int), rs = ((r0 ++ (8 * m + c) :: rowO o').length : Int) → rowAt rw2 0 (r0 ++ (8 * m + c) :: rowO o') → (∀ z, 0 ≤ z → z < sz → rw2 z = row z) → ok (f_M_end_j76 F per p B fo sc wb we wl wla wsz wr wsp lsd lsl lsz lrw m c q a b rw2 rs) (fun x => (∀ z, 0 ≤ z → z < sz → x.1 z = row z) ∧ (-2147483648 ≤ x.2.1 ∧ x.2.1 ≤ 2147483647) ∧ ML2 x.2.2.1 x.2.2.2.1 x.2.2.2.2.1 x.2.2.2.2.2 (top20 P0 (P0M wE wL gE gL fo per wid n o r0 m c b o')) (top20 P1 (P1M wE wL gE gL sc per wid n o r0 m c a o'))) := by
    intro rw2 rs hrs hrw2 hkeep
    have hlen2 : (r0 ++ (8 * m + c) :: rowO o').length ≤ 144 := hlen
    unfold f_M_end_j76
    refine lq5_ok (fun (v : Int) d1 l1 z1 w1 => (v = 0 ∧ ML2 d1 l1 z1 w1 P0 P1) ∨ (v = 1 ∧ ML2 d1 l1 z1 w1 (top20 P0 (P0M wE wL gE gL fo per wid n o r0 m c b o')) P1) ∨ (v = 2 ∧ ML2 d1 l1 z1 w1 (top20 P0 (P0M wE wL gE gL fo per wid n o r0 m c b o')) (top20 P1 (P1M wE wL gE gL sc per wid n o r0 m c a o')))) (fun v _ _ _ _ => (2 - v).toNat) _ ?_ F 0 lsd lsl lsz lrw (Or.inl ⟨rfl, hP⟩) (by show (2 - (0 : Int)).toNat < F; omega)
    rintro self v d1 l1 z1 w1 hI hs
    unfold f_M_end_b79
    rcases hI with ⟨rfl, hI⟩ | ⟨rfl, hI⟩ | ⟨rfl, hI⟩
    · refine ok_gr ⟨by omega, by omega⟩ (ok_if (fun z => by omega) (fun _ => ?_))
      rw [e_slack0 hF hwid hp hq hp2 hq2 hB (by omega), ob1_s, hrs]
      exact ok_ob4 (s_list0 hF h0 hrw2 rfl hI) (fun d2 l2 z2 w2 hr => hs _ _ _ _ _ (Or.inr (Or.inl ⟨rfl, hr⟩)) (by show (2 - ((0 : Int) + 1)).toNat < (2 - (0 : Int)).toNat; omega))
    · refine ok_gr ⟨by omega, by omega⟩ (ok_if (fun z => by omega) (fun _ => ?_))
      rw [e_slack1 hF rfl hwid hp hq hp2 hq2 hB (by omega), ob1_s, hrs]
      exact ok_ob4 (s_list1 hF h1 hrw2 rfl hI) (fun d2 l2 z2 w2 hr => hs _ _ _ _ _ (Or.inr (Or.inr ⟨rfl, hr⟩)) (by show (2 - ((1 : Int) + 1)).toNat < (2 - (1 : Int)).toNat; omega))
    · refine ok_gr ⟨by omega, by omega⟩ (ok_if (fun _ => ?_) (fun z => by omega))
      exact ok_some.mpr ⟨hkeep, by show -2147483648 ≤ rs ∧ rs ≤ 2147483647; omega, hI⟩
  unfold f_M_end
  refine ok_gi ⟨by omega, by omega⟩ (ok_bd.mpr ?_)
  have hbase : rowAt (ui row sz (8 * m + c)) 0 (r0 ++ [8 * m + c]) := by rw [hsz]; exact rowAt_snoc hr0
  refine lq3_ok (fun (v : Int) rw2 rs => ∃ k : Nat, v = (k : Int) ∧ k ≤ (rowO o').length ∧ rs = ((r0.length + 1 + k : Nat) : Int) ∧ rowAt rw2 0 (r0 ++ [8 * m + c] ++ (rowO o').take k) ∧ ∀ z, 0 ≤ z → z < sz → rw2 z = row z) (fun v _ _ => (144 - v).toNat) _ ?_ F 0 _ _ ⟨0, rfl, Nat.zero_le _, by omega, by rw [List.take_zero, List.append_nil]; exact hbase, fun z z1 z2 => ui_n (by omega)⟩ (by show (144 - (0 : Int)).toNat < F; omega)
  rintro self v rw2 rs ⟨k, hk, hkl, hrs, hR, hkeep⟩ hs
  have happ : r0 ++ (8 * m + c) :: rowO o' = r0 ++ [8 * m + c] ++ rowO o' := by rw [List.append_assoc]; rfl
  have hdone : k = (rowO o').length → ok (f_M_end_j76 F per p B fo sc wb we wl wla wsz wr wsp lsd lsl lsz lrw m c q a b rw2 rs) (fun x => (∀ z, 0 ≤ z → z < sz → x.1 z = row z) ∧ (-2147483648 ≤ x.2.1 ∧ x.2.1 ≤ 2147483647) ∧ ML2 x.2.2.1 x.2.2.2.1 x.2.2.2.2.1 x.2.2.2.2.2 (top20 P0 (P0M wE wL gE gL fo per wid n o r0 m c b o')) (top20 P1 (P1M wE wL gE gL sc per wid n o r0 m c a o'))) := by
    intro e
    refine hfin rw2 rs ?_ ?_ hkeep
    · rw [hrs, List.length_append, List.length_cons]; omega
    · rw [happ]
      rw [e, List.take_length] at hR
      exact hR
  unfold f_M_end_b24
  rcases hq with ⟨g1, g2⟩ | ⟨i, w, hMW, hnd, hi, hqi, ho', hnn, hel⟩
  · refine ok_gr ⟨by omega, by omega⟩ (ok_if (fun _ => hdone ?_) (fun z => by omega))
    rw [g2] at hkl ⊢
    exact Nat.le_zero.mp hkl
  · obtain ⟨x1, x2, x3, x4, x5, x6, x7⟩ := hMW.2.2 i w hi
    have hil := getE_lt hi
    have h8 := hMW.2.1
    rw [← hqi] at x5 x7
    have hrl : (rowO o').length = w.2.length + 1 := by rw [ho']; exact rowW_len w
    refine ok_gr ⟨by omega, by omega⟩ (ok_if (fun z => by omega) (fun _ => ?_))
    rw [x5]
    refine ok_gi ⟨by omega, by omega⟩ (ok_gr ⟨by omega, by omega⟩ (ok_gr ⟨by omega, by omega⟩ (ok_if (fun c2 => hdone (by omega)) (fun c2 => ?_))))
    have hkw : k ≤ w.2.length := by omega
    have hgt : some (wr (49 * q + k)) = (rowO o')[k]? := by rw [ho']; exact (x7 k hkw).1
    refine ok_gi ⟨by omega, by omega⟩ (ok_gi ⟨by omega, by omega⟩ (ok_bd.mpr ?_))
    refine hs _ _ _ ⟨k + 1, by omega, by omega, by omega, ?_, fun z z1 z2 => ?_⟩ (by show (144 - (v + 1)).toNat < (144 - v).toNat; omega)
    · have h3 := rowAt_snoc (v := wr (49 * q + v)) hR
      have hl3 : ((r0 ++ [8 * m + c] ++ (rowO o').take k).length : Int) = rs := by
        rw [List.length_append, List.length_append, List.length_take, hrs]
        have e1 : [8 * m + c].length = 1 := rfl
        omega
      rw [hl3, List.append_assoc (r0 ++ [8 * m + c])] at h3
      rw [List.take_add_one, ← hgt, hk.symm]
      exact h3
    · rw [ui_n (by omega)]; exact hkeep z z1 z2
theorem rowAt_cg {A B : Int → Int} {r : List Int} (h : rowAt A 0 r) (e : ∀ z, 0 ≤ z → z < (r.length : Int) → B z = A z) : rowAt B 0 r := by
  intro j x q
  rw [e (0 + j) (by omega) (by have := getE_lt q; omega)]
  exact h j x q
theorem s_endAll {n p B m c a b sz rs : Int} {o : Option (Int × List Int)} {row lsd lsl lsz lrw : Int → Int} {r0 : List Int} {P0 P1 : List (Int × List Int)} (hF : 200 ≤ F) (hwid : 1 ≤ wid ∧ wid < per ∧ per ≤ 1000000) (hp : isQ wE wL gE gL wid wc wb we wl wla wsz wr wsp LL n p o) (hE : endW kd pn so se wE wL gE gL wid wc wb we wl wla wsz wr wsp LL m) (hp2 : -2147483648 ≤ p ∧ p < 384) (hB : B = wbs wid o) (hm : 0 ≤ m ∧ m < 48) (hc : c = 0 ∨ c = 1) (hsz : sz = (r0.length : Int)) (hr0 : rowAt row 0 r0) (hrs : -2147483648 ≤ rs ∧ rs ≤ 2147483647) (h0 : ∀ o' ∈ wys kd pn so se m, PE (P0M wE wL gE gL fo per wid n o r0 m c b o')) (h1 : ∀ o' ∈ wys kd pn so se m, PE (P1M wE wL gE gL sc per wid n o r0 m c a o')) (hP : ML2 lsd lsl lsz lrw P0 P1) :
    ok (f_M_endAll F per p B rs kd fo sc wc wb we wl wla wsz wr wsp row lsd lsl lsz lrw m c sz a b) (fun x => (∀ z, 0 ≤ z → z < sz → x.1 z = row z) ∧ (-2147483648 ≤ x.2.1 ∧ x.2.1 ≤ 2147483647) ∧ ML2 x.2.2.1 x.2.2.2.1 x.2.2.2.2.1 x.2.2.2.2.2 (((wys kd pn so se m).map (P0M wE wL gE gL fo per wid n o r0 m c b)).foldl top20 P0) (((wys kd pn so se m).map (P1M wE wL gE gL sc per wid n o r0 m c a)).foldl top20 P1)) := by
  unfold f_M_endAll
  rcases hE with ⟨h4, hw0, hw⟩ | ⟨h3, e1, e2, e3, e4⟩
  · refine ok_gi hm (ok_gr ⟨by omega, by omega⟩ (ok_if (fun _ => ?_) (fun z => absurd h4 z)))
    have hmem : (none : Option (Int × List Int)) ∈ wys kd pn so se m := by rw [hw]; exact List.mem_singleton.mpr rfl
    refine ok_ob6 (s_end hF hwid hp (Or.inl ⟨by omega, rfl⟩) hp2 (by omega) hB hm hc hsz hr0 (h0 _ hmem) (h1 _ hmem) hP) (fun r2 rs2 d2 l2 z2 w2 hr => ?_)
    obtain ⟨k1, k2, k3⟩ := hr
    unfold f_M_endAll_j23
    refine lq7_ok (fun (v : Int) r3 rs3 d3 l3 z3 w3 => v = 0 ∧ r3 = r2 ∧ rs3 = rs2 ∧ d3 = d2 ∧ l3 = l2 ∧ z3 = z2 ∧ w3 = w2) (fun _ _ _ _ _ _ _ => 0) _ ?_ F 0 r2 rs2 d2 l2 z2 w2 ⟨rfl, rfl, rfl, rfl, rfl, rfl, rfl⟩ (by show 0 < F; omega)
    rintro self v r3 rs3 d3 l3 z3 w3 ⟨rfl, rfl, rfl, rfl, rfl, rfl, rfl⟩ -
    unfold f_M_endAll_b26
    rw [hw0]
    refine ok_gi hm (ok_gr ⟨by omega, by omega⟩ (ok_gr ⟨by omega, by omega⟩ (ok_if (fun _ => ?_) (fun z => absurd (Int.le_refl 0) z))))
    refine ok_some.mpr ⟨k1, k2, ?_⟩
    rw [hw]
    exact k3
  · refine ok_gi hm (ok_gr ⟨by omega, by omega⟩ (ok_if (fun z => by omega) (fun _ => ?_)))
    unfold f_M_endAll_j23
    refine lq7_ok (fun (v : Int) r3 rs3 d3 l3 z3 w3 => ∃ k : Nat, v = (k : Int) ∧ k ≤ (LL m).length ∧ (∀ z, 0 ≤ z → z < sz → r3 z = row z) ∧ (-2147483648 ≤ rs3 ∧ rs3 ≤ 2147483647) ∧ ML2 d3 l3 z3 w3 (((((LL m).take k).map some).map (P0M wE wL gE gL fo per wid n o r0 m c b)).foldl top20 P0) (((((LL m).take k).map some).map (P1M wE wL gE gL sc per wid n o r0 m c a)).foldl top20 P1)) (fun v _ _ _ _ _ _ => (8 - v).toNat) _ ?_ F 0 row rs lsd lsl lsz lrw ⟨0, rfl, Nat.zero_le _, fun z _ _ => rfl, hrs, hP⟩ (by show (8 - (0 : Int)).toNat < F; omega)
    rintro self v r3 rs3 d3 l3 z3 w3 ⟨k, hk, hkl, i1, i2, i3⟩ hs
    unfold f_M_endAll_b26
    rw [e1]
    refine ok_gi hm (ok_gr ⟨by omega, by omega⟩ (ok_gr ⟨by omega, by omega⟩ (ok_if (fun c2 => ?_) (fun c2 => ?_))))
    · have ek : k = (LL m).length := by omega
      rw [ek, List.take_length, ← e3] at i3
      exact ok_some.mpr ⟨i1, i2, i3⟩
    · have hkL : k < (LL m).length := by omega
      have hget : (LL m)[k]? = some (LL m)[k] := List.getElem?_eq_getElem hkL
      have hmem : some (LL m)[k] ∈ wys kd pn so se m := by rw [e3]; exact List.mem_map.mpr ⟨_, List.getElem_mem hkL, rfl⟩
      refine ok_gi hm (ok_gr ⟨by omega, by omega⟩ (ok_if (fun _ => ?_) (fun z => absurd h3 z)))
      rw [hk]
      refine ok_ob6 (s_end hF hwid hp (e4 k _ hget) hp2 (by omega) hB hm hc hsz (rowAt_cg hr0 (fun z z1 z2 => i1 z z1 (by omega))) (h0 _ hmem) (h1 _ hmem) i3) (fun r2 rs2 d2 l2 z2 w2 hr => ?_)
      obtain ⟨k1, k2, k3⟩ := hr
      refine hs _ _ _ _ _ _ _ ⟨k + 1, by omega, by omega, fun z z1 z2 => (k1 z z1 z2).trans (i1 z z1 z2), k2, ?_⟩ (by show (8 - ((k : Int) + 1)).toNat < (8 - v).toNat; omega)
      rw [List.take_add_one, hget, List.map_append, List.map_append, List.map_append, List.foldl_append, List.foldl_append]
      exact k3
end MEN
