/-! the reference's analysis -/
section MAN
variable {F : Nat} {kd pn so se wE wL gE gL sE sL su ho fo sc fr dM dN : Int → Int} {size wid per : Int}
theorem s_clearAll {le ge S lsd : Int → Int} (hF : 200 ≤ F) : ok (f_M_clearAll F le ge S lsd) (fun r => (∀ i, 0 ≤ i → i < 192 → r.1 i = -2147483648 ∧ r.2.1 i = -2147483648) ∧ (∀ i, 0 ≤ i → i < 96 → r.2.2.1 i = -2147483648) ∧ (r.2.2.2.1 = -2147483648 ∧ r.2.2.2.2.1 = -2147483648) ∧ r.2.2.2.2.2 0 = 0 ∧ r.2.2.2.2.2 1 = 0) := by
  unfold f_M_clearAll
  refine lq3_ok (fun (v : Int) A B => (0 ≤ v ∧ v ≤ 192) ∧ ∀ i, 0 ≤ i → i < v → A i = -2147483648 ∧ B i = -2147483648) (fun v _ _ => (192 - v).toNat) _ ?_ F 0 le ge ⟨by omega, fun i a b => by omega⟩ (by show (192 - (0 : Int)).toNat < F; omega)
  rintro self v A B ⟨hv, hA⟩ hs
  unfold f_M_clearAll_b2
  refine ok_gr ⟨by omega, by omega⟩ (ok_if (fun h => ?_) (fun h => ?_))
  · have e : v = 192 := by omega
    rw [e] at hA
    refine lq2_ok (fun (u : Int) C => (0 ≤ u ∧ u ≤ 96) ∧ ∀ i, 0 ≤ i → i < u → C i = -2147483648) (fun u _ => (96 - u).toNat) _ ?_ F 0 S ⟨by omega, fun i a b => by omega⟩ (by show (96 - (0 : Int)).toNat < F; omega)
    rintro self2 u C ⟨hu, hC⟩ hs2
    unfold f_M_clearAll_b33
    refine ok_gr ⟨by omega, by omega⟩ (ok_if (fun h => ?_) (fun h => ?_))
    · have e : u = 96 := by omega
      rw [e] at hC
      refine ok_gi ⟨by omega, by omega⟩ (ok_bd.mpr (ok_gi ⟨by omega, by omega⟩ (ok_bd.mpr (ok_some.mpr ⟨hA, hC, ⟨rfl, rfl⟩, ?_, ?_⟩))))
      · show ui (ui lsd 0 0) 1 0 0 = 0
        rw [ui_n (by omega), ui_s]
      · show ui (ui lsd 0 0) 1 0 1 = 0
        exact ui_s _ _ _
    · refine ok_gi ⟨by omega, by omega⟩ (ok_bd.mpr (hs2 _ _ ⟨by omega, fun i a b => ?_⟩ (by show (96 - (u + 1)).toNat < (96 - u).toNat; omega)))
      rw [ui_e]
      by_cases e : i = u
      · rw [if_pos e]
      · rw [if_neg e]; exact hC i a (by omega)
  · refine ok_gi ⟨by omega, by omega⟩ (ok_bd.mpr (ok_gi ⟨by omega, by omega⟩ (ok_bd.mpr (hs _ _ _ ⟨by omega, fun i a b => ?_⟩ (by show (192 - (v + 1)).toNat < (192 - v).toNat; omega)))))
    rw [ui_e, ui_e]
    by_cases e : i = v
    · rw [if_pos e, if_pos e]; exact ⟨rfl, rfl⟩
    · rw [if_neg e, if_neg e]; exact hA i a (by omega)
/-- the clock's ways of a register -/
def LLn (kd pn so se : Int → Int) (n : Int) : List (Int × List Int) := if kd n = 3 then (if so (3 * n + 1) < 0 then [] else BW kd pn so se (2 * so (3 * n + 1))) else []
theorem LLn_wys {n : Int} (h : kd n = 3) : wys kd pn so se n = (LLn kd pn so se n).map some := by
  unfold wys LLn
  rw [if_pos h, if_pos h]
  by_cases q : so (3 * n + 1) < 0
  · rw [if_pos q, if_pos q]; rfl
  · rw [if_neg q, if_neg q]
theorem BW_nodup (hN : InvN size per wid kd pn so wE wL se gE gL sE sL su ho) {os : List Int} (hfu : full kd pn so se os) (s : Int) : (BW kd pn so se s).Nodup := by
  obtain ⟨hz, hpw, hk0, hk, hkd, hp, hpk, hs, hs4, hww, hse, hg, hsr, hsu, hho⟩ := hN
  obtain ⟨rk, k1, k2⟩ := full_rk hz.2 hkd hfu
  exact bw_nodup k1 (isK_nil hk0) (insN_est hp) (insN_nodup kd pn so se) 49 s (k2 s)
theorem endW_of (hN : InvN size per wid kd pn so wE wL se gE gL sE sL su ho) {os : List Int} (hfu : full kd pn so se os) {wc wb we wl wla wsz wr wsp : Int → Int} (hMW : ∀ n, 0 ≤ n → n < size → MW wE wL gE gL wid wc wb we wl wla wsz wr wsp n (LLn kd pn so se n)) : ∀ m, 0 ≤ m → m < size → (kd m = 4 ∨ kd m = 3) → endW kd pn so se wE wL gE gL wid wc wb we wl wla wsz wr wsp (LLn kd pn so se) m := by
  intro m m1 m2 hm
  have h := hMW m m1 m2
  have hnd := BW_nodup hN hfu
  obtain ⟨hz, hpw, hk0, hk, hkd, hp, hpk, hs, hs4, hww, hse, hg, hsr, hsu, hho⟩ := hN
  rcases hm with hm | hm
  · refine Or.inl ⟨hm, ?_, ?_⟩
    · have e : LLn kd pn so se m = [] := by unfold LLn; rw [if_neg (by omega)]
      rw [e] at h
      exact h.1
    · unfold wys; rw [if_neg (by omega), if_pos (Or.inr hm)]
  · refine Or.inr ⟨hm, h.1, h.2.1, LLn_wys hm, fun i w hi => Or.inr ⟨i, w, h, ?_, hi, rfl, rfl, ⟨m1, by omega⟩, ?_⟩⟩
    · unfold LLn
      rw [if_pos hm]
      by_cases q : so (3 * m + 1) < 0
      · rw [if_pos q]; exact List.nodup_nil
      · rw [if_neg q]; exact hnd _
    · have hmem : w ∈ LLn kd pn so se m := List.mem_of_getElem? hi
      unfold LLn at hmem
      rw [if_pos hm] at hmem
      by_cases q : so (3 * m + 1) < 0
      · rw [if_pos q] at hmem; cases hmem
      · rw [if_neg q] at hmem; exact BW_el hz.2 hkd hk0 hp hfu hmem
/-- what the reference answers to 'analyse' and has behind it -/
def MAR (kd pn so se wE wL gE gL sE sL fo sc : Int → Int) (size per wid : Int) (cnt an : Int) (wc le ge S : Int → Int) (ww wo : Int) (all : Int64) (rs : Int) (lsd lsl lsz lrw : Int → Int) : Prop :=
  (-2147483648 ≤ rs ∧ rs ≤ 2147483647) ∧ (((∃ g, (0 ≤ g ∧ g < size) ∧ isCyc kd pn so size g) ∧ cnt = -1 ∧ an = 0) ∨ (isCyc kd pn so size (-2147483648) ∧ (∃ n, (0 ≤ n ∧ n < size) ∧ tang kd pn so se n) ∧ cnt = -2 ∧ an = 0) ∨
  (isCyc kd pn so size (-2147483648) ∧ (∀ n, 0 ≤ n → n < size → ¬ tang kd pn so se n) ∧ ∃ os, full kd pn so se os ∧ (∀ n, 0 ≤ n → n < size → kd n = 3 → wc n = ((wys kd pn so se n).length : Int)) ∧ (min all.toInt 4001 = min (sumN (nbeg kd pn so se size) size.toNat) 4001 ∧ 0 ≤ all.toInt ∧ all.toInt ≤ 1000000000) ∧ MFI kd pn so se wE wL gE gL sE sL fo sc size per wid os wc all cnt an wc le ge S ww wo all rs lsd lsl lsz lrw))
theorem FAT_0 {os : List Int} {A B : Int → Int} (h : ∀ i, 0 ≤ i → i < 192 → A i = -2147483648 ∧ B i = -2147483648) : FAT kd pn so se wE wL gE gL sE sL size wid os [] A B := by
  refine ⟨fun i a b => by have := h i a b; omega, fun m c b m1 m2 hc hb => ?_⟩
  have q := h (4 * m + 2 * c + b) (by omega) (by omega)
  rw [q.1, q.2]
  exact ⟨mnN_0 (fun x ⟨t, z, _⟩ => by cases z), mxN_0 (fun x ⟨t, z, _⟩ => by cases z)⟩
theorem FST_0 {os : List Int} {S : Int → Int} (h : ∀ i, 0 ≤ i → i < 96 → S i = -2147483648) : FST kd pn so se wE wL gE gL sE sL fo sc size per wid os [] S (-2147483648) (-2147483648) := by
  refine ⟨⟨fun i a b => by have := h i a b; omega, by omega, by omega⟩, fun m m1 m2 => ?_, mnN_0 (fun x ⟨t, z, _⟩ => by cases z), mnN_0 (fun x ⟨t, z, _⟩ => by cases z)⟩
  rw [h (2 * m) (by omega) (by omega), h (2 * m + 1) (by omega) (by omega)]
  exact ⟨mnN_0 (fun x ⟨t, z, _⟩ => by cases z), mnN_0 (fun x ⟨t, z, _⟩ => by cases z)⟩
theorem s_b93 {thr gts sN sC sW sB sa sb rs : Int} {od cw th ea la le ge S wc wb we wl wla wsz wr wsp aN aC aX aE aL row lsd lsl lsz lrw : Int → Int} {go : Int → Int64} (hF : 10 ^ 160 ≤ F) (hN : InvN size per wid kd pn so wE wL se gE gL sE sL su ho) (hM : InvM size per wid kd pn so wE wL se gE gL sE sL su ho per wid size kd pn fr wE wL se dM dN fo sc) (hgt : 0 ≤ gts ∧ gts ≤ 48) (hfu : full kd pn so se (lst od gts)) (hcy : isCyc kd pn so size (-2147483648)) (hnt : ∀ n, 0 ≤ n → n < size → ¬ tang kd pn so se n) (hcw : ∀ s, 0 ≤ s → s < 96 → cw s = min ((BW kd pn so se s).length : Int) 9) (hrs : -2147483648 ≤ rs ∧ rs ≤ 2147483647) (hwc : ∀ n, 0 ≤ n → n < size → wc n = 0) :
    ok (lq13 (f_M_analyse_b93 F per wid size sN sC sW sB sa sb rs kd pn fr wE wL se dM dN fo sc ea la le ge S go aE aL lsd lsl lsz lrw thr od gts th cw) F 0 wc wb we wl wla wsz wr wsp aN aC aX row) (fun r => r.2.1 = thr ∧ MAR kd pn so se wE wL gE gL sE sL fo sc size per wid r.1 r.2.2.1 r.2.2.2.2.2.1 r.2.2.2.2.2.2.2.2.2.2.2.2.2.2.2.2.2.2.2.2.2.2.2.1 r.2.2.2.2.2.2.2.2.2.2.2.2.2.2.2.2.2.2.2.2.2.2.2.2.1 r.2.2.2.2.2.2.2.2.2.2.2.2.2.2.2.2.2.2.2.2.2.2.2.2.2.1 r.2.2.2.2.2.2.2.2.2.2.2.2.2.2.2.2.2.2.2.2.2.2.2.2.2.2.1 r.2.2.2.2.2.2.2.2.2.2.2.2.2.2.2.2.2.2.2.2.2.2.2.2.2.2.2.1 r.2.2.2.2.2.2.2.2.2.2.2.2.2.2.2.2.2.2.2.2.2.2.2.2.2.2.2.2.2.1 r.2.2.2.2.2.2.2.2.2.2.2.2.2.2.2.2.2.2.2.2.2.2.2.2.2.2.2.2.2.2.2.2.2.2.2.2.1 r.2.2.2.2.2.2.2.2.2.2.2.2.2.2.2.2.2.2.2.2.2.2.2.2.2.2.2.2.2.2.2.2.2.2.2.2.2.1 r.2.2.2.2.2.2.2.2.2.2.2.2.2.2.2.2.2.2.2.2.2.2.2.2.2.2.2.2.2.2.2.2.2.2.2.2.2.2.1 r.2.2.2.2.2.2.2.2.2.2.2.2.2.2.2.2.2.2.2.2.2.2.2.2.2.2.2.2.2.2.2.2.2.2.2.2.2.2.2.1 r.2.2.2.2.2.2.2.2.2.2.2.2.2.2.2.2.2.2.2.2.2.2.2.2.2.2.2.2.2.2.2.2.2.2.2.2.2.2.2.2) := by
  have hF200 : 200 ≤ F := Nat.le_trans (by decide) hF
  have hF60 : 10 ^ 60 ≤ F := Nat.le_trans (by decide) hF
  have hN' := hN
  have hM' := hM
  obtain ⟨hz, hpw, hk0, hk, hkd, hp, hpk, hs, hs4, hw, hse, hg, hsr, hsu, hho⟩ := hN'
  obtain ⟨-, -, hfr, hfr2, -, -, -, hd2, hd3, -, hf1, hf3, hfs⟩ := hM'
  obtain ⟨rk, hrk, hrk2⟩ := full_rk hz.2 hkd hfu
  have hGs : ∀ n ∈ lst od gts, 0 ≤ n ∧ n < size := fun n hn => by
    have := hkd n (by rw [topo_kd _ hfu.1.1 n hn]; omega)
    omega
  have hd : ∀ n, kd n = 2 → ∀ p c, 0 ≤ p → p < 3 → (c = 0 ∨ c = 1) → dM (6 * n + 2 * p + c) = gE (2 * (3 * n + p) + c) ∧ dN (6 * n + 2 * p + c) = gL (2 * (3 * n + p) + c) := by
    intro n h p c p1 p2 hc
    rw [show 2 * (3 * n + p) + c = 6 * n + 2 * p + c by omega]
    exact hd2 _ (by rw [show (6 * n + 2 * p + c) / 6 = n by omega]; exact h)
  have hne : ∀ n ∈ lst od gts, ∀ p, 0 ≤ p → p < pn n → so (3 * n + p) ≠ n := by
    intro n hn p p1 p2 q
    have h1 := rk_os hfu.1.1 hfu.2
    obtain ⟨rk', a1, a2⟩ := h1
    have h2 := aft_topo _ hfu.1.1 n p hn p1 p2 (by rw [q]; exact hn)
    rw [q] at h2
    omega
  refine lq13_ok (fun (v : Int) wc wb we wl wla wsz wr wsp _ _ _ _ => (0 ≤ v ∧ v ≤ size) ∧ ∀ n, 0 ≤ n → n < size → MW wE wL gE gL wid wc wb we wl wla wsz wr wsp n (if n < v then LLn kd pn so se n else [])) (fun v _ _ _ _ _ _ _ _ _ _ _ _ => (48 - v).toNat) _ ?_ F 0 wc wb we wl wla wsz wr wsp aN aC aX row ⟨by omega, fun n n1 n2 => ?_⟩ (by show (48 - (0 : Int)).toNat < F; omega)
  · clear hwc
    clear wc wb we wl wla wsz wr wsp aN aC aX row
    rintro self v wc wb we wl wla wsz wr wsp aN aC aX row ⟨hv, hMW⟩ hself
    unfold f_M_analyse_b93
    refine ok_gr ⟨by omega, by omega⟩ (ok_gr ⟨by omega, by omega⟩ (ok_if (fun h => ?_) (fun h => ?_)))
    · have ev : v = size := by omega
      subst ev
      have hMW' : ∀ n, 0 ≤ n → n < v → MW wE wL gE gL wid wc wb we wl wla wsz wr wsp n (LLn kd pn so se n) := fun n a b => by
        have := hMW n a b
        rwa [if_pos b] at this
      have hE := endW_of hN hfu hMW'
      have hw8 : ∀ n, 0 ≤ n → n < v → (wys kd pn so se n).length ≤ 8 ∧ (kd n = 3 → wc n = ((wys kd pn so se n).length : Int)) := fun n a b => wys_8 hk hE ⟨a, b⟩
      refine ok_ob6 (s_clearAll hF200) (fun le1 ge1 S1 w1 o1 ls1 hr => ?_)
      obtain ⟨c1, c2, ⟨c3, c4⟩, c5, c6⟩ := hr
      simp only at c1 c2 c3 c4 c5 c6
      rw [c3, c4]
      refine ok_ob2 (s_countGoals (wE := wE) (wL := wL) (gE := gE) (gL := gL) hF200 hz hk hs hse hp hfr hfr2 hgt hGs hne (fun n a b => (hw8 n a b).2) (fun n a b => (hw8 n a b).1)) (fun go1 all1 hr => ?_)
      obtain ⟨G, E0, hGP⟩ := hr
      simp only at hGP
      have hpaths := GP_paths hz hkd hfu hGP
      refine ok_imp (s_starts (LL := LLn kd pn so se) hF hN hM hgt hfu hrk hrk2 hE (fun s m c w a1 a2 a3 a4 a5 a6 => GP_dead hz hkd hfu hGP a1 a2 a3 a4 a5 a6) (mpe0 hN hM hfu) (mpe1 hN hM hfu) hrs (FAT_0 c1) (FST_0 c2) ⟨⟨c5, Nat.zero_le _, List.Pairwise.nil, fun i p q => by simp at q⟩, ⟨c6, Nat.zero_le _, List.Pairwise.nil, fun i p q => by simp at q⟩⟩) (fun r hr => ?_)
      obtain ⟨ht, ⟨e1, e2, e3, e4⟩, rest⟩ := hr
      refine ⟨ht, rest.1, Or.inr (Or.inr ⟨hcy, hnt, lst od gts, hfu, fun n a b => ?_, ?_, ⟨⟨e1, e2, rfl, rfl⟩, rest.1, rest.2.1, rest.2.2.1, ?_⟩⟩)⟩
      · rw [e3]; exact (hw8 n a b).2
      · rw [e4]; exact ⟨hpaths, hGP.2.2.2.2⟩
      · rw [e4]; exact rest.2.2.2
    · have hkv := hk v
      refine ok_gi ⟨by omega, by omega⟩ (ok_gr ⟨by omega, by omega⟩ (ok_if (fun h3 => ?_) (fun h3 => ?_)))
      · have hnv := hnt v hv.1 (by omega)
        refine ok_ob12 (s_findWays hF60 hz hkd hk0 hse hp hfu hrk hrk2 hfr hfr2 hd hcw (r := v) (by omega) (fun q => by
          by_cases q2 : 8 < (BW kd pn so se (2 * so (3 * v + 1))).length
          · exact absurd ⟨h3, q, q2⟩ hnv
          · omega)) (fun x1 x2 x3 x4 x5 x6 x7 x8 x9 x10 x11 x12 hr => ?_)
        obtain ⟨r1, r2⟩ := hr
        simp only at r1 r2
        unfold f_M_analyse_j116
        refine hself _ _ _ _ _ _ _ _ _ _ _ _ _ ⟨by omega, fun n n1 n2 => ?_⟩ (by show (48 - (v + 1)).toNat < (48 - v).toNat; omega)
        by_cases e : n = v
        · subst e
          rw [if_pos (by omega)]
          unfold LLn
          rw [if_pos h3]
          exact r1
        · have := r2 n e _ (hMW n n1 n2)
          by_cases q : n < v
          · rw [if_pos q] at this; rw [if_pos (by omega)]; exact this
          · rw [if_neg q] at this; rw [if_neg (by omega)]; exact this
      · unfold f_M_analyse_j116
        refine hself _ _ _ _ _ _ _ _ _ _ _ _ _ ⟨by omega, fun n n1 n2 => ?_⟩ (by show (48 - (v + 1)).toNat < (48 - v).toNat; omega)
        have := hMW n n1 n2
        by_cases e : n = v
        · subst e
          rw [if_neg (by omega)] at this
          rw [if_pos (by omega)]
          unfold LLn
          rw [if_neg h3]
          exact this
        · by_cases q : n < v
          · rw [if_pos q] at this; rw [if_pos (by omega)]; exact this
          · rw [if_neg q] at this; rw [if_neg (by omega)]; exact this
  · rw [if_neg (by omega)]
    exact ⟨hwc n n1 n2, Nat.zero_le _, fun i w q => by simp at q⟩
theorem s_Manalyse {gts sN sC sW sB sa sb ww wo rs : Int} {od cw th ea la le ge S wc wb we wlx wla wsz wr wsp aN aC aX aE aL row lsd lsl lsz lrw : Int → Int} {go : Int → Int64} {all : Int64} (hF : 10 ^ 160 ≤ F) (hN : InvN size per wid kd pn so wE wL se gE gL sE sL su ho) (hM : InvM size per wid kd pn so wE wL se gE gL sE sL su ho per wid size kd pn fr wE wL se dM dN fo sc) (hrs : -2147483648 ≤ rs ∧ rs ≤ 2147483647) :
    ok (f_M_analyse F per wid size gts sN sC sW sB sa sb ww wo all rs kd pn fr wE wL se dM dN fo sc od wc wb we wlx wla wsz wr wsp cw th ea la le ge S go aN aC aX aE aL row lsd lsl lsz lrw) (fun r => r.2.1 = 0 ∧ MAR kd pn so se wE wL gE gL sE sL fo sc size per wid r.1 r.2.2.1 r.2.2.2.2.2.1 r.2.2.2.2.2.2.2.2.2.2.2.2.2.2.2.2.2.2.2.2.2.2.2.1 r.2.2.2.2.2.2.2.2.2.2.2.2.2.2.2.2.2.2.2.2.2.2.2.2.1 r.2.2.2.2.2.2.2.2.2.2.2.2.2.2.2.2.2.2.2.2.2.2.2.2.2.1 r.2.2.2.2.2.2.2.2.2.2.2.2.2.2.2.2.2.2.2.2.2.2.2.2.2.2.1 r.2.2.2.2.2.2.2.2.2.2.2.2.2.2.2.2.2.2.2.2.2.2.2.2.2.2.2.1 r.2.2.2.2.2.2.2.2.2.2.2.2.2.2.2.2.2.2.2.2.2.2.2.2.2.2.2.2.2.1 r.2.2.2.2.2.2.2.2.2.2.2.2.2.2.2.2.2.2.2.2.2.2.2.2.2.2.2.2.2.2.2.2.2.2.2.2.1 r.2.2.2.2.2.2.2.2.2.2.2.2.2.2.2.2.2.2.2.2.2.2.2.2.2.2.2.2.2.2.2.2.2.2.2.2.2.1 r.2.2.2.2.2.2.2.2.2.2.2.2.2.2.2.2.2.2.2.2.2.2.2.2.2.2.2.2.2.2.2.2.2.2.2.2.2.2.1 r.2.2.2.2.2.2.2.2.2.2.2.2.2.2.2.2.2.2.2.2.2.2.2.2.2.2.2.2.2.2.2.2.2.2.2.2.2.2.2.1 r.2.2.2.2.2.2.2.2.2.2.2.2.2.2.2.2.2.2.2.2.2.2.2.2.2.2.2.2.2.2.2.2.2.2.2.2.2.2.2.2) := by
  have hF200 : 200 ≤ F := Nat.le_trans (by decide) hF
  have hN' := hN
  have hM' := hM
  obtain ⟨hz, hpw, hk0, hk, hkd, hp, hpk, hs, hs4, hw, hse, hg, hsr, hsu, hho⟩ := hN'
  obtain ⟨-, -, hfr, hfr2, -, -, -, hd2, hd3, -, hf1, hf3, hfs⟩ := hM'
  unfold f_M_analyse
  refine ok_ob3 (s_cycle hF200 hz hk hkd hp hfr hfr2) (fun r11 thr th2 hr => ?_)
  obtain ⟨hc, ht⟩ := hr
  simp only at hc ht
  have hcr : -2147483648 ≤ r11 ∧ r11 < 48 := by rcases hc with ⟨q, -⟩ | ⟨q, -⟩ <;> omega
  refine ok_gr ⟨by omega, by omega⟩ (ok_if (fun h => ?_) (fun h => ?_))
  · have hcy : isCyc kd pn so size (-2147483648) := by
      rcases hc with ⟨q, q2⟩ | ⟨q, -⟩
      · exact Or.inl ⟨rfl, q2⟩
      · omega
    have hac : ∀ n, ¬ wl (Eg kd pn so) size.toNat n n := by
      intro n q
      have := wl_in (Eg_in (pn := pn) (so := so) hkd) _ _ _ q
      rcases hcy with ⟨-, q2⟩ | ⟨q2, -⟩
      · exact q2 n (by omega) (by omega) q
      · omega
    refine ok_ob3 (s_Msort (se := se) hF200 hz hk hkd hp hfr hfr2 hac) (fun od2 gts2 th3 hr => ?_)
    obtain ⟨hgt, hfu⟩ := hr
    simp only at hgt hfu
    have hfu' : full kd pn so se (lst od2 gts2) := hfu
    have hGs : ∀ n ∈ lst od2 gts2, 0 ≤ n ∧ n < size := fun n hn => by
      have := hkd n (by rw [topo_kd _ hfu'.1.1 n hn]; omega)
      omega
    refine ok_ob1 (s_countClock (wE := wE) (wL := wL) (gE := gE) (gL := gL) hF200 hz hse hp hfr hfr2 hgt hGs) (fun cw2 hcv => ?_)
    have hcw : ∀ s, 0 ≤ s → s < 96 → cw2 s = min ((BW kd pn so se s).length : Int) 9 := fun s a b => by
      have := hcv s a b
      rwa [BW_len hz.2 hkd hk0 hfu'] at this
    refine lq2_ok (fun (v : Int) wc => (0 ≤ v ∧ v ≤ size) ∧ (∀ n, 0 ≤ n → n < v → wc n = 0) ∧ ∀ n, 0 ≤ n → n < v → ¬ tang kd pn so se n) (fun v _ => (48 - v).toNat) _ ?_ F 0 wc ⟨by omega, fun n a b => by omega, fun n a b => by omega⟩ (by show (48 - (0 : Int)).toNat < F; omega)
    clear wc
    rintro self v wc ⟨hv, hwc, hnt⟩ hself
    unfold f_M_analyse_b29
    refine ok_gr ⟨by omega, by omega⟩ (ok_gr ⟨by omega, by omega⟩ (ok_if (fun h1 => ?_) (fun h1 => ?_)))
    · have ev : v = size := by omega
      rw [ev] at hwc hnt
      refine ok_imp (s_b93 hF hN hM hgt hfu' hcy hnt hcw hrs hwc) (fun r hr => ⟨hr.1.trans ht, hr.2⟩)
    · have hf := hfr (3 * v + 1) (by omega) (by omega)
      have hf2 := hfr2 (3 * v + 1)
      have hkv := hk v
      have hstep : ¬ tang kd pn so se v → ok (f_M_analyse_j85 F v self (ui wc v 0)) (fun r => r.2.1 = 0 ∧ MAR kd pn so se wE wL gE gL sE sL fo sc size per wid r.1 r.2.2.1 r.2.2.2.2.2.1 r.2.2.2.2.2.2.2.2.2.2.2.2.2.2.2.2.2.2.2.2.2.2.2.1 r.2.2.2.2.2.2.2.2.2.2.2.2.2.2.2.2.2.2.2.2.2.2.2.2.1 r.2.2.2.2.2.2.2.2.2.2.2.2.2.2.2.2.2.2.2.2.2.2.2.2.2.1 r.2.2.2.2.2.2.2.2.2.2.2.2.2.2.2.2.2.2.2.2.2.2.2.2.2.2.1 r.2.2.2.2.2.2.2.2.2.2.2.2.2.2.2.2.2.2.2.2.2.2.2.2.2.2.2.1 r.2.2.2.2.2.2.2.2.2.2.2.2.2.2.2.2.2.2.2.2.2.2.2.2.2.2.2.2.2.1 r.2.2.2.2.2.2.2.2.2.2.2.2.2.2.2.2.2.2.2.2.2.2.2.2.2.2.2.2.2.2.2.2.2.2.2.2.1 r.2.2.2.2.2.2.2.2.2.2.2.2.2.2.2.2.2.2.2.2.2.2.2.2.2.2.2.2.2.2.2.2.2.2.2.2.2.1 r.2.2.2.2.2.2.2.2.2.2.2.2.2.2.2.2.2.2.2.2.2.2.2.2.2.2.2.2.2.2.2.2.2.2.2.2.2.2.1 r.2.2.2.2.2.2.2.2.2.2.2.2.2.2.2.2.2.2.2.2.2.2.2.2.2.2.2.2.2.2.2.2.2.2.2.2.2.2.2.1 r.2.2.2.2.2.2.2.2.2.2.2.2.2.2.2.2.2.2.2.2.2.2.2.2.2.2.2.2.2.2.2.2.2.2.2.2.2.2.2.2) := by
        intro hno
        unfold f_M_analyse_j85
        refine hself _ _ ⟨by omega, fun n a b => ?_, fun n a b => ?_⟩ (by show (48 - (v + 1)).toNat < (48 - v).toNat; omega)
        · rw [ui_e]
          by_cases e : n = v
          · rw [if_pos e]
          · rw [if_neg e]; exact hwc n a (by omega)
        · by_cases e : n = v
          · rw [e]; exact hno
          · exact hnt n a (by omega)
      refine ok_gi ⟨by omega, by omega⟩ (ok_bd.mpr (ok_gi ⟨by omega, by omega⟩ (ok_bd.mpr (ok_gi ⟨by omega, by omega⟩ (ok_gr ⟨by omega, by omega⟩ (ok_if (fun h3 => ?_) (fun h3 => hstep (fun q => h3 q.1))))))))
      refine ok_gr ⟨by omega, by omega⟩ (ok_if (fun h4 => hstep (fun q => by have := q.2.1; omega)) (fun h4 => ?_))
      have hso : fr (3 * v + 1) = so (3 * v + 1) := by omega
      have hsb := hs (3 * v + 1)
      have hc2 := hcw (2 * so (3 * v + 1)) (by omega) (by omega)
      rw [hso]
      refine ok_gi ⟨by omega, by omega⟩ (ok_gr ⟨by omega, by omega⟩ (ok_if (fun h5 => hstep (fun q => by have := q.2.2; omega)) (fun h5 => ?_)))
      exact ok_some.mpr ⟨ht, hrs, Or.inr (Or.inl ⟨hcy, ⟨v, ⟨hv.1, by omega⟩, h3, by omega, by omega⟩, rfl, rfl⟩)⟩
  · refine ok_some.mpr ⟨ht, hrs, Or.inl ⟨⟨r11, ?_, hc⟩, rfl, rfl⟩⟩
    rcases hc with ⟨q, -⟩ | ⟨q, -⟩
    · omega
    · exact q
end MAN
