/-! the reference's loop over all starts -/
section MLP
variable {F : Nat} {kd pn so se wE wL gE gL sE sL su ho fo sc fr dM dN : Int → Int} {size wid per : Int} {wc wb we wl wla wsz wr wsp : Int → Int} {LL : Int → List (Int × List Int)}
theorem fG1_mem (hz : size ≤ 48) (hkd : ∀ i, kd i ≠ 0 → 0 < i ∧ i < size) {os : List Int} (h : full kd pn so se os) {x a b : Int} (s : Int) (v : Int × Int) : v ∈ fG pn so se wE wL gE gL os (V1 x a b) s ↔ ∃ w, isW (insN kd pn so se) x w s ∧ v = (a + sm (dE wE gE) w, b + sm (dE wL gL) w) := by
  obtain ⟨rk, h1, h2⟩ := full_rk hz hkd h
  rw [fG_vs hz hkd h, vs_mem h1 49 s v (h2 s)]
  constructor
  · rintro ⟨y, w, v0, a1, a2, a3⟩
    unfold V1 at a2
    by_cases q : y = x
    · rw [if_pos q] at a2
      have e := List.mem_singleton.mp a2
      rw [e] at a3
      subst q
      exact ⟨w, a1, a3⟩
    · rw [if_neg q] at a2; cases a2
  · rintro ⟨w, a1, a3⟩
    refine ⟨x, w, (a, b), a1, ?_, a3⟩
    unfold V1
    rw [if_pos rfl]
    exact List.mem_singleton.mpr rfl
theorem stv_b (hN : InvN size per wid kd pn so wE wL se gE gL sE sL su ho) {os : List Int} (hfu : full kd pn so se os) {n c : Int} {o : Option (Int × List Int)} (h : o ∈ wys kd pn so se n) : (-1000000 ≤ (stv wE wL gE gL sE sL wid n c o).1 ∧ (stv wE wL gE gL sE sL wid n c o).1 ≤ 3000000) ∧ -1000000 ≤ (stv wE wL gE gL sE sL wid n c o).2 ∧ (stv wE wL gE gL sE sL wid n c o).2 ≤ 3000000 := by
  obtain ⟨hz, hpw, hk0, hk, hkd, hp, hpk, hs, hs4, hw, hse, hg, hsr, hsu, hho⟩ := hN
  have b1 := wdl_b hz.2 hkd hk0 (fun i => by have := hw i; omega) (fun i => by have := hg i; omega) hfu h n (wE := wE) (gE := gE)
  have b2 := wdl_b hz.2 hkd hk0 (fun i => by have := hw i; omega) (fun i => by have := hg i; omega) hfu h n (wE := wL) (gE := gL)
  have b3 := wbs_b (wid := wid) (by omega) o
  have b4 := hsr (2 * n + c)
  unfold stv
  simp only
  omega
theorem WW_b (hN : InvN size per wid kd pn so wE wL se gE gL sE sL su ho) {os : List Int} (hfu : full kd pn so se os) {t : Int × Int × Option (Int × List Int)} (h : t.2.2 ∈ wys kd pn so se t.1) (s : Int) (v : Int × Int) (hv : v ∈ WW pn so se wE wL gE gL sE sL wid os t s) : (-20000000 ≤ v.1 ∧ v.1 ≤ 20000000) ∧ -20000000 ≤ v.2 ∧ v.2 ≤ 20000000 := by
  have b0 := stv_b hN hfu h (c := t.2.1)
  obtain ⟨hz, hpw, hk0, hk, hkd, hp, hpk, hs, hs4, hw, hse, hg, hsr, hsu, hho⟩ := hN
  obtain ⟨w, a1, a2⟩ := (fG1_mem hz.2 hkd hfu s v).mp hv
  obtain ⟨rk, h1, h2⟩ := full_rk hz.2 hkd hfu
  have l := isW_len h1 w s a1
  have r := h2 s
  have b1 := sm_b (dE_b (wE := wE) (gE := gE) (fun i => by have := hw i; omega) (fun i => by have := hg i; omega)) w
  have b2 := sm_b (dE_b (wE := wL) (gE := gL) (fun i => by have := hw i; omega) (fun i => by have := hg i; omega)) w
  rw [a2]
  simp only
  omega
theorem MS_of (hN : InvN size per wid kd pn so wE wL se gE gL sE sL su ho) (hM : InvM size per wid kd pn so wE wL se gE gL sE sL su ho per wid size kd pn fr wE wL se dM dN fo sc) {os : List Int} (hfu : full kd pn so se os) {t : Int × Int × Option (Int × List Int)} {p B : Int} (h : t.2.2 ∈ wys kd pn so se t.1) (hQ : isQ wE wL gE gL wid wc wb we wl wla wsz wr wsp LL t.1 p t.2.2) (hp2 : -2147483648 ≤ p ∧ p < 384) (hB : B = wbs wid t.2.2) (hE : ∀ m, 0 ≤ m → m < size → (kd m = 4 ∨ kd m = 3) → endW kd pn so se wE wL gE gL wid wc wb we wl wla wsz wr wsp LL m) : MS kd pn so se wE wL gE gL fo sc size wid per wc wb we wl wla wsz wr wsp LL t.1 p B t.2.2 (WW pn so se wE wL gE gL sE sL wid os t) := by
  have hW := WW_b hN hfu h
  obtain ⟨hz, hpw, hk0, hk, hkd, hp, hpk, hs, hs4, hw, hse, hg, hsr, hsu, hho⟩ := hN
  obtain ⟨-, -, -, -, -, -, -, -, -, -, -, -, hfs⟩ := hM
  refine ⟨⟨by omega, by omega, by omega⟩, hQ, hp2, hB, hW, fun m o' ho' => ⟨crd_b hz.2 hkd hk0 hw hg hfu h, wdl_b hz.2 hkd hk0 (fun i => by have := hw i; omega) (fun i => by have := hg i; omega) hfu ho' m, wdl_b hz.2 hkd hk0 (fun i => by have := hw i; omega) (fun i => by have := hg i; omega) hfu ho' m⟩, hfs, hw, hE⟩
def cntS (S : Int → Int) (size : Int) : Int := sumN (fun i => if S (2 * i) = -2147483648 then 0 else 1) size.toNat
theorem s_cnt {thr gts sN sC sW sB sa sb ww wo rs : Int} {od cw th ea la le ge S aN aC aX aE aL row lsd lsl lsz lrw : Int → Int} {go : Int → Int64} {all : Int64} (hF : 200 ≤ F) (hz : 1 ≤ size ∧ size ≤ 48) (hS : ∀ i, 0 ≤ i → i < 96 → -2147483648 ≤ S i ∧ S i ≤ 2147483647) :
    ok (lq2 (f_M_analyse_b197 F size thr od gts cw wc wb we wl wla wsz wr wsp go all th ea la sN sC sW sB sa sb le ge S ww wo aN aC aX aE aL row rs lsd lsl lsz lrw) F 0 0) (fun r => r = (cntS S size, thr, 1, od, gts, wc, wb, we, wl, wla, wsz, wr, wsp, cw, th, ea, la, sN, sC, sW, sB, sa, sb, le, ge, S, ww, wo, go, all, aN, aC, aX, aE, aL, row, rs, lsd, lsl, lsz, lrw)) := by
  refine lq2_ok (fun (q v : Int) => (0 ≤ v ∧ v ≤ size) ∧ q = sumN (fun i => if S (2 * i) = -2147483648 then 0 else 1) v.toNat) (fun _ v => (48 - v).toNat) _ ?_ F 0 0 ⟨by omega, rfl⟩ (by show (48 - (0 : Int)).toNat < F; omega)
  rintro self q v ⟨hv, hq⟩ hs
  unfold f_M_analyse_b197
  refine ok_gr ⟨by omega, by omega⟩ (ok_gr ⟨by omega, by omega⟩ (ok_if (fun h => ?_) (fun h => ?_)))
  · have e : v = size := by omega
    refine ok_some.mpr ?_
    unfold cntS
    rw [hq, e]
  · have hSv := hS (2 * v) (by omega) (by omega)
    refine ok_gi ⟨by omega, by omega⟩ (ok_gr hSv (ok_if (fun h1 => ?_) (fun h1 => ?_)))
    · unfold f_M_analyse_j224
      refine ok_bd.mpr (hs _ _ ⟨by omega, ?_⟩ (by show (48 - (v + 1)).toNat < (48 - v).toNat; omega))
      rw [sumN_s hv.1, ← hq, if_pos h1]
    · unfold f_M_analyse_j224
      refine ok_bd.mpr (hs _ _ ⟨by omega, ?_⟩ (by show (48 - (v + 1)).toNat < (48 - v).toNat; omega))
      rw [sumN_s hv.1, ← hq, if_neg h1]
theorem wys_8 (hk : ∀ i, 0 ≤ kd i ∧ kd i ≤ 4) (hE : ∀ m, 0 ≤ m → m < size → (kd m = 4 ∨ kd m = 3) → endW kd pn so se wE wL gE gL wid wc wb we wl wla wsz wr wsp LL m) {n : Int} (hn : 0 ≤ n ∧ n < size) : (wys kd pn so se n).length ≤ 8 ∧ (kd n = 3 → wc n = ((wys kd pn so se n).length : Int)) := by
  by_cases h : kd n = 4 ∨ kd n = 3
  · rcases hE n hn.1 hn.2 h with ⟨h4, -, h5⟩ | ⟨h3, h5, h6, h7, -⟩
    · rw [h5]; exact ⟨by decide, fun z => by omega⟩
    · rw [h7, List.length_map]; exact ⟨h6, fun _ => h5⟩
  · refine ⟨?_, fun z => by omega⟩
    unfold wys
    rw [if_neg (by omega)]
    by_cases q : kd n = 1 ∨ kd n = 4
    · rw [if_pos q]; decide
    · rw [if_neg q]; exact Nat.zero_le _
/-- the reference behind its analysis -/
def MFI (kd pn so se wE wL gE gL sE sL fo sc : Int → Int) (size per wid : Int) (os : List Int) (wc : Int → Int) (all : Int64) (cnt an : Int) (wc' le ge S : Int → Int) (ww wo : Int) (all' : Int64) (rs : Int) (lsd lsl lsz lrw : Int → Int) : Prop :=
  (cnt = cntS S size ∧ an = 1 ∧ wc' = wc ∧ all' = all) ∧ (-2147483648 ≤ rs ∧ rs ≤ 2147483647) ∧ FAT kd pn so se wE wL gE gL sE sL size wid os (AL kd pn so se size 0) le ge ∧ FST kd pn so se wE wL gE gL sE sL fo sc size per wid os (AL kd pn so se size 0) S ww wo ∧
  (¬ 0 < lc all 4000 → ML2 lsd lsl lsz lrw (((AL kd pn so se size 0).flatMap (ptA0 kd pn so se wE wL gE gL sE sL fo size per wid)).foldl top20 []) (((AL kd pn so se size 0).flatMap (ptA1 kd pn so se wE wL gE gL sE sL sc size per wid)).foldl top20 []))
theorem s_starts {rk : Int → Nat} {thr gts sN sC sW sB sa sb ww wo rs : Int} {od cw th ea la le ge S aN aC aX aE aL row lsd lsl lsz lrw : Int → Int} {go : Int → Int64} {all : Int64} (hF : 10 ^ 160 ≤ F) (hN : InvN size per wid kd pn so wE wL se gE gL sE sL su ho) (hM : InvM size per wid kd pn so wE wL se gE gL sE sL su ho per wid size kd pn fr wE wL se dM dN fo sc) (hgt : 0 ≤ gts ∧ gts ≤ 48) (hfu : full kd pn so se (lst od gts)) (hrk : ∀ s et, et ∈ insN kd pn so se s → rk et.2 < rk s) (hrk2 : ∀ s, rk s < 49)
    (hE : ∀ m, 0 ≤ m → m < size → (kd m = 4 ∨ kd m = 3) → endW kd pn so se wE wL gE gL wid wc wb we wl wla wsz wr wsp LL m) (hdead : ∀ (s m c : Int) (w : List Int), 0 ≤ s ∧ s < 96 → ¬ 0 < lc (go s) 0 → 0 ≤ m ∧ m < size → EN kd so m → (c = 0 ∨ c = 1) → isW (insN kd pn so se) s w (2 * so (3 * m) + c) → wys kd pn so se m = [])
    (hPE0 : ∀ t ∈ AL kd pn so se size 0, ∀ x ∈ ptA0 kd pn so se wE wL gE gL sE sL fo size per wid t, PE x) (hPE1 : ∀ t ∈ AL kd pn so se size 0, ∀ x ∈ ptA1 kd pn so se wE wL gE gL sE sL sc size per wid t, PE x)
    (hrs : -2147483648 ≤ rs ∧ rs ≤ 2147483647) (h0 : FAT kd pn so se wE wL gE gL sE sL size wid (lst od gts) [] le ge) (h1 : FST kd pn so se wE wL gE gL sE sL fo sc size per wid (lst od gts) [] S ww wo) (h2 : ML2 lsd lsl lsz lrw [] []) :
    ok (lq26 (f_M_analyse_b132 F per size kd pn fr wE wL se dM dN fo sc thr od gts cw wc wb we wl wla wsz wr wsp go all) F 0 th ea la sN sC sW sB sa sb le ge S ww wo aN aC aX aE aL row rs lsd lsl lsz lrw) (fun r => r.2.1 = thr ∧ MFI kd pn so se wE wL gE gL sE sL fo sc size per wid (lst od gts) wc all r.1 r.2.2.1 r.2.2.2.2.2.1 r.2.2.2.2.2.2.2.2.2.2.2.2.2.2.2.2.2.2.2.2.2.2.2.1 r.2.2.2.2.2.2.2.2.2.2.2.2.2.2.2.2.2.2.2.2.2.2.2.2.1 r.2.2.2.2.2.2.2.2.2.2.2.2.2.2.2.2.2.2.2.2.2.2.2.2.2.1 r.2.2.2.2.2.2.2.2.2.2.2.2.2.2.2.2.2.2.2.2.2.2.2.2.2.2.1 r.2.2.2.2.2.2.2.2.2.2.2.2.2.2.2.2.2.2.2.2.2.2.2.2.2.2.2.1 r.2.2.2.2.2.2.2.2.2.2.2.2.2.2.2.2.2.2.2.2.2.2.2.2.2.2.2.2.2.1 r.2.2.2.2.2.2.2.2.2.2.2.2.2.2.2.2.2.2.2.2.2.2.2.2.2.2.2.2.2.2.2.2.2.2.2.2.1 r.2.2.2.2.2.2.2.2.2.2.2.2.2.2.2.2.2.2.2.2.2.2.2.2.2.2.2.2.2.2.2.2.2.2.2.2.2.1 r.2.2.2.2.2.2.2.2.2.2.2.2.2.2.2.2.2.2.2.2.2.2.2.2.2.2.2.2.2.2.2.2.2.2.2.2.2.2.1 r.2.2.2.2.2.2.2.2.2.2.2.2.2.2.2.2.2.2.2.2.2.2.2.2.2.2.2.2.2.2.2.2.2.2.2.2.2.2.2.1 r.2.2.2.2.2.2.2.2.2.2.2.2.2.2.2.2.2.2.2.2.2.2.2.2.2.2.2.2.2.2.2.2.2.2.2.2.2.2.2.2) := by
  have hF200 : 200 ≤ F := Nat.le_trans (by decide) hF
  have hN' := hN
  have hM' := hM
  obtain ⟨hz, hpw, hk0, hk, hkd, hp, hpk, hs, hs4, hw, hse, hg, hsr, hsu, hho⟩ := hN'
  obtain ⟨-, -, hfr, hfr2, -, -, -, hd2, hd3, -, hf1, hf3, hfs⟩ := hM'
  have hwid : 1 ≤ wid ∧ wid < per ∧ per ≤ 1000000 := ⟨by omega, by omega, by omega⟩
  have hGs : ∀ n ∈ lst od gts, 0 ≤ n ∧ n < size := fun n hn => by
    have := hkd n (by rw [topo_kd _ hfu.1.1 n hn]; omega)
    omega
  have hd : ∀ n, kd n = 2 → ∀ p c, 0 ≤ p → p < 3 → (c = 0 ∨ c = 1) → dM (6 * n + 2 * p + c) = gE (2 * (3 * n + p) + c) ∧ dN (6 * n + 2 * p + c) = gL (2 * (3 * n + p) + c) := by
    intro n h p c p1 p2 hc
    rw [show 2 * (3 * n + p) + c = 6 * n + 2 * p + c by omega]
    exact hd2 _ (by rw [show (6 * n + 2 * p + c) / 6 = n by omega]; exact h)
  have hst : ∀ n c, (c = 0 ∨ c = 1) → (kd n = 1 → sE (2 * n + c) = fo (2 * n + c) ∧ sL (2 * n + c) = sc (2 * n + c)) ∧ (kd n = 3 → sE (2 * n + c) = dM (6 * n + 2 + c) ∧ sL (2 * n + c) = dN (6 * n + 2 + c)) := by
    intro n c hc
    refine ⟨fun h => ?_, fun h => ?_⟩
    · have := hf1 (2 * n + c) (by rw [show (2 * n + c) / 2 = n by omega]; exact h)
      exact ⟨this.1.symm, this.2.symm⟩
    · have := hd3 n c h hc
      exact ⟨this.1.symm, this.2.symm⟩
  refine lq26_ok (fun (v : Int) _ _ _ _ _ _ _ _ _ le ge S ww wo _ _ _ _ _ _ (rs : Int) lsd lsl lsz lrw => (0 ≤ v ∧ v ≤ size) ∧ (-2147483648 ≤ rs ∧ rs ≤ 2147483647) ∧ FAT kd pn so se wE wL gE gL sE sL size wid (lst od gts) (AL kd pn so se v 0) le ge ∧ FST kd pn so se wE wL gE gL sE sL fo sc size per wid (lst od gts) (AL kd pn so se v 0) S ww wo ∧ (¬ 0 < lc all 4000 → ML2 lsd lsl lsz lrw (((AL kd pn so se v 0).flatMap (ptA0 kd pn so se wE wL gE gL sE sL fo size per wid)).foldl top20 []) (((AL kd pn so se v 0).flatMap (ptA1 kd pn so se wE wL gE gL sE sL sc size per wid)).foldl top20 []))) (fun v _ _ _ _ _ _ _ _ _ _ _ _ _ _ _ _ _ _ _ _ _ _ _ _ _ => (48 - v).toNat) _ ?_ F 0 th ea la sN sC sW sB sa sb le ge S ww wo aN aC aX aE aL row rs lsd lsl lsz lrw ⟨by omega, hrs, h0, h1, fun _ => h2⟩ (by show (48 - (0 : Int)).toNat < F; omega)
  clear h0 h1 h2 hrs
  clear th ea la sN sC sW sB sa sb le ge S ww wo aN aC aX aE aL row rs lsd lsl lsz lrw
  rintro self v th ea la sN sC sW sB sa sb le ge S ww wo aN aC aX aE aL row rs lsd lsl lsz lrw ⟨hv, hrs, h0, h1, h2⟩ hself
  unfold f_M_analyse_b132
  refine ok_gr ⟨by omega, by omega⟩ (ok_gr ⟨by omega, by omega⟩ (ok_if (fun hz1 => ?_) (fun hz1 => ?_)))
  · have ev : v = size := by omega
    subst ev
    refine ok_imp (s_cnt hF200 hz h1.1.1) (fun r hr => ?_)
    rw [hr]
    exact ⟨rfl, ⟨rfl, rfl, rfl, rfl⟩, hrs, h0, h1, h2⟩
  · have hw8 := wys_8 hk hE (n := v) (by omega)
    have hsl := stL_len (kd := kd) (pn := pn) (so := so) (se := se) v
    have h16 : (stL kd pn so se v).length ≤ 16 := by
      by_cases q : kd v = 1 ∨ kd v = 3
      · rw [if_pos q] at hsl; omega
      · rw [if_neg q] at hsl; omega
    refine lq26_ok (fun (u : Int) _ _ _ _ _ _ _ _ _ le ge S ww wo _ _ _ _ _ _ (rs : Int) lsd lsl lsz lrw => ∃ k : Nat, u = (k : Int) ∧ k ≤ (stL kd pn so se v).length ∧ (-2147483648 ≤ rs ∧ rs ≤ 2147483647) ∧ FAT kd pn so se wE wL gE gL sE sL size wid (lst od gts) (AL kd pn so se v k) le ge ∧ FST kd pn so se wE wL gE gL sE sL fo sc size per wid (lst od gts) (AL kd pn so se v k) S ww wo ∧ (¬ 0 < lc all 4000 → ML2 lsd lsl lsz lrw (((AL kd pn so se v k).flatMap (ptA0 kd pn so se wE wL gE gL sE sL fo size per wid)).foldl top20 []) (((AL kd pn so se v k).flatMap (ptA1 kd pn so se wE wL gE gL sE sL sc size per wid)).foldl top20 []))) (fun u _ _ _ _ _ _ _ _ _ _ _ _ _ _ _ _ _ _ _ _ _ _ _ _ _ => (16 - u).toNat) _ ?_ F 0 th ea la sN sC sW sB sa sb le ge S ww wo aN aC aX aE aL row rs lsd lsl lsz lrw ⟨0, rfl, Nat.zero_le _, hrs, h0, h1, h2⟩ (by show (16 - (0 : Int)).toNat < F; omega)
    clear h0 h1 h2 hrs
    clear th ea la sN sC sW sB sa sb le ge S ww wo aN aC aX aE aL row rs lsd lsl lsz lrw
    rintro self2 u th ea la sN sC sW sB sa sb le ge S ww wo aN aC aX aE aL row rs lsd lsl lsz lrw ⟨k, hu, hkl, hrs, h0, h1, h2⟩ hself2
    unfold f_M_analyse_b142
    rw [e_starts (pn := pn) (so := so) (se := se) hk (by omega) hw8.2, ob1_s, ← hsl, hu]
    refine ok_gr ⟨by omega, by omega⟩ (ok_gr ⟨by omega, by omega⟩ (ok_if (fun hle => ?_) (fun hle => ?_)))
    · have ek : k = (stL kd pn so se v).length := by omega
      rw [AL_e hv.1 ek] at h0 h1 h2
      exact hself _ _ _ _ _ _ _ _ _ _ _ _ _ _ _ _ _ _ _ _ _ _ _ _ _ _ ⟨by omega, hrs, h0, h1, h2⟩ (by show (48 - (v + 1)).toNat < (48 - v).toNat; omega)
    · have hkl' : k < (stL kd pn so se v).length := by omega
      have hget : (stL kd pn so se v)[k]? = some (stL kd pn so se v)[k] := List.getElem?_eq_getElem hkl'
      obtain ⟨s, hsd⟩ : ∃ s, s = (stL kd pn so se v)[k] := ⟨_, rfl⟩
      rw [← hsd] at hget
      have hsm : s ∈ stL kd pn so se v := by rw [hsd]; exact List.getElem_mem hkl'
      obtain ⟨m1, m2, m3⟩ := stL_mem.mp hsm
      obtain ⟨p, hQ, hp2, hset⟩ := s_setStart (F := F) (dM := dM) (dN := dN) (sE := sE) (sL := sL) (fo := fo) (sc := sc) hz hk (n := v) (by omega) hget (by omega) hE hst
      have htm : (v, s) ∈ AL kd pn so se size 0 := AL_mem.mpr ⟨⟨hv.1, by show v < size; omega⟩, m1, m2, m3⟩
      refine ok_ob6 (P := fun r => r = (v, s.1, p, wbs wid s.2, (stv wE wL gE gL sE sL wid v s.1 s.2).1, (stv wE wL gE gL sE sL wid v s.1 s.2).2)) ⟨_, hset, rfl⟩ (fun a1 a2 a3 a4 a5 a6 h => ?_)
      simp only [Prod.mk.injEq] at h
      obtain ⟨e1, e2, e3, e4, e5, e6⟩ := h
      rw [e1, e2, e3, e4, e5, e6]
      have hAL := AL_s hget
      have hsb := stv_b hN hfu m3 (c := s.1)
      have hMS := MS_of (t := (v, s)) hN hM hfu m3 hQ hp2 rfl hE
      refine ok_ob8 (s_fromStart (b0 := bb wid s.2) (o := s.2) hF200 hz hk hs hse hp hw hg hfr hfr2 hgt hGs (fun n hn => hd n (topo_kd _ hfu.1.1 n hn)) (by omega) (by omega) (by omega) rfl hMS (FAT_in h0) (FST_in h1)) (fun x1 x2 x3 x4 x5 x6 x7 x8 hr => ?_)
      obtain ⟨r1, r2⟩ := hr
      simp only at r1 r2
      have g0 : FAT kd pn so se wE wL gE gL sE sL size wid (lst od gts) (AL kd pn so se v (k + 1)) x4 x5 := by rw [hAL]; exact FAT_out (t := (v, s)) r1
      have g1 : FST kd pn so se wE wL gE gL sE sL fo sc size per wid (lst od gts) (AL kd pn so se v (k + 1)) x6 x7 x8 := by rw [hAL]; exact FST_out (t := (v, s)) r2
      have hlr := lc_r all 4000
      refine ok_gr hlr (ok_if (fun hmany => ?_) (fun hfew => ?_))
      · unfold f_M_analyse_j176
        exact hself2 _ _ _ _ _ _ _ _ _ _ _ _ _ _ _ _ _ _ _ _ _ _ _ _ _ _ ⟨k + 1, by omega, by omega, hrs, g0, g1, fun z => absurd hmany z⟩ (by show (16 - ((k : Int) + 1)).toNat < (16 - u).toNat; omega)
      · have hpx0 := hPE0 _ htm
        have hpx1 := hPE1 _ htm
        unfold ptA0 at hpx0
        unfold ptA1 at hpx1
        have hrT := rowT_S (c0 := s.1) hQ
        have k2 := h2 hfew
        refine ok_ob11 (s_walk (o := s.2) (B := wbs wid s.2) hF hz hk hkd hpk hs hse hp hfr hfr2 hd hrk hrk2 hdead (by omega) m2 hwid hQ hp2 rfl (fun m q1 q2 q3 => hE m q1 q2 q3.1) (fun t ht x hx => hpx0 x (List.mem_flatMap.mpr ⟨t, ht, by rw [hrT] at hx; exact hx⟩)) (fun t ht x hx => hpx1 x (List.mem_flatMap.mpr ⟨t, ht, by rw [hrT] at hx; exact hx⟩)) hrs k2) (fun y1 y2 y3 y4 y5 y6 y7 y8 y9 y10 y11 hr => ?_)
        obtain ⟨w1, w2⟩ := hr
        simp only at w1 w2
        rw [hrT] at w2
        unfold f_M_analyse_j176
        refine hself2 _ _ _ _ _ _ _ _ _ _ _ _ _ _ _ _ _ _ _ _ _ _ _ _ _ _ ⟨k + 1, by omega, by omega, w1, g0, g1, fun _ => ?_⟩ (by show (16 - ((k : Int) + 1)).toNat < (16 - u).toNat; omega)
        rw [hAL, List.flatMap_append, List.flatMap_append, List.foldl_append, List.foldl_append, List.flatMap_cons, List.flatMap_nil, List.append_nil, List.flatMap_cons, List.flatMap_nil, List.append_nil]
        exact w2
end MLP
