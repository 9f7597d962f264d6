/-! the reference's walk: all data ways of one start -/
section WK2
variable {F : Nat} {kd pn so se wE wL gE gL fo sc : Int → Int} {size wid per : Int} {wc wb we wl wla wsz wr wsp : Int → Int} {LL : Int → List (Int × List Int)}
/-- a level of the walk -/
def WKS (kd pn so se wE wL gE gL : Int → Int) (size s0 a b : Int) (nd ch nx ea la row : Int → Int) (f : Int) (j : Nat) : Prop := (0 ≤ nd j ∧ nd j < size) ∧ (ch j = 0 ∨ ch j = 1) ∧ (0 ≤ nx j ∧ nx j ≤ 6 * size) ∧ ea j = a + sm (dE wE gE) (lst (fun i => row (f + i)) j) ∧ la j = b + sm (dE wL gL) (lst (fun i => row (f + i)) j) ∧ isW (insN kd pn so se) s0 (lst (fun i => row (f + i)) j).reverse (2 * nd j + ch j)
theorem WKS_cg {s0 a b f : Int} {nd ch nx ea la row nd' ch' nx' ea' la' row' : Int → Int} {j : Nat} (h : WKS kd pn so se wE wL gE gL size s0 a b nd ch nx ea la row f j) (e1 : nd' j = nd j) (e2 : ch' j = ch j) (e3 : 0 ≤ nx' j ∧ nx' j ≤ 6 * size) (e4 : ea' j = ea j) (e5 : la' j = la j) (e6 : ∀ i, 0 ≤ i → i < (j : Int) → row' (f + i) = row (f + i)) : WKS kd pn so se wE wL gE gL size s0 a b nd' ch' nx' ea' la' row' f j := by
  have e : lst (fun i => row' (f + i)) j = lst (fun i => row (f + i)) j := lst_cg (A := fun i => row' (f + i)) (B := fun i => row (f + i)) e6
  obtain ⟨h1, h2, h3, h4, h5, h6⟩ := h
  unfold WKS
  rw [e, e1, e2, e4, e5]
  exact ⟨h1, h2, e3, h4, h5, h6⟩
theorem s_walk {n c0 p B a b rs : Int} {o : Option (Int × List Int)} {fr dM dN nd ch nx ea la row lsd lsl lsz lrw : Int → Int} {A : Int → Int64} {rk : Int → Nat} {P0 P1 : List (Int × List Int)} (hF : 10 ^ 160 ≤ F) (hz : 1 ≤ size ∧ size ≤ 48) (hk : ∀ i, 0 ≤ kd i ∧ kd i ≤ 4) (hkd : ∀ i, kd i ≠ 0 → 0 < i ∧ i < size) (hpk : ∀ i, (kd i = 0 ∨ kd i = 1 → pn i = 0) ∧ (kd i = 2 → 1 ≤ pn i) ∧ (kd i = 3 → pn i = 2) ∧ (kd i = 4 → pn i = 1)) (hs : ∀ i, -1 ≤ so i ∧ so i < size) (hse : ∀ i, 0 ≤ se i ∧ se i ≤ 2) (hp : ∀ i, 0 ≤ pn i ∧ pn i ≤ 3)
    (hfr : ∀ i, 0 ≤ i → i < 3 * size → (so i = -1 ∧ fr i = -2147483648) ∨ (0 ≤ so i ∧ fr i = so i)) (hfr2 : ∀ i, -2147483648 ≤ fr i ∧ fr i < size) (hd : ∀ n, kd n = 2 → ∀ p c, 0 ≤ p → p < 3 → (c = 0 ∨ c = 1) → dM (6 * n + 2 * p + c) = gE (2 * (3 * n + p) + c) ∧ dN (6 * n + 2 * p + c) = gL (2 * (3 * n + p) + c))
    (hrk : ∀ s et, et ∈ insN kd pn so se s → rk et.2 < rk s) (hrk2 : ∀ s, rk s < 49) (hdead : ∀ (s m c : Int) (w : List Int), 0 ≤ s ∧ s < 96 → ¬ 0 < lc (A s) 0 → 0 ≤ m ∧ m < size → EN kd so m → (c = 0 ∨ c = 1) → isW (insN kd pn so se) s w (2 * so (3 * m) + c) → wys kd pn so se m = [])
    (hn : 0 ≤ n ∧ n < size) (hc0 : c0 = 0 ∨ c0 = 1) (hwid : 1 ≤ wid ∧ wid < per ∧ per ≤ 1000000) (hq : isQ wE wL gE gL wid wc wb we wl wla wsz wr wsp LL n p o) (hp2 : -2147483648 ≤ p ∧ p < 384) (hB : B = wbs wid o) (hE : ∀ m, 0 ≤ m → m < size → EN kd so m → endW kd pn so se wE wL gE gL wid wc wb we wl wla wsz wr wsp LL m)
    (hPE0 : ∀ t ∈ rp (itA kd pn so se size) 49 (2 * n + c0), ∀ x ∈ pt0 kd pn so se wE wL gE gL fo per wid n o (rowS n c0 p o) b t, PE x) (hPE1 : ∀ t ∈ rp (itA kd pn so se size) 49 (2 * n + c0), ∀ x ∈ pt1 kd pn so se wE wL gE gL sc per wid n o (rowS n c0 p o) a t, PE x) (hrs : -2147483648 ≤ rs ∧ rs ≤ 2147483647) (hP : ML2 lsd lsl lsz lrw P0 P1) :
    ok (f_M_walk F per size n c0 p B a b rs kd pn fr wE wL se dM dN fo sc wc wb we wl wla wsz wr wsp A nd ch nx ea la row lsd lsl lsz lrw) (fun r => (-2147483648 ≤ r.2.2.2.2.2.2.1 ∧ r.2.2.2.2.2.2.1 ≤ 2147483647) ∧ ML2 r.2.2.2.2.2.2.2.1 r.2.2.2.2.2.2.2.2.1 r.2.2.2.2.2.2.2.2.2.1 r.2.2.2.2.2.2.2.2.2.2 (((rp (itA kd pn so se size) 49 (2 * n + c0)).flatMap (pt0 kd pn so se wE wL gE gL fo per wid n o (rowS n c0 p o) b)).foldl top20 P0) (((rp (itA kd pn so se size) 49 (2 * n + c0)).flatMap (pt1 kd pn so se wE wL gE gL sc per wid n o (rowS n c0 p o) a)).foldl top20 P1)) := by
  have hF200 : 200 ≤ F := Nat.le_trans (by decide) hF
  have hI := itA_inl (so := so) (se := se) hkd hp
  have hK' : ∀ s, rk s ≤ 48 := fun s => by have := hrk2 s; omega
  obtain ⟨r00, hr00⟩ : ∃ r00, r00 = rowS n c0 p o := ⟨_, rfl⟩
  obtain ⟨pa, hpa⟩ : ∃ pa, pa = pt0 kd pn so se wE wL gE gL fo per wid n o (rowS n c0 p o) b := ⟨_, rfl⟩
  obtain ⟨pb, hpb⟩ : ∃ pb, pb = pt1 kd pn so se wE wL gE gL sc per wid n o (rowS n c0 p o) a := ⟨_, rfl⟩
  obtain ⟨T0, hT0⟩ : ∃ T0, T0 = ((rp (itA kd pn so se size) 49 (2 * n + c0)).flatMap pa).foldl top20 P0 := ⟨_, rfl⟩
  obtain ⟨T1, hT1⟩ : ∃ T1, T1 = ((rp (itA kd pn so se size) 49 (2 * n + c0)).flatMap pb).foldl top20 P1 := ⟨_, rfl⟩
  rw [← hpa, ← hpb, ← hT0, ← hT1]
  rw [← hpa] at hPE0
  rw [← hpb] at hPE1
  unfold f_M_walk
  refine ok_ob2 (s_startRow (c0 := c0) (row := row) hF200 hq hp2) (fun r1 row1 hr => ?_)
  obtain ⟨hr1, hr2, hr3⟩ := hr
  simp only at hr1 hr2 hr3
  rw [← hr00] at hr1 hr2 hr3
  clear row
  refine ok_gi ⟨by omega, by omega⟩ (ok_bd.mpr (ok_gi ⟨by omega, by omega⟩ (ok_bd.mpr (ok_gi ⟨by omega, by omega⟩ (ok_bd.mpr (ok_gi ⟨by omega, by omega⟩ (ok_bd.mpr (ok_gi ⟨by omega, by omega⟩ (ok_bd.mpr ?_)))))))))
  refine lq12_ok (fun (v : Int) nd ch nx ea la row (rs : Int) lsd lsl lsz lrw => ∃ h : Nat, v = (h : Int) - 1 ∧ (∀ j : Nat, j < h → WKS kd pn so se wE wL gE gL size (2 * n + c0) a b nd ch nx ea la row r1 j) ∧ rowAt row 0 r00 ∧ (-2147483648 ≤ rs ∧ rs ≤ 2147483647) ∧ ∃ Q0 Q1, ML2 lsd lsl lsz lrw Q0 Q1 ∧ ((RMf kd pn so se size nd ch nx row r1 h).flatMap pa).foldl top20 Q0 = T0 ∧ ((RMf kd pn so se size nd ch nx row r1 h).flatMap pb).foldl top20 Q1 = T1) (fun v _ _ nx _ _ _ _ _ _ _ _ => msf nx (v + 1).toNat) _ ?_ F 0 _ _ _ _ _ row1 rs lsd lsl lsz lrw ⟨1, rfl, fun j hj => ?_, hr2, hrs, P0, P1, hP, ?_, ?_⟩ ?_
  · clear hP hrs hr2
    clear nd ch nx ea la row1 rs lsd lsl lsz lrw
    rintro self v nd ch nx ea la row rs lsd lsl lsz lrw ⟨h, hv, hS, hrow, hrs, Q0, Q1, hM, hQ0, hQ1⟩ hs1
    unfold f_M_walk_b54
    refine ok_gr ⟨by omega, by have := hS; cases h with
      | zero => omega
      | succ d => have := isW_len hrk _ _ (hS d (by omega)).2.2.2.2.2; rw [List.length_reverse, lst_len] at this; have := hrk2 (2 * nd d + ch d); omega⟩ (ok_if (fun hv0 => ?_) (fun hv0 => ?_))
    · have h0 : h = 0 := by omega
      subst h0
      have e0 : Q0 = T0 := hQ0
      have e1 : Q1 = T1 := hQ1
      rw [e0, e1] at hM
      exact ok_some.mpr ⟨hrs, hM⟩
    · cases h with
      | zero => omega
      | succ d =>
        have ev : v = (d : Int) := by omega
        subst ev
        obtain ⟨hnd, hc, hnx, hea, hla, hw⟩ := hS d (by omega)
        obtain ⟨pre, hpre⟩ : ∃ pre, pre = lst (fun i => row (r1 + i)) d := ⟨_, rfl⟩
        rw [← hpre] at hea hla hw
        have hpl : pre.length = d := by rw [hpre, lst_len]; omega
        have hd48 : d ≤ 48 := by
          have := isW_len hrk _ _ hw
          rw [List.length_reverse, hpl] at this
          have := hrk2 (2 * nd d + ch d)
          omega
        have hmt : ((d : Int) + 1).toNat = d + 1 := by omega
        have es1 : (2 * nd d + ch d) / 2 = nd d := by omega
        have es2 : (2 * nd d + ch d) % 2 = ch d := by omega
        have hnxd : ui nx d (nx d + 1) d = nx d + 1 := ui_s _ _ _
        have hnxo : ∀ j : Nat, j < d → ui nx d (nx d + 1) j = nx j := fun j hj => ui_n (by omega)
        have hgd : (0 : Int) ≤ d ∧ (d : Int) < 60 := by omega
        refine ok_gi hgd (ok_bd.mpr (ok_gi hgd (ok_gi hgd (ok_bd.mpr (ok_gr ⟨by omega, by omega⟩ (ok_gr ⟨by omega, by omega⟩ (ok_if (fun h5 => ?_) (fun h5 => ?_))))))))
        · have hms : msf (ui nx d (nx d + 1)) (d + 1) < msf nx (d + 1) := by
            show msf (ui nx d (nx d + 1)) d + (300 - ui nx d (nx d + 1) d).toNat * 1000 ^ (50 - d) < msf nx d + (300 - nx d).toNat * 1000 ^ (50 - d)
            rw [hnxd, msf_cg d hnxo]
            have : (300 - (nx d + 1)).toNat * 1000 ^ (50 - d) < (300 - nx d).toNat * 1000 ^ (50 - d) := Nat.mul_lt_mul_of_pos_right (by omega) (Nat.pow_pos (by decide))
            omega
          -- what the item reports, and the rest
          have hLV : RMf kd pn so se size nd ch nx row r1 (d + 1) = (itK kd pn so se (2 * nd d + ch d) (nx d)).flatMap (exI (itA kd pn so se size) pre) ++ RMf kd pn so se size nd ch (ui nx d (nx d + 1)) row r1 (d + 1) := by
            show LVf kd pn so se size nd ch nx row r1 d ++ RMf kd pn so se size nd ch nx row r1 d = _ ++ (LVf kd pn so se size nd ch (ui nx d (nx d + 1)) row r1 d ++ RMf kd pn so se size nd ch (ui nx d (nx d + 1)) row r1 d)
            rw [RMf_cg (nx := ui nx d (nx d + 1)) (nx' := nx) (nd' := nd) (ch' := ch) (row' := row) d (fun j hj => ⟨rfl, rfl, hnxo j hj⟩) (fun i _ _ => rfl), ← List.append_assoc]
            congr 1
            unfold LVf
            rw [hnxd, itF_s hnx.1 h5, List.flatMap_append, ← hpre]
          rw [hLV, List.flatMap_append, List.foldl_append] at hQ0 hQ1
          have hS' : ∀ j : Nat, j < d + 1 → ∀ row', (∀ z, 0 ≤ z → z < r1 + d → row' z = row z) → WKS kd pn so se wE wL gE gL size (2 * n + c0) a b nd ch (ui nx d (nx d + 1)) ea la row' r1 j := by
            intro j hj row' hr'
            refine WKS_cg (hS j hj) rfl rfl ?_ rfl rfl (fun i i1 i2 => hr' _ (by omega) (by omega))
            by_cases e : j = d
            · subst e; rw [hnxd]; omega
            · rw [hnxo j (by omega)]; exact (hS j hj).2.2.1
          have hskip : (∀ t ∈ (itK kd pn so se (2 * nd d + ch d) (nx d)).flatMap (exI (itA kd pn so se size) pre), wys kd pn so se t.2.1 = []) → ok (self d nd ch (ui nx d (nx d + 1)) ea la row rs lsd lsl lsz lrw) (fun r => (-2147483648 ≤ r.2.2.2.2.2.2.1 ∧ r.2.2.2.2.2.2.1 ≤ 2147483647) ∧ ML2 r.2.2.2.2.2.2.2.1 r.2.2.2.2.2.2.2.2.1 r.2.2.2.2.2.2.2.2.2.1 r.2.2.2.2.2.2.2.2.2.2 T0 T1) := by
            intro q
            have n0 : ((itK kd pn so se (2 * nd d + ch d) (nx d)).flatMap (exI (itA kd pn so se size) pre)).flatMap pa = [] := by
              refine List.flatMap_eq_nil_iff.mpr (fun t ht => ?_)
              rw [hpa]; unfold pt0; rw [q t ht]; rfl
            have n1 : ((itK kd pn so se (2 * nd d + ch d) (nx d)).flatMap (exI (itA kd pn so se size) pre)).flatMap pb = [] := by
              refine List.flatMap_eq_nil_iff.mpr (fun t ht => ?_)
              rw [hpb]; unfold pt1; rw [q t ht]; rfl
            rw [n0] at hQ0
            rw [n1] at hQ1
            exact hs1 _ _ _ _ _ _ _ _ _ _ _ _ ⟨d + 1, by omega, fun j hj => hS' j hj row (fun _ _ _ => rfl), hrow, hrs, Q0, Q1, hM, hQ0, hQ1⟩ (by show msf _ ((d : Int) + 1).toNat < msf _ ((d : Int) + 1).toNat; rw [hmt]; exact hms)
          have hnil : itK kd pn so se (2 * nd d + ch d) (nx d) = [] → ∀ t ∈ (itK kd pn so se (2 * nd d + ch d) (nx d)).flatMap (exI (itA kd pn so se size) pre), wys kd pn so se t.2.1 = [] := by
            intro q t ht
            rw [q] at ht
            cases ht
          obtain ⟨g, hg⟩ : ∃ g, g = nx d / 6 := ⟨_, rfl⟩
          obtain ⟨pp, hpp⟩ : ∃ pp, pp = nx d / 2 % 3 := ⟨_, rfl⟩
          obtain ⟨c, hcc⟩ : ∃ c, c = nx d % 2 := ⟨_, rfl⟩
          have hg1 : 0 ≤ g ∧ g < size := by omega
          have hp1 : 0 ≤ pp ∧ pp < 3 := by omega
          have hc1 : c = 0 ∨ c = 1 := by omega
          have hpg := hp g
          have hkg := hk g
          have hix : 0 ≤ 3 * g + pp ∧ 3 * g + pp < 144 := by omega
          have hf1 := hfr (3 * g + pp) (by omega) (by omega)
          have hf2 := hfr2 (3 * g + pp)
          have hsg := hs (3 * g + pp)
          have hit : itK kd pn so se (2 * nd d + ch d) (nx d) = if pp < pn g ∧ 0 ≤ so (3 * g + pp) ∧ so (3 * g + pp) = nd d then (if kd g = 2 then (if ltz (se (3 * g + pp)) (ch d) c = true then [Sum.inl (8 * g + 2 * pp + c, 2 * g + c)] else []) else (if pp = 0 ∧ c = ch d then [Sum.inr (g, c)] else [])) else [] := by
            unfold itK
            rw [es1, es2, ← hg, ← hpp, ← hcc]
          rw [show nx d / 6 = g from hg.symm, show nx d / 2 % 3 = pp from hpp.symm, show nx d % 2 = c from hcc.symm]
          have hgn : (0 : Int) ≤ nx d ∧ nx d ≤ 2147483647 := by omega
          refine ok_gp hgn (ok_bd.mpr (ok_gp hgn (ok_gp ⟨by omega, by omega⟩ (ok_bd.mpr (ok_gp hgn (ok_bd.mpr (ok_gi ⟨by omega, by omega⟩ (ok_gr ⟨by omega, by omega⟩ (ok_gr ⟨by omega, by omega⟩ (ok_if (fun h6 => ?_) (fun h6 => ?_)))))))))))
          · exact hskip (hnil (by rw [hit, if_neg (by omega)]))
          · refine ok_gi hix (ok_gi hgd (ok_gr ⟨by omega, by omega⟩ (ok_gr ⟨by omega, by omega⟩ (ok_if (fun h7 => ?_) (fun h7 => ?_)))))
            · have hso : so (3 * g + pp) = nd d := by omega
              rw [if_pos ⟨by omega, by omega, hso⟩] at hit
              refine ok_gi hgd (ok_gi hix (ok_bd.mpr (ok_gi hgd (ok_gi hix (ok_bd.mpr (ok_gi ⟨by omega, by omega⟩ (ok_gr ⟨by omega, by omega⟩ (ok_if (fun h8 => ?_) (fun h8 => ?_)))))))))
              · -- a gate
                rw [if_pos h8] at hit
                have hlr := lc_r (A (2 * g + c)) 0
                refine ok_gi ⟨by omega, by omega⟩ (ok_gr hlr (ok_if (fun h9 => ?_) (fun h9 => ?_)))
                · -- no goals
                  unfold f_M_walk_j370
                  refine hskip (fun t ht => ?_)
                  by_cases hl : ltz (se (3 * g + pp)) (ch d) c = true
                  · rw [hit, if_pos hl, List.flatMap_cons, List.flatMap_nil, List.append_nil] at ht
                    obtain ⟨w, hw1, hw2⟩ := List.mem_map.mp ht
                    obtain ⟨s, q1, q2⟩ := (rp_mem hrk hK' hI 49 (2 * g + c) w.1 w.2 (by omega)).mp hw1
                    obtain ⟨q3, q4⟩ := (itA_inr hk hpk s w.2).mp q2
                    obtain ⟨q5, q6, q7⟩ := enL_mem.mp q3
                    rw [← hw2]
                    refine hdead (2 * g + c) w.2.1 w.2.2 w.1.reverse ⟨by omega, by omega⟩ (by omega) q5 q6 q7 ?_
                    have q8 := isF_iff.mp q1
                    rw [← q4] at q8
                    exact q8
                  · rw [hit, if_neg hl] at ht
                    cases ht
                · refine ok_gi hgd ?_
                  rw [e_Mlets hse hix hc hc1, ob1_s]
                  have z1 := bz_1 (ltz (se (3 * g + pp)) (ch d) c = true)
                  have z2 := bz_01 (ltz (se (3 * g + pp)) (ch d) c = true)
                  refine ok_gr ⟨by omega, by omega⟩ (ok_if (fun h10 => ?_) (fun h10 => ?_))
                  · unfold f_M_walk_j370
                    exact hskip (hnil (by rw [hit, if_neg (fun z => by have := z1.mpr z; omega)]))
                  · -- forward
                    have hl : ltz (se (3 * g + pp)) (ch d) c = true := z1.mp (by omega)
                    rw [if_pos hl] at hit
                    have hins : (8 * g + 2 * pp + c, 2 * nd d + ch d) ∈ insN kd pn so se (2 * g + c) := by
                      refine insN_mem.mpr ?_
                      rw [show (2 * g + c) / 2 = g by omega, show (2 * g + c) % 2 = c by omega]
                      exact ⟨h8, pp, ch d, by omega, by omega, by omega, hl, by rw [hso]⟩
                    have hw' : isW (insN kd pn so se) (2 * n + c0) (pre ++ [8 * g + 2 * pp + c]).reverse (2 * g + c) := by
                      rw [List.reverse_append]
                      exact ⟨2 * nd d + ch d, hins, hw⟩
                    have hd47 : d ≤ 47 := by
                      have := isW_len hrk _ _ hw'
                      rw [List.length_reverse, List.length_append, hpl] at this
                      have := hrk2 (2 * g + c)
                      have e1 : [8 * g + 2 * pp + c].length = 1 := rfl
                      omega
                    obtain ⟨hd1, hd2⟩ := hd g h8 pp c hp1.1 hp1.2 hc1
                    have hg1' : (0 : Int) ≤ (d : Int) + 1 ∧ (d : Int) + 1 < 60 := by omega
                    have hdi : 0 ≤ 6 * g + 2 * pp + c ∧ 6 * g + 2 * pp + c < 288 := by omega
                    refine ok_gi ⟨by omega, by omega⟩ (ok_bd.mpr (ok_gi hg1' (ok_bd.mpr (ok_gi hg1' (ok_bd.mpr (ok_gi hg1' (ok_bd.mpr (ok_gi hdi (ok_gi hg1' (ok_bd.mpr (ok_gi hdi (ok_gi hg1' (ok_bd.mpr ?_)))))))))))))
                    unfold f_M_walk_j370
                    have e1 : (d : Int) + 1 = ((d + 1 : Nat) : Int) := by omega
                    rw [e1]
                    have hold : ∀ z, 0 ≤ z → z < r1 + d → ui row (r1 + d) (8 * g + 2 * pp + c) z = row z := fun z z1 z2 => ui_n (by omega)
                    have hrow1 : lst (fun i => ui row (r1 + d) (8 * g + 2 * pp + c) (r1 + i)) ((d + 1 : Nat) : Int) = pre ++ [8 * g + 2 * pp + c] := by
                      have : (fun i => ui row (r1 + d) (8 * g + 2 * pp + c) (r1 + i)) = ui (fun i => row (r1 + i)) d (8 * g + 2 * pp + c) := by
                        funext i
                        rw [ui_e, ui_e]
                        by_cases e : i = (d : Int)
                        · rw [if_pos e, if_pos (by omega)]
                        · rw [if_neg e, if_neg (by omega)]
                      rw [this, ← e1, lst_succ (by omega), ← hpre]
                    have hX : ∀ (nd' ch' nx' row' : Int → Int), nd' ((d + 1 : Nat) : Int) = g → ch' ((d + 1 : Nat) : Int) = c → nx' ((d + 1 : Nat) : Int) = 0 → lst (fun i => row' (r1 + i)) ((d + 1 : Nat) : Int) = pre ++ [8 * g + 2 * pp + c] → LVf kd pn so se size nd' ch' nx' row' r1 (d + 1) = (itK kd pn so se (2 * nd d + ch d) (nx d)).flatMap (exI (itA kd pn so se size) pre) := by
                      intro nd' ch' nx' row' y1 y2 y3 y4
                      unfold LVf
                      rw [y1, y2, y3, y4, itF_0, ex_full hrk hrk2 hI, hit, List.flatMap_cons, List.flatMap_nil, List.append_nil]
                      show _ = (rp (itA kd pn so se size) 49 (2 * g + c)).map _
                      refine List.map_congr_left (fun w _ => ?_)
                      rw [List.append_assoc]
                      rfl
                    have hRM : RMf kd pn so se size (ui nd ((d + 1 : Nat) : Int) g) (ui ch ((d + 1 : Nat) : Int) c) (ui (ui nx d (nx d + 1)) ((d + 1 : Nat) : Int) 0) (ui row (r1 + d) (8 * g + 2 * pp + c)) r1 (d + 2) = (itK kd pn so se (2 * nd d + ch d) (nx d)).flatMap (exI (itA kd pn so se size) pre) ++ RMf kd pn so se size nd ch (ui nx d (nx d + 1)) row r1 (d + 1) := by
                      show LVf kd pn so se size _ _ _ _ r1 (d + 1) ++ RMf kd pn so se size _ _ _ _ r1 (d + 1) = _
                      rw [hX _ _ _ _ (ui_s _ _ _) (ui_s _ _ _) (ui_s _ _ _) hrow1]
                      congr 1
                      exact RMf_cg (d + 1) (fun j hj => ⟨ui_n (by omega), ui_n (by omega), ui_n (by omega)⟩) (fun i i1 i2 => ui_n (by omega))
                    refine hs1 _ _ _ _ _ _ _ _ _ _ _ _ ⟨d + 2, by omega, fun j hj => ?_, ?_, hrs, Q0, Q1, hM, ?_, ?_⟩ ?_
                    · by_cases e2 : j = d + 1
                      · subst e2
                        unfold WKS
                        rw [hrow1, ui_s, ui_s, ui_s, ui_s, ui_s, sm_app, sm_app, hea, hla]
                        have s1 : sm (dE wE gE) [8 * g + 2 * pp + c] = wE (3 * g + pp) + gE (2 * (3 * g + pp) + c) := by
                          show dE wE gE (8 * g + 2 * pp + c) + 0 = _
                          rw [dE_at hp1 hc1]; omega
                        have s2 : sm (dE wL gL) [8 * g + 2 * pp + c] = wL (3 * g + pp) + gL (2 * (3 * g + pp) + c) := by
                          show dE wL gL (8 * g + 2 * pp + c) + 0 = _
                          rw [dE_at hp1 hc1]; omega
                        exact ⟨hg1, hc1, by omega, by omega, by omega, hw'⟩
                      · refine WKS_cg (hS' j (by omega) _ hold) (ui_n (by omega)) (ui_n (by omega)) ?_ (ui_n (by omega)) (ui_n (by omega)) (fun i _ _ => rfl)
                        rw [ui_n (by omega)]
                        exact (hS' j (by omega) _ hold).2.2.1
                    · exact rowAt_cg hrow (fun z z1 z2 => ui_n (by omega))
                    · rw [hRM, List.flatMap_append, List.foldl_append]; exact hQ0
                    · rw [hRM, List.flatMap_append, List.foldl_append]; exact hQ1
                    · show msf _ (((d + 1 : Nat) : Int) + 1).toNat < msf nx ((d : Int) + 1).toNat
                      rw [hmt, show (((d + 1 : Nat) : Int) + 1).toNat = d + 2 by omega]
                      show msf _ d + (300 - (_ : Int)).toNat * 1000 ^ (50 - d) + (300 - (_ : Int)).toNat * 1000 ^ (50 - (d + 1)) < msf nx d + (300 - nx d).toNat * 1000 ^ (50 - d)
                      rw [ui_s, ui_n (show ((d : Nat) : Int) ≠ ((d + 1 : Nat) : Int) by omega), hnxd, msf_cg (nx' := nx) d (fun j hj => by rw [ui_n (by omega), ui_n (by omega)])]
                      exact pushf_lt (by omega) hd48
              · rw [if_neg h8] at hit
                refine ok_gr ⟨by omega, by omega⟩ (ok_if (fun h9 => ?_) (fun h9 => ?_))
                · refine ok_gi hgd (ok_gr ⟨by omega, by omega⟩ (ok_gr ⟨by omega, by omega⟩ (ok_if (fun h10 => ?_) (fun h10 => ?_))))
                  · -- an end
                    rw [if_pos ⟨h9, h10⟩] at hit
                    have hmem : Sum.inr (g, c) ∈ itA kd pn so se size (2 * nd d + ch d) := by
                      unfold itA
                      refine List.mem_flatMap.mpr ⟨nx d, pinl_mem.mpr ⟨hnx.1, h5⟩, ?_⟩
                      rw [hit]
                      exact List.mem_singleton.mpr rfl
                    have hEN := (enL_mem.mp ((itA_inr hk hpk _ _).mp hmem).1).2.1
                    simp only at hEN
                    have ht : (pre, (g, c)) ∈ rp (itA kd pn so se size) 49 (2 * n + c0) := (rp_mem hrk hK' hI 49 (2 * n + c0) pre (g, c) (by omega)).mpr ⟨_, isF_iff.mpr hw, hmem⟩
                    have hx0 := hPE0 _ ht
                    have hx1 := hPE1 _ ht
                    rw [hpa] at hx0
                    rw [hpb] at hx1
                    unfold pt0 at hx0
                    unfold pt1 at hx1
                    simp only at hx0 hx1
                    rw [h9, Int.add_zero, hea, hla]
                    have hr0 : rowAt row 0 (r00 ++ pre) := by
                      refine rowAt_app hrow ?_
                      rw [← hr1, hpre]
                      exact rowAt_lst
                    refine ok_ob6 (s_endAll hF200 hwid hq (hE g hg1.1 hg1.2 hEN) hp2 hB (by omega) hc1 (r0 := r00 ++ pre) (by rw [List.length_append, hpl]; omega) hr0 hrs (fun o' ho' => ?_) (fun o' ho' => ?_) hM) (fun row2 rs2 d2 l2 z2 w2 hr => ?_)
                    · rw [hr00]; exact hx0 _ (List.mem_map.mpr ⟨o', ho', rfl⟩)
                    · rw [hr00]; exact hx1 _ (List.mem_map.mpr ⟨o', ho', rfl⟩)
                    · obtain ⟨k1, k2, k3⟩ := hr
                      simp only at k1 k2 k3
                      unfold f_M_walk_j370
                      rw [hit, List.flatMap_cons, List.flatMap_nil, List.append_nil] at hQ0 hQ1
                      have x0 : (exI (itA kd pn so se size) pre (Sum.inr (g, c))).flatMap pa = (wys kd pn so se g).map (P0M wE wL gE gL fo per wid n o (r00 ++ pre) g c (b + sm (dE wL gL) pre + wL (3 * g))) := by
                        show [(pre, (g, c))].flatMap pa = _
                        rw [List.flatMap_cons, List.flatMap_nil, List.append_nil, hpa, hr00]
                        rfl
                      have x1 : (exI (itA kd pn so se size) pre (Sum.inr (g, c))).flatMap pb = (wys kd pn so se g).map (P1M wE wL gE gL sc per wid n o (r00 ++ pre) g c (a + sm (dE wE gE) pre + wE (3 * g))) := by
                        show [(pre, (g, c))].flatMap pb = _
                        rw [List.flatMap_cons, List.flatMap_nil, List.append_nil, hpb, hr00]
                        rfl
                      rw [x0] at hQ0
                      rw [x1] at hQ1
                      have hrm : ∀ (z : Int), 0 ≤ z → z < r1 + d → row2 z = row z := fun z z1 z2 => k1 z z1 z2
                      refine hs1 _ _ _ _ _ _ _ _ _ _ _ _ ⟨d + 1, by omega, fun j hj => hS' j hj row2 hrm, rowAt_cg hrow (fun z z1 z2 => hrm z z1 (by omega)), k2, _, _, k3, ?_, ?_⟩ (by show msf _ ((d : Int) + 1).toNat < msf _ ((d : Int) + 1).toNat; rw [hmt]; exact hms)
                      · rw [RMf_cg (nd' := nd) (ch' := ch) (nx' := ui nx d (nx d + 1)) (row' := row) (d + 1) (fun j _ => ⟨rfl, rfl, rfl⟩) (fun i i1 i2 => hrm _ (by omega) (by omega))]
                        exact hQ0
                      · rw [RMf_cg (nd' := nd) (ch' := ch) (nx' := ui nx d (nx d + 1)) (row' := row) (d + 1) (fun j _ => ⟨rfl, rfl, rfl⟩) (fun i i1 i2 => hrm _ (by omega) (by omega))]
                        exact hQ1
                  · unfold f_M_walk_j370
                    exact hskip (hnil (by rw [hit, if_neg (fun z => h10 z.2)]))
                · unfold f_M_walk_j370
                  exact hskip (hnil (by rw [hit, if_neg (fun z => h9 z.1)]))
            · exact hskip (hnil (by rw [hit, if_neg (by omega)]))
        · -- back
          have hback : RMf kd pn so se size nd ch nx row r1 (d + 1) = RMf kd pn so se size nd ch (ui nx d (nx d + 1)) row r1 d := by
            show LVf kd pn so se size nd ch nx row r1 d ++ RMf kd pn so se size nd ch nx row r1 d = _
            rw [RMf_cg (nx := ui nx d (nx d + 1)) (nx' := nx) (nd' := nd) (ch' := ch) (row' := row) d (fun j hj => ⟨rfl, rfl, hnxo j hj⟩) (fun i _ _ => rfl)]
            unfold LVf
            rw [itF_e (by omega)]
            rfl
          rw [hback] at hQ0 hQ1
          refine hs1 _ _ _ _ _ _ _ _ _ _ _ _ ⟨d, by omega, fun j hj => ?_, hrow, hrs, Q0, Q1, hM, hQ0, hQ1⟩ ?_
          · refine WKS_cg (hS j (by omega)) rfl rfl ?_ rfl rfl (fun _ _ _ => rfl)
            rw [hnxo j hj]
            exact (hS j (by omega)).2.2.1
          · show msf _ ((d : Int) + (-1) + 1).toNat < msf nx ((d : Int) + 1).toNat
            rw [hmt, show ((d : Int) + (-1) + 1).toNat = d by omega, msf_cg d hnxo]
            show msf nx d < msf nx d + (300 - nx d).toNat * 1000 ^ (50 - d)
            have : 0 < (300 - nx d).toNat * 1000 ^ (50 - d) := Nat.mul_pos (by omega) (Nat.pow_pos (by decide))
            omega
  · have ej : j = 0 := by omega
    subst ej
    show (0 ≤ ui nd 0 n 0 ∧ ui nd 0 n 0 < size) ∧ (ui ch 0 c0 0 = 0 ∨ ui ch 0 c0 0 = 1) ∧ (0 ≤ ui nx 0 0 0 ∧ ui nx 0 0 0 ≤ 6 * size) ∧ ui ea 0 a 0 = a + 0 ∧ ui la 0 b 0 = b + 0 ∧ 2 * ui nd 0 n 0 + ui ch 0 c0 0 = 2 * n + c0
    rw [ui_s, ui_s, ui_s, ui_s, ui_s]
    exact ⟨hn, hc0, by omega, by omega, by omega, rfl⟩
  · have e : RMf kd pn so se size (ui nd 0 n) (ui ch 0 c0) (ui nx 0 0) row1 r1 1 = rp (itA kd pn so se size) 49 (2 * n + c0) := by
      show LVf kd pn so se size _ _ _ _ r1 0 ++ [] = _
      rw [List.append_nil]
      unfold LVf
      show (itF kd pn so se size (2 * ui nd 0 n 0 + ui ch 0 c0 0) (ui nx 0 0 0)).flatMap (exI (itA kd pn so se size) []) = _
      rw [ui_s, ui_s, ui_s, itF_0, ex_full hrk hrk2 hI]
      exact (List.map_congr_left (fun w _ => rfl)).trans (List.map_id _)
    rw [e, hT0]
  · have e : RMf kd pn so se size (ui nd 0 n) (ui ch 0 c0) (ui nx 0 0) row1 r1 1 = rp (itA kd pn so se size) 49 (2 * n + c0) := by
      show LVf kd pn so se size _ _ _ _ r1 0 ++ [] = _
      rw [List.append_nil]
      unfold LVf
      show (itF kd pn so se size (2 * ui nd 0 n 0 + ui ch 0 c0 0) (ui nx 0 0 0)).flatMap (exI (itA kd pn so se size) []) = _
      rw [ui_s, ui_s, ui_s, itF_0, ex_full hrk hrk2 hI]
      exact (List.map_congr_left (fun w _ => rfl)).trans (List.map_id _)
    rw [e, hT1]
  · show 0 + (300 - ui nx 0 0 0).toNat * 1000 ^ 50 < F
    rw [ui_s]
    exact Nat.lt_of_lt_of_le (by decide) hF
end WK2
