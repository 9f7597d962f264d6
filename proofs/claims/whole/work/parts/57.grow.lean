/-! the class's tree grows by a pin of a gate -/
section GBY
variable {so se wE wL gE gL : Int → Int}
theorem s_growBy {F : Nat} (hF : 20 ≤ F) (hs : ∀ i, -1 ≤ so i ∧ so i < 48) (hse : ∀ i, 0 ≤ se i ∧ se i ≤ 2) {n p c : Int} (hn : 0 ≤ n ∧ n < 48) (hp : 0 ≤ p ∧ p < 3) (hc : c = 0 ∨ c = 1) (hne : so (3 * n + p) ≠ n) {N : Int → Int} (hN : N (2 * n + c) = 0 ∨ N (2 * n + c) = 1)
    {sz : Int} {el pa ln ea la fi nx : Int → Int} {Wd : Int → Int × List Int} {Ch : Int → List Int} (h : TR (dE wE gE) (dE wL gL) sz el pa ln ea la fi nx Wd Ch)
    (h8 : N (2 * n + c) = 1 → (Ch (2 * n + c)).length + ((insP so se n c p).flatMap (fun et => Ch et.2)).length ≤ 8) :
    ok (f_ClockWays_growBy F sz N el pa ln ea la fi nx so wE wL se gE gL n p c) (fun r => ∃ Wd' Ch', TRr (dE wE gE) (dE wL gL) r Wd' Ch' ∧ (∀ t, 0 ≤ t → t < sz → Wd' t = Wd t) ∧ sz ≤ r.1 ∧ (∀ s, s ≠ 2 * n + c → Ch' s = Ch s) ∧ (N (2 * n + c) = 1 → List.Perm ((Ch' (2 * n + c)).map Wd') ((Ch (2 * n + c)).map Wd ++ (insP so se n c p).flatMap (fun et => (wds Wd Ch et.2).map (extw et.1)))) ∧ (N (2 * n + c) = 0 → Ch' (2 * n + c) = Ch (2 * n + c))) := by
  have hsame : ∀ (r : Int × (Int → Int) × (Int → Int) × (Int → Int) × (Int → Int) × (Int → Int) × (Int → Int) × (Int → Int)), r = (sz, el, pa, ln, ea, la, fi, nx) → (N (2 * n + c) = 1 → insP so se n c p = []) → ∃ Wd' Ch', TRr (dE wE gE) (dE wL gL) r Wd' Ch' ∧ (∀ t, 0 ≤ t → t < sz → Wd' t = Wd t) ∧ sz ≤ r.1 ∧ (∀ s, s ≠ 2 * n + c → Ch' s = Ch s) ∧ (N (2 * n + c) = 1 → List.Perm ((Ch' (2 * n + c)).map Wd') ((Ch (2 * n + c)).map Wd ++ (insP so se n c p).flatMap (fun et => (wds Wd Ch et.2).map (extw et.1)))) ∧ (N (2 * n + c) = 0 → Ch' (2 * n + c) = Ch (2 * n + c)) := by
    rintro r rfl q
    refine ⟨Wd, Ch, h, fun _ _ _ => rfl, Int.le_refl _, fun _ _ => rfl, fun r => ?_, fun _ => rfl⟩
    rw [q r, List.flatMap_nil, List.append_nil]
  unfold f_ClockWays_growBy
  refine ok_bd.mpr ?_
  rw [show n * 3 + p = 3 * n + p by omega]
  have h1 := hs (3 * n + p)
  refine ok_gi ⟨by omega, by omega⟩ (ok_gr ⟨by omega, by omega⟩ (ok_if (fun h2 => ?_) (fun h2 => ?_)))
  · refine ok_some.mpr (hsame _ rfl (fun _ => ?_))
    unfold insP
    rw [if_pos h2]
  · refine ok_gi ⟨by omega, by omega⟩ (ok_gr ⟨by omega, by omega⟩ (ok_if (fun h3 => ?_) (fun h3 => ?_)))
    · exact ok_some.mpr (hsame _ rfl (fun q => by omega))
    · clear hsame
      have hN1 : N (2 * n + c) = 1 := by omega
      rw [e_stepEarly (by omega) hc, ob1_s, e_stepLate (by omega) hc, ob1_s]
      obtain ⟨S, hS⟩ : ∃ S : Int → List Int, S = fun was => if ltz (se (3 * n + p)) was c = true then Ch (2 * so (3 * n + p) + was) else [] := ⟨_, rfl⟩
      have hSe : ∀ was, S was = if ltz (se (3 * n + p)) was c = true then Ch (2 * so (3 * n + p) + was) else [] := fun was => by rw [hS]
      have hins : ∀ {β : Type} (f : Int × Int → List β), (insP so se n c p).flatMap f = [0, 1].flatMap (fun was => if ltz (se (3 * n + p)) was c = true then f (8 * n + 2 * p + c, 2 * so (3 * n + p) + was) else []) := by
        intro β f
        unfold insP
        rw [if_neg h2, List.flatMap_assoc]
        refine flatMap_cg (fun was _ => ?_)
        by_cases q : ltz (se (3 * n + p)) was c = true
        · rw [if_pos q, if_pos q, List.flatMap_cons, List.flatMap_nil, List.append_nil]
        · rw [if_neg q, if_neg q, List.flatMap_nil]
      have h8' : (Ch (2 * n + c)).length + ((S 0).length + (S 1).length) ≤ 8 := by
        have q := h8 hN1
        rw [hins] at q
        simp only [List.flatMap_cons, List.flatMap_nil, List.append_nil, List.length_append] at q
        rw [hSe, hSe]
        exact q
      have hgoal : (insP so se n c p).flatMap (fun et => (wds Wd Ch et.2).map (extw et.1)) = (pinl 2).flatMap (fun was => (S was).map (fun t => extw (8 * n + 2 * p + c) (Wd t))) := by
        rw [hins]
        show [0, 1].flatMap _ = [0, 1].flatMap _
        refine flatMap_cg (fun was _ => ?_)
        rw [hSe]
        by_cases q : ltz (se (3 * n + p)) was c = true
        · rw [if_pos q, if_pos q]
          unfold wds
          rw [List.map_map]
          rfl
        · rw [if_neg q, if_neg q]
          rfl
      have hSin : ∀ was, (was = 0 ∨ was = 1) → ∀ t ∈ S was, 0 ≤ t ∧ t < sz := by
        intro was hw t ht
        rw [hSe] at ht
        by_cases q : ltz (se (3 * n + p)) was c = true
        · rw [if_pos q] at ht
          exact (h.2.1 (2 * so (3 * n + p) + was) (by omega) (by omega)).2.1 t ht
        · rw [if_neg q] at ht; cases ht
      refine lq9_ok (fun (v : Int) sz2 el2 pa2 ln2 ea2 la2 fi2 nx2 => (0 ≤ v ∧ v ≤ 2) ∧ ∃ Wd' Ch', TR (dE wE gE) (dE wL gL) sz2 el2 pa2 ln2 ea2 la2 fi2 nx2 Wd' Ch' ∧ (∀ t, 0 ≤ t → t < sz → Wd' t = Wd t) ∧ sz ≤ sz2 ∧ (∀ s, s ≠ 2 * n + c → Ch' s = Ch s) ∧ List.Perm ((Ch' (2 * n + c)).map Wd') ((Ch (2 * n + c)).map Wd ++ (pinl v).flatMap (fun was => (S was).map (fun t => extw (8 * n + 2 * p + c) (Wd t))))) (fun v _ _ _ _ _ _ _ _ => (2 - v).toNat) _ ?_ F 0 _ _ _ _ _ _ _ _ ⟨by omega, Wd, Ch, h, fun _ _ _ => rfl, Int.le_refl _, fun _ _ => rfl, by rw [show pinl 0 = [] from rfl, List.flatMap_nil, List.append_nil]⟩ (by show (2 - (0 : Int)).toNat < F; omega)
      rintro self v sz2 el2 pa2 ln2 ea2 la2 fi2 nx2 ⟨hv, Wd2, Ch2, hT, hW, hsz, hCh, hP⟩ hs1
      unfold f_ClockWays_growBy_b61
      refine ok_gr ⟨by omega, by omega⟩ (ok_if (fun h4 => ?_) (fun h4 => ?_))
      · have e2 : v = 2 := by omega
        subst e2
        refine ok_some.mpr ⟨Wd2, Ch2, hT, hW, hsz, hCh, fun _ => ?_, fun q => by omega⟩
        rw [hgoal]
        exact hP
      · have hsrc : 2 * so (3 * n + p) + v ≠ 2 * n + c := by omega
        have hchn : ∀ q0, (q0 = -1 ∧ S v = []) ∨ (q0 = fi2 (2 * so (3 * n + p) + v) ∧ S v = Ch (2 * so (3 * n + p) + v)) → ok (f_ClockWays_growBy_j106 F n p c (wE (3 * n + p) + gE (2 * (3 * n + p) + c)) (wL (3 * n + p) + gL (2 * (3 * n + p) + c)) v sz2 el2 pa2 ln2 ea2 la2 fi2 nx2 self q0) (fun r => ∃ Wd' Ch', TRr (dE wE gE) (dE wL gL) r Wd' Ch' ∧ (∀ t, 0 ≤ t → t < sz → Wd' t = Wd t) ∧ sz ≤ r.1 ∧ (∀ s, s ≠ 2 * n + c → Ch' s = Ch s) ∧ (N (2 * n + c) = 1 → List.Perm ((Ch' (2 * n + c)).map Wd') ((Ch (2 * n + c)).map Wd ++ (insP so se n c p).flatMap (fun et => (wds Wd Ch et.2).map (extw et.1)))) ∧ (N (2 * n + c) = 0 → Ch' (2 * n + c) = Ch (2 * n + c))) := by
          intro q0 hq0
          have hq1 : chn nx2 q0 (S v) := by
            rcases hq0 with ⟨q1, q2⟩ | ⟨q1, q2⟩
            · rw [q2]; exact q1
            · rw [q1, q2, ← hCh _ hsrc]
              exact (hT.2.1 _ (by omega) (by omega)).1
          unfold f_ClockWays_growBy_j106
          refine lq10_ok (fun (at' i : Int) sz3 el3 pa3 ln3 ea3 la3 fi3 nx3 => ∃ Wd' Ch' D R, TR (dE wE gE) (dE wL gL) sz3 el3 pa3 ln3 ea3 la3 fi3 nx3 Wd' Ch' ∧ (∀ t, 0 ≤ t → t < sz → Wd' t = Wd t) ∧ sz ≤ sz3 ∧ (∀ s, s ≠ 2 * n + c → Ch' s = Ch s) ∧ S v = D ++ R ∧ i = (D.length : Int) ∧ chn nx3 at' R ∧ List.Perm ((Ch' (2 * n + c)).map Wd') (((Ch (2 * n + c)).map Wd ++ (pinl v).flatMap (fun was => (S was).map (fun t => extw (8 * n + 2 * p + c) (Wd t)))) ++ D.map (fun t => extw (8 * n + 2 * p + c) (Wd t)))) (fun _ i _ _ _ _ _ _ _ _ => (8 - i).toNat) _ ?_ F q0 0 _ _ _ _ _ _ _ _ ⟨Wd2, Ch2, [], S v, hT, hW, hsz, hCh, rfl, rfl, hq1, by rw [List.map_nil, List.append_nil]; exact hP⟩ (by show (8 - (0 : Int)).toNat < F; omega)
          rintro self2 at' i sz3 el3 pa3 ln3 ea3 la3 fi3 nx3 ⟨Wd3, Ch3, D, R, hT3, hW3, hsz3, hCh3, hDR, hi, hR, hP3⟩ hs2
          have hSl : (S v).length = D.length + R.length := by rw [hDR, List.length_append]
          have hSv : (S v).length ≤ (S 0).length + (S 1).length := by
            rcases (show v = 0 ∨ v = 1 by omega) with q | q
            · rw [q]; omega
            · rw [q]; omega
          have hout : R = [] → ok (f_ClockWays_growBy_j175 F v self sz3 el3 pa3 ln3 ea3 la3 fi3 nx3) (fun r => ∃ Wd' Ch', TRr (dE wE gE) (dE wL gL) r Wd' Ch' ∧ (∀ t, 0 ≤ t → t < sz → Wd' t = Wd t) ∧ sz ≤ r.1 ∧ (∀ s, s ≠ 2 * n + c → Ch' s = Ch s) ∧ (N (2 * n + c) = 1 → List.Perm ((Ch' (2 * n + c)).map Wd') ((Ch (2 * n + c)).map Wd ++ (insP so se n c p).flatMap (fun et => (wds Wd Ch et.2).map (extw et.1)))) ∧ (N (2 * n + c) = 0 → Ch' (2 * n + c) = Ch (2 * n + c))) := by
            intro q
            unfold f_ClockWays_growBy_j175
            refine hs1 _ _ _ _ _ _ _ _ _ ⟨by omega, Wd3, Ch3, hT3, hW3, hsz3, hCh3, ?_⟩ (by show (2 - (v + 1)).toNat < (2 - v).toNat; omega)
            rw [pinl_succ hv.1, List.flatMap_append, ← List.append_assoc, List.flatMap_cons, List.flatMap_nil, List.append_nil, hDR, q, List.append_nil]
            rw [q, List.append_nil] at hDR
            exact hP3
          unfold f_ClockWays_growBy_b111
          refine ok_gr ⟨by omega, by omega⟩ (ok_if (fun h5 => hout ?_) (fun h5 => ?_))
          · have : R.length = 0 := by omega
            exact List.length_eq_zero_iff.mp this
          · cases R with
            | nil =>
              have ea : at' = -1 := hR
              subst ea
              exact ok_gr ⟨by omega, by omega⟩ (ok_if (fun _ => hout rfl) (fun q => by omega))
            | cons t R =>
              obtain ⟨ea, hR⟩ := hR
              subst ea
              have ht := hSin v (by omega) at' (by rw [hDR]; exact List.mem_append_right _ List.mem_cons_self)
              have hsz3' := TR_sz hT3
              refine ok_gr ⟨by omega, by omega⟩ (ok_if (fun q => by omega) (fun _ => ?_))
              rw [e_elementOf, ob1_s]
              refine ok_gi ⟨by omega, by omega⟩ (ok_gi ⟨by omega, by omega⟩ ?_)
              rw [e_grow (by omega) (by omega) (by omega), ob8_s]
              have hlen : (Ch3 (2 * n + c)).length < 8 := by
                have q := hP3.length_eq
                rw [List.length_map, List.length_append, List.length_append, List.length_map, List.length_map] at q
                rw [List.length_cons] at hSl
                have q2 : ((pinl v).flatMap (fun was => (S was).map (fun t => extw (8 * n + 2 * p + c) (Wd t)))).length + (S v).length ≤ (S 0).length + (S 1).length := by
                  rcases (show v = 0 ∨ v = 1 by omega) with r | r
                  · rw [r, show pinl 0 = [] from rfl, List.flatMap_nil]
                    show 0 + _ ≤ _
                    omega
                  · rw [r, show pinl 1 = [0] from rfl, List.flatMap_cons, List.flatMap_nil, List.append_nil, List.length_map]
                    omega
                omega
              have hel : (0 : Int) ≤ 8 * n + 2 * p + c ∧ 8 * n + 2 * p + c < 400 := by omega
              have hW3t := hW3 at' ht.1 ht.2
              have hnode := hT3.1 at' ht.1 (by omega)
              have hg := TR_grow hT3 (s := 2 * n + c) (x2 := 8 * n + 2 * p + c) (x3 := at') (w := ((Wd3 at').1, (8 * n + 2 * p + c) :: (Wd3 at').2)) (by omega) hlen (Or.inr ⟨by omega, rfl⟩) hel
              have hd : ∀ (u w : Int → Int), dE u w (8 * n + 2 * p + c) = u (3 * n + p) + w (2 * (3 * n + p) + c) := by
                intro u w
                unfold dE
                rw [show (8 * n + 2 * p + c) / 8 = n by omega, show (8 * n + 2 * p + c) / 2 % 4 = p by omega, show (8 * n + 2 * p + c) % 2 = c by omega]
              have e1 : sm (dE wE gE) ((8 * n + 2 * p + c) :: (Wd3 at').2) = ea3 at' + (wE (3 * n + p) + gE (2 * (3 * n + p) + c)) := by
                show dE wE gE (8 * n + 2 * p + c) + sm (dE wE gE) (Wd3 at').2 = _
                rw [hd, ← hnode.2.2.1]
                omega
              have e2 : sm (dE wL gL) ((8 * n + 2 * p + c) :: (Wd3 at').2) = la3 at' + (wL (3 * n + p) + gL (2 * (3 * n + p) + c)) := by
                show dE wL gL (8 * n + 2 * p + c) + sm (dE wL gL) (Wd3 at').2 = _
                rw [hd, ← hnode.2.2.2.1]
                omega
              simp only at hg
              rw [e1, e2] at hg
              refine ok_gi ⟨by omega, by omega⟩ (ok_bd.mpr (hs2 _ _ _ _ _ _ _ _ _ _ ⟨_, _, D ++ [at'], R, hg, fun t t1 t2 => ?_, by omega, fun s q => ?_, ?_, ?_, ?_, ?_⟩ (by show (8 - (i + 1)).toNat < (8 - i).toNat; omega)))
              · rw [uw_n (by omega)]; exact hW3 t t1 t2
              · unfold cadd
                rw [if_neg q]
                exact hCh3 s q
              · rw [hDR, List.append_assoc]; rfl
              · rw [List.length_append, hi]
                show _ = ((D.length + 1 : Nat) : Int)
                omega
              · rw [ui_n (by omega)]
                refine chn_upd _ _ (fun t ht' => ?_) hR
                have := hSin v (by omega) t (by rw [hDR]; exact List.mem_append_right _ (List.mem_cons_of_mem _ ht'))
                omega
              · unfold cadd
                rw [if_pos rfl, List.map_cons, uw_s]
                have hmap : (Ch3 (2 * n + c)).map (uw Wd3 sz3 ((Wd3 at').1, (8 * n + 2 * p + c) :: (Wd3 at').2)) = (Ch3 (2 * n + c)).map Wd3 := by
                  refine List.map_congr_left (fun t ht' => uw_n ?_)
                  have := (hT3.2.1 (2 * n + c) (by omega) (by omega)).2.1 t ht'
                  omega
                rw [hmap, List.map_append, ← List.append_assoc]
                show List.Perm (((Wd3 at').1, (8 * n + 2 * p + c) :: (Wd3 at').2) :: _) (_ ++ [extw (8 * n + 2 * p + c) (Wd at')])
                rw [hW3t]
                show List.Perm (extw (8 * n + 2 * p + c) (Wd at') :: _) _
                exact (hP3.cons _).trans (List.perm_append_singleton _ _).symm
        rw [e_lets hse (by omega) (by omega) hc, ob1_s]
        have z1 := bz_1 (ltz (se (3 * n + p)) v c = true)
        have z2 := bz_01 (ltz (se (3 * n + p)) v c = true)
        refine ok_gr ⟨by omega, by omega⟩ (ok_if (fun h5 => ?_) (fun h5 => ?_))
        · refine hchn (-1) (Or.inl ⟨rfl, ?_⟩)
          rw [hSe, if_neg (fun q => by have := z1.mpr q; omega)]
        · refine ok_gi ⟨by omega, by omega⟩ (ok_gi ⟨by omega, by omega⟩ (hchn _ (Or.inr ⟨rfl, ?_⟩)))
          rw [hSe, if_pos (z1.mp (by omega))]
end GBY
