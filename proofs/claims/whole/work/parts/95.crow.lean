/-! the class writes a timing path's row, and offers it -/
section CRW
variable {F : Nat} {kd pn so se wE wL gE gL su ho : Int → Int} {per wid : Int} {a b : Int → Int} {sz : Int} {el pa ln ea la fi nx : Int → Int} {Wd : Int → Int × List Int} {Ch : Int → List Int}
theorem rowAt_up {A B : Int → Int} {at0 : Int} {r : List Int} {v : Int} (h : rowAt A (at0 + 1) r) (e : ∀ z, at0 < z → B z = A z) (e0 : B at0 = v) : rowAt B at0 (v :: r) := by
  intro j x q
  cases j with
  | zero =>
    rw [show at0 + ((0 : Nat) : Int) = at0 by omega, e0]
    exact Option.some.inj q
  | succ j =>
    rw [List.getElem?_cons_succ] at q
    have := h j x q
    rw [e _ (by omega), ← this]
    congr 1
    omega
theorem s_write {l row : Int → Int} {n i at0 : Int} {o : Option (Int × List Int)} {r0 : List Int} (hF : 200 ≤ F) (hT : TR a b sz el pa ln ea la fi nx Wd Ch) (hi : 0 ≤ n * 8 + i ∧ n * 8 + i < 384) (ho : isT sz Wd (l (n * 8 + i)) o) (h0 : rowAt row 0 r0) (hat : at0 = (r0.length : Int)) (hl : r0.length + (rowO o).length ≤ 144) :
    ok (f_ClockWays_write F el pa ln l row n i at0) (fun r => r.1 = ((r0 ++ rowO o).length : Int) ∧ rowAt r.2 0 (r0 ++ rowO o)) := by
  have hsz := TR_sz hT
  unfold f_ClockWays_write
  rcases ho with ⟨t1, t2⟩ | ⟨t1, t2, t3⟩
  · rw [t1]
    refine ok_gi hi (ok_bd.mpr (ok_gr ⟨by omega, by omega⟩ (ok_if (fun z => by omega) (fun _ => ok_some.mpr ?_))))
    rw [t2]
    show at0 = ((r0 ++ []).length : Int) ∧ rowAt row 0 (r0 ++ [])
    rw [List.append_nil]
    exact ⟨hat, h0⟩
  · obtain ⟨w, hw⟩ : ∃ w, w = Wd (l (n * 8 + i)) := ⟨_, rfl⟩
    obtain ⟨t, ht⟩ : ∃ t, t = l (n * 8 + i) := ⟨_, rfl⟩
    rw [← ht] at hw t1 t3 t2 ⊢
    have hrow : rowO o = rowW w := by rw [t2, hw]; rfl
    have hlw : (rowW w).length = w.2.length + 1 := rowW_len w
    rw [hrow] at hl ⊢
    have hnode := hT.1 t t1.1 t1.2
    have hend : ∀ R, rowAt R at0 (rowW w) → (∀ z, z < at0 → R z = row z) → ok (f_ClockWays_write_j77 F (at0 + ln t) R) (fun r => r.1 = ((r0 ++ rowW w).length : Int) ∧ rowAt r.2 0 (r0 ++ rowW w)) := by
      intro R hR hk
      unfold f_ClockWays_write_j77
      refine ok_some.mpr ⟨?_, rowAt_app (rowAt_cg h0 (fun z z1 z2 => hk z (by omega))) (by rw [← hat]; exact hR)⟩
      show at0 + ln t = _
      rw [List.length_append, hlw, hnode.2.1, ← hw]
      omega
    refine ok_gi hi (ok_bd.mpr (ok_gr ⟨by omega, by omega⟩ (ok_if (fun _ => ?_) (fun z => by omega))))
    refine ok_gi ⟨by omega, by omega⟩ (ok_bd.mpr (ok_bd.mpr ?_))
    refine lq3_ok (fun (u : Int) (v : Int) R => (∀ z, z < at0 → R z = row z) ∧ ((v = at0 - 1 ∧ u = -1 ∧ rowAt R at0 (rowW w)) ∨ ((0 ≤ u ∧ u < sz) ∧ v = at0 + ((Wd u).2.length : Int) ∧ (Wd u).2.length ≤ w.2.length ∧ ∃ D, rowW w = rowW (Wd u) ++ D ∧ rowAt R (v + 1) D))) (fun _ v _ => (v - at0 + 1).toNat) _ ?_ F t _ row ⟨fun z _ => rfl, Or.inr ⟨t1, ?_, by rw [hw]; exact Nat.le_refl _, [], by rw [List.append_nil, hw], fun j e q => by simp at q⟩⟩ ?_
    · rintro self u v R ⟨hk, hI⟩ hs
      unfold f_ClockWays_write_b39
      rcases hI with ⟨i1, i2, i3⟩ | ⟨i1, i2, i3, D, i4, i5⟩
      · exact ok_gr ⟨by omega, by omega⟩ (ok_gr ⟨by omega, by omega⟩ (ok_if (fun _ => hend R i3 hk) (fun z => by omega)))
      · refine ok_gr ⟨by omega, by omega⟩ (ok_gr ⟨by omega, by omega⟩ (ok_if (fun z => by omega) (fun _ => ?_)))
        refine ok_gr ⟨by omega, by omega⟩ (ok_if (fun z => by omega) (fun _ => ?_))
        refine ok_gi ⟨by omega, by omega⟩ (ok_gi ⟨by omega, by omega⟩ (ok_bd.mpr (ok_gi ⟨by omega, by omega⟩ (ok_bd.mpr ?_))))
        have hup : rowAt (ui R v (el u)) v (el u :: D) := rowAt_up i5 (fun z hz => ui_n (by omega)) (ui_s _ _ _)
        have hkeep : ∀ z, z < at0 → ui R v (el u) z = row z := fun z hz => by rw [ui_n (by omega)]; exact hk z hz
        rcases (hT.1 u i1.1 i1.2).1 with ⟨p1, p2⟩ | ⟨p1, p2⟩
        · have hv : v = at0 := by rw [i2, p2]; show at0 + ((0 : Nat) : Int) = at0; omega
          refine hs _ _ _ ⟨hkeep, Or.inl ⟨by omega, p1, ?_⟩⟩ (by show (v + -1 - at0 + 1).toNat < (v - at0 + 1).toNat; omega)
          have e : rowW w = el u :: D := by rw [i4, p2]; rfl
          rw [e, ← hv]
          exact hup
        · have hlen : (Wd u).2.length = (Wd (pa u)).2.length + 1 := by rw [p2]; rfl
          refine hs _ _ _ ⟨hkeep, Or.inr ⟨by omega, by omega, by omega, el u :: D, ?_, ?_⟩⟩ (by show (v + -1 - at0 + 1).toNat < (v - at0 + 1).toNat; omega)
          · rw [i4]
            have : rowW (Wd u) = rowW (Wd (pa u)) ++ [el u] := by
              rw [p2]
              show (Wd (pa u)).1 :: (el u :: (Wd (pa u)).2).reverse = (Wd (pa u)).1 :: (Wd (pa u)).2.reverse ++ [el u]
              rw [List.reverse_cons]
              rfl
            rw [this, List.append_assoc]
            rfl
          · rw [show v + -1 + 1 = v by omega]
            exact hup
    · show at0 + ln t - 1 = _
      rw [hnode.2.1]; omega
    · show (at0 + ln t - 1 - at0 + 1).toNat < F
      rw [hnode.2.1]; omega
/-- the gates of a data way as the class writes them: the last one first -/
theorem s_writeRow {l tr row : Int → Int} {n m c c0 i j : Int} {d : Nat} {o o' : Option (Int × List Int)} (hF : 200 ≤ F) (hk : ∀ i, 0 ≤ kd i ∧ kd i ≤ 4) (hT : TR a b sz el pa ln ea la fi nx Wd Ch) (hn : 0 ≤ n ∧ n < 48) (hm : 0 ≤ m ∧ m < 48) (hi : 0 ≤ i ∧ i < 8) (hj : 0 ≤ j ∧ j < 8) (hd : d ≤ 48) (ho : isT sz Wd (l (n * 8 + i)) o) (ho' : isT sz Wd (l (m * 8 + j)) o') (hkn : (kd n = 3 ∧ ∃ w, o = some w) ∨ (kd n ≠ 3 ∧ o = none)) (hl : (rowT (n, c0, o) ++ (lst tr d).reverse ++ (8 * m + c) :: rowO o').length ≤ 144) :
    ok (f_WorstPaths_writeRow F n m c tr row el pa ln l kd i j c0 (d : Int)) (fun r => r.1 = ((rowT (n, c0, o) ++ (lst tr d).reverse ++ (8 * m + c) :: rowO o').length : Int) ∧ rowAt r.2 0 (rowT (n, c0, o) ++ (lst tr d).reverse ++ (8 * m + c) :: rowO o')) := by
  have hll : (lst tr d).length = d := by rw [lst_len]; omega
  have hT1 : (rowT (n, c0, o)).length = (rowO o).length + 1 := by unfold rowT; rw [List.length_append]; rfl
  have hl' : (rowO o).length + 1 + d + 1 + (rowO o').length ≤ 144 := by
    rw [List.length_append, List.length_append, List.length_cons, List.length_reverse, hll, hT1] at hl
    omega
  unfold f_WorstPaths_writeRow
  have hkb := hk n
  refine ok_ob2 (s_write (r0 := []) hF hT (by omega) ho (fun j e q => by simp at q) rfl (by show 0 + _ ≤ 144; omega)) (fun r14 row1 hr => ?_)
  obtain ⟨e1, e2⟩ := hr
  simp only at e1 e2
  rw [List.nil_append] at e1 e2
  have hmain : ∀ q3, 8 * n + 2 * q3 + c0 = 8 * n + pkO o + c0 → ok (f_WorstPaths_writeRow_j50 F n m c tr el pa ln l j c0 (d : Int) r14 row1 q3) (fun r => r.1 = ((rowT (n, c0, o) ++ (lst tr d).reverse ++ (8 * m + c) :: rowO o').length : Int) ∧ rowAt r.2 0 (rowT (n, c0, o) ++ (lst tr d).reverse ++ (8 * m + c) :: rowO o')) := by
    intro q3 hq
    unfold f_WorstPaths_writeRow_j50
    rw [e_elementOf, ob1_s, hq]
    refine ok_gi ⟨by omega, by omega⟩ (ok_bd.mpr (ok_bd.mpr ?_))
    have hb : rowAt (ui row1 r14 (8 * n + pkO o + c0)) 0 (rowT (n, c0, o)) := by
      rw [e1]
      exact rowAt_snoc e2
    refine lq3_ok (fun (v : Int) (u : Int) R => ∃ k : Nat, k ≤ d ∧ u = (d : Int) - 1 - k ∧ v = (rowO o).length + 1 + k ∧ rowAt R 0 (rowT (n, c0, o) ++ (lst tr d).reverse.take k)) (fun _ u _ => (u + 1).toNat) _ ?_ F _ _ _ ⟨0, Nat.zero_le _, by omega, by omega, by rw [List.take_zero, List.append_nil]; exact hb⟩ (by show ((d : Int) - 1 + 1).toNat < F; omega)
    rintro self v u R ⟨k, k1, k2, k3, k4⟩ hs
    unfold f_WorstPaths_writeRow_b64
    have hlt : (((rowT (n, c0, o) ++ (lst tr d).reverse.take k).length : Nat) : Int) = v := by
      rw [List.length_append, hT1, List.length_take, List.length_reverse, hll]; omega
    refine ok_gr ⟨by omega, by omega⟩ (ok_if (fun c1 => ?_) (fun c1 => ?_))
    · have ek : k = d := by omega
      rw [e_elementOf, ob1_s]
      refine ok_gi ⟨by omega, by omega⟩ (ok_bd.mpr ?_)
      have e3 : (lst tr d).reverse.take k = (lst tr d).reverse := by
        rw [ek]
        exact List.take_of_length_le (by rw [List.length_reverse, hll]; exact Nat.le_refl _)
      have hs2 := rowAt_snoc (v := 8 * m + 2 * 0 + c) k4
      rw [hlt, e3, show 8 * m + 2 * 0 + c = 8 * m + c by omega] at hs2
      rw [show 8 * m + 2 * 0 + c = 8 * m + c by omega]
      refine ok_ob2 (s_write hF hT (by omega) ho' hs2 (by rw [List.length_append, ← e3]; show v + 1 = _; rw [Int.natCast_add, hlt]; rfl) (by rw [List.length_append, List.length_append, hT1, List.length_reverse, hll]; show _ + _ + 1 + _ ≤ 144; omega)) (fun r128 row6 hr => ?_)
      obtain ⟨f1, f2⟩ := hr
      simp only at f1 f2
      have happ : rowT (n, c0, o) ++ (lst tr d).reverse ++ [8 * m + c] ++ rowO o' = rowT (n, c0, o) ++ (lst tr d).reverse ++ (8 * m + c) :: rowO o' := by
        rw [List.append_assoc (rowT (n, c0, o) ++ (lst tr d).reverse)]
        rfl
      rw [happ] at f1 f2
      exact ok_some.mpr ⟨f1, f2⟩
    · have hkd' : k < d := by omega
      refine ok_gi ⟨by omega, by omega⟩ (ok_gi ⟨by omega, by omega⟩ (ok_bd.mpr ?_))
      refine hs _ _ _ ⟨k + 1, by omega, by omega, by omega, ?_⟩ (by show (u + -1 + 1).toNat < (u + 1).toNat; omega)
      have hs2 := rowAt_snoc (v := tr u) k4
      rw [hlt] at hs2
      have hg : (lst tr d).reverse[k]? = some (tr u) := by
        rw [List.getElem?_reverse (by rw [hll]; exact hkd'), hll]
        have := lst_get (A := tr) (n := (d : Int)) (i := u) (by omega)
        rw [show d - 1 - k = u.toNat by omega]
        exact this
      rw [List.take_add_one, hg, ← List.append_assoc]
      exact hs2
  refine ok_gi hn (ok_gr ⟨by omega, by omega⟩ (ok_if (fun h3 => hmain 1 ?_) (fun h3 => hmain 0 ?_)))
  · rcases hkn with ⟨-, w, q⟩ | ⟨q, -⟩
    · rw [q]; show 8 * n + 2 * 1 + c0 = 8 * n + 2 + c0; omega
    · exact absurd h3 q
  · rcases hkn with ⟨q, -⟩ | ⟨-, q⟩
    · exact absurd q h3
    · rw [q]; show 8 * n + 2 * 0 + c0 = 8 * n + 0 + c0; omega
/-- both of the class's lists -/
def CL2 (y1 : Int) (y2 y3 y4 y5 : Int → Int) (b1 : Int) (b2 b3 b4 b5 : Int → Int) (P0 P1 : List (Int × List Int)) : Prop := CL y1 y2 y3 y4 y5 P0 ∧ CL b1 b2 b3 b4 b5 P1
def X0 (wE wL gE gL su : Int → Int) (per wid n c0 m c L : Int) (w : List Int) (o o' : Option (Int × List Int)) : Int × List Int := (srm wE wL gE gL per wid n o m o' - (L + su (2 * m + c)), rowT (n, c0, o) ++ w ++ (8 * m + c) :: rowO o')
def X1 (wE wL gE gL ho : Int → Int) (per wid n c0 m c E : Int) (w : List Int) (o o' : Option (Int × List Int)) : Int × List Int := (hrm wE wL gE gL per wid n o m o' + (E - ho (2 * m + c)), rowT (n, c0, o) ++ w ++ (8 * m + c) :: rowO o')
theorem s_offerOne {l tr row : Int → Int} {n m c c0 : Int} {i j d : Nat} {o o' : Option (Int × List Int)} {S H : Int → Int} {E L : Int} {y1 b1 : Int} {y2 y3 y4 y5 b2 b3 b4 b5 : Int → Int} {P0 P1 : List (Int × List Int)} {Q : ((Int → Int) × Int × (Int → Int) × (Int → Int) × (Int → Int) × (Int → Int) × Int × (Int → Int) × (Int → Int) × (Int → Int) × (Int → Int)) → Prop} {self : Int → (Int → Int) → Int → (Int → Int) → (Int → Int) → (Int → Int) → (Int → Int) → Int → (Int → Int) → (Int → Int) → (Int → Int) → (Int → Int) → Option ((Int → Int) × Int × (Int → Int) × (Int → Int) × (Int → Int) × (Int → Int) × Int × (Int → Int) × (Int → Int) × (Int → Int) × (Int → Int))}
    (hF : 200 ≤ F) (hk : ∀ i, 0 ≤ kd i ∧ kd i ≤ 4) (hT : TR a b sz el pa ln ea la fi nx Wd Ch) (hn : 0 ≤ n ∧ n < 48) (hm : 0 ≤ m ∧ m < 48) (hi : i < 8) (hj : j < 8) (hd : d ≤ 48) (hto : isT sz Wd (l (n * 8 + i)) o) (hto' : isT sz Wd (l (m * 8 + j)) o') (hkn : (kd n = 3 ∧ ∃ w, o = some w) ∨ (kd n ≠ 3 ∧ o = none)) (hS : S (8 * i + j) = srm wE wL gE gL per wid n o m o' ∧ H (8 * i + j) = hrm wE wL gE gL per wid n o m o')
    (hx0 : PE (X0 wE wL gE gL su per wid n c0 m c L (lst tr d).reverse o o')) (hx1 : PE (X1 wE wL gE gL ho per wid n c0 m c E (lst tr d).reverse o o')) (hP : CL2 y1 y2 y3 y4 y5 b1 b2 b3 b4 b5 P0 P1)
    (hself : ∀ row' y1 y2 y3 y4 y5 b1 b2 b3 b4 b5, CL2 y1 y2 y3 y4 y5 b1 b2 b3 b4 b5 (top20 P0 (X0 wE wL gE gL su per wid n c0 m c L (lst tr d).reverse o o')) (top20 P1 (X1 wE wL gE gL ho per wid n c0 m c E (lst tr d).reverse o o')) → ok (self ((j : Int) + 1) row' y1 y2 y3 y4 y5 b1 b2 b3 b4 b5) Q) :
    ok (bd (((i : Int) * 8) + (j : Int)) (fun (v9 : Int) => gi v9 64 (bd ((S v9) - (L + su (2 * m + c))) (fun (v10 : Int) => gi v9 64 (bd ((H v9) + (E - ho (2 * m + c))) (fun (v11 : Int) => ob1 (f_PathList_mayTake F y1 y2 y3 v10) (fun r133 => gr r133 ((if r133 = 0 then ob1 (f_PathList_mayTake F b1 b2 b3 v11) (fun r145 => gr r145 ((if r145 = 0 then (f_WorstPaths_offerAll_j193 F (j : Int) self row y1 y2 y3 y4 y5 b1 b2 b3 b4 b5) else (f_WorstPaths_offerAll_j151 F n m c tr el pa ln l kd c0 (d : Int) (i : Int) (j : Int) row y1 y2 y3 y4 y5 b1 b2 b3 b4 b5 self v10 v11)))) else (f_WorstPaths_offerAll_j151 F n m c tr el pa ln l kd c0 (d : Int) (i : Int) (j : Int) row y1 y2 y3 y4 y5 b1 b2 b3 b4 b5 self v10 v11)))))))))) Q := by
  obtain ⟨hP0, hP1⟩ := hP
  have r0 := hx0.1
  have r1 := hx1.1
  unfold X0 at r0
  unfold X1 at r1
  simp only at r0 r1
  have e9 : (i : Int) * 8 + (j : Int) = 8 * i + j := by omega
  rw [e9]
  refine ok_bd.mpr (ok_gi ⟨by omega, by omega⟩ (ok_bd.mpr (ok_gi ⟨by omega, by omega⟩ (ok_bd.mpr ?_))))
  rw [hS.1, hS.2]
  have hoff : ok (f_WorstPaths_offerAll_j151 F n m c tr el pa ln l kd c0 (d : Int) (i : Int) (j : Int) row y1 y2 y3 y4 y5 b1 b2 b3 b4 b5 self (srm wE wL gE gL per wid n o m o' - (L + su (2 * m + c))) (hrm wE wL gE gL per wid n o m o' + (E - ho (2 * m + c)))) Q := by
    unfold f_WorstPaths_offerAll_j151
    refine ok_ob2 (s_writeRow hF hk hT hn hm (by omega) (by omega) hd hto hto' hkn hx0.2.1) (fun r158 row2 hr => ?_)
    obtain ⟨e1, e2⟩ := hr
    simp only at e1 e2
    rw [e1]
    refine ok_ob5 (s_offer hF hx0 e2 hP0) (fun z1 z2 z3 z4 z5 hz => ?_)
    refine ok_ob5 (s_offer hF hx1 e2 hP1) (fun u1 u2 u3 u4 u5 hu => ?_)
    unfold f_WorstPaths_offerAll_j193
    exact hself _ _ _ _ _ _ _ _ _ _ _ ⟨hz, hu⟩
  rw [e_mayTake hP0 r0, ob1_s]
  have z1 := bz_1 (P0.length < 20 ∨ ∃ p, P0[19]? = some p ∧ srm wE wL gE gL per wid n o m o' - (L + su (2 * m + c)) ≤ p.1)
  have z2 := bz_01 (P0.length < 20 ∨ ∃ p, P0[19]? = some p ∧ srm wE wL gE gL per wid n o m o' - (L + su (2 * m + c)) ≤ p.1)
  refine ok_gr ⟨by omega, by omega⟩ (ok_if (fun c1 => ?_) (fun _ => hoff))
  rw [e_mayTake hP1 r1, ob1_s]
  have z3 := bz_1 (P1.length < 20 ∨ ∃ p, P1[19]? = some p ∧ hrm wE wL gE gL per wid n o m o' + (E - ho (2 * m + c)) ≤ p.1)
  have z4 := bz_01 (P1.length < 20 ∨ ∃ p, P1[19]? = some p ∧ hrm wE wL gE gL per wid n o m o' + (E - ho (2 * m + c)) ≤ p.1)
  refine ok_gr ⟨by omega, by omega⟩ (ok_if (fun c2 => ?_) (fun _ => hoff))
  unfold f_WorstPaths_offerAll_j193
  refine hself _ _ _ _ _ _ _ _ _ _ _ ?_
  rw [no_take (x := X0 wE wL gE gL su per wid n c0 m c L (lst tr d).reverse o o') hP0.2.2.1 hP0.2.1 (fun q => by have := z1.mpr q; omega), no_take (x := X1 wE wL gE gL ho per wid n c0 m c E (lst tr d).reverse o o') hP1.2.2.1 hP1.2.1 (fun q => by have := z3.mpr q; omega)]
  exact ⟨hP0, hP1⟩
theorem s_offerAll {cn l ba e f tr row : Int → Int} {n m c c0 : Int} {d : Nat} {Os Os' : List (Option (Int × List Int))} {S H : Int → Int} {lm lf lh E L : Int} {y1 b1 : Int} {y2 y3 y4 y5 b2 b3 b4 b5 : Int → Int} {P0 P1 : List (Int × List Int)}
    (hF : 200 ≤ F) (hk : ∀ i, 0 ≤ kd i ∧ kd i ≤ 4) (hT : TR a b sz el pa ln ea la fi nx Wd Ch) (hn : 0 ≤ n ∧ n < 48) (hm : 0 ≤ m ∧ m < 48) (hc : c = 0 ∨ c = 1) (hd : d ≤ 48) (hO : CO kd pn so se wE wL gE gL wid sz Wd cn l ba e f n Os) (hO' : CO kd pn so se wE wL gE gL wid sz Wd cn l ba e f m Os') (hR : RM wE wL gE gL per wid n Os m Os' S H lm lf lh) (hkn : kd n = 1 ∨ kd n = 3)
    (hx0 : ∀ o ∈ Os, ∀ o' ∈ Os', PE (X0 wE wL gE gL su per wid n c0 m c L (lst tr d).reverse o o')) (hx1 : ∀ o ∈ Os, ∀ o' ∈ Os', PE (X1 wE wL gE gL ho per wid n c0 m c E (lst tr d).reverse o o')) (hP : CL2 y1 y2 y3 y4 y5 b1 b2 b3 b4 b5 P0 P1) :
    ok (f_WorstPaths_offerAll F n m c tr row S H el pa ln cn l kd su ho y1 y2 y3 y4 y5 b1 b2 b3 b4 b5 c0 (d : Int) E L) (fun r => CL2 r.2.1 r.2.2.1 r.2.2.2.1 r.2.2.2.2.1 r.2.2.2.2.2.1 r.2.2.2.2.2.2.1 r.2.2.2.2.2.2.2.1 r.2.2.2.2.2.2.2.2.1 r.2.2.2.2.2.2.2.2.2.1 r.2.2.2.2.2.2.2.2.2.2 ((Os.flatMap (fun o => Os'.map (X0 wE wL gE gL su per wid n c0 m c L (lst tr d).reverse o))).foldl top20 P0) ((Os.flatMap (fun o => Os'.map (X1 wE wL gE gL ho per wid n c0 m c E (lst tr d).reverse o))).foldl top20 P1)) := by
  obtain ⟨a1, a2, a3, a4⟩ := hO
  obtain ⟨c1, c2, c3, c4⟩ := hO'
  have hkn' : ∀ o ∈ Os, (kd n = 3 ∧ ∃ w, o = some w) ∨ (kd n ≠ 3 ∧ o = none) := by
    intro o ho
    rcases wys_c (a1.mem_iff.mp ho) with ⟨q1, q2⟩ | ⟨w, q1, q2, -⟩
    · exact Or.inr ⟨by omega, q1⟩
    · exact Or.inl ⟨q2, w, q1⟩
  unfold f_WorstPaths_offerAll
  refine ok_gi ⟨by omega, by omega⟩ (ok_bd.mpr (ok_gi ⟨by omega, by omega⟩ (ok_bd.mpr ?_)))
  refine lq12_ok (fun (v : Int) _ y1 y2 y3 y4 y5 b1 b2 b3 b4 b5 => ∃ k : Nat, v = (k : Int) ∧ k ≤ Os.length ∧ CL2 y1 y2 y3 y4 y5 b1 b2 b3 b4 b5 (((Os.take k).flatMap (fun o => Os'.map (X0 wE wL gE gL su per wid n c0 m c L (lst tr d).reverse o))).foldl top20 P0) (((Os.take k).flatMap (fun o => Os'.map (X1 wE wL gE gL ho per wid n c0 m c E (lst tr d).reverse o))).foldl top20 P1)) (fun v _ _ _ _ _ _ _ _ _ _ _ => (8 - v).toNat) _ ?_ F 0 row y1 y2 y3 y4 y5 b1 b2 b3 b4 b5 ⟨0, rfl, Nat.zero_le _, hP⟩ (by show (8 - (0 : Int)).toNat < F; omega)
  clear hP
  clear row y1 y2 y3 y4 y5 b1 b2 b3 b4 b5
  rintro self v row y1 y2 y3 y4 y5 b1 b2 b3 b4 b5 ⟨k, hk', hkl, hP⟩ hs
  unfold f_WorstPaths_offerAll_b50
  rw [a2]
  refine ok_gi hn (ok_gr ⟨by omega, by omega⟩ (ok_gr ⟨by omega, by omega⟩ (ok_if (fun q => ?_) (fun q => ?_))))
  · have ek : k = Os.length := by omega
    rw [ek, List.take_length] at hP
    exact ok_some.mpr hP
  · have hkL : k < Os.length := by omega
    have hget : Os[k]? = some Os[k] := List.getElem?_eq_getElem hkL
    obtain ⟨o, hoe⟩ : ∃ o, o = Os[k] := ⟨_, rfl⟩
    rw [← hoe] at hget
    have hom : o ∈ Os := by rw [hoe]; exact List.getElem_mem hkL
    refine lq12_ok (fun (u : Int) _ y1 y2 y3 y4 y5 b1 b2 b3 b4 b5 => ∃ j : Nat, u = (j : Int) ∧ j ≤ Os'.length ∧ CL2 y1 y2 y3 y4 y5 b1 b2 b3 b4 b5 (((Os'.take j).map (X0 wE wL gE gL su per wid n c0 m c L (lst tr d).reverse o)).foldl top20 (((Os.take k).flatMap (fun o => Os'.map (X0 wE wL gE gL su per wid n c0 m c L (lst tr d).reverse o))).foldl top20 P0)) (((Os'.take j).map (X1 wE wL gE gL ho per wid n c0 m c E (lst tr d).reverse o)).foldl top20 (((Os.take k).flatMap (fun o => Os'.map (X1 wE wL gE gL ho per wid n c0 m c E (lst tr d).reverse o))).foldl top20 P1))) (fun u _ _ _ _ _ _ _ _ _ _ _ => (8 - u).toNat) _ ?_ F 0 row y1 y2 y3 y4 y5 b1 b2 b3 b4 b5 ⟨0, rfl, Nat.zero_le _, hP⟩ (by show (8 - (0 : Int)).toNat < F; omega)
    clear hP
    clear row y1 y2 y3 y4 y5 b1 b2 b3 b4 b5
    rintro self2 u row y1 y2 y3 y4 y5 b1 b2 b3 b4 b5 ⟨j, hj', hjl, hP⟩ hs2
    unfold f_WorstPaths_offerAll_b70
    rw [c2]
    refine ok_gi hm (ok_gr ⟨by omega, by omega⟩ (ok_gr ⟨by omega, by omega⟩ (ok_if (fun q => ?_) (fun q => ?_))))
    · have ej : j = Os'.length := by omega
      rw [ej, List.take_length] at hP
      refine hs _ _ _ _ _ _ _ _ _ _ _ _ ⟨k + 1, by omega, by omega, ?_⟩ (by show (8 - (v + 1)).toNat < (8 - v).toNat; omega)
      rw [List.take_add_one, hget, List.flatMap_append, List.flatMap_append, List.foldl_append, List.foldl_append]
      show CL2 _ _ _ _ _ _ _ _ _ _ ((([o] : List _).flatMap (fun o => Os'.map (X0 wE wL gE gL su per wid n c0 m c L (lst tr d).reverse o))).foldl top20 _) ((([o] : List _).flatMap (fun o => Os'.map (X1 wE wL gE gL ho per wid n c0 m c E (lst tr d).reverse o))).foldl top20 _)
      rw [List.flatMap_cons, List.flatMap_nil, List.append_nil, List.flatMap_cons, List.flatMap_nil, List.append_nil]
      exact hP
    · have hjL : j < Os'.length := by omega
      have hget' : Os'[j]? = some Os'[j] := List.getElem?_eq_getElem hjL
      obtain ⟨o', hoe'⟩ : ∃ o', o' = Os'[j] := ⟨_, rfl⟩
      rw [← hoe'] at hget'
      have hom' : o' ∈ Os' := by rw [hoe']; exact List.getElem_mem hjL
      have t1 := (a4 k o hget).1
      have t2 := (c4 j o' hget').1
      rw [show 8 * n + (k : Int) = n * 8 + k by omega] at t1
      rw [show 8 * m + (j : Int) = m * 8 + j by omega] at t2
      rw [hk', hj']
      refine s_offerOne hF hk hT hn hm (by omega) (by omega) hd t1 t2 (hkn' o hom) (hR.1 k j o o' hget hget') (hx0 o hom o' hom') (hx1 o hom o' hom') hP (fun row' z1 z2 z3 z4 z5 u1 u2 u3 u4 u5 hz => ?_)
      refine hs2 _ _ _ _ _ _ _ _ _ _ _ _ ⟨j + 1, by omega, by omega, ?_⟩ (by show (8 - ((j : Int) + 1)).toNat < (8 - u).toNat; omega)
      rw [List.take_add_one, hget', List.map_append, List.map_append, List.foldl_append, List.foldl_append]
      exact hz
end CRW
