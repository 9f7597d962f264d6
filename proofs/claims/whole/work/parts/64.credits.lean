/-! the credit, both sides -/
/-- what two clock ways of two nodes share; an input's or output's way is none of the clock's -/
def crd (a b wE wL : Int → Int) (n : Int) (o : Option (Int × List Int)) (m : Int) (o' : Option (Int × List Int)) : Int :=
  match o, o' with
  | some w, some w' => sm (fun e => b e - a e) (lcp (rowW w) (rowW w')).tail + (if n = m ∧ w = w' then wL (3 * n + 1) - wE (3 * n + 1) else 0)
  | _, _ => 0
section CC
variable {F : Nat} {a b wE wL : Int → Int} {sz : Int} {el pa ln ea la fi nx : Int → Int} {Wd : Int → Int × List Int} {Ch : Int → List Int}
/-- a way's last node in the tree, and its word -/
def isT (sz : Int) (Wd : Int → Int × List Int) (t : Int) (o : Option (Int × List Int)) : Prop := (t = -1 ∧ o = none) ∨ ((0 ≤ t ∧ t < sz) ∧ o = some (Wd t) ∧ (Wd t).2.length ≤ 48)
theorem s_Ccredit (hF : 200 ≤ F) (h : TR a b sz el pa ln ea la fi nx Wd Ch) (hinj : ∀ t u, 0 ≤ t → t < sz → 0 ≤ u → u < sz → Wd t = Wd u → t = u) {las : Int → Int} {n i m j : Int} {o o' : Option (Int × List Int)} (hn : 0 ≤ n ∧ n < 48) (hm : 0 ≤ m ∧ m < 48) (hi : 0 ≤ i ∧ i < 8) (hj : 0 ≤ j ∧ j < 8) (ht : isT sz Wd (las (8 * n + i)) o) (hu : isT sz Wd (las (8 * m + j)) o') :
    f_ClockWays_credit F pa ln ea la las wE wL n i m j = some (crd a b wE wL n o m o') := by
  have hsz := TR_sz h
  apply ok_eq
  unfold f_ClockWays_credit
  rw [show n * 8 + i = 8 * n + i by omega, show m * 8 + j = 8 * m + j by omega]
  refine ok_gi ⟨by omega, by omega⟩ (ok_bd.mpr (ok_gi ⟨by omega, by omega⟩ (ok_bd.mpr ?_)))
  generalize las (8 * n + i) = t at ht
  generalize las (8 * m + j) = u at hu
  have hno : ∀ x y : Int, (-1 ≤ x ∧ x < sz) → (-1 ≤ y ∧ y < sz) → (x = -1 ∨ y = -1) → ok (f_ClockWays_sharedEnd F pa ln x y) (fun z => z = -1) := by
    intro x y hx hy hq
    unfold f_ClockWays_sharedEnd
    refine lq3_ok (fun x' y' i => x' = x ∧ y' = y ∧ i = 0) (fun _ _ _ => 0) _ ?_ F x y 0 ⟨rfl, rfl, rfl⟩ (by show 0 < F; omega)
    rintro self x' y' i ⟨rfl, rfl, rfl⟩ hs
    have hj : ok (f_ClockWays_sharedEnd_j71 F x' y') (fun z => z = -1) := by
      unfold f_ClockWays_sharedEnd_j71
      exact ok_gr ⟨by omega, by omega⟩ (ok_gr ⟨by omega, by omega⟩ (ok_if (fun q => ok_some.mpr (by omega)) (fun q => ok_some.mpr rfl)))
    unfold f_ClockWays_sharedEnd_b8
    refine ok_gr ⟨by omega, by omega⟩ (ok_if (fun _ => hj) (fun _ => ok_gr ⟨by omega, by omega⟩ (ok_if (fun _ => hj) (fun q1 => ok_gr ⟨by omega, by omega⟩ (ok_if (fun _ => hj) (fun q2 => ?_))))))
    omega
  rcases ht with ⟨t1, t2⟩ | ⟨t1, t2, t3⟩
  · subst t2
    have hu' : -1 ≤ u ∧ u < sz := by rcases hu with ⟨u1, -⟩ | ⟨u1, -⟩ <;> omega
    refine ok_ob1 (hno t u (by omega) hu' (Or.inl t1)) (fun z hz => ?_)
    have hz' : z = -1 := hz
    exact ok_gr ⟨by omega, by omega⟩ (ok_if (fun q => by omega) (fun _ => ok_some.mpr rfl))
  · rcases hu with ⟨u1, u2⟩ | ⟨u1, u2, u3⟩
    · subst u2
      refine ok_ob1 (hno t u (by omega) (by omega) (Or.inr u1)) (fun z hz => ?_)
      have hz' : z = -1 := hz
      refine ok_gr ⟨by omega, by omega⟩ (ok_if (fun q => by omega) (fun _ => ok_some.mpr ?_))
      rw [t2]
      rfl
    · rw [t2, u2]
      have hsame : Wd t = Wd u ↔ t = u := ⟨hinj t u t1.1 t1.2 u1.1 u1.2, fun q => by rw [q]⟩
      refine ok_ob1 (s_sharedEnd hF h hinj t1 u1 t3 u3) (fun z hz => ?_)
      have hzr : -1 ≤ z ∧ z < sz := by rcases hz with ⟨z1, -⟩ | ⟨z1, -⟩ <;> omega
      refine ok_gr ⟨by omega, by omega⟩ (ok_if (fun q => ?_) (fun q => ok_some.mpr ?_))
      · obtain ⟨z1, z2⟩ := hz.resolve_left (fun r => by omega)
        have hv : la z - ea z = sm (fun e => b e - a e) (lcp (rowW (Wd t)) (rowW (Wd u))).tail := by
          rw [← z2]
          show la z - ea z = sm (fun e => b e - a e) (Wd z).2.reverse
          rw [sm_rev, sm_sub, (h.1 z z1.1 z1.2).2.2.1, (h.1 z z1.1 z1.2).2.2.2.1]
        refine ok_gi ⟨by omega, by omega⟩ (ok_gi ⟨by omega, by omega⟩ (ok_bd.mpr (ok_gr ⟨by omega, by omega⟩ (ok_gr ⟨by omega, by omega⟩ (ok_if (fun q1 => ?_) (fun q1 => ok_some.mpr ?_))))))
        · refine ok_gr ⟨by omega, by omega⟩ (ok_gr ⟨by omega, by omega⟩ (ok_if (fun q2 => ?_) (fun q2 => ok_some.mpr ?_)))
          · rw [show n * 3 + 1 = 3 * n + 1 by omega]
            refine ok_bd.mpr (ok_gi ⟨by omega, by omega⟩ (ok_gi ⟨by omega, by omega⟩ (ok_bd.mpr (ok_some.mpr ?_))))
            show _ = _ + (if n = m ∧ Wd t = Wd u then _ else _)
            rw [if_pos ⟨q1, hsame.mpr q2⟩, hv]
          · show _ = _ + (if n = m ∧ Wd t = Wd u then _ else _)
            rw [if_neg (fun r => q2 (hsame.mp r.2)), hv, Int.add_zero]
        · show _ = _ + (if n = m ∧ Wd t = Wd u then _ else _)
          rw [if_neg (fun r => q1 r.1), hv, Int.add_zero]
      · obtain ⟨z1, z2⟩ := hz.resolve_right (fun r => by omega)
        show 0 = sm _ (lcp (rowW (Wd t)) (rowW (Wd u))).tail + (if n = m ∧ Wd t = Wd u then _ else _)
        rw [if_neg (fun r => ?_), z2]
        · rfl
        · rw [r.2, lcp_self] at z2
          cases z2
end CC
section MC
variable {F : Nat} {wE wL gE gL : Int → Int} {wid : Int} {wc wb we wl wla wsz wr wsp : Int → Int}
/-- a way of the reference, by its number, and its word -/
def isQ (wE wL gE gL : Int → Int) (wid : Int) (wc wb we wl wla wsz wr wsp : Int → Int) (LL : Int → List (Int × List Int)) (n q : Int) (o : Option (Int × List Int)) : Prop := (q < 0 ∧ o = none) ∨ (∃ (i : Nat) (w : Int × List Int), MW wE wL gE gL wid wc wb we wl wla wsz wr wsp n (LL n) ∧ (LL n).Nodup ∧ (LL n)[i]? = some w ∧ q = 8 * n + i ∧ o = some w ∧ (0 ≤ n ∧ n < 48) ∧ ∀ e ∈ rowW w, 0 ≤ e ∧ e < 400)
theorem take_tail {f : Int → Int} {x : Int} {l : List Int} {k : Nat} {v : Int} (h : some v = (0 :: l.map f)[k]?) : sm f (((x :: l).take k).tail) + v = sm f (((x :: l).take (k + 1)).tail) := by
  cases k with
  | zero =>
    have : v = 0 := by simpa using h
    rw [this]
    rfl
  | succ k =>
    rw [List.getElem?_cons_succ, List.getElem?_map] at h
    rw [List.take_succ_cons, List.take_succ_cons, List.tail_cons, List.tail_cons]
    cases hk : l[k]? with
    | none => rw [hk] at h; cases h
    | some y =>
      rw [hk] at h
      have hv : v = f y := Option.some.inj h
      rw [List.take_add_one, hk, sm_app, hv]
      show _ = sm f (l.take k) + (f y + 0)
      omega
theorem s_Mcredit {LL : Int → List (Int × List Int)} (hF : 200 ≤ F) {n m p q : Int} {o o' : Option (Int × List Int)} (hp : isQ wE wL gE gL wid wc wb we wl wla wsz wr wsp LL n p o) (hq : isQ wE wL gE gL wid wc wb we wl wla wsz wr wsp LL m q o') (hp2 : -2147483648 ≤ p ∧ p < 384) (hq2 : -2147483648 ≤ q ∧ q < 384) :
    f_M_credit F p wla wsz wr wsp q = some (crd (dE wE gE) (dE wL gL) wE wL n o m o') := by
  apply ok_eq
  unfold f_M_credit
  rcases hp with ⟨p1, p2⟩ | ⟨i, w, hL, hLn, hLi, hpi, ho, hn, hwr⟩
  · rw [p2]
    exact ok_gr ⟨by omega, by omega⟩ (ok_if (fun _ => ok_some.mpr rfl) (fun z => by omega))
  · have hil : i < (LL n).length := by
      by_cases z : i < (LL n).length
      · exact z
      · rw [List.getElem?_eq_none (by omega)] at hLi; cases hLi
    rcases hq with ⟨q1, q2⟩ | ⟨j, w', hL', hLn', hLj, hqj, ho', hm, hwr'⟩
    · rw [q2, ho]
      exact ok_gr ⟨by omega, by omega⟩ (ok_if (fun _ => ok_some.mpr rfl) (fun z => ok_gr ⟨by omega, by omega⟩ (ok_if (fun _ => by omega) (fun _ => ok_some.mpr rfl))))
    · have hjl : j < (LL m).length := by
        by_cases z : j < (LL m).length
        · exact z
        · rw [List.getElem?_eq_none (by omega)] at hLj; cases hLj
      rw [ho, ho']
      refine ok_gr ⟨by omega, by omega⟩ (ok_if (fun z => by omega) (fun _ => ok_gr ⟨by omega, by omega⟩ (ok_if (fun _ => ?_) (fun z => by omega))))
      obtain ⟨-, -, -, a4, a5, a6, a7⟩ := hL.2.2 i w hLi
      obtain ⟨-, -, -, b4, b5, b6, b7⟩ := hL'.2.2 j w' hLj
      rw [← hpi] at a4 a5 a7
      rw [← hqj] at b4 b5 b7
      have h8 := hL.2.1
      have h8' := hL'.2.1
      have hsame : p = q ↔ n = m ∧ w = w' := by
        constructor
        · intro z
          have e1 : n = m := by omega
          have e2 : i = j := by omega
          subst e1; subst e2
          exact ⟨rfl, Option.some.inj (hLi.symm.trans hLj)⟩
        · rintro ⟨rfl, rfl⟩
          have := (List.getElem?_inj hil hLn).mp (hLi.trans hLj.symm)
          omega
      have hR : ∀ k : Nat, k ≤ w.2.length → (rowW w)[k]? = some (wr (49 * p + k)) := fun k hk => (a7 k hk).1.symm
      have hR' : ∀ k : Nat, k ≤ w'.2.length → (rowW w')[k]? = some (wr (49 * q + k)) := fun k hk => (b7 k hk).1.symm
      have hl := rowW_len w
      have hl' := rowW_len w'
      refine lq2_ok (fun v i => ∃ k : Nat, i = (k : Int) ∧ k ≤ (rowW w).length ∧ k ≤ (rowW w').length ∧ (rowW w).take k = (rowW w').take k ∧ v = sm (fun e => dE wL gL e - dE wE gE e) ((rowW w').take k).tail) (fun _ i => (49 - i).toNat) _ ?_ F 0 0 ⟨0, rfl, Nat.zero_le _, Nat.zero_le _, rfl, rfl⟩ (by show (49 - (0 : Int)).toNat < F; omega)
      rintro self v i' ⟨k, hk, k1, k2, k3, k4⟩ hs
      have hend : (k = (rowW w).length ∨ k = (rowW w').length ∨ (rowW w)[k]? ≠ (rowW w')[k]?) → ok (f_M_credit_j88 F p wla q v) (fun z => z = crd (dE wE gE) (dE wL gL) wE wL n (some w) m (some w')) := by
        intro hc
        have hlc := lcp_stop k _ _ k3 k1 k2 hc
        have hcr : crd (dE wE gE) (dE wL gL) wE wL n (some w) m (some w') = v + (if n = m ∧ w = w' then wL (3 * n + 1) - wE (3 * n + 1) else 0) := by
          show sm _ (lcp (rowW w) (rowW w')).tail + _ = _
          rw [hlc, k4]
        rw [hcr]
        unfold f_M_credit_j88
        refine ok_gr ⟨by omega, by omega⟩ (ok_gr ⟨by omega, by omega⟩ (ok_if (fun z => ok_gi ⟨by omega, by omega⟩ (ok_some.mpr ?_)) (fun z => ok_some.mpr ?_)))
        · have hnm := hsame.mp z
          rw [if_pos hnm, b4, hnm.1]
        · rw [if_neg (fun r => z (hsame.mpr r)), Int.add_zero]
      unfold f_M_credit_b17
      refine ok_gi ⟨by omega, by omega⟩ (ok_gr ⟨by omega, by omega⟩ (ok_gr ⟨by omega, by omega⟩ (ok_if (fun h1 => hend (Or.inl (by omega))) (fun h1 => ?_))))
      refine ok_gi ⟨by omega, by omega⟩ (ok_gr ⟨by omega, by omega⟩ (ok_gr ⟨by omega, by omega⟩ (ok_if (fun h2 => hend (Or.inr (Or.inl (by omega)))) (fun h2 => ?_))))
      have e1 := hR k (by omega)
      have e2 := hR' k (by omega)
      have r1 := hwr _ (List.mem_of_getElem? e1)
      have r2 := hwr' _ (List.mem_of_getElem? e2)
      rw [hk]
      refine ok_gi ⟨by omega, by omega⟩ (ok_gi ⟨by omega, by omega⟩ (ok_gr ⟨by omega, by omega⟩ (ok_gr ⟨by omega, by omega⟩ (ok_if (fun h3 => ?_) (fun h3 => hend (Or.inr (Or.inr ?_)))))))
      · refine ok_gi ⟨by omega, by omega⟩ (ok_bd.mpr (hs _ _ ⟨k + 1, by omega, by omega, by omega, ?_, ?_⟩ (by show (49 - ((k : Int) + 1)).toNat < (49 - i').toNat; omega)))
        · rw [List.take_add_one, List.take_add_one, k3, e1, e2, h3]
        · rw [k4]
          exact take_tail (b7 k (by omega)).2
      · rw [e1, e2]
        exact fun z => h3 (Option.some.inj z)
end MC
