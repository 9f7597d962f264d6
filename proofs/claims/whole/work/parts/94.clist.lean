/-! the class's lists of timing paths -/
section CLI
variable {F : Nat} {sk ln rw sl : Int → Int}
/-- a timing path in a slot of the class's list -/
def CE (sk ln rw : Int → Int) (a : Int) (p : Int × List Int) : Prop := sk a = p.1 ∧ ln a = (p.2.length : Int) ∧ rowAt rw (a * 144) p.2 ∧ PE p
def CL (sz : Int) (sl sk ln rw : Int → Int) (P : List (Int × List Int)) : Prop := sz = (P.length : Int) ∧ P.length ≤ 20 ∧ srt P ∧ (∀ i, 0 ≤ i → i < sz → 0 ≤ sl i ∧ sl i < sz) ∧ (∀ i j, 0 ≤ i → i < sz → 0 ≤ j → j < sz → sl i = sl j → i = j) ∧ ∀ (i : Nat) p, P[i]? = some p → CE sk ln rw (sl i) p
theorem CE_cg {sk' ln' rw' : Int → Int} {a : Int} {p : Int × List Int} (h : CE sk ln rw a p) (e1 : sk' a = sk a) (e2 : ln' a = ln a) (e3 : ∀ j : Nat, j < 144 → rw' (a * 144 + j) = rw (a * 144 + j)) : CE sk' ln' rw' a p := by
  obtain ⟨p1, p2, p3, p4⟩ := h
  refine ⟨by rw [e1, p1], by rw [e2, p2], fun j e q => ?_, p4⟩
  rw [e3 j (by have := getE_lt q; have := p4.2.1; omega)]
  exact p3 j e q
theorem e_comesBefore {row : Int → Int} {r : List Int} {s a : Int} {p : Int × List Int} (hF : 200 ≤ F) (hx : PE (s, r)) (hr : rowAt row 0 r) (ha : 0 ≤ a ∧ a < 20) (hp : CE sk ln rw a p) : f_PathList_comesBefore F sk ln rw row s (r.length : Int) a = some (bz (bef (s, r) p = true)) := by
  obtain ⟨p1, p2, p3, q1, q2, q3⟩ := hp
  obtain ⟨x1, x2, x3⟩ := hx
  simp only at x1 x2 x3
  have hb : bef (s, r) p = if s = p.1 then rlt r p.2 else decide (s < p.1) := rfl
  apply ok_eq
  unfold f_PathList_comesBefore
  rw [p1]
  refine ok_gi ha (ok_gr ⟨by omega, by omega⟩ (ok_gr ⟨by omega, by omega⟩ (ok_if (fun h => ?_) (fun h => ?_))))
  · rw [hb, if_pos h, p2]
    refine ok_gi ha (ok_gr ⟨by omega, by omega⟩ (ok_gr ⟨by omega, by omega⟩ (ok_bd.mpr ?_)))
    refine lq1_ok (fun (v : Int) => ∃ k : Nat, v = (k : Int) ∧ k ≤ r.length ∧ k ≤ p.2.length ∧ rlt r p.2 = rlt (r.drop k) (p.2.drop k)) (fun v => (144 - v).toNat) _ ?_ F 0 ⟨0, rfl, Nat.zero_le _, Nat.zero_le _, rfl⟩ (by show (144 - (0 : Int)).toNat < F; omega)
    rintro self v ⟨k, hk, k1, k2, k3⟩ hs
    unfold f_PathList_comesBefore_b44
    refine ok_gr ⟨by omega, by omega⟩ (ok_gr ⟨by omega, by omega⟩ (ok_if (fun c => ?_) (fun c => ?_)))
    · rw [k3, rlt_end k1 k2 (by omega), p2]
      refine ok_gi ha (ok_gr ⟨by omega, by omega⟩ (ok_gr ⟨by omega, by omega⟩ (ok_if (fun c => ok_gb (by omega) (ok_some.mpr ?_)) (fun c => ok_gb (by omega) (ok_some.mpr ?_)))))
      · rw [decide_eq_false (by omega)]; rfl
      · rw [decide_eq_true (by omega)]; rfl
    · have g1 : k < r.length := by omega
      have g2 : k < p.2.length := by omega
      have e1 : row v = r[k] := by have := hr k _ (List.getElem?_eq_getElem g1); rw [Int.zero_add] at this; rw [hk]; exact this
      have e2 : rw (a * 144 + v) = p.2[k] := by rw [hk]; exact p3 k _ (List.getElem?_eq_getElem g2)
      have b1 := x3 _ (List.getElem_mem g1)
      have b2 := q3 _ (List.getElem_mem g2)
      have hst := rlt_eqs g1 g2
      refine ok_gi ⟨by omega, by omega⟩ (ok_bd.mpr (ok_gi ⟨by omega, by omega⟩ ?_))
      rw [e1, e2]
      refine ok_gr ⟨by omega, by omega⟩ (ok_gr ⟨by omega, by omega⟩ (ok_if (fun c3 => ?_) (fun c3 => ?_)))
      · exact hs _ ⟨k + 1, by omega, by omega, by omega, by rw [k3, hst, if_pos c3]⟩ (by show (144 - (v + 1)).toNat < (144 - v).toNat; omega)
      · rw [k3, hst, if_neg c3]
        refine ok_gi ⟨by omega, by omega⟩ (ok_gr ⟨by omega, by omega⟩ (ok_gr ⟨by omega, by omega⟩ (ok_if (fun c4 => ok_gb (by omega) (ok_some.mpr ?_)) (fun c4 => ok_gb (by omega) (ok_some.mpr ?_)))))
        · rw [decide_eq_false (by omega)]; rfl
        · rw [decide_eq_true (by omega)]; rfl
  · rw [hb, if_neg h]
    refine ok_gi ha (ok_gr ⟨by omega, by omega⟩ (ok_gr ⟨by omega, by omega⟩ (ok_if (fun c => ok_gb (by omega) (ok_some.mpr ?_)) (fun c => ok_gb (by omega) (ok_some.mpr ?_)))))
    · rw [decide_eq_false (by omega)]; rfl
    · rw [decide_eq_true (by omega)]; rfl
/-- the insertion -/
theorem s_offerEnd {sz : Int} {row : Int → Int} {r : List Int} {s : Int} {P : List (Int × List Int)} {k : Nat} (hF : 200 ≤ F) (hx : PE (s, r)) (hr : rowAt row 0 r) (hP : CL sz sl sk ln rw P) (hk : k ≤ P.length) (hin : insr (s, r) P = P.take k ++ (s, r) :: P.drop k) :
    ok (f_PathList_offer_j36 F sz sl sk ln rw row s (r.length : Int) (k : Int)) (fun x => CL x.1 x.2.1 x.2.2.1 x.2.2.2.1 x.2.2.2.2 (top20 P (s, r))) := by
  obtain ⟨h1, h20, hsr, hin1, hinj, hP4⟩ := hP
  have hx2 := hx.2.1
  simp only at hx2
  unfold f_PathList_offer_j36
  refine ok_gr ⟨by omega, by omega⟩ (ok_if (fun c => ?_) (fun c => ?_))
  · -- a slot is taken
    have htake : ∃ sz' slot, f_PathList_takeSlot F sz sl = some (slot, sz') ∧ sz' = min (sz + 1) 20 ∧ (0 ≤ slot ∧ slot < sz') ∧ ∀ i, 0 ≤ i → i < sz' - 1 → sl i ≠ slot := by
      by_cases q : 20 ≤ sz
      · refine ⟨sz, sl 19, ?_, by omega, by have := hin1 19 (by omega) (by omega); omega, fun i a b z => ?_⟩
        · apply ok_eq
          unfold f_PathList_takeSlot
          exact ok_gr ⟨by omega, by omega⟩ (ok_if (fun _ => ok_gi ⟨by omega, by omega⟩ (ok_some.mpr rfl)) (fun z => absurd q z))
        · have := hinj i 19 a (by omega) (by omega) (by omega) z
          omega
      · refine ⟨sz + 1, (sz + 1) - 1, ?_, by omega, by omega, fun i a b z => ?_⟩
        · apply ok_eq
          unfold f_PathList_takeSlot
          exact ok_gr ⟨by omega, by omega⟩ (ok_if (fun z => absurd z q) (fun _ => ok_some.mpr rfl))
        · have := hin1 i a (by omega)
          omega
    obtain ⟨sz', slot, ht, hsz', hsl, hfree⟩ := htake
    rw [ht]
    show ok (bd (sz' - 1) (fun (v6 : Int) => (lq2 (f_PathList_offer_b58 F sk ln rw row s (r.length : Int) (k : Int) slot sz') F v6 sl))) _
    refine ok_bd.mpr ?_
    refine lq2_ok (fun (v : Int) T => ((k : Int) ≤ v ∧ v < sz') ∧ (∀ i, 0 ≤ i → i ≤ v → T i = sl i) ∧ ∀ i, v < i → i < sz' → T i = sl (i - 1)) (fun v _ => v.toNat) _ ?_ F _ sl ⟨by omega, fun i _ _ => rfl, fun i a b => by omega⟩ (by show (sz' - 1).toNat < F; omega)
    rintro self v T ⟨hv, t1, t2⟩ hs
    unfold f_PathList_offer_b58
    refine ok_gr ⟨by omega, by omega⟩ (ok_gr ⟨by omega, by omega⟩ (ok_if (fun c2 => ?_) (fun c2 => ?_)))
    · have ev : v = (k : Int) := by omega
      subst ev
      refine ok_gi ⟨by omega, by omega⟩ (ok_bd.mpr (ok_gi ⟨by omega, by omega⟩ (ok_bd.mpr (ok_gi ⟨by omega, by omega⟩ (ok_bd.mpr (ok_gc ⟨by omega, by omega, by omega, by omega, by omega⟩ (ok_bd.mpr (ok_some.mpr ?_))))))))
      -- where the slots are
      have hT : ∀ i, 0 ≤ i → i < sz' → ui T k slot i = if i = k then slot else if i < k then sl i else sl (i - 1) := by
        intro i a b
        rw [ui_e]
        by_cases e : i = (k : Int)
        · rw [if_pos e, if_pos e]
        · rw [if_neg e, if_neg e]
          by_cases e2 : i < (k : Int)
          · rw [if_pos e2]; exact t1 i a (by omega)
          · rw [if_neg e2]; exact t2 i (by omega) b
      have hkeep : ∀ a p, a ≠ slot → 0 ≤ a → CE sk ln rw a p → CE (ui sk slot s) (ui ln slot (r.length : Int)) (ucp row rw 0 (slot * 144) (r.length : Int)) a p := by
        intro a p ha h0 h
        refine CE_cg h (ui_n ha) (ui_n ha) (fun j hj => ?_)
        unfold ucp
        rw [if_neg (by omega)]
      refine ⟨?_, ?_, top_srt hsr _, fun i a b => ?_, fun i j a b a2 b2 q => ?_, fun i p hp => ?_⟩
      · show sz' = _; rw [top_len]; omega
      · rw [top_len]; omega
      · have b' : i < sz' := b
        show 0 ≤ ui T k slot i ∧ ui T k slot i < sz'
        rw [hT i a b']
        by_cases e : i = (k : Int)
        · rw [if_pos e]; exact hsl
        · rw [if_neg e]
          by_cases e2 : i < (k : Int)
          · rw [if_pos e2]; have := hin1 i a (by omega); omega
          · rw [if_neg e2]; have := hin1 (i - 1) (by omega) (by omega); omega
      · have b' : i < sz' := b
        have b2' : j < sz' := b2
        have q' : ui T k slot i = ui T k slot j := q
        rw [hT i a b', hT j a2 b2'] at q'
        by_cases e : i = (k : Int)
        · rw [if_pos e] at q'
          by_cases f : j = (k : Int)
          · omega
          · rw [if_neg f] at q'
            by_cases f2 : j < (k : Int)
            · rw [if_pos f2] at q'; exact absurd q'.symm (hfree j a2 (by omega))
            · rw [if_neg f2] at q'; exact absurd q'.symm (hfree (j - 1) (by omega) (by omega))
        · rw [if_neg e] at q'
          by_cases e2 : i < (k : Int)
          · rw [if_pos e2] at q'
            by_cases f : j = (k : Int)
            · rw [if_pos f] at q'; exact absurd q' (hfree i a (by omega))
            · rw [if_neg f] at q'
              by_cases f2 : j < (k : Int)
              · rw [if_pos f2] at q'; exact hinj i j a (by omega) a2 (by omega) q'
              · rw [if_neg f2] at q'
                have := hinj i (j - 1) a (by omega) (by omega) (by omega) q'
                omega
          · rw [if_neg e2] at q'
            by_cases f : j = (k : Int)
            · rw [if_pos f] at q'; exact absurd q' (hfree (i - 1) (by omega) (by omega))
            · rw [if_neg f] at q'
              by_cases f2 : j < (k : Int)
              · rw [if_pos f2] at q'
                have := hinj (i - 1) j (by omega) (by omega) a2 (by omega) q'
                omega
              · rw [if_neg f2] at q'
                have := hinj (i - 1) (j - 1) (by omega) (by omega) (by omega) (by omega) q'
                omega
      · have hil := getE_lt hp
        rw [top_len] at hil
        show CE (ui sk slot s) (ui ln slot (r.length : Int)) (ucp row rw 0 (slot * 144) (r.length : Int)) (ui T k slot i) p
        rw [hT i (by omega) (by omega)]
        obtain ⟨i20, q⟩ := top_get hk hin hp
        rcases q with ⟨q, q2⟩ | ⟨q, q2⟩ | ⟨q, q2⟩
        · rw [if_neg (by omega), if_pos (by omega)]
          have hb := getE_lt q2
          exact hkeep _ p (hfree i (by omega) (by omega)) (hin1 i (by omega) (by omega)).1 (hP4 i p q2)
        · rw [if_pos (by omega), q2]
          refine ⟨ui_s _ _ _, ui_s _ _ _, fun j e he => ?_, hx⟩
          have hj := getE_lt he
          simp only at hj
          unfold ucp
          rw [if_pos (by omega), show (0 : Int) + (slot * 144 + (j : Int) - slot * 144) = 0 + j by omega]
          exact hr j e he
        · rw [if_neg (by omega), if_neg (by omega)]
          have hb := getE_lt q2
          have := hP4 (i - 1) p q2
          rw [show ((i - 1 : Nat) : Int) = (i : Int) - 1 by omega] at this
          exact hkeep _ p (hfree (i - 1) (by omega) (by omega)) (hin1 (i - 1) (by omega) (by omega)).1 this
    · refine ok_gi ⟨by omega, by omega⟩ (ok_gi ⟨by omega, by omega⟩ (ok_bd.mpr ?_))
      refine hs _ _ ⟨by omega, fun i a b => ?_, fun i a b => ?_⟩ (by show (v + -1).toNat < v.toNat; omega)
      · rw [ui_n (by omega)]; exact t1 i a (by omega)
      · rw [ui_e]
        by_cases e : i = v
        · rw [if_pos e, t1 (v - 1) (by omega) (by omega), e]
        · rw [if_neg e]; exact t2 i (by omega) b
  · -- none is taken
    have e : top20 P (s, r) = P := by
      have : top20 P (s, r) = (insr (s, r) P).take 20 := rfl
      rw [this, hin, List.take_append_of_le_length (by rw [List.length_take]; omega), List.take_take, show min 20 k = P.length by omega, List.take_length]
    refine ok_some.mpr ?_
    rw [e]
    exact ⟨h1, h20, hsr, hin1, hinj, hP4⟩
theorem s_offer {sz : Int} {row : Int → Int} {r : List Int} {s : Int} {P : List (Int × List Int)} (hF : 200 ≤ F) (hx : PE (s, r)) (hr : rowAt row 0 r) (hP : CL sz sl sk ln rw P) :
    ok (f_PathList_offer F sz sl sk ln rw row s (r.length : Int)) (fun x => CL x.1 x.2.1 x.2.2.1 x.2.2.2.1 x.2.2.2.2 (top20 P (s, r))) := by
  have hP' := hP
  obtain ⟨h1, h20, hsr, hin1, hinj, hP4⟩ := hP'
  unfold f_PathList_offer
  refine lq1_ok (fun (v : Int) => ∃ k : Nat, v = (k : Int) ∧ k ≤ P.length ∧ ∀ (i : Nat) p, k ≤ i → P[i]? = some p → bef (s, r) p = true) (fun v => v.toNat) _ ?_ F _ ⟨P.length, h1, Nat.le_refl _, fun i p q1 q2 => by have := getE_lt q2; omega⟩ (by show sz.toNat < F; omega)
  rintro self v ⟨k, hk, hkl, i2⟩ hs
  unfold f_PathList_offer_b6
  refine ok_gr ⟨by omega, by omega⟩ (ok_if (fun c => ?_) (fun c => ?_))
  · have ek : k = 0 := by omega
    rw [hk]
    exact s_offerEnd hF hx hr hP hkl (insr_from hsr hkl i2 (Or.inl ek))
  · have g1 : k - 1 < P.length := by omega
    have hget := List.getElem?_eq_getElem g1
    have hCE := hP4 (k - 1) _ hget
    rw [show ((k - 1 : Nat) : Int) = v - 1 by omega] at hCE
    have hsl := hin1 (v - 1) (by omega) (by omega)
    refine ok_gi ⟨by omega, by omega⟩ ?_
    rw [e_comesBefore hF hx hr (by omega) hCE, ob1_s]
    have z1' := bz_1 (bef (s, r) P[k - 1] = true)
    have z2' := bz_01 (bef (s, r) P[k - 1] = true)
    refine ok_gr ⟨by omega, by omega⟩ (ok_if (fun c2 => ?_) (fun c2 => ?_))
    · have hf : bef (s, r) P[k - 1] = false := by
        cases h : bef (s, r) P[k - 1] with
        | false => rfl
        | true => have := z1'.mpr h; omega
      rw [hk]
      exact s_offerEnd hF hx hr hP hkl (insr_from hsr hkl i2 (Or.inr ⟨_, hget, hf⟩))
    · have ht : bef (s, r) P[k - 1] = true := z1'.mp (by omega)
      refine hs _ ⟨k - 1, by omega, by omega, fun i p q1 q2 => ?_⟩ (by show (v + -1).toNat < v.toNat; omega)
      by_cases e : i = k - 1
      · subst e
        rw [hget] at q2
        rw [← Option.some.inj q2]
        exact ht
      · exact i2 i p (by omega) q2
/-- where the class need not offer -/
theorem e_mayTake {sz : Int} {s : Int} {P : List (Int × List Int)} (hP : CL sz sl sk ln rw P) (hs : -100000000 ≤ s ∧ s ≤ 100000000) : f_PathList_mayTake F sz sl sk s = some (bz (P.length < 20 ∨ ∃ p, P[19]? = some p ∧ s ≤ p.1)) := by
  obtain ⟨h1, h20, hsr, hin1, hinj, hP4⟩ := hP
  apply ok_eq
  unfold f_PathList_mayTake f_PathList_mayTake_j25
  refine ok_gr ⟨by omega, by omega⟩ (ok_if (fun c => ok_gb (by omega) (ok_some.mpr ?_)) (fun c => ?_))
  · exact ((bz_1 _).mpr (Or.inl (by omega))).symm
  · have g1 : 19 < P.length := by omega
    have hget := List.getElem?_eq_getElem g1
    have hCE := hP4 19 _ hget
    have hsl := hin1 19 (by omega) (by omega)
    have e19 : ((19 : Nat) : Int) = 19 := rfl
    rw [e19] at hCE
    have hr := hCE.2.2.2.1
    rw [hCE.1]
    refine ok_gi ⟨by omega, by omega⟩ (ok_gi ⟨by omega, by omega⟩ (ok_gr ⟨by omega, by omega⟩ (ok_gr ⟨by omega, by omega⟩ (ok_if (fun c2 => ok_gb (by omega) (ok_some.mpr ?_)) (fun c2 => ok_gb (by omega) (ok_some.mpr ?_))))))
    · unfold bz
      rw [if_neg]
      rintro (q | ⟨p, q1, q2⟩)
      · omega
      · rw [hget] at q1
        rw [← Option.some.inj q1] at q2
        omega
    · exact ((bz_1 _).mpr (Or.inr ⟨_, hget, by omega⟩)).symm
theorem no_take {P : List (Int × List Int)} {x : Int × List Int} (hsr : srt P) (h20 : P.length ≤ 20) (h : ¬ (P.length < 20 ∨ ∃ p, P[19]? = some p ∧ x.1 ≤ p.1)) : top20 P x = P := by
  have hl : P.length = 20 := by omega
  have g1 : 19 < P.length := by omega
  have hget := List.getElem?_eq_getElem g1
  have hb : bef x P[19] = false := by
    have hn : ¬ x.1 ≤ P[19].1 := fun q => h (Or.inr ⟨_, hget, q⟩)
    have : bef x P[19] = if x.1 = P[19].1 then rlt x.2 P[19].2 else decide (x.1 < P[19].1) := rfl
    rw [this, if_neg (by omega), decide_eq_false (by omega)]
  have hin := insr_from (x := x) hsr (Nat.le_refl P.length) (fun i p a b => by have := getE_lt b; omega) (Or.inr ⟨_, by rw [show P.length - 1 = 19 by omega]; exact hget, hb⟩)
  have : top20 P x = (insr x P).take 20 := rfl
  rw [this, hin, List.take_append_of_le_length (by rw [List.length_take]; omega), List.take_take, show min 20 P.length = P.length by omega, List.take_length]
end CLI
