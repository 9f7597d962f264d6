/-! the reference's lists -/
section MLI
variable {F : Nat} {lsl lsz lrw : Int → Int}
/-- a timing path at its place in the reference's lists -/
def ME (lsl lsz lrw : Int → Int) (a : Int) (p : Int × List Int) : Prop := lsl a = p.1 ∧ lsz a = (p.2.length : Int) ∧ rowAt lrw (160 * a) p.2 ∧ PE p
def MLs (lsd lsl lsz lrw : Int → Int) (ch : Int) (P : List (Int × List Int)) : Prop := lsd ch = (P.length : Int) ∧ P.length ≤ 20 ∧ srt P ∧ ∀ (i : Nat) p, P[i]? = some p → ME lsl lsz lrw (21 * ch + i) p
theorem e_isBefore {row : Int → Int} {r : List Int} {s a : Int} {p : Int × List Int} (hF : 200 ≤ F) (hx : PE (s, r)) (hr : rowAt row 0 r) (ha : 0 ≤ a ∧ a < 42) (hp : ME lsl lsz lrw a p) : f_M_isBefore F (r.length : Int) row lsl lsz lrw s a = some (bz (bef (s, r) p = true)) := by
  obtain ⟨p1, p2, p3, q1, q2, q3⟩ := hp
  obtain ⟨x1, x2, x3⟩ := hx
  simp only at x1 x2 x3
  have hgb : ∀ b : Bool, bz (b = true) = if b then 1 else 0 := by intro b; cases b <;> rfl
  have hb : bef (s, r) p = if s = p.1 then rlt r p.2 else decide (s < p.1) := rfl
  apply ok_eq
  unfold f_M_isBefore
  rw [p1]
  refine ok_gi ha (ok_gr ⟨by omega, by omega⟩ (ok_gr ⟨by omega, by omega⟩ (ok_if (fun h => ?_) (fun h => ?_))))
  · rw [hb, if_pos h]
    refine lq1_ok (fun (v : Int) => ∃ k : Nat, v = (k : Int) ∧ k ≤ r.length ∧ k ≤ p.2.length ∧ rlt r p.2 = rlt (r.drop k) (p.2.drop k)) (fun v => (144 - v).toNat) _ ?_ F 0 ⟨0, rfl, Nat.zero_le _, Nat.zero_le _, rfl⟩ (by show (144 - (0 : Int)).toNat < F; omega)
    rintro self v ⟨k, hk, k1, k2, k3⟩ hs
    have hend : (k = r.length ∨ k = p.2.length) → ok (f_M_isBefore_j100 F (r.length : Int) lsz a) (fun z => z = bz (rlt r p.2 = true)) := by
      intro q
      rw [k3, rlt_end k1 k2 q]
      unfold f_M_isBefore_j100
      rw [p2]
      refine ok_gi ha (ok_gr ⟨by omega, by omega⟩ (ok_gr ⟨by omega, by omega⟩ (ok_if (fun c => ok_gb (by omega) (ok_some.mpr ?_)) (fun c => ok_gb (by omega) (ok_some.mpr ?_)))))
      · rw [decide_eq_false (by omega)]; rfl
      · rw [decide_eq_true (by omega)]; rfl
    unfold f_M_isBefore_b28
    refine ok_gr ⟨by omega, by omega⟩ (ok_gr ⟨by omega, by omega⟩ (ok_if (fun c => hend (by omega)) (fun c => ?_)))
    refine ok_gi ha ?_
    rw [p2]
    refine ok_gr ⟨by omega, by omega⟩ (ok_gr ⟨by omega, by omega⟩ (ok_if (fun c2 => hend (by omega)) (fun c2 => ?_)))
    have g1 : k < r.length := by omega
    have g2 : k < p.2.length := by omega
    have e1 : row v = r[k] := by have := hr k _ (List.getElem?_eq_getElem g1); rw [Int.zero_add] at this; rw [hk]; exact this
    have e2 : lrw (160 * a + v) = p.2[k] := by rw [hk]; exact p3 k _ (List.getElem?_eq_getElem g2)
    have b1 := x3 _ (List.getElem_mem g1)
    have b2 := q3 _ (List.getElem_mem g2)
    have hst := rlt_eqs g1 g2
    refine ok_gi ⟨by omega, by omega⟩ (ok_gi ⟨by omega, by omega⟩ ?_)
    rw [e1, e2]
    refine ok_gr ⟨by omega, by omega⟩ (ok_gr ⟨by omega, by omega⟩ (ok_if (fun c3 => ?_) (fun c3 => ?_)))
    · exact hs _ ⟨k + 1, by omega, by omega, by omega, by rw [k3, hst, if_pos c3]⟩ (by show (144 - (v + 1)).toNat < (144 - v).toNat; omega)
    · rw [k3, hst, if_neg c3]
      refine ok_gi ⟨by omega, by omega⟩ (ok_gi ⟨by omega, by omega⟩ (ok_gr ⟨by omega, by omega⟩ (ok_gr ⟨by omega, by omega⟩ (ok_if (fun c4 => ok_gb (by omega) (ok_some.mpr ?_)) (fun c4 => ok_gb (by omega) (ok_some.mpr ?_))))))
      · rw [decide_eq_false (by omega)]; rfl
      · rw [decide_eq_true (by omega)]; rfl
  · rw [hb, if_neg h]
    refine ok_gi ha (ok_gr ⟨by omega, by omega⟩ (ok_gr ⟨by omega, by omega⟩ (ok_if (fun c => ok_gb (by omega) (ok_some.mpr ?_)) (fun c => ok_gb (by omega) (ok_some.mpr ?_)))))
    · rw [decide_eq_false (by omega)]; rfl
    · rw [decide_eq_true (by omega)]; rfl
/-- the rows outside of one list stay -/
def MFr (ch : Int) (lsl lsz lrw lsl' lsz' lrw' : Int → Int) : Prop := ∀ a p, (a < 21 * ch ∨ 21 * ch + 21 ≤ a) → ME lsl lsz lrw a p → ME lsl' lsz' lrw' a p
theorem ME_cg {lsl' lsz' lrw' : Int → Int} {a : Int} {p : Int × List Int} (h : ME lsl lsz lrw a p) (e1 : lsl' a = lsl a) (e2 : lsz' a = lsz a) (e3 : ∀ j : Nat, j < 160 → lrw' (160 * a + j) = lrw (160 * a + j)) : ME lsl' lsz' lrw' a p := by
  obtain ⟨p1, p2, p3, p4⟩ := h
  refine ⟨by rw [e1, p1], by rw [e2, p2], fun j e q => ?_, p4⟩
  rw [e3 j (by have := getE_lt q; have := p4.2.1; omega)]
  exact p3 j e q
/-- copying a row in -/
theorem s_listEnd {lsd row : Int → Int} {r : List Int} {s ch : Int} {P : List (Int × List Int)} {k : Nat} {l0 z0 w0 : Int → Int} (hF : 200 ≤ F) (hx : PE (s, r)) (hr : rowAt row 0 r) (hch : ch = 0 ∨ ch = 1) (hd : lsd ch = (P.length : Int)) (h20 : P.length ≤ 20) (hsr : srt P) (hk : k ≤ P.length) (hi1 : ∀ (i : Nat) p, i < k → P[i]? = some p → ME lsl lsz lrw (21 * ch + i) p) (hi2 : ∀ (i : Nat) p, k ≤ i → P[i]? = some p → ME lsl lsz lrw (21 * ch + i + 1) p) (hin : insr (s, r) P = P.take k ++ (s, r) :: P.drop k) (hfr : MFr ch l0 z0 w0 lsl lsz lrw) :
    ok (f_M_list_j127 F (r.length : Int) row lsd ch s (21 * ch) (k : Int) lsl lsz lrw) (fun x => MLs x.1 x.2.1 x.2.2.1 x.2.2.2 ch (top20 P (s, r)) ∧ (∀ c, c ≠ ch → x.1 c = lsd c) ∧ MFr ch l0 z0 w0 x.2.1 x.2.2.1 x.2.2.2) := by
  have hfin : ∀ (l1 z1 w1 : Int → Int), (∀ (i : Nat) p, (top20 P (s, r))[i]? = some p → ME l1 z1 w1 (21 * ch + i) p) → MFr ch l0 z0 w0 l1 z1 w1 → ok (f_M_list_j198 F lsd ch l1 z1 w1) (fun x => MLs x.1 x.2.1 x.2.2.1 x.2.2.2 ch (top20 P (s, r)) ∧ (∀ c, c ≠ ch → x.1 c = lsd c) ∧ MFr ch l0 z0 w0 x.2.1 x.2.2.1 x.2.2.2) := by
    intro l1 z1 w1 h1 h2
    have hend : ∀ q, q = ((top20 P (s, r)).length : Int) → ok (f_M_list_j227 F lsd ch l1 z1 w1 q) (fun x => MLs x.1 x.2.1 x.2.2.1 x.2.2.2 ch (top20 P (s, r)) ∧ (∀ c, c ≠ ch → x.1 c = lsd c) ∧ MFr ch l0 z0 w0 x.2.1 x.2.2.1 x.2.2.2) := by
      intro q hq
      unfold f_M_list_j227
      refine ok_gi ⟨by omega, by omega⟩ (ok_bd.mpr (ok_some.mpr ⟨⟨?_, ?_, top_srt hsr _, h1⟩, fun c hc => ?_, h2⟩))
      · show ui lsd ch q ch = _; rw [ui_s]; exact hq
      · rw [top_len]; omega
      · show ui lsd ch q c = _; rw [ui_n hc]
    unfold f_M_list_j198
    rw [hd]
    refine ok_gi ⟨by omega, by omega⟩ (ok_gr ⟨by omega, by omega⟩ (ok_if (fun c => hend _ ?_) (fun c => ok_gi ⟨by omega, by omega⟩ (hend _ ?_))))
    · rw [top_len]; omega
    · rw [top_len]; omega
  unfold f_M_list_j127
  refine ok_gr ⟨by omega, by omega⟩ (ok_if (fun c => ?_) (fun c => ?_))
  · refine hfin _ _ _ (fun i p hp => ?_) hfr
    obtain ⟨i20, q⟩ := top_get hk hin hp
    rcases q with q | q | q
    · exact hi1 i p q.1 q.2
    · omega
    · omega
  · refine ok_gi ⟨by omega, by omega⟩ (ok_bd.mpr (ok_gi ⟨by omega, by omega⟩ (ok_bd.mpr ?_)))
    have hx2 := hx.2.1
    simp only at hx2
    refine lq2_ok (fun (v : Int) (w : Int → Int) => ∃ j : Nat, v = (j : Int) ∧ j ≤ r.length ∧ (∀ z, (z < 160 * (21 * ch + k) ∨ 160 * (21 * ch + k) + 160 ≤ z) → w z = lrw z) ∧ ∀ (i : Nat) e, i < j → r[i]? = some e → w (160 * (21 * ch + k) + i) = e) (fun v _ => (144 - v).toNat) _ ?_ F 0 lrw ⟨0, rfl, Nat.zero_le _, fun _ _ => rfl, fun i e q => by omega⟩ (by show (144 - (0 : Int)).toNat < F; omega)
    rintro self v w ⟨j, hj, hj2, f1, f2⟩ hs
    unfold f_M_list_b160
    refine ok_gr ⟨by omega, by omega⟩ (ok_gr ⟨by omega, by omega⟩ (ok_if (fun c2 => ?_) (fun c2 => ?_)))
    · have ej : j = r.length := by omega
      have hkeep : ∀ a p, a ≠ 21 * ch + k → ME lsl lsz lrw a p → ME (ui lsl (21 * ch + k) s) (ui lsz (21 * ch + k) (r.length : Int)) w a p := by
        intro a p ha h
        exact ME_cg h (ui_n ha) (ui_n ha) (fun jj hjj => f1 _ (by omega))
      refine hfin _ _ _ (fun i p hp => ?_) (fun a p ha h => hkeep a p (by omega) (hfr a p ha h))
      obtain ⟨i20, q⟩ := top_get hk hin hp
      rcases q with q | q | q
      · exact hkeep _ p (by omega) (hi1 i p q.1 q.2)
      · obtain ⟨q, rfl⟩ := q
        subst q
        exact ⟨ui_s _ _ _, ui_s _ _ _, fun jj e hh => f2 jj e (by have := getE_lt hh; simp only at this; omega) hh, hx⟩
      · have := hi2 (i - 1) p (by omega) q.2
        rw [show 21 * ch + ((i - 1 : Nat) : Int) + 1 = 21 * ch + i by omega] at this
        exact hkeep _ p (by omega) this
    · have g1 : j < r.length := by omega
      have e1 : row v = r[j] := by have := hr j _ (List.getElem?_eq_getElem g1); rw [Int.zero_add] at this; rw [hj]; exact this
      refine ok_gi ⟨by omega, by omega⟩ (ok_gi ⟨by omega, by omega⟩ (ok_bd.mpr ?_))
      refine hs _ _ ⟨j + 1, by omega, by omega, fun z hz => ?_, fun i e hi he => ?_⟩ (by show (144 - (v + 1)).toNat < (144 - v).toNat; omega)
      · rw [ui_n (by omega)]; exact f1 z hz
      · rw [ui_e]
        by_cases q : i = j
        · subst q
          rw [if_pos (by omega), e1]
          rw [List.getElem?_eq_getElem g1] at he
          exact Option.some.inj he
        · rw [if_neg (by omega)]; exact f2 i e (by omega) he
theorem s_list {lsd row : Int → Int} {r : List Int} {s ch : Int} {P : List (Int × List Int)} (hF : 200 ≤ F) (hx : PE (s, r)) (hr : rowAt row 0 r) (hch : ch = 0 ∨ ch = 1) (hP : MLs lsd lsl lsz lrw ch P) :
    ok (f_M_list F (r.length : Int) row lsd lsl lsz lrw ch s) (fun x => MLs x.1 x.2.1 x.2.2.1 x.2.2.2 ch (top20 P (s, r)) ∧ (∀ c, c ≠ ch → x.1 c = lsd c) ∧ MFr ch lsl lsz lrw x.2.1 x.2.2.1 x.2.2.2) := by
  obtain ⟨hd, h20, hsr, hP4⟩ := hP
  unfold f_M_list
  refine ok_bd.mpr (ok_gi ⟨by omega, by omega⟩ (ok_bd.mpr ?_))
  refine lq4_ok (fun (v : Int) l1 z1 w1 => ∃ k : Nat, v = (k : Int) ∧ k ≤ P.length ∧ (∀ (i : Nat) p, i < k → P[i]? = some p → ME l1 z1 w1 (21 * ch + i) p) ∧ (∀ (i : Nat) p, k ≤ i → P[i]? = some p → ME l1 z1 w1 (21 * ch + i + 1) p ∧ bef (s, r) p = true) ∧ MFr ch lsl lsz lrw l1 z1 w1) (fun v _ _ _ => v.toNat) _ ?_ F _ lsl lsz lrw ⟨P.length, hd, Nat.le_refl _, fun i p _ q => hP4 i p q, fun i p q1 q2 => by have := getE_lt q2; omega, fun a p _ h => h⟩ (by show (lsd ch).toNat < F; omega)
  rintro self v l1 z1 w1 ⟨k, hk, hkl, i1, i2, i3⟩ hs
  unfold f_M_list_b13
  refine ok_gr ⟨by omega, by omega⟩ (ok_if (fun c => ?_) (fun c => ?_))
  · have ek : k = 0 := by omega
    rw [hk]
    exact s_listEnd hF hx hr hch hd h20 hsr hkl i1 (fun i p a b => (i2 i p a b).1) (insr_from hsr hkl (fun i p a b => (i2 i p a b).2) (Or.inl ek)) i3
  · have g1 : k - 1 < P.length := by omega
    have hget := List.getElem?_eq_getElem g1
    have hME := i1 (k - 1) _ (by omega) hget
    rw [show 21 * ch + ((k - 1 : Nat) : Int) = 21 * ch + v - 1 by omega] at hME
    rw [e_isBefore hF hx hr (by omega) hME, ob1_s]
    have z1' := bz_1 (bef (s, r) P[k - 1] = true)
    have z2' := bz_01 (bef (s, r) P[k - 1] = true)
    refine ok_gr ⟨by omega, by omega⟩ (ok_if (fun c2 => ?_) (fun c2 => ?_))
    · have hf : bef (s, r) P[k - 1] = false := by
        cases h : bef (s, r) P[k - 1] with
        | false => rfl
        | true => have := z1'.mpr h; omega
      rw [hk]
      exact s_listEnd hF hx hr hch hd h20 hsr hkl i1 (fun i p a b => (i2 i p a b).1) (insr_from hsr hkl (fun i p a b => (i2 i p a b).2) (Or.inr ⟨_, hget, hf⟩)) i3
    · have ht : bef (s, r) P[k - 1] = true := z1'.mp (by omega)
      obtain ⟨m1, m2, m3, m4⟩ := hME
      have hlen := m4.2.1
      refine ok_bd.mpr (ok_gi ⟨by omega, by omega⟩ (ok_gi ⟨by omega, by omega⟩ (ok_bd.mpr (ok_gi ⟨by omega, by omega⟩ (ok_gi ⟨by omega, by omega⟩ (ok_bd.mpr ?_))))))
      refine lq2_ok (fun (u : Int) (w : Int → Int) => ∃ j : Nat, u = (j : Int) ∧ j ≤ (P[k - 1]).2.length ∧ (∀ z, (z < 160 * (21 * ch + v) ∨ 160 * (21 * ch + v) + 160 ≤ z) → w z = w1 z) ∧ ∀ (i : Nat) e, i < j → (P[k - 1]).2[i]? = some e → w (160 * (21 * ch + v) + i) = e) (fun u _ => (144 - u).toNat) _ ?_ F 0 w1 ⟨0, rfl, Nat.zero_le _, fun _ _ => rfl, fun i e q => by omega⟩ (by show (144 - (0 : Int)).toNat < F; omega)
      rintro self2 u w ⟨j, hj, hj2, f1, f2⟩ hs2
      unfold f_M_list_b73
      rw [ui_s, m2]
      refine ok_gi ⟨by omega, by omega⟩ (ok_gr ⟨by omega, by omega⟩ (ok_gr ⟨by omega, by omega⟩ (ok_if (fun c3 => ?_) (fun c3 => ?_))))
      · have ej : j = (P[k - 1]).2.length := by omega
        have hkeep : ∀ a p, a ≠ 21 * ch + v → ME l1 z1 w1 a p → ME (ui l1 (21 * ch + v) (l1 (21 * ch + v - 1))) (ui z1 (21 * ch + v) (((P[k - 1]).2.length : Nat) : Int)) w a p := by
          intro a p ha h
          exact ME_cg h (ui_n ha) (ui_n ha) (fun jj hjj => f1 _ (by omega))
        refine hs _ _ _ _ ⟨k - 1, by omega, by omega, fun i p q1 q2 => hkeep _ p (by omega) (i1 i p (by omega) q2), fun i p q1 q2 => ?_, fun a p ha h => hkeep a p (by omega) (i3 a p ha h)⟩ (by show (v + -1).toNat < v.toNat; omega)
        by_cases e : i = k - 1
        · subst e
          rw [hget] at q2
          have e2 := Option.some.inj q2
          subst e2
          rw [show 21 * ch + ((k - 1 : Nat) : Int) + 1 = 21 * ch + v by omega]
          exact ⟨⟨by rw [ui_s]; exact m1, ui_s _ _ _, fun jj e hh => f2 jj e (by have := getE_lt hh; omega) hh, m4⟩, ht⟩
        · obtain ⟨y1, y2⟩ := i2 i p (by omega) q2
          exact ⟨hkeep _ p (by omega) y1, y2⟩
      · have g2 : j < (P[k - 1]).2.length := by omega
        have e1 : w (160 * (21 * ch + v - 1) + u) = (P[k - 1]).2[j] := by
          rw [f1 _ (by omega), hj]
          exact m3 j _ (List.getElem?_eq_getElem g2)
        refine ok_gi ⟨by omega, by omega⟩ (ok_gi ⟨by omega, by omega⟩ (ok_bd.mpr ?_))
        refine hs2 _ _ ⟨j + 1, by omega, by omega, fun z hz => ?_, fun i e hi he => ?_⟩ (by show (144 - (u + 1)).toNat < (144 - u).toNat; omega)
        · rw [ui_n (by omega)]; exact f1 z hz
        · rw [ui_e]
          by_cases q : i = j
          · subst q
            rw [if_pos (by omega), e1]
            rw [List.getElem?_eq_getElem g2] at he
            exact Option.some.inj he
          · rw [if_neg (by omega)]; exact f2 i e (by omega) he
end MLI
