/-! the reference meets an end -/
def mnv (v y : Int) : Int := if v = -2147483648 ∨ y < v then y else v
section MEET
variable {F : Nat} {wE wL gE gL : Int → Int} {wid per : Int} {wc wb we wl wla wsz wr wsp : Int → Int} {LL : Int → List (Int × List Int)}
theorem edg_mv (hwid : 1 ≤ wid ∧ wid < per ∧ per ≤ 1000000) (o o' : Option (Int × List Int)) : edg per wid o o' ≤ per - 1 ↔ ¬ wbs wid o' ≤ wbs wid o := by
  have b1 := wbs_b hwid.1 o
  have b2 := wbs_b hwid.1 o'
  unfold edg
  by_cases q : wbs wid o' ≤ wbs wid o
  · rw [if_pos q]; constructor
    · intro z; omega
    · intro z; exact absurd q z
  · rw [if_neg q]; constructor
    · intro _; exact q
    · intro _; omega
theorem edg_b (hwid : 1 ≤ wid ∧ wid < per ∧ per ≤ 1000000) (o o' : Option (Int × List Int)) : 0 ≤ edg per wid o o' ∧ edg per wid o o' ≤ 2000000 := by
  have b2 := wbs_b hwid.1 o'
  unfold edg
  by_cases q : wbs wid o' ≤ wbs wid o
  · rw [if_pos q]; omega
  · rw [if_neg q]; omega
theorem s_meet {n m p q B c a b ww wo s0 s1 : Int} {o o' : Option (Int × List Int)} {fo sc A : Int → Int} (hF : 200 ≤ F) (hwid : 1 ≤ wid ∧ wid < per ∧ per ≤ 1000000) (hp : isQ wE wL gE gL wid wc wb we wl wla wsz wr wsp LL n p o) (hq : isQ wE wL gE gL wid wc wb we wl wla wsz wr wsp LL m q o') (hp2 : -2147483648 ≤ p ∧ p < 384) (hq2 : -2147483648 ≤ q ∧ q < 384) (hB : B = wbs wid o) (hm : 0 ≤ m ∧ m < 48) (hc : c = 0 ∨ c = 1)
    (e0 : s0 = edg per wid o o' + wdl wE gE m o' + crd (dE wE gE) (dE wL gL) wE wL n o m o' - fo (2 * m + c) - b) (e1 : s1 = a + crd (dE wE gE) (dE wL gL) wE wL n o m o' - edg per wid o o' - wdl wL gL m o' - sc (2 * m + c) + per) (r0 : -2147483648 ≤ s0 ∧ s0 ≤ 2147483647) (r1 : -2147483648 ≤ s1 ∧ s1 ≤ 2147483647) (r2 : ∀ i, 0 ≤ i → i < 96 → -2147483648 ≤ A i ∧ A i ≤ 2147483647) (r3 : -2147483648 ≤ ww ∧ ww ≤ 2147483647) (r4 : -2147483648 ≤ wo ∧ wo ≤ 2147483647) :
    ok (f_M_meet F per p B ww wo fo sc wb we wl wla wsz wr wsp A m c q a b) (fun r => r.1 = ui (ui A (2 * m) (mnv (A (2 * m)) s0)) (2 * m + 1) (mnv (A (2 * m + 1)) s1) ∧ r.2.1 = (if wbs wid o' ≤ wbs wid o then mnv ww s0 else ww) ∧ r.2.2 = (if wbs wid o' ≤ wbs wid o then wo else mnv wo s0)) := by
  have hed := e_edge (F := F) (wE := wE) (wL := wL) (gE := gE) (gL := gL) hwid hq hq2.1 hB
  have hmv := edg_mv hwid o o'
  have heb := edg_b hwid o o'
  unfold f_M_meet
  refine lq4_ok (fun (v : Int) A1 w1 w2 => (0 ≤ v ∧ v ≤ 2) ∧ (v = 0 → A1 = A ∧ w1 = ww ∧ w2 = wo) ∧ (0 < v → (v = 1 → A1 = ui A (2 * m) (mnv (A (2 * m)) s0)) ∧ (v = 2 → A1 = ui (ui A (2 * m) (mnv (A (2 * m)) s0)) (2 * m + 1) (mnv (A (2 * m + 1)) s1)) ∧ w1 = (if wbs wid o' ≤ wbs wid o then mnv ww s0 else ww) ∧ w2 = (if wbs wid o' ≤ wbs wid o then wo else mnv wo s0))) (fun v _ _ _ => (2 - v).toNat) _ ?_ F 0 A ww wo ⟨by omega, fun _ => ⟨rfl, rfl, rfl⟩, fun z => by omega⟩ (by show (2 - (0 : Int)).toNat < F; omega)
  rintro self v A1 w1 w2 ⟨hv, h0, h1⟩ hs
  unfold f_M_meet_b3
  refine ok_gr ⟨by omega, by omega⟩ (ok_if (fun h2 => ?_) (fun h2 => ?_))
  · have ev : v = 2 := by omega
    obtain ⟨-, k2, k3, k4⟩ := h1 (by omega)
    exact ok_some.mpr ⟨k2 ev, k3, k4⟩
  · rcases (show v = 0 ∨ v = 1 by omega) with ev | ev
    · obtain ⟨g1, g2, g3⟩ := h0 ev
      subst ev; subst g1; subst g2; subst g3
      rw [e_slack0 hF hwid hp hq hp2 hq2 hB (by omega), ob1_s, ← e0, Int.add_zero]
      have hg : 0 ≤ 2 * m ∧ 2 * m < ((96 : Nat) : Int) := by omega
      have hA := r2 (2 * m) (by omega) (by omega)
      -- what follows the end's own least
      have h74 : ∀ z, z = mnv (A1 (2 * m)) s0 → ok (f_M_meet_j74 F per B wb q 0 A1 w1 w2 self s0 (2 * m) z) (fun r => r.1 = ui (ui A1 (2 * m) (mnv (A1 (2 * m)) s0)) (2 * m + 1) (mnv (A1 (2 * m + 1)) s1) ∧ r.2.1 = (if wbs wid o' ≤ wbs wid o then mnv w1 s0 else w1) ∧ r.2.2 = (if wbs wid o' ≤ wbs wid o then w2 else mnv w2 s0)) := by
        intro z hz
        have hgo : ∀ u1 u2, u1 = (if wbs wid o' ≤ wbs wid o then mnv w1 s0 else w1) → u2 = (if wbs wid o' ≤ wbs wid o then w2 else mnv w2 s0) → ok (self (0 + 1) (ui A1 (2 * m) z) u1 u2) (fun r => r.1 = ui (ui A1 (2 * m) (mnv (A1 (2 * m)) s0)) (2 * m + 1) (mnv (A1 (2 * m + 1)) s1) ∧ r.2.1 = (if wbs wid o' ≤ wbs wid o then mnv w1 s0 else w1) ∧ r.2.2 = (if wbs wid o' ≤ wbs wid o then w2 else mnv w2 s0)) := by
          intro u1 u2 q1 q2
          exact hs _ _ _ _ ⟨by omega, fun z' => by omega, fun _ => ⟨fun _ => by rw [hz], fun z' => by omega, q1, q2⟩⟩ (by show (2 - ((0 : Int) + 1)).toNat < (2 - (0 : Int)).toNat; omega)
        unfold f_M_meet_j74
        refine ok_gi hg (ok_bd.mpr (ok_gr ⟨by omega, by omega⟩ (ok_if (fun _ => ?_) (fun z' => absurd rfl z'))))
        rw [hed, ob1_s]
        refine ok_gr ⟨by omega, by omega⟩ (ok_gr ⟨by omega, by omega⟩ (ok_if (fun k => ?_) (fun k => ?_)))
        · have hnm := hmv.mp k
          have hgo' : ∀ u2, u2 = mnv w2 s0 → ok (self (0 + 1) (ui A1 (2 * m) z) w1 u2) (fun r => r.1 = ui (ui A1 (2 * m) (mnv (A1 (2 * m)) s0)) (2 * m + 1) (mnv (A1 (2 * m + 1)) s1) ∧ r.2.1 = (if wbs wid o' ≤ wbs wid o then mnv w1 s0 else w1) ∧ r.2.2 = (if wbs wid o' ≤ wbs wid o then w2 else mnv w2 s0)) := fun u2 q2 => hgo _ _ (by rw [if_neg hnm]) (by rw [if_neg hnm]; exact q2)
          unfold f_M_meet_j128
          refine ok_gr ⟨by omega, by omega⟩ (ok_if (fun _ => ok_gr r4 (ok_if (fun k2 => hgo' s0 ?_) (fun k2 => ok_gr r0 (ok_gr r4 (ok_if (fun k3 => hgo' w2 ?_) (fun k3 => hgo' s0 ?_)))))) (fun z' => absurd rfl z'))
          · unfold mnv; rw [if_pos (Or.inl k2)]
          · unfold mnv; rw [if_neg (by omega)]
          · unfold mnv; rw [if_pos (Or.inr (by omega))]
        · have hm' : wbs wid o' ≤ wbs wid o := Classical.not_not.mp (fun z' => k (hmv.mpr z'))
          have hgo' : ∀ u1, u1 = mnv w1 s0 → ok (self (0 + 1) (ui A1 (2 * m) z) u1 w2) (fun r => r.1 = ui (ui A1 (2 * m) (mnv (A1 (2 * m)) s0)) (2 * m + 1) (mnv (A1 (2 * m + 1)) s1) ∧ r.2.1 = (if wbs wid o' ≤ wbs wid o then mnv w1 s0 else w1) ∧ r.2.2 = (if wbs wid o' ≤ wbs wid o then w2 else mnv w2 s0)) := fun u1 q1 => hgo _ _ (by rw [if_pos hm']; exact q1) (by rw [if_pos hm'])
          refine ok_gr r3 (ok_if (fun k2 => hgo' s0 ?_) (fun k2 => ok_gr r0 (ok_gr r3 (ok_if (fun k3 => hgo' w1 ?_) (fun k3 => hgo' s0 ?_)))))
          · unfold mnv; rw [if_pos (Or.inl k2)]
          · unfold mnv; rw [if_neg (by omega)]
          · unfold mnv; rw [if_pos (Or.inr (by omega))]
      refine ok_bd.mpr (ok_gi hg (ok_gr hA (ok_if (fun k => h74 s0 ?_) (fun k => ok_gi hg (ok_gr r0 (ok_gr hA (ok_if (fun k2 => ok_gi hg (h74 _ ?_)) (fun k2 => h74 s0 ?_))))))))
      · unfold mnv; rw [if_pos (Or.inl k)]
      · unfold mnv; rw [if_neg (by omega)]
      · unfold mnv; rw [if_pos (Or.inr (by omega))]
    · obtain ⟨g0, -, g3, g4⟩ := h1 (by omega)
      have g1 := g0 ev
      clear g0
      subst ev
      rw [e_slack1 hF rfl hwid hp hq hp2 hq2 hB (by omega), ob1_s, ← e1]
      have hg : 0 ≤ 2 * m + 1 ∧ 2 * m + 1 < ((96 : Nat) : Int) := by omega
      have hA0 : A1 (2 * m + 1) = A (2 * m + 1) := by rw [g1]; exact ui_n (by omega)
      have hA := r2 (2 * m + 1) (by omega) (by omega)
      rw [← hA0] at hA
      have h74 : ∀ z, z = mnv (A (2 * m + 1)) s1 → ok (f_M_meet_j74 F per B wb q 1 A1 w1 w2 self s1 (2 * m + 1) z) (fun r => r.1 = ui (ui A (2 * m) (mnv (A (2 * m)) s0)) (2 * m + 1) (mnv (A (2 * m + 1)) s1) ∧ r.2.1 = (if wbs wid o' ≤ wbs wid o then mnv ww s0 else ww) ∧ r.2.2 = (if wbs wid o' ≤ wbs wid o then wo else mnv wo s0)) := by
        intro z hz
        have hgo : ok (self (1 + 1) (ui A1 (2 * m + 1) z) w1 w2) (fun r => r.1 = ui (ui A (2 * m) (mnv (A (2 * m)) s0)) (2 * m + 1) (mnv (A (2 * m + 1)) s1) ∧ r.2.1 = (if wbs wid o' ≤ wbs wid o then mnv ww s0 else ww) ∧ r.2.2 = (if wbs wid o' ≤ wbs wid o then wo else mnv wo s0)) := hs _ _ _ _ ⟨by omega, fun z' => by omega, fun _ => ⟨fun z' => by omega, fun _ => by rw [hz, g1], g3, g4⟩⟩ (by show (2 - ((1 : Int) + 1)).toNat < (2 - (1 : Int)).toNat; omega)
        unfold f_M_meet_j74
        refine ok_gi hg (ok_bd.mpr (ok_gr ⟨by omega, by omega⟩ (ok_if (fun z' => by omega) (fun _ => ?_))))
        unfold f_M_meet_j128
        exact ok_gr ⟨by omega, by omega⟩ (ok_if (fun z' => by omega) (fun _ => hgo))
      refine ok_bd.mpr (ok_gi hg (ok_gr hA (ok_if (fun k => h74 s1 ?_) (fun k => ok_gi hg (ok_gr r1 (ok_gr hA (ok_if (fun k2 => ok_gi hg (h74 _ ?_)) (fun k2 => h74 s1 ?_))))))))
      · unfold mnv; rw [if_pos (Or.inl (by omega))]
      · unfold mnv; rw [if_neg (by omega)]; exact hA0
      · unfold mnv; rw [if_pos (Or.inr (by omega))]
end MEET
