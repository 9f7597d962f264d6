/-! the net as both keep it; what edits it -/
def InvN (size per wid : Int) (kd pn so wE wL se gE gL sE sL su ho : Int → Int) : Prop :=
  (1 ≤ size ∧ size ≤ 48) ∧ (2 ≤ per ∧ per ≤ 1000000 ∧ 1 ≤ wid ∧ wid < per) ∧ kd 0 = 0 ∧ (∀ i, 0 ≤ kd i ∧ kd i ≤ 4) ∧ (∀ i, kd i ≠ 0 → 0 < i ∧ i < size) ∧ (∀ i, 0 ≤ pn i ∧ pn i ≤ 3) ∧
  (∀ i, (kd i = 0 ∨ kd i = 1 → pn i = 0) ∧ (kd i = 2 → 1 ≤ pn i) ∧ (kd i = 3 → pn i = 2) ∧ (kd i = 4 → pn i = 1)) ∧ (∀ i, -1 ≤ so i ∧ so i < size) ∧ (∀ i, 0 ≤ so i → kd (so i) ≠ 4) ∧
  (∀ i, 0 ≤ wE i ∧ wE i ≤ wL i ∧ wL i ≤ 10000) ∧ (∀ i, 0 ≤ se i ∧ se i ≤ 2) ∧ (∀ i, 0 ≤ gE i ∧ gE i ≤ gL i ∧ gL i ≤ 10000) ∧ (∀ i, -1000000 ≤ sE i ∧ sE i ≤ sL i ∧ sL i ≤ 1000000) ∧
  (∀ i, -10000 ≤ su i ∧ su i ≤ 10000) ∧ (∀ i, -10000 ≤ ho i ∧ ho i ≤ 10000)
def InvM (size per wid : Int) (kd pn so wE wL se gE gL sE sL su ho : Int → Int) (mper mwid msize : Int) (mk mp fr mwE mwL mse dE dL fo sc : Int → Int) : Prop :=
  (mper = per ∧ mwid = wid ∧ msize = size) ∧ (mk = kd ∧ mp = pn ∧ mwE = wE ∧ mwL = wL ∧ mse = se) ∧
  (∀ i, 0 ≤ i → i < 3 * size → (so i = -1 ∧ fr i = -2147483648) ∨ (0 ≤ so i ∧ fr i = so i)) ∧ (∀ i, -2147483648 ≤ fr i ∧ fr i < size) ∧
  (∀ i, 3 * size ≤ i → wE i = 0 ∧ wL i = 0 ∧ se i = 0 ∧ (i < 144 → so i = -1)) ∧
  (∀ i, 6 * size ≤ i → gE i = 0 ∧ gL i = 0 ∧ dE i = 0 ∧ dL i = 0) ∧
  (∀ i, 2 * size ≤ i → sE i = 0 ∧ sL i = 0 ∧ su i = 0 ∧ ho i = 0 ∧ fo i = 0 ∧ sc i = 0) ∧
  (∀ i, kd (i / 6) = 2 → dE i = gE i ∧ dL i = gL i) ∧ (∀ n c, kd n = 3 → (c = 0 ∨ c = 1) → dE (6 * n + 2 + c) = sE (2 * n + c) ∧ dL (6 * n + 2 + c) = sL (2 * n + c)) ∧
  (∀ i, 0 ≤ dE i ∧ dE i ≤ dL i ∧ dL i ≤ 10000) ∧
  (∀ i, kd (i / 2) = 1 → fo i = sE i ∧ sc i = sL i) ∧ (∀ i, kd (i / 2) = 3 ∨ kd (i / 2) = 4 → fo i = su i ∧ sc i = ho i) ∧
  (∀ i, -1000000 ≤ fo i ∧ fo i ≤ 1000000 ∧ -1000000 ≤ sc i ∧ sc i ≤ 1000000)
theorem e_clearNode {F : Nat} (hF : 10 ≤ F) {kd pn fr wE wL se dE dL fo sc : Int → Int} {n k m : Int} (hn : 0 ≤ n ∧ n < 48) (hz1 : ∀ i, 3 * n ≤ i → wE i = 0 ∧ wL i = 0 ∧ se i = 0) (hz2 : ∀ i, 6 * n ≤ i → dE i = 0 ∧ dL i = 0) (hz3 : ∀ i, 2 * n ≤ i → fo i = 0 ∧ sc i = 0) :
    f_M_clearNode F kd pn fr wE wL se dE dL fo sc n k m = some (ui kd n k, ui pn n m, (fun i => if 3 * n ≤ i ∧ i < 3 * n + 3 then -2147483648 else fr i), wE, wL, se, dE, dL, fo, sc) := by
  apply ok_eq
  unfold f_M_clearNode
  refine ok_gi hn (ok_bd.mpr (ok_gi hn (ok_bd.mpr ?_)))
  refine lq7_ok (fun v a1 a2 a3 a4 a5 a6 => (0 ≤ v ∧ v ≤ 3) ∧ a1 = (fun i => if 3 * n ≤ i ∧ i < 3 * n + v then -2147483648 else fr i) ∧ wE = a2 ∧ wL = a3 ∧ se = a4 ∧ dE = a5 ∧ dL = a6) (fun v _ _ _ _ _ _ => (3 - v).toNat) _ ?_ F 0 _ _ _ _ _ _ ?_ (by show (3 - (0 : Int)).toNat < F; omega)
  · rintro self v a1 a2 a3 a4 a5 a6 ⟨hv, rfl, rfl, rfl, rfl, rfl, rfl⟩ hs
    unfold f_M_clearNode_b17
    refine ok_gr ⟨by omega, by omega⟩ (ok_if (fun h => ?_) (fun h => ?_))
    · have hv3 : v = 3 := by omega
      subst hv3
      refine lq3_ok (fun v b1 b2 => (0 ≤ v ∧ v ≤ 2) ∧ fo = b1 ∧ sc = b2) (fun v _ _ => (2 - v).toNat) _ ?_ F 0 _ _ ⟨by omega, rfl, rfl⟩ (by show (2 - (0 : Int)).toNat < F; omega)
      rintro self v b1 b2 ⟨hv, rfl, rfl⟩ hs
      unfold f_M_clearNode_b132
      refine ok_gr ⟨by omega, by omega⟩ (ok_if (fun h => ?_) (fun h => ?_))
      · exact ok_some.mpr rfl
      · refine ok_gi ⟨by omega, by omega⟩ (ok_bd.mpr (ok_gi ⟨by omega, by omega⟩ (ok_bd.mpr ?_)))
        have q := hz3 (2 * n + v) (by omega)
        rw [ui_z q.1, ui_z q.2]
        exact hs _ _ _ ⟨by omega, rfl, rfl⟩ (by show (2 - (v + 1)).toNat < (2 - v).toNat; omega)
    · refine ok_gi ⟨by omega, by omega⟩ (ok_bd.mpr (ok_gi ⟨by omega, by omega⟩ (ok_bd.mpr (ok_gi ⟨by omega, by omega⟩ (ok_bd.mpr (ok_gi ⟨by omega, by omega⟩ (ok_bd.mpr ?_)))))))
      have q := hz1 (3 * n + v) (by omega)
      rw [ui_z q.1, ui_z q.2.1, ui_z q.2.2]
      refine lq3_ok (fun v b1 b2 => (0 ≤ v ∧ v ≤ 2) ∧ dE = b1 ∧ dL = b2) (fun v _ _ => (2 - v).toNat) _ ?_ F 0 _ _ ⟨by omega, rfl, rfl⟩ (by show (2 - (0 : Int)).toNat < F; omega)
      rintro self2 w b1 b2 ⟨hw, rfl, rfl⟩ hs2
      unfold f_M_clearNode_b75
      refine ok_gr ⟨by omega, by omega⟩ (ok_if (fun h2 => ?_) (fun h2 => ?_))
      · refine hs _ _ _ _ _ _ _ ⟨by omega, ?_, rfl, rfl, rfl, rfl, rfl⟩ (by show (3 - (v + 1)).toNat < (3 - v).toNat; omega)
        funext i
        unfold ui
        by_cases e : i = 3 * n + v
        · rw [if_pos e, if_pos (by omega)]
        · rw [if_neg e]
          show (if 3 * n ≤ i ∧ i < 3 * n + v then (-2147483648 : Int) else fr i) = _
          by_cases e2 : 3 * n ≤ i ∧ i < 3 * n + v
          · rw [if_pos e2, if_pos (by omega)]
          · rw [if_neg e2, if_neg (by omega)]
      · refine ok_gi ⟨by omega, by omega⟩ (ok_bd.mpr (ok_gi ⟨by omega, by omega⟩ (ok_bd.mpr ?_)))
        have q := hz2 (6 * n + 2 * v + w) (by omega)
        rw [ui_z q.1, ui_z q.2]
        exact hs2 _ _ _ ⟨by omega, rfl, rfl⟩ (by show (2 - (w + 1)).toNat < (2 - w).toNat; omega)
  · refine ⟨by omega, ?_, rfl, rfl, rfl, rfl, rfl⟩
    funext i
    rw [if_neg (by omega)]
section ED
variable {F : Nat} {size per wid : Int} {kd pn so wE wL se gE gL sE sL su ho : Int → Int} {mper mwid msize : Int} {mk mp fr mwE mwL mse dE dL fo sc : Int → Int}
theorem add_inv (hN : InvN size per wid kd pn so wE wL se gE gL sE sL su ho) (hM : InvM size per wid kd pn so wE wL se gE gL sE sL su ho mper mwid msize mk mp fr mwE mwL mse dE dL fo sc) (hs : size < 48) {k m : Int} (hk : (k = 1 ∧ m = 0) ∨ (k = 2 ∧ 1 ≤ m ∧ m ≤ 3) ∨ (k = 3 ∧ m = 2) ∨ (k = 4 ∧ m = 1)) :
    InvN (size + 1) per wid (ui kd size k) (ui pn size m) so wE wL se gE gL sE sL su ho ∧ InvM (size + 1) per wid (ui kd size k) (ui pn size m) so wE wL se gE gL sE sL su ho mper mwid (size + 1) (ui kd size k) (ui pn size m) (fun i => if 3 * size ≤ i ∧ i < 3 * size + 3 then -2147483648 else fr i) mwE mwL mse dE dL fo sc := by
  obtain ⟨n1, n2, n3, n4, n5, n6, n7, n8, n9, n10, n11, n12, n13, n14, n15⟩ := hN
  obtain ⟨⟨rfl, rfl, rfl⟩, ⟨rfl, rfl, rfl, rfl, rfl⟩, m3, m4, m5, m6, m7, m8, m9, m10, m11, m12, m13⟩ := hM
  have uk : ∀ i, ui mk msize k i = if i = msize then k else mk i := fun _ => rfl
  have up : ∀ i, ui mp msize m i = if i = msize then m else mp i := fun _ => rfl
  refine ⟨⟨by omega, n2, ?_, fun i => ?_, fun i h => ?_, fun i => ?_, fun i => ?_, fun i => ?_, fun i h => ?_, n10, n11, n12, n13, n14, n15⟩, ⟨rfl, rfl, rfl⟩, ⟨rfl, rfl, rfl, rfl, rfl⟩, fun i h1 h2 => ?_, fun i => ?_, fun i h => ?_, fun i h => m6 i (by omega), fun i h => m7 i (by omega), fun i h => ?_, fun n c h hc => ?_, m10, fun i h => ?_, fun i h => ?_, m13⟩
  · rw [uk, if_neg (by omega)]; exact n3
  · rw [uk]
    by_cases e : i = msize
    · rw [if_pos e]; omega
    · rw [if_neg e]; exact n4 i
  · rw [uk] at h
    by_cases e : i = msize
    · omega
    · rw [if_neg e] at h; have := n5 i h; omega
  · rw [up]
    by_cases e : i = msize
    · rw [if_pos e]; omega
    · rw [if_neg e]; exact n6 i
  · rw [uk, up]
    by_cases e : i = msize
    · rw [if_pos e, if_pos e]; omega
    · rw [if_neg e, if_neg e]; exact n7 i
  · have := n8 i; omega
  · rw [uk, if_neg (by have := n8 i; omega)]; exact n9 i h
  · show (so i = -1 ∧ (if 3 * msize ≤ i ∧ i < 3 * msize + 3 then (-2147483648 : Int) else fr i) = -2147483648) ∨ (0 ≤ so i ∧ (if 3 * msize ≤ i ∧ i < 3 * msize + 3 then (-2147483648 : Int) else fr i) = so i)
    by_cases e : i < 3 * msize
    · rw [if_neg (by omega)]; exact m3 i h1 e
    · rw [if_pos (by omega)]; exact Or.inl ⟨(m5 i (by omega)).2.2.2 (by omega), rfl⟩
  · show -2147483648 ≤ (if 3 * msize ≤ i ∧ i < 3 * msize + 3 then -2147483648 else fr i) ∧ (if 3 * msize ≤ i ∧ i < 3 * msize + 3 then -2147483648 else fr i) < msize + 1
    by_cases e : 3 * msize ≤ i ∧ i < 3 * msize + 3
    · rw [if_pos e]; omega
    · rw [if_neg e]; have := m4 i; omega
  · exact m5 i (by omega)
  · rw [uk] at h
    by_cases e : i / 6 = msize
    · have := m6 i (by omega); omega
    · rw [if_neg e] at h; exact m8 i h
  · rw [uk] at h
    by_cases e : n = msize
    · have a1 := m6 (6 * n + 2 + c) (by omega); have a2 := m7 (2 * n + c) (by omega); omega
    · rw [if_neg e] at h; exact m9 n c h hc
  · rw [uk] at h
    by_cases e : i / 2 = msize
    · have := m7 i (by omega); omega
    · rw [if_neg e] at h; exact m11 i h
  · rw [uk] at h
    by_cases e : i / 2 = msize
    · have := m7 i (by omega); omega
    · rw [if_neg e] at h; exact m12 i h
theorem m_addT (hN : InvN size per wid kd pn so wE wL se gE gL sE sL su ho) (ta k m : Int) : f_T_addNode F ta size kd pn k m = if size < 48 then some (size, 0, size + 1, ui kd size k, ui pn size m) else some (-2147483648, ta, size, kd, pn) := by
  have n1 := hN.1
  unfold f_T_addNode
  rw [gr_eq (by omega)]
  by_cases h : size < 48
  · rw [if_pos h, if_pos h]
    unfold f_Net_add
    rw [gi_eq ⟨by omega, h⟩]
    show ob4 (gi size 48 (some ((size + 1) - 1, size + 1, ui kd size k, ui pn size m))) _ = _
    rw [gi_eq ⟨by omega, h⟩, Int.add_sub_cancel]
    rfl
  · rw [if_neg h, if_neg h]
theorem m_addM (hF : 10 ≤ F) (hN : InvN size per wid kd pn so wE wL se gE gL sE sL su ho) (hM : InvM size per wid kd pn so wE wL se gE gL sE sL su ho mper mwid msize mk mp fr mwE mwL mse dE dL fo sc) (ta k m : Int) : f_M_add F msize ta mk mp fr mwE mwL mse dE dL fo sc k m = if size < 48 then some (size, size + 1, ui kd size k, ui pn size m, (fun i => if 3 * size ≤ i ∧ i < 3 * size + 3 then -2147483648 else fr i), wE, wL, se, dE, dL, fo, sc, 0) else some (-2147483648, size, kd, pn, fr, wE, wL, se, dE, dL, fo, sc, ta) := by
  have n1 := hN.1
  obtain ⟨⟨rfl, rfl, rfl⟩, ⟨rfl, rfl, rfl, rfl, rfl⟩, m3, m4, m5, m6, m7, m8, m9, m10, m11, m12, m13⟩ := hM
  unfold f_M_add
  rw [gr_eq (by omega)]
  by_cases h : msize < 48
  · rw [if_pos h, if_neg (by omega), e_clearNode hF ⟨by omega, h⟩ (fun i hi => ⟨(m5 i hi).1, (m5 i hi).2.1, (m5 i hi).2.2.1⟩) (fun i hi => ⟨(m6 i hi).2.2.1, (m6 i hi).2.2.2⟩) (fun i hi => ⟨(m7 i hi).2.2.2.2.1, (m7 i hi).2.2.2.2.2⟩), ob10_s, Int.add_sub_cancel]
  · rw [if_neg h, if_pos (by omega)]
end ED
