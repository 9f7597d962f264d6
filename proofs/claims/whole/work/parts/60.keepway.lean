/-! the reference keeps a clock way -/
theorem sm_app (a : Int → Int) : ∀ (l l' : List Int), sm a (l ++ l') = sm a l + sm a l' := by
  intro l
  induction l with
  | nil => intro l'; show sm a l' = 0 + sm a l'; omega
  | cons e es ih => intro l'; show a e + sm a (es ++ l') = a e + sm a es + sm a l'; rw [ih]; omega
section KW
variable {wE wL gE gL : Int → Int}
/-- an element of a gate, with the delays that the reference has for it -/
def okE (gE gL dM dN : Int → Int) (e : Int) : Prop := (8 ≤ e ∧ e < 384) ∧ e / 2 % 4 < 3 ∧ dM (6 * (e / 8) + 2 * (e / 2 % 4) + e % 2) = gE (2 * (3 * (e / 8) + e / 2 % 4) + e % 2) ∧ dN (6 * (e / 8) + 2 * (e / 2 % 4) + e % 2) = gL (2 * (3 * (e / 8) + e / 2 % 4) + e % 2)
theorem s_keepWay {F : Nat} {wid r d : Int} {dM dN wc wb we wl wla wsz wr wsp row : Int → Int} (hF : 100 ≤ F) (hr : 0 ≤ r ∧ r < 48) (hc : 0 ≤ wc r ∧ wc r < 8) (hd : 0 ≤ d ∧ d ≤ 48) (hrow : ∀ k, 0 ≤ k → k < d → okE gE gL dM dN (row k)) (hx : row d = 0 ∨ row d = 1) :
    ok (f_M_keepWay F wid wE wL dM dN wc wb we wl wla wsz wr wsp row r d) (fun z => z.1 = ui wc r (wc r + 1) ∧ z.2.1 = ui wb (8 * r + wc r) (if row d = 0 then 0 else wid) ∧ z.2.2.1 = ui we (8 * r + wc r) (wE (3 * r + 1) + sm (dE wE gE) (lst row d)) ∧ z.2.2.2.1 = ui wl (8 * r + wc r) (wL (3 * r + 1) + sm (dE wL gL) (lst row d)) ∧ z.2.2.2.2.1 = ui wla (8 * r + wc r) (wL (3 * r + 1) - wE (3 * r + 1)) ∧ z.2.2.2.2.2.1 = ui wsz (8 * r + wc r) (d + 1) ∧
      (∀ i, (i < 49 * (8 * r + wc r) ∨ 49 * (8 * r + wc r) + d < i) → z.2.2.2.2.2.2.1 i = wr i ∧ z.2.2.2.2.2.2.2 i = wsp i) ∧ ∀ k, 0 ≤ k → k ≤ d → z.2.2.2.2.2.2.1 (49 * (8 * r + wc r) + d - k) = row k ∧ z.2.2.2.2.2.2.2 (49 * (8 * r + wc r) + d - k) = (if k = d then 0 else dE wL gL (row k) - dE wE gE (row k))) := by
  unfold f_M_keepWay
  obtain ⟨q, hq⟩ : ∃ q, q = 8 * r + wc r := ⟨_, rfl⟩
  have hq1 : 0 ≤ q ∧ q < 384 := by omega
  rw [← hq]
  have hr3 : 0 ≤ 3 * r + 1 ∧ 3 * r + 1 < ((144 : Nat) : Int) := by omega
  refine ok_gi hr (ok_bd.mpr (ok_gi hr (ok_gi hr (ok_bd.mpr (ok_gi hr3 (ok_bd.mpr (ok_gi hr3 (ok_bd.mpr (ok_gi hq1 (ok_bd.mpr (ok_gi hq1 (ok_bd.mpr ?_))))))))))))
  refine lq5_ok (fun (a b k : Int) R S => (0 ≤ k ∧ k ≤ d + 1) ∧ a = wE (3 * r + 1) + sm (dE wE gE) (lst row (min k d)) ∧ b = wL (3 * r + 1) + sm (dE wL gL) (lst row (min k d)) ∧ (∀ i, (i < 49 * q ∨ 49 * q + d < i) → R i = wr i ∧ S i = wsp i) ∧ ∀ j, 0 ≤ j → j < k → R (49 * q + d - j) = row j ∧ S (49 * q + d - j) = (if j = d then 0 else dE wL gL (row j) - dE wE gE (row j))) (fun _ _ k _ _ => (d + 1 - k).toNat) _ ?_ F _ _ 0 _ _ ⟨by omega, ?_, ?_, fun i _ => ⟨rfl, rfl⟩, fun j a b => by omega⟩ (by show (d + 1 - (0 : Int)).toNat < F; omega)
  · rintro self a b k R S ⟨hk, ha, hb, hO, hI⟩ hs
    unfold f_M_keepWay_b69
    refine ok_gr ⟨by omega, by omega⟩ (ok_gr ⟨by omega, by omega⟩ (ok_if (fun h => ?_) (fun h => ?_)))
    · have ek : k = d + 1 := by omega
      rw [show min k d = d by omega] at ha hb
      refine ok_gi hq1 (ok_bd.mpr (ok_gi hq1 (ok_bd.mpr (ok_gi ⟨by omega, by omega⟩ (ok_gp ⟨by omega, by omega⟩ (ok_gr ⟨by omega, by omega⟩ ?_))))))
      have hfin : ∀ z, z = (if row d = 0 then 0 else wid) → ok (f_M_keepWay_j290 F wb q (ui wc r (wc r + 1)) (ui wla q (wL (3 * r + 1) - wE (3 * r + 1))) (ui wsz q (d + 1)) R S (ui we q a) (ui wl q b) z) (fun z => z.1 = ui wc r (wc r + 1) ∧ z.2.1 = ui wb q (if row d = 0 then 0 else wid) ∧ z.2.2.1 = ui we q (wE (3 * r + 1) + sm (dE wE gE) (lst row d)) ∧ z.2.2.2.1 = ui wl q (wL (3 * r + 1) + sm (dE wL gL) (lst row d)) ∧ z.2.2.2.2.1 = ui wla q (wL (3 * r + 1) - wE (3 * r + 1)) ∧ z.2.2.2.2.2.1 = ui wsz q (d + 1) ∧
          (∀ i, (i < 49 * q ∨ 49 * q + d < i) → z.2.2.2.2.2.2.1 i = wr i ∧ z.2.2.2.2.2.2.2 i = wsp i) ∧ ∀ k, 0 ≤ k → k ≤ d → z.2.2.2.2.2.2.1 (49 * q + d - k) = row k ∧ z.2.2.2.2.2.2.2 (49 * q + d - k) = (if k = d then 0 else dE wL gL (row k) - dE wE gE (row k))) := by
        intro z hz
        unfold f_M_keepWay_j290
        refine ok_gi hq1 (ok_bd.mpr (ok_some.mpr ⟨rfl, ?_, ?_, ?_, rfl, rfl, hO, fun j j1 j2 => hI j j1 (by omega)⟩))
        · show ui wb q z = _
          rw [hz]
        · show ui we q a = _
          rw [ha]
        · show ui wl q b = _
          rw [hb]
      refine ok_if (fun h2 => hfin _ ?_) (fun h2 => hfin _ ?_)
      · rw [if_pos (by omega)]
      · rw [if_neg (by omega)]
    · refine ok_bd.mpr ?_
      have hi : 0 ≤ 49 * q + d - k ∧ 49 * q + d - k < ((18816 : Nat) : Int) := by omega
      have hk160 : 0 ≤ k ∧ k < ((160 : Nat) : Int) := by omega
      have hmeas : (d + 1 - (k + 1)).toNat < (d + 1 - k).toNat := by omega
      refine ok_gi hk160 (ok_gi hi (ok_bd.mpr (ok_gi hi (ok_bd.mpr (ok_gi hk160 ?_)))))
      have hrk : 0 ≤ row k ∧ row k < 384 := by
        by_cases e : k = d
        · rw [e]; omega
        · have := (hrow k hk.1 (by omega)).1; omega
      refine ok_gp ⟨by omega, by omega⟩ (ok_bd.mpr (ok_gr ⟨by omega, by omega⟩ (ok_if (fun h2 => ?_) (fun h2 => ?_))))
      · have ekd : k = d := by
          by_cases e : k = d
          · exact e
          · have := (hrow k hk.1 (by omega)).1; omega
        refine hs _ _ _ _ _ ⟨by omega, ?_, ?_, fun i hi' => ?_, fun j j1 j2 => ?_⟩ hmeas
        · rw [ha, show min k d = min (k + 1) d by omega]
        · rw [hb, show min k d = min (k + 1) d by omega]
        · rw [ui_n (by omega), ui_n (by omega)]
          exact hO i hi'
        · rw [ui_e, ui_e]
          by_cases e : j = k
          · rw [if_pos (by omega), if_pos (by omega), if_pos (by omega), e]; exact ⟨rfl, rfl⟩
          · rw [if_neg (by omega), if_neg (by omega)]; exact hI j j1 (by omega)
      · have hkd : k < d := by
          by_cases e : k = d
          · rw [e] at h2; omega
          · omega
        obtain ⟨o1, o2, o3, o4⟩ := hrow k hk.1 hkd
        have hp1 : 0 ≤ 3 * (row k / 8) + row k / 2 % 4 ∧ 3 * (row k / 8) + row k / 2 % 4 < ((144 : Nat) : Int) := by omega
        have hp2 : 0 ≤ 6 * (row k / 8) + 2 * (row k / 2 % 4) + row k % 2 ∧ 6 * (row k / 8) + 2 * (row k / 2 % 4) + row k % 2 < ((288 : Nat) : Int) := by omega
        have hgpr : 0 ≤ row k ∧ row k ≤ 2147483647 := by omega
        refine ok_gi hk160 (ok_gp hgpr (ok_gp ⟨by omega, by omega⟩ (ok_bd.mpr (ok_gi hp1 (ok_gi hk160 (ok_gp hgpr (ok_gi hp2 (ok_bd.mpr (ok_gi hp1 (ok_gi hk160 (ok_gp hgpr (ok_gi hp2 (ok_bd.mpr (ok_gi hi (ok_bd.mpr (ok_bd.mpr (ok_bd.mpr ?_)))))))))))))))))
        rw [o3, o4]
        have d1 : dE wE gE (row k) = wE (3 * (row k / 8) + row k / 2 % 4) + gE (2 * (3 * (row k / 8) + row k / 2 % 4) + row k % 2) := rfl
        have d2 : dE wL gL (row k) = wL (3 * (row k / 8) + row k / 2 % 4) + gL (2 * (3 * (row k / 8) + row k / 2 % 4) + row k % 2) := rfl
        rw [← d1, ← d2]
        have hsm : ∀ u, sm u (lst row (k + 1)) = sm u (lst row k) + u (row k) := by
          intro u
          rw [lst_snoc hk.1, sm_app]
          show _ + (u (row k) + 0) = _
          omega
        refine hs _ _ _ _ _ ⟨by omega, ?_, ?_, fun i hi' => ?_, fun j j1 j2 => ?_⟩ hmeas
        · rw [ha, show min k d = k by omega, show min (k + 1) d = k + 1 by omega, hsm]
          omega
        · rw [hb, show min k d = k by omega, show min (k + 1) d = k + 1 by omega, hsm]
          omega
        · rw [ui_n (by omega), ui_n (by omega), ui_n (by omega)]
          exact hO i hi'
        · rw [ui_e, ui_e, ui_e]
          by_cases e : j = k
          · rw [if_pos (by omega), if_pos (by omega), if_neg (by omega), e]; exact ⟨rfl, rfl⟩
          · rw [if_neg (by omega), if_neg (by omega), if_neg (by omega)]; exact hI j j1 (by omega)
  · rw [show min (0 : Int) d = 0 by omega, lst_0]
    show wE (3 * r + 1) = wE (3 * r + 1) + 0
    omega
  · rw [show min (0 : Int) d = 0 by omega, lst_0]
    show wL (3 * r + 1) = wL (3 * r + 1) + 0
    omega
/-- the reference's clock ways of a register, in their order -/
def MW (wE wL gE gL : Int → Int) (wid : Int) (wc wb we wl wla wsz wr wsp : Int → Int) (r : Int) (L : List (Int × List Int)) : Prop :=
  wc r = (L.length : Int) ∧ L.length ≤ 8 ∧ ∀ (i : Nat) (w : Int × List Int), L[i]? = some w → wb (8 * r + i) = (if w.1 = 0 then 0 else wid) ∧ we (8 * r + i) = wE (3 * r + 1) + sm (dE wE gE) w.2 ∧ wl (8 * r + i) = wL (3 * r + 1) + sm (dE wL gL) w.2 ∧ wla (8 * r + i) = wL (3 * r + 1) - wE (3 * r + 1) ∧ wsz (8 * r + i) = (w.2.length : Int) + 1 ∧ w.2.length ≤ 48 ∧
    ∀ k : Nat, k ≤ w.2.length → some (wr (49 * (8 * r + i) + k)) = (w.1 :: w.2.reverse)[k]? ∧ some (wsp (49 * (8 * r + i) + k)) = (0 :: w.2.reverse.map (fun e => dE wL gL e - dE wE gE e))[k]?
end KW
