/-! the reference's clock ways, one more -/
section KM
variable {wE wL gE gL : Int → Int}
theorem lst_rev {A : Int → Int} {d : Int} (hd : 0 ≤ d) {k : Nat} (hk : 1 ≤ k) (hk2 : (k : Int) ≤ d) : (lst A d).reverse[k - 1]? = some (A (d - k)) := by
  rw [List.getElem?_reverse (by rw [lst_len]; omega), lst_len]
  have := lst_get (A := A) (n := d) (i := d - k) (by omega)
  rw [show d.toNat - 1 - (k - 1) = (d - (k : Int)).toNat by omega]
  exact this
theorem s_keepMW {F : Nat} {wid r d : Int} {dM dN wc wb we wl wla wsz wr wsp row : Int → Int} {L : List (Int × List Int)} (hF : 100 ≤ F) (hr : 0 ≤ r ∧ r < 48) (hM : MW wE wL gE gL wid wc wb we wl wla wsz wr wsp r L) (h8 : L.length < 8) (hd : 0 ≤ d ∧ d ≤ 48) (hrow : ∀ k, 0 ≤ k → k < d → okE gE gL dM dN (row k)) (hx : row d = 0 ∨ row d = 1) :
    ok (f_M_keepWay F wid wE wL dM dN wc wb we wl wla wsz wr wsp row r d) (fun z => MW wE wL gE gL wid z.1 z.2.1 z.2.2.1 z.2.2.2.1 z.2.2.2.2.1 z.2.2.2.2.2.1 z.2.2.2.2.2.2.1 z.2.2.2.2.2.2.2 r (L ++ [(row d, lst row d)]) ∧ ∀ m, m ≠ r → ∀ L', MW wE wL gE gL wid wc wb we wl wla wsz wr wsp m L' → MW wE wL gE gL wid z.1 z.2.1 z.2.2.1 z.2.2.2.1 z.2.2.2.2.1 z.2.2.2.2.2.1 z.2.2.2.2.2.2.1 z.2.2.2.2.2.2.2 m L') := by
  have hwc := hM.1
  refine ok_imp (s_keepWay hF hr (by omega) hd hrow hx) (fun z hz => ?_)
  obtain ⟨c, b, e, f, g, s, R, S⟩ := z
  obtain ⟨z1, z2, z3, z4, z5, z6, z7, z8⟩ := hz
  simp only at z1 z2 z3 z4 z5 z6 z7 z8 ⊢
  have key : ∀ m L', MW wE wL gE gL wid wc wb we wl wla wsz wr wsp m L' → ∀ (i : Nat) (w : Int × List Int), L'[i]? = some w → 8 * m + (i : Int) ≠ 8 * r + wc r → b (8 * m + i) = (if w.1 = 0 then 0 else wid) ∧ e (8 * m + i) = wE (3 * m + 1) + sm (dE wE gE) w.2 ∧ f (8 * m + i) = wL (3 * m + 1) + sm (dE wL gL) w.2 ∧ g (8 * m + i) = wL (3 * m + 1) - wE (3 * m + 1) ∧ s (8 * m + i) = (w.2.length : Int) + 1 ∧ w.2.length ≤ 48 ∧
      ∀ k : Nat, k ≤ w.2.length → some (R (49 * (8 * m + i) + k)) = (w.1 :: w.2.reverse)[k]? ∧ some (S (49 * (8 * m + i) + k)) = (0 :: w.2.reverse.map (fun e => dE wL gL e - dE wE gE e))[k]? := by
    intro m L' h i w hw hne
    obtain ⟨a1, a2, a3, a4, a5, a6, a7⟩ := h.2.2 i w hw
    rw [z2, z3, z4, z5, z6, ui_n hne, ui_n hne, ui_n hne, ui_n hne, ui_n hne]
    refine ⟨a1, a2, a3, a4, a5, a6, fun k hk => ?_⟩
    have := z7 (49 * (8 * m + i) + k) (by omega)
    rw [this.1, this.2]
    exact a7 k hk
  refine ⟨⟨?_, ?_, fun i w hw => ?_⟩, fun m hm L' h => ⟨?_, h.2.1, fun i w hw => ?_⟩⟩
  · rw [z1, ui_s, List.length_append, hwc]
    show _ = ((L.length + 1 : Nat) : Int)
    omega
  · rw [List.length_append]
    show L.length + 1 ≤ 8
    omega
  · by_cases hi : i < L.length
    · rw [List.getElem?_append_left hi] at hw
      exact key r L hM i w hw (by omega)
    · rw [List.getElem?_append_right (by omega)] at hw
      have e2 : i - L.length = 0 := by
        by_cases q : i - L.length = 0
        · exact q
        · have : (([(row d, lst row d)] : List (Int × List Int))[i - L.length]?) = none := List.getElem?_eq_none (by show 1 ≤ _; omega)
          rw [this] at hw; cases hw
      rw [e2] at hw
      have e3 : (row d, lst row d) = w := by simpa using hw
      subst e3
      have e4 : 8 * r + (i : Int) = 8 * r + wc r := by omega
      rw [e4, z2, z3, z4, z5, z6, ui_s, ui_s, ui_s, ui_s, ui_s]
      simp only
      rw [lst_len]
      refine ⟨trivial, trivial, trivial, trivial, by omega, by omega, fun k hk => ?_⟩
      have h9 := z8 (d - k) (by omega) (by omega)
      rw [show 49 * (8 * r + wc r) + d - (d - (k : Int)) = 49 * (8 * r + wc r) + k by omega] at h9
      rw [h9.1, h9.2]
      cases k with
      | zero =>
        refine ⟨?_, ?_⟩
        · show some (row (d - 0)) = some (row d)
          rw [Int.sub_zero]
        · show some (if d - 0 = d then (0 : Int) else _) = some 0
          rw [if_pos (by omega)]
      | succ k =>
        rw [List.getElem?_cons_succ, List.getElem?_cons_succ, List.getElem?_map]
        have h10 := lst_rev (A := row) hd.1 (k := k + 1) (by omega) (by omega)
        rw [show k + 1 - 1 = k from rfl] at h10
        rw [h10, if_neg (by omega)]
        exact ⟨rfl, rfl⟩
  · rw [z1, ui_n hm]; exact h.1
  · have hi : i < L'.length := by
      by_cases q : i < L'.length
      · exact q
      · rw [List.getElem?_eq_none (by omega)] at hw; cases hw
    have := h.2.1
    exact key m L' h i w hw (by omega)
end KM
