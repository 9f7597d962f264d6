/-! the reference's slack of a timing path, and its arrivals -/
section MSL
variable {F : Nat} {wE wL gE gL : Int → Int} {wid per : Int} {wc wb we wl wla wsz wr wsp : Int → Int} {LL : Int → List (Int × List Int)}
theorem isQ_v {n q : Int} {o : Option (Int × List Int)} (h : isQ wE wL gE gL wid wc wb we wl wla wsz wr wsp LL n q o) : (q < 0 ∧ o = none) ∨ ((0 ≤ q ∧ q < 384) ∧ wb q = wbs wid o ∧ we q = wdl wE gE n o ∧ wl q = wdl wL gL n o) := by
  rcases h with h | ⟨i, w, hM, -, hi, hq, ho, hn, -⟩
  · exact Or.inl h
  · right
    have h8 := hM.2.1
    have hil := getE_lt hi
    obtain ⟨x1, x2, x3, -⟩ := hM.2.2 i w hi
    rw [← hq] at x1 x2 x3
    rw [ho]
    exact ⟨by omega, x1, x2, x3⟩
theorem e_edge {m q B : Int} {o o' : Option (Int × List Int)} (hwid : 1 ≤ wid ∧ wid < per ∧ per ≤ 1000000) (h : isQ wE wL gE gL wid wc wb we wl wla wsz wr wsp LL m q o') (hq : -2147483648 ≤ q) (hB : B = wbs wid o) : f_M_edge F per B wb q = some (edg per wid o o') := by
  have b1 := wbs_b hwid.1 o
  have b2 := wbs_b hwid.1 o'
  have hj : ∀ z, z = wbs wid o' → f_M_edge_j14 F per B z = some (edg per wid o o') := by
    intro z hz
    unfold f_M_edge_j14 edg
    rw [gr_eq ⟨by omega, by omega⟩, gr_eq ⟨by omega, by omega⟩, hz, hB]
    by_cases c : wbs wid o' ≤ wbs wid o
    · rw [if_pos c, if_pos c]
    · rw [if_neg c, if_neg c, Int.add_zero]
  unfold f_M_edge
  rcases isQ_v h with ⟨q1, q2⟩ | ⟨q1, q2, -, -⟩
  · rw [gr_eq ⟨by omega, by omega⟩, if_neg (by omega)]
    exact hj 0 (by rw [q2]; rfl)
  · rw [gr_eq ⟨by omega, by omega⟩, if_pos q1.1, gi_eq ⟨q1.1, by omega⟩]
    exact hj _ q2
theorem e_slack0 {n m p q B c a b : Int} {o o' : Option (Int × List Int)} {fo sc : Int → Int} (hF : 200 ≤ F) (hwid : 1 ≤ wid ∧ wid < per ∧ per ≤ 1000000) (hp : isQ wE wL gE gL wid wc wb we wl wla wsz wr wsp LL n p o) (hq : isQ wE wL gE gL wid wc wb we wl wla wsz wr wsp LL m q o') (hp2 : -2147483648 ≤ p ∧ p < 384) (hq2 : -2147483648 ≤ q ∧ q < 384) (hB : B = wbs wid o) (hm : 0 ≤ 2 * m + c ∧ 2 * m + c < 96) :
    f_M_slackOf F per p B fo sc wb we wl wla wsz wr wsp 0 m c q a b = some (edg per wid o o' + wdl wE gE m o' + crd (dE wE gE) (dE wL gL) wE wL n o m o' - fo (2 * m + c) - b) := by
  have hcr := s_Mcredit hF hp hq hp2 hq2
  apply ok_eq
  unfold f_M_slackOf
  refine ok_gr ⟨by omega, by omega⟩ (ok_if (fun _ => ?_) (fun z => absurd rfl z))
  rw [e_edge hwid hq hq2.1 hB, ob1_s]
  have hj : ∀ z, z = wdl wE gE m o' → ok (f_M_slackOf_j26 F p fo wla wsz wr wsp m c q b (edg per wid o o') z) (fun x => x = edg per wid o o' + wdl wE gE m o' + crd (dE wE gE) (dE wL gL) wE wL n o m o' - fo (2 * m + c) - b) := by
    intro z hz
    unfold f_M_slackOf_j26
    rw [hcr, ob1_s]
    exact ok_gi hm (ok_some.mpr (by rw [hz]))
  rcases isQ_v hq with ⟨q1, q2⟩ | ⟨q1, -, q3, -⟩
  · exact ok_gr ⟨by omega, by omega⟩ (ok_if (fun z => by omega) (fun _ => hj 0 (by rw [q2]; rfl)))
  · exact ok_gr ⟨by omega, by omega⟩ (ok_if (fun _ => ok_gi ⟨q1.1, by omega⟩ (hj _ q3)) (fun z => by omega))
theorem e_slack1 {n m p q B c a b k : Int} {o o' : Option (Int × List Int)} {fo sc : Int → Int} (hF : 200 ≤ F) (hk : k = 1) (hwid : 1 ≤ wid ∧ wid < per ∧ per ≤ 1000000) (hp : isQ wE wL gE gL wid wc wb we wl wla wsz wr wsp LL n p o) (hq : isQ wE wL gE gL wid wc wb we wl wla wsz wr wsp LL m q o') (hp2 : -2147483648 ≤ p ∧ p < 384) (hq2 : -2147483648 ≤ q ∧ q < 384) (hB : B = wbs wid o) (hm : 0 ≤ 2 * m + c ∧ 2 * m + c < 96) :
    f_M_slackOf F per p B fo sc wb we wl wla wsz wr wsp k m c q a b = some (a + crd (dE wE gE) (dE wL gL) wE wL n o m o' - edg per wid o o' - wdl wL gL m o' - sc (2 * m + c) + per) := by
  have hcr := s_Mcredit hF hp hq hp2 hq2
  apply ok_eq
  unfold f_M_slackOf
  refine ok_gr ⟨by omega, by omega⟩ (ok_if (fun z => by omega) (fun _ => ?_))
  rw [hcr, ob1_s, e_edge hwid hq hq2.1 hB, ob1_s]
  have hj : ∀ z, z = wdl wL gL m o' → ok (f_M_slackOf_j81 F per sc m c a (crd (dE wE gE) (dE wL gL) wE wL n o m o') (edg per wid o o') z) (fun x => x = a + crd (dE wE gE) (dE wL gL) wE wL n o m o' - edg per wid o o' - wdl wL gL m o' - sc (2 * m + c) + per) := by
    intro z hz
    unfold f_M_slackOf_j81
    exact ok_gi hm (ok_some.mpr (by rw [hz]))
  rcases isQ_v hq with ⟨q1, q2⟩ | ⟨q1, -, -, q4⟩
  · exact ok_gr ⟨by omega, by omega⟩ (ok_if (fun z => by omega) (fun _ => hj 0 (by rw [q2]; rfl)))
  · exact ok_gr ⟨by omega, by omega⟩ (ok_if (fun _ => ok_gi ⟨q1.1, by omega⟩ (hj _ q4)) (fun z => by omega))
end MSL
/-- the least, or the greatest, of some numbers, or NONE without one -/
def mnN (P : Int → Prop) (v : Int) : Prop := (v = -2147483648 ∧ ∀ x, ¬ P x) ∨ (P v ∧ (∀ x, P x → v ≤ x) ∧ -2147483648 < v)
def mxN (P : Int → Prop) (v : Int) : Prop := (v = -2147483648 ∧ ∀ x, ¬ P x) ∨ (P v ∧ (∀ x, P x → x ≤ v) ∧ -2147483648 < v)
theorem mnN_0 {P : Int → Prop} (h : ∀ x, ¬ P x) : mnN P (-2147483648) := Or.inl ⟨rfl, h⟩
theorem mxN_0 {P : Int → Prop} (h : ∀ x, ¬ P x) : mxN P (-2147483648) := Or.inl ⟨rfl, h⟩
theorem mnN_cg {P Q : Int → Prop} {v : Int} (h : ∀ x, P x ↔ Q x) (hm : mnN P v) : mnN Q v := by
  rcases hm with ⟨a, b⟩ | ⟨a, b, c⟩
  · exact Or.inl ⟨a, fun x q => b x ((h x).mpr q)⟩
  · exact Or.inr ⟨(h v).mp a, fun x q => b x ((h x).mpr q), c⟩
theorem mxN_cg {P Q : Int → Prop} {v : Int} (h : ∀ x, P x ↔ Q x) (hm : mxN P v) : mxN Q v := by
  rcases hm with ⟨a, b⟩ | ⟨a, b, c⟩
  · exact Or.inl ⟨a, fun x q => b x ((h x).mpr q)⟩
  · exact Or.inr ⟨(h v).mp a, fun x q => b x ((h x).mpr q), c⟩
theorem mnN_add {P Q : Int → Prop} {v y : Int} (hm : mnN P v) (hq : Q y) (hq2 : ∀ x, Q x → y ≤ x) (hy : -2147483648 < y) : mnN (fun x => P x ∨ Q x) (if v = -2147483648 ∨ y < v then y else v) := by
  right
  rcases hm with ⟨a, b⟩ | ⟨a, b, c⟩
  · rw [if_pos (Or.inl a)]
    exact ⟨Or.inr hq, fun x q => q.elim (fun r => absurd r (b x)) (hq2 x), hy⟩
  · by_cases q : y < v
    · rw [if_pos (Or.inr q)]
      exact ⟨Or.inr hq, fun x r => r.elim (fun t => by have := b x t; omega) (hq2 x), hy⟩
    · rw [if_neg (by omega)]
      exact ⟨Or.inl a, fun x r => r.elim (b x) (fun t => by have := hq2 x t; omega), c⟩
theorem mxN_add {P Q : Int → Prop} {v y : Int} (hm : mxN P v) (hq : Q y) (hq2 : ∀ x, Q x → x ≤ y) (hy : -2147483648 < y) : mxN (fun x => P x ∨ Q x) (if v < y then y else v) := by
  right
  rcases hm with ⟨a, b⟩ | ⟨a, b, c⟩
  · rw [if_pos (by omega)]
    exact ⟨Or.inr hq, fun x q => q.elim (fun r => absurd r (b x)) (hq2 x), hy⟩
  · by_cases q : v < y
    · rw [if_pos q]
      exact ⟨Or.inr hq, fun x r => r.elim (fun t => by have := b x t; omega) (hq2 x), hy⟩
    · rw [if_neg q]
      exact ⟨Or.inl a, fun x r => r.elim (b x) (fun t => by have := hq2 x t; omega), c⟩
theorem mnN_u {P : Int → Prop} {a b : Int} (h1 : mnN P a) (h2 : mnF P b) : (a = -2147483648 ∧ b = 1000000000) ∨ (a = b ∧ a ≠ -2147483648 ∧ b ≠ 1000000000) := by
  rcases h1 with ⟨x, y⟩ | ⟨x, y, z⟩
  · rcases h2 with ⟨x', y'⟩ | ⟨x', y', z'⟩
    · exact Or.inl ⟨x, x'⟩
    · exact absurd x' (y b)
  · rcases h2 with ⟨x', y'⟩ | ⟨x', y', z'⟩
    · exact absurd x (y' a)
    · have := y b x'
      have := y' a x
      exact Or.inr ⟨by omega, by omega, by omega⟩
section ARV
variable {F : Nat} {A B : Int → Int} {s0 n c a b : Int}
theorem e_arrive {i : Int} (hi : 0 ≤ i ∧ i < 192) (hs : -2147483648 ≤ s0 ∧ s0 ≤ 2147483647) (hii : i = 4 * n + 2 * c + (if s0 = 0 then 0 else 1)) (ha : -2147483648 ≤ a ∧ a ≤ 2147483647) (hb : -2147483648 ≤ b ∧ b ≤ 2147483647) (rA : -2147483648 ≤ A i ∧ A i ≤ 2147483647) (rB : -2147483648 ≤ B i ∧ B i ≤ 2147483647) :
    f_M_arrive F s0 A B n c a b = some (ui A i (if A i = -2147483648 ∨ a < A i then a else A i), ui B i (if B i < b then b else B i)) := by
  have hi' : 0 ≤ i ∧ i < ((192 : Nat) : Int) := hi
  have h93 : ∀ A1 z, f_M_arrive_j93 F B i A1 z = some (A1, ui B i z) := by
    intro A1 z
    unfold f_M_arrive_j93
    rw [gi_eq hi']
    rfl
  have h62 : ∀ z, f_M_arrive_j62 F A B b i z = some (ui A i z, ui B i (if B i < b then b else B i)) := by
    intro z
    unfold f_M_arrive_j62
    rw [gi_eq hi']
    show gi i 192 _ = _
    rw [gi_eq hi', gr_eq hb, gr_eq rB]
    by_cases q : b ≤ B i
    · rw [if_pos q, if_neg (by omega), gi_eq hi']
      exact h93 _ _
    · rw [if_neg q, if_pos (by omega)]
      exact h93 _ _
  have h19 : ∀ q1, 4 * n + 2 * c + q1 = i → f_M_arrive_j19 F A B n c a b q1 = some (ui A i (if A i = -2147483648 ∨ a < A i then a else A i), ui B i (if B i < b then b else B i)) := by
    intro q1 hq
    unfold f_M_arrive_j19
    rw [hq]
    show gi i 192 (gr (A i) _) = _
    rw [gi_eq hi', gr_eq rA]
    by_cases q : A i = -2147483648
    · rw [if_pos q, if_pos (Or.inl q)]
      exact h62 a
    · rw [if_neg q, gi_eq hi', gr_eq ha, gr_eq rA]
      by_cases q2 : A i ≤ a
      · rw [if_pos q2, if_neg (by omega), gi_eq hi']
        exact h62 (A i)
      · rw [if_neg q2, if_pos (Or.inr (by omega))]
        exact h62 a
  unfold f_M_arrive
  rw [gr_eq hs]
  by_cases q : s0 = 0
  · rw [if_pos q]
    rw [if_pos q] at hii
    exact h19 0 hii.symm
  · rw [if_neg q]
    rw [if_neg q] at hii
    exact h19 1 hii.symm
end ARV
