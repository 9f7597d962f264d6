/-! the reference meets an end: what it keeps of all values that come there -/
section MEETS
variable {F : Nat} {wE wL gE gL : Int → Int} {wid per : Int} {wc wb we wl wla wsz wr wsp : Int → Int} {LL : Int → List (Int × List Int)}
def Q0 (wE wL gE gL fo : Int → Int) (per wid : Int) (Vs : List (Int × Int)) (n : Int) (o : Option (Int × List Int)) (m c : Int) (o' : Option (Int × List Int)) (x : Int) : Prop := ∃ v, v ∈ Vs ∧ x = edg per wid o o' + wdl wE gE m o' + crd (dE wE gE) (dE wL gL) wE wL n o m o' - fo (2 * m + c) - (v.2 + wL (3 * m))
def Q1 (wE wL gE gL sc : Int → Int) (per wid : Int) (Vs : List (Int × Int)) (n : Int) (o : Option (Int × List Int)) (m c : Int) (o' : Option (Int × List Int)) (x : Int) : Prop := ∃ v, v ∈ Vs ∧ x = v.1 + wE (3 * m) + crd (dE wE gE) (dE wL gL) wE wL n o m o' - edg per wid o o' - wdl wL gL m o' - sc (2 * m + c) + per
theorem s_meetS {n m p q B c a b ww wo am bm : Int} {o o' : Option (Int × List Int)} {fo sc A : Int → Int} {Vs : List (Int × Int)} (hF : 200 ≤ F) (hwid : 1 ≤ wid ∧ wid < per ∧ per ≤ 1000000) (hp : isQ wE wL gE gL wid wc wb we wl wla wsz wr wsp LL n p o) (hq : isQ wE wL gE gL wid wc wb we wl wla wsz wr wsp LL m q o') (hp2 : -2147483648 ≤ p ∧ p < 384) (hq2 : -2147483648 ≤ q ∧ q < 384) (hB : B = wbs wid o) (hm : 0 ≤ m ∧ m < 48) (hc : c = 0 ∨ c = 1)
    (hmin : isMin (Vs.map Prod.fst) am) (hmax : isMax (Vs.map Prod.snd) bm) (ha : a = am + wE (3 * m)) (hb : b = bm + wL (3 * m)) (rv : ∀ v ∈ Vs, (-20000000 ≤ v.1 ∧ v.1 ≤ 20000000) ∧ -20000000 ≤ v.2 ∧ v.2 ≤ 20000000) (rcr : 0 ≤ crd (dE wE gE) (dE wL gL) wE wL n o m o' ∧ crd (dE wE gE) (dE wL gL) wE wL n o m o' ≤ 970000) (rd1 : 0 ≤ wdl wE gE m o' ∧ wdl wE gE m o' ≤ 970000) (rd2 : 0 ≤ wdl wL gL m o' ∧ wdl wL gL m o' ≤ 970000) (rf : ∀ i, -1000000 ≤ fo i ∧ fo i ≤ 1000000 ∧ -1000000 ≤ sc i ∧ sc i ≤ 1000000) (rw1 : ∀ i, 0 ≤ wE i ∧ wE i ≤ wL i ∧ wL i ≤ 10000) (r2 : ∀ i, 0 ≤ i → i < 96 → -2147483648 ≤ A i ∧ A i ≤ 2147483647) (r3 : -2147483648 ≤ ww ∧ ww ≤ 2147483647) (r4 : -2147483648 ≤ wo ∧ wo ≤ 2147483647) :
    ok (f_M_meet F per p B ww wo fo sc wb we wl wla wsz wr wsp A m c q a b) (fun r => ((∀ s, s ≠ 2 * m → s ≠ 2 * m + 1 → r.1 s = A s) ∧ (∀ i, 0 ≤ i → i < 96 → -2147483648 ≤ r.1 i ∧ r.1 i ≤ 2147483647) ∧ (-2147483648 ≤ r.2.1 ∧ r.2.1 ≤ 2147483647) ∧ (-2147483648 ≤ r.2.2 ∧ r.2.2 ≤ 2147483647)) ∧ (∀ P, mnN P (A (2 * m)) → mnN (fun x => P x ∨ Q0 wE wL gE gL fo per wid Vs n o m c o' x) (r.1 (2 * m))) ∧ (∀ P, mnN P (A (2 * m + 1)) → mnN (fun x => P x ∨ Q1 wE wL gE gL sc per wid Vs n o m c o' x) (r.1 (2 * m + 1))) ∧
      (∀ P, mnN P ww → mnN (fun x => P x ∨ (wbs wid o' ≤ wbs wid o ∧ Q0 wE wL gE gL fo per wid Vs n o m c o' x)) r.2.1) ∧ ∀ P, mnN P wo → mnN (fun x => P x ∨ (¬ wbs wid o' ≤ wbs wid o ∧ Q0 wE wL gE gL fo per wid Vs n o m c o' x)) r.2.2) := by
  obtain ⟨ve, ve1, ve2⟩ := List.mem_map.mp hmin.1
  obtain ⟨vl, vl1, vl2⟩ := List.mem_map.mp hmax.1
  have b1 := rv ve ve1
  have b2 := rv vl vl1
  have b3 := rf (2 * m + c)
  have b4 := rw1 (3 * m)
  have b5 := edg_b hwid o o'
  obtain ⟨s0, e0⟩ : ∃ s0, s0 = edg per wid o o' + wdl wE gE m o' + crd (dE wE gE) (dE wL gL) wE wL n o m o' - fo (2 * m + c) - b := ⟨_, rfl⟩
  obtain ⟨s1, e1⟩ : ∃ s1, s1 = a + crd (dE wE gE) (dE wL gL) wE wL n o m o' - edg per wid o o' - wdl wL gL m o' - sc (2 * m + c) + per := ⟨_, rfl⟩
  have q0 : Q0 wE wL gE gL fo per wid Vs n o m c o' s0 := ⟨vl, vl1, by rw [e0, hb, ← vl2]⟩
  have q0' : ∀ x, Q0 wE wL gE gL fo per wid Vs n o m c o' x → s0 ≤ x := by
    rintro x ⟨v, v1, v2⟩
    have := hmax.2 v.2 (List.mem_map.mpr ⟨v, v1, rfl⟩)
    omega
  have q1 : Q1 wE wL gE gL sc per wid Vs n o m c o' s1 := ⟨ve, ve1, by rw [e1, ha, ← ve2]⟩
  have q1' : ∀ x, Q1 wE wL gE gL sc per wid Vs n o m c o' x → s1 ≤ x := by
    rintro x ⟨v, v1, v2⟩
    have := hmin.2 v.1 (List.mem_map.mpr ⟨v, v1, rfl⟩)
    omega
  have r0 : -100000000 ≤ s0 ∧ s0 ≤ 100000000 := by omega
  have r1 : -100000000 ≤ s1 ∧ s1 ≤ 100000000 := by omega
  have hmr : ∀ v y, (-2147483648 ≤ v ∧ v ≤ 2147483647) → (-100000000 ≤ y ∧ y ≤ 100000000) → -2147483648 ≤ mnv v y ∧ mnv v y ≤ 2147483647 := by
    intro v y h1 h2
    unfold mnv
    by_cases z : v = -2147483648 ∨ y < v
    · rw [if_pos z]; omega
    · rw [if_neg z]; exact h1
  refine ok_imp (s_meet hF hwid hp hq hp2 hq2 hB hm hc e0 e1 (by omega) (by omega) r2 r3 r4) (fun r hr => ?_)
  obtain ⟨g1, g2, g3⟩ := hr
  have hA0 := r2 (2 * m) (by omega) (by omega)
  have hA1 := r2 (2 * m + 1) (by omega) (by omega)
  refine ⟨⟨fun s z1 z2 => by rw [g1, ui_n z2, ui_n z1], fun i i1 i2 => ?_, ?_, ?_⟩, fun P hP => ?_, fun P hP => ?_, fun P hP => ?_, fun P hP => ?_⟩
  · rw [g1, ui_e, ui_e]
    by_cases z : i = 2 * m + 1
    · rw [if_pos z]; exact hmr _ _ hA1 r1
    · rw [if_neg z]
      by_cases z' : i = 2 * m
      · rw [if_pos z']; exact hmr _ _ hA0 r0
      · rw [if_neg z']; exact r2 i i1 i2
  · rw [g2]
    by_cases z : wbs wid o' ≤ wbs wid o
    · rw [if_pos z]; exact hmr _ _ r3 r0
    · rw [if_neg z]; exact r3
  · rw [g3]
    by_cases z : wbs wid o' ≤ wbs wid o
    · rw [if_pos z]; exact r4
    · rw [if_neg z]; exact hmr _ _ r4 r0
  · rw [g1, ui_n (by omega), ui_s]
    exact mnN_add hP q0 q0' (by omega)
  · rw [g1, ui_s]
    exact mnN_add hP q1 q1' (by omega)
  · rw [g2]
    by_cases z : wbs wid o' ≤ wbs wid o
    · rw [if_pos z]
      exact mnN_cg (fun x => ⟨fun w => w.imp id (fun t => ⟨z, t⟩), fun w => w.imp id (fun t => t.2)⟩) (mnN_add hP q0 q0' (by omega))
    · rw [if_neg z]
      exact mnN_cg (fun x => ⟨Or.inl, fun w => w.resolve_right (fun t => z t.1)⟩) hP
  · rw [g3]
    by_cases z : wbs wid o' ≤ wbs wid o
    · rw [if_pos z]
      exact mnN_cg (fun x => ⟨Or.inl, fun w => w.resolve_right (fun t => t.1 z)⟩) hP
    · rw [if_neg z]
      exact mnN_cg (fun x => ⟨fun w => w.imp id (fun t => ⟨z, t⟩), fun w => w.imp id (fun t => t.2)⟩) (mnN_add hP q0 q0' (by omega))
end MEETS
