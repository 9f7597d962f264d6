/-! the class's least slacks of a start and an end -/
def mxF (P : Int → Prop) (v : Int) : Prop := (v = -1000000000 ∧ ∀ x, ¬ P x) ∨ (P v ∧ (∀ x, P x → x ≤ v) ∧ -1000000000 < v)
theorem mxF_0 {P : Int → Prop} (h : ∀ x, ¬ P x) : mxF P (-1000000000) := Or.inl ⟨rfl, h⟩
theorem mxF_cg {P Q : Int → Prop} {v : Int} (h : ∀ x, P x ↔ Q x) (hm : mxF P v) : mxF Q v := by
  rcases hm with ⟨a, b⟩ | ⟨a, b, c⟩
  · exact Or.inl ⟨a, fun x q => b x ((h x).mpr q)⟩
  · exact Or.inr ⟨(h v).mp a, fun x q => b x ((h x).mpr q), c⟩
theorem mxF_addS {P Q : Int → Prop} {v y : Int} (hm : mxF P v) (hq : Q y) (hq2 : ∀ x, Q x → x ≤ y) (hy : -1000000000 < y) : mxF (fun x => P x ∨ Q x) (max v y) := by
  right
  rcases hm with ⟨a, b⟩ | ⟨a, b, c⟩
  · rw [show max v y = y by omega]
    exact ⟨Or.inr hq, fun x q => q.elim (fun r => absurd r (b x)) (hq2 x), hy⟩
  · by_cases q : v ≤ y
    · rw [Int.max_eq_right q]
      exact ⟨Or.inr hq, fun x r => r.elim (fun t => by have := b x t; omega) (hq2 x), hy⟩
    · rw [Int.max_eq_left (by omega)]
      exact ⟨Or.inl a, fun x r => r.elim (b x) (fun t => by have := hq2 x t; omega), c⟩
theorem mnF_addS {P Q : Int → Prop} {v y : Int} (hm : mnF P v) (hq : Q y) (hq2 : ∀ x, Q x → y ≤ x) (hy : y < 1000000000) : mnF (fun x => P x ∨ Q x) (min v y) := by
  right
  rcases hm with ⟨a, b⟩ | ⟨a, b, c⟩
  · rw [show min v y = y by omega]
    exact ⟨Or.inr hq, fun x q => q.elim (fun r => absurd r (b x)) (hq2 x), hy⟩
  · by_cases q : v ≤ y
    · rw [Int.min_eq_left q]
      exact ⟨Or.inl a, fun x r => r.elim (b x) (fun t => by have := hq2 x t; omega), c⟩
    · rw [Int.min_eq_right (by omega)]
      exact ⟨Or.inr hq, fun x r => r.elim (fun t => by have := b x t; omega) (hq2 x), hy⟩
section PAIR
variable {kd pn so se wE wL gE gL sE sL su ho : Int → Int} {size wid per : Int}
theorem dpv_b (hz : size ≤ 48) (hkd : ∀ i, kd i ≠ 0 → 0 < i ∧ i < size) (hw : ∀ i, 0 ≤ wE i ∧ wE i ≤ wL i ∧ wL i ≤ 10000) (hg : ∀ i, 0 ≤ gE i ∧ gE i ≤ gL i ∧ gL i ≤ 10000) (hsr : ∀ i, -1000000 ≤ sE i ∧ sE i ≤ sL i ∧ sL i ≤ 1000000) {os : List Int} (hfu : full kd pn so se os) {n s : Int} {v : Int × Int} (h : dpv kd pn so se wE wL gE gL sE sL n s v) : (-1000000 ≤ v.1 ∧ v.1 ≤ 1960000) ∧ -1000000 ≤ v.2 ∧ v.2 ≤ 1960000 := by
  obtain ⟨rk, h1, h2⟩ := full_rk hz hkd hfu
  obtain ⟨x, w, -, a2, rfl⟩ := h
  have l := isW_len h1 w s a2
  have r := h2 s
  have b1 := sm_b (dE_b (wE := wE) (gE := gE) (fun i => by have := hw i; omega) (fun i => by have := hg i; omega)) w
  have b2 := sm_b (dE_b (wE := wL) (gE := gL) (fun i => by have := hw i; omega) (fun i => by have := hg i; omega)) w
  have b3 := hsr x
  simp only
  omega
/-- an end with a wire at its data pin -/
def EN (kd so : Int → Int) (m : Int) : Prop := (kd m = 4 ∨ kd m = 3) ∧ 0 ≤ so (3 * m)
/-- the setup slacks of the timing paths of a start and an end, whose pairs of ways are as K has it -/
def SLs (kd pn so se wE wL gE gL sE sL su : Int → Int) (per wid : Int) (K : Option (Int × List Int) → Option (Int × List Int) → Prop) (n m x : Int) : Prop := EN kd so m ∧ ∃ o o' c v, o ∈ wys kd pn so se n ∧ o' ∈ wys kd pn so se m ∧ K o o' ∧ (c = 0 ∨ c = 1) ∧ dpv kd pn so se wE wL gE gL sE sL n (2 * so (3 * m) + c) v ∧ x = srm wE wL gE gL per wid n o m o' - (v.2 + wL (3 * m) + su (2 * m + c))
def SLh (kd pn so se wE wL gE gL sE sL ho : Int → Int) (per wid : Int) (n m x : Int) : Prop := EN kd so m ∧ ∃ o o' c v, o ∈ wys kd pn so se n ∧ o' ∈ wys kd pn so se m ∧ (c = 0 ∨ c = 1) ∧ dpv kd pn so se wE wL gE gL sE sL n (2 * so (3 * m) + c) v ∧ x = hrm wE wL gE gL per wid n o m o' + (v.1 + wE (3 * m) - ho (2 * m + c))
/-- least room, greatest need -/
theorem mnF_room {P Q R : Int → Prop} {lr y0 : Int} (hP : P lr) (hP2 : ∀ x, P x → lr ≤ x) (hQ : Q y0) (hQ2 : ∀ y, Q y → y ≤ y0) (hR : ∀ x, R x ↔ ∃ r y, P r ∧ Q y ∧ x = r - y) : R (lr - y0) ∧ ∀ x, R x → lr - y0 ≤ x := by
  refine ⟨(hR _).mpr ⟨lr, y0, hP, hQ, rfl⟩, fun x hx => ?_⟩
  obtain ⟨r, y, h1, h2, h3⟩ := (hR x).mp hx
  have := hP2 r h1
  have := hQ2 y h2
  omega
theorem mnF_roomH {P Q R : Int → Prop} {lr y0 : Int} (hP : P lr) (hP2 : ∀ x, P x → lr ≤ x) (hQ : Q y0) (hQ2 : ∀ y, Q y → y0 ≤ y) (hR : ∀ x, R x ↔ ∃ r y, P r ∧ Q y ∧ x = r + y) : R (lr + y0) ∧ ∀ x, R x → lr + y0 ≤ x := by
  refine ⟨(hR _).mpr ⟨lr, y0, hP, hQ, rfl⟩, fun x hx => ?_⟩
  obtain ⟨r, y, h1, h2, h3⟩ := (hR x).mp hx
  have := hP2 r h1
  have := hQ2 y h2
  omega
theorem cap_add {T l0 l1 c p w0 w1 : Int} (hT : 0 ≤ T) (h0 : 0 ≤ l0) (h1 : 0 ≤ l1) (hc : 1 ≤ c) (hp : p = min T 4001) (e0 : w0 = min l0 4001) (e1 : w1 = min l1 4001) : min (p + (w0 + w1) * c) 4001 = min (T + (l0 + l1) * c) 4001 := by
  by_cases q0 : l0 ≤ 4001
  · by_cases q1 : l1 ≤ 4001
    · rw [show w0 = l0 by omega, show w1 = l1 by omega, hp]
      have : 0 ≤ (l0 + l1) * c := Int.mul_nonneg (by omega) (by omega)
      omega
    · have a : 4001 * 1 ≤ (w0 + w1) * c := Int.mul_le_mul (by omega) hc (by omega) (by omega)
      have b : 4001 * 1 ≤ (l0 + l1) * c := Int.mul_le_mul (by omega) hc (by omega) (by omega)
      omega
  · have a : 4001 * 1 ≤ (w0 + w1) * c := Int.mul_le_mul (by omega) hc (by omega) (by omega)
    have b : 4001 * 1 ≤ (l0 + l1) * c := Int.mul_le_mul (by omega) hc (by omega) (by omega)
    omega
theorem e_keepLeast {F : Nat} {LM LF lm lf lh m x y : Int} {A : Int → Int} (hm : 0 ≤ m ∧ m < 48) (r1 : -100000000 ≤ LM ∧ LM ≤ 1000000000) (r2 : -100000000 ≤ LF ∧ LF ≤ 1000000000) (r3 : -100000000 ≤ lm ∧ lm ≤ 1000000000) (r4 : -100000000 ≤ lf ∧ lf ≤ 1000000000) (r5 : -100000000 ≤ lh ∧ lh ≤ 1000000000) (r6 : -100000000 ≤ x ∧ x ≤ 100000000) (r7 : -100000000 ≤ y ∧ y ≤ 100000000) (r8 : -100000000 ≤ A (2 * m) ∧ A (2 * m) ≤ 1000000000) (r9 : -100000000 ≤ A (2 * m + 1) ∧ A (2 * m + 1) ≤ 1000000000) :
    f_Slacks_keepLeast F LM LF A lm lf lh m x y = some (ui (ui A (2 * m) (min (A (2 * m)) (min lm lf - x))) (2 * m + 1) (min (A (2 * m + 1)) (lh + y)), (if lm = 1000000000 then LM else min LM (lm - x)), (if lf = 1000000000 then LF else min LF (lf - x))) := by
  have hj : ∀ A2 z, f_Slacks_keepLeast_j110 F LF lf x A2 z = some (A2, z, (if lf = 1000000000 then LF else min LF (lf - x))) := by
    intro A2 z
    unfold f_Slacks_keepLeast_j110
    rw [gr_eq ⟨by omega, by omega⟩]
    by_cases q : lf = 1000000000
    · rw [if_pos q, if_pos q]
    · rw [if_neg q, if_neg q, gr_eq ⟨by omega, by omega⟩, gr_eq ⟨by omega, by omega⟩]
  have hA : ui A (2 * m) (min (A (2 * m)) (min lm lf - x)) (2 * m + 1) = A (2 * m + 1) := ui_n (by omega)
  apply ok_eq
  unfold f_Slacks_keepLeast
  rw [Int.add_zero]
  refine ok_gr ⟨by omega, by omega⟩ (ok_gr ⟨by omega, by omega⟩ (ok_bd.mpr (ok_gi ⟨by omega, by omega⟩ (ok_gr ⟨by omega, by omega⟩ (ok_gr ⟨by omega, by omega⟩ (ok_gi ⟨by omega, by omega⟩ (ok_bd.mpr (ok_gi ⟨by omega, by omega⟩ ?_))))))))
  rw [hA]
  refine ok_gr ⟨by omega, by omega⟩ (ok_gr ⟨by omega, by omega⟩ (ok_gi ⟨by omega, by omega⟩ (ok_bd.mpr (ok_gr ⟨by omega, by omega⟩ (ok_if (fun q => ?_) (fun q => ?_))))))
  · rw [hj, if_pos q]
    exact ok_some.mpr rfl
  · refine ok_gr ⟨by omega, by omega⟩ (ok_gr ⟨by omega, by omega⟩ ?_)
    rw [hj, if_neg q]
    exact ok_some.mpr rfl
end PAIR
