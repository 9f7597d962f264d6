/-! how many timing paths: weights and words, the one handed on backward, the other forward -/
theorem l_add {a b : Int64} (h : -1000000000000 ≤ a.toInt + b.toInt ∧ a.toInt + b.toInt ≤ 1000000000000) : (a + b).toInt = a.toInt + b.toInt := by
  rw [Int64.toInt_add]
  exact Int.bmod_eq_of_le (by omega) (by omega)
theorem lc_pos {x y : Int64} : 0 < lc x y ↔ y.toInt < x.toInt := by
  unfold lc
  by_cases h : x > y
  · rw [if_pos h]
    exact ⟨fun _ => Int64.lt_iff_toInt_lt.mp h, fun _ => by omega⟩
  · rw [if_neg h]
    have h2 : ¬ y.toInt < x.toInt := fun q => h (Int64.lt_iff_toInt_lt.mpr q)
    by_cases e : x = y
    · rw [if_pos e]; omega
    · rw [if_neg e]; omega
theorem sumN_cg {f g : Int → Int} : ∀ k : Nat, (∀ i, 0 ≤ i → i < (k : Int) → f i = g i) → sumN f k = sumN g k := by
  intro k
  induction k with
  | zero => intro _; rfl
  | succ k ih =>
    intro h
    show sumN f k + f k = sumN g k + g k
    rw [ih (fun i a b => h i a (by omega)), h (k : Int) (by omega) (by omega)]
theorem sumN_add (f g : Int → Int) : ∀ k : Nat, sumN (fun i => f i + g i) k = sumN f k + sumN g k := by
  intro k
  induction k with
  | zero => rfl
  | succ k ih =>
    show sumN _ k + (f k + g k) = sumN f k + f k + (sumN g k + g k)
    rw [ih]; omega
theorem sumN_one {s q : Int} : ∀ k : Nat, sumN (fun i => if i = s then q else 0) k = if 0 ≤ s ∧ s < (k : Int) then q else 0 := by
  intro k
  induction k with
  | zero => rw [if_neg (by omega)]; rfl
  | succ k ih =>
    show sumN _ k + (if (k : Int) = s then q else 0) = _
    rw [ih]
    by_cases h : (k : Int) = s
    · rw [if_pos h, if_neg (by omega), if_pos (by omega)]; omega
    · rw [if_neg h]
      by_cases h2 : 0 ≤ s ∧ s < (k : Int)
      · rw [if_pos h2, if_pos (by omega)]; omega
      · rw [if_neg h2, if_neg (by omega)]; omega
theorem sumN_mul (a : Int) (f : Int → Int) : ∀ k : Nat, sumN (fun i => a * f i) k = a * sumN f k := by
  intro k
  induction k with
  | zero => show (0 : Int) = a * 0; omega
  | succ k ih =>
    show sumN _ k + a * f k = a * (sumN f k + f k)
    rw [ih, Int.mul_add]
/-- words by their weights -/
def pr (V : Int → List (Int × Int)) (g : Int → Int) : Int := sumN (fun s => ((V s).length : Int) * g s) 96
theorem pr_g {V : Int → List (Int × Int)} {g : Int → Int} {s q : Int} (hs : 0 ≤ s ∧ s < 96) : pr V (ui g s (g s + q)) = pr V g + ((V s).length : Int) * q := by
  unfold pr
  have h : sumN (fun i => (((V i).length : Int)) * ui g s (g s + q) i) 96 = sumN (fun i => ((V i).length : Int) * g i + (if i = s then ((V s).length : Int) * q else 0)) 96 := by
    refine sumN_cg 96 (fun i _ _ => ?_)
    rw [ui_e]
    by_cases e : i = s
    · rw [if_pos e, if_pos e, e, Int.mul_add]
    · rw [if_neg e, if_neg e, Int.add_zero]
  rw [h, sumN_add, sumN_one, if_pos (by omega)]
theorem pr_V {V : Int → List (Int × Int)} {g : Int → Int} {s : Int} {l : List (Int × Int)} (hs : 0 ≤ s ∧ s < 96) : pr (fun j => if j = s then V j ++ l else V j) g = pr V g + (l.length : Int) * g s := by
  unfold pr
  have h : sumN (fun i => (((if i = s then V i ++ l else V i).length : Int)) * g i) 96 = sumN (fun i => ((V i).length : Int) * g i + (if i = s then (l.length : Int) * g s else 0)) 96 := by
    refine sumN_cg 96 (fun i _ _ => ?_)
    by_cases e : i = s
    · rw [if_pos e, if_pos e, e, List.length_append]
      rw [show (((V s).length + l.length : Nat) : Int) = ((V s).length : Int) + (l.length : Int) from by omega, Int.add_mul]
    · rw [if_neg e, if_neg e, Int.add_zero]
  rw [h, sumN_add, sumN_one, if_pos (by omega)]
section PRG
variable {kd pn so se wE wL gE gL : Int → Int} {size : Int}
theorem shf_len {a b : Int} (l : List (Int × Int)) : (shf a b l).length = l.length := by unfold shf; exact List.length_map _
theorem kst_o {n : Int} {V : Int → List (Int × Int)} {s : Int} (hs : s / 2 ≠ n) : ∀ k : Nat, kst so se wE wL gE gL n V k s = V s := by
  intro k
  induction k with
  | zero => rfl
  | succ k ih =>
    have hk := kst_s (so := so) (se := se) (wE := wE) (wL := wL) (gE := gE) (gL := gL) (n := n) (V := V) (k := (k : Int)) (by omega)
    rw [show ((k : Int) + 1).toNat = k + 1 by omega, show ((k : Int)).toNat = k by omega] at hk
    rw [hk]
    by_cases h0 : so (3 * n + (k : Int) / 4) < 0
    · rw [stV_neg h0]; exact ih
    · by_cases h1 : ltz (se (3 * n + (k : Int) / 4)) ((k : Int) / 2 % 2) ((k : Int) % 2) = true
      · rw [stV_yes h0 h1]
        show (if s = 2 * n + (k : Int) % 2 then _ else _) = _
        rw [if_neg (by omega)]; exact ih
      · rw [stV_not h1]; exact ih
theorem kst_1 {n : Int} {V : Int → List (Int × Int)} {g : Int → Int} {k : Int} (hk : 0 ≤ k) (hn : 0 ≤ n ∧ n < 48) (h0 : ¬ so (3 * n + k / 4) < 0) (h1 : ltz (se (3 * n + k / 4)) (k / 2 % 2) (k % 2) = true) (hne : so (3 * n + k / 4) ≠ n) : pr (kst so se wE wL gE gL n V (k + 1).toNat) g = pr (kst so se wE wL gE gL n V k.toNat) g + ((V (2 * so (3 * n + k / 4) + k / 2 % 2)).length : Int) * g (2 * n + k % 2) := by
  rw [kst_s hk, stV_yes h0 h1, pr_V (by omega), shf_len, kst_o (by omega)]
theorem kst_2 {n : Int} {V : Int → List (Int × Int)} {k : Int} (hk : 0 ≤ k) (h : so (3 * n + k / 4) < 0 ∨ ltz (se (3 * n + k / 4)) (k / 2 % 2) (k % 2) ≠ true) : kst so se wE wL gE gL n V (k + 1).toNat = kst so se wE wL gE gL n V k.toNat := by
  rw [kst_s hk]
  rcases h with h | h
  · exact stV_neg h
  · exact stV_not h
end PRG
/-- the reference's weights, up to a million -/
def GC (g : Int → Int) (A : Int → Int64) : Prop := ∀ s, 0 ≤ s → s < 96 → 0 ≤ g s ∧ (A s).toInt = min (g s) 1000000
