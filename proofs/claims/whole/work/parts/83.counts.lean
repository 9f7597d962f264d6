/-! both numbers of timing paths are one -/
section CNT
variable {kd pn so se wE wL gE gL : Int → Int} {size : Int}
theorem sumN_alt {G : Int → Int} {n : Int} : ∀ w : Nat, sumN (fun k => G (2 * n + k % 2)) (2 * w) = (w : Int) * (G (2 * n) + G (2 * n + 1)) := by
  intro w
  induction w with
  | zero => show (0 : Int) = ((0 : Nat) : Int) * _; rw [show ((0 : Nat) : Int) = 0 from rfl, Int.zero_mul]
  | succ w ih =>
    show sumN (fun k => G (2 * n + k % 2)) (2 * w) + G (2 * n + ((2 * w : Nat) : Int) % 2) + G (2 * n + ((2 * w + 1 : Nat) : Int) % 2) = _
    rw [ih, show ((2 * w : Nat) : Int) % 2 = 0 by omega, show ((2 * w + 1 : Nat) : Int) % 2 = 1 by omega, Int.add_zero, show ((w + 1 : Nat) : Int) = (w : Int) + 1 by omega, Int.add_mul, Int.one_mul]
    omega
theorem pr_VS {G sE sL : Int → Int} {n : Int} (hn : 0 ≤ n ∧ n < 48) : pr (VS sE sL n 1) G = G (2 * n) + G (2 * n + 1) := by
  unfold pr
  have h : sumN (fun s => ((VS sE sL n 1 s).length : Int) * G s) 96 = sumN (fun i => (if i = 2 * n then G (2 * n) else 0) + (if i = 2 * n + 1 then G (2 * n + 1) else 0)) 96 := by
    refine sumN_cg 96 (fun i _ _ => ?_)
    rw [VS_at]
    by_cases e : i / 2 = n
    · rw [if_pos e, List.length_replicate]
      show ((1 : Nat) : Int) * G i = _
      rcases (show i = 2 * n ∨ i = 2 * n + 1 by omega) with q | q
      · rw [if_pos q, if_neg (by omega), q]; omega
      · rw [if_neg (by omega), if_pos q, q]; omega
    · rw [if_neg e, if_neg (by omega), if_neg (by omega)]
      show ((0 : Nat) : Int) * G i = _
      omega
  rw [h, sumN_add, sumN_one, sumN_one, if_pos (by omega), if_pos (by omega)]
theorem pr_V1 {G : Int → Int} {s a b : Int} (hs : 0 ≤ s ∧ s < 96) : pr (V1 s a b) G = G s := by
  unfold pr
  have h : sumN (fun i => ((V1 s a b i).length : Int) * G i) 96 = sumN (fun i => if i = s then G s else 0) 96 := by
    refine sumN_cg 96 (fun i _ _ => ?_)
    unfold V1
    by_cases e : i = s
    · rw [if_pos e, if_pos e, e]; show ((1 : Nat) : Int) * G s = _; omega
    · rw [if_neg e, if_neg e]; show ((0 : Nat) : Int) * G i = _; omega
  rw [h, sumN_one, if_pos (by omega)]
theorem GP_paths (hz : 1 ≤ size ∧ size ≤ 48) (hkd : ∀ i, kd i ≠ 0 → 0 < i ∧ i < size) {os : List Int} (hfu : full kd pn so se os) {A : Int → Int64} {all : Int64} {G E0 : Int → Int} (h : GP kd pn so se wE wL gE gL size os A all G E0) : min all.toInt 4001 = min (sumN (nbeg kd pn so se size) size.toNat) 4001 := by
  obtain ⟨-, h1, h2, h3, -⟩ := h
  rw [h3]
  congr 1
  refine sumN_cg _ (fun n n1 n2 => ?_)
  unfold sw nbeg
  by_cases q : kd n = 1 ∨ kd n = 3
  · rw [if_pos q, if_pos q, sumN_alt, ← pr_VS (G := G) (sE := fun _ => 0) (sL := fun _ => 0) ⟨n1, by omega⟩, ← h1, h2, ← sumN_mul]
    refine sumN_cg _ (fun m _ _ => ?_)
    unfold ew npth
    by_cases r : (kd m = 4 ∨ kd m = 3) ∧ 0 ≤ so (3 * m)
    · rw [if_pos r, if_pos r, fG_len hz.2 hkd hfu (by omega), fG_len hz.2 hkd hfu (by omega), Int.add_zero]
      show _ * ((((_ * 1 : Nat) : Int) + ((_ * 1 : Nat) : Int)) * _) = _
      rw [Nat.mul_one, Nat.mul_one, ← Int.mul_assoc, Int.mul_comm ((wys kd pn so se n).length : Int), Int.add_mul]
    · rw [if_neg r, if_neg r, Int.mul_zero]
  · rw [if_neg q, if_neg q]
theorem sumN_z {g : Int → Int} : ∀ k : Nat, (∀ i, 0 ≤ i → i < (k : Int) → 0 ≤ g i) → sumN g k = 0 → ∀ i, 0 ≤ i → i < (k : Int) → g i = 0 := by
  intro k
  induction k with
  | zero => intro _ _ i a b; omega
  | succ k ih =>
    intro h hs i a b
    have hs' : sumN g k + g k = 0 := hs
    have h1 := sumN_0' (g := g) k (fun i a b => h i a (by omega))
    have h2 := h k (by omega) (by omega)
    by_cases e : i = (k : Int)
    · subst e; omega
    · exact ih (fun i a b => h i a (by omega)) (by omega) i a (by omega)
theorem GP_dead (hz : 1 ≤ size ∧ size ≤ 48) (hkd : ∀ i, kd i ≠ 0 → 0 < i ∧ i < size) {os : List Int} (hfu : full kd pn so se os) {A : Int → Int64} {all : Int64} {G E0 : Int → Int} (h : GP kd pn so se wE wL gE gL size os A all G E0) {s m c : Int} {w : List Int} (hs : 0 ≤ s ∧ s < 96) (hA : ¬ 0 < lc (A s) 0) (hm : 0 ≤ m ∧ m < size) (hE : EN kd so m) (hc : c = 0 ∨ c = 1) (hw : isW (insN kd pn so se) s w (2 * so (3 * m) + c)) : wys kd pn so se m = [] := by
  obtain ⟨h0, h1, h2, -, -⟩ := h
  obtain ⟨a1, a2⟩ := h0 s hs.1 hs.2
  have hl := lc_pos (x := A s) (y := 0)
  rw [Int64.toInt_zero] at hl
  have hG : G s = 0 := by
    have : ¬ 0 < (A s).toInt := fun q => hA (hl.mpr q)
    omega
  have hsum : sumN (ew kd pn so se (fG pn so se wE wL gE gL os (V1 s 0 0))) size.toNat = 0 := by
    rw [← h2, h1, pr_V1 hs, hG]
  have hz0 := sumN_z size.toNat (fun i _ _ => by
    unfold ew
    by_cases r : (kd i = 4 ∨ kd i = 3) ∧ 0 ≤ so (3 * i)
    · rw [if_pos r]
      exact Int.mul_nonneg (Int.add_nonneg (Int.natCast_nonneg _) (Int.natCast_nonneg _)) (Int.natCast_nonneg _)
    · rw [if_neg r]; exact Int.le_refl 0) hsum m hm.1 (by omega)
  unfold ew at hz0
  rw [if_pos (show (kd m = 4 ∨ kd m = 3) ∧ 0 ≤ so (3 * m) from hE)] at hz0
  obtain ⟨rk, r1, r2⟩ := full_rk hz.2 hkd hfu
  have hmem : ((0 : Int) + sm (dE wE gE) w, (0 : Int) + sm (dE wL gL) w) ∈ fG pn so se wE wL gE gL os (V1 s 0 0) (2 * so (3 * m) + c) := by
    rw [fG_vs hz.2 hkd hfu, vs_mem r1 49 _ _ (r2 _)]
    refine ⟨s, w, (0, 0), hw, ?_, rfl⟩
    unfold V1
    rw [if_pos rfl]
    exact List.mem_singleton.mpr rfl
  have hlen := List.length_pos_of_mem hmem
  rcases Int.mul_eq_zero.mp hz0 with q | q
  · rcases hc with e | e
    · subst e; rw [Int.add_zero] at hlen; omega
    · subst e; omega
  · exact List.length_eq_zero_iff.mp (by omega)
end CNT
