/-! the reference's number of timing paths -/
section GOALS
variable {F : Nat} {kd pn so se wE wL gE gL : Int → Int} {size : Int}
/-- an end's ways at its source -/
def ew (kd pn so se : Int → Int) (V : Int → List (Int × Int)) (m : Int) : Int := if (kd m = 4 ∨ kd m = 3) ∧ 0 ≤ so (3 * m) then (((V (2 * so (3 * m))).length : Int) + ((V (2 * so (3 * m) + 1)).length : Int)) * ((wys kd pn so se m).length : Int) else 0
def sw (kd pn so se G : Int → Int) (n : Int) : Int := if kd n = 1 ∨ kd n = 3 then sumN (fun k => G (2 * n + k % 2)) (2 * (wys kd pn so se n).length) else 0
/-- what the reference knows of the number of timing paths -/
def GP (kd pn so se wE wL gE gL : Int → Int) (size : Int) (os : List Int) (A : Int → Int64) (all : Int64) (G E0 : Int → Int) : Prop :=
  GC G A ∧ (∀ V, pr (fG pn so se wE wL gE gL os V) E0 = pr V G) ∧ (∀ V, pr V E0 = sumN (ew kd pn so se V) size.toNat) ∧ min all.toInt 4001 = min (sumN (sw kd pn so se G) size.toNat) 4001 ∧ 0 ≤ all.toInt ∧ all.toInt ≤ 1000000000
theorem sw_0 {G : Int → Int} (h : ∀ s, 0 ≤ s → s < 96 → 0 ≤ G s) {n : Int} (hn : 0 ≤ n ∧ n < 48) : 0 ≤ sw kd pn so se G n := by
  unfold sw
  by_cases q : kd n = 1 ∨ kd n = 3
  · rw [if_pos q]
    have : ∀ k : Nat, 0 ≤ sumN (fun k => G (2 * n + k % 2)) k := by
      intro k
      induction k with
      | zero => exact Int.le_refl 0
      | succ k ih =>
        have := h (2 * n + (k : Int) % 2) (by omega) (by omega)
        exact Int.add_nonneg ih this
    exact this _
  · rw [if_neg q]; exact Int.le_refl 0
theorem sumN_0' {g : Int → Int} : ∀ k : Nat, (∀ i, 0 ≤ i → i < (k : Int) → 0 ≤ g i) → 0 ≤ sumN g k := by
  intro k
  induction k with
  | zero => intro _; exact Int.le_refl 0
  | succ k ih => intro h; exact Int.add_nonneg (ih (fun i a b => h i a (by omega))) (h k (by omega) (by omega))
theorem e_starts {wc : Int → Int} {n : Int} (hk : ∀ i, 0 ≤ kd i ∧ kd i ≤ 4) (hn : 0 ≤ n ∧ n < 48) (hwc : kd n = 3 → wc n = ((wys kd pn so se n).length : Int)) : f_M_starts F kd wc n = some (if kd n = 1 ∨ kd n = 3 then 2 * ((wys kd pn so se n).length : Int) else 0) := by
  have hkn := hk n
  apply ok_eq
  unfold f_M_starts
  refine ok_gi hn (ok_gr ⟨by omega, by omega⟩ (ok_if (fun h1 => ?_) (fun h1 => ok_gi hn (ok_gr ⟨by omega, by omega⟩ (ok_if (fun h3 => ?_) (fun h3 => ?_))))))
  · rw [if_pos (Or.inl h1)]
    unfold wys
    rw [if_neg (by omega), if_pos (Or.inl h1)]
    exact ok_some.mpr rfl
  · rw [if_pos (Or.inr h3)]
    exact ok_gi hn (ok_some.mpr (by rw [hwc h3]))
  · rw [if_neg (by omega)]
    exact ok_some.mpr rfl
/-- the sum over all starts -/
theorem s_sumStarts {wc : Int → Int} {A : Int → Int64} {G E0 : Int → Int} {os : List Int} (hF : 200 ≤ F) (hz : 1 ≤ size ∧ size ≤ 48) (hk : ∀ i, 0 ≤ kd i ∧ kd i ≤ 4) (hwc : ∀ n, 0 ≤ n → n < size → kd n = 3 → wc n = ((wys kd pn so se n).length : Int)) (hw8 : ∀ n, 0 ≤ n → n < size → (wys kd pn so se n).length ≤ 8) (hG : GC G A) (h1 : ∀ V, pr (fG pn so se wE wL gE gL os V) E0 = pr V G) (h2 : ∀ V, pr V E0 = sumN (ew kd pn so se V) size.toNat) :
    ok (lq2 (f_M_countGoals_b256 F size kd wc A) F 0 0) (fun r => GP kd pn so se wE wL gE gL size os r.1 r.2 G E0) := by
  refine lq2_ok (fun (v : Int) (a : Int64) => (0 ≤ v ∧ v ≤ size) ∧ min a.toInt 4001 = min (sumN (sw kd pn so se G) v.toNat) 4001 ∧ 0 ≤ a.toInt ∧ a.toInt ≤ 16000000 * v) (fun v _ => (48 - v).toNat) _ ?_ F 0 0 ⟨by omega, by rw [Int64.toInt_zero]; rfl, by rw [Int64.toInt_zero]; omega, by rw [Int64.toInt_zero]; omega⟩ (by show (48 - (0 : Int)).toNat < F; omega)
  rintro self v a ⟨hv, i1, i2, i3⟩ hs1
  unfold f_M_countGoals_b256
  refine ok_gr ⟨by omega, by omega⟩ (ok_gr ⟨by omega, by omega⟩ (ok_if (fun h => ?_) (fun h => ?_)))
  · have ev : v = size := by omega
    subst ev
    exact ok_some.mpr ⟨hG, h1, h2, i1, i2, by show a.toInt ≤ 1000000000; omega⟩
  · have h8 := hw8 v hv.1 (by omega)
    have hst := e_starts (F := F) (pn := pn) (so := so) (se := se) hk (n := v) (by omega) (hwc v hv.1 (by omega))
    have hT0 := sumN_0' (g := sw kd pn so se G) v.toNat (fun i a b => sw_0 (fun s x y => (hG s x y).1) ⟨a, by omega⟩)
    have hbd : ∀ k : Nat, 0 ≤ sumN (fun k => G (2 * v + k % 2)) k := by
      intro k
      induction k with
      | zero => exact Int.le_refl 0
      | succ k ih => exact Int.add_nonneg ih (hG (2 * v + (k : Int) % 2) (by omega) (by omega)).1
    refine lq2_ok (fun (u : Int) (b : Int64) => 0 ≤ u ∧ (u ≤ (if kd v = 1 ∨ kd v = 3 then 2 * ((wys kd pn so se v).length : Int) else 0)) ∧ min b.toInt 4001 = min (sumN (sw kd pn so se G) v.toNat + sumN (fun k => G (2 * v + k % 2)) u.toNat) 4001 ∧ 0 ≤ b.toInt ∧ b.toInt ≤ 16000000 * v + 1000000 * u) (fun u _ => (16 - u).toNat) _ ?_ F 0 a ⟨by omega, by by_cases q : kd v = 1 ∨ kd v = 3
                                                                                                                                                                                                                                                                                                                                                                 · rw [if_pos q]; omega
                                                                                                                                                                                                                                                                                                                                                                 · rw [if_neg q]; omega, by rw [i1]; show _ = min (_ + 0) 4001; rw [Int.add_zero], i2, by omega⟩ (by show (16 - (0 : Int)).toNat < F; omega)
    rintro self2 u b ⟨hu, hu2, j1, j2, j3⟩ hs2
    unfold f_M_countGoals_b266
    rw [hst, ob1_s]
    have hle : (if kd v = 1 ∨ kd v = 3 then 2 * ((wys kd pn so se v).length : Int) else 0) ≤ 16 ∧ 0 ≤ (if kd v = 1 ∨ kd v = 3 then 2 * ((wys kd pn so se v).length : Int) else 0) := by
      by_cases q : kd v = 1 ∨ kd v = 3
      · rw [if_pos q]; omega
      · rw [if_neg q]; omega
    refine ok_gr ⟨by omega, by omega⟩ (ok_gr ⟨by omega, by omega⟩ (ok_if (fun h4 => ?_) (fun h4 => ?_)))
    · refine hs1 _ _ ⟨by omega, ?_, j2, by omega⟩ (by show (48 - (v + 1)).toNat < (48 - v).toNat; omega)
      rw [sumN_s hv.1, j1]
      unfold sw
      by_cases q : kd v = 1 ∨ kd v = 3
      · rw [if_pos q] at h4 hu2 ⊢
        rw [show u.toNat = 2 * (wys kd pn so se v).length by omega]
      · rw [if_neg q] at h4 hu2 ⊢
        rw [show u = 0 by omega]
        rfl
    · have hg := hG (2 * v + u % 2) (by omega) (by omega)
      refine ok_gp ⟨by omega, by omega⟩ (ok_gi ⟨by omega, by omega⟩ ?_)
      have ha : (b + A (2 * v + u % 2)).toInt = b.toInt + (A (2 * v + u % 2)).toInt := l_add (by rw [hg.2]; omega)
      have hT1 := hbd u.toNat
      refine hs2 _ _ ⟨by omega, by omega, ?_, by rw [ha, hg.2]; omega, by rw [ha, hg.2]; omega⟩ (by show (16 - (u + 1)).toNat < (16 - u).toNat; omega)
      rw [ha, hg.2, sumN_s hu]
      omega
/-- the weights handed back over the gates -/
theorem s_pushBack {fr od wc : Int → Int} {gts : Int} {A : Int → Int64} {E0 : Int → Int} (hF : 200 ≤ F) (hz : 1 ≤ size ∧ size ≤ 48) (hk : ∀ i, 0 ≤ kd i ∧ kd i ≤ 4) (hs : ∀ i, -1 ≤ so i ∧ so i < size) (hse : ∀ i, 0 ≤ se i ∧ se i ≤ 2) (hp : ∀ i, 0 ≤ pn i ∧ pn i ≤ 3) (hfr : ∀ i, 0 ≤ i → i < 3 * size → (so i = -1 ∧ fr i = -2147483648) ∨ (0 ≤ so i ∧ fr i = so i)) (hfr2 : ∀ i, -2147483648 ≤ fr i ∧ fr i < size) (hgt : 0 ≤ gts ∧ gts ≤ 48) (hGs : ∀ n ∈ lst od gts, 0 ≤ n ∧ n < size) (hne : ∀ n ∈ lst od gts, ∀ p, 0 ≤ p → p < pn n → so (3 * n + p) ≠ n) (hwc : ∀ n, 0 ≤ n → n < size → kd n = 3 → wc n = ((wys kd pn so se n).length : Int)) (hw8 : ∀ n, 0 ≤ n → n < size → (wys kd pn so se n).length ≤ 8) (hE : GC E0 A) (h2 : ∀ V, pr V E0 = sumN (ew kd pn so se V) size.toNat) :
    ok (lq2 (f_M_countGoals_b112 F size kd pn fr se od wc) F (gts - 1) A) (fun r => ∃ G E0, GP kd pn so se wE wL gE gL size (lst od gts) r.1 r.2 G E0) := by
  refine lq2_ok (fun (v : Int) (A : Int → Int64) => (-1 ≤ v ∧ v < gts) ∧ ∃ g tl, GC g A ∧ lst od gts = lst od (v + 1) ++ tl ∧ ∀ V, pr (fG pn so se wE wL gE gL tl V) E0 = pr V g) (fun v _ => (v + 1).toNat) _ ?_ F (gts - 1) A ⟨by omega, E0, [], hE, by rw [List.append_nil]; congr 1; omega, fun V => rfl⟩ (by show (gts - 1 + 1).toNat < F; omega)
  rintro self v A ⟨hv, g, tl, hg, htl, hV⟩ hs1
  unfold f_M_countGoals_b112
  refine ok_gr ⟨by omega, by omega⟩ (ok_if (fun h => ?_) (fun h => ?_))
  · have ev : v = -1 := by omega
    subst ev
    rw [show (-1 : Int) + 1 = 0 by omega, lst_0, List.nil_append] at htl
    refine ok_imp (s_sumStarts (wE := wE) (wL := wL) (gE := gE) (gL := gL) (os := lst od gts) hF hz hk hwc hw8 hg (by rw [htl]; exact hV) h2) (fun r hr => ⟨g, E0, hr⟩)
  · refine ok_gi ⟨by omega, by omega⟩ (ok_bd.mpr ?_)
    have hmem : od v ∈ lst od gts := lst_mem.mpr ⟨v, by omega, rfl⟩
    have hn := hGs _ hmem
    have hpn := hp (od v)
    have hnz := hne _ hmem
    refine lq2_ok (fun (k : Int) (A' : Int → Int64) => (0 ≤ k ∧ k ≤ 4 * pn (od v)) ∧ ∃ g', GC g' A' ∧ (∀ V, pr (kst so se wE wL gE gL (od v) V k.toNat) g = pr V g') ∧ g' (2 * od v) = g (2 * od v) ∧ g' (2 * od v + 1) = g (2 * od v + 1)) (fun k _ => (12 - k).toNat) _ ?_ F 0 A ⟨by omega, g, hg, fun V => rfl, rfl, rfl⟩ (by show (12 - (0 : Int)).toNat < F; omega)
    rintro self2 k A' ⟨hk2, g', hg', hV', e0, e1⟩ hs2
    unfold f_M_countGoals_b125
    refine ok_gi ⟨by omega, by omega⟩ (ok_gr ⟨by omega, by omega⟩ (ok_gr ⟨by omega, by omega⟩ (ok_if (fun h3 => ?_) (fun h3 => ?_))))
    · have ek : k = 4 * pn (od v) := by omega
      subst ek
      refine hs1 _ _ ⟨by omega, g', od v :: tl, hg', ?_, fun V => ?_⟩ (by show (v + -1 + 1).toNat < (v + 1).toNat; omega)
      · rw [htl, lst_snoc (by omega), List.append_assoc, show v + -1 + 1 = v by omega]
        rfl
      · have := hV' V
        rw [kst_gt hp] at this
        rw [← this, ← hV]
        rfl
    · have hmeas : (12 - (k + 1)).toNat < (12 - k).toNat := by omega
      have hskip : (so (3 * od v + k / 4) < 0 ∨ ltz (se (3 * od v + k / 4)) (k / 2 % 2) (k % 2) ≠ true) → ok (f_M_countGoals_j237 F k self2 A') (fun r => ∃ G E0, GP kd pn so se wE wL gE gL size (lst od gts) r.1 r.2 G E0) := by
        intro q
        unfold f_M_countGoals_j237
        exact hs2 _ _ ⟨by omega, g', hg', fun V => by rw [kst_2 hk2.1 q]; exact hV' V, e0, e1⟩ hmeas
      have hf3 := hfr (3 * od v + k / 4) (by omega) (by omega)
      have hf2 := hfr2 (3 * od v + k / 4)
      refine ok_gp ⟨by omega, by omega⟩ (ok_gi ⟨by omega, by omega⟩ (ok_bd.mpr (ok_gr ⟨by omega, by omega⟩ (ok_if (fun h4 => hskip (Or.inl (by omega))) (fun h4 => ?_)))))
      have hso : fr (3 * od v + k / 4) = so (3 * od v + k / 4) := by omega
      rw [hso]
      refine ok_gp ⟨by omega, by omega⟩ (ok_gp ⟨by omega, by omega⟩ (ok_gp ⟨by omega, by omega⟩ (ok_gp ⟨by omega, by omega⟩ ?_)))
      rw [e_Mlets hse (by omega) (by omega) (by omega), ob1_s]
      have z1 := bz_1 (ltz (se (3 * od v + k / 4)) (k / 2 % 2) (k % 2) = true)
      have z2 := bz_01 (ltz (se (3 * od v + k / 4)) (k / 2 % 2) (k % 2) = true)
      refine ok_gr ⟨by omega, by omega⟩ (ok_if (fun h5 => hskip (Or.inr (fun q => by have := z1.mpr q; omega))) (fun h5 => ?_))
      have hl : ltz (se (3 * od v + k / 4)) (k / 2 % 2) (k % 2) = true := z1.mp (by omega)
      have hn4 := hnz (k / 4) (by omega) (by omega)
      have q1 := hg' (2 * so (3 * od v + k / 4) + k / 2 % 2) (by omega) (by omega)
      have q2 := hg' (2 * od v + k % 2) (by omega) (by omega)
      have q3 : g' (2 * od v + k % 2) = g (2 * od v + k % 2) := by
        rcases (show k % 2 = 0 ∨ k % 2 = 1 by omega) with e | e
        · rw [e, Int.add_zero]; exact e0
        · rw [e]; exact e1
      have ha : (A' (2 * so (3 * od v + k / 4) + k / 2 % 2) + A' (2 * od v + k % 2)).toInt = (A' (2 * so (3 * od v + k / 4) + k / 2 % 2)).toInt + (A' (2 * od v + k % 2)).toInt := l_add (by omega)
      refine ok_gp ⟨by omega, by omega⟩ (ok_gp ⟨by omega, by omega⟩ (ok_gi ⟨by omega, by omega⟩ (ok_gp ⟨by omega, by omega⟩ (ok_gi ⟨by omega, by omega⟩ (ok_bd.mpr (ok_gp ⟨by omega, by omega⟩ (ok_gp ⟨by omega, by omega⟩ (ok_gr (lc_r _ _) ?_))))))))
      have hM : (1000000 : Int64).toInt = 1000000 := by decide
      have hlp := lc_pos (x := A' (2 * so (3 * od v + k / 4) + k / 2 % 2) + A' (2 * od v + k % 2)) (y := 1000000)
      rw [hM, ha] at hlp
      have hset : ∀ q : Int64, q.toInt = min (g' (2 * so (3 * od v + k / 4) + k / 2 % 2) + g' (2 * od v + k % 2)) 1000000 → ok (f_M_countGoals_j236 F k A' self2 (so (3 * od v + k / 4)) q) (fun r => ∃ G E0, GP kd pn so se wE wL gE gL size (lst od gts) r.1 r.2 G E0) := by
        intro q hq
        unfold f_M_countGoals_j236
        refine ok_gi ⟨by omega, by omega⟩ (ok_bd.mpr ?_)
        unfold f_M_countGoals_j237
        refine hs2 _ _ ⟨by omega, ui g' (2 * so (3 * od v + k / 4) + k / 2 % 2) (g' (2 * so (3 * od v + k / 4) + k / 2 % 2) + g' (2 * od v + k % 2)), fun s s1 s2 => ?_, fun V => ?_, ?_, ?_⟩ hmeas
        · rw [ui_e]
          show _ ∧ (if s = _ then q else A' s).toInt = _
          by_cases e : s = 2 * so (3 * od v + k / 4) + k / 2 % 2
          · rw [if_pos e, if_pos e]
            exact ⟨by omega, hq⟩
          · rw [if_neg e, if_neg e]
            exact hg' s s1 s2
        · rw [pr_g (by omega), kst_1 hk2.1 (by omega) (by omega) hl hn4, hV' V, q3]
        · rw [ui_n (by omega)]; exact e0
        · rw [ui_n (by omega)]; exact e1
      refine ok_if (fun h6 => hset _ ?_) (fun h6 => hset _ ?_)
      · rw [ha]; omega
      · rw [hM]; omega
theorem s_countGoals {fr od wc : Int → Int} {gts : Int} {A : Int → Int64} (hF : 200 ≤ F) (hz : 1 ≤ size ∧ size ≤ 48) (hk : ∀ i, 0 ≤ kd i ∧ kd i ≤ 4) (hs : ∀ i, -1 ≤ so i ∧ so i < size) (hse : ∀ i, 0 ≤ se i ∧ se i ≤ 2) (hp : ∀ i, 0 ≤ pn i ∧ pn i ≤ 3) (hfr : ∀ i, 0 ≤ i → i < 3 * size → (so i = -1 ∧ fr i = -2147483648) ∨ (0 ≤ so i ∧ fr i = so i)) (hfr2 : ∀ i, -2147483648 ≤ fr i ∧ fr i < size) (hgt : 0 ≤ gts ∧ gts ≤ 48) (hGs : ∀ n ∈ lst od gts, 0 ≤ n ∧ n < size) (hne : ∀ n ∈ lst od gts, ∀ p, 0 ≤ p → p < pn n → so (3 * n + p) ≠ n) (hwc : ∀ n, 0 ≤ n → n < size → kd n = 3 → wc n = ((wys kd pn so se n).length : Int)) (hw8 : ∀ n, 0 ≤ n → n < size → (wys kd pn so se n).length ≤ 8) :
    ok (f_M_countGoals F size gts kd pn fr se od wc A) (fun r => ∃ G E0, GP kd pn so se wE wL gE gL size (lst od gts) r.1 r.2 G E0) := by
  unfold f_M_countGoals
  refine lq2_ok (fun (v : Int) (A : Int → Int64) => (0 ≤ v ∧ v ≤ 96) ∧ ∀ s, 0 ≤ s → s < v → A s = 0) (fun v _ => (96 - v).toNat) _ ?_ F 0 A ⟨by omega, fun s a b => by omega⟩ (by show (96 - (0 : Int)).toNat < F; omega)
  rintro self v A ⟨hv, h0⟩ hs1
  unfold f_M_countGoals_b2
  refine ok_gr ⟨by omega, by omega⟩ (ok_if (fun h => ?_) (fun h => ?_))
  · -- the ends
    have hz0 : GC (fun _ => 0) A := fun s a b => ⟨Int.le_refl 0, by rw [h0 s a (by omega), Int64.toInt_zero]; rfl⟩
    have hp0 : ∀ V, pr V (fun _ => 0) = 0 := by
      intro V
      unfold pr
      rw [sumN_cg (g := fun _ => 0 * 0) 96 (fun i _ _ => by rw [Int.mul_zero]; rfl), sumN_mul]
      exact Int.zero_mul _
    refine lq2_ok (fun (m : Int) (A : Int → Int64) => (0 ≤ m ∧ m ≤ size) ∧ ∃ g, GC g A ∧ (∀ s, 0 ≤ s → s < 96 → g s ≤ 8 * m) ∧ ∀ V, pr V g = sumN (ew kd pn so se V) m.toNat) (fun m _ => (48 - m).toNat) _ ?_ F 0 A ⟨by omega, fun _ => 0, hz0, fun s _ _ => by show (0 : Int) ≤ 8 * 0; omega, fun V => hp0 V⟩ (by show (48 - (0 : Int)).toNat < F; omega)
    clear hz0 h0 A
    rintro self2 m A ⟨hm, g, hg, hgb, hV⟩ hs2
    unfold f_M_countGoals_b23
    refine ok_gr ⟨by omega, by omega⟩ (ok_gr ⟨by omega, by omega⟩ (ok_if (fun h2 => ?_) (fun h2 => ?_)))
    · have em : m = size := by omega
      subst em
      exact ok_bd.mpr (s_pushBack (wE := wE) (wL := wL) (gE := gE) (gL := gL) hF hz hk hs hse hp hfr hfr2 hgt hGs hne hwc hw8 hg hV)
    · refine ok_gi ⟨by omega, by omega⟩ (ok_bd.mpr ?_)
      have hmeas : (48 - (m + 1)).toNat < (48 - m).toNat := by omega
      have hkm := hk m
      have h8 := hw8 m hm.1 (by omega)
      refine lq2_ok (fun (c : Int) (A' : Int → Int64) => (0 ≤ c ∧ c ≤ 2) ∧ (c = 0 ∨ EN kd so m) ∧ ∃ g', GC g' A' ∧ (∀ s, 0 ≤ s → s < 96 → g' s ≤ 8 * m ∨ (s < 2 * so (3 * m) + c ∧ g' s ≤ 8 * m + 8)) ∧ ∀ V, pr V g' = pr V g + (if c = 0 then 0 else if c = 1 then ((V (2 * so (3 * m))).length : Int) * ((wys kd pn so se m).length : Int) else ((V (2 * so (3 * m))).length : Int) * ((wys kd pn so se m).length : Int) + ((V (2 * so (3 * m) + 1)).length : Int) * ((wys kd pn so se m).length : Int))) (fun c _ => (2 - c).toNat) _ ?_ F 0 A ⟨by omega, Or.inl rfl, g, hg, fun s a b => Or.inl (hgb s a b), fun V => by rw [if_pos rfl, Int.add_zero]⟩ (by show (2 - (0 : Int)).toNat < F; omega)
      rintro self3 c A' ⟨hc, hc0, g', hg', hgb', hV'⟩ hs3
      -- this node is none
      have hout : ¬ EN kd so m → ok (f_M_countGoals_j99 F m self2 A') (fun r => ∃ G E0, GP kd pn so se wE wL gE gL size (lst od gts) r.1 r.2 G E0) := by
        intro hno
        have ec : c = 0 := hc0.resolve_right hno
        unfold f_M_countGoals_j99
        refine hs2 _ _ ⟨by omega, g', hg', fun s a b => ?_, fun V => ?_⟩ hmeas
        · rcases hgb' s a b with q | q
          · omega
          · omega
        · rw [hV' V, if_pos ec, sumN_s hm.1, hV V]
          unfold ew
          rw [if_neg (show ¬ ((kd m = 4 ∨ kd m = 3) ∧ 0 ≤ so (3 * m)) from hno)]
      unfold f_M_countGoals_b42
      refine ok_gr ⟨by omega, by omega⟩ (ok_if (fun h3 => ?_) (fun h3 => ?_))
      · have ec : c = 2 := by omega
        have hEN : EN kd so m := hc0.resolve_left (by omega)
        unfold f_M_countGoals_j99
        refine hs2 _ _ ⟨by omega, g', hg', fun s a b => ?_, fun V => ?_⟩ hmeas
        · rcases hgb' s a b with q | q
          · omega
          · omega
        · rw [hV' V, if_neg (by omega), if_neg (by omega), sumN_s hm.1, hV V]
          unfold ew
          rw [if_pos (show (kd m = 4 ∨ kd m = 3) ∧ 0 ≤ so (3 * m) from hEN), Int.add_mul]
      · rw [e_MisEnd hz hk (by omega), ob1_s]
        have z1 := bz_1 ((0 ≤ m ∧ m < size) ∧ (kd m = 4 ∨ kd m = 3))
        have z2 := bz_01 ((0 ≤ m ∧ m < size) ∧ (kd m = 4 ∨ kd m = 3))
        refine ok_gr ⟨by omega, by omega⟩ (ok_if (fun h4 => hout (fun q => by have := z1.mpr ⟨by omega, q.1⟩; omega)) (fun h4 => ?_))
        have hend : kd m = 4 ∨ kd m = 3 := (z1.mp (by omega)).2
        have hf3 := hfr (3 * m) (by omega) (by omega)
        have hf2 := hfr2 (3 * m)
        refine ok_gr ⟨by omega, by omega⟩ (ok_if (fun h5 => hout (fun q => by have := q.2; omega)) (fun h5 => ?_))
        have hfs : fr (3 * m) = so (3 * m) := by omega
        rw [hfs]
        have hEN : EN kd so m := ⟨hend, by omega⟩
        have q1 := hg' (2 * so (3 * m) + c) (by omega) (by omega)
        have q2 : g' (2 * so (3 * m) + c) ≤ 8 * m := by
          rcases hgb' (2 * so (3 * m) + c) (by omega) (by omega) with q | q
          · exact q
          · omega
        have hset : ∀ q : Int64, q.toInt = ((wys kd pn so se m).length : Int) → ok (f_M_countGoals_j91 F (so (3 * m)) c A' self3 q) (fun r => ∃ G E0, GP kd pn so se wE wL gE gL size (lst od gts) r.1 r.2 G E0) := by
          intro q hq
          have ha : (A' (2 * so (3 * m) + c) + q).toInt = (A' (2 * so (3 * m) + c)).toInt + q.toInt := l_add (by omega)
          unfold f_M_countGoals_j91
          refine ok_gi ⟨by omega, by omega⟩ (ok_bd.mpr ?_)
          refine hs3 _ _ ⟨by omega, Or.inr hEN, ui g' (2 * so (3 * m) + c) (g' (2 * so (3 * m) + c) + ((wys kd pn so se m).length : Int)), fun s s1 s2 => ?_, fun s s1 s2 => ?_, fun V => ?_⟩ (by show (2 - (c + 1)).toNat < (2 - c).toNat; omega)
          · rw [ui_e]
            show _ ∧ (if s = _ then A' (2 * so (3 * m) + c) + q else A' s).toInt = _
            by_cases e : s = 2 * so (3 * m) + c
            · rw [if_pos e, if_pos e]
              exact ⟨by omega, by omega⟩
            · rw [if_neg e, if_neg e]
              exact hg' s s1 s2
          · rw [ui_e]
            by_cases e : s = 2 * so (3 * m) + c
            · rw [if_pos e]; exact Or.inr ⟨by omega, by omega⟩
            · rw [if_neg e]
              rcases hgb' s s1 s2 with r | r
              · exact Or.inl r
              · exact Or.inr ⟨by omega, r.2⟩
          · rw [pr_g (by omega), hV' V, Int.add_assoc]
            rcases (show c = 0 ∨ c = 1 by omega) with e | e
            · subst e
              rw [if_pos rfl, if_neg (by omega), if_pos (by omega), Int.zero_add, Int.add_zero]
            · subst e
              rw [if_neg (by omega), if_pos rfl, if_neg (by omega), if_neg (by omega)]
        refine ok_gi ⟨by omega, by omega⟩ (ok_gi ⟨by omega, by omega⟩ (ok_gr ⟨by omega, by omega⟩ (ok_if (fun h6 => hset 1 ?_) (fun h6 => ok_gi ⟨by omega, by omega⟩ (hset _ ?_)))))
        · unfold wys
          rw [if_neg (by omega), if_pos (Or.inr h6)]
          rfl
        · rw [hwc m hm.1 (by omega) (by omega), Int32.toInt_toInt64, iI_int (by omega)]
  · refine ok_gi ⟨by omega, by omega⟩ (ok_bd.mpr (hs1 _ _ ⟨by omega, fun s a b => ?_⟩ (by show (96 - (v + 1)).toNat < (96 - v).toNat; omega)))
    show (if s = v then (0 : Int64) else A s) = 0
    by_cases e : s = v
    · rw [if_pos e]
    · rw [if_neg e]; exact h0 s a (by omega)
end GOALS
