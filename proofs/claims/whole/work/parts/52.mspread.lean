/-! values handed on gate by gate: the reference's count of clock ways, and its lead -/
section MSP
variable {kd pn so se wE wL gE gL : Int → Int}
theorem RV_st {cap : Int} (hcap : 0 < cap) {n p was is : Int} {V : Int → List (Int × Int)} {c e l : Int → Int} (hR : RV cap V c e l) (h0 : ¬ so (3 * n + p) < 0) (h : ltz (se (3 * n + p)) was is = true) (hf1 : 0 ≤ 2 * so (3 * n + p) + was ∧ 2 * so (3 * n + p) + was < 96) (ht1 : 0 ≤ 2 * n + is ∧ 2 * n + is < 96) (hc : c (2 * so (3 * n + p) + was) ≠ 0) :
    RV cap (stV so se wE wL gE gL n p was is V) (ui c (2 * n + is) (min (c (2 * n + is) + c (2 * so (3 * n + p) + was)) cap))
      (ui e (2 * n + is) (if c (2 * n + is) = 0 ∨ e (2 * so (3 * n + p) + was) + (wE (3 * n + p) + gE (2 * (3 * n + p) + is)) < e (2 * n + is) then e (2 * so (3 * n + p) + was) + (wE (3 * n + p) + gE (2 * (3 * n + p) + is)) else e (2 * n + is)))
      (ui l (2 * n + is) (if c (2 * n + is) = 0 ∨ l (2 * n + is) < l (2 * so (3 * n + p) + was) + (wL (3 * n + p) + gL (2 * (3 * n + p) + is)) then l (2 * so (3 * n + p) + was) + (wL (3 * n + p) + gL (2 * (3 * n + p) + is)) else l (2 * n + is))) := by
  have hf := hR _ hf1.1 hf1.2
  have ht := hR _ ht1.1 ht1.2
  intro s s1 s2
  rw [stV_yes h0 h]
  show agg cap (if s = 2 * n + is then _ else _) _ _ _
  rw [ui_e, ui_e, ui_e]
  by_cases es : s = 2 * n + is
  · rw [if_pos es, if_pos es, if_pos es, if_pos es, es]
    exact agg_join hcap ht (agg_shf _ _ hf) (shf_ne (fun q => hc ((agg_0 hcap hf).mpr q)))
  · rw [if_neg es, if_neg es, if_neg es, if_neg es]
    exact hR s s1 s2
/-- the first k of a gate's steps -/
def kst (so se wE wL gE gL : Int → Int) (n : Int) (V : Int → List (Int × Int)) : Nat → Int → List (Int × Int)
  | 0 => V
  | k + 1 => stV so se wE wL gE gL n ((k / 4 : Nat) : Int) ((k / 2 % 2 : Nat) : Int) ((k % 2 : Nat) : Int) (kst so se wE wL gE gL n V k)
theorem kst_pin (n : Int) (V : Int → List (Int × Int)) : ∀ p : Nat, kst so se wE wL gE gL n V (4 * p) = (pinl p).foldl (fun V p => pnV so se wE wL gE gL n p V) V := by
  intro p
  induction p with
  | zero => rfl
  | succ p ih =>
    rw [show ((p + 1 : Nat) : Int) = (p : Int) + 1 by omega, pinl_succ (by omega), List.foldl_append, ← ih]
    show kst so se wE wL gE gL n V (4 * p + 3 + 1) = pnV so se wE wL gE gL n p (kst so se wE wL gE gL n V (4 * p))
    show stV so se wE wL gE gL n (((4 * p + 3) / 4 : Nat) : Int) (((4 * p + 3) / 2 % 2 : Nat) : Int) (((4 * p + 3) % 2 : Nat) : Int) (stV so se wE wL gE gL n (((4 * p + 2) / 4 : Nat) : Int) (((4 * p + 2) / 2 % 2 : Nat) : Int) (((4 * p + 2) % 2 : Nat) : Int) (stV so se wE wL gE gL n (((4 * p + 1) / 4 : Nat) : Int) (((4 * p + 1) / 2 % 2 : Nat) : Int) (((4 * p + 1) % 2 : Nat) : Int) (stV so se wE wL gE gL n (((4 * p) / 4 : Nat) : Int) (((4 * p) / 2 % 2 : Nat) : Int) (((4 * p) % 2 : Nat) : Int) (kst so se wE wL gE gL n V (4 * p))))) = _
    rw [show (((4 * p + 3) / 4 : Nat) : Int) = p by omega, show (((4 * p + 3) / 2 % 2 : Nat) : Int) = 1 by omega, show (((4 * p + 3) % 2 : Nat) : Int) = 1 by omega, show (((4 * p + 2) / 4 : Nat) : Int) = p by omega, show (((4 * p + 2) / 2 % 2 : Nat) : Int) = 1 by omega, show (((4 * p + 2) % 2 : Nat) : Int) = 0 by omega, show (((4 * p + 1) / 4 : Nat) : Int) = p by omega, show (((4 * p + 1) / 2 % 2 : Nat) : Int) = 0 by omega, show (((4 * p + 1) % 2 : Nat) : Int) = 1 by omega, show (((4 * p) / 4 : Nat) : Int) = p by omega, show (((4 * p) / 2 % 2 : Nat) : Int) = 0 by omega, show (((4 * p) % 2 : Nat) : Int) = 0 by omega]
    rfl
theorem kst_gt (hp : ∀ i, 0 ≤ pn i ∧ pn i ≤ 3) (n : Int) (V : Int → List (Int × Int)) : kst so se wE wL gE gL n V (4 * pn n).toNat = gtV pn so se wE wL gE gL n V := by
  have h := hp n
  rw [show (4 * pn n).toNat = 4 * (pn n).toNat by omega, kst_pin]
  unfold gtV
  rw [show (((pn n).toNat : Nat) : Int) = pn n by omega]
theorem kst_s {n : Int} {V : Int → List (Int × Int)} {k : Int} (hk : 0 ≤ k) : kst so se wE wL gE gL n V (k + 1).toNat = stV so se wE wL gE gL n (k / 4) (k / 2 % 2) (k % 2) (kst so se wE wL gE gL n V k.toNat) := by
  rw [show (k + 1).toNat = k.toNat + 1 by omega]
  show stV so se wE wL gE gL n ((k.toNat / 4 : Nat) : Int) ((k.toNat / 2 % 2 : Nat) : Int) ((k.toNat % 2 : Nat) : Int) _ = _
  rw [show ((k.toNat / 4 : Nat) : Int) = k / 4 by omega, show ((k.toNat / 2 % 2 : Nat) : Int) = k / 2 % 2 by omega, show ((k.toNat % 2 : Nat) : Int) = k % 2 by omega]
theorem bnd_kst (hw : ∀ i, 0 ≤ wE i ∧ wE i ≤ wL i ∧ wL i ≤ 10000) (hg : ∀ i, 0 ≤ gE i ∧ gE i ≤ gL i ∧ gL i ≤ 10000) {n lo B : Int} {V : Int → List (Int × Int)} (h : bnd V lo B) : ∀ k : Nat, bnd (kst so se wE wL gE gL n V k) lo (B + 20000 * k) := by
  intro k
  induction k with
  | zero => exact bnd_up h (by omega)
  | succ k ih => exact bnd_up (bnd_st hw hg ih) (by omega)
/-- numbers alone -/
def CV (cap : Int) (V : Int → List (Int × Int)) (c : Int → Int) : Prop := ∀ s, 0 ≤ s → s < 96 → c s = min ((V s).length : Int) cap
def V00 : Int → List (Int × Int) := fun s => if s = 0 ∨ s = 1 then [(0, 0)] else []
theorem s_countClock {F : Nat} {fr od cw : Int → Int} {size gts : Int} (hF : 200 ≤ F) (hz : 1 ≤ size ∧ size ≤ 48) (hse : ∀ i, 0 ≤ se i ∧ se i ≤ 2) (hp : ∀ i, 0 ≤ pn i ∧ pn i ≤ 3)
    (hfr : ∀ i, 0 ≤ i → i < 3 * size → (so i = -1 ∧ fr i = -2147483648) ∨ (0 ≤ so i ∧ fr i = so i)) (hfr2 : ∀ i, -2147483648 ≤ fr i ∧ fr i < size) (hgt : 0 ≤ gts ∧ gts ≤ 48) (hG : ∀ n ∈ lst od gts, 0 ≤ n ∧ n < size) :
    ok (f_M_countClock F gts pn fr se od cw) (fun r => CV 9 (fG pn so se wE wL gE gL (lst od gts) V00) r) := by
  unfold f_M_countClock
  refine lq2_ok (fun v T => (0 ≤ v ∧ v ≤ 96) ∧ ∀ n, 0 ≤ n → n < v → T n = 0) (fun v _ => (96 - v).toNat) _ ?_ F 0 cw ⟨by omega, fun n a b => by omega⟩ (by show (96 - (0 : Int)).toNat < F; omega)
  rintro self v T ⟨hv, hI⟩ hs
  unfold f_M_countClock_b2
  refine ok_gr ⟨by omega, by omega⟩ (ok_if (fun h => ?_) (fun h => ?_))
  · refine ok_gi ⟨by omega, by omega⟩ (ok_bd.mpr (ok_gi ⟨by omega, by omega⟩ (ok_bd.mpr ?_)))
    have hT0 : CV 9 V00 (ui (ui T 0 1) 1 1) := by
      intro s a b
      unfold V00
      rw [ui_e, ui_e]
      by_cases e1 : s = 1
      · rw [if_pos e1, if_pos (Or.inr e1)]; rfl
      · rw [if_neg e1]
        by_cases e0 : s = 0
        · rw [if_pos e0, if_pos (Or.inl e0)]; rfl
        · rw [if_neg e0, if_neg (by omega), hI s a (by omega)]; rfl
    refine lq2_ok (fun (v : Int) c => (0 ≤ v ∧ v ≤ gts) ∧ CV 9 (fG pn so se wE wL gE gL (lst od v) V00) c) (fun v _ => (48 - v).toNat) _ ?_ F 0 _ ⟨by omega, hT0⟩ (by show (48 - (0 : Int)).toNat < F; omega)
    clear hT0 hs hI hv T self v h
    rintro self v c ⟨hv, hR⟩ hs
    unfold f_M_countClock_b37
    refine ok_gr ⟨by omega, by omega⟩ (ok_gr ⟨by omega, by omega⟩ (ok_if (fun h => ?_) (fun h => ?_)))
    · have e2 : v = gts := by omega
      subst e2
      exact ok_some.mpr hR
    · refine ok_gi ⟨by omega, by omega⟩ (ok_bd.mpr ?_)
      have hn := hG (od v) (lst_mem.mpr ⟨v, by omega, rfl⟩)
      have hpn := hp (od v)
      refine lq2_ok (fun (k : Int) c => (0 ≤ k ∧ k ≤ 4 * pn (od v)) ∧ CV 9 (kst so se wE wL gE gL (od v) (fG pn so se wE wL gE gL (lst od v) V00) k.toNat) c) (fun k _ => (12 - k).toNat) _ ?_ F 0 c ⟨by omega, hR⟩ (by show (12 - (0 : Int)).toNat < F; omega)
      clear hR c
      rintro self2 k c ⟨hk, hR⟩ hs2
      unfold f_M_countClock_b54
      refine ok_gi ⟨by omega, by omega⟩ (ok_gr ⟨by omega, by omega⟩ (ok_gr ⟨by omega, by omega⟩ (ok_if (fun h2 => ?_) (fun h2 => ?_))))
      · have e2 : k = 4 * pn (od v) := by omega
        subst e2
        refine hs _ _ ⟨by omega, ?_⟩ (by show (48 - (v + 1)).toNat < (48 - v).toNat; omega)
        rw [kst_gt hp] at hR
        rw [lst_snoc hv.1, fG_snoc]
        exact hR
      · have hmeas : (12 - (k + 1)).toNat < (12 - k).toNat := by omega
        have hnx := kst_s (so := so) (se := se) (wE := wE) (wL := wL) (gE := gE) (gL := gL) (n := od v) (V := fG pn so se wE wL gE gL (lst od v) V00) hk.1
        have hf3 := hfr (3 * od v + k / 4) (by omega) (by omega)
        have hskip : stV so se wE wL gE gL (od v) (k / 4) (k / 2 % 2) (k % 2) (kst so se wE wL gE gL (od v) (fG pn so se wE wL gE gL (lst od v) V00) k.toNat) = kst so se wE wL gE gL (od v) (fG pn so se wE wL gE gL (lst od v) V00) k.toNat → ok (self2 (k + 1) c) (fun r => CV 9 (fG pn so se wE wL gE gL (lst od gts) V00) r) := by
          intro q
          refine hs2 _ _ ⟨by omega, ?_⟩ hmeas
          rw [hnx, q]
          exact hR
        have hf2 := hfr2 (3 * od v + k / 4)
        refine ok_gp ⟨by omega, by omega⟩ (ok_bd.mpr (ok_gi ⟨by omega, by omega⟩ (ok_bd.mpr (ok_gr ⟨by omega, by omega⟩ (ok_if (fun h3 => hskip (stV_neg (by omega))) (fun h3 => ?_))))))
        have hso : fr (3 * od v + k / 4) = so (3 * od v + k / 4) := by omega
        refine ok_gp ⟨by omega, by omega⟩ (ok_gp ⟨by omega, by omega⟩ (ok_gp ⟨by omega, by omega⟩ ?_))
        rw [e_Mlets hse (by omega) (by omega) (by omega), ob1_s]
        have z1 := bz_1 (ltz (se (3 * od v + k / 4)) (k / 2 % 2) (k % 2) = true)
        have z2 := bz_01 (ltz (se (3 * od v + k / 4)) (k / 2 % 2) (k % 2) = true)
        refine ok_gr ⟨by omega, by omega⟩ (ok_if (fun h4 => hskip (stV_not (fun q => by have := z1.mpr q; omega))) (fun h4 => ?_))
        have hl : ltz (se (3 * od v + k / 4)) (k / 2 % 2) (k % 2) = true := z1.mp (by omega)
        rw [hso]
        have ha := hR (2 * od v + k % 2) (by omega) (by omega)
        have hb := hR (2 * so (3 * od v + k / 4) + k / 2 % 2) (by omega) (by omega)
        refine ok_gp ⟨by omega, by omega⟩ (ok_gi ⟨by omega, by omega⟩ (ok_gp ⟨by omega, by omega⟩ (ok_gp ⟨by omega, by omega⟩ (ok_gi ⟨by omega, by omega⟩ (ok_bd.mpr (ok_gp ⟨by omega, by omega⟩ (ok_gr ⟨by omega, by omega⟩ ?_)))))))
        have hnew : ∀ x, x = min (c (2 * od v + k % 2) + c (2 * so (3 * od v + k / 4) + k / 2 % 2)) 9 → ok (f_M_countClock_j162 F (od v) k c self2 x) (fun r => CV 9 (fG pn so se wE wL gE gL (lst od gts) V00) r) := by
          intro x hx
          unfold f_M_countClock_j162
          refine ok_gi ⟨by omega, by omega⟩ (ok_bd.mpr (hs2 _ _ ⟨by omega, fun s s1 s2 => ?_⟩ hmeas))
          rw [hnx, stV_yes (by omega) hl, ui_e]
          show _ = min (((if s = 2 * od v + k % 2 then _ else _ : List (Int × Int)).length : Nat) : Int) 9
          by_cases es : s = 2 * od v + k % 2
          · rw [if_pos es, if_pos es, List.length_append, es, hx]
            unfold shf
            rw [List.length_map]
            omega
          · rw [if_neg es, if_neg es]
            exact hR s s1 s2
        exact ok_if (fun h5 => hnew _ (by omega)) (fun h5 => hnew _ (by omega))
  · refine ok_gi ⟨by omega, by omega⟩ (ok_bd.mpr (hs _ _ ⟨by omega, fun n a b => ?_⟩ (by show (96 - (v + 1)).toNat < (96 - v).toNat; omega)))
    rw [ui_e]
    by_cases e : n = v
    · rw [if_pos e]
    · rw [if_neg e]; exact hI n a (by omega)
end MSP
