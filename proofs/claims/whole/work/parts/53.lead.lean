/-! the reference's lead: from one start -/
section RCH
variable {F : Nat} {T E L : Int → Int} {s a b : Int}
theorem r_69 (hs : 0 ≤ s ∧ s < 96) (e1 : Int → Int) (q : Int) : f_M_reach_j69 F T L s e1 q = some (ui T s 1, e1, ui L s q) := by
  unfold f_M_reach_j69
  rw [gi_eq hs]
  show gi s 96 _ = _
  rw [gi_eq hs]
  rfl
theorem r_34 (hs : 0 ≤ s ∧ s < 96) (hT : T s = 0 ∨ T s = 1) (hb : -2147483648 ≤ b ∧ b ≤ 2147483647) (hL : T s ≠ 0 → -2147483648 ≤ L s ∧ L s ≤ 2147483647) (q : Int) : f_M_reach_j34 F T E L s b q = some (ui T s 1, ui E s q, ui L s (if T s = 0 ∨ L s < b then b else L s)) := by
  unfold f_M_reach_j34
  rw [gi_eq hs]
  show gi s 96 (gr (T s) _) = _
  rw [gi_eq hs, gr_eq ⟨by omega, by omega⟩]
  by_cases h : T s = 0
  · rw [if_pos h, if_pos (Or.inl h)]
    exact r_69 (F := F) hs _ _
  · rw [if_neg h, gi_eq hs, gr_eq (hL h), gr_eq hb]
    by_cases h2 : L s ≤ b
    · rw [if_pos h2]
      by_cases h3 : L s < b
      · rw [if_pos (Or.inr h3)]
        exact r_69 (F := F) hs _ _
      · rw [if_neg (by omega), show L s = b by omega]
        exact r_69 (F := F) hs _ _
    · rw [if_neg h2, if_neg (by omega), gi_eq hs]
      exact r_69 (F := F) hs _ _
theorem e_reach (hs : 0 ≤ s ∧ s < 96) (hT : T s = 0 ∨ T s = 1) (ha : -2147483648 ≤ a ∧ a ≤ 2147483647) (hb : -2147483648 ≤ b ∧ b ≤ 2147483647) (hL : T s ≠ 0 → (-2147483648 ≤ E s ∧ E s ≤ 2147483647) ∧ -2147483648 ≤ L s ∧ L s ≤ 2147483647) : f_M_reach F T E L s a b = some (ui T s 1, ui E s (if T s = 0 ∨ a < E s then a else E s), ui L s (if T s = 0 ∨ L s < b then b else L s)) := by
  unfold f_M_reach
  rw [gi_eq hs, gr_eq ⟨by omega, by omega⟩]
  by_cases h : T s = 0
  · rw [if_pos h, if_pos (show T s = 0 ∨ a < E s from Or.inl h)]
    exact r_34 (F := F) hs hT hb (fun z => (hL z).2) _
  · rw [if_neg h, gi_eq hs, gr_eq (hL h).1, gr_eq ha]
    by_cases h2 : a ≤ E s
    · rw [if_pos h2]
      by_cases h3 : a < E s
      · rw [if_pos (show T s = 0 ∨ a < E s from Or.inr h3)]
        exact r_34 (F := F) hs hT hb (fun z => (hL z).2) _
      · rw [if_neg (show ¬ (T s = 0 ∨ a < E s) by omega), show E s = a by omega]
        exact r_34 (F := F) hs hT hb (fun z => (hL z).2) _
    · rw [if_neg h2, if_neg (show ¬ (T s = 0 ∨ a < E s) by omega), gi_eq hs]
      exact r_34 (F := F) hs hT hb (fun z => (hL z).2) _
end RCH
/-- one start's value -/
def V1 (st a b : Int) : Int → List (Int × Int) := fun s => if s = st then [(a, b)] else []
theorem RV_V1 {cap st a b : Int} (hcap : 0 < cap) {T E L : Int → Int} (hT : ∀ s, 0 ≤ s → s < 96 → T s = 0) : RV cap (V1 st a b) (ui T st 1) (ui E st a) (ui L st b) := by
  intro s s1 s2
  unfold V1
  rw [ui_e, ui_e, ui_e]
  by_cases e : s = st
  · rw [if_pos e, if_pos e, if_pos e, if_pos e]
    refine ⟨by show (1 : Int) = min 1 cap; omega, fun _ => ⟨isMin_1 a, isMax_1 b⟩⟩
  · rw [if_neg e, if_neg e, if_neg e, if_neg e, hT s s1 s2]
    exact agg_nil (by omega) _ _
theorem s_clearStart {F : Nat} {sn sc a b : Int} {T E L : Int → Int} (hF : 200 ≤ F) (hs : 0 ≤ 2 * sn + sc ∧ 2 * sn + sc < 96) :
    ok (f_M_clearStart F sn sc a b T E L) (fun r => RV 1 (V1 (2 * sn + sc) a b) r.1 r.2.1 r.2.2) := by
  unfold f_M_clearStart
  refine lq2_ok (fun v T => (0 ≤ v ∧ v ≤ 96) ∧ ∀ n, 0 ≤ n → n < v → T n = 0) (fun v _ => (96 - v).toNat) _ ?_ F 0 T ⟨by omega, fun n a b => by omega⟩ (by show (96 - (0 : Int)).toNat < F; omega)
  rintro self v T ⟨hv, hI⟩ hs2
  unfold f_M_clearStart_b2
  refine ok_gr ⟨by omega, by omega⟩ (ok_if (fun h => ?_) (fun h => ?_))
  · refine ok_gi hs (ok_bd.mpr (ok_gi hs (ok_bd.mpr (ok_gi hs (ok_bd.mpr (ok_some.mpr ?_))))))
    exact RV_V1 (by omega) (fun n q1 q2 => hI n q1 (by omega))
  · refine ok_gi ⟨by omega, by omega⟩ (ok_bd.mpr (hs2 _ _ ⟨by omega, fun n a b => ?_⟩ (by show (96 - (v + 1)).toNat < (96 - v).toNat; omega)))
    rw [ui_e]
    by_cases e : n = v
    · rw [if_pos e]
    · rw [if_neg e]; exact hI n a (by omega)
section LEAD
variable {kd pn so se wE wL gE gL : Int → Int}
theorem s_lead {F : Nat} {fr od dE dL T E L : Int → Int} {size gts sn sc a b : Int} (hF : 200 ≤ F) (hz : 1 ≤ size ∧ size ≤ 48) (hse : ∀ i, 0 ≤ se i ∧ se i ≤ 2) (hp : ∀ i, 0 ≤ pn i ∧ pn i ≤ 3) (hw : ∀ i, 0 ≤ wE i ∧ wE i ≤ wL i ∧ wL i ≤ 10000) (hg : ∀ i, 0 ≤ gE i ∧ gE i ≤ gL i ∧ gL i ≤ 10000)
    (hfr : ∀ i, 0 ≤ i → i < 3 * size → (so i = -1 ∧ fr i = -2147483648) ∨ (0 ≤ so i ∧ fr i = so i)) (hfr2 : ∀ i, -2147483648 ≤ fr i ∧ fr i < size) (hgt : 0 ≤ gts ∧ gts ≤ 48) (hG : ∀ n ∈ lst od gts, 0 ≤ n ∧ n < size) (hd : ∀ n ∈ lst od gts, ∀ p c, 0 ≤ p → p < 3 → (c = 0 ∨ c = 1) → dE (6 * n + 2 * p + c) = gE (2 * (3 * n + p) + c) ∧ dL (6 * n + 2 * p + c) = gL (2 * (3 * n + p) + c))
    (hs : 0 ≤ 2 * sn + sc ∧ 2 * sn + sc < 96) (ha : -100000000 ≤ a ∧ a ≤ 100000000) (hb : -100000000 ≤ b ∧ b ≤ 100000000) :
    ok (f_M_lead F gts sn sc a b pn fr wE wL se dE dL od T E L) (fun r => RV 1 (fG pn so se wE wL gE gL (lst od gts) (V1 (2 * sn + sc) a b)) r.1 r.2.1 r.2.2) := by
  have hb0 : bnd (V1 (2 * sn + sc) a b) (-100000000) 100000000 := by
    intro s v hv
    unfold V1 at hv
    by_cases e : s = 2 * sn + sc
    · rw [if_pos e, List.mem_singleton] at hv
      rw [hv]; exact ⟨ha, hb⟩
    · rw [if_neg e] at hv; cases hv
  unfold f_M_lead
  refine ok_ob3 (s_clearStart hF hs) (fun T E L hR => ?_)
  refine lq4_ok (fun (v : Int) c e l => (0 ≤ v ∧ v ≤ gts) ∧ RV 1 (fG pn so se wE wL gE gL (lst od v) (V1 (2 * sn + sc) a b)) c e l) (fun v _ _ _ => (48 - v).toNat) _ ?_ F 0 _ _ _ ⟨by omega, hR⟩ (by show (48 - (0 : Int)).toNat < F; omega)
  clear hR T E L
  rintro self v c e l ⟨hv, hR⟩ hs1
  unfold f_M_lead_b6
  refine ok_gr ⟨by omega, by omega⟩ (ok_gr ⟨by omega, by omega⟩ (ok_if (fun h => ?_) (fun h => ?_)))
  · have e2 : v = gts := by omega
    subst e2
    exact ok_some.mpr hR
  · refine ok_gi ⟨by omega, by omega⟩ (ok_bd.mpr ?_)
    have hmem : od v ∈ lst od gts := lst_mem.mpr ⟨v, by omega, rfl⟩
    have hn := hG (od v) hmem
    have hpn := hp (od v)
    have hbv := bnd_fG (so := so) (se := se) hw hg hp (lst od v) _ _ hb0
    rw [lst_len] at hbv
    refine lq4_ok (fun (k : Int) c e l => (0 ≤ k ∧ k ≤ 4 * pn (od v)) ∧ RV 1 (kst so se wE wL gE gL (od v) (fG pn so se wE wL gE gL (lst od v) (V1 (2 * sn + sc) a b)) k.toNat) c e l) (fun k _ _ _ => (12 - k).toNat) _ ?_ F 0 c e l ⟨by omega, hR⟩ (by show (12 - (0 : Int)).toNat < F; omega)
    clear hR c e l
    rintro self2 k c e l ⟨hk, hR⟩ hs2
    unfold f_M_lead_b23
    refine ok_gi ⟨by omega, by omega⟩ (ok_gr ⟨by omega, by omega⟩ (ok_gr ⟨by omega, by omega⟩ (ok_if (fun h2 => ?_) (fun h2 => ?_))))
    · have e2 : k = 4 * pn (od v) := by omega
      subst e2
      refine hs1 _ _ _ _ ⟨by omega, ?_⟩ (by show (48 - (v + 1)).toNat < (48 - v).toNat; omega)
      rw [kst_gt hp] at hR
      rw [lst_snoc hv.1, fG_snoc]
      exact hR
    · have hmeas : (12 - (k + 1)).toNat < (12 - k).toNat := by omega
      have hnx := kst_s (so := so) (se := se) (wE := wE) (wL := wL) (gE := gE) (gL := gL) (n := od v) (V := fG pn so se wE wL gE gL (lst od v) (V1 (2 * sn + sc) a b)) hk.1
      have hf3 := hfr (3 * od v + k / 4) (by omega) (by omega)
      have hbk := bnd_kst (so := so) (se := se) hw hg (n := od v) hbv k.toNat
      have hskip : stV so se wE wL gE gL (od v) (k / 4) (k / 2 % 2) (k % 2) (kst so se wE wL gE gL (od v) (fG pn so se wE wL gE gL (lst od v) (V1 (2 * sn + sc) a b)) k.toNat) = kst so se wE wL gE gL (od v) (fG pn so se wE wL gE gL (lst od v) (V1 (2 * sn + sc) a b)) k.toNat → ok (self2 (k + 1) c e l) (fun r => RV 1 (fG pn so se wE wL gE gL (lst od gts) (V1 (2 * sn + sc) a b)) r.1 r.2.1 r.2.2) := by
        intro q
        refine hs2 _ _ _ _ ⟨by omega, ?_⟩ hmeas
        rw [hnx, q]
        exact hR
      have hf2 := hfr2 (3 * od v + k / 4)
      refine ok_gp ⟨by omega, by omega⟩ (ok_bd.mpr (ok_gi ⟨by omega, by omega⟩ (ok_bd.mpr (ok_gp ⟨by omega, by omega⟩ (ok_gp ⟨by omega, by omega⟩ (ok_bd.mpr (ok_gr ⟨by omega, by omega⟩ (ok_if (fun h3 => hskip (stV_neg (by omega))) (fun h3 => ?_)))))))))
      have hso : fr (3 * od v + k / 4) = so (3 * od v + k / 4) := by omega
      rw [hso]
      have hf := hR (2 * so (3 * od v + k / 4) + k / 2 % 2) (by omega) (by omega)
      have hfc := agg_c (by omega) hf
      refine ok_gi ⟨by omega, by omega⟩ (ok_gr ⟨by omega, by omega⟩ (ok_if (fun h4 => hskip (stV_nil ((agg_0 (by omega) hf).mp h4))) (fun h4 => ?_)))
      refine ok_gp ⟨by omega, by omega⟩ ?_
      rw [e_Mlets hse (by omega) (by omega) (by omega), ob1_s]
      have z1 := bz_1 (ltz (se (3 * od v + k / 4)) (k / 2 % 2) (k % 2) = true)
      have z2 := bz_01 (ltz (se (3 * od v + k / 4)) (k / 2 % 2) (k % 2) = true)
      refine ok_gr ⟨by omega, by omega⟩ (ok_if (fun h5 => hskip (stV_not (fun q => by have := z1.mpr q; omega))) (fun h5 => ?_))
      have hl : ltz (se (3 * od v + k / 4)) (k / 2 % 2) (k % 2) = true := z1.mp (by omega)
      have hdd := hd (od v) hmem (k / 4) (k % 2) (by omega) (by omega) (by omega)
      have hin := agg_in (by omega) hf hbk h4
      have hwp := hw (3 * od v + k / 4)
      have hgp := hg (2 * (3 * od v + k / 4) + k % 2)
      have ht := hR (2 * od v + k % 2) (by omega) (by omega)
      have htc := agg_c (by omega) ht
      refine ok_gp ⟨by omega, by omega⟩ (ok_bd.mpr (ok_gp ⟨by omega, by omega⟩ (ok_gi ⟨by omega, by omega⟩ (ok_gi ⟨by omega, by omega⟩ (ok_gi ⟨by omega, by omega⟩ (ok_gi ⟨by omega, by omega⟩ (ok_gi ⟨by omega, by omega⟩ (ok_gi ⟨by omega, by omega⟩ ?_))))))))
      rw [hdd.1, hdd.2, e_reach (by omega) (by omega) (by omega) (by omega) (fun q => by have := agg_in (by omega) ht hbk q; omega), ob3_s]
      refine hs2 _ _ _ _ ⟨by omega, ?_⟩ hmeas
      rw [hnx]
      have hst := RV_st (so := so) (se := se) (wE := wE) (wL := wL) (gE := gE) (gL := gL) (cap := 1) (by omega) hR (n := od v) (p := k / 4) (was := k / 2 % 2) (is := k % 2) (by omega) hl (by omega) (by omega) h4
      rw [show min (c (2 * od v + k % 2) + c (2 * so (3 * od v + k / 4) + k / 2 % 2)) 1 = 1 by omega] at hst
      rw [Int.add_assoc (e _) (wE _) (gE _), Int.add_assoc (l _) (wL _) (gL _)]
      exact hst
end LEAD
