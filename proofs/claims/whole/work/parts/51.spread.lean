/-! values handed on gate by gate: the class's Spread -/
section JN
variable {F : Nat} {c e l : Int → Int} {s more x y : Int}
theorem j_62 (hs : 0 ≤ s ∧ s < 96) (hc : 0 ≤ c s ∧ c s ≤ 4001) (hm : 0 ≤ more ∧ more ≤ 4001) (e1 l1 : Int → Int) : f_Spread_join_j62 F c s more e1 l1 = some (ui c s (min (c s + more) 4001), e1, l1) := by
  unfold f_Spread_join_j62
  rw [gi_eq hs, gr_eq ⟨by omega, by omega⟩, gi_eq hs]
  rfl
theorem j_54 (hs : 0 ≤ s ∧ s < 96) (hc : 0 ≤ c s ∧ c s ≤ 4001) (hm : 0 ≤ more ∧ more ≤ 4001) (e1 : Int → Int) : f_Spread_join_j54 F c l s more y e1 = some (ui c s (min (c s + more) 4001), e1, ui l s y) := by
  unfold f_Spread_join_j54
  rw [gi_eq hs]
  exact j_62 (F := F) hs hc hm e1 _
theorem j_38 (hs : 0 ≤ s ∧ s < 96) (hc : 0 ≤ c s ∧ c s ≤ 4001) (hm : 0 ≤ more ∧ more ≤ 4001) (hy : -2147483648 ≤ y ∧ y ≤ 2147483647) {q : Int} (hq : q = 0 ∨ q = 1) (hl : q = 0 → -2147483648 ≤ l s ∧ l s ≤ 2147483647) (e1 : Int → Int) : f_Spread_join_j38 F c l s more y q e1 = some (ui c s (min (c s + more) 4001), e1, ui l s (if q = 1 ∨ l s < y then y else l s)) := by
  unfold f_Spread_join_j38
  rw [gr_eq ⟨by omega, by omega⟩]
  rcases hq with rfl | rfl
  · have := hl rfl
    rw [if_pos rfl, gi_eq hs, gr_eq hy, gr_eq this]
    by_cases h : y ≤ l s
    · rw [if_pos h, if_neg (by omega), ui_id]
      exact j_62 hs hc hm e1 l
    · rw [if_neg h, if_pos (Or.inr (by omega))]
      exact j_54 hs hc hm e1
  · rw [if_neg (by omega), if_pos (Or.inl rfl)]
    exact j_54 hs hc hm e1
theorem j_14 (hs : 0 ≤ s ∧ s < 96) (hc : 0 ≤ c s ∧ c s ≤ 4001) (hm : 0 ≤ more ∧ more ≤ 4001) (hx : -2147483648 ≤ x ∧ x ≤ 2147483647) (hy : -2147483648 ≤ y ∧ y ≤ 2147483647) {q : Int} (hq : q = 0 ∨ q = 1) (he : q = 0 → (-2147483648 ≤ e s ∧ e s ≤ 2147483647) ∧ (-2147483648 ≤ l s ∧ l s ≤ 2147483647)) : f_Spread_join_j14 F c e l s more x y q = some (ui c s (min (c s + more) 4001), ui e s (if q = 1 ∨ x < e s then x else e s), ui l s (if q = 1 ∨ l s < y then y else l s)) := by
  have h31 : f_Spread_join_j31 F c e l s more x y q = some (ui c s (min (c s + more) 4001), ui e s x, ui l s (if q = 1 ∨ l s < y then y else l s)) := by
    unfold f_Spread_join_j31
    rw [gi_eq hs]
    exact j_38 (F := F) hs hc hm hy hq (fun z => (he z).2) _
  unfold f_Spread_join_j14
  rw [gr_eq ⟨by omega, by omega⟩]
  rcases hq with rfl | rfl
  · have := he rfl
    rw [if_pos rfl, gi_eq hs, gr_eq hx, gr_eq this.1]
    by_cases h : e s ≤ x
    · rw [if_pos h, if_neg (show ¬ ((0 : Int) = 1 ∨ x < e s) by omega), ui_id e]
      exact j_38 hs hc hm hy (Or.inl rfl) (fun z => (he z).2) _
    · rw [if_neg h, if_pos (show (0 : Int) = 1 ∨ x < e s from Or.inr (by omega))]
      exact h31
  · rw [if_neg (show ¬ (1 : Int) = 0 by omega), if_pos (show (1 : Int) = 1 ∨ x < e s from Or.inl rfl)]
    exact h31
theorem e_join (hs : 0 ≤ s ∧ s < 96) (hc : 0 ≤ c s ∧ c s ≤ 4001) (hm : 0 ≤ more ∧ more ≤ 4001) (hx : -2147483648 ≤ x ∧ x ≤ 2147483647) (hy : -2147483648 ≤ y ∧ y ≤ 2147483647) (he : c s ≠ 0 → (-2147483648 ≤ e s ∧ e s ≤ 2147483647) ∧ (-2147483648 ≤ l s ∧ l s ≤ 2147483647)) :
    f_Spread_join F c e l s more x y = some (ui c s (min (c s + more) 4001), ui e s (if c s = 0 ∨ x < e s then x else e s), ui l s (if c s = 0 ∨ l s < y then y else l s)) := by
  unfold f_Spread_join
  rw [gi_eq hs, gr_eq ⟨by omega, by omega⟩]
  by_cases h : c s = 0
  · rw [if_pos h, j_14 hs hc hm hx hy (Or.inr rfl) (fun z => by omega), if_pos (Or.inl rfl), if_pos (Or.inl rfl), if_pos (Or.inl h), if_pos (Or.inl h)]
  · rw [if_neg h, j_14 hs hc hm hx hy (Or.inl rfl) (fun _ => he h)]
    have e1 : (if (0 : Int) = 1 ∨ x < e s then x else e s) = (if c s = 0 ∨ x < e s then x else e s) := by
      by_cases q : x < e s
      · rw [if_pos (Or.inr q), if_pos (Or.inr q)]
      · rw [if_neg (by omega), if_neg (by omega)]
    have e2 : (if (0 : Int) = 1 ∨ l s < y then y else l s) = (if c s = 0 ∨ l s < y then y else l s) := by
      by_cases q : l s < y
      · rw [if_pos (Or.inr q), if_pos (Or.inr q)]
      · rw [if_neg (by omega), if_neg (by omega)]
    rw [e1, e2]
end JN
/-- arrays that hold the values of each state -/
def RV (cap : Int) (V : Int → List (Int × Int)) (c e l : Int → Int) : Prop := ∀ s, 0 ≤ s → s < 96 → agg cap (V s) (c s) (e s) (l s)
def bnd (V : Int → List (Int × Int)) (lo B : Int) : Prop := ∀ s, ∀ v ∈ V s, (lo ≤ v.1 ∧ v.1 ≤ B) ∧ (lo ≤ v.2 ∧ v.2 ≤ B)
theorem bnd_up {V : Int → List (Int × Int)} {lo B B' : Int} (h : bnd V lo B) (hB : B ≤ B') : bnd V lo B' := fun s v hv => by
  have := h s v hv
  omega
theorem agg_in {cap lo B : Int} (hcap : 0 < cap) {V : Int → List (Int × Int)} {s c e l : Int} (h : agg cap (V s) c e l) (hb : bnd V lo B) (h0 : c ≠ 0) : (lo ≤ e ∧ e ≤ B) ∧ (lo ≤ l ∧ l ≤ B) := by
  have hn : V s ≠ [] := fun q => h0 ((agg_0 hcap h).mpr q)
  obtain ⟨⟨h1, -⟩, ⟨h2, -⟩⟩ := h.2 hn
  obtain ⟨v, v1, v2⟩ := List.mem_map.mp h1
  obtain ⟨w, w1, w2⟩ := List.mem_map.mp h2
  have a := hb s v v1
  have b := hb s w w1
  omega
theorem shf_ne {a b : Int} {l : List (Int × Int)} (h : l ≠ []) : shf a b l ≠ [] := fun q => h (List.map_eq_nil_iff.mp q)
section SPR
variable {kd pn so se wE wL gE gL : Int → Int}
theorem stV_nil {n p was is : Int} {V : Int → List (Int × Int)} (h : V (2 * so (3 * n + p) + was) = []) : stV so se wE wL gE gL n p was is V = V := by
  unfold stV
  by_cases h1 : so (3 * n + p) < 0
  · rw [if_pos h1]
  · rw [if_neg h1]
    by_cases h2 : ltz (se (3 * n + p)) was is = true
    · rw [if_pos h2]
      funext j
      show (if j = 2 * n + is then _ else _) = _
      by_cases h3 : j = 2 * n + is
      · rw [if_pos h3, h]
        exact List.append_nil _
      · rw [if_neg h3]
    · rw [if_neg h2]
theorem stV_neg {n p was is : Int} {V : Int → List (Int × Int)} (h : so (3 * n + p) < 0) : stV so se wE wL gE gL n p was is V = V := by
  unfold stV
  rw [if_pos h]
theorem stV_not {n p was is : Int} {V : Int → List (Int × Int)} (h : ltz (se (3 * n + p)) was is ≠ true) : stV so se wE wL gE gL n p was is V = V := by
  unfold stV
  by_cases h1 : so (3 * n + p) < 0
  · rw [if_pos h1]
  · rw [if_neg h1, if_neg h]
theorem stV_yes {n p was is : Int} {V : Int → List (Int × Int)} (h0 : ¬ so (3 * n + p) < 0) (h : ltz (se (3 * n + p)) was is = true) : stV so se wE wL gE gL n p was is V = fun j => if j = 2 * n + is then V j ++ shf (wE (3 * n + p) + gE (2 * (3 * n + p) + is)) (wL (3 * n + p) + gL (2 * (3 * n + p) + is)) (V (2 * so (3 * n + p) + was)) else V j := by
  unfold stV
  rw [if_neg h0, if_pos h]
theorem bnd_st (hw : ∀ i, 0 ≤ wE i ∧ wE i ≤ wL i ∧ wL i ≤ 10000) (hg : ∀ i, 0 ≤ gE i ∧ gE i ≤ gL i ∧ gL i ≤ 10000) {n p was is lo B : Int} {V : Int → List (Int × Int)} (h : bnd V lo B) : bnd (stV so se wE wL gE gL n p was is V) lo (B + 20000) := by
  by_cases h0 : so (3 * n + p) < 0
  · rw [stV_neg h0]; exact bnd_up h (by omega)
  · by_cases h1 : ltz (se (3 * n + p)) was is = true
    · rw [stV_yes h0 h1]
      intro s v hv
      have hv' : v ∈ (if s = 2 * n + is then V s ++ shf (wE (3 * n + p) + gE (2 * (3 * n + p) + is)) (wL (3 * n + p) + gL (2 * (3 * n + p) + is)) (V (2 * so (3 * n + p) + was)) else V s) := hv
      by_cases e : s = 2 * n + is
      · rw [if_pos e] at hv'
        rcases List.mem_append.mp hv' with q | q
        · have := h s v q; omega
        · unfold shf at q
          obtain ⟨w, q1, q2⟩ := List.mem_map.mp q
          have a := h _ w q1
          have b := hw (3 * n + p)
          have c := hg (2 * (3 * n + p) + is)
          rw [← q2]
          show (lo ≤ w.1 + _ ∧ w.1 + _ ≤ B + 20000) ∧ (lo ≤ w.2 + _ ∧ w.2 + _ ≤ B + 20000)
          omega
      · rw [if_neg e] at hv'
        have := h s v hv'; omega
    · rw [stV_not h1]; exact bnd_up h (by omega)
/-- the first k of a pin's four steps -/
def stk (so se wE wL gE gL : Int → Int) (n p : Int) (V : Int → List (Int × Int)) : Nat → Int → List (Int × Int)
  | 0 => V
  | k + 1 => stV so se wE wL gE gL n p ((k / 2 : Nat) : Int) ((k % 2 : Nat) : Int) (stk so se wE wL gE gL n p V k)
theorem stk_4 (n p : Int) (V : Int → List (Int × Int)) : stk so se wE wL gE gL n p V 4 = pnV so se wE wL gE gL n p V := rfl
theorem bnd_stk (hw : ∀ i, 0 ≤ wE i ∧ wE i ≤ wL i ∧ wL i ≤ 10000) (hg : ∀ i, 0 ≤ gE i ∧ gE i ≤ gL i ∧ gL i ≤ 10000) {n p lo B : Int} {V : Int → List (Int × Int)} (h : bnd V lo B) : ∀ k : Nat, bnd (stk so se wE wL gE gL n p V k) lo (B + 20000 * k) := by
  intro k
  induction k with
  | zero => exact bnd_up h (by omega)
  | succ k ih => exact bnd_up (bnd_st hw hg ih) (by omega)
theorem s_spreadBy {F : Nat} (hF : 10 ≤ F) (hs : ∀ i, -1 ≤ so i ∧ so i < 48) (hse : ∀ i, 0 ≤ se i ∧ se i ≤ 2) (hw : ∀ i, 0 ≤ wE i ∧ wE i ≤ wL i ∧ wL i ≤ 10000) (hg : ∀ i, 0 ≤ gE i ∧ gE i ≤ gL i ∧ gL i ≤ 10000) {n p lo B : Int} (hn : 0 ≤ n ∧ n < 48) (hp : 0 ≤ p ∧ p < 3) {V : Int → List (Int × Int)} {c e l : Int → Int} (hR : RV 4001 V c e l) (hb : bnd V lo B) (hlo : -1000000000 ≤ lo) (hB : B ≤ 1000000000) :
    ok (f_Spread_spreadBy F c e l so wE wL se gE gL n p) (fun r => RV 4001 (pnV so se wE wL gE gL n p V) r.1 r.2.1 r.2.2) := by
  unfold f_Spread_spreadBy
  refine ok_bd.mpr ?_
  rw [show n * 3 + p = 3 * n + p by omega]
  have h1 := hs (3 * n + p)
  refine ok_gi ⟨by omega, by omega⟩ (ok_gr ⟨by omega, by omega⟩ (ok_if (fun h2 => ?_) (fun h2 => ?_)))
  · refine lq4_ok (fun (v : Int) c e l => (0 ≤ v ∧ v ≤ 2) ∧ RV 4001 (stk so se wE wL gE gL n p V (2 * v.toNat)) c e l) (fun v _ _ _ => (2 - v).toNat) _ ?_ F 0 c e l ⟨by omega, hR⟩ (by show (2 - (0 : Int)).toNat < F; omega)
    clear hR c e l
    rintro self v c e l ⟨hv, hR⟩ hs1
    unfold f_Spread_spreadBy_b22
    refine ok_gr ⟨by omega, by omega⟩ (ok_if (fun h3 => ?_) (fun h3 => ?_))
    · have e2 : v = 2 := by omega
      subst e2
      refine ok_some.mpr ?_
      show RV 4001 _ c e l
      rw [← stk_4]
      exact hR
    · refine ok_gi ⟨by omega, by omega⟩ (ok_bd.mpr ?_)
      refine lq4_ok (fun (j : Int) c e l => (0 ≤ j ∧ j ≤ 2) ∧ RV 4001 (stk so se wE wL gE gL n p V (2 * v.toNat + j.toNat)) c e l) (fun j _ _ _ => (2 - j).toNat) _ ?_ F 0 c e l ⟨by omega, hR⟩ (by show (2 - (0 : Int)).toNat < F; omega)
      clear hR c e l
      rintro self2 j c e l ⟨hj, hR⟩ hs2
      have hbk := bnd_stk (so := so) (se := se) hw hg (n := n) (p := p) hb (2 * v.toNat + j.toNat)
      have hout : RV 4001 (stk so se wE wL gE gL n p V (2 * v.toNat + 2)) c e l → ok (self (v + 1) c e l) (fun r => RV 4001 (pnV so se wE wL gE gL n p V) r.1 r.2.1 r.2.2) := by
        intro q
        refine hs1 _ _ _ _ ⟨by omega, ?_⟩ (by show (2 - (v + 1)).toNat < (2 - v).toNat; omega)
        rw [show 2 * (v + 1).toNat = 2 * v.toNat + 2 by omega]
        exact q
      have hst : ∀ k : Nat, k < 2 → stk so se wE wL gE gL n p V (2 * v.toNat + k + 1) = stV so se wE wL gE gL n p v k (stk so se wE wL gE gL n p V (2 * v.toNat + k)) := by
        intro k hk
        show stV so se wE wL gE gL n p (((2 * v.toNat + k) / 2 : Nat) : Int) (((2 * v.toNat + k) % 2 : Nat) : Int) _ = _
        rw [show (((2 * v.toNat + k) / 2 : Nat) : Int) = v by omega, show (((2 * v.toNat + k) % 2 : Nat) : Int) = (k : Int) by omega]
      unfold f_Spread_spreadBy_b47
      refine ok_gr ⟨by omega, by omega⟩ (ok_if (fun h4 => ?_) (fun h4 => ?_))
      · refine hout ?_
        have e2 : j = 2 := by omega
        subst e2
        exact hR
      · have hf := hR (2 * so (3 * n + p) + v) (by omega) (by omega)
        have hfc := agg_c (by omega) hf
        refine ok_gi ⟨by omega, by omega⟩ (ok_gr ⟨by omega, by omega⟩ (ok_if (fun h5 => ?_) (fun h5 => ?_)))
        · refine hout ?_
          have hnil := (agg_0 (by omega) hf).mp (by omega)
          rcases (show j = 0 ∨ j = 1 by omega) with q | q
          · subst q
            have hnil0 : stk so se wE wL gE gL n p V (2 * v.toNat + 0) (2 * so (3 * n + p) + v) = [] := hnil
            have a1 := hst 0 (by omega)
            have a2 := hst 1 (by omega)
            rw [stV_nil hnil0] at a1
            have a3 : stk so se wE wL gE gL n p V (2 * v.toNat + 0 + 1) = stk so se wE wL gE gL n p V (2 * v.toNat + 0) := a1
            rw [stV_nil (by rw [show 2 * v.toNat + 1 = 2 * v.toNat + 0 + 1 from rfl, a3]; exact hnil0)] at a2
            rw [show 2 * v.toNat + 2 = 2 * v.toNat + 1 + 1 from rfl, a2, show 2 * v.toNat + 1 = 2 * v.toNat + 0 + 1 from rfl, a3]
            exact hR
          · subst q
            have hnil0 : stk so se wE wL gE gL n p V (2 * v.toNat + 1) (2 * so (3 * n + p) + v) = [] := hnil
            have a2 := hst 1 (by omega)
            rw [stV_nil hnil0] at a2
            rw [show 2 * v.toNat + 2 = 2 * v.toNat + 1 + 1 from rfl, a2]
            exact hR
        · rw [e_lets hse (by omega) (by omega) (by omega), ob1_s, e_stepEarly (by omega) (by omega), ob1_s, e_stepLate (by omega) (by omega), ob1_s]
          have z1 := bz_1 (ltz (se (3 * n + p)) v j = true)
          have z2 := bz_01 (ltz (se (3 * n + p)) v j = true)
          have hmeas : (2 - (j + 1)).toNat < (2 - j).toNat := by omega
          have hj2 : ((j.toNat : Nat) : Int) = j := by omega
          have hs3 := hst j.toNat (by omega)
          rw [hj2] at hs3
          have hnext : 2 * v.toNat + (j + 1).toNat = 2 * v.toNat + j.toNat + 1 := by omega
          refine ok_gr ⟨by omega, by omega⟩ (ok_if (fun h6 => ?_) (fun h6 => ?_))
          · refine hs2 _ _ _ _ ⟨by omega, ?_⟩ hmeas
            rw [hnext, hs3, stV_not (fun q => by have := z1.mpr q; omega)]
            exact hR
          · have hl : ltz (se (3 * n + p)) v j = true := z1.mp (by omega)
            have hin := agg_in (by omega) hf hbk (by omega)
            have hwp := hw (3 * n + p)
            have hgp := hg (2 * (3 * n + p) + j)
            have ht := hR (2 * n + j) (by omega) (by omega)
            have htc := agg_c (by omega) ht
            refine ok_gi ⟨by omega, by omega⟩ (ok_gi ⟨by omega, by omega⟩ (ok_gi ⟨by omega, by omega⟩ ?_))
            rw [e_join (by omega) htc hfc (by omega) (by omega) (fun q => by have := agg_in (by omega) ht hbk q; omega), ob3_s]
            refine hs2 _ _ _ _ ⟨by omega, fun s s1 s2 => ?_⟩ hmeas
            rw [hnext, hs3, stV_yes (by omega) hl]
            show agg 4001 (if s = 2 * n + j then _ else _) _ _ _
            rw [ui_e, ui_e, ui_e]
            by_cases es : s = 2 * n + j
            · rw [if_pos es, if_pos es, if_pos es, if_pos es, es]
              exact agg_join (by omega) ht (agg_shf _ _ hf) (shf_ne (fun q => by have := (agg_0 (by omega) hf).mpr q; omega))
            · rw [if_neg es, if_neg es, if_neg es, if_neg es]
              exact hR s s1 s2
  · refine ok_some.mpr ?_
    show RV 4001 (pnV so se wE wL gE gL n p V) c e l
    unfold pnV
    rw [stV_neg (by omega), stV_neg (by omega), stV_neg (by omega), stV_neg (by omega)]
    exact hR
theorem bnd_pn (hw : ∀ i, 0 ≤ wE i ∧ wE i ≤ wL i ∧ wL i ≤ 10000) (hg : ∀ i, 0 ≤ gE i ∧ gE i ≤ gL i ∧ gL i ≤ 10000) {n p lo B : Int} {V : Int → List (Int × Int)} (h : bnd V lo B) : bnd (pnV so se wE wL gE gL n p V) lo (B + 80000) := by
  rw [← stk_4]
  exact bnd_up (bnd_stk hw hg h 4) (by omega)
theorem bnd_pns (hw : ∀ i, 0 ≤ wE i ∧ wE i ≤ wL i ∧ wL i ≤ 10000) (hg : ∀ i, 0 ≤ gE i ∧ gE i ≤ gL i ∧ gL i ≤ 10000) {n lo : Int} : ∀ (L : List Int) (V : Int → List (Int × Int)) (B : Int), bnd V lo B → bnd (L.foldl (fun V p => pnV so se wE wL gE gL n p V) V) lo (B + 80000 * L.length) := by
  intro L
  induction L with
  | nil => intro V B h; exact bnd_up h (by simp)
  | cons p L ih =>
    intro V B h
    rw [List.foldl_cons]
    refine bnd_up (ih _ _ (bnd_pn hw hg h)) ?_
    rw [List.length_cons]
    omega
theorem bnd_gt (hw : ∀ i, 0 ≤ wE i ∧ wE i ≤ wL i ∧ wL i ≤ 10000) (hg : ∀ i, 0 ≤ gE i ∧ gE i ≤ gL i ∧ gL i ≤ 10000) (hp : ∀ i, 0 ≤ pn i ∧ pn i ≤ 3) {n lo B : Int} {V : Int → List (Int × Int)} (h : bnd V lo B) : bnd (gtV pn so se wE wL gE gL n V) lo (B + 240000) := by
  refine bnd_up (bnd_pns hw hg (pinl (pn n)) V B h) ?_
  have h1 : (pinl (pn n)).length = (pn n).toNat := by unfold pinl; rw [List.length_map, List.length_range]
  have h2 := hp n
  rw [h1]
  omega
/-- all gates of an order -/
def fG (pn so se wE wL gE gL : Int → Int) (os : List Int) (V : Int → List (Int × Int)) : Int → List (Int × Int) := os.foldl (fun V n => gtV pn so se wE wL gE gL n V) V
theorem bnd_fG (hw : ∀ i, 0 ≤ wE i ∧ wE i ≤ wL i ∧ wL i ≤ 10000) (hg : ∀ i, 0 ≤ gE i ∧ gE i ≤ gL i ∧ gL i ≤ 10000) (hp : ∀ i, 0 ≤ pn i ∧ pn i ≤ 3) {lo : Int} : ∀ (os : List Int) (V : Int → List (Int × Int)) (B : Int), bnd V lo B → bnd (fG pn so se wE wL gE gL os V) lo (B + 240000 * os.length) := by
  intro os
  induction os with
  | nil => intro V B h; exact bnd_up h (by simp)
  | cons n os ih =>
    intro V B h
    show bnd (fG pn so se wE wL gE gL os (gtV pn so se wE wL gE gL n V)) lo _
    refine bnd_up (ih _ _ (bnd_gt hw hg hp h)) ?_
    rw [List.length_cons]
    omega
theorem lst_snoc {A : Int → Int} {n : Int} (h : 0 ≤ n) : lst A (n + 1) = lst A n ++ [A n] := by
  unfold lst
  rw [pinl_succ h, List.map_append]
  rfl
theorem fG_snoc (os : List Int) (n : Int) (V : Int → List (Int × Int)) : fG pn so se wE wL gE gL (os ++ [n]) V = gtV pn so se wE wL gE gL n (fG pn so se wE wL gE gL os V) := by
  unfold fG
  rw [List.foldl_append]
  rfl
theorem s_spread {F : Nat} (hF : 100 ≤ F) (hs : ∀ i, -1 ≤ so i ∧ so i < 48) (hse : ∀ i, 0 ≤ se i ∧ se i ≤ 2) (hw : ∀ i, 0 ≤ wE i ∧ wE i ≤ wL i ∧ wL i ≤ 10000) (hg : ∀ i, 0 ≤ gE i ∧ gE i ≤ gL i ∧ gL i ≤ 10000) (hp : ∀ i, 0 ≤ pn i ∧ pn i ≤ 3) {G : Int → Int} {cn lo B : Int} (hcn : 0 ≤ cn ∧ cn ≤ 48) (hG : ∀ n ∈ lst G cn, 0 ≤ n ∧ n < 48) {V : Int → List (Int × Int)} {c e l : Int → Int} (hR : RV 4001 V c e l) (hb : bnd V lo B) (hlo : -1000000000 ≤ lo) (hB : B ≤ 900000000) :
    ok (f_Spread_spread F c e l cn G pn so wE wL se gE gL) (fun r => RV 4001 (fG pn so se wE wL gE gL (lst G cn) V) r.1 r.2.1 r.2.2) := by
  unfold f_Spread_spread
  refine lq4_ok (fun (v : Int) c e l => (0 ≤ v ∧ v ≤ cn) ∧ RV 4001 (fG pn so se wE wL gE gL (lst G v) V) c e l) (fun v _ _ _ => (48 - v).toNat) _ ?_ F 0 c e l ⟨by omega, hR⟩ (by show (48 - (0 : Int)).toNat < F; omega)
  clear hR c e l
  rintro self v c e l ⟨hv, hR⟩ hs1
  unfold f_Spread_spread_b2
  refine ok_gr ⟨by omega, by omega⟩ (ok_gr ⟨by omega, by omega⟩ (ok_if (fun h => ?_) (fun h => ?_)))
  · have e2 : v = cn := by omega
    subst e2
    exact ok_some.mpr hR
  · refine ok_gi ⟨by omega, by omega⟩ (ok_bd.mpr ?_)
    have hn := hG (G v) (lst_mem.mpr ⟨v, by omega, rfl⟩)
    have hpn := hp (G v)
    have hbv := bnd_fG (so := so) (se := se) hw hg hp (lst G v) V B hb
    rw [lst_len] at hbv
    refine lq4_ok (fun (p : Int) c e l => (0 ≤ p ∧ p ≤ pn (G v)) ∧ RV 4001 ((pinl p).foldl (fun V p => pnV so se wE wL gE gL (G v) p V) (fG pn so se wE wL gE gL (lst G v) V)) c e l) (fun p _ _ _ => (3 - p).toNat) _ ?_ F 0 c e l ⟨by omega, hR⟩ (by show (3 - (0 : Int)).toNat < F; omega)
    clear hR c e l
    rintro self2 p c e l ⟨hpp, hR⟩ hs2
    unfold f_Spread_spread_b25
    refine ok_gi ⟨by omega, by omega⟩ (ok_gr ⟨by omega, by omega⟩ (ok_gr ⟨by omega, by omega⟩ (ok_if (fun h2 => ?_) (fun h2 => ?_))))
    · have e2 : p = pn (G v) := by omega
      subst e2
      refine hs1 _ _ _ _ ⟨by omega, ?_⟩ (by show (48 - (v + 1)).toNat < (48 - v).toNat; omega)
      rw [lst_snoc hv.1, fG_snoc]
      exact hR
    · have hbp := bnd_pns (so := so) (se := se) hw hg (n := G v) (pinl p) _ _ hbv
      have hlp : (pinl p).length = p.toNat := by unfold pinl; rw [List.length_map, List.length_range]
      rw [hlp] at hbp
      refine ok_ob3 (s_spreadBy (by omega) hs hse hw hg hn (by omega) hR hbp hlo (by omega)) (fun c2 e2 l2 hr => ?_)
      refine hs2 _ _ _ _ ⟨by omega, ?_⟩ (by show (3 - (p + 1)).toNat < (3 - p).toNat; omega)
      rw [pinl_succ hpp.1, List.foldl_append]
      exact hr
end SPR
