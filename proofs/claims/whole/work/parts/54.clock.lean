/-! the clock's words; too many of them -/
theorem e_fill {F n : Nat} {A : Int → Int} {v : Int} (hn : n ≤ 1000) (hF : n < F) : f_Arrays_fill F A n v = some (fun (i : Int) => if 0 ≤ i ∧ i < (n : Int) then v else A i) := by
  apply ok_eq
  unfold f_Arrays_fill
  refine ok_gn (by omega) (ok_bd.mpr ?_)
  refine lq2_ok (fun (k : Int) B => (0 ≤ k ∧ k ≤ n) ∧ B = (fun (i : Int) => if 0 ≤ i ∧ i < k then v else A i)) (fun k _ => ((n : Int) - k).toNat) _ ?_ F 0 A ⟨by omega, ?_⟩ (by show ((n : Int) - 0).toNat < F; omega)
  · rintro self k B ⟨hk, rfl⟩ hs
    unfold f_Arrays_fill_b5
    refine ok_gr ⟨by omega, by omega⟩ (ok_gr ⟨by omega, by omega⟩ (ok_if (fun h => ?_) (fun h => ?_)))
    · have e : k = n := by omega
      subst e
      exact ok_some.mpr rfl
    · refine ok_gi ⟨by omega, by omega⟩ (ok_bd.mpr (hs _ _ ⟨by omega, ?_⟩ (by show ((n : Int) - (k + 1)).toNat < ((n : Int) - k).toNat; omega)))
      funext i
      rw [ui_e]
      by_cases e : i = k
      · rw [if_pos e, if_pos (by omega)]
      · rw [if_neg e]
        show (if 0 ≤ i ∧ i < k then v else A i) = _
        by_cases e2 : 0 ≤ i ∧ i < k
        · rw [if_pos e2, if_pos (by omega)]
        · rw [if_neg e2, if_neg (by omega)]
  · funext i
    rw [if_neg (by omega)]
theorem e_clear {F : Nat} {A : Int → Int} (hF : 100 ≤ F) : f_Spread_clear F A = some (fun (i : Int) => if 0 ≤ i ∧ i < 96 then 0 else A i) := by
  unfold f_Spread_clear
  rw [e_fill (by omega) (by omega), ob1_s]
  rfl
theorem RV_e {cap : Int} (hcap : 0 ≤ cap) {A e l : Int → Int} : RV cap (fun _ => []) (fun (i : Int) => if 0 ≤ i ∧ i < 96 then 0 else A i) e l := by
  intro s s1 s2
  show agg cap [] (if 0 ≤ s ∧ s < 96 then 0 else A s) _ _
  rw [if_pos ⟨s1, s2⟩]
  exact agg_nil hcap _ _
theorem agg_rep {cap more x y : Int} (hm : 1 ≤ more ∧ more ≤ cap) : agg cap (List.replicate more.toNat (x, y)) more x y := by
  refine ⟨by rw [List.length_replicate]; omega, fun _ => ⟨⟨?_, fun z hz => ?_⟩, ⟨?_, fun z hz => ?_⟩⟩⟩
  · rw [List.map_replicate]; exact List.mem_replicate.mpr ⟨by omega, rfl⟩
  · rw [List.map_replicate] at hz; rw [(List.mem_replicate.mp hz).2]; exact Int.le_refl _
  · rw [List.map_replicate]; exact List.mem_replicate.mpr ⟨by omega, rfl⟩
  · rw [List.map_replicate] at hz; rw [(List.mem_replicate.mp hz).2]; exact Int.le_refl _
/-- more values at one state -/
def Vadd (V : Int → List (Int × Int)) (s more x y : Int) : Int → List (Int × Int) := fun j => if j = s then V j ++ List.replicate more.toNat (x, y) else V j
theorem RV_add {cap : Int} (hcap : 0 < cap) {V : Int → List (Int × Int)} {c e l : Int → Int} {s more x y : Int} (hR : RV cap V c e l) (hs : 0 ≤ s ∧ s < 96) (hm : 1 ≤ more ∧ more ≤ cap) : RV cap (Vadd V s more x y) (ui c s (min (c s + more) cap)) (ui e s (if c s = 0 ∨ x < e s then x else e s)) (ui l s (if c s = 0 ∨ l s < y then y else l s)) := by
  intro j j1 j2
  unfold Vadd
  rw [ui_e, ui_e, ui_e]
  by_cases q : j = s
  · rw [if_pos q, if_pos q, if_pos q, if_pos q, q]
    exact agg_join hcap (hR s hs.1 hs.2) (agg_rep hm) (fun z => by
      have := congrArg List.length z
      rw [List.length_replicate] at this
      have h0 : ([] : List (Int × Int)).length = 0 := rfl
      omega)
  · rw [if_neg q, if_neg q, if_neg q, if_neg q]
    exact hR j j1 j2
theorem bnd_add {V : Int → List (Int × Int)} {lo B s more x y : Int} (h : bnd V lo B) (hx : lo ≤ x ∧ x ≤ B) (hy : lo ≤ y ∧ y ≤ B) : bnd (Vadd V s more x y) lo B := by
  intro j v hv
  unfold Vadd at hv
  by_cases q : j = s
  · rw [if_pos q] at hv
    rcases List.mem_append.mp hv with r | r
    · exact h j v r
    · rw [(List.mem_replicate.mp r).2]; exact ⟨hx, hy⟩
  · rw [if_neg q] at hv; exact h j v hv
theorem bnd_e (lo B : Int) : bnd (fun _ => []) lo B := fun s v hv => by cases hv
theorem V00_add : Vadd (Vadd (fun _ => []) 0 1 0 0) 1 1 0 0 = V00 := by
  funext j
  unfold Vadd V00
  by_cases e1 : j = 1
  · rw [if_pos e1, if_pos (Or.inr e1), if_neg (by omega)]; rfl
  · rw [if_neg e1]
    by_cases e0 : j = 0
    · rw [if_pos e0, if_pos (Or.inl e0)]; rfl
    · rw [if_neg e0, if_neg (by omega)]
theorem flat_len1 {α β : Type} {f : α → List β} : ∀ (l : List α), (∀ x ∈ l, (f x).length = 1) → (l.flatMap f).length = l.length := by
  intro l
  induction l with
  | nil => intro _; rfl
  | cons a l ih =>
    intro h
    rw [List.flatMap_cons, List.length_append, h a List.mem_cons_self, ih (fun x hx => h x (List.mem_cons_of_mem _ hx)), List.length_cons]
    omega
def isK (s : Int) : Bool := decide (s = 0 ∨ s = 1)
theorem isK_i (s : Int) : isK s = true ↔ s = 0 ∨ s = 1 := by unfold isK; exact decide_eq_true_iff
section CLK
variable {kd pn so se wE wL gE gL : Int → Int} {size : Int}
/-- the clock's words to a state -/
def BW (kd pn so se : Int → Int) (s : Int) : List (Int × List Int) := bw (insN kd pn so se) isK 49 s
def full (kd pn so se : Int → Int) (os : List Int) : Prop := SI kd pn so se os ∧ ∀ n, kd n = 2 → n ∈ os
theorem full_len (hz : size ≤ 48) (hkd : ∀ i, kd i ≠ 0 → 0 < i ∧ i < size) {os : List Int} (h : full kd pn so se os) : os.length ≤ 48 := SI_len hz hkd h.1
theorem full_rk (hz : size ≤ 48) (hkd : ∀ i, kd i ≠ 0 → 0 < i ∧ i < size) {os : List Int} (h : full kd pn so se os) : ∃ rk : Int → Nat, (∀ s et, et ∈ insN kd pn so se s → rk et.2 < rk s) ∧ ∀ s, rk s < 49 := by
  obtain ⟨rk, h1, h2, -⟩ := rk_of_topo h.1.1 h.2 (full_len hz hkd h)
  exact ⟨rk, h1, h2⟩
theorem ins_nil {s : Int} (h : kd (s / 2) ≠ 2) : insN kd pn so se s = [] := by
  unfold insN
  rw [if_neg h]
theorem fG_vs (hz : size ≤ 48) (hkd : ∀ i, kd i ≠ 0 → 0 < i ∧ i < size) {os : List Int} (h : full kd pn so se os) (I : Int → List (Int × Int)) (s : Int) : fG pn so se wE wL gE gL os I s = vs (insN kd pn so se) (dE wE gE) (dE wL gL) I 49 s := by
  obtain ⟨rk, h1, h2⟩ := full_rk hz hkd h
  refine fold_ok h1 h2 os I h.1.1 (fun s hs => ?_) (fun s _ => rfl) s
  rw [vs_rec h1 h2 s, ins_nil (fun q => hs (h.2 _ q)), List.flatMap_nil, List.append_nil]
theorem isK_nil (hk0 : kd 0 = 0) (s : Int) (h : isK s = true) : insN kd pn so se s = [] := by
  refine ins_nil (fun q => ?_)
  rw [isK_i] at h
  rw [show s / 2 = 0 by omega, hk0] at q
  omega
theorem V00_K (s : Int) (h : isK s = false) : V00 s = [] := by
  unfold V00
  rw [if_neg (fun q => by rw [(isK_i s).mpr q] at h; cases h)]
theorem BW_in (hz : size ≤ 48) (hkd : ∀ i, kd i ≠ 0 → 0 < i ∧ i < size) (hk0 : kd 0 = 0) {os : List Int} (h : full kd pn so se os) {s : Int} {w : Int × List Int} (hw : w ∈ BW kd pn so se s) : isK w.1 = true ∧ isW (insN kd pn so se) w.1 w.2 s := by
  obtain ⟨rk, h1, h2⟩ := full_rk hz hkd h
  exact (bw_mem h1 (isK_nil hk0) 49 s w.1 w.2 (h2 s)).mp hw
theorem BW_len (hz : size ≤ 48) (hkd : ∀ i, kd i ≠ 0 → 0 < i ∧ i < size) (hk0 : kd 0 = 0) {os : List Int} (h : full kd pn so se os) (s : Int) : (fG pn so se wE wL gE gL os V00 s).length = (BW kd pn so se s).length := by
  rw [fG_vs hz hkd h, vs_bw (isK_nil hk0) V00_K]
  refine flat_len1 _ (fun w hw => ?_)
  have h1 := (BW_in hz hkd hk0 h hw).1
  unfold shf V00
  rw [if_pos ((isK_i _).mp h1)]
  rfl
theorem BW_rec (hz : size ≤ 48) (hkd : ∀ i, kd i ≠ 0 → 0 < i ∧ i < size) {os : List Int} (h : full kd pn so se os) (s : Int) : BW kd pn so se s = if isK s then [(s, [])] else (insN kd pn so se s).flatMap (fun et => (BW kd pn so se et.2).map (fun w => (w.1, et.1 :: w.2))) := by
  obtain ⟨rk, h1, h2⟩ := full_rk hz hkd h
  exact bw_rec h1 h2 s
/-- a register with too many clock ways -/
def tang (kd pn so se : Int → Int) (n : Int) : Prop := kd n = 3 ∧ 0 ≤ so (3 * n + 1) ∧ 8 < (BW kd pn so se (2 * so (3 * n + 1))).length
theorem s_isTangled {F : Nat} {G c e l : Int → Int} {cn : Int} (hF : 200 ≤ F) (hz : 1 ≤ size ∧ size ≤ 48) (hk : ∀ i, 0 ≤ kd i ∧ kd i ≤ 4) (hkd : ∀ i, kd i ≠ 0 → 0 < i ∧ i < size) (hk0 : kd 0 = 0) (hs : ∀ i, -1 ≤ so i ∧ so i < size) (hse : ∀ i, 0 ≤ se i ∧ se i ≤ 2) (hw : ∀ i, 0 ≤ wE i ∧ wE i ≤ wL i ∧ wL i ≤ 10000) (hg : ∀ i, 0 ≤ gE i ∧ gE i ≤ gL i ∧ gL i ≤ 10000) (hp : ∀ i, 0 ≤ pn i ∧ pn i ≤ 3) (hcn : 0 ≤ cn ∧ cn ≤ 48) (hfu : full kd pn so se (lst G cn)) :
    ok (f_ClockWays_isTangled F c e l cn G size kd pn so wE wL se gE gL) (fun r => (r.1 = 1 ∧ ∃ n, (0 ≤ n ∧ n < size) ∧ tang kd pn so se n) ∨ (r.1 = 0 ∧ ∀ n, 0 ≤ n → n < size → ¬ tang kd pn so se n)) := by
  have hGn : ∀ n ∈ lst G cn, 0 ≤ n ∧ n < 48 := fun n hn => by
    have := hkd n (by rw [topo_kd _ hfu.1.1 n hn]; omega)
    omega
  unfold f_ClockWays_isTangled
  rw [e_clear (by omega), ob1_s]
  have hR0 : RV 4001 (fun _ => []) (fun (i : Int) => if 0 ≤ i ∧ i < 96 then 0 else c i) e l := RV_e (by omega)
  generalize (fun (i : Int) => if 0 ≤ i ∧ i < 96 then 0 else c i) = c0 at hR0
  have hb0 : bnd (fun _ => []) 0 0 := bnd_e 0 0
  rw [e_join (by omega) (agg_c (by omega) (hR0 0 (by omega) (by omega))) (by omega) (by omega) (by omega) (fun q => by have := agg_in (s := 0) (by omega) (hR0 0 (by omega) (by omega)) hb0 q; omega), ob3_s]
  have hR1 := RV_add (by omega) (x := 0) (y := 0) hR0 (s := 0) (by omega) (more := 1) (by omega)
  have hb1 := bnd_add (s := 0) (more := 1) hb0 (x := 0) (y := 0) (by omega) (by omega)
  rw [e_join (by omega) (agg_c (by omega) (hR1 1 (by omega) (by omega))) (by omega) (by omega) (by omega) (fun q => by have := agg_in (s := 1) (by omega) (hR1 1 (by omega) (by omega)) hb1 q; omega), ob3_s]
  have hR2 := RV_add (by omega) (x := 0) (y := 0) hR1 (s := 1) (by omega) (more := 1) (by omega)
  have hb2 := bnd_add (s := 1) (more := 1) hb1 (x := 0) (y := 0) (by omega) (by omega)
  rw [V00_add] at hR2 hb2
  refine ok_ob3 (s_spread (by omega) (fun i => by have := hs i; omega) hse hw hg hp hcn hGn hR2 hb2 (by omega) (by omega)) (fun c3 e3 l3 hR3 => ?_)
  have hcnt : ∀ s, 0 ≤ s → s < 96 → c3 s = min ((BW kd pn so se s).length : Int) 4001 := by
    intro s s1 s2
    rw [← BW_len (wE := wE) (wL := wL) (gE := gE) (gL := gL) hz.2 hkd hk0 hfu s]
    exact (hR3 s s1 s2).1
  refine lq1_ok (fun v => (0 ≤ v ∧ v ≤ size) ∧ ∀ n, 0 ≤ n → n < v → ¬ tang kd pn so se n) (fun v => (48 - v).toNat) _ ?_ F 0 ⟨by omega, fun n a b => by omega⟩ (by show (48 - (0 : Int)).toNat < F; omega)
  rintro self v ⟨hv, hI⟩ hs1
  have hmeas : (48 - (v + 1)).toNat < (48 - v).toNat ∨ size ≤ v := by omega
  unfold f_ClockWays_isTangled_b38
  refine ok_gr ⟨by omega, by omega⟩ (ok_gr ⟨by omega, by omega⟩ (ok_if (fun h => ?_) (fun h => ?_)))
  · exact ok_gb (Or.inl rfl) (ok_some.mpr (Or.inr ⟨rfl, fun n a b => hI n a (by omega)⟩))
  · rw [show v * 3 + 1 = 3 * v + 1 by omega]
    have hsv := hs (3 * v + 1)
    have hkv := hk v
    have hskip : ¬ tang kd pn so se v → ok (self (v + 1)) (fun r => (r.1 = 1 ∧ ∃ n, (0 ≤ n ∧ n < size) ∧ tang kd pn so se n) ∨ (r.1 = 0 ∧ ∀ n, 0 ≤ n → n < size → ¬ tang kd pn so se n)) := by
      intro q
      refine hs1 _ ⟨by omega, fun n a b => ?_⟩ (by show (48 - (v + 1)).toNat < (48 - v).toNat; omega)
      by_cases e : n = v
      · rw [e]; exact q
      · exact hI n a (by omega)
    refine ok_gi ⟨by omega, by omega⟩ (ok_bd.mpr (ok_gi ⟨by omega, by omega⟩ (ok_gr ⟨by omega, by omega⟩ (ok_if (fun h1 => ?_) (fun h1 => hskip (fun q => h1 q.1))))))
    refine ok_gr ⟨by omega, by omega⟩ (ok_if (fun h2 => hskip (fun q => by have := q.2.1; omega)) (fun h2 => ?_))
    have hc := hcnt (2 * so (3 * v + 1)) (by omega) (by omega)
    rw [Int.add_zero]
    refine ok_gi ⟨by omega, by omega⟩ (ok_gr ⟨by omega, by omega⟩ (ok_if (fun h3 => hskip (fun q => by have := q.2.2; omega)) (fun h3 => ?_)))
    exact ok_gb (Or.inr rfl) (ok_some.mpr (Or.inl ⟨rfl, v, by omega, h1, by omega, by omega⟩))
end CLK
