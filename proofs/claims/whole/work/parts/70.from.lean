/-! the class's data ways from one start -/
section FRM
variable {kd pn so se wE wL gE gL sE sL : Int → Int} {size : Int}
def VS (sE sL : Int → Int) (n k : Int) : Int → List (Int × Int) := Vadd (Vadd (fun _ => []) (2 * n) k (sE (2 * n)) (sL (2 * n))) (2 * n + 1) k (sE (2 * n + 1)) (sL (2 * n + 1))
theorem VS_at {n k s : Int} : VS sE sL n k s = if s / 2 = n then List.replicate k.toNat (sE s, sL s) else [] := by
  unfold VS Vadd
  by_cases h1 : s = 2 * n + 1
  · rw [if_pos h1, if_neg (by omega), if_pos (by omega), h1]
    rfl
  · rw [if_neg h1]
    by_cases h0 : s = 2 * n
    · rw [if_pos h0, if_pos (by omega), h0]
      rfl
    · rw [if_neg h0, if_neg (by omega)]
def isN (n s : Int) : Bool := decide (s / 2 = n)
/-- the data words from a node to a state -/
def DW (kd pn so se : Int → Int) (n s : Int) : List (Int × List Int) := bw (insN kd pn so se) (isN n) 49 s
theorem flat_rep {α β : Type} {f : α → List β} {k : Nat} : ∀ (l : List α), (∀ x ∈ l, (f x).length = k) → (l.flatMap f).length = l.length * k := by
  intro l
  induction l with
  | nil => intro _; rw [List.flatMap_nil]; show 0 = 0 * k; omega
  | cons a l ih =>
    intro h
    rw [List.flatMap_cons, List.length_append, h a List.mem_cons_self, ih (fun x hx => h x (List.mem_cons_of_mem _ hx)), List.length_cons, Nat.add_mul]
    omega
theorem isN_nil {n : Int} (hn : kd n ≠ 2) (s : Int) (h : isN n s = true) : insN kd pn so se s = [] := ins_nil (by rw [of_decide_eq_true h]; exact hn)
theorem VS_N {n k : Int} (s : Int) (h : isN n s = false) : VS sE sL n k s = [] := by
  rw [VS_at, if_neg (of_decide_eq_false h)]
theorem DW_mem (hz : size ≤ 48) (hkd : ∀ i, kd i ≠ 0 → 0 < i ∧ i < size) {os : List Int} (h : full kd pn so se os) {n : Int} (hn : kd n ≠ 2) (s x : Int) (w : List Int) : (x, w) ∈ DW kd pn so se n s ↔ x / 2 = n ∧ isW (insN kd pn so se) x w s := by
  obtain ⟨rk, h1, h2⟩ := full_rk hz hkd h
  unfold DW
  rw [bw_mem h1 (isN_nil hn) 49 s x w (h2 s)]
  unfold isN
  rw [decide_eq_true_iff]
theorem fG_len (hz : size ≤ 48) (hkd : ∀ i, kd i ≠ 0 → 0 < i ∧ i < size) {os : List Int} (h : full kd pn so se os) {n k : Int} (hn : kd n ≠ 2) (s : Int) : (fG pn so se wE wL gE gL os (VS sE sL n k) s).length = (DW kd pn so se n s).length * k.toNat := by
  rw [fG_vs hz hkd h, vs_bw (isN_nil hn) VS_N]
  refine flat_rep _ (fun w hw => ?_)
  have h1 := (DW_mem hz hkd h hn s w.1 w.2).mp hw
  unfold shf
  rw [List.length_map, VS_at, if_pos h1.1, List.length_replicate]
/-- a data way's delays -/
def dpv (kd pn so se wE wL gE gL sE sL : Int → Int) (n s : Int) (v : Int × Int) : Prop := ∃ x w, x / 2 = n ∧ isW (insN kd pn so se) x w s ∧ v = (sE x + sm (dE wE gE) w, sL x + sm (dE wL gL) w)
theorem fG_mem (hz : size ≤ 48) (hkd : ∀ i, kd i ≠ 0 → 0 < i ∧ i < size) {os : List Int} (h : full kd pn so se os) {n k : Int} (hk : 1 ≤ k) (s : Int) (v : Int × Int) : v ∈ fG pn so se wE wL gE gL os (VS sE sL n k) s ↔ dpv kd pn so se wE wL gE gL sE sL n s v := by
  obtain ⟨rk, h1, h2⟩ := full_rk hz hkd h
  rw [fG_vs hz hkd h, vs_mem h1 49 s v (h2 s)]
  constructor
  · rintro ⟨x, w, v0, a1, a2, a3⟩
    rw [VS_at] at a2
    by_cases q : x / 2 = n
    · rw [if_pos q] at a2
      have e := (List.mem_replicate.mp a2).2
      rw [e] at a3
      exact ⟨x, w, q, a1, a3⟩
    · rw [if_neg q] at a2; cases a2
  · rintro ⟨x, w, q, a1, a3⟩
    refine ⟨x, w, (sE x, sL x), a1, ?_, a3⟩
    rw [VS_at, if_pos q]
    exact List.mem_replicate.mpr ⟨by omega, rfl⟩
theorem bnd_VS (hsr : ∀ i, -1000000 ≤ sE i ∧ sE i ≤ sL i ∧ sL i ≤ 1000000) (n k : Int) : bnd (VS sE sL n k) (-1000000) 1000000 := by
  have a := hsr (2 * n)
  have b := hsr (2 * n + 1)
  exact bnd_add (bnd_add (bnd_e _ _) (by omega) (by omega)) (by omega) (by omega)
theorem s_spreadFrom {F : Nat} {G c e l : Int → Int} {cn n k : Int} (hF : 200 ≤ F) (hz : 1 ≤ size ∧ size ≤ 48) (hkd : ∀ i, kd i ≠ 0 → 0 < i ∧ i < size) (hs : ∀ i, -1 ≤ so i ∧ so i < size) (hse : ∀ i, 0 ≤ se i ∧ se i ≤ 2) (hw : ∀ i, 0 ≤ wE i ∧ wE i ≤ wL i ∧ wL i ≤ 10000) (hg : ∀ i, 0 ≤ gE i ∧ gE i ≤ gL i ∧ gL i ≤ 10000) (hsr : ∀ i, -1000000 ≤ sE i ∧ sE i ≤ sL i ∧ sL i ≤ 1000000) (hp : ∀ i, 0 ≤ pn i ∧ pn i ≤ 3) (hcn : 0 ≤ cn ∧ cn ≤ 48) (hfu : full kd pn so se (lst G cn)) (hn : 0 ≤ n ∧ n < size) (hk : 1 ≤ k ∧ k ≤ 8) :
    ok (f_Spread_spreadFrom F c e l cn G pn so wE wL se gE gL sE sL n k) (fun r => RV 4001 (fG pn so se wE wL gE gL (lst G cn) (VS sE sL n k)) r.1 r.2.1 r.2.2) := by
  have hGn : ∀ n ∈ lst G cn, 0 ≤ n ∧ n < 48 := fun n hn => by
    have := hkd n (by rw [topo_kd _ hfu.1.1 n hn]; omega)
    omega
  have s0 := hsr (2 * n)
  have s1 := hsr (2 * n + 1)
  unfold f_Spread_spreadFrom
  rw [e_clear (by omega), ob1_s]
  refine ok_bd.mpr ?_
  have hR0 : RV 4001 (fun _ => []) (fun (i : Int) => if 0 ≤ i ∧ i < 96 then 0 else c i) e l := RV_e (by omega)
  refine lq4_ok (fun (v : Int) c1 e1 l1 => (2 * n ≤ v ∧ v ≤ 2 * n + 2) ∧ (v = 2 * n → RV 4001 (fun _ => []) c1 e1 l1) ∧ (v = 2 * n + 1 → RV 4001 (Vadd (fun _ => []) (2 * n) k (sE (2 * n)) (sL (2 * n))) c1 e1 l1) ∧ (v = 2 * n + 2 → RV 4001 (VS sE sL n k) c1 e1 l1)) (fun v _ _ _ => (2 * n + 2 - v).toNat) _ ?_ F (2 * n) _ _ _ ⟨by omega, fun _ => hR0, fun q => by omega, fun q => by omega⟩ (by show (2 * n + 2 - 2 * n).toNat < F; omega)
  rintro self v c1 e1 l1 ⟨hv, h0, h1, h2⟩ hs1
  unfold f_Spread_spreadFrom_b8
  refine ok_gr ⟨by omega, by omega⟩ (ok_gr ⟨by omega, by omega⟩ (ok_if (fun h => ?_) (fun h => ?_)))
  · refine ok_ob3 (s_spread (by omega) (fun i => by have := hs i; omega) hse hw hg hp hcn hGn (h2 (by omega)) (bnd_VS hsr n k) (by omega) (by omega)) (fun a1 a2 a3 hr => ok_some.mpr hr)
  · refine ok_gi ⟨by omega, by omega⟩ (ok_gi ⟨by omega, by omega⟩ ?_)
    have hmeas : (2 * n + 2 - (v + 1)).toNat < (2 * n + 2 - v).toNat := by omega
    rcases (show v = 2 * n ∨ v = 2 * n + 1 by omega) with ev | ev
    · have hR := h0 ev
      subst ev
      rw [e_join (by omega) (agg_c (by omega) (hR (2 * n) (by omega) (by omega))) (by omega) (by omega) (by omega) (fun q => by have := agg_in (s := 2 * n) (by omega) (hR (2 * n) (by omega) (by omega)) (bnd_e 0 0) q; omega), ob3_s]
      exact hs1 _ _ _ _ ⟨by omega, fun q => by omega, fun _ => RV_add (by omega) hR (by omega) (by omega), fun q => by omega⟩ hmeas
    · have hR := h1 ev
      subst ev
      have hb := bnd_add (s := 2 * n) (more := k) (bnd_e (-1000000) 1000000) (x := sE (2 * n)) (y := sL (2 * n)) (by omega) (by omega)
      rw [e_join (by omega) (agg_c (by omega) (hR (2 * n + 1) (by omega) (by omega))) (by omega) (by omega) (by omega) (fun q => by have := agg_in (s := 2 * n + 1) (by omega) (hR (2 * n + 1) (by omega) (by omega)) hb q; omega), ob3_s]
      exact hs1 _ _ _ _ ⟨by omega, fun q => by omega, fun q => by omega, fun _ => RV_add (by omega) hR (by omega) (by omega)⟩ hmeas
end FRM
