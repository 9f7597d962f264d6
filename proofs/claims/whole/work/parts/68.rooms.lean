/-! what the clock ways of a start and of an end leave to the data between them: the class's rooms -/
/-- the least of some numbers, or FAR without one -/
def mnF (P : Int → Prop) (v : Int) : Prop := (v = 1000000000 ∧ ∀ x, ¬ P x) ∨ (P v ∧ (∀ x, P x → v ≤ x) ∧ v < 1000000000)
theorem mnF_0 {P : Int → Prop} (h : ∀ x, ¬ P x) : mnF P 1000000000 := Or.inl ⟨rfl, h⟩
theorem mnF_cg {P Q : Int → Prop} {v : Int} (h : ∀ x, P x ↔ Q x) (hm : mnF P v) : mnF Q v := by
  rcases hm with ⟨a, b⟩ | ⟨a, b, c⟩
  · exact Or.inl ⟨a, fun x q => b x ((h x).mpr q)⟩
  · exact Or.inr ⟨(h v).mp a, fun x q => b x ((h x).mpr q), c⟩
theorem mnF_add {P : Int → Prop} {v y : Int} (hm : mnF P v) (hy : y < 1000000000) : mnF (fun x => P x ∨ x = y) (min v y) := by
  right
  rcases hm with ⟨a, b⟩ | ⟨a, b, c⟩
  · rw [show min v y = y by omega]
    exact ⟨Or.inr rfl, fun x q => q.elim (fun r => absurd r (b x)) (fun r => by omega), hy⟩
  · by_cases q : v ≤ y
    · rw [Int.min_eq_left q]
      exact ⟨Or.inl a, fun x r => r.elim (b x) (fun t => by omega), c⟩
    · rw [Int.min_eq_right (by omega)]
      exact ⟨Or.inr rfl, fun x r => r.elim (fun t => by have := b x t; omega) (fun t => by omega), hy⟩
theorem mnF_r {P : Int → Prop} {v : Int} (hm : mnF P v) (hlo : ∀ x, P x → -100000000 ≤ x) : -100000000 ≤ v ∧ v ≤ 1000000000 := by
  rcases hm with ⟨a, b⟩ | ⟨a, b, c⟩
  · omega
  · have := hlo v a; omega
theorem lcp_len : ∀ l m : List Int, (lcp l m).length ≤ l.length := by
  intro l
  induction l with
  | nil => intro m; exact Nat.le_refl _
  | cons a l ih =>
    intro m
    cases m with
    | nil => exact Nat.zero_le _
    | cons b m =>
      show (if a = b then a :: lcp l m else []).length ≤ _
      by_cases h : a = b
      · rw [if_pos h, List.length_cons, List.length_cons]
        have := ih m
        omega
      · rw [if_neg h]; exact Nat.zero_le _
section ROOM
variable {kd pn so se wE wL gE gL : Int → Int} {size wid per : Int}
theorem crd_b (hz : size ≤ 48) (hkd : ∀ i, kd i ≠ 0 → 0 < i ∧ i < size) (hk0 : kd 0 = 0) (hw : ∀ i, 0 ≤ wE i ∧ wE i ≤ wL i ∧ wL i ≤ 10000) (hg : ∀ i, 0 ≤ gE i ∧ gE i ≤ gL i ∧ gL i ≤ 10000) {os : List Int} (hfu : full kd pn so se os) {n m : Int} {o o' : Option (Int × List Int)} (h : o ∈ wys kd pn so se n) : 0 ≤ crd (dE wE gE) (dE wL gL) wE wL n o m o' ∧ crd (dE wE gE) (dE wL gL) wE wL n o m o' ≤ 970000 := by
  rcases wys_48 hz hkd hk0 hfu h with q | ⟨w, q, q1, -⟩
  · rw [q]; show (0 : Int) ≤ 0 ∧ (0 : Int) ≤ 970000; omega
  · rw [q]
    cases o' with
    | none => show (0 : Int) ≤ 0 ∧ (0 : Int) ≤ 970000; omega
    | some w' =>
      have a := sm_b (a := fun e => dE wL gL e - dE wE gE e) (fun i => by
        show 0 ≤ dE wL gL i - dE wE gE i ∧ dE wL gL i - dE wE gE i ≤ 20000
        unfold dE
        have a := hw (3 * (i / 8) + i / 2 % 4)
        have b := hg (2 * (3 * (i / 8) + i / 2 % 4) + i % 2)
        omega) (lcp (rowW w) (rowW w')).tail
      have b := lcp_len (rowW w) (rowW w')
      rw [rowW_len] at b
      rw [List.length_tail] at a
      have c := hw (3 * n + 1)
      show 0 ≤ sm (fun e => dE wL gL e - dE wE gE e) (lcp (rowW w) (rowW w')).tail + (if n = m ∧ w = w' then wL (3 * n + 1) - wE (3 * n + 1) else 0) ∧ _ + (if n = m ∧ w = w' then wL (3 * n + 1) - wE (3 * n + 1) else 0) ≤ 970000
      by_cases z : n = m ∧ w = w'
      · rw [if_pos z]; omega
      · rw [if_neg z]; omega
def edg (per wid : Int) (o o' : Option (Int × List Int)) : Int := wbs wid o' + (if wbs wid o' ≤ wbs wid o then per else 0)
def srm (wE wL gE gL : Int → Int) (per wid n : Int) (o : Option (Int × List Int)) (m : Int) (o' : Option (Int × List Int)) : Int := edg per wid o o' + wdl wE gE m o' + crd (dE wE gE) (dE wL gL) wE wL n o m o' - wbs wid o - wdl wL gL n o
def hrm (wE wL gE gL : Int → Int) (per wid n : Int) (o : Option (Int × List Int)) (m : Int) (o' : Option (Int × List Int)) : Int := wbs wid o + wdl wE gE n o + crd (dE wE gE) (dE wL gL) wE wL n o m o' - edg per wid o o' - wdl wL gL m o' + per
theorem rm_b (hz : size ≤ 48) (hwid : 1 ≤ wid ∧ wid < per ∧ per ≤ 1000000) (hkd : ∀ i, kd i ≠ 0 → 0 < i ∧ i < size) (hk0 : kd 0 = 0) (hw : ∀ i, 0 ≤ wE i ∧ wE i ≤ wL i ∧ wL i ≤ 10000) (hg : ∀ i, 0 ≤ gE i ∧ gE i ≤ gL i ∧ gL i ≤ 10000) {os : List Int} (hfu : full kd pn so se os) {n m : Int} {o o' : Option (Int × List Int)} (h : o ∈ wys kd pn so se n) (h' : o' ∈ wys kd pn so se m) : (-9000000 ≤ srm wE wL gE gL per wid n o m o' ∧ srm wE wL gE gL per wid n o m o' ≤ 9000000) ∧ -9000000 ≤ hrm wE wL gE gL per wid n o m o' ∧ hrm wE wL gE gL per wid n o m o' ≤ 9000000 := by
  have a := crd_b hz hkd hk0 hw hg hfu (m := m) (o' := o') h
  have b1 := wdl_b (wE := wE) (gE := gE) hz hkd hk0 (fun i => by have := hw i; omega) (fun i => by have := hg i; omega) hfu h n
  have b2 := wdl_b (wE := wL) (gE := gL) hz hkd hk0 (fun i => by have := hw i; omega) (fun i => by have := hg i; omega) hfu h n
  have b3 := wdl_b (wE := wE) (gE := gE) hz hkd hk0 (fun i => by have := hw i; omega) (fun i => by have := hg i; omega) hfu h' m
  have b4 := wdl_b (wE := wL) (gE := gL) hz hkd hk0 (fun i => by have := hw i; omega) (fun i => by have := hg i; omega) hfu h' m
  have c1 := wbs_b hwid.1 o
  have c2 := wbs_b hwid.1 o'
  unfold srm hrm edg
  by_cases q : wbs wid o' ≤ wbs wid o
  · rw [if_pos q]; omega
  · rw [if_neg q]; omega
theorem e_measurePair {F : Nat} {a b : Int → Int} {sz : Int} {el pa ln ea la fi nx : Int → Int} {Wd : Int → Int × List Int} {Ch : Int → List Int} (hF : 200 ≤ F) (hz : size ≤ 48) (hwid : 1 ≤ wid ∧ wid < per ∧ per ≤ 1000000) (hkd : ∀ i, kd i ≠ 0 → 0 < i ∧ i < size) (hk0 : kd 0 = 0) (hw : ∀ i, 0 ≤ wE i ∧ wE i ≤ wL i ∧ wL i ≤ 10000) (hg : ∀ i, 0 ≤ gE i ∧ gE i ≤ gL i ∧ gL i ≤ 10000) {os : List Int} (hfu : full kd pn so se os) (hT : TR (dE wE gE) (dE wL gL) sz el pa ln ea la fi nx Wd Ch) (hinj : ∀ t u, 0 ≤ t → t < sz → 0 ≤ u → u < sz → Wd t = Wd u → t = u)
    {l ba e f S H : Int → Int} {n m : Int} {i j : Nat} {o o' : Option (Int × List Int)} {lm lf lh : Int} (hn : 0 ≤ n ∧ n < 48) (hm : 0 ≤ m ∧ m < 48) (hi : i < 8) (hj : j < 8) (h : o ∈ wys kd pn so se n) (h' : o' ∈ wys kd pn so se m)
    (c1 : isT sz Wd (l (8 * n + i)) o ∧ ba (8 * n + i) = wbs wid o ∧ e (8 * n + i) = wdl wE gE n o ∧ f (8 * n + i) = wdl wL gL n o) (c2 : isT sz Wd (l (8 * m + j)) o' ∧ ba (8 * m + j) = wbs wid o' ∧ e (8 * m + j) = wdl wE gE m o' ∧ f (8 * m + j) = wdl wL gL m o') (r1 : -100000000 ≤ lm ∧ lm ≤ 1000000000) (r2 : -100000000 ≤ lf ∧ lf ≤ 1000000000) (r3 : -100000000 ≤ lh ∧ lh ≤ 1000000000) :
    f_Rooms_measurePair F lm lf lh S H pa ln ea la l ba e f per wE wL n i m j = some (ui S (8 * i + j) (srm wE wL gE gL per wid n o m o'), ui H (8 * i + j) (hrm wE wL gE gL per wid n o m o'), (if wbs wid o' ≤ wbs wid o then min lm (srm wE wL gE gL per wid n o m o') else lm), (if wbs wid o' ≤ wbs wid o then lf else min lf (srm wE wL gE gL per wid n o m o')), min lh (hrm wE wL gE gL per wid n o m o')) := by
  have hb := rm_b hz hwid hkd hk0 hw hg hfu h h'
  have b1 := wbs_b hwid.1 o
  have b2 := wbs_b hwid.1 o'
  have hq1 : 0 ≤ 8 * n + (i : Int) ∧ 8 * n + (i : Int) < ((384 : Nat) : Int) := by omega
  have hq2 : 0 ≤ 8 * m + (j : Int) ∧ 8 * m + (j : Int) < ((384 : Nat) : Int) := by omega
  have hq3 : 0 ≤ 8 * (i : Int) + j ∧ 8 * (i : Int) + j < ((64 : Nat) : Int) := by omega
  have hcr := s_Ccredit (wE := wE) (wL := wL) hF hT hinj (las := l) (n := n) (i := i) (m := m) (j := j) hn hm (by omega) (by omega) c1.1 c2.1
  apply ok_eq
  unfold f_Rooms_measurePair
  rw [show n * 8 + (i : Int) = 8 * n + i by omega, show m * 8 + (j : Int) = 8 * m + j by omega, show (i : Int) * 8 + j = 8 * i + j by omega]
  refine ok_bd.mpr (ok_bd.mpr (ok_bd.mpr (ok_gi hq2 (ok_gi hq1 ?_))))
  rw [c1.2.1, c2.2.1]
  refine ok_gr ⟨by omega, by omega⟩ (ok_gr ⟨by omega, by omega⟩ ?_)
  have hfin : ∀ q0 q1, (q0 = 0 ∧ ¬ wbs wid o' ≤ wbs wid o ∧ q1 = 0) ∨ (q0 = 1 ∧ wbs wid o' ≤ wbs wid o ∧ q1 = per) → ok (f_Rooms_measurePair_j82 F lm lf lh S H pa ln ea la l ba e f per wE wL n i m j (8 * n + i) (8 * m + j) (8 * i + j) q0 q1) (fun z => z = (ui S (8 * i + j) (srm wE wL gE gL per wid n o m o'), ui H (8 * i + j) (hrm wE wL gE gL per wid n o m o'), (if wbs wid o' ≤ wbs wid o then min lm (srm wE wL gE gL per wid n o m o') else lm), (if wbs wid o' ≤ wbs wid o then lf else min lf (srm wE wL gE gL per wid n o m o')), min lh (hrm wE wL gE gL per wid n o m o'))) := by
    intro q0 q1 hq
    unfold f_Rooms_measurePair_j82
    rw [hcr, c1.2.1, c2.2.1, c1.2.2.1, c1.2.2.2, c2.2.2.1, c2.2.2.2]
    have hS : wbs wid o' + q1 + wdl wE gE m o' + crd (dE wE gE) (dE wL gL) wE wL n o m o' - wbs wid o - wdl wL gL n o = srm wE wL gE gL per wid n o m o' := by
      unfold srm edg
      rcases hq with ⟨-, q, r⟩ | ⟨-, q, r⟩
      · rw [if_neg q, r]
      · rw [if_pos q, r]
    have hH : wbs wid o + wdl wE gE n o + crd (dE wE gE) (dE wL gL) wE wL n o m o' - (wbs wid o' + q1) - wdl wL gL m o' + per = hrm wE wL gE gL per wid n o m o' := by
      unfold hrm edg
      rcases hq with ⟨-, q, r⟩ | ⟨-, q, r⟩
      · rw [if_neg q, r]
      · rw [if_pos q, r]
    refine ok_bd.mpr ?_
    rw [ob1_s]
    refine ok_gi hq2 (ok_gi hq1 (ok_gi hq1 (ok_gi hq3 (ok_bd.mpr (ok_gi hq1 (ok_gi hq1 (ok_gi hq2 (ok_gi hq3 (ok_bd.mpr ?_)))))))))
    rw [hS, hH, ui_s]
    have hend : ∀ x y, ok (f_Rooms_measurePair_j241 F lh (8 * i + j) (ui S (8 * i + j) (srm wE wL gE gL per wid n o m o')) (ui H (8 * i + j) (hrm wE wL gE gL per wid n o m o')) x y) (fun z => z = (ui S (8 * i + j) (srm wE wL gE gL per wid n o m o'), ui H (8 * i + j) (hrm wE wL gE gL per wid n o m o'), x, y, min lh (hrm wE wL gE gL per wid n o m o'))) := by
      intro x y
      unfold f_Rooms_measurePair_j241
      rw [ui_s]
      exact ok_gi hq3 (ok_gr ⟨by omega, by omega⟩ (ok_gr ⟨by omega, by omega⟩ (ok_some.mpr rfl)))
    rcases hq with ⟨q, r, -⟩ | ⟨q, r, -⟩
    · rw [if_neg r, if_neg r]
      exact ok_gr ⟨by omega, by omega⟩ (ok_if (fun _ => ok_gi hq3 (ok_gr ⟨by omega, by omega⟩ (ok_gr ⟨by omega, by omega⟩ (hend _ _)))) (fun z => by omega))
    · rw [if_pos r, if_pos r]
      exact ok_gr ⟨by omega, by omega⟩ (ok_if (fun z => by omega) (fun _ => ok_gi hq3 (ok_gr ⟨by omega, by omega⟩ (ok_gr ⟨by omega, by omega⟩ (hend _ _)))))
  refine ok_if (fun q => ?_) (fun q => ?_)
  · unfold f_Rooms_measurePair_j54
    exact ok_gi hq2 (ok_gr ⟨by omega, by omega⟩ (ok_if (fun _ => hfin 0 0 (Or.inl ⟨rfl, by omega, rfl⟩)) (fun z => by omega)))
  · unfold f_Rooms_measurePair_j54
    exact ok_gi hq2 (ok_gr ⟨by omega, by omega⟩ (ok_if (fun z => by omega) (fun _ => hfin 1 per (Or.inr ⟨rfl, by omega, rfl⟩))))
end ROOM
