/-! the class's least slacks, and how many timing paths -/
def sumN (g : Int → Int) : Nat → Int
  | 0 => 0
  | k + 1 => sumN g k + g k
theorem sumN_0 {g : Int → Int} (h : ∀ i, 0 ≤ g i) : ∀ k : Nat, 0 ≤ sumN g k := by
  intro k
  induction k with
  | zero => exact Int.le_refl 0
  | succ k ih => show 0 ≤ sumN g k + g k; have := h k; omega
theorem sumN_s {g : Int → Int} {v : Int} (h : 0 ≤ v) : sumN g (v + 1).toNat = sumN g v.toNat + g v := by
  rw [show (v + 1).toNat = v.toNat + 1 by omega]
  show sumN g v.toNat + g (v.toNat : Int) = _
  rw [show ((v.toNat : Nat) : Int) = v by omega]
section SLK
variable {kd pn so se wE wL gE gL sE sL su ho : Int → Int} {size wid per : Int}
theorem SLs_b (hz : size ≤ 48) (hwid : 1 ≤ wid ∧ wid < per ∧ per ≤ 1000000) (hkd : ∀ i, kd i ≠ 0 → 0 < i ∧ i < size) (hk0 : kd 0 = 0) (hw : ∀ i, 0 ≤ wE i ∧ wE i ≤ wL i ∧ wL i ≤ 10000) (hg : ∀ i, 0 ≤ gE i ∧ gE i ≤ gL i ∧ gL i ≤ 10000) (hsr : ∀ i, -1000000 ≤ sE i ∧ sE i ≤ sL i ∧ sL i ≤ 1000000) (hsu : ∀ i, -10000 ≤ su i ∧ su i ≤ 10000) {os : List Int} (hfu : full kd pn so se os) {K : Option (Int × List Int) → Option (Int × List Int) → Prop} {n m x : Int} (h : SLs kd pn so se wE wL gE gL sE sL su per wid K n m x) : -100000000 ≤ x := by
  obtain ⟨-, o, o', c, v, q1, q2, -, -, q5, q6⟩ := h
  have a := rm_b hz hwid hkd hk0 hw hg hfu q1 q2
  have b := dpv_b hz hkd hw hg hsr hfu q5
  have c1 := hw (3 * m)
  have c2 := hsu (2 * m + c)
  omega
theorem SLh_b (hz : size ≤ 48) (hwid : 1 ≤ wid ∧ wid < per ∧ per ≤ 1000000) (hkd : ∀ i, kd i ≠ 0 → 0 < i ∧ i < size) (hk0 : kd 0 = 0) (hw : ∀ i, 0 ≤ wE i ∧ wE i ≤ wL i ∧ wL i ≤ 10000) (hg : ∀ i, 0 ≤ gE i ∧ gE i ≤ gL i ∧ gL i ≤ 10000) (hsr : ∀ i, -1000000 ≤ sE i ∧ sE i ≤ sL i ∧ sL i ≤ 1000000) (hho : ∀ i, -10000 ≤ ho i ∧ ho i ≤ 10000) {os : List Int} (hfu : full kd pn so se os) {n m x : Int} (h : SLh kd pn so se wE wL gE gL sE sL ho per wid n m x) : -100000000 ≤ x := by
  obtain ⟨-, o, o', c, v, q1, q2, -, q5, q6⟩ := h
  have a := rm_b hz hwid hkd hk0 hw hg hfu q1 q2
  have b := dpv_b hz hkd hw hg hsr hfu q5
  have c1 := hw (3 * m)
  have c2 := hho (2 * m + c)
  omega
theorem e_begins {F : Nat} {c : Int → Int} {n : Int} (hz : 1 ≤ size ∧ size ≤ 48) (hk : ∀ i, 0 ≤ kd i ∧ kd i ≤ 4) (hn : 0 ≤ n ∧ n < size) (hc : 0 ≤ c n ∧ c n ≤ 8) : f_ClockWays_begins F c size kd n = some (bz ((kd n = 1 ∨ kd n = 3) ∧ 0 < c n)) := by
  apply ok_eq
  unfold f_ClockWays_begins
  rw [e_isStart hz hk (by omega), ob1_s]
  have h1 := bz_01 ((0 ≤ n ∧ n < size) ∧ (kd n = 1 ∨ kd n = 3))
  have h2 := bz_1 ((0 ≤ n ∧ n < size) ∧ (kd n = 1 ∨ kd n = 3))
  (repeat' (first | refine ok_gr ⟨by omega, by omega⟩ ?_ | refine ok_gi ⟨by omega, by omega⟩ ?_ | refine ok_gb (by omega) ?_ | refine ok_gp ⟨by omega, by omega⟩ ?_ | refine ok_some.mpr ?_ | refine ok_if (fun _ => ?_) (fun _ => ?_))) <;> (unfold bz; first | rw [if_pos (by omega)] | rw [if_neg (by omega)])
theorem npth_0 (n m : Int) : 0 ≤ npth kd pn so se n m := by
  unfold npth
  by_cases q : (kd m = 4 ∨ kd m = 3) ∧ 0 ≤ so (3 * m)
  · rw [if_pos q]
    exact Int.mul_nonneg (Int.add_nonneg (Int.mul_nonneg (Int.natCast_nonneg _) (Int.natCast_nonneg _)) (Int.mul_nonneg (Int.natCast_nonneg _) (Int.natCast_nonneg _))) (Int.natCast_nonneg _)
  · rw [if_neg q]; exact Int.le_refl 0
/-- how many timing paths begin at a node -/
def nbeg (kd pn so se : Int → Int) (size n : Int) : Int := if kd n = 1 ∨ kd n = 3 then sumN (npth kd pn so se n) size.toNat else 0
theorem nbeg_0 (n : Int) : 0 ≤ nbeg kd pn so se size n := by
  unfold nbeg
  by_cases q : kd n = 1 ∨ kd n = 3
  · rw [if_pos q]; exact sumN_0 (npth_0 n) _
  · rw [if_neg q]; exact Int.le_refl 0
/-- the least slacks of all timing paths that begin below v -/
def LSi (kd pn so se wE wL gE gL sE sL su ho : Int → Int) (size wid per v : Int) (A : Int → Int) (LM LF pc : Int) : Prop :=
  (∀ m, 0 ≤ m → m < size → mnF (fun x => ∃ n, (0 ≤ n ∧ n < v) ∧ (kd n = 1 ∨ kd n = 3) ∧ SLs kd pn so se wE wL gE gL sE sL su per wid (fun _ _ => True) n m x) (A (2 * m)) ∧ mnF (fun x => ∃ n, (0 ≤ n ∧ n < v) ∧ (kd n = 1 ∨ kd n = 3) ∧ SLh kd pn so se wE wL gE gL sE sL ho per wid n m x) (A (2 * m + 1))) ∧
  mnF (fun x => ∃ n m, (0 ≤ n ∧ n < v) ∧ (kd n = 1 ∨ kd n = 3) ∧ (0 ≤ m ∧ m < size) ∧ SLs kd pn so se wE wL gE gL sE sL su per wid (fun o o' => wbs wid o' ≤ wbs wid o) n m x) LM ∧
  mnF (fun x => ∃ n m, (0 ≤ n ∧ n < v) ∧ (kd n = 1 ∨ kd n = 3) ∧ (0 ≤ m ∧ m < size) ∧ SLs kd pn so se wE wL gE gL sE sL su per wid (fun o o' => ¬ wbs wid o' ≤ wbs wid o) n m x) LF ∧ pc = min (sumN (nbeg kd pn so se size) v.toNat) 4001
theorem s_slacks {F : Nat} {G : Int → Int} {cn sz : Int} {el pa ln ea la fi nx : Int → Int} {Wd : Int → Int × List Int} {Ch : Int → List Int} (hF : 200 ≤ F) (hz : 1 ≤ size ∧ size ≤ 48) (hwid : 1 ≤ wid ∧ wid < per ∧ per ≤ 1000000) (hk : ∀ i, 0 ≤ kd i ∧ kd i ≤ 4) (hkd : ∀ i, kd i ≠ 0 → 0 < i ∧ i < size) (hk0 : kd 0 = 0) (hs : ∀ i, -1 ≤ so i ∧ so i < size) (hse : ∀ i, 0 ≤ se i ∧ se i ≤ 2) (hw : ∀ i, 0 ≤ wE i ∧ wE i ≤ wL i ∧ wL i ≤ 10000) (hg : ∀ i, 0 ≤ gE i ∧ gE i ≤ gL i ∧ gL i ≤ 10000) (hsr : ∀ i, -1000000 ≤ sE i ∧ sE i ≤ sL i ∧ sL i ≤ 1000000) (hsu : ∀ i, -10000 ≤ su i ∧ su i ≤ 10000) (hho : ∀ i, -10000 ≤ ho i ∧ ho i ≤ 10000) (hp : ∀ i, 0 ≤ pn i ∧ pn i ≤ 3) (hcn : 0 ≤ cn ∧ cn ≤ 48) (hfu : full kd pn so se (lst G cn)) (hT : TR (dE wE gE) (dE wL gL) sz el pa ln ea la fi nx Wd Ch) (hinj : ∀ t u, 0 ≤ t → t < sz → 0 ≤ u → u < sz → Wd t = Wd u → t = u)
    {c l ba e f A Sc Se Sl S H : Int → Int} {x1 x2 x3 : Int} (hCO : ∀ n, 0 ≤ n → n < size → ∃ Os, CO kd pn so se wE wL gE gL wid sz Wd c l ba e f n Os) :
    ok (f_Slacks_reckon F A x1 x2 x3 S H pa ln ea la c l ba e f Sc Se Sl cn G per size kd pn so wE wL se gE gL sE sL su ho) (fun r => LSi kd pn so se wE wL gE gL sE sL su ho size wid per size r.1 r.2.1 r.2.2.1 r.2.2.2.1) := by
  have hsb : ∀ {K : Option (Int × List Int) → Option (Int × List Int) → Prop} {n m x : Int}, SLs kd pn so se wE wL gE gL sE sL su per wid K n m x → -100000000 ≤ x := fun q => SLs_b hz.2 hwid hkd hk0 hw hg hsr hsu hfu q
  have hhb : ∀ {n m x : Int}, SLh kd pn so se wE wL gE gL sE sL ho per wid n m x → -100000000 ≤ x := fun q => SLh_b hz.2 hwid hkd hk0 hw hg hsr hho hfu q
  unfold f_Slacks_reckon
  rw [e_fill (by omega) (by omega), ob1_s]
  refine lq13_ok (fun (v : Int) A LM LF pc _ _ _ _ _ _ _ _ => (0 ≤ v ∧ v ≤ size) ∧ LSi kd pn so se wE wL gE gL sE sL su ho size wid per v A LM LF pc) (fun v _ _ _ _ _ _ _ _ _ _ _ _ => (48 - v).toNat) _ ?_ F 0 _ _ _ _ _ _ _ _ _ _ _ _ ⟨by omega, fun m m1 m2 => ?_, mnF_0 (fun x ⟨n, m, z, _⟩ => by omega), mnF_0 (fun x ⟨n, m, z, _⟩ => by omega), rfl⟩ (by show (48 - (0 : Int)).toNat < F; omega)
  · rintro self v A LM LF pc S H rm rf rh Sc Se Sl ⟨hv, hI⟩ hs1
    unfold f_Slacks_reckon_b28
    refine ok_gr ⟨by omega, by omega⟩ (ok_gr ⟨by omega, by omega⟩ (ok_if (fun h => ?_) (fun h => ?_)))
    · have ev : v = size := by omega
      rw [ev] at hI
      exact ok_some.mpr hI
    · obtain ⟨Os, hO⟩ := hCO v hv.1 (by omega)
      obtain ⟨a1, a2, a3, a4⟩ := id hO
      have hmeas : (48 - (v + 1)).toNat < (48 - v).toNat := by omega
      have hT0 := sumN_0 (g := nbeg kd pn so se size) nbeg_0 v.toNat
      rw [e_begins hz hk (by omega) (by omega), ob1_s]
      have z1 := bz_1 ((kd v = 1 ∨ kd v = 3) ∧ 0 < c v)
      have z2 := bz_01 ((kd v = 1 ∨ kd v = 3) ∧ 0 < c v)
      refine ok_gr ⟨by omega, by omega⟩ (ok_if (fun h1 => ?_) (fun h1 => ?_))
      · -- no start, or a register without a way
        have hno : ¬ ((kd v = 1 ∨ kd v = 3) ∧ 0 < c v) := fun q => by have := z1.mpr q; omega
        have hwn : (kd v = 1 ∨ kd v = 3) → wys kd pn so se v = [] := fun q => by
          have : Os = [] := List.length_eq_zero_iff.mp (by omega)
          rw [this] at a1
          exact a1.symm.eq_nil
        have hns : ∀ {K : Option (Int × List Int) → Option (Int × List Int) → Prop} {m x : Int}, (kd v = 1 ∨ kd v = 3) → ¬ SLs kd pn so se wE wL gE gL sE sL su per wid K v m x := by
          rintro K m x q ⟨-, o, o', cc, u, q1, -⟩
          rw [hwn q] at q1; cases q1
        have hnh : ∀ {m x : Int}, (kd v = 1 ∨ kd v = 3) → ¬ SLh kd pn so se wE wL gE gL sE sL ho per wid v m x := by
          rintro m x q ⟨-, o, o', cc, u, q1, -⟩
          rw [hwn q] at q1; cases q1
        have hnb : nbeg kd pn so se size v = 0 := by
          unfold nbeg
          by_cases q : kd v = 1 ∨ kd v = 3
          · rw [if_pos q]
            have hz0 : ∀ k : Nat, sumN (npth kd pn so se v) k = 0 := by
              intro k
              induction k with
              | zero => rfl
              | succ k ih =>
                show sumN (npth kd pn so se v) k + npth kd pn so se v k = 0
                rw [ih]
                unfold npth
                rw [hwn q]
                by_cases r : (kd (k : Int) = 4 ∨ kd (k : Int) = 3) ∧ 0 ≤ so (3 * (k : Int))
                · rw [if_pos r]
                  show (0 : Int) + (_ * 0 + _ * 0) * _ = 0
                  rw [Int.mul_zero, Int.mul_zero, Int.add_zero, Int.zero_mul]
                  rfl
                · rw [if_neg r]; rfl
            exact hz0 _
          · rw [if_neg q]
        obtain ⟨i1, i2, i3, i4⟩ := hI
        refine hs1 _ _ _ _ _ _ _ _ _ _ _ _ _ ⟨by omega, fun m m1 m2 => ⟨mnF_cg (fun x => ?_) (i1 m m1 m2).1, mnF_cg (fun x => ?_) (i1 m m1 m2).2⟩, mnF_cg (fun x => ?_) i2, mnF_cg (fun x => ?_) i3, ?_⟩ hmeas
        · exact ⟨fun ⟨n, p1, p2, p3⟩ => ⟨n, by omega, p2, p3⟩, fun ⟨n, p1, p2, p3⟩ => by
            by_cases en : n = v
            · subst en; exact absurd p3 (hns p2)
            · exact ⟨n, by omega, p2, p3⟩⟩
        · exact ⟨fun ⟨n, p1, p2, p3⟩ => ⟨n, by omega, p2, p3⟩, fun ⟨n, p1, p2, p3⟩ => by
            by_cases en : n = v
            · subst en; exact absurd p3 (hnh p2)
            · exact ⟨n, by omega, p2, p3⟩⟩
        · exact ⟨fun ⟨n, m, p1, p2, p3⟩ => ⟨n, m, by omega, p2, p3⟩, fun ⟨n, m, p1, p2, p3, p4⟩ => by
            by_cases en : n = v
            · subst en; exact absurd p4 (hns p2)
            · exact ⟨n, m, by omega, p2, p3, p4⟩⟩
        · exact ⟨fun ⟨n, m, p1, p2, p3⟩ => ⟨n, m, by omega, p2, p3⟩, fun ⟨n, m, p1, p2, p3, p4⟩ => by
            by_cases en : n = v
            · subst en; exact absurd p4 (hns p2)
            · exact ⟨n, m, by omega, p2, p3, p4⟩⟩
        · rw [sumN_s hv.1, hnb, Int.add_zero]; exact i4
      · obtain ⟨hst, hcv⟩ := z1.mp (by omega)
        have hv' : 0 ≤ v ∧ v < size := by omega
        refine ok_gi ⟨by omega, by omega⟩ ?_
        rw [a2]
        refine ok_ob3 (s_spreadFrom (k := (Os.length : Int)) hF hz hkd hs hse hw hg hsr hp hcn hfu hv' (by omega)) (fun Sc1 Se1 Sl1 hS => ?_)
        obtain ⟨i1, i2, i3, i4⟩ := hI
        refine lq10_ok (fun (u : Int) A LM LF pc _ _ _ _ _ => (0 ≤ u ∧ u ≤ size) ∧ (∀ m, 0 ≤ m → m < size → mnF (fun x => (∃ n, (0 ≤ n ∧ n < v) ∧ (kd n = 1 ∨ kd n = 3) ∧ SLs kd pn so se wE wL gE gL sE sL su per wid (fun _ _ => True) n m x) ∨ (m < u ∧ SLs kd pn so se wE wL gE gL sE sL su per wid (fun _ _ => True) v m x)) (A (2 * m)) ∧ mnF (fun x => (∃ n, (0 ≤ n ∧ n < v) ∧ (kd n = 1 ∨ kd n = 3) ∧ SLh kd pn so se wE wL gE gL sE sL ho per wid n m x) ∨ (m < u ∧ SLh kd pn so se wE wL gE gL sE sL ho per wid v m x)) (A (2 * m + 1))) ∧
            mnF (fun x => (∃ n m, (0 ≤ n ∧ n < v) ∧ (kd n = 1 ∨ kd n = 3) ∧ (0 ≤ m ∧ m < size) ∧ SLs kd pn so se wE wL gE gL sE sL su per wid (fun o o' => wbs wid o' ≤ wbs wid o) n m x) ∨ ∃ m, (0 ≤ m ∧ m < u) ∧ SLs kd pn so se wE wL gE gL sE sL su per wid (fun o o' => wbs wid o' ≤ wbs wid o) v m x) LM ∧
            mnF (fun x => (∃ n m, (0 ≤ n ∧ n < v) ∧ (kd n = 1 ∨ kd n = 3) ∧ (0 ≤ m ∧ m < size) ∧ SLs kd pn so se wE wL gE gL sE sL su per wid (fun o o' => ¬ wbs wid o' ≤ wbs wid o) n m x) ∨ ∃ m, (0 ≤ m ∧ m < u) ∧ SLs kd pn so se wE wL gE gL sE sL su per wid (fun o o' => ¬ wbs wid o' ≤ wbs wid o) v m x) LF ∧ pc = min (sumN (nbeg kd pn so se size) v.toNat + sumN (npth kd pn so se v) u.toNat) 4001) (fun u _ _ _ _ _ _ _ _ _ => (48 - u).toNat) _ ?_ F 0 _ _ _ _ _ _ _ _ _ ⟨by omega, fun m m1 m2 => ⟨mnF_cg (fun x => ⟨Or.inl, fun w => w.elim id (fun w' => by have := w'.1; omega)⟩) (i1 m m1 m2).1, mnF_cg (fun x => ⟨Or.inl, fun w => w.elim id (fun w' => by have := w'.1; omega)⟩) (i1 m m1 m2).2⟩, mnF_cg (fun x => ⟨Or.inl, fun w => w.elim id (fun ⟨m, w', _⟩ => by omega)⟩) i2, mnF_cg (fun x => ⟨Or.inl, fun w => w.elim id (fun ⟨m, w', _⟩ => by omega)⟩) i3, by rw [i4]; show _ = min (_ + 0) 4001; rw [Int.add_zero]⟩ (by show (48 - (0 : Int)).toNat < F; omega)
        clear i1 i2 i3 i4 A LM LF pc S H rm rf rh
        rintro self2 u A LM LF pc S H rm rf rh ⟨hu, i1, i2, i3, i4⟩ hs2
        unfold f_Slacks_reckon_b69
        refine ok_gr ⟨by omega, by omega⟩ (ok_gr ⟨by omega, by omega⟩ (ok_if (fun h2 => ?_) (fun h2 => ?_)))
        · have eu : u = size := by omega
          subst eu
          refine hs1 _ _ _ _ _ _ _ _ _ _ _ _ _ ⟨by omega, fun m m1 m2 => ⟨mnF_cg (fun x => ?_) (i1 m m1 m2).1, mnF_cg (fun x => ?_) (i1 m m1 m2).2⟩, mnF_cg (fun x => ?_) i2, mnF_cg (fun x => ?_) i3, ?_⟩ hmeas
          · exact ⟨fun w => w.elim (fun ⟨n, p1, p2, p3⟩ => ⟨n, by omega, p2, p3⟩) (fun w' => ⟨v, by omega, hst, w'.2⟩), fun ⟨n, p1, p2, p3⟩ => by
              by_cases en : n = v
              · subst en; exact Or.inr ⟨m2, p3⟩
              · exact Or.inl ⟨n, by omega, p2, p3⟩⟩
          · exact ⟨fun w => w.elim (fun ⟨n, p1, p2, p3⟩ => ⟨n, by omega, p2, p3⟩) (fun w' => ⟨v, by omega, hst, w'.2⟩), fun ⟨n, p1, p2, p3⟩ => by
              by_cases en : n = v
              · subst en; exact Or.inr ⟨m2, p3⟩
              · exact Or.inl ⟨n, by omega, p2, p3⟩⟩
          · exact ⟨fun w => w.elim (fun ⟨n, m, p1, p2, p3⟩ => ⟨n, m, by omega, p2, p3⟩) (fun ⟨m, w', w''⟩ => ⟨v, m, by omega, hst, w', w''⟩), fun ⟨n, m, p1, p2, p3, p4⟩ => by
              by_cases en : n = v
              · subst en; exact Or.inr ⟨m, p3, p4⟩
              · exact Or.inl ⟨n, m, by omega, p2, p3, p4⟩⟩
          · exact ⟨fun w => w.elim (fun ⟨n, m, p1, p2, p3⟩ => ⟨n, m, by omega, p2, p3⟩) (fun ⟨m, w', w''⟩ => ⟨v, m, by omega, hst, w', w''⟩), fun ⟨n, m, p1, p2, p3, p4⟩ => by
              by_cases en : n = v
              · subst en; exact Or.inr ⟨m, p3, p4⟩
              · exact Or.inl ⟨n, m, by omega, p2, p3, p4⟩⟩
          · rw [sumN_s hv.1, i4]
            unfold nbeg
            rw [if_pos hst]
        · obtain ⟨Os', hO'⟩ := hCO u hu.1 (by omega)
          have hTu := sumN_0 (g := npth kd pn so se v) (npth_0 v) u.toNat
          have ra := mnF_r (i1 u hu.1 (by omega)).1 (fun x w => w.elim (fun ⟨n, _, _, p3⟩ => hsb p3) (fun w' => hsb w'.2))
          have rb := mnF_r (i1 u hu.1 (by omega)).2 (fun x w => w.elim (fun ⟨n, _, _, p3⟩ => hhb p3) (fun w' => hhb w'.2))
          have rc := mnF_r i2 (fun x w => w.elim (fun ⟨n, m, _, _, _, p3⟩ => hsb p3) (fun ⟨m, _, w'⟩ => hsb w'))
          have rd := mnF_r i3 (fun x w => w.elim (fun ⟨n, m, _, _, _, p3⟩ => hsb p3) (fun ⟨m, _, w'⟩ => hsb w'))
          refine ok_ob9 (s_reckonPair (wid := wid) hF hz hwid hk hkd hk0 hs hw hg hsr hsu hho hfu hT hinj hv' (by omega) (m := u) (by omega) hO hO' (by omega) hS rc rd ra rb (by omega)) (fun A1 LM1 LF1 pc1 S1 H1 rm1 rf1 rh1 hr => ?_)
          obtain ⟨q1, q2, q3, q4, q5, q6⟩ := hr
          simp only at q1 q2 q3 q4 q5 q6
          refine hs2 _ _ _ _ _ _ _ _ _ _ ⟨by omega, fun m m1 m2 => ?_, mnF_cg (fun x => ?_) (q4 _ i2), mnF_cg (fun x => ?_) (q5 _ i3), ?_⟩ (by show (48 - (u + 1)).toNat < (48 - u).toNat; omega)
          · by_cases em : m = u
            · subst em
              refine ⟨mnF_cg (fun x => ?_) (q2 _ (i1 m m1 m2).1), mnF_cg (fun x => ?_) (q3 _ (i1 m m1 m2).2)⟩
              · exact ⟨fun w => w.elim (fun w' => w'.imp id (fun w'' => ⟨by omega, w''.2⟩)) (fun w' => Or.inr ⟨by omega, w'⟩), fun w => w.elim (fun w' => Or.inl (Or.inl w')) (fun w' => Or.inr w'.2)⟩
              · exact ⟨fun w => w.elim (fun w' => w'.imp id (fun w'' => ⟨by omega, w''.2⟩)) (fun w' => Or.inr ⟨by omega, w'⟩), fun w => w.elim (fun w' => Or.inl (Or.inl w')) (fun w' => Or.inr w'.2)⟩
            · rw [q1 (2 * m) (by omega) (by omega), q1 (2 * m + 1) (by omega) (by omega)]
              refine ⟨mnF_cg (fun x => ?_) (i1 m m1 m2).1, mnF_cg (fun x => ?_) (i1 m m1 m2).2⟩
              · exact ⟨fun w => w.imp id (fun w' => ⟨by omega, w'.2⟩), fun w => w.imp id (fun w' => ⟨by have := w'.1; omega, w'.2⟩)⟩
              · exact ⟨fun w => w.imp id (fun w' => ⟨by omega, w'.2⟩), fun w => w.imp id (fun w' => ⟨by have := w'.1; omega, w'.2⟩)⟩
          · exact ⟨fun w => w.elim (fun w' => w'.imp id (fun ⟨m, p1, p2⟩ => ⟨m, by omega, p2⟩)) (fun w' => Or.inr ⟨u, by omega, w'⟩), fun w => w.elim (fun w' => Or.inl (Or.inl w')) (fun ⟨m, p1, p2⟩ => by
              by_cases em : m = u
              · subst em; exact Or.inr p2
              · exact Or.inl (Or.inr ⟨m, by omega, p2⟩))⟩
          · exact ⟨fun w => w.elim (fun w' => w'.imp id (fun ⟨m, p1, p2⟩ => ⟨m, by omega, p2⟩)) (fun w' => Or.inr ⟨u, by omega, w'⟩), fun w => w.elim (fun w' => Or.inl (Or.inl w')) (fun ⟨m, p1, p2⟩ => by
              by_cases em : m = u
              · subst em; exact Or.inr p2
              · exact Or.inl (Or.inr ⟨m, by omega, p2⟩))⟩
          · rw [sumN_s hu.1, q6 _ (Int.add_nonneg hT0 hTu) i4, Int.add_assoc]
  · refine ⟨?_, ?_⟩
    · show mnF _ (if 0 ≤ 2 * m ∧ 2 * m < ((96 : Nat) : Int) then (1000000000 : Int) else A (2 * m))
      rw [if_pos (by omega)]
      exact mnF_0 (fun x ⟨n, z, _⟩ => by omega)
    · show mnF _ (if 0 ≤ 2 * m + 1 ∧ 2 * m + 1 < ((96 : Nat) : Int) then (1000000000 : Int) else A (2 * m + 1))
      rw [if_pos (by omega)]
      exact mnF_0 (fun x ⟨n, z, _⟩ => by omega)
end SLK
