/-! the class's least slacks of a start and an end: all of it -/
section RPR
variable {kd pn so se wE wL gE gL sE sL su ho : Int → Int} {size wid per : Int}
theorem e_ends {F : Nat} {c : Int → Int} {m : Int} (hz : 1 ≤ size ∧ size ≤ 48) (hk : ∀ i, 0 ≤ kd i ∧ kd i ≤ 4) (hs : ∀ i, -1 ≤ so i ∧ so i < size) (hm : 0 ≤ m ∧ m < size) (hc : 0 ≤ c m ∧ c m ≤ 8) : f_ClockWays_ends F c size kd so m = some (bz ((kd m = 4 ∨ kd m = 3) ∧ 0 < c m ∧ 0 ≤ so (3 * m))) := by
  apply ok_eq
  unfold f_ClockWays_ends
  rw [e_isEnd hz hk (by omega), ob1_s, show m * 3 + 0 = 3 * m by omega]
  have h1 := bz_01 ((0 ≤ m ∧ m < size) ∧ (kd m = 4 ∨ kd m = 3))
  have h2 := bz_1 ((0 ≤ m ∧ m < size) ∧ (kd m = 4 ∨ kd m = 3))
  have h3 := hs (3 * m)
  (repeat' (first | refine ok_gr ⟨by omega, by omega⟩ ?_ | refine ok_gi ⟨by omega, by omega⟩ ?_ | refine ok_gb (by omega) ?_ | refine ok_gp ⟨by omega, by omega⟩ ?_ | refine ok_some.mpr ?_ | refine ok_if (fun _ => ?_) (fun _ => ?_))) <;> (unfold bz; first | rw [if_pos (by omega)] | rw [if_neg (by omega)])
/-- how many timing paths go from a start to an end -/
def npth (kd pn so se : Int → Int) (n m : Int) : Int := if (kd m = 4 ∨ kd m = 3) ∧ 0 ≤ so (3 * m) then (((DW kd pn so se n (2 * so (3 * m) + 0)).length : Int) * ((wys kd pn so se n).length : Int) + ((DW kd pn so se n (2 * so (3 * m) + 1)).length : Int) * ((wys kd pn so se n).length : Int)) * ((wys kd pn so se m).length : Int) else 0
theorem s_reckonPair {F : Nat} {G : Int → Int} {cn sz : Int} {el pa ln ea la fi nx : Int → Int} {Wd : Int → Int × List Int} {Ch : Int → List Int} (hF : 200 ≤ F) (hz : 1 ≤ size ∧ size ≤ 48) (hwid : 1 ≤ wid ∧ wid < per ∧ per ≤ 1000000) (hk : ∀ i, 0 ≤ kd i ∧ kd i ≤ 4) (hkd : ∀ i, kd i ≠ 0 → 0 < i ∧ i < size) (hk0 : kd 0 = 0) (hs : ∀ i, -1 ≤ so i ∧ so i < size) (hw : ∀ i, 0 ≤ wE i ∧ wE i ≤ wL i ∧ wL i ≤ 10000) (hg : ∀ i, 0 ≤ gE i ∧ gE i ≤ gL i ∧ gL i ≤ 10000) (hsr : ∀ i, -1000000 ≤ sE i ∧ sE i ≤ sL i ∧ sL i ≤ 1000000) (hsu : ∀ i, -10000 ≤ su i ∧ su i ≤ 10000) (hho : ∀ i, -10000 ≤ ho i ∧ ho i ≤ 10000) (hfu : full kd pn so se (lst G cn)) (hT : TR (dE wE gE) (dE wL gL) sz el pa ln ea la fi nx Wd Ch) (hinj : ∀ t u, 0 ≤ t → t < sz → 0 ≤ u → u < sz → Wd t = Wd u → t = u)
    {c l ba e f S H A Sc Se Sl : Int → Int} {n m LM LF pc x1 x2 x3 : Int} {Os Os' : List (Option (Int × List Int))} (hn : 0 ≤ n ∧ n < size) (hnk : kd n ≠ 2) (hm : 0 ≤ m ∧ m < size) (hO : CO kd pn so se wE wL gE gL wid sz Wd c l ba e f n Os) (hO' : CO kd pn so se wE wL gE gL wid sz Wd c l ba e f m Os') (hOs : 1 ≤ Os.length)
    (hS : RV 4001 (fG pn so se wE wL gE gL (lst G cn) (VS sE sL n (Os.length : Int))) Sc Se Sl) (r1 : -100000000 ≤ LM ∧ LM ≤ 1000000000) (r2 : -100000000 ≤ LF ∧ LF ≤ 1000000000) (r8 : -100000000 ≤ A (2 * m) ∧ A (2 * m) ≤ 1000000000) (r9 : -100000000 ≤ A (2 * m + 1) ∧ A (2 * m + 1) ≤ 1000000000) (r0 : 0 ≤ pc ∧ pc ≤ 4001) :
    ok (f_Slacks_reckonPair F LM LF pc A x1 x2 x3 S H pa ln ea la c l ba e f Sc Se Sl per size kd so wE wL su ho n m) (fun r => (∀ s, s ≠ 2 * m → s ≠ 2 * m + 1 → r.1 s = A s) ∧ (∀ P, mnF P (A (2 * m)) → mnF (fun x => P x ∨ SLs kd pn so se wE wL gE gL sE sL su per wid (fun _ _ => True) n m x) (r.1 (2 * m))) ∧ (∀ P, mnF P (A (2 * m + 1)) → mnF (fun x => P x ∨ SLh kd pn so se wE wL gE gL sE sL ho per wid n m x) (r.1 (2 * m + 1))) ∧
      (∀ P, mnF P LM → mnF (fun x => P x ∨ SLs kd pn so se wE wL gE gL sE sL su per wid (fun o o' => wbs wid o' ≤ wbs wid o) n m x) r.2.1) ∧ (∀ P, mnF P LF → mnF (fun x => P x ∨ SLs kd pn so se wE wL gE gL sE sL su per wid (fun o o' => ¬ wbs wid o' ≤ wbs wid o) n m x) r.2.2.1) ∧ ∀ T, 0 ≤ T → pc = min T 4001 → r.2.2.2.1 = min (T + npth kd pn so se n m) 4001) := by
  obtain ⟨a1, a2, a3, a4⟩ := id hO
  obtain ⟨b1, b2, b3, b4⟩ := id hO'
  have hl1 : ((wys kd pn so se n).length : Int) = (Os.length : Int) := by rw [a1.length_eq]
  have hl2 : ((wys kd pn so se m).length : Int) = (Os'.length : Int) := by rw [b1.length_eq]
  have hsm := hs (3 * m)
  -- nothing there
  have hnil : ∀ r : (Int → Int) × Int × Int × Int × (Int → Int) × (Int → Int) × Int × Int × Int, r.1 = A → r.2.1 = LM → r.2.2.1 = LF → r.2.2.2.1 = pc → (EN kd so m → Os' = [] ∨ ∀ cc v, (cc = 0 ∨ cc = 1) → ¬ dpv kd pn so se wE wL gE gL sE sL n (2 * so (3 * m) + cc) v) → npth kd pn so se n m = 0 → (∀ s, s ≠ 2 * m → s ≠ 2 * m + 1 → r.1 s = A s) ∧ (∀ P, mnF P (A (2 * m)) → mnF (fun x => P x ∨ SLs kd pn so se wE wL gE gL sE sL su per wid (fun _ _ => True) n m x) (r.1 (2 * m))) ∧ (∀ P, mnF P (A (2 * m + 1)) → mnF (fun x => P x ∨ SLh kd pn so se wE wL gE gL sE sL ho per wid n m x) (r.1 (2 * m + 1))) ∧
      (∀ P, mnF P LM → mnF (fun x => P x ∨ SLs kd pn so se wE wL gE gL sE sL su per wid (fun o o' => wbs wid o' ≤ wbs wid o) n m x) r.2.1) ∧ (∀ P, mnF P LF → mnF (fun x => P x ∨ SLs kd pn so se wE wL gE gL sE sL su per wid (fun o o' => ¬ wbs wid o' ≤ wbs wid o) n m x) r.2.2.1) ∧ ∀ T, 0 ≤ T → pc = min T 4001 → r.2.2.2.1 = min (T + npth kd pn so se n m) 4001 := by
    intro r e1 e2 e3 e4 hno hn0
    have hE : ∀ {K : Option (Int × List Int) → Option (Int × List Int) → Prop} {x : Int}, ¬ SLs kd pn so se wE wL gE gL sE sL su per wid K n m x := by
      rintro K x ⟨hen, o, o', cc, v, -, q2, -, q4, q5, -⟩
      rcases hno hen with z | z
      · have := b1.mem_iff.mpr q2
        rw [z] at this; cases this
      · exact z cc v q4 q5
    have hE2 : ∀ {x : Int}, ¬ SLh kd pn so se wE wL gE gL sE sL ho per wid n m x := by
      rintro x ⟨hen, o, o', cc, v, -, q2, q4, q5, -⟩
      rcases hno hen with z | z
      · have := b1.mem_iff.mpr q2
        rw [z] at this; cases this
      · exact z cc v q4 q5
    rw [e1, e2, e3, e4, hn0]
    exact ⟨fun _ _ _ => rfl, fun P q => mnF_cg (fun x => ⟨Or.inl, fun z => z.resolve_right hE⟩) q, fun P q => mnF_cg (fun x => ⟨Or.inl, fun z => z.resolve_right hE2⟩) q, fun P q => mnF_cg (fun x => ⟨Or.inl, fun z => z.resolve_right hE⟩) q, fun P q => mnF_cg (fun x => ⟨Or.inl, fun z => z.resolve_right hE⟩) q, fun T _ q => by rw [Int.add_zero]; exact q⟩
  unfold f_Slacks_reckonPair
  rw [e_ends hz hk hs hm (by omega), ob1_s]
  have z1 := bz_1 ((kd m = 4 ∨ kd m = 3) ∧ 0 < c m ∧ 0 ≤ so (3 * m))
  have z2 := bz_01 ((kd m = 4 ∨ kd m = 3) ∧ 0 < c m ∧ 0 ≤ so (3 * m))
  refine ok_gr ⟨by omega, by omega⟩ (ok_if (fun h => ?_) (fun h => ?_))
  · have hno : ¬ ((kd m = 4 ∨ kd m = 3) ∧ 0 < c m ∧ 0 ≤ so (3 * m)) := fun q => by have := z1.mpr q; omega
    refine ok_some.mpr (hnil _ rfl rfl rfl rfl (fun hen => Or.inl (List.length_eq_zero_iff.mp ?_)) ?_)
    · have := hen.1
      have := hen.2
      omega
    · unfold npth
      by_cases q : (kd m = 4 ∨ kd m = 3) ∧ 0 ≤ so (3 * m)
      · rw [if_pos q, hl2, show (Os'.length : Int) = 0 by omega, Int.mul_zero]
      · rw [if_neg q]
  · obtain ⟨hend, hcm, hso⟩ := z1.mp (by omega)
    have hen : EN kd so m := ⟨hend, hso⟩
    refine ok_bd.mpr ?_
    rw [show m * 3 + 0 = 3 * m by omega]
    obtain ⟨V, hV⟩ : ∃ V, V = fG pn so se wE wL gE gL (lst G cn) (VS sE sL n (Os.length : Int)) := ⟨_, rfl⟩
    rw [← hV] at hS
    have hmem : ∀ s v, v ∈ V s ↔ dpv kd pn so se wE wL gE gL sE sL n s v := fun s v => by rw [hV]; exact fG_mem hz.2 hkd hfu (by omega) s v
    have hlen : ∀ s, ((V s).length : Int) = ((DW kd pn so se n s).length : Int) * (Os.length : Int) := fun s => by
      rw [hV, fG_len hz.2 hkd hfu hnk s, show ((Os.length : Int)).toNat = Os.length from rfl]
      exact Int.natCast_mul _ _
    have hdb : ∀ s v, dpv kd pn so se wE wL gE gL sE sL n s v → (-1000000 ≤ v.1 ∧ v.1 ≤ 1960000) ∧ -1000000 ≤ v.2 ∧ v.2 ≤ 1960000 := fun s v q => dpv_b hz.2 hkd hw hg hsr hfu q
    have hwm := hw (3 * m)
    refine lq4_ok (fun (x y u q : Int) => (0 ≤ q ∧ q ≤ 2) ∧ mxF (fun z => ∃ cc v, (cc = 0 ∨ cc = 1) ∧ cc < q ∧ dpv kd pn so se wE wL gE gL sE sL n (2 * so (3 * m) + cc) v ∧ z = v.2 + wL (3 * m) + su (2 * m + cc)) x ∧ mnF (fun z => ∃ cc v, (cc = 0 ∨ cc = 1) ∧ cc < q ∧ dpv kd pn so se wE wL gE gL sE sL n (2 * so (3 * m) + cc) v ∧ z = v.1 + wE (3 * m) - ho (2 * m + cc)) y ∧ u = (if 0 < q then min ((V (2 * so (3 * m) + 0)).length : Int) 4001 else 0) + (if 1 < q then min ((V (2 * so (3 * m) + 1)).length : Int) 4001 else 0)) (fun _ _ _ q => (2 - q).toNat) _ ?_ F _ _ _ _ ⟨by omega, mxF_0 (fun z ⟨cc, v, q1, q2, _⟩ => by omega), mnF_0 (fun z ⟨cc, v, q1, q2, _⟩ => by omega), by rw [if_neg (by omega), if_neg (by omega)]; rfl⟩ (by show (2 - (0 : Int)).toNat < F; omega)
    rintro self x y u q ⟨hq, hX, hY, hu⟩ hs1
    have rx : -1000000000 ≤ x ∧ x ≤ 2000000 := by
      rcases hX with ⟨z, -⟩ | ⟨⟨cc, v, k1, k2, k3, k4⟩, -, z⟩
      · omega
      · have := hdb _ v k3; have := hsu (2 * m + cc); omega
    have ry : -2000000 ≤ y ∧ y ≤ 1000000000 := by
      rcases hY with ⟨z, -⟩ | ⟨⟨cc, v, k1, k2, k3, k4⟩, -, z⟩
      · omega
      · have := hdb _ v k3; have := hho (2 * m + cc); omega
    unfold f_Slacks_reckonPair_b32
    refine ok_gr ⟨by omega, by omega⟩ (ok_if (fun h2 => ?_) (fun h2 => ?_))
    · have eq : q = 2 := by omega
      subst eq
      rw [if_pos (by omega), if_pos (by omega)] at hu
      refine ok_gr ⟨by omega, by omega⟩ (ok_if (fun h3 => ?_) (fun h3 => ?_))
      · have n0 : V (2 * so (3 * m) + 0) = [] := List.length_eq_zero_iff.mp (by omega)
        have n1 : V (2 * so (3 * m) + 1) = [] := List.length_eq_zero_iff.mp (by omega)
        refine ok_some.mpr (hnil _ rfl rfl rfl rfl (fun _ => Or.inr (fun cc v hc hd => ?_)) ?_)
        · have := (hmem _ v).mpr hd
          rcases hc with rfl | rfl
          · rw [n0] at this; cases this
          · rw [n1] at this; cases this
        · unfold npth
          rw [if_pos ⟨hend, hso⟩, hl1, ← hlen, ← hlen, n0, n1]
          show ((0 : Int) + 0) * _ = 0
          rw [Int.add_zero, Int.zero_mul]
      · have hne : ∃ cc v, (cc = 0 ∨ cc = 1) ∧ dpv kd pn so se wE wL gE gL sE sL n (2 * so (3 * m) + cc) v := by
          by_cases z : V (2 * so (3 * m) + 0) = []
          · have : V (2 * so (3 * m) + 1) ≠ [] := fun z' => by rw [z, z'] at hu; simp at hu; omega
            obtain ⟨v, hv⟩ := List.exists_mem_of_ne_nil _ this
            exact ⟨1, v, Or.inr rfl, (hmem _ v).mp hv⟩
          · obtain ⟨v, hv⟩ := List.exists_mem_of_ne_nil _ z
            exact ⟨0, v, Or.inl rfl, (hmem _ v).mp hv⟩
        obtain ⟨c0, v0, hc0, hd0⟩ := hne
        have hX' := hX.resolve_left (fun z => z.2 _ ⟨c0, v0, hc0, by omega, hd0, rfl⟩)
        have hY' := hY.resolve_left (fun z => z.2 _ ⟨c0, v0, hc0, by omega, hd0, rfl⟩)
        have rx' : -2000000 ≤ x := by
          have := hX'.2.1 _ ⟨c0, v0, hc0, by omega, hd0, rfl⟩
          have := hdb _ v0 hd0
          have := hsu (2 * m + c0)
          omega
        have ry' : y ≤ 2000000 := by
          have := hY'.2.1 _ ⟨c0, v0, hc0, by omega, hd0, rfl⟩
          have := hdb _ v0 hd0
          have := hho (2 * m + c0)
          omega
        refine ok_gi ⟨by omega, by omega⟩ ?_
        have hmul : 0 ≤ u * c m ∧ u * c m ≤ 8002 * 8 := ⟨Int.mul_nonneg (by omega) (by omega), Int.mul_le_mul (by omega) (by omega) (by omega) (by omega)⟩
        refine ok_gr ⟨by omega, by omega⟩ ?_
        refine ok_ob5 (s_measure hF hz.2 hwid hkd hk0 hw hg hfu hT hinj (n := n) (m := m) (by omega) (by omega) hO hO') (fun S1 H1 lm lf lh hR => ?_)
        obtain ⟨-, hR2, hR3, hR4⟩ := hR
        simp only at hR2 hR3 hR4
        have hrb : ∀ o o', o ∈ Os → o' ∈ Os' → (-9000000 ≤ srm wE wL gE gL per wid n o m o' ∧ srm wE wL gE gL per wid n o m o' ≤ 9000000) ∧ -9000000 ≤ hrm wE wL gE gL per wid n o m o' ∧ hrm wE wL gE gL per wid n o m o' ≤ 9000000 := fun o o' q1 q2 => rm_b hz.2 hwid hkd hk0 hw hg hfu (a1.mem_iff.mp q1) (b1.mem_iff.mp q2)
        have r3 := mnF_r hR2 (fun x ⟨o, o', q1, q2, q3, q4⟩ => by have := hrb o o' q1 q2; omega)
        have r4 := mnF_r hR3 (fun x ⟨o, o', q1, q2, q3, q4⟩ => by have := hrb o o' q1 q2; omega)
        have r5 := mnF_r hR4 (fun x ⟨o, o', q1, q2, q4⟩ => by have := hrb o o' q1 q2; omega)
        rw [e_keepLeast (by omega) r1 r2 r3 r4 r5 (by omega) (by omega) r8 r9, ob3_s]
        obtain ⟨o0, ho0⟩ := List.exists_mem_of_ne_nil Os (fun z => by rw [z] at hOs; simp at hOs)
        obtain ⟨o1, ho1⟩ := List.exists_mem_of_ne_nil Os' (fun z => by rw [z] at b2; simp at b2; omega)
        have hiff : ∀ (K : Option (Int × List Int) → Option (Int × List Int) → Prop) x', SLs kd pn so se wE wL gE gL sE sL su per wid K n m x' ↔ ∃ r y', (∃ o o', o ∈ Os ∧ o' ∈ Os' ∧ K o o' ∧ r = srm wE wL gE gL per wid n o m o') ∧ (∃ cc v, (cc = 0 ∨ cc = 1) ∧ cc < 2 ∧ dpv kd pn so se wE wL gE gL sE sL n (2 * so (3 * m) + cc) v ∧ y' = v.2 + wL (3 * m) + su (2 * m + cc)) ∧ x' = r - y' := by
          intro K x'
          constructor
          · rintro ⟨-, o, o', cc, v, p1, p2, p3, p4, p5, p6⟩
            exact ⟨_, _, ⟨o, o', a1.mem_iff.mpr p1, b1.mem_iff.mpr p2, p3, rfl⟩, ⟨cc, v, p4, by omega, p5, rfl⟩, p6⟩
          · rintro ⟨r, y', ⟨o, o', p1, p2, p3, rfl⟩, ⟨cc, v, p4, -, p5, rfl⟩, p6⟩
            exact ⟨hen, o, o', cc, v, a1.mem_iff.mp p1, b1.mem_iff.mp p2, p3, p4, p5, p6⟩
        have hiffH : ∀ x', SLh kd pn so se wE wL gE gL sE sL ho per wid n m x' ↔ ∃ r y', (∃ o o', o ∈ Os ∧ o' ∈ Os' ∧ r = hrm wE wL gE gL per wid n o m o') ∧ (∃ cc v, (cc = 0 ∨ cc = 1) ∧ cc < 2 ∧ dpv kd pn so se wE wL gE gL sE sL n (2 * so (3 * m) + cc) v ∧ y' = v.1 + wE (3 * m) - ho (2 * m + cc)) ∧ x' = r + y' := by
          intro x'
          constructor
          · rintro ⟨-, o, o', cc, v, p1, p2, p4, p5, p6⟩
            exact ⟨_, _, ⟨o, o', a1.mem_iff.mpr p1, b1.mem_iff.mpr p2, rfl⟩, ⟨cc, v, p4, by omega, p5, rfl⟩, p6⟩
          · rintro ⟨r, y', ⟨o, o', p1, p2, rfl⟩, ⟨cc, v, p4, -, p5, rfl⟩, p6⟩
            exact ⟨hen, o, o', cc, v, a1.mem_iff.mp p1, b1.mem_iff.mp p2, p4, p5, p6⟩
        have hlr : (∃ o o', o ∈ Os ∧ o' ∈ Os' ∧ True ∧ min lm lf = srm wE wL gE gL per wid n o m o') ∧ ∀ r, (∃ o o', o ∈ Os ∧ o' ∈ Os' ∧ True ∧ r = srm wE wL gE gL per wid n o m o') → min lm lf ≤ r := by
          have hle : ∀ r, (∃ o o', o ∈ Os ∧ o' ∈ Os' ∧ True ∧ r = srm wE wL gE gL per wid n o m o') → min lm lf ≤ r := by
            rintro r ⟨o, o', p1, p2, -, p3⟩
            by_cases hmv : wbs wid o' ≤ wbs wid o
            · have := (hR2.resolve_left (fun z => z.2 r ⟨o, o', p1, p2, hmv, p3⟩)).2.1 r ⟨o, o', p1, p2, hmv, p3⟩
              omega
            · have := (hR3.resolve_left (fun z => z.2 r ⟨o, o', p1, p2, hmv, p3⟩)).2.1 r ⟨o, o', p1, p2, hmv, p3⟩
              omega
          refine ⟨?_, hle⟩
          have h00 := hle _ ⟨o0, o1, ho0, ho1, trivial, rfl⟩
          have hb00 := hrb o0 o1 ho0 ho1
          by_cases z : lm ≤ lf
          · obtain ⟨o, o', p1, p2, p3, p4⟩ := (hR2.resolve_left (fun q' => by have := q'.1; omega)).1
            exact ⟨o, o', p1, p2, trivial, by rw [Int.min_eq_left z]; exact p4⟩
          · obtain ⟨o, o', p1, p2, p3, p4⟩ := (hR3.resolve_left (fun q' => by have := q'.1; omega)).1
            exact ⟨o, o', p1, p2, trivial, by rw [Int.min_eq_right (by omega)]; exact p4⟩
        have hlrb : min lm lf ≤ 9000000 := by
          have h00 := hlr.2 _ ⟨o0, o1, ho0, ho1, trivial, rfl⟩
          have hb00 := hrb o0 o1 ho0 ho1
          omega
        have hH' := hR4.resolve_left (fun z => z.2 _ ⟨o0, o1, ho0, ho1, rfl⟩)
        have hlhb : lh ≤ 9000000 := by
          have h00 := hH'.2.1 _ ⟨o0, o1, ho0, ho1, rfl⟩
          have hb00 := hrb o0 o1 ho0 ho1
          omega
        have hone : ∀ (K : Option (Int × List Int) → Option (Int × List Int) → Prop) (lk LK : Int), mnF (fun x => ∃ o o', o ∈ Os ∧ o' ∈ Os' ∧ K o o' ∧ x = srm wE wL gE gL per wid n o m o') lk → ∀ P, mnF P LK → mnF (fun x => P x ∨ SLs kd pn so se wE wL gE gL sE sL su per wid K n m x) (if lk = 1000000000 then LK else min LK (lk - x)) := by
          intro K lk LK hlk P hP
          rcases hlk with ⟨z, z'⟩ | ⟨z, z', z''⟩
          · rw [if_pos z]
            refine mnF_cg (fun x' => ⟨Or.inl, fun w => w.resolve_right (fun w' => ?_)⟩) hP
            obtain ⟨r, y', p1, -⟩ := (hiff K x').mp w'
            exact z' r p1
          · rw [if_neg (by omega)]
            have hr := mnF_room (R := fun x' => SLs kd pn so se wE wL gE gL sE sL su per wid K n m x') z z' hX'.1 hX'.2.1 (hiff K)
            obtain ⟨o, o', p1, p2, p3, p4⟩ := z
            have := hrb o o' p1 p2
            exact mnF_addS hP hr.1 hr.2 (by omega)
        refine ok_some.mpr ⟨fun s' q1 q2 => ?_, fun P hP => ?_, fun P hP => ?_, hone _ lm LM hR2, hone _ lf LF hR3, fun T hT0 hT' => ?_⟩
        · show ui (ui A (2 * m) _) (2 * m + 1) _ s' = A s'
          rw [ui_n q2, ui_n q1]
        · show mnF _ (ui (ui A (2 * m) _) (2 * m + 1) _ (2 * m))
          rw [ui_n (by omega), ui_s]
          have hr := mnF_room (R := fun x' => SLs kd pn so se wE wL gE gL sE sL su per wid (fun _ _ => True) n m x') hlr.1 hlr.2 hX'.1 hX'.2.1 (hiff _)
          exact mnF_addS hP hr.1 hr.2 (by omega)
        · show mnF _ (ui (ui A (2 * m) _) (2 * m + 1) _ (2 * m + 1))
          rw [ui_s]
          have hr := mnF_roomH (R := fun x' => SLh kd pn so se wE wL gE gL sE sL ho per wid n m x') hH'.1 hH'.2.1 hY'.1 hY'.2.1 hiffH
          exact mnF_addS hP hr.1 hr.2 (by omega)
        · show min (pc + u * c m) 4001 = _
          rw [hu]
          unfold npth
          rw [if_pos ⟨hend, hso⟩, hl1, hl2, ← hlen, ← hlen, ← b2]
          exact cap_add hT0 (by omega) (by omega) (by omega) hT' rfl rfl
    · have hagg := hS (2 * so (3 * m) + q) (by omega) (by omega)
      have hcc := agg_c (by omega) hagg
      have hmeas : (2 - (q + 1)).toNat < (2 - q).toNat := by omega
      have hsplit : ∀ (g : Int → Int × Int → Int) z, (∃ cc v, (cc = 0 ∨ cc = 1) ∧ cc < q + 1 ∧ dpv kd pn so se wE wL gE gL sE sL n (2 * so (3 * m) + cc) v ∧ z = g cc v) ↔ (∃ cc v, (cc = 0 ∨ cc = 1) ∧ cc < q ∧ dpv kd pn so se wE wL gE gL sE sL n (2 * so (3 * m) + cc) v ∧ z = g cc v) ∨ (∃ v, v ∈ V (2 * so (3 * m) + q) ∧ z = g q v) := by
        intro g z
        constructor
        · rintro ⟨cc, v, p1, p2, p3, p4⟩
          by_cases e1 : cc = q
          · rw [e1] at p3 p4
            exact Or.inr ⟨v, (hmem _ v).mpr p3, p4⟩
          · exact Or.inl ⟨cc, v, p1, by omega, p3, p4⟩
        · rintro (⟨cc, v, p1, p2, p3, p4⟩ | ⟨v, p1, p2⟩)
          · exact ⟨cc, v, p1, by omega, p3, p4⟩
          · exact ⟨q, v, by omega, by omega, (hmem _ v).mp p1, p2⟩
      have hu' : (if 0 < q + 1 then min ((V (2 * so (3 * m) + 0)).length : Int) 4001 else 0) + (if 1 < q + 1 then min ((V (2 * so (3 * m) + 1)).length : Int) 4001 else 0) = u + Sc (2 * so (3 * m) + q) := by
        rw [hu, hagg.1]
        rcases (show q = 0 ∨ q = 1 by omega) with e1 | e1
        · rw [e1, if_pos (by omega), if_neg (by omega), if_neg (by omega), if_neg (by omega)]
          omega
        · rw [e1, if_pos (by omega), if_pos (by omega), if_pos (by omega), if_neg (by omega)]
          omega
      have hg1 : 0 ≤ 3 * m ∧ 3 * m < ((144 : Nat) : Int) := by omega
      have hg2 : 0 ≤ 2 * so (3 * m) + q ∧ 2 * so (3 * m) + q < ((96 : Nat) : Int) := by omega
      have hg3 : 0 ≤ 2 * m + q ∧ 2 * m + q < ((96 : Nat) : Int) := by omega
      refine ok_gi hg1 (ok_bd.mpr (ok_bd.mpr (ok_gi hg2 (ok_gr ⟨by omega, by omega⟩ (ok_if (fun h3 => ?_) (fun h3 => ?_))))))
      · have hnilV := (agg_0 (by omega) hagg).mp (by omega)
        refine hs1 _ _ _ _ ⟨by omega, mxF_cg (fun z => ?_) hX, mnF_cg (fun z => ?_) hY, ?_⟩ hmeas
        · rw [hsplit (fun cc v => v.2 + wL (3 * m) + su (2 * m + cc)) z]
          exact ⟨Or.inl, fun w => w.resolve_right (fun ⟨v, w1, _⟩ => by rw [hnilV] at w1; cases w1)⟩
        · rw [hsplit (fun cc v => v.1 + wE (3 * m) - ho (2 * m + cc)) z]
          exact ⟨Or.inl, fun w => w.resolve_right (fun ⟨v, w1, _⟩ => by rw [hnilV] at w1; cases w1)⟩
        · rw [hu']
          omega
      · have hneV : V (2 * so (3 * m) + q) ≠ [] := fun z => by have := (agg_0 (by omega) hagg).mpr z; omega
        obtain ⟨⟨m1, m2⟩, ⟨m3, m4⟩⟩ := hagg.2 hneV
        obtain ⟨ve, ve1, ve2⟩ := List.mem_map.mp m1
        obtain ⟨vl, vl1, vl2⟩ := List.mem_map.mp m3
        have be := hdb _ ve ((hmem _ ve).mp ve1)
        have bl := hdb _ vl ((hmem _ vl).mp vl1)
        have bsu := hsu (2 * m + q)
        have bho := hho (2 * m + q)
        refine ok_gi hg2 (ok_bd.mpr (ok_gi hg2 (ok_gi hg1 (ok_gi hg3 (ok_gr ⟨by omega, by omega⟩ (ok_gr ⟨by omega, by omega⟩ (ok_bd.mpr (ok_gi hg2 (ok_gi hg1 (ok_gi hg3 (ok_gr ⟨by omega, by omega⟩ (ok_gr ⟨by omega, by omega⟩ (ok_bd.mpr ?_)))))))))))))
        refine hs1 _ _ _ _ ⟨by omega, mxF_cg (fun z => (hsplit (fun cc v => v.2 + wL (3 * m) + su (2 * m + cc)) z).symm) (mxF_addS hX ⟨vl, vl1, by rw [vl2]⟩ (fun z ⟨v, w1, w2⟩ => ?_) (by omega)), mnF_cg (fun z => (hsplit (fun cc v => v.1 + wE (3 * m) - ho (2 * m + cc)) z).symm) (mnF_addS hY ⟨ve, ve1, by rw [ve2]⟩ (fun z ⟨v, w1, w2⟩ => ?_) (by omega)), hu'.symm⟩ hmeas
        · have := m4 v.2 (List.mem_map.mpr ⟨v, w1, rfl⟩)
          omega
        · have := m2 v.1 (List.mem_map.mpr ⟨v, w1, rfl⟩)
          omega
end RPR
