/-! the class's rooms of a start and an end -/
section MEA
variable {kd pn so se wE wL gE gL : Int → Int} {size wid per : Int}
/-- pairs gone over: all with a first below k, and those of k with a second below q -/
def prs (k q i j : Nat) : Prop := i < k ∨ (i = k ∧ j < q)
def RMi (wE wL gE gL : Int → Int) (per wid n : Int) (Os : List (Option (Int × List Int))) (m : Int) (Os' : List (Option (Int × List Int))) (k q : Nat) (S H : Int → Int) (lm lf lh : Int) : Prop :=
  (∀ i j o o', prs k q i j → Os[i]? = some o → Os'[j]? = some o' → S (8 * i + j) = srm wE wL gE gL per wid n o m o' ∧ H (8 * i + j) = hrm wE wL gE gL per wid n o m o') ∧
  mnF (fun x => ∃ i j o o', prs k q i j ∧ Os[i]? = some o ∧ Os'[j]? = some o' ∧ wbs wid o' ≤ wbs wid o ∧ x = srm wE wL gE gL per wid n o m o') lm ∧
  mnF (fun x => ∃ i j o o', prs k q i j ∧ Os[i]? = some o ∧ Os'[j]? = some o' ∧ ¬ wbs wid o' ≤ wbs wid o ∧ x = srm wE wL gE gL per wid n o m o') lf ∧
  mnF (fun x => ∃ i j o o', prs k q i j ∧ Os[i]? = some o ∧ Os'[j]? = some o' ∧ x = hrm wE wL gE gL per wid n o m o') lh
/-- the rooms of all pairs of ways -/
def RM (wE wL gE gL : Int → Int) (per wid n : Int) (Os : List (Option (Int × List Int))) (m : Int) (Os' : List (Option (Int × List Int))) (S H : Int → Int) (lm lf lh : Int) : Prop :=
  (∀ (i j : Nat) o o', Os[i]? = some o → Os'[j]? = some o' → S (8 * i + j) = srm wE wL gE gL per wid n o m o' ∧ H (8 * i + j) = hrm wE wL gE gL per wid n o m o') ∧
  mnF (fun x => ∃ o o', o ∈ Os ∧ o' ∈ Os' ∧ wbs wid o' ≤ wbs wid o ∧ x = srm wE wL gE gL per wid n o m o') lm ∧
  mnF (fun x => ∃ o o', o ∈ Os ∧ o' ∈ Os' ∧ ¬ wbs wid o' ≤ wbs wid o ∧ x = srm wE wL gE gL per wid n o m o') lf ∧
  mnF (fun x => ∃ o o', o ∈ Os ∧ o' ∈ Os' ∧ x = hrm wE wL gE gL per wid n o m o') lh
theorem getE_lt {α : Type} {l : List α} {i : Nat} {x : α} (h : l[i]? = some x) : i < l.length := by
  by_cases q : i < l.length
  · exact q
  · rw [List.getElem?_eq_none (by omega)] at h; cases h
theorem s_measure {F : Nat} {sz : Int} {el pa ln ea la fi nx : Int → Int} {Wd : Int → Int × List Int} {Ch : Int → List Int} (hF : 200 ≤ F) (hz : size ≤ 48) (hwid : 1 ≤ wid ∧ wid < per ∧ per ≤ 1000000) (hkd : ∀ i, kd i ≠ 0 → 0 < i ∧ i < size) (hk0 : kd 0 = 0) (hw : ∀ i, 0 ≤ wE i ∧ wE i ≤ wL i ∧ wL i ≤ 10000) (hg : ∀ i, 0 ≤ gE i ∧ gE i ≤ gL i ∧ gL i ≤ 10000) {os : List Int} (hfu : full kd pn so se os) (hT : TR (dE wE gE) (dE wL gL) sz el pa ln ea la fi nx Wd Ch) (hinj : ∀ t u, 0 ≤ t → t < sz → 0 ≤ u → u < sz → Wd t = Wd u → t = u)
    {c l ba e f S H : Int → Int} {n m : Int} {Os Os' : List (Option (Int × List Int))} (hn : 0 ≤ n ∧ n < 48) (hm : 0 ≤ m ∧ m < 48) (hO : CO kd pn so se wE wL gE gL wid sz Wd c l ba e f n Os) (hO' : CO kd pn so se wE wL gE gL wid sz Wd c l ba e f m Os') :
    ok (f_Rooms_measure F S H pa ln ea la c l ba e f per wE wL n m) (fun r => RM wE wL gE gL per wid n Os m Os' r.1 r.2.1 r.2.2.1 r.2.2.2.1 r.2.2.2.2) := by
  obtain ⟨a1, a2, a3, a4⟩ := hO
  obtain ⟨b1, b2, b3, b4⟩ := hO'
  have hlo1 : ∀ i j o o', Os[i]? = some o → Os'[j]? = some o' → (-9000000 ≤ srm wE wL gE gL per wid n o m o' ∧ srm wE wL gE gL per wid n o m o' ≤ 9000000) ∧ -9000000 ≤ hrm wE wL gE gL per wid n o m o' ∧ hrm wE wL gE gL per wid n o m o' ≤ 9000000 := fun i j o o' h1 h2 => rm_b hz hwid hkd hk0 hw hg hfu (a1.mem_iff.mp (List.mem_of_getElem? h1)) (b1.mem_iff.mp (List.mem_of_getElem? h2))
  unfold f_Rooms_measure
  refine lq6_ok (fun (v : Int) S H lm lf lh => ∃ k : Nat, v = (k : Int) ∧ k ≤ Os.length ∧ RMi wE wL gE gL per wid n Os m Os' k 0 S H lm lf lh) (fun v _ _ _ _ _ => (8 - v).toNat) _ ?_ F 0 S H _ _ _ ⟨0, rfl, Nat.zero_le _, ?_, ?_, ?_, ?_⟩ (by show (8 - (0 : Int)).toNat < F; omega)
  · rintro self v S H lm lf lh ⟨k, hk, hkl, hI⟩ hs
    unfold f_Rooms_measure_b20
    refine ok_gi hn (ok_gr ⟨by omega, by omega⟩ (ok_gr ⟨by omega, by omega⟩ (ok_if (fun h => ?_) (fun h => ?_))))
    · have ek : k = Os.length := by omega
      obtain ⟨i1, i2, i3, i4⟩ := hI
      have hp : ∀ i j o, Os[i]? = some o → prs k 0 i j := fun i j o q => Or.inl (by have := getE_lt q; omega)
      refine ok_some.mpr ⟨fun i j o o' q1 q2 => i1 i j o o' (hp i j o q1) q1 q2, mnF_cg (fun x => ?_) i2, mnF_cg (fun x => ?_) i3, mnF_cg (fun x => ?_) i4⟩
      · constructor
        · rintro ⟨i, j, o, o', -, q1, q2, q3, q4⟩; exact ⟨o, o', List.mem_of_getElem? q1, List.mem_of_getElem? q2, q3, q4⟩
        · rintro ⟨o, o', q1, q2, q3, q4⟩
          obtain ⟨i, hi⟩ := List.getElem?_of_mem q1
          obtain ⟨j, hj⟩ := List.getElem?_of_mem q2
          exact ⟨i, j, o, o', hp i j o hi, hi, hj, q3, q4⟩
      · constructor
        · rintro ⟨i, j, o, o', -, q1, q2, q3, q4⟩; exact ⟨o, o', List.mem_of_getElem? q1, List.mem_of_getElem? q2, q3, q4⟩
        · rintro ⟨o, o', q1, q2, q3, q4⟩
          obtain ⟨i, hi⟩ := List.getElem?_of_mem q1
          obtain ⟨j, hj⟩ := List.getElem?_of_mem q2
          exact ⟨i, j, o, o', hp i j o hi, hi, hj, q3, q4⟩
      · constructor
        · rintro ⟨i, j, o, o', -, q1, q2, q4⟩; exact ⟨o, o', List.mem_of_getElem? q1, List.mem_of_getElem? q2, q4⟩
        · rintro ⟨o, o', q1, q2, q4⟩
          obtain ⟨i, hi⟩ := List.getElem?_of_mem q1
          obtain ⟨j, hj⟩ := List.getElem?_of_mem q2
          exact ⟨i, j, o, o', hp i j o hi, hi, hj, q4⟩
    · have hkL : k < Os.length := by omega
      have hgk : Os[k]? = some Os[k] := List.getElem?_eq_getElem hkL
      refine lq6_ok (fun (u : Int) S H lm lf lh => ∃ q : Nat, u = (q : Int) ∧ q ≤ Os'.length ∧ RMi wE wL gE gL per wid n Os m Os' k q S H lm lf lh) (fun u _ _ _ _ _ => (8 - u).toNat) _ ?_ F 0 S H lm lf lh ⟨0, rfl, Nat.zero_le _, hI⟩ (by show (8 - (0 : Int)).toNat < F; omega)
      clear hI S H lm lf lh
      rintro self2 u S H lm lf lh ⟨q, hq, hql, i1, i2, i3, i4⟩ hs2
      unfold f_Rooms_measure_b36
      refine ok_gi hm (ok_gr ⟨by omega, by omega⟩ (ok_gr ⟨by omega, by omega⟩ (ok_if (fun h2 => ?_) (fun h2 => ?_))))
      · have eq : q = Os'.length := by omega
        have hp : ∀ i j o', Os'[j]? = some o' → (prs k q i j ↔ prs (k + 1) 0 i j) := by
          intro i j o' z
          have := getE_lt z
          unfold prs
          omega
        refine hs _ _ _ _ _ _ ⟨k + 1, by omega, by omega, fun i j o o' z q1 q2 => i1 i j o o' ((hp i j o' q2).mpr z) q1 q2, mnF_cg (fun x => ?_) i2, mnF_cg (fun x => ?_) i3, mnF_cg (fun x => ?_) i4⟩ (by show (8 - (v + 1)).toNat < (8 - v).toNat; omega)
        · exact ⟨fun ⟨i, j, o, o', z, q1, q2, q3⟩ => ⟨i, j, o, o', (hp i j o' q2).mp z, q1, q2, q3⟩, fun ⟨i, j, o, o', z, q1, q2, q3⟩ => ⟨i, j, o, o', (hp i j o' q2).mpr z, q1, q2, q3⟩⟩
        · exact ⟨fun ⟨i, j, o, o', z, q1, q2, q3⟩ => ⟨i, j, o, o', (hp i j o' q2).mp z, q1, q2, q3⟩, fun ⟨i, j, o, o', z, q1, q2, q3⟩ => ⟨i, j, o, o', (hp i j o' q2).mpr z, q1, q2, q3⟩⟩
        · exact ⟨fun ⟨i, j, o, o', z, q1, q2, q3⟩ => ⟨i, j, o, o', (hp i j o' q2).mp z, q1, q2, q3⟩, fun ⟨i, j, o, o', z, q1, q2, q3⟩ => ⟨i, j, o, o', (hp i j o' q2).mpr z, q1, q2, q3⟩⟩
      · have hqL : q < Os'.length := by omega
        have hgq : Os'[q]? = some Os'[q] := List.getElem?_eq_getElem hqL
        have hbb := hlo1 k q _ _ hgk hgq
        have ho := a1.mem_iff.mp (List.getElem_mem hkL)
        have ho' := b1.mem_iff.mp (List.getElem_mem hqL)
        have r1 := mnF_r i2 (fun x ⟨i, j, o, o', z, q1, q2, q3, q4⟩ => by have := hlo1 i j o o' q1 q2; omega)
        have r2 := mnF_r i3 (fun x ⟨i, j, o, o', z, q1, q2, q3, q4⟩ => by have := hlo1 i j o o' q1 q2; omega)
        have r3 := mnF_r i4 (fun x ⟨i, j, o, o', z, q1, q2, q4⟩ => by have := hlo1 i j o o' q1 q2; omega)
        rw [hk, hq, e_measurePair (a := wE) (b := wE) hF hz hwid hkd hk0 hw hg hfu hT hinj hn hm (by omega) (by omega) ho ho' (a4 k _ hgk) (b4 q _ hgq) r1 r2 r3, ob5_s]
        have hp : ∀ i j, prs k (q + 1) i j ↔ prs k q i j ∨ (i = k ∧ j = q) := by
          intro i j
          unfold prs
          omega
        have hnew : ∀ (P : Nat → Nat → Option (Int × List Int) → Option (Int × List Int) → Prop), (∃ i j o o', prs k (q + 1) i j ∧ Os[i]? = some o ∧ Os'[j]? = some o' ∧ P i j o o') ↔ (∃ i j o o', prs k q i j ∧ Os[i]? = some o ∧ Os'[j]? = some o' ∧ P i j o o') ∨ P k q Os[k] Os'[q] := by
          intro P
          constructor
          · rintro ⟨i, j, o, o', z, q1, q2, q3⟩
            rcases (hp i j).mp z with z | ⟨rfl, rfl⟩
            · exact Or.inl ⟨i, j, o, o', z, q1, q2, q3⟩
            · right
              have e1 := Option.some.inj (q1.symm.trans hgk)
              have e2 := Option.some.inj (q2.symm.trans hgq)
              rw [← e1, ← e2]; exact q3
          · rintro (⟨i, j, o, o', z, q1, q2, q3⟩ | z)
            · exact ⟨i, j, o, o', (hp i j).mpr (Or.inl z), q1, q2, q3⟩
            · exact ⟨k, q, _, _, (hp k q).mpr (Or.inr ⟨rfl, rfl⟩), hgk, hgq, z⟩
        refine hs2 _ _ _ _ _ _ ⟨q + 1, by omega, by omega, fun i j o o' z q1 q2 => ?_, ?_, ?_, ?_⟩ (by show (8 - ((q : Int) + 1)).toNat < (8 - u).toNat; omega)
        · have hi8 := getE_lt q1
          have hj8 := getE_lt q2
          rw [ui_e, ui_e]
          by_cases e1 : i = k ∧ j = q
          · obtain ⟨rfl, rfl⟩ := e1
            have e1 := Option.some.inj (q1.symm.trans hgk)
            have e2 := Option.some.inj (q2.symm.trans hgq)
            rw [if_pos rfl, if_pos rfl, e1, e2]
            exact ⟨rfl, rfl⟩
          · rw [if_neg (by omega), if_neg (by omega)]
            exact i1 i j o o' (((hp i j).mp z).resolve_right e1) q1 q2
        · by_cases hmv : wbs wid Os'[q] ≤ wbs wid Os[k]
          · rw [if_pos hmv]
            refine mnF_cg (fun x => ?_) (mnF_add i2 (by omega))
            rw [hnew (fun _ _ o o' => wbs wid o' ≤ wbs wid o ∧ x = srm wE wL gE gL per wid n o m o')]
            exact ⟨fun z => z.imp id (fun r => ⟨hmv, r⟩), fun z => z.imp id (fun r => r.2)⟩
          · rw [if_neg hmv]
            refine mnF_cg (fun x => ?_) i2
            rw [hnew (fun _ _ o o' => wbs wid o' ≤ wbs wid o ∧ x = srm wE wL gE gL per wid n o m o')]
            exact ⟨Or.inl, fun z => z.resolve_right (fun r => hmv r.1)⟩
        · by_cases hmv : wbs wid Os'[q] ≤ wbs wid Os[k]
          · rw [if_pos hmv]
            refine mnF_cg (fun x => ?_) i3
            rw [hnew (fun _ _ o o' => ¬ wbs wid o' ≤ wbs wid o ∧ x = srm wE wL gE gL per wid n o m o')]
            exact ⟨Or.inl, fun z => z.resolve_right (fun r => r.1 hmv)⟩
          · rw [if_neg hmv]
            refine mnF_cg (fun x => ?_) (mnF_add i3 (by omega))
            rw [hnew (fun _ _ o o' => ¬ wbs wid o' ≤ wbs wid o ∧ x = srm wE wL gE gL per wid n o m o')]
            exact ⟨fun z => z.imp id (fun r => ⟨hmv, r⟩), fun z => z.imp id (fun r => r.2)⟩
        · refine mnF_cg (fun x => ?_) (mnF_add i4 (by omega))
          exact (hnew (fun _ _ o o' => x = hrm wE wL gE gL per wid n o m o')).symm
  · intro i j o o' z
    rcases z with z | z <;> omega
  · exact mnF_0 (fun x ⟨i, j, o, o', z, _⟩ => by rcases z with z | z <;> omega)
  · exact mnF_0 (fun x ⟨i, j, o, o', z, _⟩ => by rcases z with z | z <;> omega)
  · exact mnF_0 (fun x ⟨i, j, o, o', z, _⟩ => by rcases z with z | z <;> omega)
end MEA
