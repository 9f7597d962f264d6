/-! the class's arrivals, all of them -/
section RCK
variable {kd pn so se wE wL gE gL sE sL : Int → Int} {size wid : Int}
theorem bnd_V2 {V : Int → List (Int × Int)} {n lo B : Int} {u v : Int × Int} (h : bnd V lo B) (hu : (lo ≤ u.1 ∧ u.1 ≤ B) ∧ lo ≤ u.2 ∧ u.2 ≤ B) (hv : (lo ≤ v.1 ∧ v.1 ≤ B) ∧ lo ≤ v.2 ∧ v.2 ≤ B) : bnd (V2 V n u v) lo B := bnd_add (bnd_add h hu.1 hu.2) hv.1 hv.2
theorem V2_mem {V : Int → List (Int × Int)} {n s : Int} {u v z : Int × Int} : z ∈ V2 V n u v s ↔ z ∈ V s ∨ (s = 2 * n ∧ z = u) ∨ (s = 2 * n + 1 ∧ z = v) := by
  unfold V2
  rw [Vadd_mem, Vadd_mem, or_assoc]
/-- the times of the first ways of a node -/
def stP (wE wL gE gL sE sL : Int → Int) (wid B n : Int) (Os : List (Option (Int × List Int))) (s : Int) (v : Int × Int) : Prop := ∃ c o, (c = 0 ∨ c = 1) ∧ o ∈ Os ∧ s = 2 * n + c ∧ (B = 0 ↔ wbs wid o = 0) ∧ v = stv wE wL gE gL sE sL wid n c o
theorem s_arrivals {F : Nat} {G : Int → Int} {cn sz : Int} (hF : 200 ≤ F) (hz : 1 ≤ size ∧ size ≤ 48) (hwid : 1 ≤ wid ∧ wid ≤ 1000000) (hk : ∀ i, 0 ≤ kd i ∧ kd i ≤ 4) (hkd : ∀ i, kd i ≠ 0 → 0 < i ∧ i < size) (hk0 : kd 0 = 0) (hs : ∀ i, -1 ≤ so i ∧ so i < size) (hse : ∀ i, 0 ≤ se i ∧ se i ≤ 2) (hw : ∀ i, 0 ≤ wE i ∧ wE i ≤ wL i ∧ wL i ≤ 10000) (hg : ∀ i, 0 ≤ gE i ∧ gE i ≤ gL i ∧ gL i ≤ 10000) (hsr : ∀ i, -1000000 ≤ sE i ∧ sE i ≤ sL i ∧ sL i ≤ 1000000) (hp : ∀ i, 0 ≤ pn i ∧ pn i ≤ 3) (hcn : 0 ≤ cn ∧ cn ≤ 48) (hfu : full kd pn so se (lst G cn))
    {Wd : Int → Int × List Int} {c l ba e f Zc Ze Zl Vc Ve Vl : Int → Int} (hCO : ∀ n, 0 ≤ n → n < size → ∃ Os, CO kd pn so se wE wL gE gL wid sz Wd c l ba e f n Os) :
    ok (f_Arrivals_reckon F c ba e f Zc Ze Zl Vc Ve Vl cn G size kd pn so wE wL se gE gL sE sL) (fun r => ∃ VZ VV, RV 4001 (fG pn so se wE wL gE gL (lst G cn) VZ) r.1 r.2.1 r.2.2.1 ∧ RV 4001 (fG pn so se wE wL gE gL (lst G cn) VV) r.2.2.2.1 r.2.2.2.2.1 r.2.2.2.2.2 ∧ (∀ s v, v ∈ VZ s ↔ stS kd pn so se wE wL gE gL sE sL size wid 0 s v) ∧ ∀ s v, v ∈ VV s ↔ stS kd pn so se wE wL gE gL sE sL size wid 1 s v) := by
  have hGn : ∀ n ∈ lst G cn, 0 ≤ n ∧ n < 48 := fun n hn => by
    have := hkd n (by rw [topo_kd _ hfu.1.1 n hn]; omega)
    omega
  unfold f_Arrivals_reckon
  rw [e_clear (by omega), ob1_s, e_clear (by omega), ob1_s]
  refine lq7_ok (fun (v1 : Int) Z1 Z2 Z3 X1 X2 X3 => (0 ≤ v1 ∧ v1 ≤ size) ∧ ∃ VZ VV, RV 4001 VZ Z1 Z2 Z3 ∧ RV 4001 VV X1 X2 X3 ∧ bnd VZ (-5000000) 5000000 ∧ bnd VV (-5000000) 5000000 ∧ (∀ s v, v ∈ VZ s ↔ stS kd pn so se wE wL gE gL sE sL v1 wid 0 s v) ∧ ∀ s v, v ∈ VV s ↔ stS kd pn so se wE wL gE gL sE sL v1 wid 1 s v) (fun v1 _ _ _ _ _ _ => (48 - v1).toNat) _ ?_ F 0 _ _ _ _ _ _ ⟨by omega, fun _ => [], fun _ => [], RV_e (by omega), RV_e (by omega), bnd_e _ _, bnd_e _ _, fun s v => ⟨fun q => absurd q List.not_mem_nil, fun ⟨n, c, o, h, _⟩ => by omega⟩, fun s v => ⟨fun q => absurd q List.not_mem_nil, fun ⟨n, c, o, h, _⟩ => by omega⟩⟩ (by show (48 - (0 : Int)).toNat < F; omega)
  rintro self v1 Z1 Z2 Z3 X1 X2 X3 ⟨hv1, VZ, VV, hZ, hV, bZ, bV, mZ, mV⟩ hs1
  unfold f_Arrivals_reckon_b16
  refine ok_gr ⟨by omega, by omega⟩ (ok_gr ⟨by omega, by omega⟩ (ok_if (fun h => ?_) (fun h => ?_)))
  · have ev : v1 = size := by omega
    rw [ev] at mZ mV
    refine ok_ob3 (s_spread (by omega) (fun i => by have := hs i; omega) hse hw hg hp hcn hGn hZ bZ (by omega) (by omega)) (fun a1 a2 a3 h1 => ?_)
    refine ok_ob3 (s_spread (by omega) (fun i => by have := hs i; omega) hse hw hg hp hcn hGn hV bV (by omega) (by omega)) (fun b1 b2 b3 h2 => ?_)
    exact ok_some.mpr ⟨VZ, VV, h1, h2, mZ, mV⟩
  · obtain ⟨Os, o1, o2, o3, o4⟩ := hCO v1 hv1.1 (by omega)
    have hkv := hk v1
    refine lq7_ok (fun (v2 : Int) Z1 Z2 Z3 X1 X2 X3 => ∃ (k : Nat), v2 = (k : Int) ∧ k ≤ Os.length ∧ (0 < k → kd v1 = 1 ∨ kd v1 = 3) ∧ ∃ VZ VV, RV 4001 VZ Z1 Z2 Z3 ∧ RV 4001 VV X1 X2 X3 ∧ bnd VZ (-5000000) 5000000 ∧ bnd VV (-5000000) 5000000 ∧ (∀ s v, v ∈ VZ s ↔ stS kd pn so se wE wL gE gL sE sL v1 wid 0 s v ∨ stP wE wL gE gL sE sL wid 0 v1 (Os.take k) s v) ∧ ∀ s v, v ∈ VV s ↔ stS kd pn so se wE wL gE gL sE sL v1 wid 1 s v ∨ stP wE wL gE gL sE sL wid 1 v1 (Os.take k) s v) (fun v2 _ _ _ _ _ _ => (8 - v2).toNat) _ ?_ F 0 _ _ _ _ _ _ ⟨0, rfl, Nat.zero_le _, fun q => by omega, VZ, VV, hZ, hV, bZ, bV, fun s v => ?_, fun s v => ?_⟩ (by show (8 - (0 : Int)).toNat < F; omega)
    · clear hZ hV bZ bV mZ mV VZ VV Z1 Z2 Z3 X1 X2 X3
      rintro self2 v2 Z1 Z2 Z3 X1 X2 X3 ⟨k, hk2, hkl, hst, VZ, VV, hZ, hV, bZ, bV, mZ, mV⟩ hs2
      have hout : (¬ (kd v1 = 1 ∨ kd v1 = 3) ∨ k = Os.length) → ok (f_Arrivals_reckon_j70 F v1 self Z1 Z2 Z3 X1 X2 X3) (fun r => ∃ VZ VV, RV 4001 (fG pn so se wE wL gE gL (lst G cn) VZ) r.1 r.2.1 r.2.2.1 ∧ RV 4001 (fG pn so se wE wL gE gL (lst G cn) VV) r.2.2.2.1 r.2.2.2.2.1 r.2.2.2.2.2 ∧ (∀ s v, v ∈ VZ s ↔ stS kd pn so se wE wL gE gL sE sL size wid 0 s v) ∧ ∀ s v, v ∈ VV s ↔ stS kd pn so se wE wL gE gL sE sL size wid 1 s v) := by
        intro hc
        have hiff : ∀ B s v, (stS kd pn so se wE wL gE gL sE sL v1 wid B s v ∨ stP wE wL gE gL sE sL wid B v1 (Os.take k) s v) ↔ stS kd pn so se wE wL gE gL sE sL (v1 + 1) wid B s v := by
          intro B s v
          constructor
          · rintro (⟨n, c, o, a1, a2, a3, a4, a5⟩ | ⟨c, o, a1, a2, a3, a4, a5⟩)
            · exact ⟨n, c, o, by omega, a2, a3, a4, a5⟩
            · have hk0 : 0 < k := by
                cases k with
                | zero => rw [List.take_zero] at a2; cases a2
                | succ k => omega
              exact ⟨v1, c, o, by omega, a1, hst hk0, o1.mem_iff.mp (List.mem_of_mem_take a2), a3, a4, a5⟩
          · rintro ⟨n, c, o, a1, a2, a3, a4, a5, a6, a7⟩
            by_cases en : n = v1
            · subst en
              right
              have hkk := hc.resolve_left (fun z => z a3)
              rw [hkk, List.take_length]
              exact ⟨c, o, a2, o1.mem_iff.mpr a4, a5, a6, a7⟩
            · exact Or.inl ⟨n, c, o, by omega, a2, a3, a4, a5, a6, a7⟩
        exact hs1 _ _ _ _ _ _ _ ⟨by omega, VZ, VV, hZ, hV, bZ, bV, fun s v => (mZ s v).trans (hiff 0 s v), fun s v => (mV s v).trans (hiff 1 s v)⟩ (by show (48 - (v1 + 1)).toNat < (48 - v1).toNat; omega)
      unfold f_Arrivals_reckon_b29
      rw [e_isStart hz hk (by omega), ob1_s]
      have z1 := bz_1 ((0 ≤ v1 ∧ v1 < size) ∧ (kd v1 = 1 ∨ kd v1 = 3))
      have z2 := bz_01 ((0 ≤ v1 ∧ v1 < size) ∧ (kd v1 = 1 ∨ kd v1 = 3))
      refine ok_gr ⟨by omega, by omega⟩ (ok_if (fun h1 => hout (Or.inl (by omega))) (fun h1 => ?_))
      have hkst : kd v1 = 1 ∨ kd v1 = 3 := (z1.mp (by omega)).2
      refine ok_gi ⟨by omega, by omega⟩ (ok_gr ⟨by omega, by omega⟩ (ok_gr ⟨by omega, by omega⟩ (ok_if (fun h2 => hout (Or.inr (by omega))) (fun h2 => ?_))))
      have hkL : k < Os.length := by omega
      have hget : Os[k]? = some Os[k] := List.getElem?_eq_getElem hkL
      obtain ⟨-, x2, x3, x4⟩ := o4 k _ hget
      have hmem : Os[k] ∈ wys kd pn so se v1 := o1.mem_iff.mp (List.getElem_mem hkL)
      have rB := wbs_b (wid := wid) hwid.1 Os[k]
      have rE := wdl_b (wE := wE) (gE := gE) hz.2 hkd hk0 (fun i => by have := hw i; omega) (fun i => by have := hg i; omega) hfu hmem v1
      have rL := wdl_b (wE := wL) (gE := gL) hz.2 hkd hk0 (fun i => by have := hw i; omega) (fun i => by have := hg i; omega) hfu hmem v1
      rw [show v1 * 8 + v2 = 8 * v1 + (k : Int) by omega]
      refine ok_ob6 (s_begin hF (n := v1) (by omega) (q := 8 * v1 + (k : Int)) (by omega) x2 x3 x4 (by omega) rE rL hsr hZ hV bZ bV) (fun a1 a2 a3 b1 b2 b3 hr => ?_)
      have s0 := hsr (2 * v1 + 0)
      have s1 := hsr (2 * v1 + 1)
      have htk : Os.take (k + 1) = Os.take k ++ [Os[k]] := by rw [List.take_add_one, hget]; rfl
      have hP : ∀ B s v, stP wE wL gE gL sE sL wid B v1 (Os.take (k + 1)) s v ↔ stP wE wL gE gL sE sL wid B v1 (Os.take k) s v ∨ ((B = 0 ↔ wbs wid Os[k] = 0) ∧ ((s = 2 * v1 ∧ v = stv wE wL gE gL sE sL wid v1 0 Os[k]) ∨ (s = 2 * v1 + 1 ∧ v = stv wE wL gE gL sE sL wid v1 1 Os[k]))) := by
        intro B s v
        unfold stP
        rw [htk]
        constructor
        · rintro ⟨c, o, a1, a2, a3, a4, a5⟩
          rcases List.mem_append.mp a2 with q | q
          · exact Or.inl ⟨c, o, a1, q, a3, a4, a5⟩
          · have eo := List.mem_singleton.mp q
            subst eo
            right
            refine ⟨a4, ?_⟩
            rcases a1 with rfl | rfl
            · exact Or.inl ⟨by omega, a5⟩
            · exact Or.inr ⟨a3, a5⟩
        · rintro (⟨c, o, a1, a2, a3, a4, a5⟩ | ⟨a4, ⟨a3, a5⟩ | ⟨a3, a5⟩⟩)
          · exact ⟨c, o, a1, List.mem_append_left _ a2, a3, a4, a5⟩
          · exact ⟨0, _, Or.inl rfl, List.mem_append_right _ (List.mem_singleton.mpr rfl), by omega, a4, a5⟩
          · exact ⟨1, _, Or.inr rfl, List.mem_append_right _ (List.mem_singleton.mpr rfl), a3, a4, a5⟩
      have bu : ((-5000000 : Int) ≤ wbs wid Os[k] + wdl wE gE v1 Os[k] + sE (2 * v1 + 0) ∧ wbs wid Os[k] + wdl wE gE v1 Os[k] + sE (2 * v1 + 0) ≤ 5000000) ∧ (-5000000 : Int) ≤ wbs wid Os[k] + wdl wL gL v1 Os[k] + sL (2 * v1 + 0) ∧ wbs wid Os[k] + wdl wL gL v1 Os[k] + sL (2 * v1 + 0) ≤ 5000000 := by omega
      have bw' : ((-5000000 : Int) ≤ wbs wid Os[k] + wdl wE gE v1 Os[k] + sE (2 * v1 + 1) ∧ wbs wid Os[k] + wdl wE gE v1 Os[k] + sE (2 * v1 + 1) ≤ 5000000) ∧ (-5000000 : Int) ≤ wbs wid Os[k] + wdl wL gL v1 Os[k] + sL (2 * v1 + 1) ∧ wbs wid Os[k] + wdl wL gL v1 Os[k] + sL (2 * v1 + 1) ≤ 5000000 := by omega
      have hnew : ∀ (V : Int → List (Int × Int)) (B : Int), (B = 0 ↔ wbs wid Os[k] = 0) → (∀ s v, v ∈ V s ↔ stS kd pn so se wE wL gE gL sE sL v1 wid B s v ∨ stP wE wL gE gL sE sL wid B v1 (Os.take k) s v) → ∀ s v, v ∈ V2 V v1 (wbs wid Os[k] + wdl wE gE v1 Os[k] + sE (2 * v1 + 0), wbs wid Os[k] + wdl wL gL v1 Os[k] + sL (2 * v1 + 0)) (wbs wid Os[k] + wdl wE gE v1 Os[k] + sE (2 * v1 + 1), wbs wid Os[k] + wdl wL gL v1 Os[k] + sL (2 * v1 + 1)) s ↔ stS kd pn so se wE wL gE gL sE sL v1 wid B s v ∨ stP wE wL gE gL sE sL wid B v1 (Os.take (k + 1)) s v := by
        intro V B hB hm s v
        rw [V2_mem, hm s v, hP B s v, or_assoc]
        exact ⟨fun q => q.imp id (fun r => r.imp id (fun t => ⟨hB, t⟩)), fun q => q.imp id (fun r => r.imp id (fun t => t.2))⟩
      have hold : ∀ (V : Int → List (Int × Int)) (B : Int), ¬ (B = 0 ↔ wbs wid Os[k] = 0) → (∀ s v, v ∈ V s ↔ stS kd pn so se wE wL gE gL sE sL v1 wid B s v ∨ stP wE wL gE gL sE sL wid B v1 (Os.take k) s v) → ∀ s v, v ∈ V s ↔ stS kd pn so se wE wL gE gL sE sL v1 wid B s v ∨ stP wE wL gE gL sE sL wid B v1 (Os.take (k + 1)) s v := by
        intro V B hB hm s v
        rw [hm s v, hP B s v]
        exact ⟨fun q => q.imp id Or.inl, fun q => q.imp id (fun r => r.resolve_right (fun t => hB t.1))⟩
      by_cases hb0 : wbs wid Os[k] = 0
      · obtain ⟨q1, q2⟩ := hr.1 hb0
        exact hs2 _ _ _ _ _ _ _ ⟨k + 1, by omega, by omega, fun _ => hkst, _, VV, q1, q2, bnd_V2 bZ bu bw', bV, hnew VZ 0 (by omega) mZ, hold VV 1 (by omega) mV⟩ (by show (8 - (v2 + 1)).toNat < (8 - v2).toNat; omega)
      · obtain ⟨q1, q2⟩ := hr.2 hb0
        exact hs2 _ _ _ _ _ _ _ ⟨k + 1, by omega, by omega, fun _ => hkst, VZ, _, q1, q2, bZ, bnd_V2 bV bu bw', hold VZ 0 (by omega) mZ, hnew VV 1 (by omega) mV⟩ (by show (8 - (v2 + 1)).toNat < (8 - v2).toNat; omega)
    · rw [mZ s v]
      exact ⟨Or.inl, fun q => q.elim id (fun ⟨c, o, _, a2, _⟩ => by rw [List.take_zero] at a2; cases a2)⟩
    · rw [mV s v]
      exact ⟨Or.inl, fun q => q.elim id (fun ⟨c, o, _, a2, _⟩ => by rw [List.take_zero] at a2; cases a2)⟩
end RCK
