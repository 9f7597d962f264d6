/-! the reference from one start -/
section FST
variable {F : Nat} {kd pn so se wE wL gE gL fo sc : Int → Int} {size wid per : Int} {wc wb we wl wla wsz wr wsp : Int → Int} {LL : Int → List (Int × List Int)}
/-- one start's arrivals at a node -/
def UN (kd so wE wL : Int → Int) (W : Int → List (Int × Int)) (m c : Int) (u : Int × Int) : Prop := ((kd m = 1 ∨ kd m = 2) ∧ u ∈ W (2 * m + c)) ∨ ((kd m = 4 ∨ kd m = 3) ∧ UE so wE wL W m c u)
def XN (kd pn so se : Int → Int) (Q : Int → Int → Option (Int × List Int) → Int → Prop) (m x : Int) : Prop := (kd m = 4 ∨ kd m = 3) ∧ XQ kd pn so se Q 2 m x
theorem AT_cg {m b k : Int} {U V : Int → (Int × Int) → Prop} {A0 B0 A B : Int → Int} (h : AT m b k U A0 B0 A B) (e : ∀ c u, U c u ↔ V c u) : AT m b k V A0 B0 A B := by
  have : U = V := funext fun c => funext fun u => propext (e c u)
  rw [← this]; exact h
theorem s_fromStart {n c0 p B a b ww wo b0 gts : Int} {o : Option (Int × List Int)} {fr od dM dN T E L A B1 S : Int → Int} {PL PG : Int → Int → Int → Int → Prop} {P0 P1 : Int → Int → Prop} {Pw Po : Int → Prop} (hF : 200 ≤ F) (hz : 1 ≤ size ∧ size ≤ 48) (hk : ∀ i, 0 ≤ kd i ∧ kd i ≤ 4) (hs : ∀ i, -1 ≤ so i ∧ so i < size) (hse : ∀ i, 0 ≤ se i ∧ se i ≤ 2) (hp : ∀ i, 0 ≤ pn i ∧ pn i ≤ 3) (hw : ∀ i, 0 ≤ wE i ∧ wE i ≤ wL i ∧ wL i ≤ 10000) (hg : ∀ i, 0 ≤ gE i ∧ gE i ≤ gL i ∧ gL i ≤ 10000)
    (hfr : ∀ i, 0 ≤ i → i < 3 * size → (so i = -1 ∧ fr i = -2147483648) ∨ (0 ≤ so i ∧ fr i = so i)) (hfr2 : ∀ i, -2147483648 ≤ fr i ∧ fr i < size) (hgt : 0 ≤ gts ∧ gts ≤ 48) (hG : ∀ n ∈ lst od gts, 0 ≤ n ∧ n < size) (hd : ∀ n ∈ lst od gts, ∀ p c, 0 ≤ p → p < 3 → (c = 0 ∨ c = 1) → dM (6 * n + 2 * p + c) = gE (2 * (3 * n + p) + c) ∧ dN (6 * n + 2 * p + c) = gL (2 * (3 * n + p) + c))
    (hs0 : 0 ≤ 2 * n + c0 ∧ 2 * n + c0 < 96) (ha : -100000000 ≤ a ∧ a ≤ 100000000) (hb : -100000000 ≤ b ∧ b ≤ 100000000) (hb0 : b0 = if B = 0 then 0 else 1) (hMS : MS kd pn so se wE wL gE gL fo sc size wid per wc wb we wl wla wsz wr wsp LL n p B o (fG pn so se wE wL gE gL (lst od gts) (V1 (2 * n + c0) a b)))
    (hA : FA (UN kd so wE wL (fG pn so se wE wL gE gL (lst od gts) (V1 (2 * n + c0) a b))) b0 0 PL PG A B1)
    (hS : FS (XN kd pn so se (Y0 so wE wL gE gL fo per wid (fG pn so se wE wL gE gL (lst od gts) (V1 (2 * n + c0) a b)) n o (fun _ => True))) (XN kd pn so se (Y1 so wE wL gE gL sc per wid (fG pn so se wE wL gE gL (lst od gts) (V1 (2 * n + c0) a b)) n o)) (XN kd pn so se (Y0 so wE wL gE gL fo per wid (fG pn so se wE wL gE gL (lst od gts) (V1 (2 * n + c0) a b)) n o (fun o' => wbs wid o' ≤ wbs wid o))) (XN kd pn so se (Y0 so wE wL gE gL fo per wid (fG pn so se wE wL gE gL (lst od gts) (V1 (2 * n + c0) a b)) n o (fun o' => ¬ wbs wid o' ≤ wbs wid o))) 0 P0 P1 Pw Po S ww wo) :
    ok (f_M_fromStart F per size gts n c0 p B a b ww wo kd pn fr wE wL se dM dN fo sc od wc wb we wl wla wsz wr wsp T E L A B1 S) (fun r => FA (UN kd so wE wL (fG pn so se wE wL gE gL (lst od gts) (V1 (2 * n + c0) a b))) b0 size PL PG r.2.2.2.1 r.2.2.2.2.1 ∧
      FS (XN kd pn so se (Y0 so wE wL gE gL fo per wid (fG pn so se wE wL gE gL (lst od gts) (V1 (2 * n + c0) a b)) n o (fun _ => True))) (XN kd pn so se (Y1 so wE wL gE gL sc per wid (fG pn so se wE wL gE gL (lst od gts) (V1 (2 * n + c0) a b)) n o)) (XN kd pn so se (Y0 so wE wL gE gL fo per wid (fG pn so se wE wL gE gL (lst od gts) (V1 (2 * n + c0) a b)) n o (fun o' => wbs wid o' ≤ wbs wid o))) (XN kd pn so se (Y0 so wE wL gE gL fo per wid (fG pn so se wE wL gE gL (lst od gts) (V1 (2 * n + c0) a b)) n o (fun o' => ¬ wbs wid o' ≤ wbs wid o))) size P0 P1 Pw Po r.2.2.2.2.2.1 r.2.2.2.2.2.2.1 r.2.2.2.2.2.2.2) := by
  unfold f_M_fromStart
  refine ok_ob3 (s_lead (so := so) (gE := gE) (gL := gL) hF hz hse hp hw hg hfr hfr2 hgt hG hd hs0 ha hb) (fun T E L hR => ?_)
  obtain ⟨W, hWe⟩ : ∃ W, W = fG pn so se wE wL gE gL (lst od gts) (V1 (2 * n + c0) a b) := ⟨_, rfl⟩
  simp only at hR
  rw [← hWe] at hR hMS hA hS ⊢
  have hb01 : b0 = 0 ∨ b0 = 1 := by rw [hb0]; by_cases q : B = 0
                                    · rw [if_pos q]; exact Or.inl rfl
                                    · rw [if_neg q]; exact Or.inr rfl
  have hBr := wbs_b hMS.1.1 o
  have hBe := hMS.2.2.2.1
  have hWb := hMS.2.2.2.2.1
  have hwr := hMS.1
  refine lq6_ok (fun (v : Int) A B1 S ww wo => (0 ≤ v ∧ v ≤ size) ∧ FA (UN kd so wE wL W) b0 v PL PG A B1 ∧ FS (XN kd pn so se (Y0 so wE wL gE gL fo per wid W n o (fun _ => True))) (XN kd pn so se (Y1 so wE wL gE gL sc per wid W n o)) (XN kd pn so se (Y0 so wE wL gE gL fo per wid W n o (fun o' => wbs wid o' ≤ wbs wid o))) (XN kd pn so se (Y0 so wE wL gE gL fo per wid W n o (fun o' => ¬ wbs wid o' ≤ wbs wid o))) v P0 P1 Pw Po S ww wo) (fun v _ _ _ _ _ => (48 - v).toNat) _ ?_ F 0 A B1 S ww wo ⟨by omega, hA, hS⟩ (by show (48 - (0 : Int)).toNat < F; omega)
  clear hA hS A B1 S ww wo
  rintro self v A B1 S ww wo ⟨hv, hA, hS⟩ hs1
  unfold f_M_fromStart_b6
  refine ok_gr ⟨by omega, by omega⟩ (ok_gr ⟨by omega, by omega⟩ (ok_if (fun h => ?_) (fun h => ?_)))
  · have e2 : v = size := by omega
    subst e2
    exact ok_some.mpr ⟨hA, hS⟩
  · have hmeas : (48 - (v + 1)).toNat < (48 - v).toNat := by omega
    have hkv := hk v
    refine lq3_ok (fun (c : Int) A' B' => (0 ≤ c ∧ c ≤ 2) ∧ ((kd v = 1 ∨ kd v = 2) → AT v b0 c (fun c u => u ∈ W (2 * v + c)) A B1 A' B') ∧ (¬ (kd v = 1 ∨ kd v = 2) → A' = A ∧ B' = B1)) (fun c _ _ => (2 - c).toNat) _ ?_ F 0 A B1 ⟨by omega, fun _ => AT_0 hA.1, fun _ => ⟨rfl, rfl⟩⟩ (by show (2 - (0 : Int)).toNat < F; omega)
    rintro self2 c A' B' ⟨hc, i1, i2⟩ hs2
    unfold f_M_fromStart_b16
    refine ok_gr ⟨by omega, by omega⟩ (ok_if (fun h2 => ?_) (fun h2 => ?_))
    · have e2 : c = 2 := by omega
      subst e2
      rw [e_MisEnd hz hk (by omega), ob1_s]
      have z1 := bz_1 ((0 ≤ v ∧ v < size) ∧ (kd v = 4 ∨ kd v = 3))
      have z2 := bz_01 ((0 ≤ v ∧ v < size) ∧ (kd v = 4 ∨ kd v = 3))
      refine ok_gr ⟨by omega, by omega⟩ (ok_if (fun h3 => ?_) (fun h3 => ?_))
      · have hne : ¬ (kd v = 4 ∨ kd v = 3) := fun q => by have := z1.mpr ⟨by omega, q⟩; omega
        unfold f_M_fromStart_j99
        refine hs1 _ _ _ _ _ _ ⟨by omega, ?_, FS_skip hv.1 hS (fun x q => hne q.1) (fun x q => hne q.1) (fun x q => hne q.1) (fun x q => hne q.1)⟩ hmeas
        by_cases h12 : kd v = 1 ∨ kd v = 2
        · exact FA_step hb01 hA (AT_cg (i1 h12) (fun c u => ⟨fun q => Or.inl ⟨h12, q⟩, fun q => q.elim (fun r => r.2) (fun r => absurd r.1 hne)⟩))
        · obtain ⟨e1, e2⟩ := i2 h12
          rw [e1, e2]
          exact FA_skip hA (fun c u _ q => q.elim (fun r => h12 r.1) (fun r => hne r.1))
      · have hend : kd v = 4 ∨ kd v = 3 := (z1.mp (by omega)).2
        have h12 : ¬ (kd v = 1 ∨ kd v = 2) := by omega
        obtain ⟨e1, e2⟩ := i2 h12
        rw [e1, e2]
        refine ok_ob5 (s_finishAt hF hz hMS hR (m := v) (by omega) hend (hs _) (hfr (3 * v) (by omega) (by omega)) hb0 hA.1 hS.1) (fun A2 B2 S2 w2 o2 hr => ?_)
        obtain ⟨g1, g2⟩ := hr
        unfold f_M_fromStart_j99
        refine hs1 _ _ _ _ _ _ ⟨by omega, FA_step hb01 hA (AT_cg g1 (fun c u => ⟨fun q => Or.inr ⟨hend, q⟩, fun q => q.elim (fun r => absurd r.1 h12) (fun r => r.2)⟩)), FS_step hv.1 hS (SL4_cg g2 (fun x => ?_) (fun x => ?_) (fun x => ?_) (fun x => ?_))⟩ hmeas
        · exact ⟨fun q => ⟨hend, q⟩, fun q => q.2⟩
        · exact ⟨fun q => ⟨hend, q⟩, fun q => q.2⟩
        · exact ⟨fun q => ⟨hend, q⟩, fun q => q.2⟩
        · exact ⟨fun q => ⟨hend, q⟩, fun q => q.2⟩
    · have hc01 : c = 0 ∨ c = 1 := by omega
      have hm2 : (2 - (c + 1)).toNat < (2 - c).toNat := by omega
      have hag := hR (2 * v + c) (by omega) (by omega)
      have hTc := agg_c (by omega) hag
      refine ok_gi ⟨by omega, by omega⟩ (ok_gr ⟨by omega, by omega⟩ (ok_if (fun h0 => ?_) (fun h0 => ?_)))
      · unfold f_M_fromStart_j80
        have he : W (2 * v + c) = [] := (agg_0 (by omega) hag).mp h0
        exact hs2 _ _ _ ⟨by omega, fun q => AT_e (i1 q) (fun u r => by rw [he] at r; cases r), i2⟩ hm2
      · have hgo : (kd v = 1 ∨ kd v = 2) → ok (f_M_fromStart_j54 F B E L v c A' B' self2) (fun r => FA (UN kd so wE wL W) b0 size PL PG r.2.2.2.1 r.2.2.2.2.1 ∧ FS (XN kd pn so se (Y0 so wE wL gE gL fo per wid W n o (fun _ => True))) (XN kd pn so se (Y1 so wE wL gE gL sc per wid W n o)) (XN kd pn so se (Y0 so wE wL gE gL fo per wid W n o (fun o' => wbs wid o' ≤ wbs wid o))) (XN kd pn so se (Y0 so wE wL gE gL fo per wid W n o (fun o' => ¬ wbs wid o' ≤ wbs wid o))) size P0 P1 Pw Po r.2.2.2.2.2.1 r.2.2.2.2.2.2.1 r.2.2.2.2.2.2.2) := by
          intro h12
          have hI := i1 h12
          have hne : W (2 * v + c) ≠ [] := fun q => h0 ((agg_0 (by omega) hag).mpr q)
          obtain ⟨hmin, hmax⟩ := hag.2 hne
          obtain ⟨ve, ve1, ve2⟩ := List.mem_map.mp hmin.1
          obtain ⟨vl, vl1, vl2⟩ := List.mem_map.mp hmax.1
          have b1 := hWb _ ve ve1
          have b2 := hWb _ vl vl1
          have hib : 4 * v + 2 * c + b0 = 4 * v + 2 * c + (if B = 0 then 0 else 1) := by rw [hb0]
          have rAi := hI.1 (4 * v + 2 * c + b0) (by omega) (by omega)
          unfold f_M_fromStart_j54
          refine ok_gi ⟨by omega, by omega⟩ (ok_gi ⟨by omega, by omega⟩ ?_)
          rw [e_arrive (i := 4 * v + 2 * c + b0) (by omega) (by omega) hib (by omega) (by omega) rAi.1 rAi.2, ob2_s]
          unfold f_M_fromStart_j80
          refine hs2 _ _ _ ⟨by omega, fun _ => AT_s hc01 hb01 hI ⟨ve, ve1, ve2.symm⟩ ⟨vl, vl1, vl2.symm⟩ (fun u q1 => ?_) (by omega) (by omega), fun q => absurd h12 q⟩ hm2
          exact ⟨hmin.2 u.1 (List.mem_map.mpr ⟨u, q1, rfl⟩), hmax.2 u.2 (List.mem_map.mpr ⟨u, q1, rfl⟩)⟩
        refine ok_gi ⟨by omega, by omega⟩ (ok_gr ⟨by omega, by omega⟩ (ok_if (fun h3 => hgo (Or.inr h3)) (fun h3 => ok_gi ⟨by omega, by omega⟩ (ok_gr ⟨by omega, by omega⟩ (ok_if (fun h4 => hgo (Or.inl h4)) (fun h4 => ?_))))))
        unfold f_M_fromStart_j80
        exact hs2 _ _ _ ⟨by omega, fun q => by omega, i2⟩ hm2
end FST
