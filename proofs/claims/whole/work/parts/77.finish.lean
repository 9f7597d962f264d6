/-! the reference at an end, from one start -/
def SL4 (m : Int) (A0 : Int → Int) (w0 o0 : Int) (X0 X1 Xm Xf : Int → Prop) (A : Int → Int) (w o : Int) : Prop :=
  ((∀ s, s ≠ 2 * m → s ≠ 2 * m + 1 → A s = A0 s) ∧ (∀ i, 0 ≤ i → i < 96 → -2147483648 ≤ A i ∧ A i ≤ 2147483647) ∧ (-2147483648 ≤ w ∧ w ≤ 2147483647) ∧ (-2147483648 ≤ o ∧ o ≤ 2147483647)) ∧ (∀ P, mnN P (A0 (2 * m)) → mnN (fun x => P x ∨ X0 x) (A (2 * m))) ∧ (∀ P, mnN P (A0 (2 * m + 1)) → mnN (fun x => P x ∨ X1 x) (A (2 * m + 1))) ∧ (∀ P, mnN P w0 → mnN (fun x => P x ∨ Xm x) w) ∧ ∀ P, mnN P o0 → mnN (fun x => P x ∨ Xf x) o
theorem or_no {P X : Int → Prop} (h : ∀ x, ¬ X x) (x : Int) : P x ↔ P x ∨ X x := ⟨Or.inl, fun w => w.resolve_right (h x)⟩
theorem SL4_0 {m : Int} {A : Int → Int} {w o : Int} {X0 X1 Xm Xf : Int → Prop} (h : (∀ i, 0 ≤ i → i < 96 → -2147483648 ≤ A i ∧ A i ≤ 2147483647) ∧ (-2147483648 ≤ w ∧ w ≤ 2147483647) ∧ (-2147483648 ≤ o ∧ o ≤ 2147483647)) (h0 : ∀ x, ¬ X0 x) (h1 : ∀ x, ¬ X1 x) (h2 : ∀ x, ¬ Xm x) (h3 : ∀ x, ¬ Xf x) : SL4 m A w o X0 X1 Xm Xf A w o :=
  ⟨⟨fun _ _ _ => rfl, h⟩, fun P q => mnN_cg (or_no h0) q, fun P q => mnN_cg (or_no h1) q, fun P q => mnN_cg (or_no h2) q, fun P q => mnN_cg (or_no h3) q⟩
theorem SL4_tr {m : Int} {A B C : Int → Int} {w o w' o' w'' o'' : Int} {X0 X1 Xm Xf Y0 Y1 Ym Yf Z0 Z1 Zm Zf : Int → Prop} (h : SL4 m A w o X0 X1 Xm Xf B w' o') (g : SL4 m B w' o' Y0 Y1 Ym Yf C w'' o'') (e0 : ∀ x, Z0 x ↔ X0 x ∨ Y0 x) (e1 : ∀ x, Z1 x ↔ X1 x ∨ Y1 x) (e2 : ∀ x, Zm x ↔ Xm x ∨ Ym x) (e3 : ∀ x, Zf x ↔ Xf x ∨ Yf x) : SL4 m A w o Z0 Z1 Zm Zf C w'' o'' := by
  obtain ⟨⟨a1, a2⟩, a3, a4, a5, a6⟩ := h
  obtain ⟨⟨b1, b2⟩, b3, b4, b5, b6⟩ := g
  refine ⟨⟨fun s q1 q2 => (b1 s q1 q2).trans (a1 s q1 q2), b2⟩, fun P q => mnN_cg (fun x => ?_) (b3 _ (a3 P q)), fun P q => mnN_cg (fun x => ?_) (b4 _ (a4 P q)), fun P q => mnN_cg (fun x => ?_) (b5 _ (a5 P q)), fun P q => mnN_cg (fun x => ?_) (b6 _ (a6 P q))⟩
  · rw [or_assoc, e0]
  · rw [or_assoc, e1]
  · rw [or_assoc, e2]
  · rw [or_assoc, e3]
section FIN
variable {F : Nat} {kd pn so se wE wL gE gL : Int → Int} {wid per : Int} {wc wb we wl wla wsz wr wsp : Int → Int} {LL : Int → List (Int × List Int)}
/-- the reference's ways of an end -/
def endW (kd pn so se wE wL gE gL : Int → Int) (wid : Int) (wc wb we wl wla wsz wr wsp : Int → Int) (LL : Int → List (Int × List Int)) (m : Int) : Prop := (kd m = 4 ∧ wc m = 0 ∧ wys kd pn so se m = [none]) ∨ (kd m = 3 ∧ wc m = ((LL m).length : Int) ∧ (LL m).length ≤ 8 ∧ wys kd pn so se m = (LL m).map some ∧ ∀ (i : Nat) w, (LL m)[i]? = some w → isQ wE wL gE gL wid wc wb we wl wla wsz wr wsp LL m (8 * m + i) (some w))
/-- the meetings at an end by all its ways, for one change -/
theorem s_meetAll {n m p B c a b ww wo am bm : Int} {o : Option (Int × List Int)} {fo sc A : Int → Int} {Vs : List (Int × Int)} (hF : 200 ≤ F) (hwid : 1 ≤ wid ∧ wid < per ∧ per ≤ 1000000) (hp : isQ wE wL gE gL wid wc wb we wl wla wsz wr wsp LL n p o) (hE : endW kd pn so se wE wL gE gL wid wc wb we wl wla wsz wr wsp LL m) (hp2 : -2147483648 ≤ p ∧ p < 384) (hB : B = wbs wid o) (hm : 0 ≤ m ∧ m < 48) (hc : c = 0 ∨ c = 1)
    (hmin : isMin (Vs.map Prod.fst) am) (hmax : isMax (Vs.map Prod.snd) bm) (ha : a = am + wE (3 * m)) (hb : b = bm + wL (3 * m)) (rv : ∀ v ∈ Vs, (-20000000 ≤ v.1 ∧ v.1 ≤ 20000000) ∧ -20000000 ≤ v.2 ∧ v.2 ≤ 20000000) (rcr : ∀ o' ∈ wys kd pn so se m, (0 ≤ crd (dE wE gE) (dE wL gL) wE wL n o m o' ∧ crd (dE wE gE) (dE wL gL) wE wL n o m o' ≤ 970000) ∧ (0 ≤ wdl wE gE m o' ∧ wdl wE gE m o' ≤ 970000) ∧ (0 ≤ wdl wL gL m o' ∧ wdl wL gL m o' ≤ 970000)) (rf : ∀ i, -1000000 ≤ fo i ∧ fo i ≤ 1000000 ∧ -1000000 ≤ sc i ∧ sc i ≤ 1000000) (rw1 : ∀ i, 0 ≤ wE i ∧ wE i ≤ wL i ∧ wL i ≤ 10000) (r2 : ∀ i, 0 ≤ i → i < 96 → -2147483648 ≤ A i ∧ A i ≤ 2147483647) (r3 : -2147483648 ≤ ww ∧ ww ≤ 2147483647) (r4 : -2147483648 ≤ wo ∧ wo ≤ 2147483647) :
    ok (f_M_meet F per p B ww wo fo sc wb we wl wla wsz wr wsp A m c (-2147483648) a b) (fun r => kd m = 4 → SL4 m A ww wo (fun x => ∃ o' ∈ wys kd pn so se m, Q0 wE wL gE gL fo per wid Vs n o m c o' x) (fun x => ∃ o' ∈ wys kd pn so se m, Q1 wE wL gE gL sc per wid Vs n o m c o' x) (fun x => ∃ o' ∈ wys kd pn so se m, wbs wid o' ≤ wbs wid o ∧ Q0 wE wL gE gL fo per wid Vs n o m c o' x) (fun x => ∃ o' ∈ wys kd pn so se m, ¬ wbs wid o' ≤ wbs wid o ∧ Q0 wE wL gE gL fo per wid Vs n o m c o' x) r.1 r.2.1 r.2.2) ∨ kd m = 3 := by
  rcases hE with ⟨h4, -, hw⟩ | ⟨h3, -⟩
  · left
    have hno : (none : Option (Int × List Int)) ∈ wys kd pn so se m := by rw [hw]; exact List.mem_singleton.mpr rfl
    have hb3 := rcr none hno
    refine ok_imp (s_meetS hF hwid hp (Or.inl ⟨by omega, rfl⟩) hp2 (by omega) hB hm hc hmin hmax ha hb rv hb3.1 hb3.2.1 hb3.2.2 rf rw1 r2 r3 r4) (fun r hr _ => ?_)
    have hone : ∀ (X : Option (Int × List Int) → Prop), (∃ o' ∈ wys kd pn so se m, X o') ↔ X none := by
      intro X
      rw [hw]
      exact ⟨fun ⟨o', q1, q2⟩ => by rw [List.mem_singleton.mp q1] at q2; exact q2, fun q => ⟨none, List.mem_singleton.mpr rfl, q⟩⟩
    obtain ⟨a1, a2, a3, a4, a5⟩ := hr
    refine ⟨a1, fun P q => mnN_cg (fun x => ?_) (a2 P q), fun P q => mnN_cg (fun x => ?_) (a3 P q), fun P q => mnN_cg (fun x => ?_) (a4 P q), fun P q => mnN_cg (fun x => ?_) (a5 P q)⟩
    · exact or_congr Iff.rfl (hone (fun o' => Q0 wE wL gE gL fo per wid Vs n o m c o' x)).symm
    · exact or_congr Iff.rfl (hone (fun o' => Q1 wE wL gE gL sc per wid Vs n o m c o' x)).symm
    · exact or_congr Iff.rfl (hone (fun o' => wbs wid o' ≤ wbs wid o ∧ Q0 wE wL gE gL fo per wid Vs n o m c o' x)).symm
    · exact or_congr Iff.rfl (hone (fun o' => ¬ wbs wid o' ≤ wbs wid o ∧ Q0 wE wL gE gL fo per wid Vs n o m c o' x)).symm
  · exact Or.inr h3
/-- the meetings at a register by its ways -/
theorem s_meetReg {n m p B c a b ww wo am bm : Int} {o : Option (Int × List Int)} {fo sc A A1 A2 : Int → Int} {Vs : List (Int × Int)} {self11 : Int → (Int → Int) → (Int → Int) → (Int → Int) → Int → Int → Option ((Int → Int) × (Int → Int) × (Int → Int) × Int × Int)} {Q : ((Int → Int) × (Int → Int) × (Int → Int) × Int × Int) → Prop} (hF : 200 ≤ F) (hwid : 1 ≤ wid ∧ wid < per ∧ per ≤ 1000000) (hp : isQ wE wL gE gL wid wc wb we wl wla wsz wr wsp LL n p o) (hE : endW kd pn so se wE wL gE gL wid wc wb we wl wla wsz wr wsp LL m) (h3 : kd m = 3) (hp2 : -2147483648 ≤ p ∧ p < 384) (hB : B = wbs wid o) (hm : 0 ≤ m ∧ m < 48) (hc : c = 0 ∨ c = 1)
    (hmin : isMin (Vs.map Prod.fst) am) (hmax : isMax (Vs.map Prod.snd) bm) (ha : a = am + wE (3 * m)) (hb : b = bm + wL (3 * m)) (rv : ∀ v ∈ Vs, (-20000000 ≤ v.1 ∧ v.1 ≤ 20000000) ∧ -20000000 ≤ v.2 ∧ v.2 ≤ 20000000) (rcr : ∀ o' ∈ wys kd pn so se m, (0 ≤ crd (dE wE gE) (dE wL gL) wE wL n o m o' ∧ crd (dE wE gE) (dE wL gL) wE wL n o m o' ≤ 970000) ∧ (0 ≤ wdl wE gE m o' ∧ wdl wE gE m o' ≤ 970000) ∧ (0 ≤ wdl wL gL m o' ∧ wdl wL gL m o' ≤ 970000)) (rf : ∀ i, -1000000 ≤ fo i ∧ fo i ≤ 1000000 ∧ -1000000 ≤ sc i ∧ sc i ≤ 1000000) (rw1 : ∀ i, 0 ≤ wE i ∧ wE i ≤ wL i ∧ wL i ≤ 10000) (rr : (∀ i, 0 ≤ i → i < 96 → -2147483648 ≤ A i ∧ A i ≤ 2147483647) ∧ (-2147483648 ≤ ww ∧ ww ≤ 2147483647) ∧ (-2147483648 ≤ wo ∧ wo ≤ 2147483647))
    (kk : ∀ A' w' o'', SL4 m A ww wo (fun x => ∃ o' ∈ wys kd pn so se m, Q0 wE wL gE gL fo per wid Vs n o m c o' x) (fun x => ∃ o' ∈ wys kd pn so se m, Q1 wE wL gE gL sc per wid Vs n o m c o' x) (fun x => ∃ o' ∈ wys kd pn so se m, wbs wid o' ≤ wbs wid o ∧ Q0 wE wL gE gL fo per wid Vs n o m c o' x) (fun x => ∃ o' ∈ wys kd pn so se m, ¬ wbs wid o' ≤ wbs wid o ∧ Q0 wE wL gE gL fo per wid Vs n o m c o' x) A' w' o'' → ok (self11 (c + 1) A1 A2 A' w' o'') Q) :
    ok (f_M_finishAt_j107 F per p B kd fo sc wc wb we wl wla wsz wr wsp m c self11 a b A1 A2 A ww wo) Q := by
  obtain ⟨-, e1, e2, e3, e4⟩ := hE.resolve_left (fun z => by have := z.1; omega)
  have hpre : ∀ (k : Nat) (X : Option (Int × List Int) → Prop), k < (LL m).length → ∀ w, (LL m)[k]? = some w → ((∃ o' ∈ ((LL m).take (k + 1)).map some, X o') ↔ (∃ o' ∈ ((LL m).take k).map some, X o') ∨ X (some w)) := by
    intro k X hk w hw
    rw [List.take_add_one, hw, List.map_append]
    constructor
    · rintro ⟨o', q1, q2⟩
      rcases List.mem_append.mp q1 with q | q
      · exact Or.inl ⟨o', q, q2⟩
      · rw [List.mem_singleton.mp q] at q2; exact Or.inr q2
    · rintro (⟨o', q1, q2⟩ | q)
      · exact ⟨o', List.mem_append_left _ q1, q2⟩
      · exact ⟨some w, List.mem_append_right _ (List.mem_singleton.mpr rfl), q⟩
  unfold f_M_finishAt_j107
  refine lq4_ok (fun (v : Int) A' w' o'' => ∃ k : Nat, v = (k : Int) ∧ k ≤ (LL m).length ∧ SL4 m A ww wo (fun x => ∃ o' ∈ ((LL m).take k).map some, Q0 wE wL gE gL fo per wid Vs n o m c o' x) (fun x => ∃ o' ∈ ((LL m).take k).map some, Q1 wE wL gE gL sc per wid Vs n o m c o' x) (fun x => ∃ o' ∈ ((LL m).take k).map some, wbs wid o' ≤ wbs wid o ∧ Q0 wE wL gE gL fo per wid Vs n o m c o' x) (fun x => ∃ o' ∈ ((LL m).take k).map some, ¬ wbs wid o' ≤ wbs wid o ∧ Q0 wE wL gE gL fo per wid Vs n o m c o' x) A' w' o'') (fun v _ _ _ => (8 - v).toNat) _ ?_ F 0 A ww wo ⟨0, rfl, Nat.zero_le _, SL4_0 rr (fun x ⟨o', q, _⟩ => absurd q List.not_mem_nil) (fun x ⟨o', q, _⟩ => absurd q List.not_mem_nil) (fun x ⟨o', q, _⟩ => absurd q List.not_mem_nil) (fun x ⟨o', q, _⟩ => absurd q List.not_mem_nil)⟩ (by show (8 - (0 : Int)).toNat < F; omega)
  rintro self v A' w' o'' ⟨k, hk, hkl, hI⟩ hs
  unfold f_M_finishAt_b110
  refine ok_gi hm (ok_gr ⟨by omega, by omega⟩ (ok_gr ⟨by omega, by omega⟩ (ok_if (fun h => ?_) (fun h => ?_))))
  · have ek : k = (LL m).length := by omega
    rw [ek, List.take_length, ← e3] at hI
    exact kk _ _ _ hI
  · have hkL : k < (LL m).length := by omega
    have hget : (LL m)[k]? = some (LL m)[k] := List.getElem?_eq_getElem hkL
    have hmem : some (LL m)[k] ∈ wys kd pn so se m := by rw [e3]; exact List.mem_map.mpr ⟨_, List.getElem_mem hkL, rfl⟩
    have hb3 := rcr _ hmem
    refine ok_gi hm (ok_gr ⟨by omega, by omega⟩ (ok_if (fun _ => ?_) (fun z => absurd h3 z)))
    rw [hk]
    obtain ⟨⟨-, g2, g3, g4⟩, -⟩ := id hI
    refine ok_ob3 (s_meetS hF hwid hp (e4 k _ hget) hp2 (by omega) hB hm hc hmin hmax ha hb rv hb3.1 hb3.2.1 hb3.2.2 rf rw1 g2 g3 g4) (fun A2' w2 o2 hr => ?_)
    refine hs _ _ _ _ ⟨k + 1, by omega, by omega, SL4_tr hI hr (fun x => hpre k (fun o' => Q0 wE wL gE gL fo per wid Vs n o m c o' x) hkL _ hget) (fun x => hpre k (fun o' => Q1 wE wL gE gL sc per wid Vs n o m c o' x) hkL _ hget) (fun x => hpre k (fun o' => wbs wid o' ≤ wbs wid o ∧ Q0 wE wL gE gL fo per wid Vs n o m c o' x) hkL _ hget) (fun x => hpre k (fun o' => ¬ wbs wid o' ≤ wbs wid o ∧ Q0 wE wL gE gL fo per wid Vs n o m c o' x) hkL _ hget)⟩ (by show (8 - ((k : Int) + 1)).toNat < (8 - v).toNat; omega)
end FIN
