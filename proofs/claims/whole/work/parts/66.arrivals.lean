/-! the class's arrivals -/
theorem sm_b {a : Int → Int} (h : ∀ i, 0 ≤ a i ∧ a i ≤ 20000) : ∀ l : List Int, 0 ≤ sm a l ∧ sm a l ≤ 20000 * (l.length : Int) := by
  intro l
  induction l with
  | nil => exact ⟨Int.le_refl _, Int.le_refl _⟩
  | cons e l ih =>
    show 0 ≤ a e + sm a l ∧ a e + sm a l ≤ 20000 * ((l.length + 1 : Nat) : Int)
    have := h e
    omega
section ARR
variable {kd pn so se wE wL gE gL sE sL : Int → Int} {size wid : Int}
theorem dE_b (hw : ∀ i, 0 ≤ wE i ∧ wE i ≤ 10000) (hg : ∀ i, 0 ≤ gE i ∧ gE i ≤ 10000) (i : Int) : 0 ≤ dE wE gE i ∧ dE wE gE i ≤ 20000 := by
  unfold dE
  have a := hw (3 * (i / 8) + i / 2 % 4)
  have b := hg (2 * (3 * (i / 8) + i / 2 % 4) + i % 2)
  omega
theorem wys_48 (hz : size ≤ 48) (hkd : ∀ i, kd i ≠ 0 → 0 < i ∧ i < size) (hk0 : kd 0 = 0) {os : List Int} (hfu : full kd pn so se os) {n : Int} {o : Option (Int × List Int)} (h : o ∈ wys kd pn so se n) : o = none ∨ ∃ w, o = some w ∧ w.2.length ≤ 48 ∧ (w.1 = 0 ∨ w.1 = 1) := by
  unfold wys at h
  by_cases h3 : kd n = 3
  · rw [if_pos h3] at h
    by_cases h1 : so (3 * n + 1) < 0
    · rw [if_pos h1] at h; cases h
    · rw [if_neg h1] at h
      obtain ⟨w, w1, w2⟩ := List.mem_map.mp h
      exact Or.inr ⟨w, w2.symm, BW_w48 hz hkd hk0 hfu w1, (isK_i _).mp (BW_in hz hkd hk0 hfu w1).1⟩
  · rw [if_neg h3] at h
    by_cases h1 : kd n = 1 ∨ kd n = 4
    · rw [if_pos h1] at h; exact Or.inl (List.mem_singleton.mp h)
    · rw [if_neg h1] at h; cases h
theorem wdl_b (hz : size ≤ 48) (hkd : ∀ i, kd i ≠ 0 → 0 < i ∧ i < size) (hk0 : kd 0 = 0) (hw : ∀ i, 0 ≤ wE i ∧ wE i ≤ 10000) (hg : ∀ i, 0 ≤ gE i ∧ gE i ≤ 10000) {os : List Int} (hfu : full kd pn so se os) {n : Int} {o : Option (Int × List Int)} (h : o ∈ wys kd pn so se n) (m : Int) : 0 ≤ wdl wE gE m o ∧ wdl wE gE m o ≤ 970000 := by
  rcases wys_48 hz hkd hk0 hfu h with q | ⟨w, q, q1, -⟩
  · rw [q]; show (0 : Int) ≤ 0 ∧ (0 : Int) ≤ 970000; omega
  · rw [q]
    show 0 ≤ wE (3 * m + 1) + sm (dE wE gE) w.2 ∧ wE (3 * m + 1) + sm (dE wE gE) w.2 ≤ 970000
    have a := hw (3 * m + 1)
    have b := sm_b (dE_b hw hg) w.2
    omega
theorem wbs_b (hwid : 1 ≤ wid) (o : Option (Int × List Int)) : 0 ≤ wbs wid o ∧ wbs wid o ≤ wid := by
  cases o with
  | none => show (0 : Int) ≤ 0 ∧ 0 ≤ wid; omega
  | some w =>
    show 0 ≤ (if w.1 = 0 then 0 else wid) ∧ (if w.1 = 0 then 0 else wid) ≤ wid
    by_cases q : w.1 = 0
    · rw [if_pos q]; omega
    · rw [if_neg q]; omega
/-- a start's times, by its way and change -/
def stv (wE wL gE gL sE sL : Int → Int) (wid n c : Int) (o : Option (Int × List Int)) : Int × Int := (wbs wid o + wdl wE gE n o + sE (2 * n + c), wbs wid o + wdl wL gL n o + sL (2 * n + c))
/-- the starts' times at a state, by their base (B = 0: the base is 0) -/
def stS (kd pn so se wE wL gE gL sE sL : Int → Int) (size wid B s : Int) (v : Int × Int) : Prop := ∃ n c o, (0 ≤ n ∧ n < size) ∧ (c = 0 ∨ c = 1) ∧ (kd n = 1 ∨ kd n = 3) ∧ o ∈ wys kd pn so se n ∧ s = 2 * n + c ∧ (B = 0 ↔ wbs wid o = 0) ∧ v = stv wE wL gE gL sE sL wid n c o
theorem Vadd_mem {V : Int → List (Int × Int)} {s x y j : Int} {v : Int × Int} : v ∈ Vadd V s 1 x y j ↔ v ∈ V j ∨ (j = s ∧ v = (x, y)) := by
  unfold Vadd
  by_cases q : j = s
  · rw [if_pos q, List.mem_append]
    show _ ∨ v ∈ [(x, y)] ↔ _
    rw [List.mem_singleton]
    exact ⟨fun z => z.imp id (fun r => ⟨q, r⟩), fun z => z.imp id (fun r => r.2)⟩
  · rw [if_neg q]
    exact ⟨Or.inl, fun z => z.resolve_right (fun r => q r.1)⟩
def V2 (V : Int → List (Int × Int)) (n : Int) (u v : Int × Int) : Int → List (Int × Int) := Vadd (Vadd V (2 * n) 1 u.1 u.2) (2 * n + 1) 1 v.1 v.2
theorem s_begin {F : Nat} (hF : 200 ≤ F) {ba e f : Int → Int} {n q B0 E0 L0 : Int} {Zc Ze Zl Vc Ve Vl : Int → Int} {VZ VV : Int → List (Int × Int)} (hn : 0 ≤ n ∧ n < 48) (hq : 0 ≤ q ∧ q < 384) (hb : ba q = B0) (he : e q = E0) (hf : f q = L0) (rB : 0 ≤ B0 ∧ B0 ≤ 1000000) (rE : 0 ≤ E0 ∧ E0 ≤ 970000) (rL : 0 ≤ L0 ∧ L0 ≤ 970000) (hsr : ∀ i, -1000000 ≤ sE i ∧ sE i ≤ sL i ∧ sL i ≤ 1000000)
    (hZ : RV 4001 VZ Zc Ze Zl) (hV : RV 4001 VV Vc Ve Vl) (bZ : bnd VZ (-5000000) 5000000) (bV : bnd VV (-5000000) 5000000) :
    ok (f_Arrivals_begin F ba e f Zc Ze Zl Vc Ve Vl sE sL n q) (fun r => (B0 = 0 → RV 4001 (V2 VZ n (B0 + E0 + sE (2 * n + 0), B0 + L0 + sL (2 * n + 0)) (B0 + E0 + sE (2 * n + 1), B0 + L0 + sL (2 * n + 1))) r.1 r.2.1 r.2.2.1 ∧ RV 4001 VV r.2.2.2.1 r.2.2.2.2.1 r.2.2.2.2.2) ∧ (B0 ≠ 0 → RV 4001 VZ r.1 r.2.1 r.2.2.1 ∧ RV 4001 (V2 VV n (B0 + E0 + sE (2 * n + 0), B0 + L0 + sL (2 * n + 0)) (B0 + E0 + sE (2 * n + 1), B0 + L0 + sL (2 * n + 1))) r.2.2.2.1 r.2.2.2.2.1 r.2.2.2.2.2)) := by
  have s0 := hsr (2 * n + 0)
  have s1 := hsr (2 * n + 1)
  obtain ⟨VK, hVK⟩ : ∃ VK : (Int → List (Int × Int)) → Int → Int → List (Int × Int), VK = fun V v => if v ≤ 2 * n then V else if v = 2 * n + 1 then Vadd V (2 * n) 1 (B0 + E0 + sE (2 * n)) (B0 + L0 + sL (2 * n)) else Vadd (Vadd V (2 * n) 1 (B0 + E0 + sE (2 * n)) (B0 + L0 + sL (2 * n))) (2 * n + 1) 1 (B0 + E0 + sE (2 * n + 1)) (B0 + L0 + sL (2 * n + 1)) := ⟨_, rfl⟩
  have hK0 : ∀ V, VK V (2 * n) = V := fun V => by rw [hVK]; exact if_pos (Int.le_refl _)
  have hK2 : ∀ V, VK V (2 * n + 2) = V2 V n (B0 + E0 + sE (2 * n + 0), B0 + L0 + sL (2 * n + 0)) (B0 + E0 + sE (2 * n + 1), B0 + L0 + sL (2 * n + 1)) := fun V => by
    rw [hVK]
    show (if 2 * n + 2 ≤ 2 * n then _ else if 2 * n + 2 = 2 * n + 1 then _ else _) = _
    rw [if_neg (by omega), if_neg (by omega), Int.add_zero]
    rfl
  have hKs : ∀ V v, (v = 2 * n ∨ v = 2 * n + 1) → VK V (v + 1) = Vadd (VK V v) v 1 (B0 + E0 + sE v) (B0 + L0 + sL v) := by
    intro V v hv
    rw [hVK]
    show (if v + 1 ≤ 2 * n then _ else if v + 1 = 2 * n + 1 then _ else _) = Vadd (if v ≤ 2 * n then _ else if v = 2 * n + 1 then _ else _) _ _ _ _
    rcases hv with rfl | rfl
    · rw [if_neg (by omega), if_pos (by omega), if_pos (by omega)]
    · rw [if_neg (by omega), if_neg (by omega), if_neg (by omega), if_pos rfl]
  have hKb : ∀ V, bnd V (-5000000) 5000000 → ∀ v, bnd (VK V v) (-5000000) 5000000 := by
    intro V hV v
    rw [hVK]
    show bnd (if v ≤ 2 * n then _ else if v = 2 * n + 1 then _ else _) _ _
    rw [Int.add_zero] at s0
    by_cases h1 : v ≤ 2 * n
    · rw [if_pos h1]; exact hV
    · rw [if_neg h1]
      by_cases h2 : v = 2 * n + 1
      · rw [if_pos h2]; exact bnd_add hV (by omega) (by omega)
      · rw [if_neg h2]; exact bnd_add (bnd_add hV (by omega) (by omega)) (by omega) (by omega)
  have hjn : ∀ (V : Int → List (Int × Int)) (c1 e1 l1 : Int → Int) (st x y : Int), 0 ≤ st ∧ st < 96 → (-5000000 ≤ x ∧ x ≤ 5000000) → (-5000000 ≤ y ∧ y ≤ 5000000) → RV 4001 V c1 e1 l1 → bnd V (-5000000) 5000000 → ok (f_Spread_join F c1 e1 l1 st 1 x y) (fun r => RV 4001 (Vadd V st 1 x y) r.1 r.2.1 r.2.2) := by
    intro V c1 e1 l1 st x y h1 h2 h3 h4 h5
    rw [e_join h1 (agg_c (by omega) (h4 st h1.1 h1.2)) (by omega) (by omega) (by omega) (fun z => by have := agg_in (s := st) (by omega) (h4 st h1.1 h1.2) h5 z; omega)]
    exact ok_some.mpr (RV_add (by omega) h4 h1 (by omega))
  unfold f_Arrivals_begin
  refine ok_gi hq (ok_bd.mpr ?_)
  rw [hb]
  refine ok_gr ⟨by omega, by omega⟩ (ok_if (fun h => ok_bd.mpr ?_) (fun h => ok_bd.mpr ?_))
  · refine lq7_ok (fun (v : Int) Z1 Z2 Z3 V1 V2 V3 => (2 * n ≤ v ∧ v ≤ 2 * n + 2) ∧ RV 4001 (VK VZ v) Z1 Z2 Z3 ∧ RV 4001 VV V1 V2 V3) (fun v _ _ _ _ _ _ => (2 * n + 2 - v).toNat) _ ?_ F (2 * n) Zc Ze Zl Vc Ve Vl ⟨by omega, by rw [hK0]; exact hZ, hV⟩ (by show (2 * n + 2 - 2 * n).toNat < F; omega)
    rintro self v Z1 Z2 Z3 V1 V2 V3 ⟨hv, hR1, hR2⟩ hs
    unfold f_Arrivals_begin_b32x
    refine ok_gr ⟨by omega, by omega⟩ (ok_gr ⟨by omega, by omega⟩ (ok_if (fun z => ?_) (fun z => ?_)))
    · have ev : v = 2 * n + 2 := by omega
      exact ok_some.mpr ⟨fun _ => ⟨by have := hR1; rw [ev, hK2] at this; exact this, hR2⟩, fun z => absurd h z⟩
    · have sv := hsr v
      refine ok_gi hq (ok_gi ⟨by omega, by omega⟩ (ok_gi hq (ok_gi ⟨by omega, by omega⟩ ?_)))
      rw [he, hf]
      refine ok_ob3 (hjn _ _ _ _ v _ _ (by omega) (by omega) (by omega) hR1 (hKb _ bZ v)) (fun c1 e1 l1 h1 => ?_)
      exact hs _ _ _ _ _ _ _ ⟨by omega, by rw [hKs _ v (by omega)]; exact h1, hR2⟩ (by show (2 * n + 2 - (v + 1)).toNat < (2 * n + 2 - v).toNat; omega)
  · refine lq7_ok (fun (v : Int) Z1 Z2 Z3 V1 V2 V3 => (2 * n ≤ v ∧ v ≤ 2 * n + 2) ∧ RV 4001 VZ Z1 Z2 Z3 ∧ RV 4001 (VK VV v) V1 V2 V3) (fun v _ _ _ _ _ _ => (2 * n + 2 - v).toNat) _ ?_ F (2 * n) Zc Ze Zl Vc Ve Vl ⟨by omega, hZ, by rw [hK0]; exact hV⟩ (by show (2 * n + 2 - 2 * n).toNat < F; omega)
    rintro self v Z1 Z2 Z3 V1 V2 V3 ⟨hv, hR1, hR2⟩ hs
    unfold f_Arrivals_begin_b32
    refine ok_gr ⟨by omega, by omega⟩ (ok_gr ⟨by omega, by omega⟩ (ok_if (fun z => ?_) (fun z => ?_)))
    · have ev : v = 2 * n + 2 := by omega
      exact ok_some.mpr ⟨fun z => absurd z h, fun _ => ⟨hR1, by have := hR2; rw [ev, hK2] at this; exact this⟩⟩
    · have sv := hsr v
      refine ok_gi hq (ok_gi ⟨by omega, by omega⟩ (ok_gi hq (ok_gi ⟨by omega, by omega⟩ ?_)))
      rw [he, hf]
      refine ok_ob3 (hjn _ _ _ _ v _ _ (by omega) (by omega) (by omega) hR2 (hKb _ bV v)) (fun c1 e1 l1 h1 => ?_)
      exact hs _ _ _ _ _ _ _ ⟨by omega, hR1, by rw [hKs _ v (by omega)]; exact h1⟩ (by show (2 * n + 2 - (v + 1)).toNat < (2 * n + 2 - v).toNat; omega)
end ARR
