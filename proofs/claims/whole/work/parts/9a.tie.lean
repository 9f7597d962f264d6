/-! class and reference keep the same numbers -/
section TIE
variable {F : Nat} {kd pn so se wE wL gE gL sE sL su ho fo sc fr dM dN : Int → Int} {size wid per : Int}
theorem sl_eq (hN : InvN size per wid kd pn so wE wL se gE gL sE sL su ho) (hM : InvM size per wid kd pn so wE wL se gE gL sE sL su ho per wid size kd pn fr wE wL se dM dN fo sc) {os : List Int} (hfu : full kd pn so se os) {K : Option (Int × List Int) → Option (Int × List Int) → Prop} {m x : Int} (hm : 0 ≤ m ∧ m < size) : (∃ t ∈ AL kd pn so se size 0, XN kd pn so se (q0T pn so se wE wL gE gL sE sL fo per wid os K t) m x) ↔ ∃ n, (0 ≤ n ∧ n < size) ∧ (kd n = 1 ∨ kd n = 3) ∧ SLs kd pn so se wE wL gE gL sE sL su per wid K n m x := by
  obtain ⟨hz, hpw, hk0, hk, hkd, hp, hpk, hs, hs4, hw, hse, hg, hsr, hsu, hho⟩ := hN
  obtain ⟨-, -, -, -, -, -, -, -, -, -, -, hf3, -⟩ := hM
  constructor
  · rintro ⟨t, t1, h4, c, hc, -, o', ho', hK, v, hv, hx⟩
    obtain ⟨a1, a2, a3, a4⟩ := AL_mem.mp t1
    unfold WA at hv
    by_cases q : so (3 * m) < 0
    · rw [if_pos q] at hv; cases hv
    · rw [if_neg q] at hv
      obtain ⟨w, w1, w2⟩ := (fG1_mem hz.2 hkd hfu _ v).mp hv
      have hfe := (hf3 (2 * m + c) (by rw [show (2 * m + c) / 2 = m by omega]; exact h4.symm)).1
      refine ⟨t.1, a1, a2, ⟨h4, by omega⟩, t.2.2, o', c, (sE (2 * t.1 + t.2.1) + sm (dE wE gE) w, sL (2 * t.1 + t.2.1) + sm (dE wL gL) w), a4, ho', hK, hc, ⟨2 * t.1 + t.2.1, w, by omega, w1, rfl⟩, ?_⟩
      rw [hx, w2, hfe]
      unfold srm stv
      simp only
      omega
  · rintro ⟨n, a1, a2, ⟨h4, h5⟩, o, o', c, v, ho, ho', hK, hc, ⟨y, w, y1, w1, w2⟩, hx⟩
    have hfe := (hf3 (2 * m + c) (by rw [show (2 * m + c) / 2 = m by omega]; exact h4.symm)).1
    have hy : 2 * n + y % 2 = y := by omega
    refine ⟨(n, y % 2, o), AL_mem.mpr ⟨a1, a2, by show y % 2 = 0 ∨ y % 2 = 1; omega, ho⟩, h4, c, hc, by omega, o', ho', hK, ((stv wE wL gE gL sE sL wid n (y % 2) o).1 + sm (dE wE gE) w, (stv wE wL gE gL sE sL wid n (y % 2) o).2 + sm (dE wL gL) w), ?_, ?_⟩
    · unfold WA
      rw [if_neg (by omega)]
      exact (fG1_mem hz.2 hkd hfu _ _).mpr ⟨w, by show isW _ (2 * n + y % 2) w _; rw [hy]; exact w1, rfl⟩
    · rw [hx, w2, hfe]
      unfold srm stv
      simp only
      rw [hy]
      omega
theorem sh_eq (hN : InvN size per wid kd pn so wE wL se gE gL sE sL su ho) (hM : InvM size per wid kd pn so wE wL se gE gL sE sL su ho per wid size kd pn fr wE wL se dM dN fo sc) {os : List Int} (hfu : full kd pn so se os) {m x : Int} (hm : 0 ≤ m ∧ m < size) : (∃ t ∈ AL kd pn so se size 0, XN kd pn so se (q1T pn so se wE wL gE gL sE sL sc per wid os t) m x) ↔ ∃ n, (0 ≤ n ∧ n < size) ∧ (kd n = 1 ∨ kd n = 3) ∧ SLh kd pn so se wE wL gE gL sE sL ho per wid n m x := by
  obtain ⟨hz, hpw, hk0, hk, hkd, hp, hpk, hs, hs4, hw, hse, hg, hsr, hsu, hho⟩ := hN
  obtain ⟨-, -, -, -, -, -, -, -, -, -, -, hf3, -⟩ := hM
  constructor
  · rintro ⟨t, t1, h4, c, hc, -, o', ho', v, hv, hx⟩
    obtain ⟨a1, a2, a3, a4⟩ := AL_mem.mp t1
    unfold WA at hv
    by_cases q : so (3 * m) < 0
    · rw [if_pos q] at hv; cases hv
    · rw [if_neg q] at hv
      obtain ⟨w, w1, w2⟩ := (fG1_mem hz.2 hkd hfu _ v).mp hv
      have hfe := (hf3 (2 * m + c) (by rw [show (2 * m + c) / 2 = m by omega]; exact h4.symm)).2
      refine ⟨t.1, a1, a2, ⟨h4, by omega⟩, t.2.2, o', c, (sE (2 * t.1 + t.2.1) + sm (dE wE gE) w, sL (2 * t.1 + t.2.1) + sm (dE wL gL) w), a4, ho', hc, ⟨2 * t.1 + t.2.1, w, by omega, w1, rfl⟩, ?_⟩
      rw [hx, w2, hfe]
      unfold hrm stv
      simp only
      omega
  · rintro ⟨n, a1, a2, ⟨h4, h5⟩, o, o', c, v, ho, ho', hc, ⟨y, w, y1, w1, w2⟩, hx⟩
    have hfe := (hf3 (2 * m + c) (by rw [show (2 * m + c) / 2 = m by omega]; exact h4.symm)).2
    have hy : 2 * n + y % 2 = y := by omega
    refine ⟨(n, y % 2, o), AL_mem.mpr ⟨a1, a2, by show y % 2 = 0 ∨ y % 2 = 1; omega, ho⟩, h4, c, hc, by omega, o', ho', ((stv wE wL gE gL sE sL wid n (y % 2) o).1 + sm (dE wE gE) w, (stv wE wL gE gL sE sL wid n (y % 2) o).2 + sm (dE wL gL) w), ?_, ?_⟩
    · unfold WA
      rw [if_neg (by omega)]
      exact (fG1_mem hz.2 hkd hfu _ _).mpr ⟨w, by show isW _ (2 * n + y % 2) w _; rw [hy]; exact w1, rfl⟩
    · rw [hx, w2, hfe]
      unfold hrm stv
      simp only
      rw [hy]
      omega
/-- two numbers are one, but for how 'none' is written -/
def tie (a b : Int) : Prop := (a = -2147483648 ∧ b = 1000000000) ∨ (a = b ∧ a ≠ -2147483648 ∧ b ≠ 1000000000)
theorem ties (hN : InvN size per wid kd pn so wE wL se gE gL sE sL su ho) (hM : InvM size per wid kd pn so wE wL se gE gL sE sL su ho per wid size kd pn fr wE wL se dM dN fo sc) {os : List Int} (hfu : full kd pn so se os) {A S : Int → Int} {LM LF pc ww wo : Int} (hL : LSi kd pn so se wE wL gE gL sE sL su ho size wid per size A LM LF pc) (hS : FST kd pn so se wE wL gE gL sE sL fo sc size per wid os (AL kd pn so se size 0) S ww wo) : (∀ m, 0 ≤ m → m < size → tie (S (2 * m)) (A (2 * m)) ∧ tie (S (2 * m + 1)) (A (2 * m + 1))) ∧ tie ww LM ∧ tie wo LF := by
  obtain ⟨l1, l2, l3, -⟩ := hL
  obtain ⟨-, s1, s2, s3⟩ := hS
  have hz := hN.1
  refine ⟨fun m a b => ⟨?_, ?_⟩, ?_, ?_⟩
  · refine mnN_u (mnN_cg (fun x => ?_) (s1 m a (by omega)).1) (l1 m a b).1
    rw [← sl_eq hN hM hfu (K := fun _ _ => True) ⟨a, b⟩]
    exact ⟨fun ⟨t, t1, _, t2⟩ => ⟨t, t1, t2⟩, fun ⟨t, t1, t2⟩ => ⟨t, t1, b, t2⟩⟩
  · refine mnN_u (mnN_cg (fun x => ?_) (s1 m a (by omega)).2) (l1 m a b).2
    rw [← sh_eq hN hM hfu ⟨a, b⟩]
    exact ⟨fun ⟨t, t1, _, t2⟩ => ⟨t, t1, t2⟩, fun ⟨t, t1, t2⟩ => ⟨t, t1, b, t2⟩⟩
  · refine mnN_u (mnN_cg (fun x => ?_) s2) l2
    constructor
    · rintro ⟨t, t1, m, hm, t2⟩
      obtain ⟨n, n1, n2, n3⟩ := (sl_eq hN hM hfu (K := kM wid) hm).mp ⟨t, t1, t2⟩
      exact ⟨n, m, n1, n2, hm, n3⟩
    · rintro ⟨n, m, n1, n2, hm, n3⟩
      obtain ⟨t, t1, t2⟩ := (sl_eq hN hM hfu (K := kM wid) hm).mpr ⟨n, n1, n2, n3⟩
      exact ⟨t, t1, m, hm, t2⟩
  · refine mnN_u (mnN_cg (fun x => ?_) s3) l3
    constructor
    · rintro ⟨t, t1, m, hm, t2⟩
      obtain ⟨n, n1, n2, n3⟩ := (sl_eq hN hM hfu (K := kF wid) hm).mp ⟨t, t1, t2⟩
      exact ⟨n, m, n1, n2, hm, n3⟩
    · rintro ⟨n, m, n1, n2, hm, n3⟩
      obtain ⟨t, t1, t2⟩ := (sl_eq hN hM hfu (K := kF wid) hm).mpr ⟨n, n1, n2, n3⟩
      exact ⟨t, t1, m, hm, t2⟩
theorem bb_i {o : Option (Int × List Int)} {B : Int} (hB : B = 0 ∨ B = 1) : (B = 0 ↔ wbs wid o = 0) ↔ B = bb wid o := by
  unfold bb
  by_cases q : wbs wid o = 0
  · rw [if_pos q]
    exact ⟨fun h => h.mpr q, fun h => ⟨fun _ => q, fun _ => h⟩⟩
  · rw [if_neg q]
    refine ⟨fun h => ?_, fun h => ⟨fun z => by omega, fun z => absurd z q⟩⟩
    rcases hB with z | z
    · exact absurd (h.mp z) q
    · exact z
theorem fV_mem (hN : InvN size per wid kd pn so wE wL se gE gL sE sL su ho) {os os' : List Int} (hfu : full kd pn so se os) (hfu' : full kd pn so se os') {V : Int → List (Int × Int)} {B : Int} (hV : ∀ s v, v ∈ V s ↔ stS kd pn so se wE wL gE gL sE sL size wid B s v) (hB : B = 0 ∨ B = 1) {s : Int} {v : Int × Int} : v ∈ fG pn so se wE wL gE gL os V s ↔ ∃ t ∈ AL kd pn so se size 0, B = bb wid t.2.2 ∧ v ∈ WW pn so se wE wL gE gL sE sL wid os' t s := by
  obtain ⟨hz, hpw, hk0, hk, hkd, hp, hpk, hs, hs4, hw, hse, hg, hsr, hsu, hho⟩ := hN
  obtain ⟨rk, h1, h2⟩ := full_rk hz.2 hkd hfu
  rw [fG_vs hz.2 hkd hfu, vs_mem h1 49 s v (h2 s)]
  constructor
  · rintro ⟨y, w, v0, a1, a2, a3⟩
    obtain ⟨n, c, o, b1, b2, b3, b4, b5, b6, b7⟩ := (hV y v0).mp a2
    refine ⟨(n, c, o), AL_mem.mpr ⟨b1, b3, b2, b4⟩, (bb_i hB).mp b6, (fG1_mem hz.2 hkd hfu' s v).mpr ⟨w, ?_, ?_⟩⟩
    · show isW _ (2 * n + c) w s
      rw [← b5]; exact a1
    · rw [a3, b7]
  · rintro ⟨t, t1, t2, t3⟩
    obtain ⟨w, w1, w2⟩ := (fG1_mem hz.2 hkd hfu' s v).mp t3
    obtain ⟨a1, a2, a3, a4⟩ := AL_mem.mp t1
    exact ⟨2 * t.1 + t.2.1, w, stv wE wL gE gL sE sL wid t.1 t.2.1 t.2.2, w1, (hV _ _).mpr ⟨t.1, t.2.1, t.2.2, a1, a3, a2, a4, rfl, (bb_i hB).mpr t2, rfl⟩, w2⟩
theorem tm_tie {Vs : List (Int × Int)} {c e l d : Int} {Ps : Int → Prop} (h : agg 4001 Vs c e l) (hb : ∀ v ∈ Vs, (-20000000 ≤ v.1 ∧ v.1 ≤ 20000000) ∧ -20000000 ≤ v.2 ∧ v.2 ≤ 20000000) {f : Int × Int → Int} (hP : ∀ x, Ps x ↔ ∃ v ∈ Vs, x = f v + d) : ((∀ v, f v = v.1) → ∀ A, mnN Ps A → A = if c = 0 then -2147483648 else e + d) ∧ ((∀ v, f v = v.2) → ∀ A, mxN Ps A → A = if c = 0 then -2147483648 else l + d) := by
  have h0 := agg_0 (by omega) h
  constructor
  · intro hf A hA
    by_cases q : c = 0
    · rw [if_pos q]
      have hn := h0.mp q
      rcases hA with ⟨z, -⟩ | ⟨z, -⟩
      · exact z
      · obtain ⟨v, v1, -⟩ := (hP _).mp z
        rw [hn] at v1; cases v1
    · rw [if_neg q]
      obtain ⟨g1, -⟩ := h.2 (fun z => q (h0.mpr z))
      obtain ⟨v1, a1, a2⟩ := List.mem_map.mp g1.1
      have hPe : Ps (e + d) := (hP _).mpr ⟨v1, a1, by rw [hf, a2]⟩
      rcases hA with ⟨-, z⟩ | ⟨z1, z2, z3⟩
      · exact absurd hPe (z _)
      · have q1 := z2 _ hPe
        obtain ⟨v, b1, b2⟩ := (hP _).mp z1
        have q2 := g1.2 v.1 (List.mem_map.mpr ⟨v, b1, rfl⟩)
        rw [hf] at b2
        omega
  · intro hf A hA
    by_cases q : c = 0
    · rw [if_pos q]
      have hn := h0.mp q
      rcases hA with ⟨z, -⟩ | ⟨z, -⟩
      · exact z
      · obtain ⟨v, v1, -⟩ := (hP _).mp z
        rw [hn] at v1; cases v1
    · rw [if_neg q]
      obtain ⟨-, g1⟩ := h.2 (fun z => q (h0.mpr z))
      obtain ⟨v1, a1, a2⟩ := List.mem_map.mp g1.1
      have hPe : Ps (l + d) := (hP _).mpr ⟨v1, a1, by rw [hf, a2]⟩
      rcases hA with ⟨-, z⟩ | ⟨z1, z2, z3⟩
      · exact absurd hPe (z _)
      · have q1 := z2 _ hPe
        obtain ⟨v, b1, b2⟩ := (hP _).mp z1
        have q2 := g1.2 v.2 (List.mem_map.mpr ⟨v, b1, rfl⟩)
        rw [hf] at b2
        omega
theorem e_timeOf {Xc Xe Xl : Int → Int} {s x4 : Int} (hs : 0 ≤ s ∧ s < 96) (h4 : -2147483648 ≤ x4 ∧ x4 ≤ 2147483647) (hc : 0 ≤ Xc s ∧ Xc s ≤ 4001) : f_Arrivals_timeOf F Xc Xe Xl s x4 = some (if Xc s = 0 then -2147483648 else if x4 = 0 then Xe s else Xl s) := by
  apply ok_eq
  unfold f_Arrivals_timeOf
  refine ok_gi hs (ok_gr ⟨by omega, by omega⟩ (ok_if (fun q => ok_some.mpr (by rw [if_pos q])) (fun q => ok_gr h4 (ok_if (fun q2 => ok_gi hs (ok_some.mpr (by rw [if_neg q, if_pos q2]))) (fun q2 => ok_gi hs (ok_some.mpr (by rw [if_neg q, if_neg q2])))))))
theorem e_timeAt (hN : InvN size per wid kd pn so wE wL se gE gL sE sL su ho) {os os' : List Int} (hfu : full kd pn so se os) (hfu' : full kd pn so se os') {VZ VV : Int → List (Int × Int)} {Zc Ze Zl Vc Ve Vl le ge : Int → Int} (rZ : RV 4001 (fG pn so se wE wL gE gL os VZ) Zc Ze Zl) (rV : RV 4001 (fG pn so se wE wL gE gL os VV) Vc Ve Vl) (hZ : ∀ s v, v ∈ VZ s ↔ stS kd pn so se wE wL gE gL sE sL size wid 0 s v) (hV : ∀ s v, v ∈ VV s ↔ stS kd pn so se wE wL gE gL sE sL size wid 1 s v) (hT : FAT kd pn so se wE wL gE gL sE sL size wid os' (AL kd pn so se size 0) le ge) {m c b x4 : Int} (hm : 0 ≤ m ∧ m < size) (hc : c = 0 ∨ c = 1) (hb : b = 0 ∨ b = 1) (hx4 : -2147483648 ≤ x4 ∧ x4 ≤ 2147483647) : f_Arrivals_timeAt F Zc Ze Zl Vc Ve Vl size kd so wE wL m c b x4 = some (if x4 = 0 then le (4 * m + 2 * c + b) else ge (4 * m + 2 * c + b)) := by
  have hN' := hN
  obtain ⟨hz, hpw, hk0, hk, hkd, hp, hpk, hs, hs4, hw, hse, hg, hsr, hsu, hho⟩ := hN'
  have hkm := hk m
  have hagg0 : ∀ s, 0 ≤ s → s < 96 → agg 4001 (fG pn so se wE wL gE gL os VZ s) (Zc s) (Ze s) (Zl s) := rZ
  have hagg1 : ∀ s, 0 ≤ s → s < 96 → agg 4001 (fG pn so se wE wL gE gL os VV s) (Vc s) (Ve s) (Vl s) := rV
  have hbd0 : ∀ s v, v ∈ fG pn so se wE wL gE gL os VZ s → (-20000000 ≤ v.1 ∧ v.1 ≤ 20000000) ∧ -20000000 ≤ v.2 ∧ v.2 ≤ 20000000 := by
    intro s v hv
    obtain ⟨t, t1, -, t2⟩ := (fV_mem hN hfu hfu' hZ (Or.inl rfl)).mp hv
    exact WW_b hN hfu' (AL_mem.mp t1).2.2.2 s v t2
  have hbd1 : ∀ s v, v ∈ fG pn so se wE wL gE gL os VV s → (-20000000 ≤ v.1 ∧ v.1 ≤ 20000000) ∧ -20000000 ≤ v.2 ∧ v.2 ≤ 20000000 := by
    intro s v hv
    obtain ⟨t, t1, -, t2⟩ := (fV_mem hN hfu hfu' hV (Or.inr rfl)).mp hv
    exact WW_b hN hfu' (AL_mem.mp t1).2.2.2 s v t2
  have hcb0 : ∀ s, 0 ≤ s → s < 96 → 0 ≤ Zc s ∧ Zc s ≤ 4001 := fun s a b => by have := (hagg0 s a b).1; omega
  have hcb1 : ∀ s, 0 ≤ s → s < 96 → 0 ≤ Vc s ∧ Vc s ≤ 4001 := fun s a b => by have := (hagg1 s a b).1; omega
  apply ok_eq
  unfold f_Arrivals_timeAt
  rcases hb with hb | hb
  · subst hb
    refine ok_gr ⟨by omega, by omega⟩ (ok_if (fun _ => ?_) (fun z => absurd rfl z))
    have hA := hagg0 (2 * m + c) (by omega) (by omega)
    have hB := fun v hv => hbd0 (2 * m + c) v hv
    rw [e_isEnd hz hk (by omega), ob1_s]
    have z1 := bz_1 ((0 ≤ m ∧ m < size) ∧ (kd m = 4 ∨ kd m = 3))
    have z2 := bz_01 ((0 ≤ m ∧ m < size) ∧ (kd m = 4 ∨ kd m = 3))
    refine ok_gr ⟨by omega, by omega⟩ (ok_if (fun q => ?_) (fun q => ?_))
    · have hne : ¬ (kd m = 4 ∨ kd m = 3) := fun z => by have := z1.mpr ⟨hm, z⟩; omega
      have hset : ∀ (f : Int × Int → Int) (x : Int), arT kd pn so se wE wL gE gL sE sL size wid os' (AL kd pn so se size 0) f m c 0 x ↔ ∃ v ∈ fG pn so se wE wL gE gL os VZ (2 * m + c), x = f v + 0 := by
        intro f x
        constructor
        · rintro ⟨t, t1, -, t2, u, t3, t4⟩
          rcases t3 with ⟨-, t3⟩ | ⟨t3, -⟩
          · exact ⟨u, (fV_mem hN hfu hfu' hZ (Or.inl rfl)).mpr ⟨t, t1, t2, t3⟩, by rw [t4, Int.add_zero]⟩
          · exact absurd t3 hne
        · rintro ⟨v, t1, t2⟩
          obtain ⟨t, s1, s2, s3⟩ := (fV_mem hN hfu hfu' hZ (Or.inl rfl)).mp t1
          refine ⟨t, s1, hm.2, s2, v, Or.inl ⟨?_, s3⟩, by rw [t2, Int.add_zero]⟩
          rcases (show kd m = 0 ∨ kd m = 1 ∨ kd m = 2 by omega) with q0 | q1 | q2
          · -- nothing comes to the clock
            obtain ⟨w, w1, -⟩ := (fG1_mem hz.2 hkd hfu' (2 * m + c) v).mp s3
            obtain ⟨a1, a2, a3, a4⟩ := AL_mem.mp s1
            cases w with
            | nil =>
              have e : 2 * m + c = 2 * t.1 + t.2.1 := w1
              have e2 : m = t.1 := by omega
              rw [e2] at q0
              omega
            | cons e w =>
              obtain ⟨y, y1, -⟩ := w1
              rw [ins_nil (by rw [show (2 * m + c) / 2 = m by omega]; omega)] at y1
              cases y1
          · exact Or.inl q1
          · exact Or.inr q2
      obtain ⟨k1, k2⟩ := hT.2 m c 0 hm.1 (by omega) hc (Or.inl rfl)
      have t1 := (tm_tie hA hB (hset (fun u => u.1))).1 (fun _ => rfl) _ k1
      have t2 := (tm_tie hA hB (hset (fun u => u.2))).2 (fun _ => rfl) _ k2
      rw [e_timeOf (by omega) hx4 (hcb0 _ (by omega) (by omega)), ob1_s]
      refine ok_some.mpr ?_
      rw [t1, t2]
      by_cases q2 : Zc (2 * m + c) = 0
      · rw [if_pos q2, if_pos q2, if_pos q2]
        by_cases q3 : x4 = 0
        · rw [if_pos q3]
        · rw [if_neg q3]
      · rw [if_neg q2, if_neg q2, if_neg q2, Int.add_zero, Int.add_zero]
    · obtain ⟨-, hend⟩ := z1.mp (by omega)
      refine ok_bd.mpr ?_
      rw [show m * 3 + 0 = 3 * m by omega]
      have hsm := hs (3 * m)
      obtain ⟨k1, k2⟩ := hT.2 m c 0 hm.1 (by omega) hc (Or.inl rfl)
      refine ok_gi ⟨by omega, by omega⟩ (ok_gr ⟨by omega, by omega⟩ (ok_if (fun q2 => ?_) (fun q2 => ?_)))
      · have hset : ∀ (f : Int × Int → Int) (d : Int) (hf : ∀ v : Int × Int, f (v.1 + wE (3 * m), v.2 + wL (3 * m)) = f v + d) (x : Int), arT kd pn so se wE wL gE gL sE sL size wid os' (AL kd pn so se size 0) f m c 0 x ↔ ∃ v ∈ fG pn so se wE wL gE gL os VZ (2 * so (3 * m) + c), x = f v + d := by
          intro f d hf x
          constructor
          · rintro ⟨t, t1, -, t2, u, t3, t4⟩
            rcases t3 with ⟨t3, -⟩ | ⟨-, v, t3, t5⟩
            · omega
            · unfold WA at t3
              rw [if_neg (by omega)] at t3
              exact ⟨v, (fV_mem hN hfu hfu' hZ (Or.inl rfl)).mpr ⟨t, t1, t2, t3⟩, by rw [t4, t5, hf]⟩
          · rintro ⟨v, t1, t2⟩
            obtain ⟨t, s1, s2, s3⟩ := (fV_mem hN hfu hfu' hZ (Or.inl rfl)).mp t1
            refine ⟨t, s1, hm.2, s2, (v.1 + wE (3 * m), v.2 + wL (3 * m)), Or.inr ⟨hend, v, ?_, rfl⟩, by rw [hf]; exact t2⟩
            unfold WA
            rw [if_neg (by omega)]
            exact s3
        have hA2 := hagg0 (2 * so (3 * m) + c) (by omega) (by omega)
        have hB2 := fun v hv => hbd0 (2 * so (3 * m) + c) v hv
        have t1 := (tm_tie hA2 hB2 (hset (fun u => u.1) (wE (3 * m)) (fun v => rfl))).1 (fun _ => rfl) _ k1
        have t2 := (tm_tie hA2 hB2 (hset (fun u => u.2) (wL (3 * m)) (fun v => rfl))).2 (fun _ => rfl) _ k2
        refine ok_gi ⟨by omega, by omega⟩ ?_
        rw [e_timeOf (by omega) hx4 (hcb0 _ (by omega) (by omega)), ob1_s]
        have hwm := hw (3 * m)
        by_cases q3 : Zc (2 * so (3 * m) + c) = 0
        · rw [if_pos q3]
          rw [if_pos q3] at t1 t2
          refine ok_gr ⟨by omega, by omega⟩ (ok_if (fun _ => ok_some.mpr ?_) (fun z => absurd rfl z))
          rw [t1, t2]
          by_cases q4 : x4 = 0
          · rw [if_pos q4]
          · rw [if_neg q4]
        · rw [if_neg q3]
          rw [if_neg q3] at t1 t2
          have hne : fG pn so se wE wL gE gL os VZ (2 * so (3 * m) + c) ≠ [] := fun z => q3 ((agg_0 (by omega) (hagg0 (2 * so (3 * m) + c) (by omega) (by omega))).mpr z)
          obtain ⟨g1, g2⟩ := (hagg0 (2 * so (3 * m) + c) (by omega) (by omega)).2 hne
          obtain ⟨v1, a1, a2⟩ := List.mem_map.mp g1.1
          obtain ⟨v2, b1, b2⟩ := List.mem_map.mp g2.1
          have r1 := (hbd0 _ v1 a1).1
          have r2 := (hbd0 _ v2 b1).2
          by_cases q4 : x4 = 0
          · rw [show (if x4 = 0 then Ze (2 * so (3 * m) + c) else Zl (2 * so (3 * m) + c)) = Ze (2 * so (3 * m) + c) from if_pos q4]
            refine ok_gr ⟨by omega, by omega⟩ (ok_if (fun z => by omega) (fun _ => ok_gr ⟨by omega, by omega⟩ (ok_if (fun _ => ok_gi ⟨by omega, by omega⟩ ?_) (fun z => absurd q4 z))))
            unfold f_Arrivals_timeAt_j127x
            exact ok_some.mpr (by rw [if_pos q4]; exact t1.symm)
          · rw [show (if x4 = 0 then Ze (2 * so (3 * m) + c) else Zl (2 * so (3 * m) + c)) = Zl (2 * so (3 * m) + c) from if_neg q4]
            refine ok_gr ⟨by omega, by omega⟩ (ok_if (fun z => by omega) (fun _ => ok_gr ⟨by omega, by omega⟩ (ok_if (fun z => absurd z q4) (fun _ => ok_gi ⟨by omega, by omega⟩ ?_))))
            unfold f_Arrivals_timeAt_j127x
            exact ok_some.mpr (by rw [if_neg q4]; exact t2.symm)
      · have hno : ∀ (f : Int × Int → Int) (x : Int), ¬ arT kd pn so se wE wL gE gL sE sL size wid os' (AL kd pn so se size 0) f m c 0 x := by
          rintro f x ⟨t, t1, -, t2, u, t3, t4⟩
          rcases t3 with ⟨t3, -⟩ | ⟨-, v, t3, t5⟩
          · omega
          · unfold WA at t3
            rw [if_pos (by omega)] at t3
            cases t3
        refine ok_some.mpr ?_
        have e1 : le (4 * m + 2 * c + 0) = -2147483648 := by
          rcases k1 with ⟨q, -⟩ | ⟨q, -⟩
          · exact q
          · exact absurd q (hno _ _)
        have e2 : ge (4 * m + 2 * c + 0) = -2147483648 := by
          rcases k2 with ⟨q, -⟩ | ⟨q, -⟩
          · exact q
          · exact absurd q (hno _ _)
        rw [e1, e2]
        by_cases q4 : x4 = 0
        · rw [if_pos q4]
        · rw [if_neg q4]
  · subst hb
    refine ok_gr ⟨by omega, by omega⟩ (ok_if (fun z => by omega) (fun _ => ?_))
    have hA := hagg1 (2 * m + c) (by omega) (by omega)
    have hB := fun v hv => hbd1 (2 * m + c) v hv
    rw [e_isEnd hz hk (by omega), ob1_s]
    have z1 := bz_1 ((0 ≤ m ∧ m < size) ∧ (kd m = 4 ∨ kd m = 3))
    have z2 := bz_01 ((0 ≤ m ∧ m < size) ∧ (kd m = 4 ∨ kd m = 3))
    refine ok_gr ⟨by omega, by omega⟩ (ok_if (fun q => ?_) (fun q => ?_))
    · have hne : ¬ (kd m = 4 ∨ kd m = 3) := fun z => by have := z1.mpr ⟨hm, z⟩; omega
      have hset : ∀ (f : Int × Int → Int) (x : Int), arT kd pn so se wE wL gE gL sE sL size wid os' (AL kd pn so se size 0) f m c 1 x ↔ ∃ v ∈ fG pn so se wE wL gE gL os VV (2 * m + c), x = f v + 0 := by
        intro f x
        constructor
        · rintro ⟨t, t1, -, t2, u, t3, t4⟩
          rcases t3 with ⟨-, t3⟩ | ⟨t3, -⟩
          · exact ⟨u, (fV_mem hN hfu hfu' hV (Or.inr rfl)).mpr ⟨t, t1, t2, t3⟩, by rw [t4, Int.add_zero]⟩
          · exact absurd t3 hne
        · rintro ⟨v, t1, t2⟩
          obtain ⟨t, s1, s2, s3⟩ := (fV_mem hN hfu hfu' hV (Or.inr rfl)).mp t1
          refine ⟨t, s1, hm.2, s2, v, Or.inl ⟨?_, s3⟩, by rw [t2, Int.add_zero]⟩
          rcases (show kd m = 0 ∨ kd m = 1 ∨ kd m = 2 by omega) with q0 | q1 | q2
          · -- nothing comes to the clock
            obtain ⟨w, w1, -⟩ := (fG1_mem hz.2 hkd hfu' (2 * m + c) v).mp s3
            obtain ⟨a1, a2, a3, a4⟩ := AL_mem.mp s1
            cases w with
            | nil =>
              have e : 2 * m + c = 2 * t.1 + t.2.1 := w1
              have e2 : m = t.1 := by omega
              rw [e2] at q0
              omega
            | cons e w =>
              obtain ⟨y, y1, -⟩ := w1
              rw [ins_nil (by rw [show (2 * m + c) / 2 = m by omega]; omega)] at y1
              cases y1
          · exact Or.inl q1
          · exact Or.inr q2
      obtain ⟨k1, k2⟩ := hT.2 m c 1 hm.1 (by omega) hc (Or.inr rfl)
      have t1 := (tm_tie hA hB (hset (fun u => u.1))).1 (fun _ => rfl) _ k1
      have t2 := (tm_tie hA hB (hset (fun u => u.2))).2 (fun _ => rfl) _ k2
      rw [e_timeOf (by omega) hx4 (hcb1 _ (by omega) (by omega)), ob1_s]
      refine ok_some.mpr ?_
      rw [t1, t2]
      by_cases q2 : Vc (2 * m + c) = 0
      · rw [if_pos q2, if_pos q2, if_pos q2]
        by_cases q3 : x4 = 0
        · rw [if_pos q3]
        · rw [if_neg q3]
      · rw [if_neg q2, if_neg q2, if_neg q2, Int.add_zero, Int.add_zero]
    · obtain ⟨-, hend⟩ := z1.mp (by omega)
      refine ok_bd.mpr ?_
      rw [show m * 3 + 0 = 3 * m by omega]
      have hsm := hs (3 * m)
      obtain ⟨k1, k2⟩ := hT.2 m c 1 hm.1 (by omega) hc (Or.inr rfl)
      refine ok_gi ⟨by omega, by omega⟩ (ok_gr ⟨by omega, by omega⟩ (ok_if (fun q2 => ?_) (fun q2 => ?_)))
      · have hset : ∀ (f : Int × Int → Int) (d : Int) (hf : ∀ v : Int × Int, f (v.1 + wE (3 * m), v.2 + wL (3 * m)) = f v + d) (x : Int), arT kd pn so se wE wL gE gL sE sL size wid os' (AL kd pn so se size 0) f m c 1 x ↔ ∃ v ∈ fG pn so se wE wL gE gL os VV (2 * so (3 * m) + c), x = f v + d := by
          intro f d hf x
          constructor
          · rintro ⟨t, t1, -, t2, u, t3, t4⟩
            rcases t3 with ⟨t3, -⟩ | ⟨-, v, t3, t5⟩
            · omega
            · unfold WA at t3
              rw [if_neg (by omega)] at t3
              exact ⟨v, (fV_mem hN hfu hfu' hV (Or.inr rfl)).mpr ⟨t, t1, t2, t3⟩, by rw [t4, t5, hf]⟩
          · rintro ⟨v, t1, t2⟩
            obtain ⟨t, s1, s2, s3⟩ := (fV_mem hN hfu hfu' hV (Or.inr rfl)).mp t1
            refine ⟨t, s1, hm.2, s2, (v.1 + wE (3 * m), v.2 + wL (3 * m)), Or.inr ⟨hend, v, ?_, rfl⟩, by rw [hf]; exact t2⟩
            unfold WA
            rw [if_neg (by omega)]
            exact s3
        have hA2 := hagg1 (2 * so (3 * m) + c) (by omega) (by omega)
        have hB2 := fun v hv => hbd1 (2 * so (3 * m) + c) v hv
        have t1 := (tm_tie hA2 hB2 (hset (fun u => u.1) (wE (3 * m)) (fun v => rfl))).1 (fun _ => rfl) _ k1
        have t2 := (tm_tie hA2 hB2 (hset (fun u => u.2) (wL (3 * m)) (fun v => rfl))).2 (fun _ => rfl) _ k2
        refine ok_gi ⟨by omega, by omega⟩ ?_
        rw [e_timeOf (by omega) hx4 (hcb1 _ (by omega) (by omega)), ob1_s]
        have hwm := hw (3 * m)
        by_cases q3 : Vc (2 * so (3 * m) + c) = 0
        · rw [if_pos q3]
          rw [if_pos q3] at t1 t2
          refine ok_gr ⟨by omega, by omega⟩ (ok_if (fun _ => ok_some.mpr ?_) (fun z => absurd rfl z))
          rw [t1, t2]
          by_cases q4 : x4 = 0
          · rw [if_pos q4]
          · rw [if_neg q4]
        · rw [if_neg q3]
          rw [if_neg q3] at t1 t2
          have hne : fG pn so se wE wL gE gL os VV (2 * so (3 * m) + c) ≠ [] := fun z => q3 ((agg_0 (by omega) (hagg1 (2 * so (3 * m) + c) (by omega) (by omega))).mpr z)
          obtain ⟨g1, g2⟩ := (hagg1 (2 * so (3 * m) + c) (by omega) (by omega)).2 hne
          obtain ⟨v1, a1, a2⟩ := List.mem_map.mp g1.1
          obtain ⟨v2, b1, b2⟩ := List.mem_map.mp g2.1
          have r1 := (hbd1 _ v1 a1).1
          have r2 := (hbd1 _ v2 b1).2
          by_cases q4 : x4 = 0
          · rw [show (if x4 = 0 then Ve (2 * so (3 * m) + c) else Vl (2 * so (3 * m) + c)) = Ve (2 * so (3 * m) + c) from if_pos q4]
            refine ok_gr ⟨by omega, by omega⟩ (ok_if (fun z => by omega) (fun _ => ok_gr ⟨by omega, by omega⟩ (ok_if (fun _ => ok_gi ⟨by omega, by omega⟩ ?_) (fun z => absurd q4 z))))
            unfold f_Arrivals_timeAt_j127
            exact ok_some.mpr (by rw [if_pos q4]; exact t1.symm)
          · rw [show (if x4 = 0 then Ve (2 * so (3 * m) + c) else Vl (2 * so (3 * m) + c)) = Vl (2 * so (3 * m) + c) from if_neg q4]
            refine ok_gr ⟨by omega, by omega⟩ (ok_if (fun z => by omega) (fun _ => ok_gr ⟨by omega, by omega⟩ (ok_if (fun z => absurd z q4) (fun _ => ok_gi ⟨by omega, by omega⟩ ?_))))
            unfold f_Arrivals_timeAt_j127
            exact ok_some.mpr (by rw [if_neg q4]; exact t2.symm)
      · have hno : ∀ (f : Int × Int → Int) (x : Int), ¬ arT kd pn so se wE wL gE gL sE sL size wid os' (AL kd pn so se size 0) f m c 1 x := by
          rintro f x ⟨t, t1, -, t2, u, t3, t4⟩
          rcases t3 with ⟨t3, -⟩ | ⟨-, v, t3, t5⟩
          · omega
          · unfold WA at t3
            rw [if_pos (by omega)] at t3
            cases t3
        refine ok_some.mpr ?_
        have e1 : le (4 * m + 2 * c + 1) = -2147483648 := by
          rcases k1 with ⟨q, -⟩ | ⟨q, -⟩
          · exact q
          · exact absurd q (hno _ _)
        have e2 : ge (4 * m + 2 * c + 1) = -2147483648 := by
          rcases k2 with ⟨q, -⟩ | ⟨q, -⟩
          · exact q
          · exact absurd q (hno _ _)
        rw [e1, e2]
        by_cases q4 : x4 = 0
        · rw [if_pos q4]
        · rw [if_neg q4]
end TIE
