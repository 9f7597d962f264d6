/-! the reference over all starts -/
theorem two_get {α : Type} : ∀ (l : List α) (k : Nat), (l.flatMap (fun o => ((0 : Int), o) :: ((1 : Int), o) :: []))[k]? = (l[k / 2]?).map (fun o => ((k : Int) % 2, o)) := by
  intro l
  induction l with
  | nil => intro k; rfl
  | cons a l ih =>
    intro k
    rw [List.flatMap_cons]
    show ((0, a) :: (1, a) :: (l.flatMap (fun o => ((0 : Int), o) :: ((1 : Int), o) :: [])))[k]? = _
    match k with
    | 0 => rfl
    | 1 => rfl
    | k + 2 =>
      rw [List.getElem?_cons_succ, List.getElem?_cons_succ, ih, show (k + 2) / 2 = k / 2 + 1 by omega, List.getElem?_cons_succ, show ((k + 2 : Nat) : Int) % 2 = (k : Int) % 2 by omega]
theorem two_len {α : Type} : ∀ (l : List α), (l.flatMap (fun o => ((0 : Int), o) :: ((1 : Int), o) :: [])).length = 2 * l.length := by
  intro l
  induction l with
  | nil => rfl
  | cons a l ih =>
    rw [List.flatMap_cons, List.length_append, ih]
    show 2 + 2 * l.length = 2 * (l.length + 1)
    omega
section STA
variable {F : Nat} {kd pn so se wE wL gE gL sE sL fo sc : Int → Int} {size wid per : Int} {wc wb we wl wla wsz wr wsp : Int → Int} {LL : Int → List (Int × List Int)}
/-- the starts at a node: a change and a way, in the reference's order -/
def stL (kd pn so se : Int → Int) (n : Int) : List (Int × Option (Int × List Int)) := if kd n = 1 ∨ kd n = 3 then (wys kd pn so se n).flatMap (fun o => (0, o) :: (1, o) :: []) else []
theorem stL_len (n : Int) : ((stL kd pn so se n).length : Int) = if kd n = 1 ∨ kd n = 3 then 2 * ((wys kd pn so se n).length : Int) else 0 := by
  unfold stL
  by_cases c : kd n = 1 ∨ kd n = 3
  · rw [if_pos c, if_pos c, two_len]; omega
  · rw [if_neg c, if_neg c]; rfl
theorem stL_get {n : Int} {k : Nat} {s : Int × Option (Int × List Int)} (h : (stL kd pn so se n)[k]? = some s) : (kd n = 1 ∨ kd n = 3) ∧ s.1 = (k : Int) % 2 ∧ (wys kd pn so se n)[k / 2]? = some s.2 := by
  unfold stL at h
  by_cases c : kd n = 1 ∨ kd n = 3
  · rw [if_pos c, two_get] at h
    refine ⟨c, ?_⟩
    cases q : (wys kd pn so se n)[k / 2]? with
    | none => rw [q] at h; cases h
    | some o =>
      rw [q] at h
      rw [← Option.some.inj h]
      exact ⟨rfl, rfl⟩
  · rw [if_neg c] at h
    simp at h
theorem stL_mem {n : Int} {s : Int × Option (Int × List Int)} : s ∈ stL kd pn so se n ↔ (kd n = 1 ∨ kd n = 3) ∧ (s.1 = 0 ∨ s.1 = 1) ∧ s.2 ∈ wys kd pn so se n := by
  unfold stL
  by_cases c : kd n = 1 ∨ kd n = 3
  · rw [if_pos c, List.mem_flatMap]
    constructor
    · rintro ⟨o, h1, h2⟩
      rcases List.mem_cons.mp h2 with q | q
      · rw [q]; exact ⟨c, Or.inl rfl, h1⟩
      · rw [List.mem_singleton.mp q]; exact ⟨c, Or.inr rfl, h1⟩
    · rintro ⟨-, h1, h2⟩
      refine ⟨s.2, h2, ?_⟩
      rcases h1 with q | q
      · exact List.mem_cons.mpr (Or.inl (Prod.ext q rfl))
      · exact List.mem_cons.mpr (Or.inr (List.mem_singleton.mpr (Prod.ext q rfl)))
  · rw [if_neg c]
    exact ⟨fun h => absurd h List.not_mem_nil, fun h => absurd h.1 c⟩
/-- the starts before a place -/
def AL (kd pn so se : Int → Int) (v : Int) (k : Nat) : List (Int × Int × Option (Int × List Int)) := (pinl v).flatMap (fun n => (stL kd pn so se n).map (fun s => (n, s))) ++ ((stL kd pn so se v).take k).map (fun s => (v, s))
theorem AL_0 : AL kd pn so se 0 0 = [] := rfl
theorem AL_s {v : Int} {k : Nat} {s : Int × Option (Int × List Int)} (h : (stL kd pn so se v)[k]? = some s) : AL kd pn so se v (k + 1) = AL kd pn so se v k ++ [(v, s)] := by
  unfold AL
  rw [List.take_add_one, h, List.map_append, List.append_assoc]
  rfl
theorem AL_e {v : Int} {k : Nat} (hv : 0 ≤ v) (h : k = (stL kd pn so se v).length) : AL kd pn so se v k = AL kd pn so se (v + 1) 0 := by
  unfold AL
  rw [h, List.take_length, List.take_zero, List.map_nil, List.append_nil, pinl_succ hv, List.flatMap_append, List.flatMap_cons, List.flatMap_nil, List.append_nil]
theorem AL_mem {v : Int} {t : Int × Int × Option (Int × List Int)} : t ∈ AL kd pn so se v 0 ↔ (0 ≤ t.1 ∧ t.1 < v) ∧ (kd t.1 = 1 ∨ kd t.1 = 3) ∧ (t.2.1 = 0 ∨ t.2.1 = 1) ∧ t.2.2 ∈ wys kd pn so se t.1 := by
  unfold AL
  rw [List.take_zero, List.map_nil, List.append_nil, List.mem_flatMap]
  constructor
  · rintro ⟨n, h1, h2⟩
    obtain ⟨s, h3, h4⟩ := List.mem_map.mp h2
    rw [← h4]
    exact ⟨pinl_mem.mp h1, stL_mem.mp h3⟩
  · rintro ⟨h1, h2⟩
    exact ⟨t.1, pinl_mem.mpr h1, List.mem_map.mpr ⟨t.2, stL_mem.mpr h2, rfl⟩⟩
/-- a start's values over all states -/
def WW (pn so se wE wL gE gL sE sL : Int → Int) (wid : Int) (os : List Int) (t : Int × Int × Option (Int × List Int)) : Int → List (Int × Int) := fG pn so se wE wL gE gL os (V1 (2 * t.1 + t.2.1) (stv wE wL gE gL sE sL wid t.1 t.2.1 t.2.2).1 (stv wE wL gE gL sE sL wid t.1 t.2.1 t.2.2).2)
def bb (wid : Int) (o : Option (Int × List Int)) : Int := if wbs wid o = 0 then 0 else 1
def pkO : Option (Int × List Int) → Int
  | none => 0
  | some _ => 2
def rowT (t : Int × Int × Option (Int × List Int)) : List Int := rowO t.2.2 ++ [8 * t.1 + pkO t.2.2 + t.2.1]
theorem rowT_S {n c0 p : Int} {o : Option (Int × List Int)} (h : isQ wE wL gE gL wid wc wb we wl wla wsz wr wsp LL n p o) : rowS n c0 p o = rowT (n, c0, o) := by
  unfold rowS rowT
  rcases h with ⟨h1, h2⟩ | ⟨i, w, -, -, -, h1, h2, h3, -⟩
  · rw [h2, if_pos h1]; rfl
  · rw [h2, if_neg (by omega)]; rfl
/-- a start's timing paths, by setup and by hold -/
def ptA0 (kd pn so se wE wL gE gL sE sL fo : Int → Int) (size per wid : Int) (t : Int × Int × Option (Int × List Int)) : List (Int × List Int) := (rp (itA kd pn so se size) 49 (2 * t.1 + t.2.1)).flatMap (pt0 kd pn so se wE wL gE gL fo per wid t.1 t.2.2 (rowT t) (stv wE wL gE gL sE sL wid t.1 t.2.1 t.2.2).2)
def ptA1 (kd pn so se wE wL gE gL sE sL sc : Int → Int) (size per wid : Int) (t : Int × Int × Option (Int × List Int)) : List (Int × List Int) := (rp (itA kd pn so se size) 49 (2 * t.1 + t.2.1)).flatMap (pt1 kd pn so se wE wL gE gL sc per wid t.1 t.2.2 (rowT t) (stv wE wL gE gL sE sL wid t.1 t.2.1 t.2.2).1)
/-- arrivals of a list of starts -/
def arT (kd pn so se wE wL gE gL sE sL : Int → Int) (size wid : Int) (os : List Int) (T : List (Int × Int × Option (Int × List Int))) (f : Int × Int → Int) (m c b x : Int) : Prop := ∃ t ∈ T, m < size ∧ b = bb wid t.2.2 ∧ ∃ u, UN kd so wE wL (WW pn so se wE wL gE gL sE sL wid os t) m c u ∧ x = f u
def FAT (kd pn so se wE wL gE gL sE sL : Int → Int) (size wid : Int) (os : List Int) (T : List (Int × Int × Option (Int × List Int))) (A B : Int → Int) : Prop :=
  (∀ i, 0 ≤ i → i < 192 → (-2147483648 ≤ A i ∧ A i ≤ 2147483647) ∧ -2147483648 ≤ B i ∧ B i ≤ 2147483647) ∧ ∀ m c b, 0 ≤ m → m < 48 → (c = 0 ∨ c = 1) → (b = 0 ∨ b = 1) → mnN (arT kd pn so se wE wL gE gL sE sL size wid os T (fun u => u.1) m c b) (A (4 * m + 2 * c + b)) ∧ mxN (arT kd pn so se wE wL gE gL sE sL size wid os T (fun u => u.2) m c b) (B (4 * m + 2 * c + b))
theorem arT_s {os : List Int} {T : List (Int × Int × Option (Int × List Int))} {t : Int × Int × Option (Int × List Int)} {f : Int × Int → Int} {m c b x : Int} : arT kd pn so se wE wL gE gL sE sL size wid os (T ++ [t]) f m c b x ↔ arT kd pn so se wE wL gE gL sE sL size wid os T f m c b x ∨ (m < size ∧ b = bb wid t.2.2 ∧ ∃ u, UN kd so wE wL (WW pn so se wE wL gE gL sE sL wid os t) m c u ∧ x = f u) := by
  unfold arT
  constructor
  · rintro ⟨z, h1, h2⟩
    rcases List.mem_append.mp h1 with q | q
    · exact Or.inl ⟨z, q, h2⟩
    · rw [List.mem_singleton.mp q] at h2; exact Or.inr h2
  · rintro (⟨z, h1, h2⟩ | h2)
    · exact ⟨z, List.mem_append.mpr (Or.inl h1), h2⟩
    · exact ⟨t, List.mem_append.mpr (Or.inr (List.mem_singleton.mpr rfl)), h2⟩
theorem FAT_in {os : List Int} {T : List (Int × Int × Option (Int × List Int))} {A B : Int → Int} {U : Int → Int → (Int × Int) → Prop} {b0 : Int} (h : FAT kd pn so se wE wL gE gL sE sL size wid os T A B) : FA U b0 0 (arT kd pn so se wE wL gE gL sE sL size wid os T (fun u => u.1)) (arT kd pn so se wE wL gE gL sE sL size wid os T (fun u => u.2)) A B :=
  ⟨h.1, fun m c b m1 m2 hc hb => ⟨mnN_cg (fun x => ⟨Or.inl, fun q => q.resolve_right (fun z => by omega)⟩) (h.2 m c b m1 m2 hc hb).1, mxN_cg (fun x => ⟨Or.inl, fun q => q.resolve_right (fun z => by omega)⟩) (h.2 m c b m1 m2 hc hb).2⟩⟩
theorem FAT_out {os : List Int} {T : List (Int × Int × Option (Int × List Int))} {t : Int × Int × Option (Int × List Int)} {A B : Int → Int} (h : FA (UN kd so wE wL (WW pn so se wE wL gE gL sE sL wid os t)) (bb wid t.2.2) size (arT kd pn so se wE wL gE gL sE sL size wid os T (fun u => u.1)) (arT kd pn so se wE wL gE gL sE sL size wid os T (fun u => u.2)) A B) : FAT kd pn so se wE wL gE gL sE sL size wid os (T ++ [t]) A B :=
  ⟨h.1, fun m c b m1 m2 hc hb => ⟨mnN_cg (fun x => arT_s.symm) (h.2 m c b m1 m2 hc hb).1, mxN_cg (fun x => arT_s.symm) (h.2 m c b m1 m2 hc hb).2⟩⟩
/-- slacks of a list of starts -/
def slT (kd pn so se : Int → Int) (size : Int) (T : List (Int × Int × Option (Int × List Int))) (Q : (Int × Int × Option (Int × List Int)) → Int → Int → Option (Int × List Int) → Int → Prop) (m x : Int) : Prop := ∃ t ∈ T, m < size ∧ XN kd pn so se (Q t) m x
def swT (kd pn so se : Int → Int) (size : Int) (T : List (Int × Int × Option (Int × List Int))) (Q : (Int × Int × Option (Int × List Int)) → Int → Int → Option (Int × List Int) → Int → Prop) (x : Int) : Prop := ∃ t ∈ T, ∃ m, (0 ≤ m ∧ m < size) ∧ XN kd pn so se (Q t) m x
theorem slT_s {T : List (Int × Int × Option (Int × List Int))} {t : Int × Int × Option (Int × List Int)} {Q : (Int × Int × Option (Int × List Int)) → Int → Int → Option (Int × List Int) → Int → Prop} {m x : Int} : slT kd pn so se size (T ++ [t]) Q m x ↔ slT kd pn so se size T Q m x ∨ (m < size ∧ XN kd pn so se (Q t) m x) := by
  unfold slT
  constructor
  · rintro ⟨z, h1, h2⟩
    rcases List.mem_append.mp h1 with q | q
    · exact Or.inl ⟨z, q, h2⟩
    · rw [List.mem_singleton.mp q] at h2; exact Or.inr h2
  · rintro (⟨z, h1, h2⟩ | h2)
    · exact ⟨z, List.mem_append.mpr (Or.inl h1), h2⟩
    · exact ⟨t, List.mem_append.mpr (Or.inr (List.mem_singleton.mpr rfl)), h2⟩
theorem swT_s {T : List (Int × Int × Option (Int × List Int))} {t : Int × Int × Option (Int × List Int)} {Q : (Int × Int × Option (Int × List Int)) → Int → Int → Option (Int × List Int) → Int → Prop} {x : Int} : swT kd pn so se size (T ++ [t]) Q x ↔ swT kd pn so se size T Q x ∨ ∃ m, (0 ≤ m ∧ m < size) ∧ XN kd pn so se (Q t) m x := by
  unfold swT
  constructor
  · rintro ⟨z, h1, h2⟩
    rcases List.mem_append.mp h1 with q | q
    · exact Or.inl ⟨z, q, h2⟩
    · rw [List.mem_singleton.mp q] at h2; exact Or.inr h2
  · rintro (⟨z, h1, h2⟩ | h2)
    · exact ⟨z, List.mem_append.mpr (Or.inl h1), h2⟩
    · exact ⟨t, List.mem_append.mpr (Or.inr (List.mem_singleton.mpr rfl)), h2⟩
/-- what a start has at an end -/
def q0T (pn so se wE wL gE gL sE sL fo : Int → Int) (per wid : Int) (os : List Int) (K : Option (Int × List Int) → Option (Int × List Int) → Prop) (t : Int × Int × Option (Int × List Int)) : Int → Int → Option (Int × List Int) → Int → Prop := Y0 so wE wL gE gL fo per wid (WW pn so se wE wL gE gL sE sL wid os t) t.1 t.2.2 (K t.2.2)
def q1T (pn so se wE wL gE gL sE sL sc : Int → Int) (per wid : Int) (os : List Int) (t : Int × Int × Option (Int × List Int)) : Int → Int → Option (Int × List Int) → Int → Prop := Y1 so wE wL gE gL sc per wid (WW pn so se wE wL gE gL sE sL wid os t) t.1 t.2.2
def kA : Option (Int × List Int) → Option (Int × List Int) → Prop := fun _ _ => True
def kM (wid : Int) : Option (Int × List Int) → Option (Int × List Int) → Prop := fun o o' => wbs wid o' ≤ wbs wid o
def kF (wid : Int) : Option (Int × List Int) → Option (Int × List Int) → Prop := fun o o' => ¬ wbs wid o' ≤ wbs wid o
def FST (kd pn so se wE wL gE gL sE sL fo sc : Int → Int) (size per wid : Int) (os : List Int) (T : List (Int × Int × Option (Int × List Int))) (S : Int → Int) (w o : Int) : Prop :=
  ((∀ i, 0 ≤ i → i < 96 → -2147483648 ≤ S i ∧ S i ≤ 2147483647) ∧ (-2147483648 ≤ w ∧ w ≤ 2147483647) ∧ (-2147483648 ≤ o ∧ o ≤ 2147483647)) ∧ (∀ m, 0 ≤ m → m < 48 → mnN (slT kd pn so se size T (q0T pn so se wE wL gE gL sE sL fo per wid os kA) m) (S (2 * m)) ∧ mnN (slT kd pn so se size T (q1T pn so se wE wL gE gL sE sL sc per wid os) m) (S (2 * m + 1))) ∧ mnN (swT kd pn so se size T (q0T pn so se wE wL gE gL sE sL fo per wid os (kM wid))) w ∧ mnN (swT kd pn so se size T (q0T pn so se wE wL gE gL sE sL fo per wid os (kF wid))) o
theorem FST_in {os : List Int} {T : List (Int × Int × Option (Int × List Int))} {S : Int → Int} {w o : Int} {X0 X1 Xm Xf : Int → Int → Prop} (h : FST kd pn so se wE wL gE gL sE sL fo sc size per wid os T S w o) : FS X0 X1 Xm Xf 0 (slT kd pn so se size T (q0T pn so se wE wL gE gL sE sL fo per wid os kA)) (slT kd pn so se size T (q1T pn so se wE wL gE gL sE sL sc per wid os)) (swT kd pn so se size T (q0T pn so se wE wL gE gL sE sL fo per wid os (kM wid))) (swT kd pn so se size T (q0T pn so se wE wL gE gL sE sL fo per wid os (kF wid))) S w o :=
  ⟨h.1, fun m m1 m2 => ⟨mnN_cg (fun x => ⟨Or.inl, fun q => q.resolve_right (fun z => by omega)⟩) (h.2.1 m m1 m2).1, mnN_cg (fun x => ⟨Or.inl, fun q => q.resolve_right (fun z => by omega)⟩) (h.2.1 m m1 m2).2⟩, mnN_cg (fun x => ⟨Or.inl, fun q => q.resolve_right (fun ⟨m, z, _⟩ => by omega)⟩) h.2.2.1, mnN_cg (fun x => ⟨Or.inl, fun q => q.resolve_right (fun ⟨m, z, _⟩ => by omega)⟩) h.2.2.2⟩
theorem FST_out {os : List Int} {T : List (Int × Int × Option (Int × List Int))} {t : Int × Int × Option (Int × List Int)} {S : Int → Int} {w o : Int} (h : FS (XN kd pn so se (q0T pn so se wE wL gE gL sE sL fo per wid os kA t)) (XN kd pn so se (q1T pn so se wE wL gE gL sE sL sc per wid os t)) (XN kd pn so se (q0T pn so se wE wL gE gL sE sL fo per wid os (kM wid) t)) (XN kd pn so se (q0T pn so se wE wL gE gL sE sL fo per wid os (kF wid) t)) size (slT kd pn so se size T (q0T pn so se wE wL gE gL sE sL fo per wid os kA)) (slT kd pn so se size T (q1T pn so se wE wL gE gL sE sL sc per wid os)) (swT kd pn so se size T (q0T pn so se wE wL gE gL sE sL fo per wid os (kM wid))) (swT kd pn so se size T (q0T pn so se wE wL gE gL sE sL fo per wid os (kF wid))) S w o) : FST kd pn so se wE wL gE gL sE sL fo sc size per wid os (T ++ [t]) S w o :=
  ⟨h.1, fun m m1 m2 => ⟨mnN_cg (fun x => slT_s.symm) (h.2.1 m m1 m2).1, mnN_cg (fun x => slT_s.symm) (h.2.1 m m1 m2).2⟩, mnN_cg (fun x => swT_s.symm) h.2.2.1, mnN_cg (fun x => swT_s.symm) h.2.2.2⟩
theorem s_setStart {n : Int} {k : Nat} {s : Int × Option (Int × List Int)} {dM dN : Int → Int} (hz : 1 ≤ size ∧ size ≤ 48) (hk : ∀ i, 0 ≤ kd i ∧ kd i ≤ 4) (hn : 0 ≤ n ∧ n < size) (hs : (stL kd pn so se n)[k]? = some s) (hk16 : k < 16) (hE : ∀ m, 0 ≤ m → m < size → (kd m = 4 ∨ kd m = 3) → endW kd pn so se wE wL gE gL wid wc wb we wl wla wsz wr wsp LL m) (hst : ∀ n c, (c = 0 ∨ c = 1) → (kd n = 1 → sE (2 * n + c) = fo (2 * n + c) ∧ sL (2 * n + c) = sc (2 * n + c)) ∧ (kd n = 3 → sE (2 * n + c) = dM (6 * n + 2 + c) ∧ sL (2 * n + c) = dN (6 * n + 2 + c))) :
    ∃ p, isQ wE wL gE gL wid wc wb we wl wla wsz wr wsp LL n p s.2 ∧ (-2147483648 ≤ p ∧ p < 384) ∧ f_M_setStart F kd dM dN fo sc wb we wl n (k : Int) = some (n, s.1, p, wbs wid s.2, (stv wE wL gE gL sE sL wid n s.1 s.2).1, (stv wE wL gE gL sE sL wid n s.1 s.2).2) := by
  obtain ⟨h1, h2, h3⟩ := stL_get hs
  have hkn := hk n
  rcases h1 with h1 | h1
  · have hw : wys kd pn so se n = [none] := by unfold wys; rw [if_neg (by omega), if_pos (Or.inl h1)]
    rw [hw] at h3
    have h2k := getE_lt h3
    have e0 : k / 2 = 0 := by simp at h2k; omega
    rw [e0] at h3
    have h4 : s.2 = none := (Option.some.inj h3).symm
    refine ⟨-2147483648, Or.inl ⟨by omega, h4⟩, by omega, ?_⟩
    have h5 := (hst n s.1 (by omega)).1 h1
    have : ok (f_M_setStart F kd dM dN fo sc wb we wl n (k : Int)) (fun r => r = (n, s.1, (-2147483648 : Int), wbs wid s.2, (stv wE wL gE gL sE sL wid n s.1 s.2).1, (stv wE wL gE gL sE sL wid n s.1 s.2).2)) := by
      unfold f_M_setStart
      refine ok_gp ⟨by omega, by omega⟩ (ok_gi ⟨by omega, by omega⟩ (ok_gr ⟨by omega, by omega⟩ (ok_if (fun _ => ?_) (fun z => absurd h1 z))))
      refine ok_gp ⟨by omega, by omega⟩ (ok_gi ⟨by omega, by omega⟩ (ok_gp ⟨by omega, by omega⟩ (ok_gi ⟨by omega, by omega⟩ (ok_some.mpr ?_))))
      rw [← h2, h4, ← h5.1, ← h5.2]
      unfold stv
      show (n, s.1, (-2147483648 : Int), (0 : Int), sE (2 * n + s.1), sL (2 * n + s.1)) = (n, s.1, (-2147483648 : Int), (0 : Int), (0 : Int) + 0 + sE (2 * n + s.1), (0 : Int) + 0 + sL (2 * n + s.1))
      rw [show (0 : Int) + 0 + sE (2 * n + s.1) = sE (2 * n + s.1) by omega, show (0 : Int) + 0 + sL (2 * n + s.1) = sL (2 * n + s.1) by omega]
    obtain ⟨r, r1, r2⟩ := this
    rw [r1, r2]
  · rcases hE n hn.1 hn.2 (Or.inr h1) with ⟨z, -⟩ | ⟨-, e1, e2, e3, e4⟩
    · omega
    · rw [e3, List.getElem?_map] at h3
      cases q : (LL n)[k / 2]? with
      | none => rw [q] at h3; cases h3
      | some w =>
        rw [q] at h3
        have h4 : s.2 = some w := (Option.some.inj h3).symm
        have hQ := e4 (k / 2) w q
        have hkl := getE_lt q
        rw [← h4] at hQ
        rcases isQ_v hQ with ⟨z, -⟩ | ⟨v1, v2, v3, v4⟩
        · omega
        · refine ⟨8 * n + (k / 2 : Nat), hQ, by omega, ?_⟩
          have h5 := (hst n s.1 (by omega)).2 h1
          have ek : (k : Int) / 2 = ((k / 2 : Nat) : Int) := by omega
          have : ok (f_M_setStart F kd dM dN fo sc wb we wl n (k : Int)) (fun r => r = (n, s.1, 8 * n + ((k / 2 : Nat) : Int), wbs wid s.2, (stv wE wL gE gL sE sL wid n s.1 s.2).1, (stv wE wL gE gL sE sL wid n s.1 s.2).2)) := by
            unfold f_M_setStart
            refine ok_gp ⟨by omega, by omega⟩ (ok_gi ⟨by omega, by omega⟩ (ok_gr ⟨by omega, by omega⟩ (ok_if (fun z => by omega) (fun _ => ?_))))
            refine ok_gp ⟨by omega, by omega⟩ (ok_gi ⟨by omega, by omega⟩ (ok_gi ⟨by omega, by omega⟩ (ok_gp ⟨by omega, by omega⟩ (ok_gi ⟨by omega, by omega⟩ (ok_gi ⟨by omega, by omega⟩ (ok_gp ⟨by omega, by omega⟩ (ok_gi ⟨by omega, by omega⟩ (ok_some.mpr ?_))))))))
            rw [← h2, ek, v2, v3, v4, ← h5.1, ← h5.2]
            rfl
          obtain ⟨r, r1, r2⟩ := this
          rw [r1, r2]
end STA
