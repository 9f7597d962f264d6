/-! the rows of timing paths are short -/
section MPE
variable {kd pn so se wE wL gE gL sE sL su ho fo sc fr dM dN : Int → Int} {size wid per : Int}
theorem rk_os {os : List Int} (ht : topo kd pn so se os) (hc : ∀ n, kd n = 2 → n ∈ os) : ∃ rk : Int → Nat, (∀ s et, et ∈ insN kd pn so se s → rk et.2 < rk s) ∧ ∀ s, rk s ≤ os.length := by
  refine ⟨fun s => if s / 2 ∈ os then os.length - aft os (s / 2) else 0, fun s et he => ?_, fun s => ?_⟩
  · obtain ⟨hk, p, was, hp, hw, h0, -, rfl⟩ := insN_mem.mp he
    have h1 := hc _ hk
    have e : (2 * so (3 * (s / 2) + p) + was) / 2 = so (3 * (s / 2) + p) := by omega
    show (if (2 * so (3 * (s / 2) + p) + was) / 2 ∈ os then os.length - aft os ((2 * so (3 * (s / 2) + p) + was) / 2) else 0) < (if s / 2 ∈ os then os.length - aft os (s / 2) else 0)
    rw [e, if_pos h1]
    have h2 := aft_lt os _ h1
    by_cases h3 : so (3 * (s / 2) + p) ∈ os
    · rw [if_pos h3]
      have h4 := aft_topo os ht (s / 2) p h1 hp.1 hp.2 h3
      have h5 := aft_lt os _ h3
      omega
    · rw [if_neg h3]; omega
  · show (if s / 2 ∈ os then os.length - aft os (s / 2) else 0) ≤ os.length
    by_cases h : s / 2 ∈ os
    · rw [if_pos h]; omega
    · rw [if_neg h]; omega
theorem isW_os {os : List Int} (h : full kd pn so se os) {x s : Int} {w : List Int} (hw : isW (insN kd pn so se) x w s) : w.length ≤ os.length := by
  obtain ⟨rk, h1, h2⟩ := rk_os h.1.1 h.2
  have a := isW_len h1 w s hw
  have b := h2 s
  omega
theorem isW_el (hz : size ≤ 48) (hkd : ∀ i, kd i ≠ 0 → 0 < i ∧ i < size) (hp : ∀ i, 0 ≤ pn i ∧ pn i ≤ 3) {x : Int} : ∀ (w : List Int) (s : Int), isW (insN kd pn so se) x w s → ∀ e ∈ w, 0 ≤ e ∧ e < 400 := by
  intro w
  induction w with
  | nil => intro s _ e he; cases he
  | cons a w ih =>
    intro s h e he
    obtain ⟨t, h1, h2⟩ := h
    rcases List.mem_cons.mp he with q | q
    · obtain ⟨hk, p, was, a2, -, -, -, a6⟩ := insN_mem.mp h1
      injection a6 with a6 a7
      have b := hkd (s / 2) (by omega)
      have b2 := hp (s / 2)
      omega
    · exact ih t h2 e q
theorem os_47 (hz : size ≤ 48) (hkd : ∀ i, kd i ≠ 0 → 0 < i ∧ i < size) (hk0 : kd 0 = 0) {os : List Int} (h : full kd pn so se os) : os.length ≤ 47 := by
  have hn : (0 :: os).Nodup := List.nodup_cons.mpr ⟨fun q => by have := topo_kd _ h.1.1 0 q; omega, topo_nodup _ h.1.1⟩
  have := nodup_le 48 (0 :: os) hn (fun x hx => by
    rcases List.mem_cons.mp hx with q | q
    · omega
    · have := hkd x (by rw [topo_kd _ h.1.1 x q]; omega); omega)
  rw [List.length_cons] at this
  omega
theorem os_46 (hz : size ≤ 48) (hkd : ∀ i, kd i ≠ 0 → 0 < i ∧ i < size) (hk0 : kd 0 = 0) {os : List Int} (h : full kd pn so se os) {n : Int} (h3 : kd n = 3) : os.length ≤ 46 := by
  have hnb := hkd n (by omega)
  have hn : (0 :: n :: os).Nodup := List.nodup_cons.mpr ⟨fun q => by
    rcases List.mem_cons.mp q with q | q
    · omega
    · have := topo_kd _ h.1.1 0 q; omega, List.nodup_cons.mpr ⟨fun q => by have := topo_kd _ h.1.1 n q; omega, topo_nodup _ h.1.1⟩⟩
  have := nodup_le 48 (0 :: n :: os) hn (fun x hx => by
    rcases List.mem_cons.mp hx with q | q
    · omega
    · rcases List.mem_cons.mp q with q | q
      · omega
      · have := hkd x (by rw [topo_kd _ h.1.1 x q]; omega); omega)
  rw [List.length_cons, List.length_cons] at this
  omega
theorem wys_c {n : Int} {o : Option (Int × List Int)} (h : o ∈ wys kd pn so se n) : (o = none ∧ (kd n = 1 ∨ kd n = 4)) ∨ ∃ w, o = some w ∧ kd n = 3 ∧ 0 ≤ so (3 * n + 1) ∧ w ∈ BW kd pn so se (2 * so (3 * n + 1)) := by
  unfold wys at h
  by_cases h3 : kd n = 3
  · rw [if_pos h3] at h
    by_cases h1 : so (3 * n + 1) < 0
    · rw [if_pos h1] at h; cases h
    · rw [if_neg h1] at h
      obtain ⟨w, w1, w2⟩ := List.mem_map.mp h
      exact Or.inr ⟨w, w2.symm, h3, by omega, w1⟩
  · rw [if_neg h3] at h
    by_cases h1 : kd n = 1 ∨ kd n = 4
    · rw [if_pos h1] at h; exact Or.inl ⟨List.mem_singleton.mp h, h1⟩
    · rw [if_neg h1] at h; cases h
theorem BW_el (hz : size ≤ 48) (hkd : ∀ i, kd i ≠ 0 → 0 < i ∧ i < size) (hk0 : kd 0 = 0) (hp : ∀ i, 0 ≤ pn i ∧ pn i ≤ 3) {os : List Int} (h : full kd pn so se os) {s : Int} {w : Int × List Int} (hw : w ∈ BW kd pn so se s) : ∀ e ∈ rowW w, 0 ≤ e ∧ e < 400 := by
  obtain ⟨h1, h2⟩ := BW_in hz hkd hk0 h hw
  intro e he
  rcases List.mem_cons.mp (show e ∈ w.1 :: w.2.reverse from he) with q | q
  · have := (isK_i _).mp h1; omega
  · exact isW_el hz hkd hp _ _ h2 e (List.mem_reverse.mp q)
theorem rowO_b (hz : size ≤ 48) (hkd : ∀ i, kd i ≠ 0 → 0 < i ∧ i < size) (hk0 : kd 0 = 0) (hp : ∀ i, 0 ≤ pn i ∧ pn i ≤ 3) {os : List Int} (h : full kd pn so se os) {n : Int} {o : Option (Int × List Int)} (ho : o ∈ wys kd pn so se n) : ((rowO o).length = 0 ∨ (os.length ≤ 46 ∧ (rowO o).length ≤ 47)) ∧ ∀ e ∈ rowO o, 0 ≤ e ∧ e < 400 := by
  rcases wys_c ho with ⟨q, -⟩ | ⟨w, q, h3, -, hw⟩
  · rw [q]; exact ⟨Or.inl rfl, fun e he => by cases he⟩
  · rw [q]
    have l1 := os_46 hz hkd hk0 h h3
    have l2 := isW_os h (BW_in hz hkd hk0 h hw).2
    have l3 : (rowO (some w)).length = w.2.length + 1 := rowW_len w
    exact ⟨Or.inr ⟨l1, by omega⟩, BW_el hz hkd hk0 hp h hw⟩
theorem edg_b2 (hwid : 1 ≤ wid ∧ wid < per ∧ per ≤ 1000000) (o o' : Option (Int × List Int)) : 0 ≤ edg per wid o o' ∧ edg per wid o o' ≤ 2000000 := by
  have a := wbs_b (wid := wid) (by omega) o'
  unfold edg
  by_cases c : wbs wid o' ≤ wbs wid o
  · rw [if_pos c]; omega
  · rw [if_neg c]; omega
/-- the row of a timing path -/
theorem path_row (hN : InvN size per wid kd pn so wE wL se gE gL sE sL su ho) {os : List Int} (hfu : full kd pn so se os) {t : Int × Int × Option (Int × List Int)} {w : List Int} {m c s : Int} {o' : Option (Int × List Int)} (h1 : 0 ≤ t.1 ∧ t.1 < size) (h2 : t.2.1 = 0 ∨ t.2.1 = 1) (h3 : t.2.2 ∈ wys kd pn so se t.1) (h4 : o' ∈ wys kd pn so se m) (hm : 0 ≤ m ∧ m < size) (hc : c = 0 ∨ c = 1) (hw : isW (insN kd pn so se) (2 * t.1 + t.2.1) w.reverse s) : (rowT t ++ w ++ (8 * m + c) :: rowO o').length ≤ 144 ∧ ∀ e ∈ rowT t ++ w ++ (8 * m + c) :: rowO o', 0 ≤ e ∧ e < 400 := by
  obtain ⟨hz, hpw, hk0, hk, hkd, hp, hpk, hs, hs4, hww, hse, hg, hsr, hsu, hho⟩ := hN
  have b1 := rowO_b hz.2 hkd hk0 hp hfu h3
  have b2 := rowO_b hz.2 hkd hk0 hp hfu h4
  have b3 := isW_os hfu hw
  rw [List.length_reverse] at b3
  have b4 := os_47 hz.2 hkd hk0 hfu
  have b5 : (rowT t).length = (rowO t.2.2).length + 1 := by unfold rowT; rw [List.length_append]; rfl
  refine ⟨?_, fun e he => ?_⟩
  · rw [List.length_append, List.length_append, List.length_cons, b5]
    omega
  · rcases List.mem_append.mp he with he | he
    · rcases List.mem_append.mp he with he | he
      · unfold rowT at he
        rcases List.mem_append.mp he with he | he
        · exact b1.2 e he
        · have := List.mem_singleton.mp he
          rw [this]
          cases t.2.2 with
          | none => show 0 ≤ 8 * t.1 + 0 + t.2.1 ∧ 8 * t.1 + 0 + t.2.1 < 400; omega
          | some w => show 0 ≤ 8 * t.1 + 2 + t.2.1 ∧ 8 * t.1 + 2 + t.2.1 < 400; omega
      · exact isW_el hz.2 hkd hp _ _ hw e (List.mem_reverse.mpr he)
    · rcases List.mem_cons.mp he with he | he
      · omega
      · exact b2.2 e he
theorem rp_get (hN : InvN size per wid kd pn so wE wL se gE gL sE sL su ho) {os : List Int} (hfu : full kd pn so se os) {x : Int} {tw : List Int × (Int × Int)} : tw ∈ rp (itA kd pn so se size) 49 x ↔ tw.2 ∈ enL kd so size ∧ isW (insN kd pn so se) x tw.1.reverse (sgE so tw.2) := by
  obtain ⟨hz, hpw, hk0, hk, hkd, hp, hpk, hs, hs4, hww, hse, hg, hsr, hsu, hho⟩ := hN
  obtain ⟨rk, r1, r2⟩ := full_rk hz.2 hkd hfu
  have hK' : ∀ s, rk s ≤ 48 := fun s => by have := r2 s; omega
  rw [show tw = (tw.1, tw.2) from rfl, rp_mem r1 hK' (itA_inl (so := so) (se := se) hkd hp) 49 x tw.1 tw.2 (by omega)]
  constructor
  · rintro ⟨s, q1, q2⟩
    obtain ⟨q3, q4⟩ := (itA_inr hk hpk s tw.2).mp q2
    rw [← q4] at q1
    exact ⟨q3, isF_iff.mp q1⟩
  · rintro ⟨q3, q4⟩
    exact ⟨_, isF_iff.mpr q4, (itA_inr hk hpk _ _).mpr ⟨q3, rfl⟩⟩
theorem mpe0 (hN : InvN size per wid kd pn so wE wL se gE gL sE sL su ho) (hM : InvM size per wid kd pn so wE wL se gE gL sE sL su ho per wid size kd pn fr wE wL se dM dN fo sc) {os : List Int} (hfu : full kd pn so se os) : ∀ t ∈ AL kd pn so se size 0, ∀ x ∈ ptA0 kd pn so se wE wL gE gL sE sL fo size per wid t, PE x := by
  intro t ht x hx
  obtain ⟨t1, t2, t3, t4⟩ := AL_mem.mp ht
  obtain ⟨tw, w1, w2⟩ := List.mem_flatMap.mp hx
  obtain ⟨o', o1, o2⟩ := List.mem_map.mp w2
  obtain ⟨e1, e2⟩ := (rp_get hN hfu).mp w1
  obtain ⟨e3, e4, e5⟩ := enL_mem.mp e1
  have hr := path_row hN hfu t1 t3 t4 o1 e3 e5 e2
  have hsb := stv_b hN hfu t4 (c := t.2.1)
  have hos := isW_os hfu e2
  obtain ⟨hz, hpw, hk0, hk, hkd, hp, hpk, hs, hs4, hww, hse, hg, hsr, hsu, hho⟩ := hN
  obtain ⟨-, -, -, -, -, -, -, -, -, -, -, -, hfs⟩ := hM
  have b4 := os_47 hz.2 hkd hk0 hfu
  rw [List.length_reverse] at hos
  have s2 := sm_b (dE_b (wE := wL) (gE := gL) (fun i => by have := hww i; omega) (fun i => by have := hg i; omega)) tw.1
  have a1 := edg_b2 (per := per) (wid := wid) ⟨by omega, by omega, by omega⟩ t.2.2 o'
  have a2 := wdl_b hz.2 hkd hk0 (fun i => by have := hww i; omega) (fun i => by have := hg i; omega) hfu o1 tw.2.1 (wE := wE) (gE := gE)
  have a3 := crd_b hz.2 hkd hk0 hww hg hfu t4 (m := tw.2.1) (o' := o')
  have a4 := hfs (2 * tw.2.1 + tw.2.2)
  have a5 := hww (3 * tw.2.1)
  rw [← o2]
  refine ⟨?_, hr⟩
  unfold P0M
  simp only
  omega
theorem mpe1 (hN : InvN size per wid kd pn so wE wL se gE gL sE sL su ho) (hM : InvM size per wid kd pn so wE wL se gE gL sE sL su ho per wid size kd pn fr wE wL se dM dN fo sc) {os : List Int} (hfu : full kd pn so se os) : ∀ t ∈ AL kd pn so se size 0, ∀ x ∈ ptA1 kd pn so se wE wL gE gL sE sL sc size per wid t, PE x := by
  intro t ht x hx
  obtain ⟨t1, t2, t3, t4⟩ := AL_mem.mp ht
  obtain ⟨tw, w1, w2⟩ := List.mem_flatMap.mp hx
  obtain ⟨o', o1, o2⟩ := List.mem_map.mp w2
  obtain ⟨e1, e2⟩ := (rp_get hN hfu).mp w1
  obtain ⟨e3, e4, e5⟩ := enL_mem.mp e1
  have hr := path_row hN hfu t1 t3 t4 o1 e3 e5 e2
  have hsb := stv_b hN hfu t4 (c := t.2.1)
  have hos := isW_os hfu e2
  obtain ⟨hz, hpw, hk0, hk, hkd, hp, hpk, hs, hs4, hww, hse, hg, hsr, hsu, hho⟩ := hN
  obtain ⟨-, -, -, -, -, -, -, -, -, -, -, -, hfs⟩ := hM
  have b4 := os_47 hz.2 hkd hk0 hfu
  rw [List.length_reverse] at hos
  have s2 := sm_b (dE_b (wE := wE) (gE := gE) (fun i => by have := hww i; omega) (fun i => by have := hg i; omega)) tw.1
  have a1 := edg_b2 (per := per) (wid := wid) ⟨by omega, by omega, by omega⟩ t.2.2 o'
  have a2 := wdl_b hz.2 hkd hk0 (fun i => by have := hww i; omega) (fun i => by have := hg i; omega) hfu o1 tw.2.1 (wE := wL) (gE := gL)
  have a3 := crd_b hz.2 hkd hk0 hww hg hfu t4 (m := tw.2.1) (o' := o')
  have a4 := hfs (2 * tw.2.1 + tw.2.2)
  have a5 := hww (3 * tw.2.1)
  rw [← o2]
  refine ⟨?_, hr⟩
  unfold P1M
  simp only
  omega
end MPE
