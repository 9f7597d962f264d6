/-! both lists are of the same timing paths -/
theorem flat_app {α β : Type} (f g : α → List β) : ∀ l : List α, List.Perm (l.flatMap (fun a => f a ++ g a)) (l.flatMap f ++ l.flatMap g) := by
  intro l
  induction l with
  | nil => exact List.Perm.refl _
  | cons a l ih =>
    rw [List.flatMap_cons, List.flatMap_cons, List.flatMap_cons]
    refine (List.Perm.append_left _ ih).trans ?_
    rw [List.append_assoc, List.append_assoc]
    refine List.Perm.append_left _ ?_
    rw [← List.append_assoc, ← List.append_assoc]
    exact List.Perm.append_right _ List.perm_append_comm
theorem flat_swap {α β γ : Type} (f : α → β → List γ) (l' : List β) : ∀ l : List α, List.Perm (l.flatMap (fun a => l'.flatMap (f a))) (l'.flatMap (fun b => l.flatMap (fun a => f a b))) := by
  intro l
  induction l with
  | nil =>
    have : l'.flatMap (fun _ => ([] : List γ)) = [] := List.flatMap_eq_nil_iff.mpr (fun _ _ => rfl)
    show List.Perm [] (l'.flatMap (fun _ => ([] : List γ)))
    rw [this]
  | cons a l ih =>
    rw [List.flatMap_cons]
    refine (List.Perm.append_left _ ih).trans ?_
    refine (flat_app (f a) (fun b => l.flatMap (fun a => f a b)) l').symm.trans ?_
    exact List.Perm.of_eq (flatMap_cg (fun b _ => by rw [List.flatMap_cons]))
theorem flat_permR {α β : Type} {l l' : List α} (f : α → List β) (h : List.Perm l l') : List.Perm (l.flatMap f) (l'.flatMap f) := by
  induction h with
  | nil => exact List.Perm.refl _
  | cons a _ ih => rw [List.flatMap_cons, List.flatMap_cons]; exact List.Perm.append_left _ ih
  | swap a b l =>
    rw [List.flatMap_cons, List.flatMap_cons, List.flatMap_cons, List.flatMap_cons, ← List.append_assoc, ← List.append_assoc]
    exact List.Perm.append_right _ List.perm_append_comm
  | trans _ _ ih1 ih2 => exact ih1.trans ih2
section PRM
variable {kd pn so se wE wL gE gL sE sL su ho fo sc fr dM dN : Int → Int} {size per wid : Int}
/-- one start's words to all ends -/
def D1 (kd pn so se : Int → Int) (size n : Int) : List (Int × (List Int × (Int × Int))) := (rp (itA kd pn so se size) 49 (2 * n)).map (fun tw => (0, tw)) ++ (rp (itA kd pn so se size) 49 (2 * n + 1)).map (fun tw => (1, tw))
def D2 (kd pn so se : Int → Int) (size n : Int) : List (Int × (List Int × (Int × Int))) := (enL kd so size).flatMap (fun mc => (DW kd pn so se n (sgE so mc)).map (fun xw => (xw.1 % 2, (xw.2.reverse, mc))))
theorem D1_mem (hN : InvN size per wid kd pn so wE wL se gE gL sE sL su ho) {os : List Int} (hfu : full kd pn so se os) {n : Int} {d : Int × (List Int × (Int × Int))} : d ∈ D1 kd pn so se size n ↔ (d.1 = 0 ∨ d.1 = 1) ∧ d.2.2 ∈ enL kd so size ∧ isW (insN kd pn so se) (2 * n + d.1) d.2.1.reverse (sgE so d.2.2) := by
  unfold D1
  rw [List.mem_append, List.mem_map, List.mem_map]
  constructor
  · rintro (⟨tw, h1, h2⟩ | ⟨tw, h1, h2⟩)
    · rw [← h2]
      have := (rp_get hN hfu).mp h1
      exact ⟨Or.inl rfl, this.1, by show isW _ (2 * n + 0) _ _; rw [Int.add_zero]; exact this.2⟩
    · rw [← h2]
      have := (rp_get hN hfu).mp h1
      exact ⟨Or.inr rfl, this⟩
  · rintro ⟨h1, h2, h3⟩
    rcases h1 with h1 | h1
    · refine Or.inl ⟨d.2, (rp_get hN hfu).mpr ⟨h2, ?_⟩, Prod.ext h1.symm rfl⟩
      rw [h1, Int.add_zero] at h3
      exact h3
    · refine Or.inr ⟨d.2, (rp_get hN hfu).mpr ⟨h2, ?_⟩, Prod.ext h1.symm rfl⟩
      rw [h1] at h3
      exact h3
theorem D2_mem (hN : InvN size per wid kd pn so wE wL se gE gL sE sL su ho) {os : List Int} (hfu : full kd pn so se os) {n : Int} (hn : kd n ≠ 2) {d : Int × (List Int × (Int × Int))} : d ∈ D2 kd pn so se size n ↔ (d.1 = 0 ∨ d.1 = 1) ∧ d.2.2 ∈ enL kd so size ∧ isW (insN kd pn so se) (2 * n + d.1) d.2.1.reverse (sgE so d.2.2) := by
  obtain ⟨hz, hpw, hk0, hk, hkd, hp, hpk, hs, hs4, hww, hse, hg, hsr, hsu, hho⟩ := hN
  unfold D2
  rw [List.mem_flatMap]
  constructor
  · rintro ⟨mc, h1, h2⟩
    obtain ⟨xw, h3, h4⟩ := List.mem_map.mp h2
    have h5 := (DW_mem hz.2 hkd hfu hn (sgE so mc) xw.1 xw.2).mp h3
    rw [← h4]
    refine ⟨by show xw.1 % 2 = 0 ∨ xw.1 % 2 = 1; omega, h1, ?_⟩
    show isW _ (2 * n + xw.1 % 2) xw.2.reverse.reverse (sgE so mc)
    rw [List.reverse_reverse, show 2 * n + xw.1 % 2 = xw.1 by omega]
    exact h5.2
  · rintro ⟨h1, h2, h3⟩
    refine ⟨d.2.2, h2, List.mem_map.mpr ⟨(2 * n + d.1, d.2.1.reverse), (DW_mem hz.2 hkd hfu hn _ _ _).mpr ⟨by omega, h3⟩, ?_⟩⟩
    rw [List.reverse_reverse, show (2 * n + d.1) % 2 = d.1 by omega]
theorem D1_nodup (hN : InvN size per wid kd pn so wE wL se gE gL sE sL su ho) {os : List Int} (hfu : full kd pn so se os) (n : Int) : (D1 kd pn so se size n).Nodup := by
  obtain ⟨hz, hpw, hk0, hk, hkd, hp, hpk, hs, hs4, hww, hse, hg, hsr, hsu, hho⟩ := hN
  obtain ⟨rk, r1, r2⟩ := full_rk hz.2 hkd hfu
  have hK' : ∀ s, rk s ≤ 48 := fun s => by have := r2 s; omega
  have hnd : ∀ x, (rp (itA kd pn so se size) 49 x).Nodup := fun x => rp_nodup (est := fun e => 2 * (e / 8) + e % 2) r1 hK' (itA_inl (so := so) (se := se) hkd hp) (fun s et h => ins_est hp s et h) (fun s => itA_nodup hp s) 49 x (by have := hK' x; omega)
  unfold D1
  refine List.nodup_append.mpr ⟨?_, ?_, ?_⟩
  · exact List.pairwise_map.mpr (List.Pairwise.imp (fun h q => h (by injection q)) (hnd _))
  · exact List.pairwise_map.mpr (List.Pairwise.imp (fun h q => h (by injection q)) (hnd _))
  · intro a ha b hb q
    obtain ⟨t1, -, h1⟩ := List.mem_map.mp ha
    obtain ⟨t2, -, h2⟩ := List.mem_map.mp hb
    rw [← h1, ← h2] at q
    injection q with q1 q2
    omega
theorem D2_nodup (hN : InvN size per wid kd pn so wE wL se gE gL sE sL su ho) {os : List Int} (hfu : full kd pn so se os) {n : Int} (hn : kd n ≠ 2) : (D2 kd pn so se size n).Nodup := by
  obtain ⟨hz, hpw, hk0, hk, hkd, hp, hpk, hs, hs4, hww, hse, hg, hsr, hsu, hho⟩ := hN
  obtain ⟨rk, r1, r2⟩ := full_rk hz.2 hkd hfu
  have hnd : ∀ s, (DW kd pn so se n s).Nodup := fun s => bw_nodup r1 (isN_nil hn) (insN_est hp) (insN_nodup kd pn so se) 49 s (r2 s)
  unfold D2
  refine List.pairwise_flatMap.mpr ⟨fun mc _ => ?_, List.Pairwise.imp ?_ (enL_nodup (kd := kd) (so := so) (size := size))⟩
  · refine List.pairwise_map.mpr (List.Pairwise.imp_of_mem ?_ (hnd (sgE so mc)))
    intro u v hu hv huv q
    injection q with q1 q2
    injection q2 with q3 q4
    have h1 := ((DW_mem hz.2 hkd hfu hn (sgE so mc) u.1 u.2).mp hu).1
    have h2 := ((DW_mem hz.2 hkd hfu hn (sgE so mc) v.1 v.2).mp hv).1
    exact huv (Prod.ext (by omega) (List.reverse_inj.mp q3))
  · intro u v huv x hx y hy q
    obtain ⟨t1, -, h1⟩ := List.mem_map.mp hx
    obtain ⟨t2, -, h2⟩ := List.mem_map.mp hy
    rw [← h1, ← h2] at q
    injection q with q1 q2
    injection q2 with q3 q4
    exact huv q4
theorem D12 (hN : InvN size per wid kd pn so wE wL se gE gL sE sL su ho) {os : List Int} (hfu : full kd pn so se os) {n : Int} (hn : kd n ≠ 2) : List.Perm (D2 kd pn so se size n) (D1 kd pn so se size n) :=
  (List.perm_ext_iff_of_nodup (D2_nodup hN hfu hn) (D1_nodup hN hfu n)).mpr (fun _ => (D2_mem hN hfu hn).trans (D1_mem hN hfu).symm)
/-- the timing paths of a word and a way of its start -/
def gP0 (kd pn so se wE wL gE gL sE sL fo : Int → Int) (per wid n : Int) (o : Option (Int × List Int)) (d : Int × (List Int × (Int × Int))) : List (Int × List Int) := pt0 kd pn so se wE wL gE gL fo per wid n o (rowT (n, d.1, o)) (stv wE wL gE gL sE sL wid n d.1 o).2 d.2
def gP1 (kd pn so se wE wL gE gL sE sL sc : Int → Int) (per wid n : Int) (o : Option (Int × List Int)) (d : Int × (List Int × (Int × Int))) : List (Int × List Int) := pt1 kd pn so se wE wL gE gL sc per wid n o (rowT (n, d.1, o)) (stv wE wL gE gL sE sL wid n d.1 o).1 d.2
theorem ref_0 {n : Int} : (stL kd pn so se n).flatMap (fun s => ptA0 kd pn so se wE wL gE gL sE sL fo size per wid (n, s)) = if kd n = 1 ∨ kd n = 3 then (wys kd pn so se n).flatMap (fun o => (D1 kd pn so se size n).flatMap (gP0 kd pn so se wE wL gE gL sE sL fo per wid n o)) else [] := by
  unfold stL
  by_cases q : kd n = 1 ∨ kd n = 3
  · rw [if_pos q, if_pos q, List.flatMap_assoc]
    refine flatMap_cg (fun o _ => ?_)
    rw [List.flatMap_cons, List.flatMap_cons, List.flatMap_nil, List.append_nil]
    unfold D1
    rw [List.flatMap_append, List.flatMap_map, List.flatMap_map]
    unfold ptA0
    simp only
    rw [Int.add_zero]
    rfl
  · rw [if_neg q, if_neg q]; rfl
theorem ref_1 {n : Int} : (stL kd pn so se n).flatMap (fun s => ptA1 kd pn so se wE wL gE gL sE sL sc size per wid (n, s)) = if kd n = 1 ∨ kd n = 3 then (wys kd pn so se n).flatMap (fun o => (D1 kd pn so se size n).flatMap (gP1 kd pn so se wE wL gE gL sE sL sc per wid n o)) else [] := by
  unfold stL
  by_cases q : kd n = 1 ∨ kd n = 3
  · rw [if_pos q, if_pos q, List.flatMap_assoc]
    refine flatMap_cg (fun o _ => ?_)
    rw [List.flatMap_cons, List.flatMap_cons, List.flatMap_nil, List.append_nil]
    unfold D1
    rw [List.flatMap_append, List.flatMap_map, List.flatMap_map]
    unfold ptA1
    simp only
    rw [Int.add_zero]
    rfl
  · rw [if_neg q, if_neg q]; rfl
/-- the class's timing paths of one start -/
def C0 (kd pn so se wE wL gE gL sL su : Int → Int) (size per wid : Int) (Of : Int → List (Option (Int × List Int))) (n : Int) : List (Int × List Int) := (enL kd so size).flatMap (fun mc => (DW kd pn so se n (sgE so mc)).flatMap (Z0 wE wL gE gL sL su per wid n mc.1 mc.2 (Of n) (Of mc.1) (wL (3 * mc.1)) []))
def C1 (kd pn so se wE wL gE gL sE ho : Int → Int) (size per wid : Int) (Of : Int → List (Option (Int × List Int))) (n : Int) : List (Int × List Int) := (enL kd so size).flatMap (fun mc => (DW kd pn so se n (sgE so mc)).flatMap (Z1 wE wL gE gL sE ho per wid n mc.1 mc.2 (Of n) (Of mc.1) (wE (3 * mc.1)) []))
theorem C0_ref (hN : InvN size per wid kd pn so wE wL se gE gL sE sL su ho) (hM : InvM size per wid kd pn so wE wL se gE gL sE sL su ho per wid size kd pn fr wE wL se dM dN fo sc) {os : List Int} (hfu : full kd pn so se os) {Of : Int → List (Option (Int × List Int))} (hOf : ∀ n, 0 ≤ n → n < size → List.Perm (Of n) (wys kd pn so se n)) {n : Int} (hn : 0 ≤ n ∧ n < size) (hk1 : kd n = 1 ∨ kd n = 3) : List.Perm (C0 kd pn so se wE wL gE gL sL su size per wid Of n) ((wys kd pn so se n).flatMap (fun o => (D1 kd pn so se size n).flatMap (gP0 kd pn so se wE wL gE gL sE sL fo per wid n o))) := by
  have hN' := hN
  obtain ⟨hz, hpw, hk0, hk, hkd, hp, hpk, hs, hs4, hww, hse, hg, hsr, hsu, hho⟩ := hN'
  obtain ⟨-, -, -, -, -, -, -, -, -, -, -, hf3, -⟩ := hM
  have h1 : List.Perm (C0 kd pn so se wE wL gE gL sL su size per wid Of n) ((D2 kd pn so se size n).flatMap (fun d => (wys kd pn so se n).flatMap (fun o => gP0 kd pn so se wE wL gE gL sE sL fo per wid n o d))) := by
    unfold C0 D2
    rw [List.flatMap_assoc]
    refine flat_perm _ (fun mc hmc => ?_)
    obtain ⟨m1, m2, m3⟩ := enL_mem.mp hmc
    rw [List.flatMap_map]
    refine flat_perm _ (fun xw hxw => ?_)
    have hx := (DW_mem hz.2 hkd hfu (by omega) (sgE so mc) xw.1 xw.2).mp hxw
    unfold Z0
    refine (flat_permR _ (hOf n hn.1 hn.2)).trans (flat_perm _ (fun o _ => ?_))
    refine ((hOf mc.1 m1.1 m1.2).map _).trans (List.Perm.of_eq ?_)
    unfold gP0 pt0
    refine List.map_congr_left (fun o' _ => ?_)
    have hfe := hf3 (2 * mc.1 + mc.2) (by rw [show (2 * mc.1 + mc.2) / 2 = mc.1 by omega]; exact m2.1.symm)
    unfold X0 P0M
    simp only
    rw [List.nil_append, hfe.1, sm_rev]
    refine Prod.ext ?_ rfl
    show srm wE wL gE gL per wid n o mc.1 o' - (wL (3 * mc.1) + sm (dE wL gL) xw.2 + sL xw.1 + su (2 * mc.1 + mc.2)) = _
    unfold srm stv
    simp only
    rw [show 2 * n + xw.1 % 2 = xw.1 by omega]
    omega
  refine h1.trans ((flat_permR _ (D12 hN hfu (by omega))).trans ?_)
  exact flat_swap (fun d o => gP0 kd pn so se wE wL gE gL sE sL fo per wid n o d) _ _
theorem C1_ref (hN : InvN size per wid kd pn so wE wL se gE gL sE sL su ho) (hM : InvM size per wid kd pn so wE wL se gE gL sE sL su ho per wid size kd pn fr wE wL se dM dN fo sc) {os : List Int} (hfu : full kd pn so se os) {Of : Int → List (Option (Int × List Int))} (hOf : ∀ n, 0 ≤ n → n < size → List.Perm (Of n) (wys kd pn so se n)) {n : Int} (hn : 0 ≤ n ∧ n < size) (hk1 : kd n = 1 ∨ kd n = 3) : List.Perm (C1 kd pn so se wE wL gE gL sE ho size per wid Of n) ((wys kd pn so se n).flatMap (fun o => (D1 kd pn so se size n).flatMap (gP1 kd pn so se wE wL gE gL sE sL sc per wid n o))) := by
  have hN' := hN
  obtain ⟨hz, hpw, hk0, hk, hkd, hp, hpk, hs, hs4, hww, hse, hg, hsr, hsu, hho⟩ := hN'
  obtain ⟨-, -, -, -, -, -, -, -, -, -, -, hf3, -⟩ := hM
  have h1 : List.Perm (C1 kd pn so se wE wL gE gL sE ho size per wid Of n) ((D2 kd pn so se size n).flatMap (fun d => (wys kd pn so se n).flatMap (fun o => gP1 kd pn so se wE wL gE gL sE sL sc per wid n o d))) := by
    unfold C1 D2
    rw [List.flatMap_assoc]
    refine flat_perm _ (fun mc hmc => ?_)
    obtain ⟨m1, m2, m3⟩ := enL_mem.mp hmc
    rw [List.flatMap_map]
    refine flat_perm _ (fun xw hxw => ?_)
    have hx := (DW_mem hz.2 hkd hfu (by omega) (sgE so mc) xw.1 xw.2).mp hxw
    unfold Z1
    refine (flat_permR _ (hOf n hn.1 hn.2)).trans (flat_perm _ (fun o _ => ?_))
    refine ((hOf mc.1 m1.1 m1.2).map _).trans (List.Perm.of_eq ?_)
    unfold gP1 pt1
    refine List.map_congr_left (fun o' _ => ?_)
    have hfe := hf3 (2 * mc.1 + mc.2) (by rw [show (2 * mc.1 + mc.2) / 2 = mc.1 by omega]; exact m2.1.symm)
    unfold X1 P1M
    simp only
    rw [List.nil_append, hfe.2, sm_rev]
    refine Prod.ext ?_ rfl
    show hrm wE wL gE gL per wid n o mc.1 o' + (wE (3 * mc.1) + sm (dE wE gE) xw.2 + sE xw.1 - ho (2 * mc.1 + mc.2)) = _
    unfold hrm stv
    simp only
    rw [show 2 * n + xw.1 % 2 = xw.1 by omega]
    omega
  refine h1.trans ((flat_permR _ (D12 hN hfu (by omega))).trans ?_)
  exact flat_swap (fun d o => gP1 kd pn so se wE wL gE gL sE sL sc per wid n o d) _ _
/-- the class's timing paths -/
def CT0 (kd pn so se wE wL gE gL sL su : Int → Int) (size per wid : Int) (Of : Int → List (Option (Int × List Int))) (v : Int) : List (Int × List Int) := (pinl v).flatMap (fun n => if kd n = 1 ∨ kd n = 3 then C0 kd pn so se wE wL gE gL sL su size per wid Of n else [])
def CT1 (kd pn so se wE wL gE gL sE ho : Int → Int) (size per wid : Int) (Of : Int → List (Option (Int × List Int))) (v : Int) : List (Int × List Int) := (pinl v).flatMap (fun n => if kd n = 1 ∨ kd n = 3 then C1 kd pn so se wE wL gE gL sE ho size per wid Of n else [])
theorem AL_flat {β : Type} {v : Int} (g : (Int × Int × Option (Int × List Int)) → List β) : (AL kd pn so se v 0).flatMap g = (pinl v).flatMap (fun n => (stL kd pn so se n).flatMap (fun s => g (n, s))) := by
  unfold AL
  rw [List.take_zero, List.map_nil, List.append_nil, List.flatMap_assoc]
  exact flatMap_cg (fun n _ => by rw [List.flatMap_map])
theorem CT0_ref (hN : InvN size per wid kd pn so wE wL se gE gL sE sL su ho) (hM : InvM size per wid kd pn so wE wL se gE gL sE sL su ho per wid size kd pn fr wE wL se dM dN fo sc) {os : List Int} (hfu : full kd pn so se os) {Of : Int → List (Option (Int × List Int))} (hOf : ∀ n, 0 ≤ n → n < size → List.Perm (Of n) (wys kd pn so se n)) : List.Perm (CT0 kd pn so se wE wL gE gL sL su size per wid Of size) ((AL kd pn so se size 0).flatMap (ptA0 kd pn so se wE wL gE gL sE sL fo size per wid)) := by
  rw [AL_flat]
  unfold CT0
  refine flat_perm _ (fun n hn => ?_)
  rw [ref_0]
  by_cases q : kd n = 1 ∨ kd n = 3
  · rw [if_pos q, if_pos q]
    exact C0_ref hN hM hfu hOf (pinl_mem.mp hn) q
  · rw [if_neg q, if_neg q]
theorem CT1_ref (hN : InvN size per wid kd pn so wE wL se gE gL sE sL su ho) (hM : InvM size per wid kd pn so wE wL se gE gL sE sL su ho per wid size kd pn fr wE wL se dM dN fo sc) {os : List Int} (hfu : full kd pn so se os) {Of : Int → List (Option (Int × List Int))} (hOf : ∀ n, 0 ≤ n → n < size → List.Perm (Of n) (wys kd pn so se n)) : List.Perm (CT1 kd pn so se wE wL gE gL sE ho size per wid Of size) ((AL kd pn so se size 0).flatMap (ptA1 kd pn so se wE wL gE gL sE sL sc size per wid)) := by
  rw [AL_flat]
  unfold CT1
  refine flat_perm _ (fun n hn => ?_)
  rw [ref_1]
  by_cases q : kd n = 1 ∨ kd n = 3
  · rw [if_pos q, if_pos q]
    exact C1_ref hN hM hfu hOf (pinl_mem.mp hn) q
  · rw [if_neg q, if_neg q]
end PRM
