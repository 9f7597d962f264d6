/-! the class's whole tree -/
theorem flat_pre {β : Type} (f : Int → List β) {k : Int} (hk : 0 ≤ k) : ∀ d : Nat, ((pinl k).flatMap f).length ≤ ((pinl (k + d)).flatMap f).length := by
  intro d
  induction d with
  | zero => rw [show k + ((0 : Nat) : Int) = k by omega]; exact Nat.le_refl _
  | succ d ih =>
    rw [show k + ((d + 1 : Nat) : Int) = (k + d) + 1 by omega, pinl_succ (by omega), List.flatMap_append, List.length_append]
    omega
theorem cs_nil : ∀ k : Nat, cs (fun _ => []) k = 0 := by
  intro k
  induction k with
  | zero => rfl
  | succ k ih => show cs (fun _ => []) k + 0 = 0; rw [ih]
theorem insP_est {so se : Int → Int} {n c p : Int} {et : Int × Int} (h : et ∈ insP so se n c p) : et.1 = 8 * n + 2 * p + c := by
  obtain ⟨was, -, -, -, rfl⟩ := insP_mem.mp h
  rfl
theorem insP_nodup (so se : Int → Int) (n c p : Int) : (insP so se n c p).Nodup := by
  unfold insP
  by_cases h : so (3 * n + p) < 0
  · rw [if_pos h]; exact List.nodup_nil
  · rw [if_neg h, List.flatMap_cons, List.flatMap_cons, List.flatMap_nil, List.append_nil]
    by_cases h0 : ltz (se (3 * n + p)) 0 c = true
    · rw [if_pos h0]
      by_cases h1 : ltz (se (3 * n + p)) 1 c = true
      · rw [if_pos h1]
        refine List.nodup_cons.mpr ⟨fun q => ?_, List.nodup_cons.mpr ⟨List.not_mem_nil, List.nodup_nil⟩⟩
        have := List.mem_singleton.mp q
        injection this with a b
        omega
      · rw [if_neg h1]; exact List.nodup_cons.mpr ⟨List.not_mem_nil, List.nodup_nil⟩
    · rw [if_neg h0]
      by_cases h1 : ltz (se (3 * n + p)) 1 c = true
      · rw [if_pos h1]; exact List.nodup_cons.mpr ⟨List.not_mem_nil, List.nodup_nil⟩
      · rw [if_neg h1]; exact List.nodup_nil
theorem insN_nodup (kd pn so se : Int → Int) (s : Int) : (insN kd pn so se s).Nodup := by
  unfold insN
  by_cases h : kd (s / 2) = 2
  · rw [if_pos h]
    refine List.pairwise_flatMap.mpr ⟨fun p _ => insP_nodup so se _ _ p, (pinl_nodup _).imp ?_⟩
    intro p q hpq u hu v hv e
    subst e
    have a := insP_est hu
    have b := insP_est hv
    omega
  · rw [if_neg h]; exact List.nodup_nil
def est (e : Int) : Int := 2 * (e / 8) + e % 2
theorem insN_est {kd pn so se : Int → Int} (hp : ∀ i, 0 ≤ pn i ∧ pn i ≤ 3) (s : Int) (et : Int × Int) (h : et ∈ insN kd pn so se s) : est et.1 = s := by
  obtain ⟨-, p, was, h1, -, -, -, rfl⟩ := insN_mem.mp h
  have := hp (s / 2)
  unfold est
  simp only
  omega
section GTR
variable {kd pn so se wE wL gE gL : Int → Int} {size : Int}
/-- the words that the pins below k bring to a state of the gate n -/
def pw (kd pn so se : Int → Int) (n c k : Int) : List (Int × List Int) := (pinl k).flatMap (fun q => (insP so se n c q).flatMap (fun et => (BW kd pn so se et.2).map (extw et.1)))
theorem pw_all (hz : size ≤ 48) (hkd : ∀ i, kd i ≠ 0 → 0 < i ∧ i < size) (hk0 : kd 0 = 0) {os : List Int} (h : full kd pn so se os) {n c : Int} (hn : kd n = 2) (hc : c = 0 ∨ c = 1) : pw kd pn so se n c (pn n) = BW kd pn so se (2 * n + c) := by
  have e1 : (2 * n + c) / 2 = n := by omega
  have e2 : (2 * n + c) % 2 = c := by omega
  rw [BW_rec hz hkd h, gate_notK hk0 (by rw [e1]; exact hn)]
  show _ = (insN kd pn so se (2 * n + c)).flatMap _
  unfold insN pw
  rw [e1, e2, if_pos hn, List.flatMap_assoc]
  rfl
def PI (kd pn so se wE wL gE gL : Int → Int) (N : Int → Int) (done : List Int) (n : Int) (k : Int → Int) (sz : Int) (el pa ln ea la fi nx : Int → Int) : Prop :=
  ∃ Wd Ch, TR (dE wE gE) (dE wL gL) sz el pa ln ea la fi nx Wd Ch ∧ (∀ s, 0 ≤ s → s < 96 → s / 2 ≠ n → (N s = 1 ∨ isK s = true) → (s / 2 ∈ done ∨ kd (s / 2) ≠ 2) → List.Perm (wds Wd Ch s) (BW kd pn so se s)) ∧
    (∀ s, 0 ≤ s → s < 96 → s / 2 ≠ n → kd (s / 2) = 2 → s / 2 ∉ done → Ch s = []) ∧ (∀ c, (c = 0 ∨ c = 1) → N (2 * n + c) = 1 → List.Perm (wds Wd Ch (2 * n + c)) (pw kd pn so se n c (k c))) ∧ ∀ s, 0 ≤ s → s < 96 → N s = 0 → isK s = false → Ch s = []
theorem s_growPin {F : Nat} {G N : Int → Int} {cn v : Int} (hF : 200 ≤ F) (hz : 1 ≤ size ∧ size ≤ 48) (hkd : ∀ i, kd i ≠ 0 → 0 < i ∧ i < size) (hk0 : kd 0 = 0) (hs : ∀ i, -1 ≤ so i ∧ so i < size) (hse : ∀ i, 0 ≤ se i ∧ se i ≤ 2) (hp : ∀ i, 0 ≤ pn i ∧ pn i ≤ 3) (hcn : 0 ≤ cn ∧ cn ≤ 48) (hfu : full kd pn so se (lst G cn))
    (hN : ∀ s, 0 ≤ s → s < 96 → N s = 0 ∨ N s = 1) (hN8 : ∀ s, 0 ≤ s → s < 96 → N s = 1 → (BW kd pn so se s).length ≤ 8) (hNc : ∀ s, 0 ≤ s → s < 96 → N s = 1 → ∀ et ∈ insN kd pn so se s, N et.2 = 1)
    (hv : 0 ≤ v ∧ v < cn) {p c : Int} (hpp : 0 ≤ p ∧ p < pn (G v)) (hc : c = 0 ∨ c = 1) {k : Int → Int} (hkc : k c = p) {sz : Int} {el pa ln ea la fi nx : Int → Int} (h : PI kd pn so se wE wL gE gL N (lst G v) (G v) k sz el pa ln ea la fi nx) :
    ok (f_ClockWays_growBy F sz N el pa ln ea la fi nx so wE wL se gE gL (G v) p c) (fun r => PI kd pn so se wE wL gE gL N (lst G v) (G v) (ui k c (p + 1)) r.1 r.2.1 r.2.2.1 r.2.2.2.1 r.2.2.2.2.1 r.2.2.2.2.2.1 r.2.2.2.2.2.2.1 r.2.2.2.2.2.2.2) := by
  obtain ⟨Wd, Ch, hT, hA, hB, hC, hDD⟩ := h
  have hkG : kd (G v) = 2 := topo_kd _ hfu.1.1 _ (lst_mem.mpr ⟨v, hv, rfl⟩)
  have hGn := hkd (G v) (by omega)
  have hpn := hp (G v)
  have hle : (lst G cn)[v.toNat]? = some (G v) := lst_get hv
  have hne : so (3 * G v + p) ≠ G v := topo_pos _ hfu.1.1 _ _ _ _ hle hle (Nat.le_refl _) p hpp.1 hpp.2
  have hso := hs (3 * G v + p)
  have hsrc : ∀ x, (x = 0 ∨ x = 1) → N (2 * G v + x) = 1 → ∀ et ∈ insP so se (G v) x p, List.Perm (wds Wd Ch et.2) (BW kd pn so se et.2) := by
    intro x hx hNx et he
    obtain ⟨was, w1, w2, w3, rfl⟩ := insP_mem.mp he
    have hin : (8 * G v + 2 * p + x, 2 * so (3 * G v + p) + was) ∈ insN kd pn so se (2 * G v + x) := by
      refine insN_mem.mpr ?_
      rw [show (2 * G v + x) / 2 = G v by omega, show (2 * G v + x) % 2 = x by omega]
      exact ⟨hkG, p, was, hpp, w1, w2, w3, rfl⟩
    have e1 : (2 * so (3 * G v + p) + was) / 2 = so (3 * G v + p) := by omega
    refine hA _ (by simp only; omega) (by simp only; omega) (by rw [e1]; exact hne) (Or.inl (hNc _ (by omega) (by omega) hNx _ hin)) ?_
    rw [e1]
    by_cases q : kd (so (3 * G v + p)) = 2
    · obtain ⟨j, j1, j2⟩ := lst_mem.mp (hfu.2 _ q)
      left
      refine lst_mem.mpr ⟨j, ⟨j1.1, ?_⟩, j2⟩
      by_cases r : j < v
      · exact r
      · exact absurd j2.symm (topo_pos _ hfu.1.1 _ _ _ _ hle (lst_get j1) (by omega) p hpp.1 hpp.2)
    · exact Or.inr q
  have hlen : ∀ s, (wds Wd Ch s).length = (Ch s).length := fun s => by unfold wds; rw [List.length_map]
  have hsplit : ∀ x : Int, pw kd pn so se (G v) x (p + 1) = pw kd pn so se (G v) x p ++ (insP so se (G v) x p).flatMap (fun et => (BW kd pn so se et.2).map (extw et.1)) := by
    intro x
    unfold pw
    rw [pinl_succ hpp.1, List.flatMap_append, List.flatMap_cons, List.flatMap_nil, List.append_nil]
  refine ok_imp (s_growBy (by omega) (fun i => by have := hs i; omega) hse (n := G v) (p := p) (c := c) (by omega) (by omega) hc hne (hN _ (by omega) (by omega)) hT (fun hN1 => ?_)) (fun r hr => ?_)
  · have h1 := (hC c hc hN1).length_eq
    rw [hlen, hkc] at h1
    have h2 : ((insP so se (G v) c p).flatMap (fun et => Ch et.2)).length = ((insP so se (G v) c p).flatMap (fun et => (BW kd pn so se et.2).map (extw et.1))).length := by
      have hg : ∀ (l : List (Int × Int)), (∀ et ∈ l, List.Perm (wds Wd Ch et.2) (BW kd pn so se et.2)) → (l.flatMap (fun et => Ch et.2)).length = (l.flatMap (fun et => (BW kd pn so se et.2).map (extw et.1))).length := by
        intro l
        induction l with
        | nil => intro _; rfl
        | cons x l ih =>
          intro q
          rw [List.flatMap_cons, List.flatMap_cons, List.length_append, List.length_append, ih (fun y hy => q y (List.mem_cons_of_mem _ hy)), List.length_map, ← (q x List.mem_cons_self).length_eq, hlen]
      exact hg _ (hsrc c hc hN1)
    have h3 := congrArg List.length (hsplit c)
    rw [List.length_append] at h3
    have h4 : (pw kd pn so se (G v) c (p + 1)).length ≤ (pw kd pn so se (G v) c (pn (G v))).length := by
      have := flat_pre (fun q => (insP so se (G v) c q).flatMap (fun et => (BW kd pn so se et.2).map (extw et.1))) (k := p + 1) (by omega) (pn (G v) - (p + 1)).toNat
      rw [show p + 1 + ((pn (G v) - (p + 1)).toNat : Int) = pn (G v) by omega] at this
      exact this
    rw [pw_all hz.2 hkd hk0 hfu hkG hc] at h4
    have h5 := hN8 (2 * G v + c) (by omega) (by omega) hN1
    omega
  · obtain ⟨Wd', Ch', g1, g2, g3, g4, g5, g6⟩ := hr
    have hkeep : ∀ s, 0 ≤ s → s < 96 → s ≠ 2 * G v + c → wds Wd' Ch' s = wds Wd Ch s := by
      intro s s1 s2 q
      unfold wds
      rw [g4 s q]
      refine List.map_congr_left (fun t ht => ?_)
      have := (hT.2.1 s s1 s2).2.1 t ht
      exact g2 t this.1 this.2
    refine ⟨Wd', Ch', g1, fun s s1 s2 q r1 r2 => ?_, fun s s1 s2 q r1 r2 => ?_, fun x hx hx1 => ?_, fun s s1 s2 q r => ?_⟩
    · rw [hkeep s s1 s2 (by omega)]
      exact hA s s1 s2 q r1 r2
    · rw [g4 s (by omega)]
      exact hB s s1 s2 q r1 r2
    · by_cases e : x = c
      · subst e
        rw [ui_s, hsplit]
        refine (g5 hx1).trans ((?_ : List.Perm _ _))
        have hcx := hC x hx hx1
        rw [hkc] at hcx
        exact hcx.append (flat_perm _ (fun et he => (hsrc x hx hx1 et he).map _))
      · rw [ui_n e, hkeep _ (by omega) (by omega) (by omega)]
        exact hC x hx hx1
    · by_cases e : s = 2 * G v + c
      · rw [e] at q ⊢
        rw [g6 q, ← e]
        rw [← e] at q
        exact hDD s s1 s2 q r
      · rw [g4 s e]
        exact hDD s s1 s2 q r
theorem s_growTree {F : Nat} {G N : Int → Int} {cn : Int} (hF : 200 ≤ F) (hz : 1 ≤ size ∧ size ≤ 48) (hkd : ∀ i, kd i ≠ 0 → 0 < i ∧ i < size) (hk0 : kd 0 = 0) (hs : ∀ i, -1 ≤ so i ∧ so i < size) (hse : ∀ i, 0 ≤ se i ∧ se i ≤ 2) (hp : ∀ i, 0 ≤ pn i ∧ pn i ≤ 3) (hcn : 0 ≤ cn ∧ cn ≤ 48) (hfu : full kd pn so se (lst G cn))
    (hN : ∀ s, 0 ≤ s → s < 96 → N s = 0 ∨ N s = 1) (hN8 : ∀ s, 0 ≤ s → s < 96 → N s = 1 → (BW kd pn so se s).length ≤ 8) (hNc : ∀ s, 0 ≤ s → s < 96 → N s = 1 → ∀ et ∈ insN kd pn so se s, N et.2 = 1) {el pa ln ea la fi nx : Int → Int} :
    ok (f_ClockWays_growTree F N el pa ln ea la fi nx cn G pn so wE wL se gE gL) (fun r => ∃ Wd Ch, TRr (dE wE gE) (dE wL gL) r Wd Ch ∧ (∀ s, 0 ≤ s → s < 96 → (N s = 1 ∨ isK s = true) → List.Perm (wds Wd Ch s) (BW kd pn so se s)) ∧ ∀ t u, 0 ≤ t → t < r.1 → 0 ≤ u → u < r.1 → Wd t = Wd u → t = u) := by
  unfold f_ClockWays_growTree
  rw [e_fill (by omega) (by omega), ob1_s, e_elementOf, ob1_s, e_grow (by omega) (by omega) (by omega), ob8_s, e_elementOf, ob1_s, e_grow (by omega) (by omega) (by omega), ob8_s]
  have hT0 : TR (dE wE gE) (dE wL gL) 0 el pa ln ea la (fun (i : Int) => if 0 ≤ i ∧ i < ((96 : Nat) : Int) then -1 else fi i) nx (fun _ => (0, [])) (fun _ => []) := by
    refine ⟨fun t t1 t2 => by omega, fun s s1 s2 => ⟨?_, fun t ht => absurd ht List.not_mem_nil, Nat.zero_le _⟩, by rw [cs_nil]; rfl, fun t t1 t2 => by omega⟩
    show (if 0 ≤ s ∧ s < ((96 : Nat) : Int) then -1 else fi s) = -1
    rw [if_pos ⟨s1, by omega⟩]
  have hT1 := TR_grow hT0 (s := 0) (x2 := 8 * 0 + 2 * 0 + 0) (x3 := -1) (w := (8 * 0 + 2 * 0 + 0, [])) (by omega) (by decide) (Or.inl ⟨rfl, rfl⟩) (by omega)
  have hT2 := TR_grow hT1 (s := 1) (x2 := 8 * 0 + 2 * 0 + 1) (x3 := -1) (w := (8 * 0 + 2 * 0 + 1, [])) (by omega) (by show ([] : List Int).length < 8; decide) (Or.inl ⟨rfl, rfl⟩) (by omega)
  have hchk : ∀ s, s ≠ 0 → s ≠ 1 → cadd (cadd (fun _ => []) 0 0) 1 (0 + 1) s = [] := by
    intro s q0 q1
    unfold cadd
    rw [if_neg q1, if_neg q0]
  refine lq9_ok (fun (v : Int) sz el pa ln ea la fi nx => (0 ≤ v ∧ v ≤ cn) ∧ ∃ Wd Ch, TR (dE wE gE) (dE wL gL) sz el pa ln ea la fi nx Wd Ch ∧ (∀ s, 0 ≤ s → s < 96 → (N s = 1 ∨ isK s = true) → (s / 2 ∈ lst G v ∨ kd (s / 2) ≠ 2) → List.Perm (wds Wd Ch s) (BW kd pn so se s)) ∧ (∀ s, 0 ≤ s → s < 96 → kd (s / 2) = 2 → s / 2 ∉ lst G v → Ch s = []) ∧ ∀ s, 0 ≤ s → s < 96 → N s = 0 → isK s = false → Ch s = []) (fun v _ _ _ _ _ _ _ _ => (48 - v).toNat) _ ?_ F 0 _ _ _ _ _ _ _ _ ⟨by omega, _, _, hT2, fun s s1 s2 q r => ?_, fun s s1 s2 q _ => ?_, fun s s1 s2 _ q => hchk s (fun e => by rw [e] at q; cases q) (fun e => by rw [e] at q; cases q)⟩ (by show (48 - (0 : Int)).toNat < F; omega)
  · clear hT0 hT1 hT2 hchk
    rintro self v sz el pa ln ea la fi nx ⟨hv, Wd, Ch, hT, hA, hB, hDD⟩ hs1
    unfold f_ClockWays_growTree_b43
    refine ok_gr ⟨by omega, by omega⟩ (ok_gr ⟨by omega, by omega⟩ (ok_if (fun h => ?_) (fun h => ?_)))
    · have e : v = cn := by omega
      subst e
      have hper : ∀ s, 0 ≤ s → s < 96 → (N s = 1 ∨ isK s = true) → List.Perm (wds Wd Ch s) (BW kd pn so se s) := by
        intro s s1 s2 q
        refine hA s s1 s2 q ?_
        by_cases r : kd (s / 2) = 2
        · exact Or.inl (hfu.2 _ r)
        · exact Or.inr r
      refine ok_some.mpr ⟨Wd, Ch, hT, hper, fun t u t1 t2 u1 u2 q => ?_⟩
      obtain ⟨rk, k1, k2⟩ := full_rk hz.2 hkd hfu
      have hch : ∀ t, 0 ≤ t → t < sz → ∃ s, (0 ≤ s ∧ s < 96) ∧ t ∈ Ch s ∧ List.Perm (wds Wd Ch s) (BW kd pn so se s) := by
        intro t t1 t2
        obtain ⟨s, s1, s2⟩ := hT.2.2.2 t t1 t2
        refine ⟨s, s1, s2, hper s s1.1 s1.2 ?_⟩
        rcases hN s s1.1 s1.2 with r | r
        · cases z : isK s with
          | true => exact Or.inr rfl
          | false => rw [hDD s s1.1 s1.2 r z] at s2; cases s2
        · exact Or.inl r
      obtain ⟨s, s1, s2, s3⟩ := hch t t1 t2
      obtain ⟨s', s1', s2', s3'⟩ := hch u u1 u2
      have w1 := BW_in hz.2 hkd hk0 hfu (s3.mem_iff.mp (List.mem_map.mpr ⟨t, s2, rfl⟩))
      have w2 := BW_in hz.2 hkd hk0 hfu (s3'.mem_iff.mp (List.mem_map.mpr ⟨u, s2', rfl⟩))
      rw [q] at w1
      have es := isW_det (insN_est hp) w1.2 w2.2
      subst es
      have hnd : (wds Wd Ch s).Nodup := s3.nodup_iff.mpr (bw_nodup k1 (isK_nil hk0) (insN_est hp) (insN_nodup kd pn so se) 49 s (k2 s))
      obtain ⟨i, i1, i2⟩ := List.mem_iff_getElem.mp s2
      obtain ⟨j, j1, j2⟩ := List.mem_iff_getElem.mp s2'
      have a1 : (wds Wd Ch s)[i]? = some (Wd t) := by unfold wds; rw [List.getElem?_map, List.getElem?_eq_getElem i1, i2]; rfl
      have a2 : (wds Wd Ch s)[j]? = some (Wd u) := by unfold wds; rw [List.getElem?_map, List.getElem?_eq_getElem j1, j2]; rfl
      rw [q] at a1
      have hij := (List.getElem?_inj (by unfold wds; rw [List.length_map]; exact i1) hnd).mp (a1.trans a2.symm)
      subst hij
      exact i2.symm.trans j2
    · refine ok_gi ⟨by omega, by omega⟩ (ok_bd.mpr ?_)
      have hv' : 0 ≤ v ∧ v < cn := by omega
      have hkG : kd (G v) = 2 := topo_kd _ hfu.1.1 _ (lst_mem.mpr ⟨v, hv', rfl⟩)
      have hGn := hkd (G v) (by omega)
      have hpn := hp (G v)
      have hnd : G v ∉ lst G v := by
        intro q
        obtain ⟨j, j1, j2⟩ := lst_mem.mp q
        have hnd := topo_nodup _ hfu.1.1
        have a1 := lst_get (A := G) hv'
        have a2 := lst_get (A := G) (i := j) (n := cn) (by omega)
        rw [j2] at a2
        have := (List.getElem?_inj (by rw [lst_len]; omega) hnd).mp (a2.trans a1.symm)
        omega
      have h0 : PI kd pn so se wE wL gE gL N (lst G v) (G v) (fun _ => 0) sz el pa ln ea la fi nx := by
        refine ⟨Wd, Ch, hT, fun s s1 s2 _ => hA s s1 s2, fun s s1 s2 _ => hB s s1 s2, fun c hc _ => ?_, hDD⟩
        have e1 : (2 * G v + c) / 2 = G v := by omega
        unfold wds
        rw [hB (2 * G v + c) (by omega) (by omega) (by rw [e1]; exact hkG) (by rw [e1]; exact hnd)]
        exact List.Perm.nil
      refine lq9_ok (fun (p : Int) sz el pa ln ea la fi nx => (0 ≤ p ∧ p ≤ pn (G v)) ∧ PI kd pn so se wE wL gE gL N (lst G v) (G v) (fun _ => p) sz el pa ln ea la fi nx) (fun p _ _ _ _ _ _ _ _ => (3 - p).toNat) _ ?_ F 0 _ _ _ _ _ _ _ _ ⟨by omega, h0⟩ (by show (3 - (0 : Int)).toNat < F; omega)
      clear h0 hT hA hB hDD
      rintro self2 p sz el pa ln ea la fi nx ⟨hpp, hI⟩ hs2
      unfold f_ClockWays_growTree_b66
      refine ok_gi ⟨by omega, by omega⟩ (ok_gr ⟨by omega, by omega⟩ (ok_gr ⟨by omega, by omega⟩ (ok_if (fun h2 => ?_) (fun h2 => ?_))))
      · have e : p = pn (G v) := by omega
        subst e
        obtain ⟨Wd, Ch, hT, hA, hB, hC, hDD⟩ := hI
        refine hs1 _ _ _ _ _ _ _ _ _ ⟨by omega, Wd, Ch, hT, fun s s1 s2 q r => ?_, fun s s1 s2 q r => ?_, hDD⟩ (by show (48 - (v + 1)).toNat < (48 - v).toNat; omega)
        · by_cases e : s / 2 = G v
          · have es : s = 2 * G v + s % 2 := by omega
            have hq : N s = 1 := by
              rcases q with q | q
              · exact q
              · rw [gate_notK hk0 (by rw [e]; exact hkG)] at q; cases q
            rw [es] at hq ⊢
            have := hC (s % 2) (by omega) hq
            rw [pw_all hz.2 hkd hk0 hfu hkG (by omega)] at this
            exact this
          · refine hA s s1 s2 e q (r.elim (fun z => ?_) Or.inr)
            rw [lst_snoc hv.1, List.mem_append, List.mem_singleton] at z
            exact Or.inl (z.resolve_right e)
        · rw [lst_snoc hv.1, List.mem_append, List.mem_singleton] at r
          exact hB s s1 s2 (fun z => r (Or.inr z)) q (fun z => r (Or.inl z))
      · refine ok_ob8 (s_growPin hF hz hkd hk0 hs hse hp hcn hfu hN hN8 hNc hv' (p := p) (c := 0) (by omega) (Or.inl rfl) rfl hI) (fun sz1 el1 pa1 ln1 ea1 la1 fi1 nx1 h1 => ?_)
        refine ok_ob8 (s_growPin hF hz hkd hk0 hs hse hp hcn hfu hN hN8 hNc hv' (p := p) (c := 1) (by omega) (Or.inr rfl) (ui_n (by omega)) h1) (fun sz2 el2 pa2 ln2 ea2 la2 fi2 nx2 h2' => ?_)
        refine hs2 _ _ _ _ _ _ _ _ _ ⟨by omega, ?_⟩ (by show (3 - (p + 1)).toNat < (3 - p).toNat; omega)
        obtain ⟨Wd, Ch, hT, hA, hB, hC, hDD⟩ := h2'
        refine ⟨Wd, Ch, hT, hA, hB, fun c hc hN1 => ?_, hDD⟩
        have := hC c hc hN1
        rcases hc with rfl | rfl
        · rwa [ui_n (by omega), ui_s] at this
        · rwa [ui_s] at this
  · have hsK : s = 0 ∨ s = 1 ∨ (s ≠ 0 ∧ s ≠ 1) := by omega
    rw [BW_rec hz.2 hkd hfu s]
    rcases hsK with e | e | ⟨e0, e1⟩
    · subst e; exact List.Perm.refl _
    · subst e; exact List.Perm.refl _
    · have hKf : isK s = false := by
        cases z : isK s with
        | false => rfl
        | true => rw [isK_i] at z; omega
      rw [hKf, ins_nil (r.elim (fun z => absurd z List.not_mem_nil) id)]
      unfold wds
      rw [hchk s e0 e1]
      exact List.Perm.nil
  · refine hchk s (fun e => ?_) (fun e => ?_)
    · rw [e, show (0 : Int) / 2 = 0 from rfl, hk0] at q; omega
    · rw [e, show (1 : Int) / 2 = 0 from rfl, hk0] at q; omega
end GTR
