/-! depths without a cycle; the reference's order -/
theorem ct_mono {T U : Int → Int} : ∀ N : Nat, (∀ k, 0 ≤ k → k < (N : Int) → T k = 1 → U k = 1) → ct T N ≤ ct U N := by
  intro N
  induction N with
  | zero => intro _; exact Nat.le_refl 0
  | succ N ih =>
    intro h
    show ct T N + (if T (N : Int) = 1 then 1 else 0) ≤ ct U N + (if U (N : Int) = 1 then 1 else 0)
    have h1 := ih (fun k a b => h k a (by omega))
    by_cases q : T (N : Int) = 1
    · rw [if_pos q, if_pos (h N (by omega) (by omega) q)]; omega
    · rw [if_neg q]; omega
theorem ct_lt {T U : Int → Int} : ∀ N : Nat, (∀ k, 0 ≤ k → k < (N : Int) → T k = 1 → U k = 1) → (∃ k, (0 ≤ k ∧ k < (N : Int)) ∧ U k = 1 ∧ T k ≠ 1) → ct T N < ct U N := by
  intro N
  induction N with
  | zero => rintro _ ⟨k, a, -⟩; omega
  | succ N ih =>
    rintro h ⟨k, a, b, c⟩
    show ct T N + (if T (N : Int) = 1 then 1 else 0) < ct U N + (if U (N : Int) = 1 then 1 else 0)
    by_cases e : k = (N : Int)
    · have h1 := ct_mono (T := T) (U := U) N (fun k a b => h k a (by omega))
      rw [← e, if_pos b, if_neg c]; omega
    · have h1 := ih (fun k a b => h k a (by omega)) ⟨k, by omega, b, c⟩
      by_cases q : T (N : Int) = 1
      · rw [if_pos q, if_pos (h N (by omega) (by omega) q)]; omega
      · rw [if_neg q]; omega
theorem ct_one : ∀ N : Nat, ct (fun _ => 1) N = N := by
  intro N
  induction N with
  | zero => rfl
  | succ N ih => show ct (fun _ => 1) N + (if (1 : Int) = 1 then 1 else 0) = N + 1; rw [ih, if_pos rfl]
theorem depth_ex {E : Int → Int → Prop} {N : Nat} (hN : 0 < N) (hE : ∀ n m, E n m → (0 ≤ n ∧ n < (N : Int)) ∧ 0 ≤ m ∧ m < (N : Int)) (hac : ∀ n, ¬ wl E N n n) : ∃ d : Int → Nat, (∀ n m, E n m → d m < d n) ∧ ∀ n, d n < N := by
  classical
  refine ⟨fun n => ct (fun m => if wl E N n m then 1 else 0) N, fun n m e => ?_, fun n => ?_⟩
  · refine ct_lt N (fun k a b q => ?_) ⟨m, (hE n m e).2, if_pos (wl_up E N n m e), ?_⟩
    · by_cases h : wl E N m k
      · exact if_pos (wl_trans hE (wl_up E N n m e) h)
      · rw [if_neg h] at q; omega
    · rw [if_neg (hac m)]; omega
  · by_cases h : 0 ≤ n ∧ n < (N : Int)
    · have h1 : ct (fun m => if wl E N n m then 1 else 0) N < ct (fun _ => 1) N := ct_lt N (fun k a b q => rfl) ⟨n, h, rfl, by show (if wl E N n n then (1 : Int) else 0) ≠ 1; rw [if_neg (hac n)]; omega⟩
      rw [ct_one] at h1
      exact h1
    · have h1 : ct (fun m => if wl E N n m then 1 else 0) N < ct (fun _ => 1) N := ct_lt N (fun k a b q => rfl) ⟨0, by omega, rfl, by
        show (if wl E N n 0 then (1 : Int) else 0) ≠ 1
        rw [if_neg (fun q => h (wl_in hE N n 0 q).1)]; omega⟩
      rw [ct_one] at h1
      exact h1
section SRT
variable {F : Nat} {kd pn so se fr : Int → Int} {size : Int}
/-- gates in order so far: an order, closed under sources -/
def SI (kd pn so se : Int → Int) (os : List Int) : Prop := topo kd pn so se os ∧ ∀ m ∈ os, ∀ p, 0 ≤ p → p < pn m → kd (so (3 * m + p)) = 2 → so (3 * m + p) ∈ os
theorem SI_add (hkd : ∀ i, kd i ≠ 0 → 0 < i ∧ i < size) (hp : ∀ i, 0 ≤ pn i ∧ pn i ≤ 3) (hac : ∀ n, ¬ wl (Eg kd pn so) size.toNat n n) {os : List Int} (h : SI kd pn so se os) {n : Int} (hn : kd n = 2) (hno : n ∉ os) (hs : ∀ p, 0 ≤ p → p < pn n → kd (so (3 * n + p)) = 2 → so (3 * n + p) ∈ os) : SI kd pn so se (os ++ [n]) := by
  refine ⟨topo_snoc hn (by have := hp n; omega) (fun p a b q => ?_) os h.1 hno (fun m hm p a b q => ?_), fun m hm p a b q => ?_⟩
  · exact hac n (wl_up _ _ _ _ ⟨hn, p, ⟨a, b⟩, q, hn⟩)
  · have := h.2 m hm p a b (by rw [q]; exact hn)
    rw [q] at this
    exact hno this
  · rcases List.mem_append.mp hm with r | r
    · exact List.mem_append_left _ (h.2 m r p a b q)
    · have e := List.mem_singleton.mp r
      subst e
      exact List.mem_append_left _ (hs p a b q)
theorem SI_len (hz : size ≤ 48) (hkd : ∀ i, kd i ≠ 0 → 0 < i ∧ i < size) {os : List Int} (h : SI kd pn so se os) : os.length ≤ 48 := by
  refine nodup_le 48 os (topo_nodup os h.1) (fun x hx => ?_)
  have := hkd x (by rw [topo_kd os h.1 x hx]; omega)
  omega
theorem SI_len1 (hz : size ≤ 48) (hkd : ∀ i, kd i ≠ 0 → 0 < i ∧ i < size) {os : List Int} (h : SI kd pn so se os) {n : Int} (hn : kd n = 2) (hno : n ∉ os) : os.length < 48 := by
  have := nodup_le 48 (n :: os) (List.nodup_cons.mpr ⟨hno, topo_nodup os h.1⟩) (fun x hx => by
    rcases List.mem_cons.mp hx with rfl | hx
    · have := hkd x (by omega); omega
    · have := hkd x (by rw [topo_kd os h.1 x hx]; omega); omega)
  rw [List.length_cons] at this
  omega
/-- why a gate isn't taken yet -/
def NR (kd pn fr T : Int → Int) (k : Int) : Prop := kd k = 2 → T k = 1 ∨ ∃ q, (0 ≤ q ∧ q < pn k) ∧ 0 ≤ fr (3 * k + q) ∧ kd (fr (3 * k + q)) = 2 ∧ T (fr (3 * k + q)) = 0
theorem s_Msort (hF : 200 ≤ F) (hz : 1 ≤ size ∧ size ≤ 48) (hk : ∀ i, 0 ≤ kd i ∧ kd i ≤ 4) (hkd : ∀ i, kd i ≠ 0 → 0 < i ∧ i < size) (hp : ∀ i, 0 ≤ pn i ∧ pn i ≤ 3)
    (hfr : ∀ i, 0 ≤ i → i < 3 * size → (so i = -1 ∧ fr i = -2147483648) ∨ (0 ≤ so i ∧ fr i = so i)) (hfr2 : ∀ i, -2147483648 ≤ fr i ∧ fr i < size) (hac : ∀ n, ¬ wl (Eg kd pn so) size.toNat n n) {th od : Int → Int} :
    ok (f_M_sort F size kd pn fr od th) (fun r => (0 ≤ r.2.1 ∧ r.2.1 ≤ 48) ∧ SI kd pn so se (lst r.1 r.2.1) ∧ ∀ n, kd n = 2 → n ∈ lst r.1 r.2.1) := by
  have hin := Eg_in (kd := kd) (pn := pn) (so := so) hkd
  have hE := Eg_fr (kd := kd) (pn := pn) (so := so) hkd hp hfr
  obtain ⟨d, hd1, hd2⟩ := depth_ex (by omega) hin hac
  unfold f_M_sort
  refine lq2_ok (fun v T => (0 ≤ v ∧ v ≤ 96) ∧ ∀ n, 0 ≤ n → n < v → T n = 0) (fun v _ => (96 - v).toNat) _ ?_ F 0 th ⟨by omega, fun n a b => by omega⟩ (by show (96 - (0 : Int)).toNat < F; omega)
  rintro self v T ⟨hv, hI⟩ hs
  unfold f_M_sort_b7
  refine ok_gr ⟨by omega, by omega⟩ (ok_if (fun h => ?_) (fun h => ?_))
  · refine lq4_ok (fun v O g T => (0 ≤ v ∧ v ≤ size) ∧ (0 ≤ g ∧ g ≤ 48) ∧ SI kd pn so se (lst O g) ∧ (∀ n, 0 ≤ n → n < 96 → T n = 0 ∨ T n = 1) ∧ (∀ n, 0 ≤ n → n < 96 → (T n = 1 ↔ n ∈ lst O g)) ∧ ∀ n, kd n = 2 → (d n : Int) < v → n ∈ lst O g) (fun v _ _ _ => (48 - v).toNat) _ ?_ F 0 od 0 T ⟨by omega, by omega, ⟨trivial, fun m hm => absurd hm List.not_mem_nil⟩, fun n a b => Or.inl (hI n a (by omega)), fun n a b => ⟨fun q => by rw [hI n a (by omega)] at q; omega, fun q => absurd q List.not_mem_nil⟩, fun n _ q => by omega⟩ (by show (48 - (0 : Int)).toNat < F; omega)
    clear hs hI hv T self v h
    rintro self v O g T ⟨hv, hg, hSI, hT, hTo, hdn⟩ hs
    unfold f_M_sort_b28
    refine ok_gr ⟨by omega, by omega⟩ (ok_gr ⟨by omega, by omega⟩ (ok_if (fun h => ?_) (fun h => ?_)))
    · exact ok_some.mpr ⟨hg, hSI, fun n hn => hdn n hn (by have := hd2 n; omega)⟩
    · refine lq4_ok (fun k O g T => (0 ≤ k ∧ k ≤ size) ∧ (0 ≤ g ∧ g ≤ 48) ∧ SI kd pn so se (lst O g) ∧ (∀ n, 0 ≤ n → n < 96 → T n = 0 ∨ T n = 1) ∧ (∀ n, 0 ≤ n → n < 96 → (T n = 1 ↔ n ∈ lst O g)) ∧ ∀ n, kd n = 2 → ((d n : Int) < v ∨ ((d n : Int) ≤ v ∧ n < k)) → n ∈ lst O g) (fun k _ _ _ => (48 - k).toNat) _ ?_ F 0 O g T ⟨by omega, hg, hSI, hT, hTo, fun n a b => hdn n a (b.elim id (fun q => by have := hkd n (by omega); omega))⟩ (by show (48 - (0 : Int)).toNat < F; omega)
      clear hg hSI hT hTo hdn O g T
      rintro self2 k O g T ⟨hk2, hg, hSI, hT, hTo, hdn⟩ hs2
      unfold f_M_sort_b38
      refine ok_gr ⟨by omega, by omega⟩ (ok_gr ⟨by omega, by omega⟩ (ok_if (fun h1 => ?_) (fun h1 => ?_)))
      · refine hs _ _ _ _ ⟨by omega, hg, hSI, hT, hTo, fun n a b => hdn n a ?_⟩ (by show (48 - (v + 1)).toNat < (48 - v).toNat; omega)
        have := hkd n (by omega)
        omega
      · have hpn := hp k
        have hkk := hk k
        have hTk := hT k (by omega) (by omega)
        -- what stays when the gate isn't taken
        have hstay : (kd k = 2 → (d k : Int) ≤ v → k ∈ lst O g) → ok (self2 (k + 1) O g T) (fun r => (0 ≤ r.2.1 ∧ r.2.1 ≤ 48) ∧ SI kd pn so se (lst r.1 r.2.1) ∧ ∀ n, kd n = 2 → n ∈ lst r.1 r.2.1) := by
          intro q
          refine hs2 _ _ _ _ ⟨by omega, hg, hSI, hT, hTo, fun n a b => ?_⟩ (by show (48 - (k + 1)).toNat < (48 - k).toNat; omega)
          by_cases e : n = k
          · subst e; exact q a (by omega)
          · exact hdn n a (by omega)
        have hloop : ∀ r0, (r0 = 0 ∨ r0 = 1) → (r0 = 1 → kd k = 2 ∧ T k = 0) → (r0 = 0 → kd k = 2 → T k = 1) → ok (f_M_sort_j68 F kd pn fr k O g T self2 r0) (fun r => (0 ≤ r.2.1 ∧ r.2.1 ≤ 48) ∧ SI kd pn so se (lst r.1 r.2.1) ∧ ∀ n, kd n = 2 → n ∈ lst r.1 r.2.1) := by
          intro r0 hr0 hr1 hr2
          unfold f_M_sort_j68
          refine lq2_ok (fun r p => (r = 0 ∨ r = 1) ∧ (0 ≤ p ∧ p ≤ 3) ∧ (r = 1 → (kd k = 2 ∧ T k = 0) ∧ ∀ q, 0 ≤ q → q < p → q < pn k → 0 ≤ fr (3 * k + q) → kd (fr (3 * k + q)) = 2 → T (fr (3 * k + q)) = 1) ∧ (r = 0 → NR kd pn fr T k)) (fun _ p => (3 - p).toNat) _ ?_ F r0 0 ⟨hr0, by omega, fun q => ⟨hr1 q, fun q a b => by omega⟩, fun q a => Or.inl (hr2 q a)⟩ (by show (3 - (0 : Int)).toNat < F; omega)
          rintro self3 r p ⟨hr, hpp, hA, hB⟩ hs3
          have hend : (r = 0 ∨ pn k ≤ p) → ok (f_M_sort_j131 F k O g T self2 r) (fun r => (0 ≤ r.2.1 ∧ r.2.1 ≤ 48) ∧ SI kd pn so se (lst r.1 r.2.1) ∧ ∀ n, kd n = 2 → n ∈ lst r.1 r.2.1) := by
            intro hc
            unfold f_M_sort_j131
            refine ok_gr ⟨by omega, by omega⟩ (ok_if (fun h2 => ?_) (fun h2 => ?_))
            · refine hstay (fun a b => ?_)
              rcases hB h2 a with q | ⟨q, q1, q2, q3, q4⟩
              · exact (hTo k (by omega) (by omega)).mp q
              · have he : Eg kd pn so k (fr (3 * k + q)) := (hE k _).mpr ⟨a, q, q1, rfl, q2, q3⟩
                have h3 := hd1 _ _ he
                have h4 := hdn _ q3 (Or.inl (by omega))
                have h5 := hfr2 (3 * k + q)
                have h6 := (hTo (fr (3 * k + q)) (by omega) (by omega)).mpr h4
                omega
            · obtain ⟨⟨a1, a2⟩, a3⟩ := hA (by omega)
              have hpk : pn k ≤ p := by omega
              have hno : k ∉ lst O g := fun q => by have := (hTo k (by omega) (by omega)).mpr q; omega
              have hlen := SI_len1 hz.2 hkd hSI a1 hno
              rw [lst_len] at hlen
              refine ok_gi ⟨by omega, by omega⟩ (ok_bd.mpr (ok_gi ⟨by omega, by omega⟩ (ok_bd.mpr ?_)))
              have e1 := lst_succ (A := O) (n := g) (v := k) hg.1
              refine hs2 _ _ _ _ ⟨by omega, by omega, ?_, fun n a b => ?_, fun n a b => ?_, fun n a b => ?_⟩ (by show (48 - (k + 1)).toNat < (48 - k).toNat; omega)
              · rw [e1]
                refine SI_add hkd hp hac hSI a1 hno (fun q b1 b2 b3 => ?_)
                have hks := hkd k (by omega)
                have b4 := hfr (3 * k + q) (by omega) (by omega)
                have b5 := hkd _ (show kd (so (3 * k + q)) ≠ 0 by omega)
                have b6 : fr (3 * k + q) = so (3 * k + q) := by omega
                have b7 := a3 q b1 (by omega) b2 (by omega) (by rw [b6]; exact b3)
                rw [b6] at b7
                exact (hTo _ (by omega) (by omega)).mp b7
              · rw [ui_e]
                by_cases e : n = k
                · rw [if_pos e]; exact Or.inr rfl
                · rw [if_neg e]; exact hT n a b
              · rw [ui_e, e1, List.mem_append, List.mem_singleton]
                by_cases e : n = k
                · rw [if_pos e]; exact ⟨fun _ => Or.inr e, fun _ => rfl⟩
                · rw [if_neg e, hTo n a b]
                  exact ⟨Or.inl, fun q => q.resolve_right e⟩
              · rw [e1, List.mem_append, List.mem_singleton]
                by_cases e : n = k
                · exact Or.inr e
                · exact Or.inl (hdn n a (by omega))
          unfold f_M_sort_b72
          refine ok_gi ⟨by omega, by omega⟩ (ok_gr ⟨by omega, by omega⟩ (ok_gr ⟨by omega, by omega⟩ (ok_if (fun h2 => hend (Or.inr h2)) (fun h2 => ?_))))
          refine ok_gr ⟨by omega, by omega⟩ (ok_if (fun h3 => hend (Or.inl h3)) (fun h3 => ?_))
          have hf2 := hfr2 (3 * k + p)
          have hkf := hk (fr (3 * k + p))
          refine ok_gi ⟨by omega, by omega⟩ (ok_bd.mpr ?_)
          rw [e_isGate hk (by omega), ob1_s]
          have z1 := bz_1 (0 ≤ fr (3 * k + p) ∧ kd (fr (3 * k + p)) = 2)
          have z2 := bz_01 (0 ≤ fr (3 * k + p) ∧ kd (fr (3 * k + p)) = 2)
          obtain ⟨a1, a2⟩ := hA (by omega)
          have hmeas : (3 - (p + 1)).toNat < (3 - p).toNat := by omega
          refine ok_gr ⟨by omega, by omega⟩ (ok_if (fun h4 => ?_) (fun h4 => ?_))
          · refine hs3 _ _ ⟨Or.inr rfl, by omega, fun _ => ⟨a1, fun q b1 b2 b3 b4 b5 => ?_⟩, fun q => by omega⟩ hmeas
            by_cases e : q = p
            · subst e; exact absurd (z1.mpr ⟨b4, b5⟩) (by omega)
            · exact a2 q b1 (by omega) b3 b4 b5
          · have hTf := hT (fr (3 * k + p)) (by omega) (by omega)
            refine ok_gi ⟨by omega, by omega⟩ (ok_gr ⟨by omega, by omega⟩ (ok_if (fun h5 => ?_) (fun h5 => ?_)))
            · exact hs3 _ _ ⟨Or.inl rfl, by omega, fun q => by omega, fun _ _ => Or.inr ⟨p, by omega, by omega, by omega, h5⟩⟩ hmeas
            · refine hs3 _ _ ⟨Or.inr rfl, by omega, fun _ => ⟨a1, fun q b1 b2 b3 b4 b5 => ?_⟩, fun q => by omega⟩ hmeas
              by_cases e : q = p
              · subst e; omega
              · exact a2 q b1 (by omega) b3 b4 b5
        rw [e_isGate hk (by omega), ob1_s]
        have z1 := bz_1 (0 ≤ k ∧ kd k = 2)
        have z2 := bz_01 (0 ≤ k ∧ kd k = 2)
        refine ok_gr ⟨by omega, by omega⟩ (ok_if (fun h2 => hloop 0 (Or.inl rfl) (fun q => by omega) (fun _ q => absurd (z1.mpr ⟨hk2.1, q⟩) (by omega))) (fun h2 => ?_))
        refine ok_gi ⟨by omega, by omega⟩ (ok_gr ⟨by omega, by omega⟩ (ok_if (fun h3 => ?_) (fun h3 => ?_)))
        · exact hloop 1 (Or.inr rfl) (fun _ => ⟨by omega, h3⟩) (fun q => by omega)
        · exact hloop 0 (Or.inl rfl) (fun q => by omega) (fun _ _ => by omega)
  · refine ok_gi ⟨by omega, by omega⟩ (ok_bd.mpr (hs _ _ ⟨by omega, fun n a b => ?_⟩ (by show (96 - (v + 1)).toNat < (96 - v).toNat; omega)))
    rw [ui_e]
    by_cases e : n = v
    · rw [if_pos e]
    · rw [if_neg e]; exact hI n a (by omega)
end SRT
