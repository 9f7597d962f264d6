/-! the class's marks: states that lead to a register's clock pin -/
theorem flat_le {α β : Type} {f : α → List β} : ∀ (l : List α) (x : α), x ∈ l → (f x).length ≤ (l.flatMap f).length := by
  intro l
  induction l with
  | nil => intro x h; cases h
  | cons a l ih =>
    intro x h
    rw [List.flatMap_cons, List.length_append]
    rcases List.mem_cons.mp h with rfl | h
    · omega
    · have := ih x h; omega
section NEED
variable {kd pn so se : Int → Int} {size : Int}
theorem gate_notK (hk0 : kd 0 = 0) {s : Int} (h : kd (s / 2) = 2) : isK s = false := by
  cases q : isK s with
  | false => rfl
  | true =>
    rw [isK_i] at q
    rw [show s / 2 = 0 by omega, hk0] at h
    omega
theorem BW_le (hz : size ≤ 48) (hkd : ∀ i, kd i ≠ 0 → 0 < i ∧ i < size) (hk0 : kd 0 = 0) {os : List Int} (h : full kd pn so se os) {s : Int} {et : Int × Int} (he : et ∈ insN kd pn so se s) : (BW kd pn so se et.2).length ≤ (BW kd pn so se s).length := by
  rw [BW_rec hz hkd h s, gate_notK hk0 (insN_mem.mp he).1]
  have := flat_le (f := fun et : Int × Int => (BW kd pn so se et.2).map (fun w => (w.1, et.1 :: w.2))) _ et he
  rw [List.length_map] at this
  exact this
theorem topo_pos : ∀ (os : List Int), topo kd pn so se os → ∀ (i j : Nat) (n m : Int), os[i]? = some n → os[j]? = some m → i ≤ j → ∀ p, 0 ≤ p → p < pn n → so (3 * n + p) ≠ m := by
  intro os
  induction os with
  | nil => intro _ i j n m h; simp at h
  | cons a r ih =>
    intro ht i j n m h1 h2 hij p p1 p2
    cases i with
    | zero =>
      have e : a = n := by simpa using h1
      subst e
      have := ht.1.2.2.2 p p1 p2
      cases j with
      | zero =>
        have e : a = m := by simpa using h2
        subst e
        exact this.1
      | succ j => exact fun q => this.2 (q ▸ List.mem_of_getElem? (by simpa using h2))
    | succ i =>
      cases j with
      | zero => omega
      | succ j => exact ih ht.2 i j n m (by simpa using h1) (by simpa using h2) (by omega) p p1 p2
/-- what a pin of a gate marks -/
def mkP (so se : Int → Int) (n p : Int) (N : Int → Int) (s : Int) : Prop := ∃ is, (is = 0 ∨ is = 1) ∧ N (2 * n + is) = 1 ∧ ∃ et ∈ insP so se n is p, et.2 = s
theorem s_markBy {F : Nat} (hF : 10 ≤ F) (hs : ∀ i, -1 ≤ so i ∧ so i < 48) (hse : ∀ i, 0 ≤ se i ∧ se i ≤ 2) {n p : Int} (hn : 0 ≤ n ∧ n < 48) (hp : 0 ≤ p ∧ p < 3) (hne : so (3 * n + p) ≠ n) {N : Int → Int} (hN : ∀ s, 0 ≤ s → s < 96 → N s = 0 ∨ N s = 1) :
    ok (f_ClockWays_markNeededBy F N so se n p) (fun M => (∀ s, 0 ≤ s → s < 96 → M s = 0 ∨ M s = 1) ∧ ∀ s, 0 ≤ s → s < 96 → (M s = 1 ↔ N s = 1 ∨ mkP so se n p N s)) := by
  unfold f_ClockWays_markNeededBy
  refine ok_bd.mpr ?_
  rw [show n * 3 + p = 3 * n + p by omega]
  have h1 := hs (3 * n + p)
  have hmk : ∀ s, mkP so se n p N s ↔ ∃ was is, (was = 0 ∨ was = 1) ∧ (is = 0 ∨ is = 1) ∧ 0 ≤ so (3 * n + p) ∧ s = 2 * so (3 * n + p) + was ∧ N (2 * n + is) = 1 ∧ ltz (se (3 * n + p)) was is = true := by
    intro s
    unfold mkP
    constructor
    · rintro ⟨is, i1, i2, et, e1, e2⟩
      obtain ⟨was, w1, w2, w3, rfl⟩ := insP_mem.mp e1
      exact ⟨was, is, w1, i1, w2, e2.symm, i2, w3⟩
    · rintro ⟨was, is, w1, i1, w2, e2, i2, w3⟩
      exact ⟨is, i1, i2, _, insP_mem.mpr ⟨was, w1, w2, w3, rfl⟩, e2.symm⟩
  refine ok_gi ⟨by omega, by omega⟩ (ok_gr ⟨by omega, by omega⟩ (ok_if (fun h2 => ?_) (fun h2 => ?_)))
  · refine lq2_ok (fun (v : Int) M => (0 ≤ v ∧ v ≤ 2) ∧ (∀ s, 0 ≤ s → s < 96 → M s = 0 ∨ M s = 1) ∧ ∀ s, 0 ≤ s → s < 96 → (M s = 1 ↔ N s = 1 ∨ ∃ was is, (was = 0 ∨ was = 1) ∧ (is = 0 ∨ is = 1) ∧ 2 * was + is < 2 * v ∧ s = 2 * so (3 * n + p) + was ∧ N (2 * n + is) = 1 ∧ ltz (se (3 * n + p)) was is = true)) (fun v _ => (2 - v).toNat) _ ?_ F 0 N ⟨by omega, hN, fun s _ _ => ⟨Or.inl, fun q => q.elim id (fun ⟨a, b, c, d, e, _⟩ => by omega)⟩⟩ (by show (2 - (0 : Int)).toNat < F; omega)
    rintro self v M ⟨hv, hM, hI⟩ hs1
    unfold f_ClockWays_markNeededBy_b22
    refine ok_gr ⟨by omega, by omega⟩ (ok_if (fun h3 => ?_) (fun h3 => ?_))
    · refine ok_some.mpr ⟨hM, fun s s1 s2 => ?_⟩
      rw [hI s s1 s2, hmk s]
      constructor
      · rintro (q | ⟨was, is, a, b, c, d, e, f⟩)
        · exact Or.inl q
        · exact Or.inr ⟨was, is, a, b, h2, d, e, f⟩
      · rintro (q | ⟨was, is, a, b, c, d, e, f⟩)
        · exact Or.inl q
        · exact Or.inr ⟨was, is, a, b, by omega, d, e, f⟩
    · refine lq2_ok (fun (j : Int) M => (0 ≤ j ∧ j ≤ 2) ∧ (∀ s, 0 ≤ s → s < 96 → M s = 0 ∨ M s = 1) ∧ ∀ s, 0 ≤ s → s < 96 → (M s = 1 ↔ N s = 1 ∨ ∃ was is, (was = 0 ∨ was = 1) ∧ (is = 0 ∨ is = 1) ∧ 2 * was + is < 2 * v + j ∧ s = 2 * so (3 * n + p) + was ∧ N (2 * n + is) = 1 ∧ ltz (se (3 * n + p)) was is = true)) (fun j _ => (2 - j).toNat) _ ?_ F 0 M ⟨by omega, hM, fun s s1 s2 => by rw [hI s s1 s2, Int.add_zero]⟩ (by show (2 - (0 : Int)).toNat < F; omega)
      clear hM hI M
      rintro self2 j M ⟨hj, hM, hI⟩ hs2
      unfold f_ClockWays_markNeededBy_b31
      refine ok_gr ⟨by omega, by omega⟩ (ok_if (fun h4 => ?_) (fun h4 => ?_))
      · refine hs1 _ _ ⟨by omega, hM, fun s s1 s2 => ?_⟩ (by show (2 - (v + 1)).toNat < (2 - v).toNat; omega)
        rw [hI s s1 s2, show 2 * v + j = 2 * (v + 1) by omega]
      · have hgj := hM (2 * n + j) (by omega) (by omega)
        have hsame : M (2 * n + j) = 1 ↔ N (2 * n + j) = 1 := by
          rw [hI (2 * n + j) (by omega) (by omega)]
          exact ⟨fun q => q.elim id (fun ⟨was, is, a, b, c, d, _⟩ => by omega), Or.inl⟩
        have hmeas : (2 - (j + 1)).toNat < (2 - j).toNat := by omega
        have hskip : ¬ (N (2 * n + j) = 1 ∧ ltz (se (3 * n + p)) v j = true) → ok (self2 (j + 1) M) (fun M => (∀ s, 0 ≤ s → s < 96 → M s = 0 ∨ M s = 1) ∧ ∀ s, 0 ≤ s → s < 96 → (M s = 1 ↔ N s = 1 ∨ mkP so se n p N s)) := by
          intro q
          refine hs2 _ _ ⟨by omega, hM, fun s s1 s2 => ?_⟩ hmeas
          rw [hI s s1 s2]
          constructor
          · rintro (r | ⟨was, is, a, b, c, d, e, f⟩)
            · exact Or.inl r
            · exact Or.inr ⟨was, is, a, b, by omega, d, e, f⟩
          · rintro (r | ⟨was, is, a, b, c, d, e, f⟩)
            · exact Or.inl r
            · refine Or.inr ⟨was, is, a, b, ?_, d, e, f⟩
              by_cases e1 : was = v ∧ is = j
              · rw [e1.1, e1.2] at f
                rw [e1.2] at e
                exact absurd ⟨e, f⟩ q
              · omega
        refine ok_gi ⟨by omega, by omega⟩ (ok_gr ⟨by omega, by omega⟩ (ok_if (fun h5 => hskip (fun q => by have := hsame.mpr q.1; omega)) (fun h5 => ?_)))
        rw [e_lets hse (by omega) (by omega) (by omega), ob1_s]
        have z1 := bz_1 (ltz (se (3 * n + p)) v j = true)
        have z2 := bz_01 (ltz (se (3 * n + p)) v j = true)
        refine ok_gr ⟨by omega, by omega⟩ (ok_if (fun h6 => hskip (fun q => by have := z1.mpr q.2; omega)) (fun h6 => ?_))
        have hl : ltz (se (3 * n + p)) v j = true := z1.mp (by omega)
        have hNj : N (2 * n + j) = 1 := hsame.mp (by omega)
        refine ok_gi ⟨by omega, by omega⟩ (ok_gi ⟨by omega, by omega⟩ (ok_bd.mpr (hs2 _ _ ⟨by omega, fun s s1 s2 => ?_, fun s s1 s2 => ?_⟩ hmeas)))
        · rw [ui_e]
          by_cases e : s = 2 * so (3 * n + p) + v
          · rw [if_pos e]; exact Or.inr rfl
          · rw [if_neg e]; exact hM s s1 s2
        · rw [ui_e]
          by_cases e : s = 2 * so (3 * n + p) + v
          · rw [if_pos e]
            exact ⟨fun _ => Or.inr ⟨v, j, by omega, by omega, by omega, e, hNj, hl⟩, fun _ => rfl⟩
          · rw [if_neg e, hI s s1 s2]
            constructor
            · rintro (r | ⟨was, is, a, b, c, d, e, f⟩)
              · exact Or.inl r
              · exact Or.inr ⟨was, is, a, b, by omega, d, e, f⟩
            · rintro (r | ⟨was, is, a, b, c, d, e', f⟩)
              · exact Or.inl r
              · exact Or.inr ⟨was, is, a, b, by omega, d, e', f⟩
  · refine ok_some.mpr ⟨hN, fun s _ _ => ⟨Or.inl, fun q => q.elim id (fun r => ?_)⟩⟩
    obtain ⟨was, is, a, b, c, -⟩ := (hmk s).mp r
    omega
theorem s_needed {F : Nat} {G N0 : Int → Int} {cn : Int} (hF : 200 ≤ F) (hz : 1 ≤ size ∧ size ≤ 48) (hk : ∀ i, 0 ≤ kd i ∧ kd i ≤ 4) (hkd : ∀ i, kd i ≠ 0 → 0 < i ∧ i < size) (hk0 : kd 0 = 0) (hs : ∀ i, -1 ≤ so i ∧ so i < size) (hse : ∀ i, 0 ≤ se i ∧ se i ≤ 2) (hp : ∀ i, 0 ≤ pn i ∧ pn i ≤ 3) (hcn : 0 ≤ cn ∧ cn ≤ 48) (hfu : full kd pn so se (lst G cn)) (hnt : ∀ n, 0 ≤ n → n < size → ¬ tang kd pn so se n) :
    ok (f_ClockWays_markNeeded F N0 cn G size kd pn so se) (fun N => (∀ s, 0 ≤ s → s < 96 → N s = 0 ∨ N s = 1) ∧ (∀ s, 0 ≤ s → s < 96 → N s = 1 → (BW kd pn so se s).length ≤ 8) ∧ (∀ r, 0 ≤ r → r < size → kd r = 3 → 0 ≤ so (3 * r + 1) → N (2 * so (3 * r + 1)) = 1) ∧ ∀ s, 0 ≤ s → s < 96 → N s = 1 → ∀ et ∈ insN kd pn so se s, N et.2 = 1) := by
  have hkG : ∀ i, 0 ≤ i → i < cn → kd (G i) = 2 := fun i a b => topo_kd _ hfu.1.1 _ (lst_mem.mpr ⟨i, ⟨a, b⟩, rfl⟩)
  have hGn : ∀ i, 0 ≤ i → i < cn → 0 < G i ∧ G i < size := fun i a b => hkd _ (by rw [hkG i a b]; omega)
  unfold f_ClockWays_markNeeded
  refine lq2_ok (fun v T => (0 ≤ v ∧ v ≤ 96) ∧ ∀ n, 0 ≤ n → n < v → T n = 0) (fun v _ => (96 - v).toNat) _ ?_ F 0 N0 ⟨by omega, fun n a b => by omega⟩ (by show (96 - (0 : Int)).toNat < F; omega)
  rintro self v T ⟨hv, hI⟩ hs1
  unfold f_ClockWays_markNeeded_b2
  refine ok_gr ⟨by omega, by omega⟩ (ok_if (fun h => ?_) (fun h => ?_))
  · refine lq2_ok (fun v N => (0 ≤ v ∧ v ≤ size) ∧ (∀ s, 0 ≤ s → s < 96 → N s = 0 ∨ N s = 1) ∧ (∀ s, 0 ≤ s → s < 96 → N s = 1 → (BW kd pn so se s).length ≤ 8) ∧ ∀ r, 0 ≤ r → r < v → kd r = 3 → 0 ≤ so (3 * r + 1) → N (2 * so (3 * r + 1)) = 1) (fun v _ => (48 - v).toNat) _ ?_ F 0 T ⟨by omega, fun s a b => Or.inl (hI s a (by omega)), fun s a b q => by rw [hI s a (by omega)] at q; omega, fun r a b => by omega⟩ (by show (48 - (0 : Int)).toNat < F; omega)
    clear hs1 hI hv h self v T
    rintro self v N ⟨hv, hN, hsm, hrg⟩ hs1
    unfold f_ClockWays_markNeeded_b23
    refine ok_gr ⟨by omega, by omega⟩ (ok_gr ⟨by omega, by omega⟩ (ok_if (fun h => ?_) (fun h => ?_)))
    · refine ok_bd.mpr ?_
      have hrg' : ∀ r, 0 ≤ r → r < size → kd r = 3 → 0 ≤ so (3 * r + 1) → N (2 * so (3 * r + 1)) = 1 := fun r a b => hrg r a (by omega)
      clear hrg
      refine lq2_ok (fun i N => (-1 ≤ i ∧ i < cn) ∧ (∀ s, 0 ≤ s → s < 96 → N s = 0 ∨ N s = 1) ∧ (∀ s, 0 ≤ s → s < 96 → N s = 1 → (BW kd pn so se s).length ≤ 8) ∧ (∀ r, 0 ≤ r → r < size → kd r = 3 → 0 ≤ so (3 * r + 1) → N (2 * so (3 * r + 1)) = 1) ∧ ∀ j, i < j → j < cn → ∀ c, (c = 0 ∨ c = 1) → N (2 * G j + c) = 1 → ∀ et ∈ insN kd pn so se (2 * G j + c), N et.2 = 1) (fun i _ => (i + 1).toNat) _ ?_ F (cn - 1) N ⟨by omega, hN, hsm, hrg', fun j a b => by omega⟩ (by show (cn - 1 + 1).toNat < F; omega)
      clear hN hsm hrg' hs1 h hv self v N
      rintro self i N ⟨hi, hN, hsm, hrg, hcl⟩ hs1
      unfold f_ClockWays_markNeeded_b92
      refine ok_gr ⟨by omega, by omega⟩ (ok_if (fun h => ?_) (fun h => ?_))
      · refine ok_some.mpr ⟨hN, hsm, hrg, fun s a b q et he => ?_⟩
        have hks := (insN_mem.mp he).1
        obtain ⟨j, j1, j2⟩ := lst_mem.mp (hfu.2 _ hks)
        have es : s = 2 * G j + s % 2 := by omega
        rw [es] at q he
        exact hcl j (by omega) j1.2 (s % 2) (by omega) q et he
      · have hgi := hGn i (by omega) hi.2
        have hki := hkG i (by omega) hi.2
        have hpn := hp (G i)
        have hle : (lst G cn)[i.toNat]? = some (G i) := lst_get ⟨by omega, hi.2⟩
        refine lq2_ok (fun p N => (0 ≤ p ∧ p ≤ pn (G i)) ∧ (∀ s, 0 ≤ s → s < 96 → N s = 0 ∨ N s = 1) ∧ (∀ s, 0 ≤ s → s < 96 → N s = 1 → (BW kd pn so se s).length ≤ 8) ∧ (∀ r, 0 ≤ r → r < size → kd r = 3 → 0 ≤ so (3 * r + 1) → N (2 * so (3 * r + 1)) = 1) ∧ (∀ j, i < j → j < cn → ∀ c, (c = 0 ∨ c = 1) → N (2 * G j + c) = 1 → ∀ et ∈ insN kd pn so se (2 * G j + c), N et.2 = 1) ∧ ∀ c, (c = 0 ∨ c = 1) → N (2 * G i + c) = 1 → ∀ q, 0 ≤ q → q < p → ∀ et ∈ insP so se (G i) c q, N et.2 = 1) (fun p _ => (3 - p).toNat) _ ?_ F 0 N ⟨by omega, hN, hsm, hrg, hcl, fun c _ _ q a b => by omega⟩ (by show (3 - (0 : Int)).toNat < F; omega)
        clear hN hsm hrg hcl N
        rintro self2 p N ⟨hpp, hN, hsm, hrg, hcl, hpi⟩ hs2
        unfold f_ClockWays_markNeeded_b98
        refine ok_gi ⟨by omega, by omega⟩ (ok_gi ⟨by omega, by omega⟩ (ok_gr ⟨by omega, by omega⟩ (ok_gr ⟨by omega, by omega⟩ (ok_if (fun h2 => ?_) (fun h2 => ?_)))))
        · refine hs1 _ _ ⟨by omega, hN, hsm, hrg, fun j j1 j2 c hc q et he => ?_⟩ (by show (i + (-1) + 1).toNat < (i + 1).toNat; omega)
          by_cases e : j = i
          · subst e
            obtain ⟨-, p', was, p1, w1, w2, w3, rfl⟩ := insN_mem.mp he
            rw [show (2 * G j + c) / 2 = G j by omega] at p1 w2 w3 ⊢
            rw [show (2 * G j + c) % 2 = c by omega] at w3 ⊢
            exact hpi c hc q p' p1.1 (by omega) _ (insP_mem.mpr ⟨was, w1, w2, w3, rfl⟩)
          · exact hcl j (by omega) j2 c hc q et he
        · refine ok_gi ⟨by omega, by omega⟩ ?_
          have hne : so (3 * G i + p) ≠ G i := topo_pos _ hfu.1.1 _ _ _ _ hle hle (Nat.le_refl _) p hpp.1 (by omega)
          refine ok_ob1 (s_markBy (by omega) (fun i => by have := hs i; omega) hse (n := G i) (p := p) (by omega) (by omega) hne hN) (fun M hM => ?_)
          obtain ⟨hM1, hM2⟩ := hM
          have hup : ∀ s, 0 ≤ s → s < 96 → N s = 1 → M s = 1 := fun s a b q => (hM2 s a b).mpr (Or.inl q)
          have hoth : ∀ s, 0 ≤ s → s < 96 → s / 2 ≠ so (3 * G i + p) → M s = 1 → N s = 1 := by
            intro s a b q r
            rcases (hM2 s a b).mp r with r | ⟨is, i1, i2, et, e1, e2⟩
            · exact r
            · obtain ⟨was, w1, w2, w3, rfl⟩ := insP_mem.mp e1
              simp only at e2
              omega
          have hst : ∀ s c et, et ∈ insP so se s c p → 0 ≤ et.2 ∧ et.2 < 96 := by
            intro s c et he
            obtain ⟨was, w1, w2, w3, rfl⟩ := insP_mem.mp he
            have := hs (3 * s + p)
            simp only
            omega
          have hst2 : ∀ s et, et ∈ insN kd pn so se s → 0 ≤ et.2 ∧ et.2 < 96 := by
            intro s et he
            obtain ⟨-, p', was, p1, w1, w2, w3, rfl⟩ := insN_mem.mp he
            have := hs (3 * (s / 2) + p')
            simp only
            omega
          refine hs2 _ _ ⟨by omega, hM1, fun s a b q => ?_, fun r a b c d => ?_, fun j j1 j2 c hc q et he => ?_, fun c hc q q' q1 q2 et he => ?_⟩ (by show (3 - (p + 1)).toNat < (3 - p).toNat; omega)
          · rcases (hM2 s a b).mp q with r | ⟨is, i1, i2, et, e1, e2⟩
            · exact hsm s a b r
            · have hin : et ∈ insN kd pn so se (2 * G i + is) := by
                obtain ⟨was, w1, w2, w3, rfl⟩ := insP_mem.mp e1
                refine insN_mem.mpr ?_
                rw [show (2 * G i + is) / 2 = G i by omega, show (2 * G i + is) % 2 = is by omega]
                exact ⟨hki, p, was, ⟨hpp.1, by omega⟩, w1, w2, w3, rfl⟩
              have h3 := BW_le hz.2 hkd hk0 hfu hin
              have h4 := hsm (2 * G i + is) (by omega) (by omega) i2
              rw [e2] at h3
              omega
          · have := hs (3 * r + 1)
            exact hup _ (by omega) (by omega) (hrg r a b c d)
          · have hgj := hGn j (by omega) j2
            have hnj : so (3 * G i + p) ≠ G j := topo_pos _ hfu.1.1 _ _ _ _ hle (lst_get ⟨by omega, j2⟩) (by omega) p hpp.1 (by omega)
            have hb := hst2 _ et he
            exact hup _ hb.1 hb.2 (hcl j j1 j2 c hc (hoth _ (by omega) (by omega) (by omega) q) et he)
          · have hb := hst2
            have hq := hoth (2 * G i + c) (by omega) (by omega) (by omega) q
            by_cases e : q' = p
            · subst e
              have hb := hst _ _ et he
              exact (hM2 _ hb.1 hb.2).mpr (Or.inr ⟨c, hc, hq, et, he, rfl⟩)
            · obtain ⟨was, w1, w2, w3, rfl⟩ := insP_mem.mp he
              have hso := hs (3 * G i + q')
              exact hup _ (by simp only; omega) (by simp only; omega) (hpi c hc hq q' q1 (by omega) _ he)
    · rw [show v * 3 + 1 = 3 * v + 1 by omega]
      have hsv := hs (3 * v + 1)
      have hkv := hk v
      have hskip : ¬ (kd v = 3 ∧ 0 ≤ so (3 * v + 1)) → ok (self (v + 1) N) (fun N => (∀ s, 0 ≤ s → s < 96 → N s = 0 ∨ N s = 1) ∧ (∀ s, 0 ≤ s → s < 96 → N s = 1 → (BW kd pn so se s).length ≤ 8) ∧ (∀ r, 0 ≤ r → r < size → kd r = 3 → 0 ≤ so (3 * r + 1) → N (2 * so (3 * r + 1)) = 1) ∧ ∀ s, 0 ≤ s → s < 96 → N s = 1 → ∀ et ∈ insN kd pn so se s, N et.2 = 1) := by
        intro q
        refine hs1 _ _ ⟨by omega, hN, hsm, fun r a b c d => ?_⟩ (by show (48 - (v + 1)).toNat < (48 - v).toNat; omega)
        by_cases e : r = v
        · rw [e] at c d; exact absurd ⟨c, d⟩ q
        · exact hrg r a (by omega) c d
      refine ok_gi ⟨by omega, by omega⟩ (ok_bd.mpr (ok_gi ⟨by omega, by omega⟩ (ok_gr ⟨by omega, by omega⟩ (ok_if (fun h1 => ?_) (fun h1 => hskip (fun q => h1 q.1))))))
      refine ok_gr ⟨by omega, by omega⟩ (ok_if (fun h2 => hskip (fun q => by have := q.2; omega)) (fun h2 => ?_))
      rw [Int.add_zero]
      refine ok_gi ⟨by omega, by omega⟩ (ok_bd.mpr (hs1 _ _ ⟨by omega, fun s a b => ?_, fun s a b q => ?_, fun r a b c d => ?_⟩ (by show (48 - (v + 1)).toNat < (48 - v).toNat; omega)))
      · rw [ui_e]
        by_cases e : s = 2 * so (3 * v + 1)
        · rw [if_pos e]; exact Or.inr rfl
        · rw [if_neg e]; exact hN s a b
      · rw [ui_e] at q
        by_cases e : s = 2 * so (3 * v + 1)
        · rw [e]
          exact Nat.le_of_not_lt (fun z => hnt v hv.1 (by omega) ⟨h1, by omega, z⟩)
        · rw [if_neg e] at q; exact hsm s a b q
      · rw [ui_e]
        by_cases e : 2 * so (3 * r + 1) = 2 * so (3 * v + 1)
        · rw [if_pos e]
        · rw [if_neg e]
          by_cases e2 : r = v
          · rw [e2] at e; omega
          · exact hrg r a (by omega) c d
  · refine ok_gi ⟨by omega, by omega⟩ (ok_bd.mpr (hs1 _ _ ⟨by omega, fun n a b => ?_⟩ (by show (96 - (v + 1)).toNat < (96 - v).toNat; omega)))
    rw [ui_e]
    by_cases e : n = v
    · rw [if_pos e]
    · rw [if_neg e]; exact hI n a (by omega)
end NEED
