/-! which gates lead to which: the reference's search -/
def ct (T : Int → Int) : Nat → Nat
  | 0 => 0
  | k + 1 => ct T k + (if T (k : Int) = 1 then 1 else 0)
theorem ct_le (T : Int → Int) : ∀ k : Nat, ct T k ≤ k := by
  intro k
  induction k with
  | zero => exact Nat.le_refl 0
  | succ k ih =>
    show ct T k + (if T (k : Int) = 1 then 1 else 0) ≤ k + 1
    by_cases h : T (k : Int) = 1
    · rw [if_pos h]; omega
    · rw [if_neg h]; omega
theorem ct_same {T U : Int → Int} : ∀ k : Nat, (∀ n, 0 ≤ n → n < (k : Int) → T n = U n) → ct T k = ct U k := by
  intro k
  induction k with
  | zero => intro _; rfl
  | succ k ih =>
    intro h
    show ct T k + (if T (k : Int) = 1 then 1 else 0) = ct U k + (if U (k : Int) = 1 then 1 else 0)
    rw [ih (fun n a b => h n a (by omega)), h k (by omega) (by omega)]
theorem ct_set {T : Int → Int} {n : Int} (hn : T n ≠ 1) : ∀ k : Nat, 0 ≤ n → n < (k : Int) → ct (ui T n 1) k = ct T k + 1 := by
  intro k
  induction k with
  | zero => intro a b; omega
  | succ k ih =>
    intro a b
    show ct (ui T n 1) k + (if ui T n 1 (k : Int) = 1 then 1 else 0) = ct T k + (if T (k : Int) = 1 then 1 else 0) + 1
    by_cases e : n = (k : Int)
    · subst e
      rw [ui_s, if_pos rfl, if_neg hn, ct_same (T := ui T (k : Int) 1) (U := T) k (fun m _ q => ui_n (by omega))]
    · rw [ui_n (fun q => e q.symm), ih a (by omega)]
      omega
theorem Eg_fr {kd pn so fr : Int → Int} {size : Int} (hkd : ∀ i, kd i ≠ 0 → 0 < i ∧ i < size) (hp : ∀ i, 0 ≤ pn i ∧ pn i ≤ 3) (hfr : ∀ i, 0 ≤ i → i < 3 * size → (so i = -1 ∧ fr i = -2147483648) ∨ (0 ≤ so i ∧ fr i = so i)) (n m : Int) :
    Eg kd pn so n m ↔ kd n = 2 ∧ ∃ p, (0 ≤ p ∧ p < pn n) ∧ fr (3 * n + p) = m ∧ 0 ≤ m ∧ kd m = 2 := by
  unfold Eg
  constructor
  · rintro ⟨h1, p, h2, h3, h4⟩
    have a := hkd n (by omega)
    have b := hkd m (by omega)
    have c := hp n
    have d := hfr (3 * n + p) (by omega) (by omega)
    exact ⟨h1, p, h2, by omega, by omega, h4⟩
  · rintro ⟨h1, p, h2, h3, h4, h5⟩
    have a := hkd n (by omega)
    have c := hp n
    have d := hfr (3 * n + p) (by omega) (by omega)
    exact ⟨h1, p, h2, by omega, h5⟩
theorem Eg_in {kd pn so : Int → Int} {size : Int} (hkd : ∀ i, kd i ≠ 0 → 0 < i ∧ i < size) (n m : Int) (h : Eg kd pn so n m) : (0 ≤ n ∧ n < (size.toNat : Int)) ∧ 0 ≤ m ∧ m < (size.toNat : Int) := by
  obtain ⟨h1, p, h2, h3, h4⟩ := h
  have a := hkd n (by omega)
  have b := hkd m (by omega)
  omega
section RND
variable {F : Nat} {kd pn so fr : Int → Int} {size g : Int}
/-- what the search keeps: marks are 0 or 1, the gate itself is marked, and whatever is marked is led to by it -/
def TI (kd pn so : Int → Int) (size g : Int) (T : Int → Int) : Prop := (∀ n, 0 ≤ n → n < 96 → T n = 0 ∨ T n = 1) ∧ T g = 1 ∧ ∀ n, 0 ≤ n → n < 96 → T n = 1 → n = g ∨ wl (Eg kd pn so) size.toNat n g
def TC (kd pn so : Int → Int) (g : Int) (T : Int → Int) (n : Int) : Prop := ∀ m, Eg kd pn so n m → T m = 1 → T n = 1 ∧ n ≠ g
theorem s_isRound (hF : 200 ≤ F) (hz : 1 ≤ size ∧ size ≤ 48) (hk : ∀ i, 0 ≤ kd i ∧ kd i ≤ 4) (hkd : ∀ i, kd i ≠ 0 → 0 < i ∧ i < size) (hp : ∀ i, 0 ≤ pn i ∧ pn i ≤ 3)
    (hfr : ∀ i, 0 ≤ i → i < 3 * size → (so i = -1 ∧ fr i = -2147483648) ∨ (0 ≤ so i ∧ fr i = so i)) (hfr2 : ∀ i, -2147483648 ≤ fr i ∧ fr i < size) {th : Int → Int} (hg : kd g = 2) :
    ok (f_M_isRound F size kd pn fr th g) (fun r => (r.1 = 1 ∧ wl (Eg kd pn so) size.toNat g g) ∨ (r.1 = 0 ∧ ¬ wl (Eg kd pn so) size.toNat g g)) := by
  have hgs := hkd g (by omega)
  have hin := Eg_in (kd := kd) (pn := pn) (so := so) hkd
  have hE := Eg_fr (kd := kd) (pn := pn) (so := so) hkd hp hfr
  unfold f_M_isRound
  refine lq2_ok (fun v T => (0 ≤ v ∧ v ≤ 96) ∧ ∀ n, 0 ≤ n → n < v → T n = 0) (fun v _ => (96 - v).toNat) _ ?_ F 0 th ⟨by omega, fun n a b => by omega⟩ (by show (96 - (0 : Int)).toNat < F; omega)
  rintro self v T ⟨hv, hI⟩ hs
  unfold f_M_isRound_b2
  refine ok_gr ⟨by omega, by omega⟩ (ok_if (fun h => ?_) (fun h => ?_))
  · refine ok_gi ⟨by omega, by omega⟩ (ok_bd.mpr ?_)
    have hT0 : TI kd pn so size g (ui T g 1) := by
      refine ⟨fun n a b => ?_, ui_s _ _ _, fun n a b q => ?_⟩
      · rw [ui_e]
        by_cases e : n = g
        · rw [if_pos e]; exact Or.inr rfl
        · rw [if_neg e]; exact Or.inl (hI n a (by omega))
      · rw [ui_e] at q
        by_cases e : n = g
        · exact Or.inl e
        · rw [if_neg e, hI n a (by omega)] at q; omega
    refine lq2_ok (fun v U => (v = 0 ∨ v = 1) ∧ TI kd pn so size g U ∧ (v = 0 → ∀ n, 0 ≤ n → n < size → TC kd pn so g U n)) (fun v U => if v = 0 then 0 else 49 - ct U 48) _ ?_ F 1 _ ⟨Or.inr rfl, hT0, fun q => by omega⟩ (by show (if (1 : Int) = 0 then 0 else 49 - ct (ui T g 1) 48) < F; rw [if_neg (by omega)]; omega)
    rintro self2 mo U ⟨hmo, hU, hcl⟩ hs2
    unfold f_M_isRound_b30
    refine ok_gr ⟨by omega, by omega⟩ (ok_if (fun h1 => ?_) (fun h1 => ?_))
    · refine ok_gb (Or.inl rfl) (ok_some.mpr (Or.inr ⟨rfl, ?_⟩))
      refine wl_round (S := fun n => U n = 1) hU.2.1 (fun n m e q => ?_) _
      have a := hin n m e
      exact hcl h1 n a.1.1 (by omega) m e q
    · have hmo1 : mo = 1 := by omega
      subst hmo1
      have hc48 := ct_le U 48
      refine lq3_ok (fun mo n X => (mo = 0 ∨ mo = 1) ∧ (0 ≤ n ∧ n ≤ size) ∧ TI kd pn so size g X ∧ (mo = 0 → X = U ∧ ∀ k, 0 ≤ k → k < n → TC kd pn so g X k) ∧ (mo = 1 → ct U 48 < ct X 48)) (fun _ n _ => (48 - n).toNat) _ ?_ F 0 0 U ⟨Or.inl rfl, by omega, hU, fun _ => ⟨rfl, fun k a b => by omega⟩, fun q => by omega⟩ (by show (48 - (0 : Int)).toNat < F; omega)
      rintro self3 mo n X ⟨hmo, hn, hX, hX0, hX1⟩ hs3
      unfold f_M_isRound_b38
      refine ok_gr ⟨by omega, by omega⟩ (ok_gr ⟨by omega, by omega⟩ (ok_if (fun h2 => ?_) (fun h2 => ?_)))
      · have hc := ct_le X 48
        refine hs2 _ _ ⟨hmo, hX, fun q k a b => (hX0 q).2 k a (by omega)⟩ ?_
        show (if mo = 0 then 0 else 49 - ct X 48) < (if (1 : Int) = 0 then 0 else 49 - ct U 48)
        rw [if_neg (show ¬ (1 : Int) = 0 by omega)]
        by_cases q : mo = 0
        · rw [if_pos q]; omega
        · rw [if_neg q]
          have := hX1 (by omega)
          omega
      · have hpn := hp n
        have hkn := hk n
        refine lq3_ok (fun mo p X => (mo = 0 ∨ mo = 1) ∧ (0 ≤ p ∧ p ≤ 3) ∧ TI kd pn so size g X ∧ (mo = 0 → X = U ∧ (∀ k, 0 ≤ k → k < n → TC kd pn so g X k) ∧ ∀ q, 0 ≤ q → q < p → q < pn n → kd n = 2 → 0 ≤ fr (3 * n + q) → kd (fr (3 * n + q)) = 2 → X (fr (3 * n + q)) = 1 → X n = 1 ∧ n ≠ g) ∧ (mo = 1 → ct U 48 < ct X 48)) (fun _ p _ => (3 - p).toNat) _ ?_ F mo 0 X ⟨hmo, by omega, hX, fun q => ⟨(hX0 q).1, (hX0 q).2, fun k a b => by omega⟩, hX1⟩ (by show (3 - (0 : Int)).toNat < F; omega)
        clear hX hX0 hX1 hmo
        rintro self4 mo p X ⟨hmo, hpp, hX, hX0, hX1⟩ hs4
        unfold f_M_isRound_b49
        refine ok_gr ⟨by omega, by omega⟩ (ok_if (fun h3 => ?_) (fun h3 => ?_))
        · refine hs3 _ _ _ ⟨hmo, by omega, hX, fun q => ⟨(hX0 q).1, fun k a b => ?_⟩, hX1⟩ (by show (48 - (n + 1)).toNat < (48 - n).toNat; omega)
          by_cases e : k = n
          · subst e
            intro m em qm
            obtain ⟨k1, k2, k3, k4, k5, k6⟩ := (hE k m).mp em
            subst k4
            exact (hX0 q).2.2 k2 k3.1 (by omega) k3.2 k1 k5 k6 qm
          · exact (hX0 q).2.1 k a (by omega)
        · have hf2 := hfr2 (3 * n + p)
          have hkf := hk (fr (3 * n + p))
          have hmeas : (3 - (p + 1)).toNat < (3 - p).toNat := by omega
          have hskip : ¬ (p < pn n ∧ kd n = 2 ∧ 0 ≤ fr (3 * n + p) ∧ kd (fr (3 * n + p)) = 2 ∧ X (fr (3 * n + p)) = 1) → ok (self4 mo (p + 1) X) (fun r => (r.1 = 1 ∧ wl (Eg kd pn so) size.toNat g g) ∨ (r.1 = 0 ∧ ¬ wl (Eg kd pn so) size.toNat g g)) := by
            intro hno
            refine hs4 _ _ _ ⟨hmo, by omega, hX, fun q => ⟨(hX0 q).1, (hX0 q).2.1, fun q' a b c d e f i => ?_⟩, hX1⟩ hmeas
            by_cases e' : q' = p
            · subst e'; exact absurd ⟨c, d, e, f, i⟩ hno
            · exact (hX0 q).2.2 q' a (by omega) c d e f i
          refine ok_gi ⟨by omega, by omega⟩ (ok_bd.mpr ?_)
          rw [e_isGate hk (by omega), ob1_s]
          have z1 := bz_1 (0 ≤ n ∧ kd n = 2)
          have z2 := bz_01 (0 ≤ n ∧ kd n = 2)
          refine ok_gr ⟨by omega, by omega⟩ (ok_if (fun h4 => hskip (by omega)) (fun h4 => ?_))
          refine ok_gi ⟨by omega, by omega⟩ (ok_gr ⟨by omega, by omega⟩ (ok_gr ⟨by omega, by omega⟩ (ok_if (fun h5 => hskip (by omega)) (fun h5 => ?_))))
          rw [e_isGate hk (by omega), ob1_s]
          have z3 := bz_1 (0 ≤ fr (3 * n + p) ∧ kd (fr (3 * n + p)) = 2)
          have z4 := bz_01 (0 ≤ fr (3 * n + p) ∧ kd (fr (3 * n + p)) = 2)
          refine ok_gr ⟨by omega, by omega⟩ (ok_if (fun h6 => hskip (by omega)) (fun h6 => ?_))
          have hxf := hX.1 (fr (3 * n + p)) (by omega) (by omega)
          refine ok_gi ⟨by omega, by omega⟩ (ok_gr ⟨by omega, by omega⟩ (ok_if (fun h7 => hskip (by omega)) (fun h7 => ?_)))
          have hedge : Eg kd pn so n (fr (3 * n + p)) := (hE n _).mpr ⟨by omega, p, by omega, rfl, by omega, by omega⟩
          have hlead : wl (Eg kd pn so) size.toNat n g := wl_found hin (hX.2.2 _ (by omega) (by omega) (by omega)) hedge
          refine ok_gr ⟨by omega, by omega⟩ (ok_gr ⟨by omega, by omega⟩ (ok_if (fun h8 => ?_) (fun h8 => ?_)))
          · refine ok_gb (Or.inr rfl) (ok_some.mpr (Or.inl ⟨rfl, ?_⟩))
            rw [h8] at hlead
            exact hlead
          · have hxn := hX.1 n (by omega) (by omega)
            have hset : TI kd pn so size g (ui X n 1) := by
              refine ⟨fun k a b => ?_, ?_, fun k a b q => ?_⟩
              · rw [ui_e]
                by_cases e : k = n
                · rw [if_pos e]; exact Or.inr rfl
                · rw [if_neg e]; exact hX.1 k a b
              · rw [ui_n (fun q => h8 q.symm)]; exact hX.2.1
              · rw [ui_e] at q
                by_cases e : k = n
                · rw [e]; exact Or.inr hlead
                · rw [if_neg e] at q; exact hX.2.2 k a b q
            have hnew : X n = 0 → ok (self4 1 (p + 1) (ui X n 1)) (fun r => (r.1 = 1 ∧ wl (Eg kd pn so) size.toNat g g) ∨ (r.1 = 0 ∧ ¬ wl (Eg kd pn so) size.toNat g g)) := by
              intro q0
              refine hs4 _ _ _ ⟨Or.inr rfl, by omega, hset, fun q => by omega, fun _ => ?_⟩ hmeas
              rw [ct_set (by omega) 48 (by omega) (by omega)]
              rcases hmo with q | q
              · rw [(hX0 q).1]; omega
              · have := hX1 q; omega
            have hold1 : mo = 1 → X n = 1 → ok (self4 1 (p + 1) (ui X n 1)) (fun r => (r.1 = 1 ∧ wl (Eg kd pn so) size.toNat g g) ∨ (r.1 = 0 ∧ ¬ wl (Eg kd pn so) size.toNat g g)) := by
              intro q1 q2
              refine hs4 _ _ _ ⟨Or.inr rfl, by omega, hset, fun q => by omega, fun _ => ?_⟩ hmeas
              rw [ui_z q2]
              exact hX1 q1
            refine ok_gr ⟨by omega, by omega⟩ (ok_if (fun h9 => ?_) (fun h9 => ?_))
            · refine ok_gi ⟨by omega, by omega⟩ (ok_gr ⟨by omega, by omega⟩ (ok_if (fun h10 => ?_) (fun h10 => ?_)))
              · exact ok_gi ⟨by omega, by omega⟩ (ok_bd.mpr (hnew h10))
              · refine ok_gi ⟨by omega, by omega⟩ (ok_bd.mpr ?_)
                have q2 : X n = 1 := by omega
                rw [ui_z q2]
                refine hs4 _ _ _ ⟨Or.inl rfl, by omega, hX, fun q => ⟨(hX0 h9).1, (hX0 h9).2.1, fun q' a b c d e f i => ?_⟩, fun q => by omega⟩ hmeas
                by_cases e' : q' = p
                · exact ⟨q2, h8⟩
                · exact (hX0 h9).2.2 q' a (by omega) c d e f i
            · refine ok_gi ⟨by omega, by omega⟩ (ok_bd.mpr ?_)
              rcases hxn with q | q
              · exact hnew q
              · exact hold1 (by omega) q
  · refine ok_gi ⟨by omega, by omega⟩ (ok_bd.mpr (hs _ _ ⟨by omega, fun n a b => ?_⟩ (by show (96 - (v + 1)).toNat < (96 - v).toNat; omega)))
    rw [ui_e]
    by_cases e : n = v
    · rw [if_pos e]
    · rw [if_neg e]; exact hI n a (by omega)
theorem s_cycle (hF : 200 ≤ F) (hz : 1 ≤ size ∧ size ≤ 48) (hk : ∀ i, 0 ≤ kd i ∧ kd i ≤ 4) (hkd : ∀ i, kd i ≠ 0 → 0 < i ∧ i < size) (hp : ∀ i, 0 ≤ pn i ∧ pn i ≤ 3)
    (hfr : ∀ i, 0 ≤ i → i < 3 * size → (so i = -1 ∧ fr i = -2147483648) ∨ (0 ≤ so i ∧ fr i = so i)) (hfr2 : ∀ i, -2147483648 ≤ fr i ∧ fr i < size) {th : Int → Int} :
    ok (f_M_cycle F size kd pn fr th) (fun r => isCyc kd pn so size r.1 ∧ r.2.1 = 0) := by
  have hin := Eg_in (kd := kd) (pn := pn) (so := so) hkd
  unfold f_M_cycle
  refine lq2_ok (fun v _ => (0 ≤ v ∧ v ≤ size) ∧ ∀ n, 0 ≤ n → n < v → ¬ wl (Eg kd pn so) size.toNat n n) (fun v _ => (48 - v).toNat) _ ?_ F 0 th ⟨by omega, fun n a b => by omega⟩ (by show (48 - (0 : Int)).toNat < F; omega)
  rintro self v T ⟨hv, hI⟩ hs
  unfold f_M_cycle_b7
  refine ok_gr ⟨by omega, by omega⟩ (ok_gr ⟨by omega, by omega⟩ (ok_if (fun h => ?_) (fun h => ?_)))
  · exact ok_some.mpr ⟨Or.inl ⟨rfl, fun n a b => hI n a (by omega)⟩, rfl⟩
  · rw [e_isGate hk (by omega), ob1_s]
    have z1 := bz_1 (0 ≤ v ∧ kd v = 2)
    have z2 := bz_01 (0 ≤ v ∧ kd v = 2)
    have hno : ¬ wl (Eg kd pn so) size.toNat v v → ∀ n, 0 ≤ n → n < v + 1 → ¬ wl (Eg kd pn so) size.toNat n n := by
      intro q n a b
      by_cases e : n = v
      · rw [e]; exact q
      · exact hI n a (by omega)
    refine ok_gr ⟨by omega, by omega⟩ (ok_if (fun h1 => ?_) (fun h1 => ?_))
    · refine hs _ _ ⟨by omega, hno (fun q => ?_)⟩ (by show (48 - (v + 1)).toNat < (48 - v).toNat; omega)
      have := wl_le (Eg kd pn so) (fun n m => kd n = 2) (fun n m e => e.1) (fun n j m a _ => a) size.toNat v v q
      omega
    · refine ok_ob2 (s_isRound hF hz hk hkd hp hfr hfr2 (th := T) (g := v) (by omega)) (fun r U hr => ?_)
      have hr' : (r = 1 ∧ wl (Eg kd pn so) size.toNat v v) ∨ (r = 0 ∧ ¬ wl (Eg kd pn so) size.toNat v v) := hr
      refine ok_gr ⟨by omega, by omega⟩ (ok_if (fun h2 => ?_) (fun h2 => ?_))
      · exact hs _ _ ⟨by omega, hno (hr'.resolve_left (fun q => by omega)).2⟩ (by show (48 - (v + 1)).toNat < (48 - v).toNat; omega)
      · exact ok_some.mpr ⟨Or.inr ⟨by omega, (hr'.resolve_right (fun q => by omega)).2, hI⟩, rfl⟩
end RND
