/-! what two clock ways share -/
def lcp : List Int → List Int → List Int
  | [], _ => []
  | _ :: _, [] => []
  | a :: as, b :: bs => if a = b then a :: lcp as bs else []
theorem lcp_self : ∀ l : List Int, lcp l l = l := by
  intro l
  induction l with
  | nil => rfl
  | cons a l ih => show (if a = a then a :: lcp l l else []) = _; rw [if_pos rfl, ih]
theorem lcp_comm : ∀ l m : List Int, lcp l m = lcp m l := by
  intro l
  induction l with
  | nil => intro m; cases m <;> rfl
  | cons a l ih =>
    intro m
    cases m with
    | nil => rfl
    | cons b m =>
      show (if a = b then a :: lcp l m else []) = (if b = a then b :: lcp m l else [])
      by_cases h : a = b
      · rw [if_pos h, if_pos h.symm, h, ih]
      · rw [if_neg h, if_neg (fun q => h q.symm)]
/-- a last element that is more than the other has, or another, doesn't count -/
theorem lcp_snoc : ∀ (l m : List Int) (e : Int), m.length ≤ (l ++ [e]).length → l ++ [e] ≠ m → lcp (l ++ [e]) m = lcp l m := by
  intro l
  induction l with
  | nil =>
    intro m e h1 h2
    cases m with
    | nil => rfl
    | cons b m =>
      have h1' : m.length + 1 ≤ 1 := h1
      have hm : m = [] := List.length_eq_zero_iff.mp (by omega)
      subst hm
      show (if e = b then e :: lcp [] [] else []) = []
      rw [if_neg (fun q => h2 (by rw [q]; rfl))]
  | cons a l ih =>
    intro m e h1 h2
    cases m with
    | nil => rfl
    | cons b m =>
      show (if a = b then a :: lcp (l ++ [e]) m else []) = (if a = b then a :: lcp l m else [])
      by_cases h : a = b
      · rw [if_pos h, if_pos h, ih m e (by simp at h1 ⊢; omega) (fun q => h2 (by rw [h]; show b :: (l ++ [e]) = b :: m; rw [q]))]
      · rw [if_neg h, if_neg h]
theorem lcp_stop : ∀ (k : Nat) (l m : List Int), l.take k = m.take k → k ≤ l.length → k ≤ m.length → (k = l.length ∨ k = m.length ∨ l[k]? ≠ m[k]?) → lcp l m = m.take k := by
  intro k
  induction k with
  | zero =>
    intro l m _ _ _ h
    rw [List.take_zero]
    cases l with
    | nil => rfl
    | cons a l =>
      cases m with
      | nil => rfl
      | cons b m =>
        show (if a = b then a :: lcp l m else []) = []
        rw [if_neg (fun q => ?_)]
        rcases h with r | r | r
        · simp at r
        · simp at r
        · exact r (by rw [q]; rfl)
  | succ k ih =>
    intro l m h1 h2 h3 h4
    cases l with
    | nil => simp at h2
    | cons a l =>
      cases m with
      | nil => simp at h3
      | cons b m =>
        rw [List.take_succ_cons, List.take_succ_cons] at h1
        injection h1 with h5 h6
        show (if a = b then a :: lcp l m else []) = _
        rw [if_pos h5, List.take_succ_cons, ih l m h6 (by simpa using h2) (by simpa using h3) ?_, h5]
        rcases h4 with r | r | r
        · exact Or.inl (by simpa using r)
        · exact Or.inr (Or.inl (by simpa using r))
        · exact Or.inr (Or.inr (by rwa [List.getElem?_cons_succ, List.getElem?_cons_succ] at r))
def rowW (w : Int × List Int) : List Int := w.1 :: w.2.reverse
theorem rowW_inj {w v : Int × List Int} (h : rowW w = rowW v) : w = v := by
  injection h with h1 h2
  exact Prod.ext h1 (List.reverse_inj.mp h2)
theorem rowW_len (w : Int × List Int) : (rowW w).length = w.2.length + 1 := by unfold rowW; rw [List.length_cons, List.length_reverse]
theorem sm_rev (a : Int → Int) : ∀ l : List Int, sm a l.reverse = sm a l := by
  intro l
  induction l with
  | nil => rfl
  | cons e l ih => rw [List.reverse_cons, sm_app, ih]; show sm a l + (a e + 0) = a e + sm a l; omega
theorem sm_sub (a b : Int → Int) : ∀ l : List Int, sm (fun e => b e - a e) l = sm b l - sm a l := by
  intro l
  induction l with
  | nil => rfl
  | cons e l ih => show b e - a e + sm (fun e => b e - a e) l = b e + sm b l - (a e + sm a l); rw [ih]; omega
section CRD
variable {F : Nat} {a b : Int → Int} {sz : Int} {el pa ln ea la fi nx : Int → Int} {Wd : Int → Int × List Int} {Ch : Int → List Int}
theorem s_sharedEnd (hF : 200 ≤ F) (h : TR a b sz el pa ln ea la fi nx Wd Ch) (hinj : ∀ t u, 0 ≤ t → t < sz → 0 ≤ u → u < sz → Wd t = Wd u → t = u) {t u : Int} (ht : 0 ≤ t ∧ t < sz) (hu : 0 ≤ u ∧ u < sz) (ht48 : (Wd t).2.length ≤ 48) (hu48 : (Wd u).2.length ≤ 48) :
    ok (f_ClockWays_sharedEnd F pa ln t u) (fun z => (z = -1 ∧ lcp (rowW (Wd t)) (rowW (Wd u)) = []) ∨ ((0 ≤ z ∧ z < sz) ∧ rowW (Wd z) = lcp (rowW (Wd t)) (rowW (Wd u)))) := by
  have hsz := TR_sz h
  unfold f_ClockWays_sharedEnd
  -- one node, or none; its row, or nothing
  refine lq3_ok (fun x y i => (0 ≤ i ∧ i ≤ 96) ∧ ∃ X Y : List Int, ((x = -1 ∧ X = []) ∨ ((0 ≤ x ∧ x < sz) ∧ X = rowW (Wd x))) ∧ ((y = -1 ∧ Y = []) ∨ ((0 ≤ y ∧ y < sz) ∧ Y = rowW (Wd y))) ∧ lcp X Y = lcp (rowW (Wd t)) (rowW (Wd u)) ∧ (X.length + Y.length : Int) + i ≤ 98) (fun _ _ i => (96 - i).toNat) _ ?_ F t u 0 ⟨by omega, _, _, Or.inr ⟨ht, rfl⟩, Or.inr ⟨hu, rfl⟩, rfl, by rw [rowW_len, rowW_len]; omega⟩ (by show (96 - (0 : Int)).toNat < F; omega)
  rintro self x y i ⟨hi, X, Y, hX, hY, hl, hs98⟩ hs
  have hxr : -1 ≤ x ∧ x < sz := by omega
  have hyr : -1 ≤ y ∧ y < sz := by omega
  have hend : (i = 96 ∨ x < 0 ∨ y < 0 ∨ x = y) → ok (f_ClockWays_sharedEnd_j71 F x y) (fun z => (z = -1 ∧ lcp (rowW (Wd t)) (rowW (Wd u)) = []) ∨ ((0 ≤ z ∧ z < sz) ∧ rowW (Wd z) = lcp (rowW (Wd t)) (rowW (Wd u)))) := by
    intro hc
    unfold f_ClockWays_sharedEnd_j71
    refine ok_gr ⟨by omega, by omega⟩ (ok_gr ⟨by omega, by omega⟩ (ok_if (fun q => ok_some.mpr ?_) (fun q => ok_some.mpr ?_)))
    · subst q
      rw [← hl]
      rcases hX with ⟨x1, x2⟩ | ⟨x1, x2⟩
      · left
        rw [x2]
        exact ⟨x1, rfl⟩
      · right
        rcases hY with ⟨y1, y2⟩ | ⟨y1, y2⟩
        · omega
        · rw [x2, y2, lcp_self]
          exact ⟨x1, rfl⟩
    · left
      refine ⟨rfl, ?_⟩
      rw [← hl]
      rcases hX with ⟨x1, x2⟩ | ⟨x1, x2⟩
      · rw [x2]; rfl
      · rcases hY with ⟨y1, y2⟩ | ⟨y1, y2⟩
        · rw [y2, lcp_comm]; rfl
        · have hne : Wd x ≠ Wd y := fun z => q (hinj x y x1.1 x1.2 y1.1 y1.2 z)
          have hl1 : X.length = 1 ∧ Y.length = 1 := by
            rw [x2, y2, rowW_len, rowW_len] at hs98 ⊢
            omega
          rw [x2, y2] at hl1 ⊢
          rw [rowW_len, rowW_len] at hl1
          have w1 : (Wd x).2 = [] := List.length_eq_zero_iff.mp (by omega)
          have w2 : (Wd y).2 = [] := List.length_eq_zero_iff.mp (by omega)
          unfold rowW
          rw [w1, w2]
          show (if (Wd x).1 = (Wd y).1 then _ else []) = []
          rw [if_neg (fun z => hne (Prod.ext z (w1.trans w2.symm)))]
  unfold f_ClockWays_sharedEnd_b8
  refine ok_gr ⟨by omega, by omega⟩ (ok_if (fun h1 => hend (Or.inl (by omega))) (fun h1 => ?_))
  refine ok_gr ⟨by omega, by omega⟩ (ok_if (fun h2 => hend (Or.inr (Or.inl h2))) (fun h2 => ?_))
  refine ok_gr ⟨by omega, by omega⟩ (ok_if (fun h3 => hend (Or.inr (Or.inr (Or.inl h3)))) (fun h3 => ?_))
  refine ok_gr ⟨by omega, by omega⟩ (ok_gr ⟨by omega, by omega⟩ (ok_if (fun h4 => hend (Or.inr (Or.inr (Or.inr h4)))) (fun h4 => ?_)))
  have hx : (0 ≤ x ∧ x < sz) ∧ X = rowW (Wd x) := hX.resolve_left (fun z => by omega)
  have hy : (0 ≤ y ∧ y < sz) ∧ Y = rowW (Wd y) := hY.resolve_left (fun z => by omega)
  have hne : rowW (Wd x) ≠ rowW (Wd y) := fun z => h4 (hinj x y hx.1.1 hx.1.2 hy.1.1 hy.1.2 (rowW_inj z))
  have hnx := h.1 x hx.1.1 hx.1.2
  have hny := h.1 y hy.1.1 hy.1.2
  have hXl := congrArg List.length hx.2
  have hYl := congrArg List.length hy.2
  rw [rowW_len] at hXl hYl
  -- up by one node
  have hup : ∀ z, 0 ≤ z → z < sz → ∃ Z : List Int, ((pa z = -1 ∧ Z = []) ∨ ((0 ≤ pa z ∧ pa z < sz) ∧ Z = rowW (Wd (pa z)))) ∧ rowW (Wd z) = Z ++ [el z] := by
    intro z z1 z2
    rcases (h.1 z z1 z2).1 with ⟨p1, p2⟩ | ⟨p1, p2⟩
    · refine ⟨[], Or.inl ⟨p1, rfl⟩, ?_⟩
      rw [p2]; rfl
    · refine ⟨rowW (Wd (pa z)), Or.inr ⟨by omega, rfl⟩, ?_⟩
      rw [p2]
      unfold rowW
      rw [List.reverse_cons]
      rfl
  have hmeas : (96 - (i + 1)).toNat < (96 - i).toNat := by omega
  refine ok_gi ⟨by omega, by omega⟩ (ok_gi ⟨by omega, by omega⟩ (ok_gr ⟨by omega, by omega⟩ (ok_gr ⟨by omega, by omega⟩ (ok_if (fun h5 => ?_) (fun h5 => ?_)))))
  · obtain ⟨Z, z1, z2⟩ := hup y hy.1.1 hy.1.2
    have hZl := congrArg List.length z2
    rw [rowW_len, List.length_append] at hZl
    refine ok_gi ⟨by omega, by omega⟩ (ok_bd.mpr (hs _ _ _ ⟨by omega, X, Z, hX, z1, ?_, ?_⟩ hmeas))
    · rw [← hl, hy.2, z2, lcp_comm X (Z ++ [el y]), lcp_snoc Z X (el y) (by rw [← z2, rowW_len]; omega) (by rw [← z2, hx.2]; exact fun q => hne q.symm), lcp_comm]
    · simp at hZl
      omega
  · obtain ⟨Z, z1, z2⟩ := hup x hx.1.1 hx.1.2
    have hZl := congrArg List.length z2
    rw [rowW_len, List.length_append] at hZl
    refine ok_gi ⟨by omega, by omega⟩ (ok_bd.mpr (hs _ _ _ ⟨by omega, Z, Y, z1, hY, ?_, ?_⟩ hmeas))
    · rw [← hl, hx.2, z2, lcp_snoc Z Y (el x) (by rw [← z2, rowW_len]; omega) (by rw [← z2, hy.2]; exact hne)]
    · simp at hZl
      omega
end CRD
