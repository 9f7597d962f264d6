/-! rows in arrays, and where a row comes in -/
def rowAt (A : Int → Int) (b : Int) (r : List Int) : Prop := ∀ (j : Nat) e, r[j]? = some e → A (b + j) = e
theorem rlt_eqs {r r' : List Int} {k : Nat} (h1 : k < r.length) (h2 : k < r'.length) : rlt (r.drop k) (r'.drop k) = if r[k] = r'[k] then rlt (r.drop (k + 1)) (r'.drop (k + 1)) else decide (r[k] < r'[k]) := by
  rw [List.drop_eq_getElem_cons h1, List.drop_eq_getElem_cons h2]; rfl
theorem rlt_end {r r' : List Int} {k : Nat} (h : k ≤ r.length) (h' : k ≤ r'.length) (q : k = r.length ∨ k = r'.length) : rlt (r.drop k) (r'.drop k) = decide (r.length < r'.length) := by
  by_cases e : k = r.length
  · rw [List.drop_eq_nil_of_le (by omega)]
    by_cases e2 : k = r'.length
    · rw [List.drop_eq_nil_of_le (by omega), decide_eq_false (by omega)]; rfl
    · rw [List.drop_eq_getElem_cons (show k < r'.length by omega), decide_eq_true (by omega)]; rfl
  · have e2 : k = r'.length := q.resolve_left e
    rw [List.drop_eq_nil_of_le (as := r') (show r'.length ≤ k by omega), List.drop_eq_getElem_cons (show k < r.length by omega), decide_eq_false (by omega)]; rfl
/-- a timing path's slack and row are in their limits -/
def PE (p : Int × List Int) : Prop := (-100000000 ≤ p.1 ∧ p.1 ≤ 100000000) ∧ p.2.length ≤ 144 ∧ ∀ e ∈ p.2, 0 ≤ e ∧ e < 400
theorem insr_at {x : Int × List Int} : ∀ (P : List (Int × List Int)) (k : Nat), k ≤ P.length → (∀ (i : Nat) p, i < k → P[i]? = some p → bef x p = false) → (∀ p, P[k]? = some p → bef x p = true) → insr x P = P.take k ++ x :: P.drop k := by
  intro P
  induction P with
  | nil =>
    intro k hk _ _
    have e : k = 0 := Nat.le_zero.mp hk
    subst e; rfl
  | cons y ys ih =>
    intro k hk h1 h2
    cases k with
    | zero =>
      rw [insr_c, h2 y rfl]
      rfl
    | succ k =>
      rw [insr_c, h1 0 y (by omega) rfl]
      show y :: insr x ys = y :: (ys.take k ++ x :: ys.drop k)
      rw [ih k (by simpa using hk) (fun i p a b => h1 (i + 1) p (by omega) (by simpa using b)) (fun p a => h2 p (by simpa using a))]
theorem srt_get {P : List (Int × List Int)} (h : srt P) : ∀ {i j : Nat} {p q : Int × List Int}, i < j → P[i]? = some p → P[j]? = some q → bef q p = false := by
  intro i j p q hij hp hq
  have h1 := (List.pairwise_iff_getElem.mp h) i j (getE_lt hp) (getE_lt hq) hij
  rw [List.getElem?_eq_getElem (getE_lt hp)] at hp
  rw [List.getElem?_eq_getElem (getE_lt hq)] at hq
  rw [Option.some.inj hp, Option.some.inj hq] at h1
  exact h1
theorem bef_up {x p q : Int × List Int} (h1 : bef x p = true) (h2 : bef q p = false) : bef x q = true := by
  cases h : bef x q with
  | true => rfl
  | false =>
    have := bef_le_trans (p := p) (q := q) (r := x) h2 h
    rw [this] at h1; cases h1
/-- found from the end -/
theorem insr_from {x : Int × List Int} {P : List (Int × List Int)} {k : Nat} (hs : srt P) (hk : k ≤ P.length) (h1 : ∀ (i : Nat) p, k ≤ i → P[i]? = some p → bef x p = true) (h2 : k = 0 ∨ ∃ p, P[k - 1]? = some p ∧ bef x p = false) : insr x P = P.take k ++ x :: P.drop k := by
  refine insr_at P k hk (fun i p hi hp => ?_) (fun p hp => h1 k p (Nat.le_refl k) hp)
  rcases h2 with h2 | ⟨q, q1, q2⟩
  · omega
  · cases hb : bef x p with
    | false => rfl
    | true =>
      by_cases e : i = k - 1
      · subst e
        rw [hp] at q1
        rw [Option.some.inj q1, q2] at hb; cases hb
      · have := bef_up hb (srt_get hs (show i < k - 1 by omega) hp q1)
        rw [q2] at this; cases this
theorem srt_take {P : List (Int × List Int)} (h : srt P) (n : Nat) : srt (P.take n) := List.Pairwise.sublist (List.take_sublist n P) h
theorem top_srt {P : List (Int × List Int)} (h : srt P) (x : Int × List Int) : srt (top20 P x) := srt_take (insr_srt h) 20
theorem insr_len (x : Int × List Int) : ∀ (P : List (Int × List Int)), (insr x P).length = P.length + 1 := by
  intro P
  induction P with
  | nil => rfl
  | cons y ys ih =>
    rw [insr_c]
    cases bef x y with
    | true => rfl
    | false => show (insr x ys).length + 1 = _; rw [ih]; rfl
theorem top_len {P : List (Int × List Int)} (x : Int × List Int) : (top20 P x).length = min (P.length + 1) 20 := by
  unfold top20
  rw [List.length_take, insr_len]; omega
theorem top_get {x : Int × List Int} {P : List (Int × List Int)} {k : Nat} (hk : k ≤ P.length) (h : insr x P = P.take k ++ x :: P.drop k) {i : Nat} {p : Int × List Int} (hp : (top20 P x)[i]? = some p) : i < 20 ∧ ((i < k ∧ P[i]? = some p) ∨ (i = k ∧ p = x) ∨ (k < i ∧ P[i - 1]? = some p)) := by
  unfold top20 at hp
  rw [List.getElem?_take] at hp
  by_cases h20 : i < 20
  · rw [if_pos h20, h] at hp
    refine ⟨h20, ?_⟩
    rcases (show i < k ∨ i = k ∨ k < i by omega) with q | q | q
    · left
      rw [List.getElem?_append_left (by rw [List.length_take]; omega), List.getElem?_take, if_pos q] at hp
      exact ⟨q, hp⟩
    · right; left
      rw [List.getElem?_append_right (by rw [List.length_take]; omega), List.length_take, show i - min k P.length = 0 by omega] at hp
      exact ⟨q, (Option.some.inj hp).symm⟩
    · right; right
      rw [List.getElem?_append_right (by rw [List.length_take]; omega), List.length_take, show i - min k P.length = (i - k - 1) + 1 by omega, List.getElem?_cons_succ, List.getElem?_drop, show k + (i - k - 1) = i - 1 by omega] at hp
      exact ⟨q, hp⟩
  · rw [if_neg h20] at hp; cases hp
theorem foldl_srt : ∀ (l : List (Int × List Int)) (P : List (Int × List Int)), srt P → srt (l.foldl top20 P) := by
  intro l
  induction l with
  | nil => intro P h; exact h
  | cons x l ih => intro P h; exact ih _ (top_srt h x)
theorem foldl_len : ∀ (l : List (Int × List Int)) (P : List (Int × List Int)), P.length ≤ 20 → (l.foldl top20 P).length = min (P.length + l.length) 20 := by
  intro l
  induction l with
  | nil => intro P h; show P.length = min (P.length + 0) 20; omega
  | cons x l ih =>
    intro P h
    show (l.foldl top20 (top20 P x)).length = min (P.length + (l.length + 1)) 20
    rw [ih _ (by rw [top_len]; omega), top_len]; omega
