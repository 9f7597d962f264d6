/-! rows in order, and the first ones of many -/
def rlt : List Int → List Int → Bool
  | [], [] => false
  | [], _ :: _ => true
  | _ :: _, [] => false
  | a :: as, b :: bs => if a = b then rlt as bs else decide (a < b)
theorem rlt_tri : ∀ (a b : List Int), rlt a b = false → rlt b a = false → a = b := by
  intro a
  induction a with
  | nil => intro b h1 h2; cases b with
    | nil => rfl
    | cons y ys => cases h1
  | cons x xs ih =>
    intro b h1 h2
    cases b with
    | nil => cases h2
    | cons y ys =>
      unfold rlt at h1 h2
      by_cases h : x = y
      · subst h
        rw [if_pos rfl] at h1 h2
        rw [ih ys h1 h2]
      · rw [if_neg h] at h1
        rw [if_neg (fun q => h q.symm)] at h2
        have := of_decide_eq_false h1
        have := of_decide_eq_false h2
        omega
theorem rlt_trans : ∀ (a b c : List Int), rlt a b = true → rlt b c = true → rlt a c = true := by
  intro a
  induction a with
  | nil => intro b c h1 h2; cases c with
    | nil => cases b with
      | nil => cases h1
      | cons y ys => cases h2
    | cons z zs => rfl
  | cons x xs ih =>
    intro b c h1 h2
    cases b with
    | nil => cases h1
    | cons y ys =>
      cases c with
      | nil => cases h2
      | cons z zs =>
        unfold rlt at h1 h2 ⊢
        by_cases h : x = y
        · subst h
          rw [if_pos rfl] at h1
          by_cases h' : x = z
          · subst h'
            rw [if_pos rfl] at h2 ⊢
            exact ih ys zs h1 h2
          · rw [if_neg h'] at h2 ⊢
            exact h2
        · rw [if_neg h] at h1
          have g1 := of_decide_eq_true h1
          by_cases h' : y = z
          · subst h'
            rw [if_neg h]
            exact h1
          · rw [if_neg h'] at h2
            have g2 := of_decide_eq_true h2
            rw [if_neg (by omega)]
            exact decide_eq_true (by omega)
theorem rlt_irr : ∀ (a : List Int), rlt a a = false := by
  intro a
  induction a with
  | nil => rfl
  | cons x xs ih => unfold rlt; rw [if_pos rfl]; exact ih
def bef (p q : Int × List Int) : Bool := if p.1 = q.1 then rlt p.2 q.2 else decide (p.1 < q.1)
theorem bef_tri {p q : Int × List Int} (h1 : bef p q = false) (h2 : bef q p = false) : p = q := by
  unfold bef at h1 h2
  by_cases h : p.1 = q.1
  · rw [if_pos h] at h1
    rw [if_pos h.symm] at h2
    exact Prod.ext h (rlt_tri _ _ h1 h2)
  · rw [if_neg h] at h1
    rw [if_neg (fun r => h r.symm)] at h2
    have := of_decide_eq_false h1
    have := of_decide_eq_false h2
    omega
theorem bef_trans {p q r : Int × List Int} (h1 : bef p q = true) (h2 : bef q r = true) : bef p r = true := by
  unfold bef at h1 h2 ⊢
  by_cases h : p.1 = q.1
  · rw [if_pos h] at h1
    by_cases h' : q.1 = r.1
    · rw [if_pos h'] at h2
      rw [if_pos (h.trans h')]
      exact rlt_trans _ _ _ h1 h2
    · rw [if_neg h'] at h2
      rw [if_neg (by rw [h]; exact h'), h]
      exact h2
  · rw [if_neg h] at h1
    have g1 := of_decide_eq_true h1
    by_cases h' : q.1 = r.1
    · rw [if_neg (by rw [← h']; exact h), ← h']
      exact h1
    · rw [if_neg h'] at h2
      have g2 := of_decide_eq_true h2
      rw [if_neg (by omega)]
      exact decide_eq_true (by omega)
theorem bef_irr (p : Int × List Int) : bef p p = false := by
  unfold bef; rw [if_pos rfl]; exact rlt_irr _
theorem bef_asym {p q : Int × List Int} (h : bef p q = true) : bef q p = false := by
  cases h' : bef q p with
  | false => rfl
  | true => have := bef_trans h h'; rw [bef_irr] at this; cases this
def insr (x : Int × List Int) : List (Int × List Int) → List (Int × List Int)
  | [] => [x]
  | y :: ys => if bef x y then x :: y :: ys else y :: insr x ys
theorem insr_c (x y : Int × List Int) (ys : List (Int × List Int)) : insr x (y :: ys) = if bef x y then x :: y :: ys else y :: insr x ys := rfl
theorem insr_comm (x y : Int × List Int) : ∀ (l : List (Int × List Int)), insr x (insr y l) = insr y (insr x l) := by
  intro l
  induction l with
  | nil =>
    show insr x [y] = insr y [x]
    rw [insr_c, insr_c]
    cases h : bef x y with
    | true => rw [bef_asym h]; rfl
    | false => cases h' : bef y x with
      | true => rfl
      | false => rw [bef_tri h h']
  | cons z zs ih =>
    rw [insr_c y, insr_c x]
    cases hx : bef x z with
    | true => cases hy : bef y z with
      | true =>
        show insr x (y :: z :: zs) = insr y (x :: z :: zs)
        rw [insr_c x y, insr_c y x, insr_c x z, insr_c y z, hx, hy]
        cases h : bef x y with
        | true => rw [bef_asym h]; rfl
        | false => cases h' : bef y x with
          | true => rfl
          | false => rw [bef_tri h h']
      | false =>
        show insr x (z :: insr y zs) = insr y (x :: z :: zs)
        rw [insr_c x z, hx, insr_c y x, insr_c y z, hy]
        cases h : bef y x with
        | true => rw [bef_trans h hx] at hy; cases hy
        | false => rfl
    | false => cases hy : bef y z with
      | true =>
        show insr x (y :: z :: zs) = insr y (z :: insr x zs)
        rw [insr_c y z, hy, insr_c x y, insr_c x z, hx]
        cases h : bef x y with
        | true => rw [bef_trans h hy] at hx; cases hx
        | false => rfl
      | false =>
        show insr x (z :: insr y zs) = insr y (z :: insr x zs)
        rw [insr_c, insr_c, hx, hy, ih]
        rfl
theorem insr_take (x : Int × List Int) : ∀ (l : List (Int × List Int)) (n : Nat), (insr x (l.take n)).take n = (insr x l).take n := by
  intro l
  induction l with
  | nil => intro n; rw [List.take_nil]
  | cons a l ih =>
    intro n
    cases n with
    | zero => rw [List.take_zero, List.take_zero]
    | succ n =>
      rw [List.take_succ_cons, insr_c, insr_c]
      cases h : bef x a with
      | true =>
        show (x :: a :: List.take n l).take (n + 1) = (x :: a :: l).take (n + 1)
        rw [List.take_succ_cons, List.take_succ_cons]
        cases n with
        | zero => rfl
        | succ n => rw [List.take_succ_cons, List.take_succ_cons, List.take_take, Nat.min_eq_left (Nat.le_succ n)]
      | false =>
        show (a :: insr x (List.take n l)).take (n + 1) = (a :: insr x l).take (n + 1)
        rw [List.take_succ_cons, List.take_succ_cons, ih]
def top20 (l : List (Int × List Int)) (x : Int × List Int) : List (Int × List Int) := (insr x l).take 20
theorem top_comm (x y : Int × List Int) (l : List (Int × List Int)) : top20 (top20 l x) y = top20 (top20 l y) x := by
  unfold top20
  rw [insr_take, insr_take, insr_comm]
theorem top_perm {l₁ l₂ : List (Int × List Int)} (h : List.Perm l₁ l₂) (a : List (Int × List Int)) : l₁.foldl top20 a = l₂.foldl top20 a := h.foldl_eq' (fun x _ y _ z => top_comm x y z) a
/-- in order -/
def srt (l : List (Int × List Int)) : Prop := List.Pairwise (fun p q => bef q p = false) l
theorem insr_mem {x z : Int × List Int} : ∀ {l : List (Int × List Int)}, z ∈ insr x l ↔ z = x ∨ z ∈ l := by
  intro l
  induction l with
  | nil => exact List.mem_cons
  | cons y ys ih =>
    rw [insr_c]
    cases bef x y with
    | true => exact List.mem_cons
    | false =>
      show z ∈ y :: insr x ys ↔ _
      rw [List.mem_cons, List.mem_cons, ih]
      constructor
      · rintro (h | h | h)
        · exact Or.inr (Or.inl h)
        · exact Or.inl h
        · exact Or.inr (Or.inr h)
      · rintro (h | h | h)
        · exact Or.inr (Or.inl h)
        · exact Or.inl h
        · exact Or.inr (Or.inr h)
theorem bef_le_trans {p q r : Int × List Int} (h1 : bef q p = false) (h2 : bef r q = false) : bef r p = false := by
  cases h : bef r p with
  | false => rfl
  | true =>
    cases h3 : bef p q with
    | true => rw [bef_trans h h3] at h2; cases h2
    | false => rw [bef_tri h3 h1] at h; rw [h] at h2; cases h2
theorem insr_srt {x : Int × List Int} : ∀ {l : List (Int × List Int)}, srt l → srt (insr x l) := by
  intro l
  induction l with
  | nil => intro _; exact List.pairwise_singleton _ _
  | cons y ys ih =>
    intro h
    obtain ⟨h1, h2⟩ := List.pairwise_cons.mp h
    rw [insr_c]
    cases hb : bef x y with
    | true =>
      show srt (x :: y :: ys)
      refine List.pairwise_cons.mpr ⟨fun z hz => ?_, h⟩
      rcases List.mem_cons.mp hz with rfl | hz
      · exact bef_asym hb
      · exact bef_le_trans (bef_asym hb) (h1 z hz)
    | false =>
      show srt (y :: insr x ys)
      refine List.pairwise_cons.mpr ⟨fun z hz => ?_, ih h2⟩
      rcases insr_mem.mp hz with rfl | hz
      · exact hb
      · exact h1 z hz
