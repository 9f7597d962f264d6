/-! which nodes lead to which: a closure made node by node, and a search -/
/-- leads within k: over nodes below k -/
def wl (E : Int → Int → Prop) : Nat → Int → Int → Prop
  | 0, n, m => E n m
  | k + 1, n, m => wl E k n m ∨ (wl E k n k ∧ wl E k k m)
theorem wl_tr (E : Int → Int → Prop) : ∀ (k : Nat) (n j m : Int), 0 ≤ j → j < k → wl E k n j → wl E k j m → wl E k n m := by
  intro k
  induction k with
  | zero => intro n j m h0 h; omega
  | succ k ih =>
    intro n j m h0 h h1 h2
    by_cases hj : j = (k : Int)
    · subst hj
      have g1 : wl E k n k := h1.elim id (fun q => q.1)
      have g2 : wl E k k m := h2.elim id (fun q => q.2)
      exact Or.inr ⟨g1, g2⟩
    · have hj' : j < (k : Int) := by omega
      rcases h1 with a | ⟨a, b⟩
      · rcases h2 with c | ⟨c, d⟩
        · exact Or.inl (ih n j m h0 hj' a c)
        · exact Or.inr ⟨ih n j k h0 hj' a c, d⟩
      · rcases h2 with c | ⟨c, d⟩
        · exact Or.inr ⟨a, ih k j m h0 hj' b c⟩
        · exact Or.inr ⟨a, d⟩
theorem wl_up (E : Int → Int → Prop) : ∀ (k : Nat) (n m : Int), E n m → wl E k n m := by
  intro k
  induction k with
  | zero => intro n m h; exact h
  | succ k ih => intro n m h; exact Or.inl (ih n m h)
/-- any relation that holds the steps and is transitive holds what the closure has -/
theorem wl_le (E : Int → Int → Prop) (R : Int → Int → Prop) (h1 : ∀ n m, E n m → R n m) (h2 : ∀ n j m, R n j → R j m → R n m) : ∀ (k : Nat) (n m : Int), wl E k n m → R n m := by
  intro k
  induction k with
  | zero => exact h1
  | succ k ih =>
    intro n m h
    rcases h with h | ⟨a, b⟩
    · exact ih n m h
    · exact h2 n k m (ih n k a) (ih k m b)
/-- a path of steps, as a list of the nodes behind the first -/
def stp (E : Int → Int → Prop) : Int → List Int → Int → Prop
  | a, [], b => a = b
  | a, x :: xs, b => E x a ∧ stp E x xs b
/-- a set that holds g, is closed under steps, and from which no step comes back to g: g leads not to itself -/
theorem wl_round {E : Int → Int → Prop} {S : Int → Prop} {g : Int} (h0 : S g) (h1 : ∀ n m, E n m → S m → S n ∧ n ≠ g) (k : Nat) : ¬ wl E k g g := by
  have H : ∀ (k : Nat) (n m : Int), wl E k n m → S m → S n ∧ n ≠ g := by
    intro k
    induction k with
    | zero => exact h1
    | succ k ih =>
      intro n m h hm
      rcases h with h | ⟨a, b⟩
      · exact ih n m h hm
      · exact ih n k a (ih k m b hm).1
  intro h
  exact (H k g g h h0).2 rfl
theorem wl_in {E : Int → Int → Prop} {N : Nat} (hE : ∀ n m, E n m → (0 ≤ n ∧ n < N) ∧ 0 ≤ m ∧ m < N) : ∀ (k : Nat) (n m : Int), wl E k n m → (0 ≤ n ∧ n < N) ∧ 0 ≤ m ∧ m < N := by
  intro k
  induction k with
  | zero => exact hE
  | succ k ih =>
    intro n m h
    rcases h with h | ⟨a, b⟩
    · exact ih n m h
    · exact ⟨(ih n k a).1, (ih k m b).2⟩
theorem wl_trans {E : Int → Int → Prop} {N : Nat} (hE : ∀ n m, E n m → (0 ≤ n ∧ n < N) ∧ 0 ≤ m ∧ m < N) {n j m : Int} (h1 : wl E N n j) (h2 : wl E N j m) : wl E N n m := by
  have h := wl_in hE N n j h1
  exact wl_tr E N n j m h.2.1 h.2.2 h1 h2
/-- what a search from g has come to leads to it from g -/
theorem wl_found {E : Int → Int → Prop} {N : Nat} (hE : ∀ n m, E n m → (0 ≤ n ∧ n < N) ∧ 0 ≤ m ∧ m < N) {g n m : Int} (h : m = g ∨ wl E N m g) (e : E n m) : wl E N n g := by
  rcases h with rfl | h
  · exact wl_up E N n m e
  · exact wl_trans hE (wl_up E N n m e) h
