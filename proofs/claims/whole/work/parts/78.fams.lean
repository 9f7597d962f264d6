/-! what the reference keeps of arrivals and slacks, as families of least and greatest numbers -/
def AT (m b k : Int) (U : Int → (Int × Int) → Prop) (A0 B0 A B : Int → Int) : Prop :=
  (∀ i, 0 ≤ i → i < 192 → (-2147483648 ≤ A i ∧ A i ≤ 2147483647) ∧ -2147483648 ≤ B i ∧ B i ≤ 2147483647) ∧ (∀ s, s ≠ 4 * m + b → s ≠ 4 * m + 2 + b → A s = A0 s ∧ B s = B0 s) ∧ ∀ c, (c = 0 ∨ c = 1) → (k ≤ c → A (4 * m + 2 * c + b) = A0 (4 * m + 2 * c + b) ∧ B (4 * m + 2 * c + b) = B0 (4 * m + 2 * c + b)) ∧ (c < k → (∀ P, mnN P (A0 (4 * m + 2 * c + b)) → mnN (fun x => P x ∨ ∃ u, U c u ∧ x = u.1) (A (4 * m + 2 * c + b))) ∧ ∀ P, mxN P (B0 (4 * m + 2 * c + b)) → mxN (fun x => P x ∨ ∃ u, U c u ∧ x = u.2) (B (4 * m + 2 * c + b)))
theorem AT_0 {m b : Int} {U : Int → (Int × Int) → Prop} {A B : Int → Int} (h : ∀ i, 0 ≤ i → i < 192 → (-2147483648 ≤ A i ∧ A i ≤ 2147483647) ∧ -2147483648 ≤ B i ∧ B i ≤ 2147483647) : AT m b 0 U A B A B :=
  ⟨h, fun _ _ _ => ⟨rfl, rfl⟩, fun c hc => ⟨fun _ => ⟨rfl, rfl⟩, fun q => by omega⟩⟩
theorem AT_e {m b k : Int} {U : Int → (Int × Int) → Prop} {A0 B0 A B : Int → Int} (h : AT m b k U A0 B0 A B) (he : ∀ u, ¬ U k u) : AT m b (k + 1) U A0 B0 A B := by
  obtain ⟨h1, h2, h3⟩ := h
  refine ⟨h1, h2, fun c hc => ⟨fun q => (h3 c hc).1 (by omega), fun q => ?_⟩⟩
  by_cases e : c = k
  · subst e
    obtain ⟨e1, e2⟩ := (h3 c hc).1 (by omega)
    rw [e1, e2]
    exact ⟨fun P w => mnN_cg (or_no (fun x ⟨u, q1, _⟩ => he u q1)) w, fun P w => mxN_cg (or_no (fun x ⟨u, q1, _⟩ => he u q1)) w⟩
  · exact (h3 c hc).2 (by omega)
theorem AT_s {m b k x y : Int} {U : Int → (Int × Int) → Prop} {A0 B0 A B : Int → Int} (hk : k = 0 ∨ k = 1) (hb : b = 0 ∨ b = 1) (h : AT m b k U A0 B0 A B) (hx : ∃ u, U k u ∧ x = u.1) (hy : ∃ u, U k u ∧ y = u.2) (hl : ∀ u, U k u → x ≤ u.1 ∧ u.2 ≤ y) (rx : -100000000 ≤ x ∧ x ≤ 100000000) (ry : -100000000 ≤ y ∧ y ≤ 100000000) :
    AT m b (k + 1) U A0 B0 (ui A (4 * m + 2 * k + b) (if A (4 * m + 2 * k + b) = -2147483648 ∨ x < A (4 * m + 2 * k + b) then x else A (4 * m + 2 * k + b))) (ui B (4 * m + 2 * k + b) (if B (4 * m + 2 * k + b) < y then y else B (4 * m + 2 * k + b))) := by
  obtain ⟨h1, h2, h3⟩ := h
  refine ⟨fun i i1 i2 => ?_, fun s s1 s2 => ?_, fun c hc => ⟨fun q => ?_, fun q => ?_⟩⟩
  · have r := h1 i i1 i2
    rw [ui_e, ui_e]
    by_cases e : i = 4 * m + 2 * k + b
    · rw [if_pos e, if_pos e, ← e]
      constructor
      · by_cases q : A i = -2147483648 ∨ x < A i
        · rw [if_pos q]; omega
        · rw [if_neg q]; exact r.1
      · by_cases q : B i < y
        · rw [if_pos q]; omega
        · rw [if_neg q]; exact r.2
    · rw [if_neg e, if_neg e]; exact r
  · rw [ui_n (by omega), ui_n (by omega)]; exact h2 s s1 s2
  · rw [ui_n (by omega), ui_n (by omega)]; exact (h3 c hc).1 (by omega)
  · by_cases e : c = k
    · subst e
      obtain ⟨e1, e2⟩ := (h3 c hc).1 (by omega)
      rw [ui_s, ui_s, e1, e2]
      exact ⟨fun P w => mnN_add w hx (fun z ⟨u, q1, q2⟩ => by have := hl u q1; omega) (by omega), fun P w => mxN_add w hy (fun z ⟨u, q1, q2⟩ => by have := hl u q1; omega) (by omega)⟩
    · rw [ui_n (by omega), ui_n (by omega)]; exact (h3 c hc).2 (by omega)
/-- arrivals by node, change and base -/
def FA (U : Int → Int → (Int × Int) → Prop) (b0 v : Int) (PL PG : Int → Int → Int → Int → Prop) (A B : Int → Int) : Prop :=
  (∀ i, 0 ≤ i → i < 192 → (-2147483648 ≤ A i ∧ A i ≤ 2147483647) ∧ -2147483648 ≤ B i ∧ B i ≤ 2147483647) ∧ ∀ m c b, 0 ≤ m → m < 48 → (c = 0 ∨ c = 1) → (b = 0 ∨ b = 1) → mnN (fun x => PL m c b x ∨ (m < v ∧ b = b0 ∧ ∃ u, U m c u ∧ x = u.1)) (A (4 * m + 2 * c + b)) ∧ mxN (fun x => PG m c b x ∨ (m < v ∧ b = b0 ∧ ∃ u, U m c u ∧ x = u.2)) (B (4 * m + 2 * c + b))
theorem FA_skip {U : Int → Int → (Int × Int) → Prop} {b0 v : Int} {PL PG : Int → Int → Int → Int → Prop} {A B : Int → Int} (h : FA U b0 v PL PG A B) (he : ∀ c u, (c = 0 ∨ c = 1) → ¬ U v c u) : FA U b0 (v + 1) PL PG A B := by
  refine ⟨h.1, fun m c b m1 m2 hc hb => ?_⟩
  obtain ⟨g1, g2⟩ := h.2 m c b m1 m2 hc hb
  refine ⟨mnN_cg (fun x => ?_) g1, mxN_cg (fun x => ?_) g2⟩
  · exact ⟨fun w => w.imp id (fun ⟨q1, q2⟩ => ⟨by omega, q2⟩), fun w => w.imp id (fun ⟨q1, q2, u, q3, q4⟩ => ⟨by
      by_cases e : m = v
      · subst e; exact absurd q3 (he c u hc)
      · omega, q2, u, q3, q4⟩)⟩
  · exact ⟨fun w => w.imp id (fun ⟨q1, q2⟩ => ⟨by omega, q2⟩), fun w => w.imp id (fun ⟨q1, q2, u, q3, q4⟩ => ⟨by
      by_cases e : m = v
      · subst e; exact absurd q3 (he c u hc)
      · omega, q2, u, q3, q4⟩)⟩
theorem FA_step {U : Int → Int → (Int × Int) → Prop} {b0 v : Int} {PL PG : Int → Int → Int → Int → Prop} {A B A' B' : Int → Int} (hb0 : b0 = 0 ∨ b0 = 1) (h : FA U b0 v PL PG A B) (g : AT v b0 2 (U v) A B A' B') : FA U b0 (v + 1) PL PG A' B' := by
  obtain ⟨g1, g2, g3⟩ := g
  refine ⟨g1, fun m c b m1 m2 hc hb => ?_⟩
  obtain ⟨f1, f2⟩ := h.2 m c b m1 m2 hc hb
  by_cases e : m = v ∧ b = b0
  · obtain ⟨e1, e2⟩ := e
    subst e1; subst e2
    obtain ⟨t1, t2⟩ := (g3 c hc).2 (by omega)
    refine ⟨mnN_cg (fun x => ?_) (t1 _ f1), mxN_cg (fun x => ?_) (t2 _ f2)⟩
    · exact ⟨fun w => w.elim (fun w' => w'.imp id (fun q => by have := q.1; omega)) (fun w' => Or.inr ⟨by omega, rfl, w'⟩), fun w => w.imp Or.inl (fun q => q.2.2)⟩
    · exact ⟨fun w => w.elim (fun w' => w'.imp id (fun q => by have := q.1; omega)) (fun w' => Or.inr ⟨by omega, rfl, w'⟩), fun w => w.imp Or.inl (fun q => q.2.2)⟩
  · have hne : m ≠ v ∨ b ≠ b0 := by
      by_cases q : m = v
      · exact Or.inr (fun z => e ⟨q, z⟩)
      · exact Or.inl q
    obtain ⟨s1, s2⟩ := g2 (4 * m + 2 * c + b) (by omega) (by omega)
    rw [s1, s2]
    refine ⟨mnN_cg (fun x => ?_) f1, mxN_cg (fun x => ?_) f2⟩
    · exact ⟨fun w => w.imp id (fun q => ⟨by omega, q.2⟩), fun w => w.imp id (fun q => ⟨by have := q.1; have := q.2.1; omega, q.2⟩)⟩
    · exact ⟨fun w => w.imp id (fun q => ⟨by omega, q.2⟩), fun w => w.imp id (fun q => ⟨by have := q.1; have := q.2.1; omega, q.2⟩)⟩
/-- slacks by end, and the worst ones -/
def FS (X0 X1 Xm Xf : Int → Int → Prop) (v : Int) (P0 P1 : Int → Int → Prop) (Pw Po : Int → Prop) (S : Int → Int) (w o : Int) : Prop :=
  ((∀ i, 0 ≤ i → i < 96 → -2147483648 ≤ S i ∧ S i ≤ 2147483647) ∧ (-2147483648 ≤ w ∧ w ≤ 2147483647) ∧ (-2147483648 ≤ o ∧ o ≤ 2147483647)) ∧ (∀ m, 0 ≤ m → m < 48 → mnN (fun x => P0 m x ∨ (m < v ∧ X0 m x)) (S (2 * m)) ∧ mnN (fun x => P1 m x ∨ (m < v ∧ X1 m x)) (S (2 * m + 1))) ∧ mnN (fun x => Pw x ∨ ∃ m, (0 ≤ m ∧ m < v) ∧ Xm m x) w ∧ mnN (fun x => Po x ∨ ∃ m, (0 ≤ m ∧ m < v) ∧ Xf m x) o
theorem FS_step {X0 X1 Xm Xf : Int → Int → Prop} {v : Int} {P0 P1 : Int → Int → Prop} {Pw Po : Int → Prop} {S S' : Int → Int} {w o w' o' : Int} (hv : 0 ≤ v) (h : FS X0 X1 Xm Xf v P0 P1 Pw Po S w o) (g : SL4 v S w o (X0 v) (X1 v) (Xm v) (Xf v) S' w' o') : FS X0 X1 Xm Xf (v + 1) P0 P1 Pw Po S' w' o' := by
  obtain ⟨⟨a1, a2⟩, a3, a4, a5, a6⟩ := g
  obtain ⟨h1, h2, h3, h4⟩ := h
  have hex : ∀ (P : Int → Prop) (X : Int → Int → Prop) x, ((P x ∨ ∃ m, (0 ≤ m ∧ m < v) ∧ X m x) ∨ X v x) ↔ (P x ∨ ∃ m, (0 ≤ m ∧ m < v + 1) ∧ X m x) := by
    intro P X x
    constructor
    · rintro ((q | ⟨m, q1, q2⟩) | q)
      · exact Or.inl q
      · exact Or.inr ⟨m, by omega, q2⟩
      · exact Or.inr ⟨v, by omega, q⟩
    · rintro (q | ⟨m, q1, q2⟩)
      · exact Or.inl (Or.inl q)
      · by_cases e : m = v
        · subst e; exact Or.inr q2
        · exact Or.inl (Or.inr ⟨m, by omega, q2⟩)
  refine ⟨a2, fun m m1 m2 => ?_, mnN_cg (hex Pw Xm) (a5 _ h3), mnN_cg (hex Po Xf) (a6 _ h4)⟩
  obtain ⟨k1, k2⟩ := h2 m m1 m2
  by_cases e : m = v
  · subst e
    refine ⟨mnN_cg (fun x => ?_) (a3 _ k1), mnN_cg (fun x => ?_) (a4 _ k2)⟩
    · exact ⟨fun w => w.elim (fun w' => w'.imp id (fun q => by have := q.1; omega)) (fun w' => Or.inr ⟨by omega, w'⟩), fun w => w.imp Or.inl (fun q => q.2)⟩
    · exact ⟨fun w => w.elim (fun w' => w'.imp id (fun q => by have := q.1; omega)) (fun w' => Or.inr ⟨by omega, w'⟩), fun w => w.imp Or.inl (fun q => q.2)⟩
  · rw [a1 (2 * m) (by omega) (by omega), a1 (2 * m + 1) (by omega) (by omega)]
    refine ⟨mnN_cg (fun x => ?_) k1, mnN_cg (fun x => ?_) k2⟩
    · exact ⟨fun w => w.imp id (fun q => ⟨by omega, q.2⟩), fun w => w.imp id (fun q => ⟨by have := q.1; omega, q.2⟩)⟩
    · exact ⟨fun w => w.imp id (fun q => ⟨by omega, q.2⟩), fun w => w.imp id (fun q => ⟨by have := q.1; omega, q.2⟩)⟩
theorem FS_skip {X0 X1 Xm Xf : Int → Int → Prop} {v : Int} {P0 P1 : Int → Int → Prop} {Pw Po : Int → Prop} {S : Int → Int} {w o : Int} (hv : 0 ≤ v) (h : FS X0 X1 Xm Xf v P0 P1 Pw Po S w o) (h0 : ∀ x, ¬ X0 v x) (h1 : ∀ x, ¬ X1 v x) (h2 : ∀ x, ¬ Xm v x) (h3 : ∀ x, ¬ Xf v x) : FS X0 X1 Xm Xf (v + 1) P0 P1 Pw Po S w o :=
  FS_step hv h (SL4_0 h.1 h0 h1 h2 h3)
