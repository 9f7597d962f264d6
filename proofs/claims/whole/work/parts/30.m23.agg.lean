/-! least and greatest of a list; a list of pairs (early, late) by its number, its least and its greatest -/
def isMin (l : List Int) (v : Int) : Prop := v ∈ l ∧ ∀ x ∈ l, v ≤ x
def isMax (l : List Int) (v : Int) : Prop := v ∈ l ∧ ∀ x ∈ l, x ≤ v
theorem isMin_u {l : List Int} {a b : Int} (h1 : isMin l a) (h2 : isMin l b) : a = b := by
  have := h1.2 b h2.1
  have := h2.2 a h1.1
  omega
theorem isMax_u {l : List Int} {a b : Int} (h1 : isMax l a) (h2 : isMax l b) : a = b := by
  have := h1.2 b h2.1
  have := h2.2 a h1.1
  omega
theorem isMin_mem {l l' : List Int} {a : Int} (h : ∀ x, x ∈ l ↔ x ∈ l') (h1 : isMin l a) : isMin l' a := ⟨(h a).mp h1.1, fun x hx => h1.2 x ((h x).mpr hx)⟩
theorem isMax_mem {l l' : List Int} {a : Int} (h : ∀ x, x ∈ l ↔ x ∈ l') (h1 : isMax l a) : isMax l' a := ⟨(h a).mp h1.1, fun x hx => h1.2 x ((h x).mpr hx)⟩
theorem isMin_app {l l' : List Int} {a b : Int} (h1 : isMin l a) (h2 : isMin l' b) : isMin (l ++ l') (min a b) := by
  constructor
  · rcases Int.le_total a b with h | h
    · rw [Int.min_eq_left h]; exact List.mem_append_left _ h1.1
    · rw [Int.min_eq_right h]; exact List.mem_append_right _ h2.1
  · intro x hx
    rcases List.mem_append.mp hx with h | h
    · have := h1.2 x h; omega
    · have := h2.2 x h; omega
theorem isMax_app {l l' : List Int} {a b : Int} (h1 : isMax l a) (h2 : isMax l' b) : isMax (l ++ l') (max a b) := by
  constructor
  · rcases Int.le_total a b with h | h
    · rw [Int.max_eq_right h]; exact List.mem_append_right _ h2.1
    · rw [Int.max_eq_left h]; exact List.mem_append_left _ h1.1
  · intro x hx
    rcases List.mem_append.mp hx with h | h
    · have := h1.2 x h; omega
    · have := h2.2 x h; omega
theorem isMin_add {l : List Int} {a : Int} (d : Int) (h : isMin l a) : isMin (l.map (fun x => x + d)) (a + d) := by
  constructor
  · exact List.mem_map.mpr ⟨a, h.1, rfl⟩
  · intro x hx
    obtain ⟨y, h1, h2⟩ := List.mem_map.mp hx
    have := h.2 y h1
    omega
theorem isMax_add {l : List Int} {a : Int} (d : Int) (h : isMax l a) : isMax (l.map (fun x => x + d)) (a + d) := by
  constructor
  · exact List.mem_map.mpr ⟨a, h.1, rfl⟩
  · intro x hx
    obtain ⟨y, h1, h2⟩ := List.mem_map.mp hx
    have := h.2 y h1
    omega
theorem isMin_1 (a : Int) : isMin [a] a := ⟨List.mem_singleton.mpr rfl, fun x hx => by rw [List.mem_singleton.mp hx]; exact Int.le_refl _⟩
theorem isMax_1 (a : Int) : isMax [a] a := ⟨List.mem_singleton.mpr rfl, fun x hx => by rw [List.mem_singleton.mp hx]; exact Int.le_refl _⟩
/-- 'c' counts the list up to the cap, e is its least early, t its greatest late -/
def agg (cap : Int) (l : List (Int × Int)) (c e t : Int) : Prop := c = min (l.length : Int) cap ∧ (l ≠ [] → isMin (l.map Prod.fst) e ∧ isMax (l.map Prod.snd) t)
theorem agg_nil {cap : Int} (h : 0 ≤ cap) (e t : Int) : agg cap [] 0 e t := ⟨by show (0 : Int) = min 0 cap; omega, fun q => absurd rfl q⟩
theorem agg_0 {cap : Int} (h : 0 < cap) {l : List (Int × Int)} {c e t : Int} (g : agg cap l c e t) : c = 0 ↔ l = [] := by
  have h1 := g.1
  constructor
  · intro q
    have : l.length = 0 := by omega
    exact List.length_eq_zero_iff.mp this
  · intro q
    rw [q] at h1
    have : ((([] : List (Int × Int)).length : Nat) : Int) = 0 := rfl
    omega
theorem agg_c {cap : Int} (h : 0 ≤ cap) {l : List (Int × Int)} {c e t : Int} (g : agg cap l c e t) : 0 ≤ c ∧ c ≤ cap := by
  have h1 := g.1
  omega
theorem agg_join {cap : Int} (h : 0 < cap) {l l' : List (Int × Int)} {c e t c' e' t' : Int} (g : agg cap l c e t) (g' : agg cap l' c' e' t') (hn : l' ≠ []) :
    agg cap (l ++ l') (min (c + c') cap) (if c = 0 ∨ e' < e then e' else e) (if c = 0 ∨ t < t' then t' else t) := by
  have h1 := g.1
  have h2 := g'.1
  refine ⟨?_, fun _ => ?_⟩
  · rw [List.length_append]
    omega
  · obtain ⟨m', x'⟩ := g'.2 hn
    by_cases h0 : c = 0
    · have hl := (agg_0 h g).mp h0
      rw [if_pos (Or.inl h0), if_pos (Or.inl h0), hl]
      exact ⟨m', x'⟩
    · have hl : l ≠ [] := fun q => h0 ((agg_0 h g).mpr q)
      obtain ⟨m, x⟩ := g.2 hl
      rw [List.map_append, List.map_append]
      have e1 : (if c = 0 ∨ e' < e then e' else e) = min e e' := by
        by_cases q : e' < e
        · rw [if_pos (Or.inr q)]; omega
        · rw [if_neg (fun r => r.elim h0 q)]; omega
      have e2 : (if c = 0 ∨ t < t' then t' else t) = max t t' := by
        by_cases q : t < t'
        · rw [if_pos (Or.inr q)]; omega
        · rw [if_neg (fun r => r.elim h0 q)]; omega
      rw [e1, e2]
      exact ⟨isMin_app m m', isMax_app x x'⟩
def shf (a b : Int) (l : List (Int × Int)) : List (Int × Int) := l.map (fun v => (v.1 + a, v.2 + b))
theorem agg_shf {cap : Int} {l : List (Int × Int)} {c e t : Int} (a b : Int) (g : agg cap l c e t) : agg cap (shf a b l) c (e + a) (t + b) := by
  refine ⟨by rw [shf, List.length_map]; exact g.1, fun hn => ?_⟩
  have hl : l ≠ [] := fun q => hn (by rw [q]; rfl)
  obtain ⟨m, x⟩ := g.2 hl
  have e1 : (shf a b l).map Prod.fst = (l.map Prod.fst).map (fun x => x + a) := by rw [shf, List.map_map, List.map_map]; rfl
  have e2 : (shf a b l).map Prod.snd = (l.map Prod.snd).map (fun x => x + b) := by rw [shf, List.map_map, List.map_map]; rfl
  rw [e1, e2]
  exact ⟨isMin_add a m, isMax_add b x⟩
