/-! ways over steps: 'ins s' lists the steps into the state s as (element, state from which); words are written with the last element first -/
def bw (ins : Int → List (Int × Int)) (X : Int → Bool) : Nat → Int → List (Int × List Int)
  | 0, _ => []
  | k + 1, s => if X s then [(s, [])] else (ins s).flatMap (fun et => (bw ins X k et.2).map (fun w => (w.1, et.1 :: w.2)))
theorem bw_s (ins : Int → List (Int × Int)) (X : Int → Bool) (k : Nat) (s : Int) : bw ins X (k + 1) s = if X s then [(s, [])] else (ins s).flatMap (fun et => (bw ins X k et.2).map (fun w => (w.1, et.1 :: w.2))) := rfl
theorem flatMap_cg {α β : Type} {l : List α} {f g : α → List β} (h : ∀ x ∈ l, f x = g x) : l.flatMap f = l.flatMap g := by
  induction l with
  | nil => rfl
  | cons x xs ih => rw [List.flatMap_cons, List.flatMap_cons, h x List.mem_cons_self, ih (fun y hy => h y (List.mem_cons_of_mem _ hy))]
theorem bw_fuel {ins : Int → List (Int × Int)} {X : Int → Bool} {rk : Int → Nat} (hr : ∀ s et, et ∈ ins s → rk et.2 < rk s) : ∀ (k k' : Nat) (s : Int), rk s < k → rk s < k' → bw ins X k s = bw ins X k' s := by
  intro k
  induction k with
  | zero => intro k' s h; omega
  | succ k ih =>
    intro k' s h h'
    cases k' with
    | zero => omega
    | succ k' =>
      rw [bw_s, bw_s]
      by_cases hX : X s = true
      · rw [if_pos hX, if_pos hX]
      · rw [if_neg hX, if_neg hX]
        refine flatMap_cg (fun et he => ?_)
        have q := hr s et he
        rw [ih k' et.2 (by omega) (by omega)]
theorem bw_rec {ins : Int → List (Int × Int)} {X : Int → Bool} {rk : Int → Nat} (hr : ∀ s et, et ∈ ins s → rk et.2 < rk s) {K : Nat} (hK : ∀ s, rk s < K) (s : Int) :
    bw ins X K s = if X s then [(s, [])] else (ins s).flatMap (fun et => (bw ins X K et.2).map (fun w => (w.1, et.1 :: w.2))) := by
  have h := bw_fuel (X := X) hr K (K + 1) s (hK s) (Nat.lt_succ_of_lt (hK s))
  rw [bw_s] at h
  exact h
/-- a word (last element first) from the state x to a state -/
def isW (ins : Int → List (Int × Int)) (x : Int) : List Int → Int → Prop
  | [], s => s = x
  | e :: es, s => ∃ t, (e, t) ∈ ins s ∧ isW ins x es t
theorem bw_mem {ins : Int → List (Int × Int)} {X : Int → Bool} {rk : Int → Nat} (hr : ∀ s et, et ∈ ins s → rk et.2 < rk s) (hX : ∀ s, X s = true → ins s = []) :
    ∀ (k : Nat) (s : Int) (x : Int) (w : List Int), rk s < k → ((x, w) ∈ bw ins X k s ↔ X x = true ∧ isW ins x w s) := by
  intro k
  induction k with
  | zero => intro s x w h; omega
  | succ k ih =>
    intro s x w h
    rw [bw_s]
    by_cases hs : X s = true
    · rw [if_pos hs]
      constructor
      · intro q
        rw [List.mem_singleton] at q
        injection q with q1 q2
        subst q1; subst q2
        exact ⟨hs, rfl⟩
      · rintro ⟨q1, q2⟩
        cases w with
        | nil => have q3 : s = x := q2; subst q3; exact List.mem_singleton.mpr rfl
        | cons e es => obtain ⟨t, q3, -⟩ := q2; rw [hX s hs] at q3; cases q3
    · rw [if_neg hs]
      constructor
      · intro q
        obtain ⟨et, h1, h2⟩ := List.mem_flatMap.mp q
        obtain ⟨v, h3, h4⟩ := List.mem_map.mp h2
        injection h4 with h5 h6
        subst h5; subst h6
        obtain ⟨h7, h8⟩ := (ih et.2 v.1 v.2 (by have := hr s et h1; omega)).mp h3
        exact ⟨h7, et.2, h1, h8⟩
      · rintro ⟨q1, q2⟩
        cases w with
        | nil => have q3 : s = x := q2; subst q3; exact absurd q1 hs
        | cons e es =>
          obtain ⟨t, h1, h2⟩ := q2
          refine List.mem_flatMap.mpr ⟨(e, t), h1, List.mem_map.mpr ⟨(x, es), ?_, rfl⟩⟩
          exact (ih t x es (by have := hr s (e, t) h1; exact Nat.lt_of_lt_of_le this (Nat.le_of_lt_succ h))).mpr ⟨q1, h2⟩
theorem isW_det {ins : Int → List (Int × Int)} {est : Int → Int} (hE : ∀ s et, et ∈ ins s → est et.1 = s) {x : Int} {w : List Int} {s t : Int} (h1 : isW ins x w s) (h2 : isW ins x w t) : s = t := by
  cases w with
  | nil => exact Eq.trans h1 (Eq.symm h2)
  | cons e es =>
    obtain ⟨a, q1, -⟩ := h1
    obtain ⟨b, q2, -⟩ := h2
    rw [← hE s _ q1, ← hE t _ q2]
theorem bw_nodup {ins : Int → List (Int × Int)} {X : Int → Bool} {rk : Int → Nat} {est : Int → Int} (hr : ∀ s et, et ∈ ins s → rk et.2 < rk s) (hX : ∀ s, X s = true → ins s = []) (hE : ∀ s et, et ∈ ins s → est et.1 = s) (hN : ∀ s, (ins s).Nodup) :
    ∀ (k : Nat) (s : Int), rk s < k → (bw ins X k s).Nodup := by
  intro k
  induction k with
  | zero => intro s h; omega
  | succ k ih =>
    intro s h
    rw [bw_s]
    by_cases hs : X s = true
    · rw [if_pos hs]; exact List.nodup_cons.mpr ⟨List.not_mem_nil, List.nodup_nil⟩
    · rw [if_neg hs]
      refine List.pairwise_flatMap.mpr ⟨fun et he => ?_, ?_⟩
      · refine List.pairwise_map.mpr ((ih et.2 (by have := hr s et he; omega)).imp ?_)
        intro a b hab q
        injection q with q1 q2
        injection q2 with q3 q4
        exact hab (Prod.ext q1 q4)
      · refine List.Pairwise.imp_of_mem ?_ (hN s)
        intro a b ha hb hab u hu v hv q
        obtain ⟨u', hu1, hu2⟩ := List.mem_map.mp hu
        obtain ⟨v', hv1, hv2⟩ := List.mem_map.mp hv
        rw [← hu2, ← hv2] at q
        injection q with q1 q2
        injection q2 with q3 q4
        have r1 := ((bw_mem (X := X) hr hX k a.2 u'.1 u'.2 (by have := hr s a ha; omega)).mp hu1).2
        have r2 := ((bw_mem (X := X) hr hX k b.2 v'.1 v'.2 (by have := hr s b hb; omega)).mp hv1).2
        rw [← q1, ← q4] at r2
        exact hab (Prod.ext q3 (isW_det hE r1 r2))
/-- a word with the first element first -/
def isF (ins : Int → List (Int × Int)) : Int → List Int → Int → Prop
  | x, [], s => s = x
  | x, e :: es, s => ∃ y, (e, x) ∈ ins y ∧ isF ins y es s
theorem isW_snoc {ins : Int → List (Int × Int)} {x : Int} {e : Int} : ∀ {w : List Int} {s : Int}, isW ins x (w ++ [e]) s ↔ ∃ y, (e, x) ∈ ins y ∧ isW ins y w s := by
  intro w
  induction w with
  | nil =>
    intro s
    constructor
    · rintro ⟨t, h1, h2⟩
      have h3 : t = x := h2
      subst h3
      exact ⟨s, h1, rfl⟩
    · rintro ⟨y, h1, h2⟩
      have h3 : s = y := h2
      subst h3
      exact ⟨x, h1, rfl⟩
  | cons a w ih =>
    intro s
    constructor
    · rintro ⟨t, h1, h2⟩
      obtain ⟨y, h3, h4⟩ := ih.mp h2
      exact ⟨y, h3, t, h1, h4⟩
    · rintro ⟨y, h3, t, h1, h4⟩
      exact ⟨t, h1, ih.mpr ⟨y, h3, h4⟩⟩
theorem isF_iff {ins : Int → List (Int × Int)} : ∀ {w : List Int} {x s : Int}, isF ins x w s ↔ isW ins x w.reverse s := by
  intro w
  induction w with
  | nil => intro x s; exact Iff.rfl
  | cons e es ih =>
    intro x s
    rw [List.reverse_cons, isW_snoc]
    constructor
    · rintro ⟨y, h1, h2⟩; exact ⟨y, h1, ih.mp h2⟩
    · rintro ⟨y, h1, h2⟩; exact ⟨y, h1, ih.mpr h2⟩
/-- reports of a search forward: 'its s' lists what hangs at the state s: steps (element, state to which), or ends -/
def rp {ε : Type} (its : Int → List ((Int × Int) ⊕ ε)) : Nat → Int → List (List Int × ε)
  | 0, _ => []
  | k + 1, x => (its x).flatMap (fun i => match i with
    | .inl ey => (rp its k ey.2).map (fun w => (ey.1 :: w.1, w.2))
    | .inr n => [([], n)])
theorem rp_mem {ε : Type} {ins : Int → List (Int × Int)} {its : Int → List ((Int × Int) ⊕ ε)} {rk : Int → Nat} {K : Nat} (hr : ∀ s et, et ∈ ins s → rk et.2 < rk s) (hK : ∀ s, rk s ≤ K) (hI : ∀ x e y, Sum.inl (e, y) ∈ its x ↔ (e, x) ∈ ins y) :
    ∀ (k : Nat) (x : Int) (w : List Int) (n : ε), K - rk x < k → ((w, n) ∈ rp its k x ↔ ∃ s, isF ins x w s ∧ Sum.inr n ∈ its s) := by
  intro k
  induction k with
  | zero => intro x w n h; omega
  | succ k ih =>
    intro x w n h
    show (w, n) ∈ (its x).flatMap _ ↔ _
    rw [List.mem_flatMap]
    constructor
    · rintro ⟨i, h1, h2⟩
      cases i with
      | inl ey =>
        obtain ⟨v, h3, h4⟩ := List.mem_map.mp h2
        injection h4 with h5 h6
        subst h5; subst h6
        have h7 := (hI x ey.1 ey.2).mp h1
        have h8 := hr _ _ h7
        have h9 := hK ey.2
        obtain ⟨s, q1, q2⟩ := (ih ey.2 v.1 v.2 (by simp only at h8; omega)).mp h3
        exact ⟨s, ⟨ey.2, h7, q1⟩, q2⟩
      | inr m =>
        have h3 := List.mem_singleton.mp h2
        injection h3 with h4 h5
        subst h4; subst h5
        exact ⟨x, rfl, h1⟩
    · rintro ⟨s, h1, h2⟩
      cases w with
      | nil =>
        have h3 : s = x := h1
        subst h3
        exact ⟨Sum.inr n, h2, List.mem_singleton.mpr rfl⟩
      | cons e es =>
        obtain ⟨y, h3, h4⟩ := h1
        have h8 := hr _ _ h3
        have h9 := hK y
        refine ⟨Sum.inl (e, y), (hI x e y).mpr h3, List.mem_map.mpr ⟨(es, n), (ih y es n (by simp only at h8; omega)).mpr ⟨s, h4, h2⟩, rfl⟩⟩
theorem rp_nodup {ε : Type} {ins : Int → List (Int × Int)} {its : Int → List ((Int × Int) ⊕ ε)} {rk : Int → Nat} {est : Int → Int} {K : Nat} (hr : ∀ s et, et ∈ ins s → rk et.2 < rk s) (hK : ∀ s, rk s ≤ K) (hI : ∀ x e y, Sum.inl (e, y) ∈ its x ↔ (e, x) ∈ ins y) (hE : ∀ s et, et ∈ ins s → est et.1 = s) (hN : ∀ s, (its s).Nodup) :
    ∀ (k : Nat) (x : Int), K - rk x < k → (rp its k x).Nodup := by
  intro k
  induction k with
  | zero => intro x h; omega
  | succ k ih =>
    intro x h
    show ((its x).flatMap _).Nodup
    refine List.pairwise_flatMap.mpr ⟨fun i hi => ?_, ?_⟩
    · cases i with
      | inl ey =>
        have h8 := hr _ _ ((hI x ey.1 ey.2).mp hi)
        have h9 := hK ey.2
        refine List.pairwise_map.mpr ((ih ey.2 (by simp only at h8; omega)).imp ?_)
        intro a b hab q
        injection q with q1 q2
        injection q1 with q3 q4
        exact hab (Prod.ext q4 q2)
      | inr m => exact List.nodup_cons.mpr ⟨List.not_mem_nil, List.nodup_nil⟩
    · refine List.Pairwise.imp_of_mem ?_ (hN x)
      intro a b ha hb hab u hu v hv q
      subst q
      cases a with
      | inl ey =>
        obtain ⟨u', hu1, hu2⟩ := List.mem_map.mp hu
        cases b with
        | inl fz =>
          obtain ⟨v', hv1, hv2⟩ := List.mem_map.mp hv
          rw [← hu2] at hv2
          injection hv2 with q1 q2
          injection q1 with q3 q4
          have r1 := hE _ _ ((hI x ey.1 ey.2).mp ha)
          have r2 := hE _ _ ((hI x fz.1 fz.2).mp hb)
          simp only at r1 r2
          rw [← q3] at r1
          exact hab (by rw [show ey = fz from Prod.ext q3.symm (by rw [← r1, ← r2])])
        | inr m =>
          have h3 := List.mem_singleton.mp hv
          rw [← hu2] at h3
          injection h3 with h4 h5
          cases h4
      | inr m =>
        have h3 := List.mem_singleton.mp hu
        cases b with
        | inl fz =>
          obtain ⟨v', hv1, hv2⟩ := List.mem_map.mp hv
          rw [h3] at hv2
          injection hv2 with h4 h5
          cases h4
        | inr m' =>
          have h4 := List.mem_singleton.mp hv
          rw [h3] at h4
          injection h4 with h5 h6
          exact hab (by rw [h6])
/-- both searches find the same -/
theorem bw_rp {ε : Type} {ins : Int → List (Int × Int)} {its : Int → List ((Int × Int) ⊕ ε)} {rk : Int → Nat} {est : Int → Int} {K : Nat} (hr : ∀ s et, et ∈ ins s → rk et.2 < rk s) (hK : ∀ s, rk s ≤ K) (hI : ∀ x e y, Sum.inl (e, y) ∈ its x ↔ (e, x) ∈ ins y) (hE : ∀ s et, et ∈ ins s → est et.1 = s) (hN : ∀ s, (ins s).Nodup) (hN2 : ∀ s, (its s).Nodup)
    {en : List ε} {σ : ε → Int} (hn : en.Nodup) (hen : ∀ s n, Sum.inr n ∈ its s ↔ n ∈ en ∧ σ n = s) {x : Int} (hx : ins x = []) :
    List.Perm (en.flatMap (fun n => (bw ins (fun y => decide (y = x)) (K + 1) (σ n)).map (fun w => (w.2.reverse, n)))) (rp its (K + 1) x) := by
  have hX : ∀ s, decide (s = x) = true → ins s = [] := fun s q => by rw [of_decide_eq_true q]; exact hx
  refine (List.perm_ext_iff_of_nodup ?_ (rp_nodup hr hK hI hE hN2 (K + 1) x (by omega))).mpr (fun u => ?_)
  · refine List.pairwise_flatMap.mpr ⟨fun n hn => ?_, ?_⟩
    · refine List.pairwise_map.mpr (List.Pairwise.imp_of_mem ?_ (bw_nodup hr hX hE hN (K + 1) (σ n) (by have := hK (σ n); omega)))
      intro a b ha hb hab q
      injection q with q1 q2
      have r1 := ((bw_mem (X := fun y => decide (y = x)) hr hX (K + 1) (σ n) a.1 a.2 (by have := hK (σ n); omega)).mp ha).1
      have r2 := ((bw_mem (X := fun y => decide (y = x)) hr hX (K + 1) (σ n) b.1 b.2 (by have := hK (σ n); omega)).mp hb).1
      exact hab (Prod.ext ((of_decide_eq_true r1).trans (of_decide_eq_true r2).symm) (List.reverse_inj.mp q1))
    · refine List.Pairwise.imp ?_ hn
      intro a b hab u hu v hv q
      obtain ⟨u', hu1, hu2⟩ := List.mem_map.mp hu
      obtain ⟨v', hv1, hv2⟩ := List.mem_map.mp hv
      rw [← hu2, ← hv2] at q
      injection q with q1 q2
      exact hab q2
  · obtain ⟨w, n⟩ := u
    rw [rp_mem hr hK hI (K + 1) x w n (by omega), List.mem_flatMap]
    constructor
    · rintro ⟨n', h1, h2⟩
      obtain ⟨v, h3, h4⟩ := List.mem_map.mp h2
      injection h4 with h5 h6
      subst h6
      obtain ⟨h7, h8⟩ := (bw_mem (X := fun y => decide (y = x)) hr hX (K + 1) (σ n') v.1 v.2 (by have := hK (σ n'); omega)).mp h3
      rw [of_decide_eq_true h7] at h8
      refine ⟨σ n', ?_, (hen _ _).mpr ⟨h1, rfl⟩⟩
      rw [isF_iff, ← h5, List.reverse_reverse]
      exact h8
    · rintro ⟨s, h1, h2⟩
      obtain ⟨h3, h4⟩ := (hen s n).mp h2
      subst h4
      refine ⟨n, h3, List.mem_map.mpr ⟨(x, w.reverse), ?_, by rw [List.reverse_reverse]⟩⟩
      exact (bw_mem (X := fun y => decide (y = x)) hr hX (K + 1) (σ n) x w.reverse (by have := hK (σ n); omega)).mpr ⟨decide_eq_true rfl, isF_iff.mp h1⟩
