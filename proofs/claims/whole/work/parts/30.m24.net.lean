/-! steps of a net, and values that are handed on over them, gate by gate -/
def ltz (sv was is : Int) : Bool := if sv = 2 then true else decide (sv = 1 ↔ was ≠ is)
def pinl (k : Int) : List Int := (List.range k.toNat).map (fun (i : Nat) => (i : Int))
theorem pinl_mem {k p : Int} : p ∈ pinl k ↔ 0 ≤ p ∧ p < k := by
  unfold pinl
  rw [List.mem_map]
  constructor
  · rintro ⟨i, h1, rfl⟩
    have := List.mem_range.mp h1
    omega
  · rintro ⟨h1, h2⟩
    exact ⟨p.toNat, List.mem_range.mpr (by omega), by omega⟩
theorem pinl_nodup (k : Int) : (pinl k).Nodup := by
  unfold pinl
  refine List.pairwise_map.mpr (List.nodup_range.imp ?_)
  intro a b h q
  omega
section NET
variable (kd pn so se wE wL gE gL : Int → Int)
/-- the steps by pin p into the gate n with the change c -/
def insP (n c p : Int) : List (Int × Int) := if so (3 * n + p) < 0 then [] else [0, 1].flatMap (fun was => if ltz (se (3 * n + p)) was c then [(8 * n + 2 * p + c, 2 * so (3 * n + p) + was)] else [])
def insN (s : Int) : List (Int × Int) := if kd (s / 2) = 2 then (pinl (pn (s / 2))).flatMap (fun p => insP so se (s / 2) (s % 2) p) else []
def dE (e : Int) : Int := wE (3 * (e / 8) + e / 2 % 4) + gE (2 * (3 * (e / 8) + e / 2 % 4) + e % 2)
def stV (n p was is : Int) (V : Int → List (Int × Int)) : Int → List (Int × Int) :=
  if so (3 * n + p) < 0 then V else if ltz (se (3 * n + p)) was is then (fun j => if j = 2 * n + is then V j ++ shf (wE (3 * n + p) + gE (2 * (3 * n + p) + is)) (wL (3 * n + p) + gL (2 * (3 * n + p) + is)) (V (2 * so (3 * n + p) + was)) else V j) else V
def pnV (n p : Int) (V : Int → List (Int × Int)) : Int → List (Int × Int) := stV so se wE wL gE gL n p 1 1 (stV so se wE wL gE gL n p 1 0 (stV so se wE wL gE gL n p 0 1 (stV so se wE wL gE gL n p 0 0 V)))
def gtV (n : Int) (V : Int → List (Int × Int)) : Int → List (Int × Int) := (pinl (pn n)).foldl (fun V p => pnV so se wE wL gE gL n p V) V
end NET
section NETP
variable {kd pn so se wE wL gE gL : Int → Int}
theorem insP_mem {n c p : Int} {et : Int × Int} : et ∈ insP so se n c p ↔ ∃ was, (was = 0 ∨ was = 1) ∧ 0 ≤ so (3 * n + p) ∧ ltz (se (3 * n + p)) was c = true ∧ et = (8 * n + 2 * p + c, 2 * so (3 * n + p) + was) := by
  unfold insP
  by_cases h : so (3 * n + p) < 0
  · rw [if_pos h]
    constructor
    · intro q; cases q
    · rintro ⟨was, -, q, -⟩; omega
  · rw [if_neg h, List.mem_flatMap]
    constructor
    · rintro ⟨was, h1, h2⟩
      by_cases q : ltz (se (3 * n + p)) was c = true
      · rw [if_pos q, List.mem_singleton] at h2
        refine ⟨was, ?_, by omega, q, h2⟩
        rcases List.mem_cons.mp h1 with r | r
        · exact Or.inl r
        · exact Or.inr (List.mem_singleton.mp r)
      · rw [if_neg q] at h2; cases h2
    · rintro ⟨was, h1, h2, h3, h4⟩
      refine ⟨was, ?_, ?_⟩
      · rcases h1 with r | r
        · rw [r]; exact List.mem_cons_self
        · rw [r]; exact List.mem_cons_of_mem _ List.mem_cons_self
      · rw [if_pos h3, h4]; exact List.mem_singleton.mpr rfl
theorem insN_mem {s : Int} {et : Int × Int} : et ∈ insN kd pn so se s ↔ kd (s / 2) = 2 ∧ ∃ p was, (0 ≤ p ∧ p < pn (s / 2)) ∧ (was = 0 ∨ was = 1) ∧ 0 ≤ so (3 * (s / 2) + p) ∧ ltz (se (3 * (s / 2) + p)) was (s % 2) = true ∧ et = (8 * (s / 2) + 2 * p + s % 2, 2 * so (3 * (s / 2) + p) + was) := by
  unfold insN
  by_cases h : kd (s / 2) = 2
  · rw [if_pos h, List.mem_flatMap]
    constructor
    · rintro ⟨p, h1, h2⟩
      obtain ⟨was, a, b, c, d⟩ := insP_mem.mp h2
      exact ⟨h, p, was, pinl_mem.mp h1, a, b, c, d⟩
    · rintro ⟨-, p, was, h1, a, b, c, d⟩
      exact ⟨p, pinl_mem.mpr h1, insP_mem.mpr ⟨was, a, b, c, d⟩⟩
  · rw [if_neg h]
    constructor
    · intro q; cases q
    · rintro ⟨q, -⟩; exact absurd q h
/-- a pin, where its source is another node -/
theorem pnV_other {n p : Int} {V : Int → List (Int × Int)} {j : Int} (h : j ≠ 2 * n ∧ j ≠ 2 * n + 1) : pnV so se wE wL gE gL n p V j = V j := by
  have one : ∀ was is (U : Int → List (Int × Int)), (is = 0 ∨ is = 1) → stV so se wE wL gE gL n p was is U j = U j := by
    intro was is U hi
    unfold stV
    by_cases h1 : so (3 * n + p) < 0
    · rw [if_pos h1]
    · rw [if_neg h1]
      by_cases h2 : ltz (se (3 * n + p)) was is = true
      · rw [if_pos h2]
        show (if j = 2 * n + is then _ else _) = _
        rw [if_neg (by omega)]
      · rw [if_neg h2]
  unfold pnV
  rw [one _ _ _ (Or.inr rfl), one _ _ _ (Or.inl rfl), one _ _ _ (Or.inr rfl), one _ _ _ (Or.inl rfl)]
theorem pnV_at {n p c : Int} {V : Int → List (Int × Int)} (hc : c = 0 ∨ c = 1) (hs : so (3 * n + p) ≠ n) (hp : 0 ≤ p ∧ p < 4) :
    pnV so se wE wL gE gL n p V (2 * n + c) = V (2 * n + c) ++ (insP so se n c p).flatMap (fun et => shf (dE wE gE et.1) (dE wL gL et.1) (V et.2)) := by
  have one : ∀ was is (U : Int → List (Int × Int)), (was = 0 ∨ was = 1) → (is = 0 ∨ is = 1) → (∀ x, x = 0 ∨ x = 1 → U (2 * so (3 * n + p) + x) = V (2 * so (3 * n + p) + x)) →
      (∀ x, x = 0 ∨ x = 1 → stV so se wE wL gE gL n p was is U (2 * so (3 * n + p) + x) = V (2 * so (3 * n + p) + x)) ∧
      stV so se wE wL gE gL n p was is U (2 * n + c) = U (2 * n + c) ++ (if so (3 * n + p) < 0 then [] else if ltz (se (3 * n + p)) was is = true ∧ c = is then shf (wE (3 * n + p) + gE (2 * (3 * n + p) + is)) (wL (3 * n + p) + gL (2 * (3 * n + p) + is)) (V (2 * so (3 * n + p) + was)) else []) := by
    intro was is U hw hi hU
    unfold stV
    by_cases h1 : so (3 * n + p) < 0
    · rw [if_pos h1, if_pos h1]
      exact ⟨hU, by rw [List.append_nil]⟩
    · rw [if_neg h1, if_neg h1]
      by_cases h2 : ltz (se (3 * n + p)) was is = true
      · rw [if_pos h2]
        refine ⟨fun x hx => ?_, ?_⟩
        · show (if 2 * so (3 * n + p) + x = 2 * n + is then _ else _) = _
          rw [if_neg (by omega)]
          exact hU x hx
        · show (if 2 * n + c = 2 * n + is then _ else _) = _
          by_cases h3 : c = is
          · rw [if_pos (by omega), if_pos ⟨h2, h3⟩, hU was hw]
          · rw [if_neg (by omega), if_neg (fun q => h3 q.2), List.append_nil]
      · rw [if_neg h2, if_neg (fun q => h2 q.1), List.append_nil]
        exact ⟨hU, rfl⟩
  obtain ⟨a1, b1⟩ := one 0 0 V (Or.inl rfl) (Or.inl rfl) (fun _ _ => rfl)
  obtain ⟨a2, b2⟩ := one 0 1 _ (Or.inl rfl) (Or.inr rfl) a1
  obtain ⟨a3, b3⟩ := one 1 0 _ (Or.inr rfl) (Or.inl rfl) a2
  obtain ⟨a4, b4⟩ := one 1 1 _ (Or.inr rfl) (Or.inr rfl) a3
  unfold pnV
  rw [b4, b3, b2, b1, List.append_assoc, List.append_assoc, List.append_assoc]
  congr 1
  unfold insP
  by_cases h1 : so (3 * n + p) < 0
  · simp only [if_pos h1]
    rfl
  · simp only [if_neg h1]
    have e1 : (8 * n + 2 * p + c) / 8 = n := by omega
    have e2 : (8 * n + 2 * p + c) / 2 % 4 = p := by omega
    have e3 : (8 * n + 2 * p + c) % 2 = c := by omega
    have d1 : dE wE gE (8 * n + 2 * p + c) = wE (3 * n + p) + gE (2 * (3 * n + p) + c) := by unfold dE; rw [e1, e2, e3]
    have d2 : dE wL gL (8 * n + 2 * p + c) = wL (3 * n + p) + gL (2 * (3 * n + p) + c) := by unfold dE; rw [e1, e2, e3]
    have fm : ∀ was, (if ltz (se (3 * n + p)) was c then [(8 * n + 2 * p + c, 2 * so (3 * n + p) + was)] else []).flatMap (fun et => shf (dE wE gE et.1) (dE wL gL et.1) (V et.2)) =
        if ltz (se (3 * n + p)) was c = true then shf (wE (3 * n + p) + gE (2 * (3 * n + p) + c)) (wL (3 * n + p) + gL (2 * (3 * n + p) + c)) (V (2 * so (3 * n + p) + was)) else [] := by
      intro was
      by_cases h2 : ltz (se (3 * n + p)) was c = true
      · rw [if_pos h2, if_pos h2, List.flatMap_cons, List.flatMap_nil, List.append_nil, d1, d2]
      · rw [if_neg h2, if_neg h2, List.flatMap_nil]
    rw [List.flatMap_cons, List.flatMap_cons, List.flatMap_nil, List.append_nil, List.flatMap_append, fm, fm]
    rcases hc with rfl | rfl
    · simp
    · simp
theorem gtV_other {n : Int} {V : Int → List (Int × Int)} {j : Int} (h : j ≠ 2 * n ∧ j ≠ 2 * n + 1) : gtV pn so se wE wL gE gL n V j = V j := by
  have H : ∀ (L : List Int) (V : Int → List (Int × Int)), (L.foldl (fun V p => pnV so se wE wL gE gL n p V) V) j = V j := by
    intro L
    induction L with
    | nil => intro V; rfl
    | cons p L ih => intro V; rw [List.foldl_cons, ih, pnV_other h]
  exact H _ V
theorem gtV_at {n c : Int} {V : Int → List (Int × Int)} (hk : kd n = 2) (hc : c = 0 ∨ c = 1) (hs : ∀ p, 0 ≤ p → p < pn n → so (3 * n + p) ≠ n) (hp : pn n ≤ 4) :
    gtV pn so se wE wL gE gL n V (2 * n + c) = V (2 * n + c) ++ (insN kd pn so se (2 * n + c)).flatMap (fun et => shf (dE wE gE et.1) (dE wL gL et.1) (V et.2)) := by
  have H : ∀ (L : List Int) (U : Int → List (Int × Int)), (∀ p ∈ L, 0 ≤ p ∧ p < pn n) → (∀ j, j ≠ 2 * n ∧ j ≠ 2 * n + 1 → U j = V j) →
      (L.foldl (fun V p => pnV so se wE wL gE gL n p V) U) (2 * n + c) = U (2 * n + c) ++ L.flatMap (fun p => (insP so se n c p).flatMap (fun et => shf (dE wE gE et.1) (dE wL gL et.1) (V et.2))) := by
    intro L
    induction L with
    | nil => intro U _ _; rw [List.foldl_nil, List.flatMap_nil, List.append_nil]
    | cons p L ih =>
      intro U h1 h2
      have hp1 := h1 p List.mem_cons_self
      rw [List.foldl_cons, ih _ (fun q hq => h1 q (List.mem_cons_of_mem _ hq)) (fun j hj => by rw [pnV_other hj]; exact h2 j hj), pnV_at hc (hs p hp1.1 hp1.2) (by omega), List.flatMap_cons, List.append_assoc]
      congr 2
      refine flatMap_cg (fun et he => ?_)
      obtain ⟨was, a, b, -, d⟩ := insP_mem.mp he
      have q := hs p hp1.1 hp1.2
      rw [h2 et.2 (by rw [d]; simp only; omega)]
  have e1 : (2 * n + c) / 2 = n := by omega
  have e2 : (2 * n + c) % 2 = c := by omega
  unfold gtV
  rw [H _ V (fun p hp => pinl_mem.mp hp) (fun _ _ => rfl)]
  unfold insN
  rw [e1, e2, if_pos hk]
  congr 1
  rw [List.flatMap_assoc]
end NETP
/-- values over words -/
def vs (ins : Int → List (Int × Int)) (a b : Int → Int) (I : Int → List (Int × Int)) : Nat → Int → List (Int × Int)
  | 0, _ => []
  | k + 1, s => I s ++ (ins s).flatMap (fun et => shf (a et.1) (b et.1) (vs ins a b I k et.2))
theorem vs_fuel {ins : Int → List (Int × Int)} {a b : Int → Int} {I : Int → List (Int × Int)} {rk : Int → Nat} (hr : ∀ s et, et ∈ ins s → rk et.2 < rk s) : ∀ (k k' : Nat) (s : Int), rk s < k → rk s < k' → vs ins a b I k s = vs ins a b I k' s := by
  intro k
  induction k with
  | zero => intro k' s h; omega
  | succ k ih =>
    intro k' s h h'
    cases k' with
    | zero => omega
    | succ k' =>
      show I s ++ _ = I s ++ _
      congr 1
      refine flatMap_cg (fun et he => ?_)
      have q := hr s et he
      rw [ih k' et.2 (by omega) (by omega)]
theorem vs_rec {ins : Int → List (Int × Int)} {a b : Int → Int} {I : Int → List (Int × Int)} {rk : Int → Nat} (hr : ∀ s et, et ∈ ins s → rk et.2 < rk s) {K : Nat} (hK : ∀ s, rk s < K) (s : Int) :
    vs ins a b I K s = I s ++ (ins s).flatMap (fun et => shf (a et.1) (b et.1) (vs ins a b I K et.2)) :=
  vs_fuel hr K (K + 1) s (hK s) (Nat.lt_succ_of_lt (hK s))
/-- gates in an order in which each stands behind its sources -/
def topo (kd pn so se : Int → Int) : List Int → Prop
  | [] => True
  | n :: r => (kd n = 2 ∧ n ∉ r ∧ (pn n ≤ 4 ∧ ∀ p, 0 ≤ p → p < pn n → so (3 * n + p) ≠ n ∧ so (3 * n + p) ∉ r)) ∧ topo kd pn so se r
theorem fold_ok {kd pn so se wE wL gE gL : Int → Int} {I : Int → List (Int × Int)} {rk : Int → Nat} (hr : ∀ s et, et ∈ insN kd pn so se s → rk et.2 < rk s) {K : Nat} (hK : ∀ s, rk s < K) :
    ∀ (os : List Int) (V : Int → List (Int × Int)), topo kd pn so se os → (∀ s, s / 2 ∉ os → V s = vs (insN kd pn so se) (dE wE gE) (dE wL gL) I K s) → (∀ s, s / 2 ∈ os → V s = I s) →
      ∀ s, (os.foldl (fun V n => gtV pn so se wE wL gE gL n V) V) s = vs (insN kd pn so se) (dE wE gE) (dE wL gL) I K s := by
  intro os
  induction os with
  | nil => intro V _ h _ s; exact h s List.not_mem_nil
  | cons n r ih =>
    intro V ht h1 h2 s
    obtain ⟨⟨hk, hn, hp, hs⟩, ht⟩ := ht
    rw [List.foldl_cons]
    refine ih _ ht (fun s hs' => ?_) (fun s hs' => ?_) s
    · by_cases q : s / 2 = n
      · have e : s = 2 * n + s % 2 := by omega
        have hc : s % 2 = 0 ∨ s % 2 = 1 := by omega
        rw [e, gtV_at hk hc (fun p a b => (hs p a b).1) hp, ← e, h2 s (by rw [q]; exact List.mem_cons_self), vs_rec hr hK s]
        congr 1
        refine flatMap_cg (fun et he => ?_)
        obtain ⟨-, p, was, a, b, c, d, f⟩ := insN_mem.mp he
        rw [q] at a c d f
        have g := hs p a.1 a.2
        have e3 : et.2 / 2 = so (3 * n + p) := by rw [f]; simp only; omega
        rw [h1 et.2 (by rw [e3]; exact fun z => (List.mem_cons.mp z).elim g.1 g.2)]
      · rw [gtV_other (by omega)]
        exact h1 s (fun z => (List.mem_cons.mp z).elim q hs')
    · rw [gtV_other (by have : s / 2 ≠ n := fun z => hn (z ▸ hs')
                        omega)]
      exact h2 s (List.mem_cons_of_mem _ hs')
/-- a sum over a word -/
def sm (a : Int → Int) : List Int → Int
  | [] => 0
  | e :: es => a e + sm a es
theorem shf_shf (a b c d : Int) (l : List (Int × Int)) : shf a b (shf c d l) = shf (a + c) (b + d) l := by
  unfold shf
  rw [List.map_map]
  refine List.map_congr_left (fun v _ => ?_)
  show ((v.1 + c) + a, (v.2 + d) + b) = _
  refine Prod.ext ?_ ?_
  · show v.1 + c + a = v.1 + (a + c); omega
  · show v.2 + d + b = v.2 + (b + d); omega
theorem shf_0 (l : List (Int × Int)) : shf 0 0 l = l := by
  unfold shf
  rw [List.map_congr_left (g := id) (fun v _ => by show (v.1 + 0, v.2 + 0) = v; rw [Int.add_zero, Int.add_zero]), List.map_id]
theorem shf_flat {α : Type} (a b : Int) (f : α → List (Int × Int)) (l : List α) : shf a b (l.flatMap f) = l.flatMap (fun x => shf a b (f x)) := by
  unfold shf
  rw [List.map_flatMap]
theorem vs_bw {ins : Int → List (Int × Int)} {a b : Int → Int} {I : Int → List (Int × Int)} {X : Int → Bool} (hX : ∀ s, X s = true → ins s = []) (hI : ∀ s, X s = false → I s = []) :
    ∀ (k : Nat) (s : Int), vs ins a b I k s = (bw ins X k s).flatMap (fun w => shf (sm a w.2) (sm b w.2) (I w.1)) := by
  intro k
  induction k with
  | zero => intro s; rfl
  | succ k ih =>
    intro s
    rw [bw_s]
    show I s ++ _ = _
    cases h : X s with
    | true =>
      rw [hX s h, List.flatMap_nil, List.append_nil]
      show I s = [(s, [])].flatMap _
      rw [List.flatMap_cons, List.flatMap_nil, List.append_nil]
      exact (shf_0 _).symm
    | false =>
      rw [hI s h, List.nil_append]
      show _ = ((ins s).flatMap _).flatMap _
      rw [List.flatMap_assoc]
      refine flatMap_cg (fun et _ => ?_)
      rw [ih, shf_flat, List.flatMap_map]
      refine flatMap_cg (fun w _ => ?_)
      rw [shf_shf]
      rfl
