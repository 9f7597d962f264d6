/-! the ways of each node, for both; values over words, by what is in them -/
theorem vs_mem {ins : Int → List (Int × Int)} {a b : Int → Int} {I : Int → List (Int × Int)} {rk : Int → Nat} (hr : ∀ s et, et ∈ ins s → rk et.2 < rk s) : ∀ (k : Nat) (s : Int) (v : Int × Int), rk s < k → (v ∈ vs ins a b I k s ↔ ∃ x w v0, isW ins x w s ∧ v0 ∈ I x ∧ v = (v0.1 + sm a w, v0.2 + sm b w)) := by
  intro k
  induction k with
  | zero => intro s v h; omega
  | succ k ih =>
    intro s v h
    show v ∈ I s ++ (ins s).flatMap _ ↔ _
    rw [List.mem_append, List.mem_flatMap]
    constructor
    · rintro (q | ⟨et, e1, e2⟩)
      · refine ⟨s, [], v, rfl, q, ?_⟩
        show v = (v.1 + 0, v.2 + 0)
        rw [Int.add_zero, Int.add_zero]
      · unfold shf at e2
        obtain ⟨u, u1, u2⟩ := List.mem_map.mp e2
        have := hr s et e1
        obtain ⟨x, w, v0, w1, w2, w3⟩ := (ih et.2 u (by omega)).mp u1
        refine ⟨x, et.1 :: w, v0, ⟨et.2, e1, w1⟩, w2, ?_⟩
        rw [← u2, w3]
        show (v0.1 + sm a w + a et.1, v0.2 + sm b w + b et.1) = (v0.1 + (a et.1 + sm a w), v0.2 + (b et.1 + sm b w))
        refine Prod.ext ?_ ?_
        · show v0.1 + sm a w + a et.1 = v0.1 + (a et.1 + sm a w); omega
        · show v0.2 + sm b w + b et.1 = v0.2 + (b et.1 + sm b w); omega
    · rintro ⟨x, w, v0, w1, w2, w3⟩
      cases w with
      | nil =>
        have e : s = x := w1
        subst e
        left
        have : v = v0 := by
          rw [w3]
          show (v0.1 + 0, v0.2 + 0) = v0
          rw [Int.add_zero, Int.add_zero]
        rw [this]; exact w2
      | cons e es =>
        obtain ⟨t, t1, t2⟩ := w1
        right
        have := hr s _ t1
        refine ⟨(e, t), t1, ?_⟩
        unfold shf
        refine List.mem_map.mpr ⟨(v0.1 + sm a es, v0.2 + sm b es), (ih t _ (by simp only at this; omega)).mpr ⟨x, es, v0, t2, w2, rfl⟩, ?_⟩
        rw [w3]
        refine Prod.ext ?_ ?_
        · show v0.1 + sm a es + a e = v0.1 + (a e + sm a es); omega
        · show v0.2 + sm b es + b e = v0.2 + (b e + sm b es); omega
section WYS
variable {kd pn so se wE wL gE gL : Int → Int} {size wid : Int}
/-- the ways of a node -/
def wys (kd pn so se : Int → Int) (n : Int) : List (Option (Int × List Int)) := if kd n = 3 then (if so (3 * n + 1) < 0 then [] else (BW kd pn so se (2 * so (3 * n + 1))).map some) else if kd n = 1 ∨ kd n = 4 then [none] else []
def wbs (wid : Int) : Option (Int × List Int) → Int
  | none => 0
  | some w => if w.1 = 0 then 0 else wid
def wdl (wE gE : Int → Int) (n : Int) : Option (Int × List Int) → Int
  | none => 0
  | some w => wE (3 * n + 1) + sm (dE wE gE) w.2
/-- the class's ways of a node, in the order in which it has them -/
def CO (kd pn so se wE wL gE gL : Int → Int) (wid sz : Int) (Wd : Int → Int × List Int) (c l ba e f : Int → Int) (n : Int) (Os : List (Option (Int × List Int))) : Prop :=
  List.Perm Os (wys kd pn so se n) ∧ c n = (Os.length : Int) ∧ Os.length ≤ 8 ∧ ∀ (i : Nat) (o : Option (Int × List Int)), Os[i]? = some o → isT sz Wd (l (8 * n + i)) o ∧ ba (8 * n + i) = wbs wid o ∧ e (8 * n + i) = wdl wE gE n o ∧ f (8 * n + i) = wdl wL gL n o
theorem CF_ways (hz : 1 ≤ size ∧ size ≤ 48) (hkd : ∀ i, kd i ≠ 0 → 0 < i ∧ i < size) (hk0 : kd 0 = 0) (hs : ∀ i, -1 ≤ so i ∧ so i < size) {os : List Int} (hfu : full kd pn so se os) {sz : Int} {el pa ln ea la fi nx c l ba e f : Int → Int} {Wd : Int → Int × List Int} {Ch : Int → List Int} (hT : TR (dE wE gE) (dE wL gL) sz el pa ln ea la fi nx Wd Ch)
    (hW : ∀ n, 0 ≤ n → n < size → WT c l ba e f n (WL kd so wE wL wid Wd Ch ea la n)) (hP : ∀ n, 0 ≤ n → n < size → kd n = 3 → 0 ≤ so (3 * n + 1) → List.Perm (wds Wd Ch (2 * so (3 * n + 1))) (BW kd pn so se (2 * so (3 * n + 1)))) {n : Int} (hn : 0 ≤ n ∧ n < size) :
    ∃ Os, CO kd pn so se wE wL gE gL wid sz Wd c l ba e f n Os := by
  have h := hW n hn.1 hn.2
  unfold WL at h
  unfold CO wys
  by_cases h3 : kd n = 3
  · rw [if_pos h3] at h ⊢
    by_cases hs1 : so (3 * n + 1) < 0
    · rw [if_pos hs1] at h ⊢
      exact ⟨[], List.Perm.nil, h.1, by decide, fun i o q => by simp at q⟩
    · rw [if_neg hs1] at h ⊢
      have hp := hP n hn.1 hn.2 h3 (by omega)
      have hso := hs (3 * n + 1)
      refine ⟨(Ch (2 * so (3 * n + 1))).map (fun t => some (Wd t)), ?_, ?_, ?_, fun i o q => ?_⟩
      · have := hp.map some
        unfold wds at this
        rw [List.map_map] at this
        exact this
      · rw [List.length_map]
        have := h.1
        rwa [List.length_map] at this
      · rw [List.length_map]
        have := h.2.1
        rwa [List.length_map] at this
      · rw [List.getElem?_map] at q
        cases ht : (Ch (2 * so (3 * n + 1)))[i]? with
        | none => rw [ht] at q; cases q
        | some t =>
          rw [ht] at q
          have ho : some (Wd t) = o := Option.some.inj q
          subst ho
          have hmem := List.mem_of_getElem? ht
          have hr := (hT.2.1 (2 * so (3 * n + 1)) (by omega) (by omega)).2.1 t hmem
          obtain ⟨x1, x2, x3, x4⟩ := h.2.2 i (wy wE wL wid Wd ea la n t) (by rw [List.getElem?_map, ht]; rfl)
          have hnode := hT.1 t hr.1 hr.2
          have h48 := BW_w48 hz.2 hkd hk0 hfu (hp.mem_iff.mp (List.mem_map.mpr ⟨t, hmem, rfl⟩))
          unfold wy at x1 x2 x3 x4
          simp only at x1 x2 x3 x4
          refine ⟨Or.inr ⟨by rw [x1]; exact hr, by rw [x1], by rw [x1]; exact h48⟩, x2, ?_, ?_⟩
          · rw [x3, hnode.2.2.1]
            show _ = wE (3 * n + 1) + sm (dE wE gE) (Wd t).2
            omega
          · rw [x4, hnode.2.2.2.1]
            show _ = wL (3 * n + 1) + sm (dE wL gL) (Wd t).2
            omega
  · rw [if_neg h3] at h ⊢
    by_cases h1 : kd n = 1 ∨ kd n = 4
    · rw [if_pos h1] at h ⊢
      refine ⟨[none], List.Perm.refl _, h.1, by decide, fun i o q => ?_⟩
      cases i with
      | zero =>
        have ho : none = o := by simpa using q
        subst ho
        obtain ⟨x1, x2, x3, x4⟩ := h.2.2 0 (-1, 0, 0, 0) rfl
        exact ⟨Or.inl ⟨x1, rfl⟩, x2, x3, x4⟩
      | succ i => simp at q
    · rw [if_neg h1] at h ⊢
      exact ⟨[], List.Perm.nil, h.1, by decide, fun i o q => by simp at q⟩
end WYS
