/-! the reference's search forward: what hangs at a state -/
theorem rp_fuel {ε : Type} {ins : Int → List (Int × Int)} {its : Int → List ((Int × Int) ⊕ ε)} {rk : Int → Nat} {K : Nat} (hr : ∀ s et, et ∈ ins s → rk et.2 < rk s) (hK : ∀ s, rk s ≤ K) (hI : ∀ x e y, Sum.inl (e, y) ∈ its x ↔ (e, x) ∈ ins y) : ∀ (k k' : Nat) (x : Int), K - rk x < k → K - rk x < k' → rp its k x = rp its k' x := by
  intro k
  induction k with
  | zero => intro k' x h; omega
  | succ k ih =>
    intro k' x h h'
    cases k' with
    | zero => omega
    | succ k' =>
      show (its x).flatMap _ = (its x).flatMap _
      refine flatMap_cg (fun i hi => ?_)
      cases i with
      | inl ey =>
        have h1 := hr ey.2 (ey.1, x) ((hI x ey.1 ey.2).mp hi)
        have h2 := hK ey.2
        show (rp its k ey.2).map _ = (rp its k' ey.2).map _
        rw [ih k' ey.2 (by simp only at h1; omega) (by simp only at h1; omega)]
      | inr n => rfl
/-- what an item reports, behind a prefix -/
def exI {ε : Type} (its : Int → List ((Int × Int) ⊕ ε)) (pre : List Int) : (Int × Int) ⊕ ε → List (List Int × ε)
  | .inl ey => (rp its 49 ey.2).map (fun w => (pre ++ ey.1 :: w.1, w.2))
  | .inr n => [(pre, n)]
theorem ex_full {ε : Type} {ins : Int → List (Int × Int)} {its : Int → List ((Int × Int) ⊕ ε)} {rk : Int → Nat} (hr : ∀ s et, et ∈ ins s → rk et.2 < rk s) (hK : ∀ s, rk s < 49) (hI : ∀ x e y, Sum.inl (e, y) ∈ its x ↔ (e, x) ∈ ins y) (pre : List Int) (x : Int) : (its x).flatMap (exI its pre) = (rp its 49 x).map (fun w => (pre ++ w.1, w.2)) := by
  have hK' : ∀ s, rk s ≤ 48 := fun s => by have := hK s; omega
  have e : rp its 49 x = rp its 50 x := rp_fuel hr hK' hI 49 50 x (by omega) (by omega)
  rw [e]
  show _ = ((its x).flatMap _).map _
  rw [List.map_flatMap]
  refine flatMap_cg (fun i _ => ?_)
  cases i with
  | inl ey =>
    show (rp its 49 ey.2).map _ = ((rp its 49 ey.2).map _).map _
    rw [List.map_map]
    rfl
  | inr n =>
    show [(pre, n)] = [(pre ++ [], n)]
    rw [List.append_nil]
section ITS
variable {kd pn so se : Int → Int} {size : Int}
def itK (kd pn so se : Int → Int) (x k : Int) : List ((Int × Int) ⊕ (Int × Int)) := if k / 2 % 3 < pn (k / 6) ∧ 0 ≤ so (3 * (k / 6) + k / 2 % 3) ∧ so (3 * (k / 6) + k / 2 % 3) = x / 2 then (if kd (k / 6) = 2 then (if ltz (se (3 * (k / 6) + k / 2 % 3)) (x % 2) (k % 2) = true then [Sum.inl (8 * (k / 6) + 2 * (k / 2 % 3) + k % 2, 2 * (k / 6) + k % 2)] else []) else (if k / 2 % 3 = 0 ∧ k % 2 = x % 2 then [Sum.inr (k / 6, k % 2)] else [])) else []
def itF (kd pn so se : Int → Int) (size x k : Int) : List ((Int × Int) ⊕ (Int × Int)) := ((pinl (6 * size)).drop k.toNat).flatMap (itK kd pn so se x)
def itA (kd pn so se : Int → Int) (size x : Int) : List ((Int × Int) ⊕ (Int × Int)) := (pinl (6 * size)).flatMap (itK kd pn so se x)
theorem itF_0 (x : Int) : itF kd pn so se size x 0 = itA kd pn so se size x := rfl
theorem itF_e {x k : Int} (h : 6 * size ≤ k) : itF kd pn so se size x k = [] := by
  unfold itF
  rw [List.drop_eq_nil_of_le (by rw [pinl_len]; omega)]
  rfl
theorem itF_s {x k : Int} (h0 : 0 ≤ k) (h : k < 6 * size) : itF kd pn so se size x k = itK kd pn so se x k ++ itF kd pn so se size x (k + 1) := by
  unfold itF
  have hl : k.toNat < (pinl (6 * size)).length := by rw [pinl_len]; omega
  have hg := pinl_get (n := 6 * size) (k := k.toNat) (by omega)
  rw [List.getElem?_eq_getElem hl] at hg
  rw [List.drop_eq_getElem_cons hl, Option.some.inj hg, List.flatMap_cons, show (k + 1).toNat = k.toNat + 1 by omega, show ((k.toNat : Nat) : Int) = k by omega]
theorem itK_inl {x k : Int} {ey : Int × Int} (h : Sum.inl ey ∈ itK kd pn so se x k) : k / 2 % 3 < pn (k / 6) ∧ 0 ≤ so (3 * (k / 6) + k / 2 % 3) ∧ so (3 * (k / 6) + k / 2 % 3) = x / 2 ∧ kd (k / 6) = 2 ∧ ltz (se (3 * (k / 6) + k / 2 % 3)) (x % 2) (k % 2) = true ∧ ey = (8 * (k / 6) + 2 * (k / 2 % 3) + k % 2, 2 * (k / 6) + k % 2) := by
  unfold itK at h
  by_cases c1 : k / 2 % 3 < pn (k / 6) ∧ 0 ≤ so (3 * (k / 6) + k / 2 % 3) ∧ so (3 * (k / 6) + k / 2 % 3) = x / 2
  · rw [if_pos c1] at h
    by_cases c2 : kd (k / 6) = 2
    · rw [if_pos c2] at h
      by_cases c3 : ltz (se (3 * (k / 6) + k / 2 % 3)) (x % 2) (k % 2) = true
      · rw [if_pos c3] at h
        injection List.mem_singleton.mp h with h
        exact ⟨c1.1, c1.2.1, c1.2.2, c2, c3, h⟩
      · rw [if_neg c3] at h; cases h
    · rw [if_neg c2] at h
      by_cases c3 : k / 2 % 3 = 0 ∧ k % 2 = x % 2
      · rw [if_pos c3] at h; cases List.mem_singleton.mp h
      · rw [if_neg c3] at h; cases h
  · rw [if_neg c1] at h; cases h
theorem itK_inr {x k : Int} {mc : Int × Int} (h : Sum.inr mc ∈ itK kd pn so se x k) : k / 2 % 3 < pn (k / 6) ∧ 0 ≤ so (3 * (k / 6) + k / 2 % 3) ∧ so (3 * (k / 6) + k / 2 % 3) = x / 2 ∧ kd (k / 6) ≠ 2 ∧ k / 2 % 3 = 0 ∧ k % 2 = x % 2 ∧ mc = (k / 6, k % 2) := by
  unfold itK at h
  by_cases c1 : k / 2 % 3 < pn (k / 6) ∧ 0 ≤ so (3 * (k / 6) + k / 2 % 3) ∧ so (3 * (k / 6) + k / 2 % 3) = x / 2
  · rw [if_pos c1] at h
    by_cases c2 : kd (k / 6) = 2
    · rw [if_pos c2] at h
      by_cases c3 : ltz (se (3 * (k / 6) + k / 2 % 3)) (x % 2) (k % 2) = true
      · rw [if_pos c3] at h; cases List.mem_singleton.mp h
      · rw [if_neg c3] at h; cases h
    · rw [if_neg c2] at h
      by_cases c3 : k / 2 % 3 = 0 ∧ k % 2 = x % 2
      · rw [if_pos c3] at h
        injection List.mem_singleton.mp h with h
        exact ⟨c1.1, c1.2.1, c1.2.2, c2, c3.1, c3.2, h⟩
      · rw [if_neg c3] at h; cases h
  · rw [if_neg c1] at h; cases h
theorem itA_inl (hkd : ∀ i, kd i ≠ 0 → 0 < i ∧ i < size) (hp : ∀ i, 0 ≤ pn i ∧ pn i ≤ 3) (x e y : Int) : Sum.inl (e, y) ∈ itA kd pn so se size x ↔ (e, x) ∈ insN kd pn so se y := by
  unfold itA
  rw [List.mem_flatMap, insN_mem]
  constructor
  · rintro ⟨k, k1, k2⟩
    have hk := pinl_mem.mp k1
    obtain ⟨a1, a2, a3, a4, a5, a6⟩ := itK_inl k2
    injection a6 with a6 a7
    have e1 : y / 2 = k / 6 := by omega
    have e2 : y % 2 = k % 2 := by omega
    rw [e1, e2]
    exact ⟨a4, k / 2 % 3, x % 2, ⟨by omega, a1⟩, by omega, a2, a5, Prod.ext a6 (by show x = _; omega)⟩
  · rintro ⟨a1, p, was, a2, a3, a4, a5, a6⟩
    injection a6 with a6 a7
    have hy := hkd (y / 2) (by omega)
    have hpy := hp (y / 2)
    have g1 : (6 * (y / 2) + 2 * p + y % 2) / 6 = y / 2 := by omega
    have g2 : (6 * (y / 2) + 2 * p + y % 2) / 2 % 3 = p := by omega
    have g3 : (6 * (y / 2) + 2 * p + y % 2) % 2 = y % 2 := by omega
    refine ⟨6 * (y / 2) + 2 * p + y % 2, pinl_mem.mpr (by omega), ?_⟩
    unfold itK
    rw [g1, g2, g3, if_pos ⟨a2.2, a4, by omega⟩, if_pos a1, show x % 2 = was by omega, if_pos a5]
    exact List.mem_singleton.mpr (by rw [a6, show 2 * (y / 2) + y % 2 = y by omega])
/-- the ends, with their changes -/
def enL (kd so : Int → Int) (size : Int) : List (Int × Int) := (pinl size).flatMap (fun m => if (kd m = 4 ∨ kd m = 3) ∧ 0 ≤ so (3 * m) then (m, 0) :: (m, 1) :: [] else [])
def sgE (so : Int → Int) (mc : Int × Int) : Int := 2 * so (3 * mc.1) + mc.2
theorem enL_mem {mc : Int × Int} : mc ∈ enL kd so size ↔ (0 ≤ mc.1 ∧ mc.1 < size) ∧ EN kd so mc.1 ∧ (mc.2 = 0 ∨ mc.2 = 1) := by
  unfold enL
  rw [List.mem_flatMap]
  constructor
  · rintro ⟨m, m1, m2⟩
    by_cases c : (kd m = 4 ∨ kd m = 3) ∧ 0 ≤ so (3 * m)
    · rw [if_pos c] at m2
      rcases List.mem_cons.mp m2 with q | q
      · rw [q]; exact ⟨pinl_mem.mp m1, c, Or.inl rfl⟩
      · rw [List.mem_singleton.mp q]; exact ⟨pinl_mem.mp m1, c, Or.inr rfl⟩
    · rw [if_neg c] at m2; cases m2
  · rintro ⟨h1, h2, h3⟩
    refine ⟨mc.1, pinl_mem.mpr h1, ?_⟩
    rw [if_pos (show (kd mc.1 = 4 ∨ kd mc.1 = 3) ∧ 0 ≤ so (3 * mc.1) from h2)]
    rcases h3 with q | q
    · exact List.mem_cons.mpr (Or.inl (Prod.ext rfl q))
    · exact List.mem_cons.mpr (Or.inr (List.mem_singleton.mpr (Prod.ext rfl q)))
theorem enL_nodup : (enL kd so size).Nodup := by
  unfold enL
  refine List.pairwise_flatMap.mpr ⟨fun m _ => ?_, List.Pairwise.imp ?_ (pinl_nodup size)⟩
  · by_cases c : (kd m = 4 ∨ kd m = 3) ∧ 0 ≤ so (3 * m)
    · rw [if_pos c]
      refine List.pairwise_cons.mpr ⟨fun z hz q => ?_, List.pairwise_singleton _ _⟩
      rw [List.mem_singleton.mp hz] at q
      injection q with q1 q2
      omega
    · rw [if_neg c]; exact List.Pairwise.nil
  · intro a b hab x hx y hy q
    have hf : ∀ m z, z ∈ (if (kd m = 4 ∨ kd m = 3) ∧ 0 ≤ so (3 * m) then (m, (0 : Int)) :: (m, 1) :: [] else []) → z.1 = m := by
      intro m z hz
      by_cases c : (kd m = 4 ∨ kd m = 3) ∧ 0 ≤ so (3 * m)
      · rw [if_pos c] at hz
        rcases List.mem_cons.mp hz with r | r
        · rw [r]
        · rw [List.mem_singleton.mp r]
      · rw [if_neg c] at hz; cases hz
    exact hab (by rw [← hf a x hx, ← hf b y hy, q])
theorem itA_inr (hk : ∀ i, 0 ≤ kd i ∧ kd i ≤ 4) (hpk : ∀ i, (kd i = 0 ∨ kd i = 1 → pn i = 0) ∧ (kd i = 2 → 1 ≤ pn i) ∧ (kd i = 3 → pn i = 2) ∧ (kd i = 4 → pn i = 1)) (x : Int) (mc : Int × Int) : Sum.inr mc ∈ itA kd pn so se size x ↔ mc ∈ enL kd so size ∧ sgE so mc = x := by
  unfold itA
  rw [List.mem_flatMap, enL_mem]
  constructor
  · rintro ⟨k, k1, k2⟩
    have hk1 := pinl_mem.mp k1
    obtain ⟨a1, a2, a3, a4, a5, a6, a7⟩ := itK_inr k2
    rw [a5, Int.add_zero] at a2 a3
    have h1 := hk (k / 6)
    have h2 := hpk (k / 6)
    have hkk : kd (k / 6) = 4 ∨ kd (k / 6) = 3 := by
      rcases (show kd (k / 6) = 0 ∨ kd (k / 6) = 1 ∨ kd (k / 6) = 3 ∨ kd (k / 6) = 4 by omega) with q | q | q | q
      · have := h2.1 (Or.inl q); omega
      · have := h2.1 (Or.inr q); omega
      · exact Or.inr q
      · exact Or.inl q
    rw [a7]
    refine ⟨⟨by show 0 ≤ k / 6 ∧ k / 6 < size; omega, ⟨hkk, a2⟩, by show k % 2 = 0 ∨ k % 2 = 1; omega⟩, ?_⟩
    show 2 * so (3 * (k / 6)) + k % 2 = x
    omega
  · rintro ⟨⟨h1, ⟨h2, h3⟩, h4⟩, h5⟩
    obtain ⟨m, c⟩ := mc
    have h5' : 2 * so (3 * m) + c = x := h5
    simp only at h1 h2 h3 h4
    have hpm := hpk m
    have hp0 : 0 < pn m := by
      rcases h2 with q | q
      · have := hpm.2.2.2 q; omega
      · have := hpm.2.2.1 q; omega
    have g1 : (6 * m + c) / 6 = m := by omega
    have g2 : (6 * m + c) / 2 % 3 = 0 := by omega
    have g3 : (6 * m + c) % 2 = c := by omega
    refine ⟨6 * m + c, pinl_mem.mpr (by omega), ?_⟩
    unfold itK
    rw [g1, g2, g3, Int.add_zero, if_pos ⟨hp0, h3, by omega⟩, if_neg (by omega), if_pos ⟨rfl, by omega⟩]
    exact List.mem_singleton.mpr rfl
theorem itA_nodup (hp : ∀ i, 0 ≤ pn i ∧ pn i ≤ 3) (x : Int) : (itA kd pn so se size x).Nodup := by
  unfold itA
  refine List.pairwise_flatMap.mpr ⟨fun k _ => ?_, List.Pairwise.imp ?_ (pinl_nodup _)⟩
  · unfold itK
    by_cases c1 : k / 2 % 3 < pn (k / 6) ∧ 0 ≤ so (3 * (k / 6) + k / 2 % 3) ∧ so (3 * (k / 6) + k / 2 % 3) = x / 2
    · rw [if_pos c1]
      by_cases c2 : kd (k / 6) = 2
      · rw [if_pos c2]
        by_cases c3 : ltz (se (3 * (k / 6) + k / 2 % 3)) (x % 2) (k % 2) = true
        · rw [if_pos c3]; exact List.pairwise_singleton _ _
        · rw [if_neg c3]; exact List.Pairwise.nil
      · rw [if_neg c2]
        by_cases c3 : k / 2 % 3 = 0 ∧ k % 2 = x % 2
        · rw [if_pos c3]; exact List.pairwise_singleton _ _
        · rw [if_neg c3]; exact List.Pairwise.nil
    · rw [if_neg c1]; exact List.Pairwise.nil
  · intro a b hab u hu v hv q
    subst q
    cases u with
    | inl ey =>
      obtain ⟨-, -, -, -, -, a6⟩ := itK_inl hu
      obtain ⟨-, -, -, -, -, b6⟩ := itK_inl hv
      rw [a6] at b6
      injection b6 with b7 b8
      exact hab (by omega)
    | inr mc =>
      obtain ⟨-, -, -, -, a5, -, a6⟩ := itK_inr hu
      obtain ⟨-, -, -, -, b5, -, b6⟩ := itK_inr hv
      rw [a6] at b6
      injection b6 with b7 b8
      exact hab (by omega)
theorem ins_est (hp : ∀ i, 0 ≤ pn i ∧ pn i ≤ 3) (s : Int) (et : Int × Int) (h : et ∈ insN kd pn so se s) : 2 * (et.1 / 8) + et.1 % 2 = s := by
  obtain ⟨-, p, was, a2, -, -, -, rfl⟩ := insN_mem.mp h
  have := hp (s / 2)
  show 2 * ((8 * (s / 2) + 2 * p + s % 2) / 8) + (8 * (s / 2) + 2 * p + s % 2) % 2 = s
  omega
end ITS
