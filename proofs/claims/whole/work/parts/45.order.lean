/-! an order of the gates gives each state a rank -/
def lst (A : Int → Int) (n : Int) : List Int := (pinl n).map A
def aft : List Int → Int → Nat
  | [], _ => 0
  | a :: r, n => if a = n then r.length else aft r n
theorem aft_lt : ∀ (os : List Int) (n : Int), n ∈ os → aft os n < os.length := by
  intro os
  induction os with
  | nil => intro n h; cases h
  | cons a r ih =>
    intro n h
    show (if a = n then r.length else aft r n) < (a :: r).length
    rw [List.length_cons]
    by_cases e : a = n
    · rw [if_pos e]; omega
    · rw [if_neg e]
      have := ih n ((List.mem_cons.mp h).resolve_left (fun q => e q.symm))
      omega
theorem aft_topo {kd pn so se : Int → Int} : ∀ (os : List Int), topo kd pn so se os → ∀ n p, n ∈ os → 0 ≤ p → p < pn n → so (3 * n + p) ∈ os → aft os n < aft os (so (3 * n + p)) := by
  intro os
  induction os with
  | nil => intro _ n p h; cases h
  | cons a r ih =>
    intro ht n p hn h0 hp hm
    obtain ⟨⟨hk, ha, hp4, hs⟩, ht⟩ := ht
    show (if a = n then r.length else aft r n) < (if a = so (3 * n + p) then r.length else aft r (so (3 * n + p)))
    by_cases e : a = n
    · subst e
      have := hs p h0 hp
      rcases List.mem_cons.mp hm with q | q
      · exact absurd q this.1
      · exact absurd q this.2
    · have hn' := (List.mem_cons.mp hn).resolve_left (fun q => e q.symm)
      rw [if_neg e]
      by_cases e2 : a = so (3 * n + p)
      · rw [if_pos e2]; exact aft_lt r n hn'
      · rw [if_neg e2]
        exact ih ht n p hn' h0 hp ((List.mem_cons.mp hm).resolve_left (fun q => e2 q.symm))
theorem rk_of_topo {kd pn so se : Int → Int} {os : List Int} (ht : topo kd pn so se os) (hc : ∀ n, kd n = 2 → n ∈ os) (hl : os.length ≤ 48) : ∃ rk : Int → Nat, (∀ s et, et ∈ insN kd pn so se s → rk et.2 < rk s) ∧ (∀ s, rk s < 49) ∧ ∀ s, kd (s / 2) ≠ 2 → s / 2 ∉ os → rk s = 0 := by
  refine ⟨fun s => if s / 2 ∈ os then os.length - aft os (s / 2) else 0, fun s et he => ?_, fun s => ?_, fun s _ h => if_neg h⟩
  · obtain ⟨hk, p, was, hp, hw, h0, -, rfl⟩ := insN_mem.mp he
    have h1 := hc _ hk
    have e : (2 * so (3 * (s / 2) + p) + was) / 2 = so (3 * (s / 2) + p) := by omega
    show (if (2 * so (3 * (s / 2) + p) + was) / 2 ∈ os then os.length - aft os ((2 * so (3 * (s / 2) + p) + was) / 2) else 0) < (if s / 2 ∈ os then os.length - aft os (s / 2) else 0)
    rw [e, if_pos h1]
    have h2 := aft_lt os _ h1
    by_cases h3 : so (3 * (s / 2) + p) ∈ os
    · rw [if_pos h3]
      have h4 := aft_topo os ht (s / 2) p h1 hp.1 hp.2 h3
      have h5 := aft_lt os _ h3
      omega
    · rw [if_neg h3]; omega
  · show (if s / 2 ∈ os then os.length - aft os (s / 2) else 0) < 49
    by_cases h : s / 2 ∈ os
    · rw [if_pos h]; omega
    · rw [if_neg h]; omega
theorem topo_kd {kd pn so se : Int → Int} : ∀ (os : List Int), topo kd pn so se os → ∀ n ∈ os, kd n = 2 := by
  intro os
  induction os with
  | nil => intro _ n h; cases h
  | cons a r ih =>
    intro ht n hn
    rcases List.mem_cons.mp hn with rfl | h
    · exact ht.1.1
    · exact ih ht.2 n h
theorem topo_nodup {kd pn so se : Int → Int} : ∀ (os : List Int), topo kd pn so se os → os.Nodup := by
  intro os
  induction os with
  | nil => intro _; exact List.nodup_nil
  | cons a r ih => intro ht; exact List.nodup_cons.mpr ⟨ht.1.2.1, ih ht.2⟩
/-- a list without repetition, of numbers below N -/
theorem nodup_le : ∀ (N : Nat) (l : List Int), l.Nodup → (∀ x ∈ l, 0 ≤ x ∧ x < N) → l.length ≤ N := by
  intro N
  induction N with
  | zero =>
    intro l hn h
    cases l with
    | nil => exact Nat.le_refl _
    | cons x r => have := h x List.mem_cons_self; omega
  | succ N ih =>
    intro l hn h
    by_cases hm : (N : Int) ∈ l
    · have h1 := ih (l.erase (N : Int)) (hn.sublist List.erase_sublist) (fun x hx => by
        have h2 := (List.Nodup.mem_erase_iff hn).mp hx
        have h3 := h x h2.2
        have h4 := h2.1
        omega)
      rw [List.length_erase_of_mem hm] at h1
      omega
    · have h1 := ih l hn (fun x hx => by
        have h3 := h x hx
        have h4 : x ≠ (N : Int) := fun q => hm (q ▸ hx)
        omega)
      omega
theorem lst_len (A : Int → Int) (n : Int) : (lst A n).length = n.toNat := by
  unfold lst pinl
  rw [List.length_map, List.length_map, List.length_range]
theorem pinl_succ {n : Int} (h : 0 ≤ n) : pinl (n + 1) = pinl n ++ [n] := by
  unfold pinl
  rw [show (n + 1).toNat = n.toNat + 1 by omega, List.range_succ, List.map_append]
  congr 1
  show [((n.toNat : Nat) : Int)] = [n]
  rw [show ((n.toNat : Nat) : Int) = n by omega]
theorem lst_succ {A : Int → Int} {n v : Int} (h : 0 ≤ n) : lst (ui A n v) (n + 1) = lst A n ++ [v] := by
  unfold lst
  rw [pinl_succ h, List.map_append]
  congr 1
  · refine List.map_congr_left (fun x hx => ?_)
    have := pinl_mem.mp hx
    exact ui_n (by omega)
  · show [ui A n v n] = [v]
    rw [ui_s]
theorem lst_0 (A : Int → Int) : lst A 0 = [] := rfl
theorem lst_get {A : Int → Int} {n i : Int} (h : 0 ≤ i ∧ i < n) : (lst A n)[i.toNat]? = some (A i) := by
  unfold lst pinl
  rw [List.getElem?_map, List.getElem?_map, List.getElem?_range (by omega)]
  show some (A ((i.toNat : Nat) : Int)) = some (A i)
  rw [show ((i.toNat : Nat) : Int) = i by omega]
theorem lst_mem {A : Int → Int} {n v : Int} : v ∈ lst A n ↔ ∃ i, (0 ≤ i ∧ i < n) ∧ A i = v := by
  unfold lst
  rw [List.mem_map]
  constructor
  · rintro ⟨i, h1, h2⟩; exact ⟨i, pinl_mem.mp h1, h2⟩
  · rintro ⟨i, h1, h2⟩; exact ⟨i, pinl_mem.mpr h1, h2⟩
theorem topo_snoc {kd pn so se : Int → Int} {n : Int} (hk : kd n = 2) (hp : pn n ≤ 4) (hs : ∀ p, 0 ≤ p → p < pn n → so (3 * n + p) ≠ n) : ∀ (os : List Int), topo kd pn so se os → n ∉ os → (∀ m ∈ os, ∀ p, 0 ≤ p → p < pn m → so (3 * m + p) ≠ n) → topo kd pn so se (os ++ [n]) := by
  intro os
  induction os with
  | nil => intro _ _ _; exact ⟨⟨hk, List.not_mem_nil, hp, fun p a b => ⟨hs p a b, List.not_mem_nil⟩⟩, trivial⟩
  | cons a r ih =>
    intro ht hn h
    obtain ⟨⟨k1, k2, k3, k4⟩, ht⟩ := ht
    have hna : n ≠ a := fun q => hn (q ▸ List.mem_cons_self)
    refine ⟨⟨k1, fun q => ?_, k3, fun p a' b' => ⟨(k4 p a' b').1, fun q => ?_⟩⟩, ih ht (fun q => hn (List.mem_cons_of_mem _ q)) (fun m hm => h m (List.mem_cons_of_mem _ hm))⟩
    · rcases List.mem_append.mp q with q | q
      · exact k2 q
      · exact hna (List.mem_singleton.mp q).symm
    · rcases List.mem_append.mp q with q | q
      · exact (k4 p a' b').2 q
      · exact h a List.mem_cons_self p a' b' (List.mem_singleton.mp q)
