/-! the reference walks over all data ways of one start -/
section WLK
variable {F : Nat} {kd pn so se wE wL gE gL fo sc : Int → Int} {size wid per : Int} {wc wb we wl wla wsz wr wsp : Int → Int} {LL : Int → List (Int × List Int)}
def LVf (kd pn so se : Int → Int) (size : Int) (nd ch nx row : Int → Int) (f : Int) (j : Nat) : List (List Int × (Int × Int)) := (itF kd pn so se size (2 * nd j + ch j) (nx j)).flatMap (exI (itA kd pn so se size) (lst (fun i => row (f + i)) j))
def RMf (kd pn so se : Int → Int) (size : Int) (nd ch nx row : Int → Int) (f : Int) : Nat → List (List Int × (Int × Int))
  | 0 => []
  | h + 1 => LVf kd pn so se size nd ch nx row f h ++ RMf kd pn so se size nd ch nx row f h
theorem LVf_cg {nd ch nx row nd' ch' nx' row' : Int → Int} {f : Int} {j : Nat} (h1 : nd j = nd' j) (h2 : ch j = ch' j) (h3 : nx j = nx' j) (h4 : ∀ i, 0 ≤ i → i < (j : Int) → row (f + i) = row' (f + i)) : LVf kd pn so se size nd ch nx row f j = LVf kd pn so se size nd' ch' nx' row' f j := by
  unfold LVf
  rw [h1, h2, h3, lst_cg (A := fun i => row (f + i)) (B := fun i => row' (f + i)) h4]
theorem RMf_cg {nd ch nx row nd' ch' nx' row' : Int → Int} {f : Int} : ∀ h : Nat, (∀ j : Nat, j < h → nd j = nd' j ∧ ch j = ch' j ∧ nx j = nx' j) → (∀ i, 0 ≤ i → i + 1 < (h : Int) → row (f + i) = row' (f + i)) → RMf kd pn so se size nd ch nx row f h = RMf kd pn so se size nd' ch' nx' row' f h := by
  intro h
  induction h with
  | zero => intro _ _; rfl
  | succ h ih =>
    intro h1 h2
    show LVf kd pn so se size nd ch nx row f h ++ RMf kd pn so se size nd ch nx row f h = _ ++ RMf kd pn so se size nd' ch' nx' row' f h
    have q := h1 h (by omega)
    rw [ih (fun j hj => h1 j (by omega)) (fun i a b => h2 i a (by omega)), LVf_cg q.1 q.2.1 q.2.2 (fun i a b => h2 i a (by omega))]
def msf (nx : Int → Int) : Nat → Nat
  | 0 => 0
  | h + 1 => msf nx h + (300 - nx h).toNat * 1000 ^ (50 - h)
theorem msf_cg {nx nx' : Int → Int} : ∀ h : Nat, (∀ j : Nat, j < h → nx j = nx' j) → msf nx h = msf nx' h := by
  intro h
  induction h with
  | zero => intro _; rfl
  | succ h ih =>
    intro q
    show msf nx h + _ = msf nx' h + _
    rw [ih (fun j hj => q j (by omega)), q h (by omega)]
theorem pushf_lt {x : Int} {d m : Nat} (hx : 0 ≤ x ∧ x ≤ 290) (hd : d ≤ 48) : m + (300 - (x + 1)).toNat * 1000 ^ (50 - d) + (300 - (0 : Int)).toNat * 1000 ^ (50 - (d + 1)) < m + (300 - x).toNat * 1000 ^ (50 - d) := by
  obtain ⟨A, hA⟩ : ∃ A : Nat, A = (300 - (x + 1)).toNat := ⟨_, rfl⟩
  have h1 : (300 - x).toNat = A + 1 := by omega
  have h2 : 1000 ^ (50 - d) = 1000 * 1000 ^ (50 - (d + 1)) := by
    rw [show 50 - d = (50 - (d + 1)) + 1 by omega, Nat.pow_succ]
    omega
  have h3 : 0 < 1000 ^ (50 - (d + 1)) := Nat.pow_pos (by decide)
  rw [← hA, h1, h2, Nat.add_mul]
  show m + A * (1000 * 1000 ^ (50 - (d + 1))) + 300 * 1000 ^ (50 - (d + 1)) < _
  omega
/-- a start's row -/
def rowS (n c0 p : Int) (o : Option (Int × List Int)) : List Int := rowO o ++ [8 * n + (if p < 0 then 0 else 2) + c0]
theorem s_startRow {n c0 p : Int} {o : Option (Int × List Int)} {row : Int → Int} (hF : 200 ≤ F) (hp : isQ wE wL gE gL wid wc wb we wl wla wsz wr wsp LL n p o) (hp2 : -2147483648 ≤ p ∧ p < 384) : ok (f_M_startRow F n c0 p wsz wr row) (fun r => r.1 = ((rowS n c0 p o).length : Int) ∧ rowAt r.2 0 (rowS n c0 p o) ∧ (rowS n c0 p o).length ≤ 50) := by
  have hj : ∀ (v : Int) (rw2 : Int → Int), v = ((rowO o).length : Int) → rowAt rw2 0 (rowO o) → (rowO o).length ≤ 49 → ok (f_M_startRow_j53 F n c0 p v rw2) (fun r => r.1 = ((rowS n c0 p o).length : Int) ∧ rowAt r.2 0 (rowS n c0 p o) ∧ (rowS n c0 p o).length ≤ 50) := by
    intro v rw2 hv hr h49
    have hl : (rowS n c0 p o).length = (rowO o).length + 1 := by unfold rowS; rw [List.length_append]; rfl
    have hq : ∀ q3, q3 = (if p < 0 then 0 else 2) → ok (f_M_startRow_j77 F n c0 v rw2 q3) (fun r => r.1 = ((rowS n c0 p o).length : Int) ∧ rowAt r.2 0 (rowS n c0 p o) ∧ (rowS n c0 p o).length ≤ 50) := by
      intro q3 hq3
      unfold f_M_startRow_j77
      refine ok_gi ⟨by omega, by omega⟩ (ok_bd.mpr (ok_some.mpr ⟨by show v + 1 = _; omega, ?_, by omega⟩))
      show rowAt (ui rw2 v _) 0 _
      rw [hv, hq3]
      exact rowAt_snoc hr
    unfold f_M_startRow_j53
    refine ok_gr ⟨by omega, by omega⟩ (ok_if (fun c => hq 2 (by rw [if_neg (by omega)])) (fun c => hq 0 (by rw [if_pos (by omega)])))
  unfold f_M_startRow
  refine lq3_ok (fun (v : Int) (u : Int) rw2 => ∃ k : Nat, v = (k : Int) ∧ u = (k : Int) ∧ k ≤ (rowO o).length ∧ rowAt rw2 0 ((rowO o).take k)) (fun v _ _ => (144 - v).toNat) _ ?_ F 0 0 row ⟨0, rfl, rfl, Nat.zero_le _, fun j e q => by simp at q⟩ (by show (144 - (0 : Int)).toNat < F; omega)
  rintro self v u rw2 ⟨k, hv, hu, hk, hR⟩ hs
  unfold f_M_startRow_b4
  rcases hp with ⟨g1, g2⟩ | ⟨i, w, hMW, hnd, hi, hqi, ho', hnn, hel⟩
  · refine ok_gr ⟨by omega, by omega⟩ (ok_if (fun _ => ?_) (fun z => by omega))
    have e0 : rowO o = [] := by rw [g2]; rfl
    rw [e0] at hk
    have ek : k = 0 := Nat.le_zero.mp hk
    refine hj v rw2 (by rw [e0, hv, ek]; rfl) (by rw [e0]; intro j e q; simp at q) (by rw [e0]; decide)
  · obtain ⟨x1, x2, x3, x4, x5, x6, x7⟩ := hMW.2.2 i w hi
    have hil := getE_lt hi
    have h8 := hMW.2.1
    rw [← hqi] at x5 x7
    have hrl : (rowO o).length = w.2.length + 1 := by rw [ho']; exact rowW_len w
    refine ok_gr ⟨by omega, by omega⟩ (ok_if (fun z => by omega) (fun _ => ?_))
    rw [x5]
    refine ok_gi ⟨by omega, by omega⟩ (ok_gr ⟨by omega, by omega⟩ (ok_gr ⟨by omega, by omega⟩ (ok_if (fun c2 => ?_) (fun c2 => ?_))))
    · have ek : k = (rowO o).length := by omega
      rw [ek, List.take_length] at hR
      exact hj v rw2 (by omega) hR (by omega)
    · have hkw : k ≤ w.2.length := by omega
      have hgt : some (wr (49 * p + k)) = (rowO o)[k]? := by rw [ho']; exact (x7 k hkw).1
      refine ok_gi ⟨by omega, by omega⟩ (ok_gi ⟨by omega, by omega⟩ (ok_bd.mpr ?_))
      refine hs _ _ _ ⟨k + 1, by omega, by omega, by omega, ?_⟩ (by show (144 - (v + 1)).toNat < (144 - v).toNat; omega)
      have h3 := rowAt_snoc (v := wr (49 * p + u)) hR
      rw [List.length_take, Nat.min_eq_left hk, ← hv] at h3
      rw [List.take_add_one, ← hgt, hu.symm]
      exact h3
/-- what one start's words report -/
def pt0 (kd pn so se wE wL gE gL fo : Int → Int) (per wid n : Int) (o : Option (Int × List Int)) (r00 : List Int) (b : Int) (t : List Int × (Int × Int)) : List (Int × List Int) := (wys kd pn so se t.2.1).map (P0M wE wL gE gL fo per wid n o (r00 ++ t.1) t.2.1 t.2.2 (b + sm (dE wL gL) t.1 + wL (3 * t.2.1)))
def pt1 (kd pn so se wE wL gE gL sc : Int → Int) (per wid n : Int) (o : Option (Int × List Int)) (r00 : List Int) (a : Int) (t : List Int × (Int × Int)) : List (Int × List Int) := (wys kd pn so se t.2.1).map (P1M wE wL gE gL sc per wid n o (r00 ++ t.1) t.2.1 t.2.2 (a + sm (dE wE gE) t.1 + wE (3 * t.2.1)))
theorem dE_at {n p c : Int} (hp : 0 ≤ p ∧ p < 3) (hc : c = 0 ∨ c = 1) : dE wE gE (8 * n + 2 * p + c) = wE (3 * n + p) + gE (2 * (3 * n + p) + c) := by
  unfold dE
  rw [show (8 * n + 2 * p + c) / 8 = n by omega, show (8 * n + 2 * p + c) / 2 % 4 = p by omega, show (8 * n + 2 * p + c) % 2 = c by omega]
theorem rowAt_app {A : Int → Int} {r r' : List Int} (h : rowAt A 0 r) (h' : rowAt A (r.length : Int) r') : rowAt A 0 (r ++ r') := by
  intro j e q
  by_cases c : j < r.length
  · rw [List.getElem?_append_left c] at q
    exact h j e q
  · rw [List.getElem?_append_right (by omega)] at q
    have := h' _ e q
    rw [show (0 : Int) + j = r.length + ((j - r.length : Nat) : Int) by omega]
    exact this
theorem rowAt_lst {A : Int → Int} {f : Int} {j : Nat} : rowAt A f (lst (fun i => A (f + i)) j) := by
  intro i e q
  have hl := getE_lt q
  rw [lst_len] at hl
  have := lst_get (A := fun i => A (f + i)) (n := (j : Int)) (i := (i : Int)) (by omega)
  rw [show ((i : Int)).toNat = i by omega, q] at this
  exact (Option.some.inj this).symm
end WLK
