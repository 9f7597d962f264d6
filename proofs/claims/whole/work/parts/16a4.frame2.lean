/-! the same frame, in one go through the list (places in rising order) -/
def wmrg : va_W → Nat → List Nat → va_W → va_W
  | [], _, _, _ => []
  | y :: ys, k, is, xs => match is, xs with
    | i :: is', x :: xs' => if i = k then x :: wmrg ys (k + 1) is' xs' else y :: wmrg ys (k + 1) (i :: is') (x :: xs')
    | _, _ => y :: ys
def upw : Nat → List Nat → Bool
  | _, [] => true
  | k, i :: is => Nat.ble k i && upw (i + 1) is
theorem upw_ge : ∀ (is : List Nat) (k : Nat), upw k is = true → ∀ z ∈ is, k ≤ z := by
  intro is
  induction is with
  | nil => intro k _ z hz; cases hz
  | cons i is ih =>
    intro k h z hz
    simp only [upw, Bool.and_eq_true] at h
    have h1 := Nat.le_of_ble_eq_true h.1
    rcases List.mem_cons.mp hz with rfl | hz
    · exact h1
    · have := ih (i + 1) h.2 z hz; omega
theorem wmrg_get : ∀ (ws : va_W) (k : Nat) (isC : List Nat) (w1 : va_W), upw k isC = true → w1.length = isC.length → ∀ (j : Nat) (q : Nat × va_E), (wmrg ws k isC w1)[j]? = some q → (∃ t : Nat, isC[t]? = some (k + j) ∧ w1[t]? = some q) ∨ (k + j ∉ isC ∧ ws[j]? = some q) := by
  intro ws
  induction ws with
  | nil => intro k isC w1 _ _ j q h; simp [wmrg] at h
  | cons y ys ih =>
    intro k isC w1 hu hl j q h
    cases isC with
    | nil =>
      refine Or.inr ⟨List.not_mem_nil, ?_⟩
      cases w1 with
      | nil => simpa [wmrg] using h
      | cons x xs => cases hl
    | cons i is =>
      cases w1 with
      | nil => cases hl
      | cons x xs =>
        simp only [upw, Bool.and_eq_true] at hu
        have hki := Nat.le_of_ble_eq_true hu.1
        by_cases hik : i = k
        · have e : wmrg (y :: ys) k (i :: is) (x :: xs) = x :: wmrg ys (k + 1) is xs := by simp [wmrg, hik]
          rw [e] at h
          cases j with
          | zero => exact Or.inl ⟨0, by rw [hik]; rfl, h⟩
          | succ j =>
            rw [List.getElem?_cons_succ] at h
            rcases ih (k + 1) is xs (by rw [← hik]; exact hu.2) (Nat.succ.inj hl) j q h with ⟨t, h1, h2⟩ | ⟨h1, h2⟩
            · exact Or.inl ⟨t + 1, by rw [List.getElem?_cons_succ, h1]; congr 1; omega, by rw [List.getElem?_cons_succ]; exact h2⟩
            · refine Or.inr ⟨fun z => ?_, by rw [List.getElem?_cons_succ]; exact h2⟩
              rcases List.mem_cons.mp z with z | z
              · omega
              · exact h1 (by rw [show k + 1 + j = k + (j + 1) by omega]; exact z)
        · have e : wmrg (y :: ys) k (i :: is) (x :: xs) = y :: wmrg ys (k + 1) (i :: is) (x :: xs) := by simp [wmrg, hik]
          rw [e] at h
          cases j with
          | zero =>
            refine Or.inr ⟨fun z => ?_, h⟩
            rcases List.mem_cons.mp z with z | z
            · omega
            · have := upw_ge is (i + 1) hu.2 _ z; omega
          | succ j =>
            rw [List.getElem?_cons_succ] at h
            rcases ih (k + 1) (i :: is) (x :: xs) (by simp only [upw, Bool.and_eq_true]; exact ⟨Nat.ble_eq_true_of_le (by omega), hu.2⟩) hl j q h with ⟨t, h1, h2⟩ | ⟨h1, h2⟩
            · exact Or.inl ⟨t, by rw [h1]; congr 1; omega, h2⟩
            · exact Or.inr ⟨fun z => h1 (by rw [show k + 1 + j = k + (j + 1) by omega]; exact z), by rw [List.getElem?_cons_succ]; exact h2⟩
theorem wmrg_ok {A0 : Nat → Prop} {D : va_G} {cl : List vw_C} {ws wc w1 : va_W} {H H1 : Heap} (hP : va_P D cl ws H) (hD : va_D A0 ws) (isC : List Nat) (hu : upw 0 isC = true) (hC : isC.map (fun i => ws[i]?) = wc.map some) (hadr : w1.map Prod.fst = wc.map Prod.fst)
    (hk : ∀ q : Nat, q < H.size → ¬ va_A wc H.size q → H1[q]? = H[q]?) (hP1 : va_P D cl w1 H1) : va_P D cl (wmrg ws 0 isC w1) H1 ∧ va_D A0 (wmrg ws 0 isC w1) := by
  have hl1 : w1.length = wc.length := by have := congrArg List.length hadr; rwa [List.length_map, List.length_map] at this
  have hl2 : isC.length = wc.length := by have := congrArg List.length hC; rwa [List.length_map, List.length_map] at this
  have hlen : w1.length = isC.length := hl1.trans hl2.symm
  have get : ∀ (k : Nat) (q : Nat × va_E), (wmrg ws 0 isC w1)[k]? = some q → (∃ j : Nat, isC[j]? = some k ∧ w1[j]? = some q) ∨ (k ∉ isC ∧ ws[k]? = some q) := by
    intro k q h
    have := wmrg_get ws 0 isC w1 hu hlen k q h
    rwa [Nat.zero_add] at this
  have adr : ∀ (k : Nat) (q : Nat × va_E), (wmrg ws 0 isC w1)[k]? = some q → ∃ q0, ws[k]? = some q0 ∧ q0.1 = q.1 := by
    intro k q h
    rcases get k q h with ⟨j, h1, h2⟩ | ⟨-, h2⟩
    · have h3 : (w1.map Prod.fst)[j]? = some q.1 := by rw [List.getElem?_map, h2]; rfl
      rw [hadr, List.getElem?_map] at h3
      cases hc : wc[j]? with
      | none => rw [hc] at h3; cases h3
      | some c =>
        rw [hc] at h3
        obtain ⟨i, g1, g2⟩ := wc_at hC hc
        have h4 : i = k := Option.some.inj (g1.symm.trans h1)
        subst h4
        exact ⟨c, g2, Option.some.inj h3⟩
    · exact ⟨q, h2, rfl⟩
  refine ⟨fun k q h => ?_, fun i j p q hp hq e => ?_, fun k q h => ?_⟩
  · rcases get k q h with ⟨j, -, h2⟩ | ⟨h1, h2⟩
    · exact hP1 j q h2
    · have h3 := hP k q h2
      have hlt : q.1 < H.size := h3.lt
      have h4 : H1[q.1]? = H[q.1]? := hk q.1 hlt (fun z => by
        rcases z with ⟨k', e', z⟩ | z
        · obtain ⟨i, g1, g2⟩ := wc_at hC z
          have h5 := hD.1 i k _ _ g2 h2 rfl
          subst h5
          exact h1 (List.mem_of_getElem? g1)
        · exact Nat.lt_irrefl _ (Nat.lt_of_lt_of_le hlt z))
      obtain ⟨a, e⟩ := q
      cases e with
      | inl z => exact h4.trans h3
      | inr o =>
        obtain ⟨r, h5, cell, h6, h7⟩ := h3
        exact ⟨r, h5, cell, h4.trans h6, h7⟩
  · obtain ⟨p0, a1, a2⟩ := adr i p hp
    obtain ⟨q0, b1, b2⟩ := adr j q hq
    exact hD.1 i j p0 q0 a1 b1 (by rw [a2, b2]; exact e)
  · obtain ⟨q0, b1, b2⟩ := adr k q h
    rw [← b2]
    exact hD.2 k q0 b1
section CM
variable {p : Program} {l : Launch} {e : Env} {R : Room} {s : State} {m : MethodId} {args : Array Value} {below : List Frame} {meth : Method} {c : Code} {H : Heap} {locs : List Loc} {cells slots mc ms : Nat} {Q : State → Prop} {D : va_G} {tys : List (ClassId × FieldType)} {ws wc w1 : va_W} {A : Nat → Prop} {H0 : Heap} {pc : Nat} {ls : Array Slot} {rest st0 : List Value} {a : Array Value}
theorem cm_i {r : Int} (hr : va_Run p l e R s m args below meth c H locs cells slots mc ms (F0 m pc ls st0) rest (QI D tys wc H.size r w1 a) (va_A wc H.size)) (hP : va_P D vwCl ws H) (hD : va_D A ws) (hS : va_S A H0 H locs) (hA : ∀ q, H0.size ≤ q → A q) (isC : List Nat) (hu : upw 0 isC = true)
    (hC : isC.map (fun i => ws[i]?) = wc.map some) (hadr : w1.map Prod.fst = wc.map Prod.fst)
    (kk : ∀ (H : Heap) (locs : List Loc), va_P D vwCl (wmrg ws 0 isC w1) H → va_D A (wmrg ws 0 isC w1) → va_S A H0 H locs → W p l e R s m args below meth c H locs (cells + mc) (slots + ms) Q (F0 m (pc + 3) ls (.int (iI r) :: rest))) : W p l e R s m args below meth c H locs cells slots Q (F0 m pc ls st0) := by
  have hFc := va_free (wc := wc) hD hS hA isC hC
  refine va_calli hr hS (fun q _ h => hFc q h) hFc (fun x u t H1 locs1 ht hvm hx hB hz1 hk1 hS => ?_)
  subst hx
  obtain ⟨hP1, hK1, hD1⟩ := hB
  rw [ht] at hP1
  obtain ⟨hP2, hD2⟩ := wmrg_ok hP hD isC hu hC hadr hk1 hP1
  exact kk H1 locs1 hP2 hD2 hS
theorem cm_v (hr : va_Run p l e R s m args below meth c H locs cells slots mc ms (F0 m pc ls st0) rest (QV D tys wc H.size w1 a) (va_A wc H.size)) (hP : va_P D vwCl ws H) (hD : va_D A ws) (hS : va_S A H0 H locs) (hA : ∀ q, H0.size ≤ q → A q) (isC : List Nat) (hu : upw 0 isC = true)
    (hC : isC.map (fun i => ws[i]?) = wc.map some) (hadr : w1.map Prod.fst = wc.map Prod.fst)
    (kk : ∀ (H : Heap) (locs : List Loc), va_P D vwCl (wmrg ws 0 isC w1) H → va_D A (wmrg ws 0 isC w1) → va_S A H0 H locs → W p l e R s m args below meth c H locs (cells + mc) (slots + ms) Q (F0 m (pc + 3) ls rest)) : W p l e R s m args below meth c H locs cells slots Q (F0 m pc ls st0) := by
  have hFc := va_free (wc := wc) hD hS hA isC hC
  refine va_callv hr hS (fun q _ h => hFc q h) hFc (fun u t H1 locs1 ht hvm hx hB hz1 hk1 hS => ?_)
  obtain ⟨hP1, hK1, hD1⟩ := hB
  rw [ht] at hP1
  obtain ⟨hP2, hD2⟩ := wmrg_ok hP hD isC hu hC hadr hk1 hP1
  exact kk H1 locs1 hP2 hD2 hS
end CM
