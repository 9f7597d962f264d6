/-! the frame for a large world: a call changes the cells at the places isC, all else stays as it is -/
def wupd : va_W → List Nat → va_W → va_W
  | ws, [], _ => ws
  | ws, _ :: _, [] => ws
  | ws, i :: is, x :: xs => wupd (ws.set i x) is xs
theorem wupd_get : ∀ (isC : List Nat) (ws w1 : va_W), w1.length = isC.length → ∀ (k : Nat) (q : Nat × va_E), (wupd ws isC w1)[k]? = some q → (∃ j : Nat, isC[j]? = some k ∧ w1[j]? = some q) ∨ (k ∉ isC ∧ ws[k]? = some q) := by
  intro isC
  induction isC with
  | nil => intro ws w1 _ k q h; exact Or.inr ⟨List.not_mem_nil, by cases w1 <;> exact h⟩
  | cons i is ih =>
    intro ws w1 hl k q h
    cases w1 with
    | nil => cases hl
    | cons x xs =>
      rcases ih (ws.set i x) xs (Nat.succ.inj hl) k q h with ⟨j, h1, h2⟩ | ⟨h1, h2⟩
      · exact Or.inl ⟨j + 1, by rw [List.getElem?_cons_succ]; exact h1, by rw [List.getElem?_cons_succ]; exact h2⟩
      · by_cases hk : i = k
        · subst hk
          rw [List.getElem?_set_self'] at h2
          cases hw : ws[i]? with
          | none => rw [hw] at h2; cases h2
          | some z =>
            rw [hw] at h2
            have h3 : x = q := Option.some.inj h2
            subst h3
            exact Or.inl ⟨0, rfl, rfl⟩
        · rw [List.getElem?_set_ne hk] at h2
          exact Or.inr ⟨fun z => (List.mem_cons.mp z).elim (fun e => hk e.symm) h1, h2⟩
theorem wc_at {ws wc : va_W} {isC : List Nat} (hC : isC.map (fun i => ws[i]?) = wc.map some) {j : Nat} {c : Nat × va_E} (h : wc[j]? = some c) : ∃ i, isC[j]? = some i ∧ ws[i]? = some c := by
  have h1 : (isC.map (fun i => ws[i]?))[j]? = some (some c) := by rw [hC, List.getElem?_map, h]; rfl
  rw [List.getElem?_map] at h1
  cases hi : isC[j]? with
  | none => rw [hi] at h1; cases h1
  | some i => rw [hi] at h1; exact ⟨i, rfl, Option.some.inj h1⟩
theorem wupd_ok {A0 : Nat → Prop} {D : va_G} {cl : List vw_C} {ws wc w1 : va_W} {H H1 : Heap} (hP : va_P D cl ws H) (hD : va_D A0 ws) (isC : List Nat) (hC : isC.map (fun i => ws[i]?) = wc.map some) (hadr : w1.map Prod.fst = wc.map Prod.fst)
    (hk : ∀ q : Nat, q < H.size → ¬ va_A wc H.size q → H1[q]? = H[q]?) (hP1 : va_P D cl w1 H1) : va_P D cl (wupd ws isC w1) H1 ∧ va_D A0 (wupd ws isC w1) := by
  have hl1 : w1.length = wc.length := by have := congrArg List.length hadr; rwa [List.length_map, List.length_map] at this
  have hl2 : isC.length = wc.length := by have := congrArg List.length hC; rwa [List.length_map, List.length_map] at this
  have hlen : w1.length = isC.length := hl1.trans hl2.symm
  have adr : ∀ (k : Nat) (q : Nat × va_E), (wupd ws isC w1)[k]? = some q → ∃ q0, ws[k]? = some q0 ∧ q0.1 = q.1 := by
    intro k q h
    rcases wupd_get isC ws w1 hlen k q h with ⟨j, h1, h2⟩ | ⟨-, h2⟩
    · have h3 : (w1.map Prod.fst)[j]? = some q.1 := by rw [List.getElem?_map, h2]; rfl
      rw [hadr, List.getElem?_map] at h3
      cases hc : wc[j]? with
      | none => rw [hc] at h3; cases h3
      | some c =>
        rw [hc] at h3
        obtain ⟨i, g1, g2⟩ := wc_at hC hc
        have h4 : i = k := Option.some.inj (g1.symm.trans h1)
        subst h4
        exact ⟨c, g2, Option.some.inj h3⟩
    · exact ⟨q, h2, rfl⟩
  refine ⟨fun k q h => ?_, fun i j p q hp hq e => ?_, fun k q h => ?_⟩
  · rcases wupd_get isC ws w1 hlen k q h with ⟨j, -, h2⟩ | ⟨h1, h2⟩
    · exact hP1 j q h2
    · have h3 := hP k q h2
      have hlt : q.1 < H.size := h3.lt
      have h4 : H1[q.1]? = H[q.1]? := hk q.1 hlt (fun z => by
        rcases z with ⟨k', e', z⟩ | z
        · obtain ⟨i, g1, g2⟩ := wc_at hC z
          have h5 := hD.1 i k _ _ g2 h2 rfl
          subst h5
          exact h1 (List.mem_of_getElem? g1)
        · exact Nat.lt_irrefl _ (Nat.lt_of_lt_of_le hlt z))
      obtain ⟨a, e⟩ := q
      cases e with
      | inl z => exact h4.trans h3
      | inr o =>
        obtain ⟨r, h5, cell, h6, h7⟩ := h3
        exact ⟨r, h5, cell, h4.trans h6, h7⟩
  · obtain ⟨p0, a1, a2⟩ := adr i p hp
    obtain ⟨q0, b1, b2⟩ := adr j q hq
    exact hD.1 i j p0 q0 a1 b1 (by rw [a2, b2]; exact e)
  · obtain ⟨q0, b1, b2⟩ := adr k q h
    rw [← b2]
    exact hD.2 k q0 b1
section CW
variable {p : Program} {l : Launch} {e : Env} {R : Room} {s : State} {m : MethodId} {args : Array Value} {below : List Frame} {meth : Method} {c : Code} {H : Heap} {locs : List Loc} {cells slots mc ms : Nat} {Q : State → Prop} {D : va_G} {tys : List (ClassId × FieldType)} {ws wc w1 : va_W} {A : Nat → Prop} {H0 : Heap} {pc : Nat} {ls : Array Slot} {rest st0 : List Value} {a : Array Value}
theorem cw_i {r : Int} (hr : va_Run p l e R s m args below meth c H locs cells slots mc ms (F0 m pc ls st0) rest (QI D tys wc H.size r w1 a) (va_A wc H.size)) (hP : va_P D vwCl ws H) (hD : va_D A ws) (hS : va_S A H0 H locs) (hA : ∀ q, H0.size ≤ q → A q) (isC : List Nat)
    (hC : isC.map (fun i => ws[i]?) = wc.map some) (hadr : w1.map Prod.fst = wc.map Prod.fst)
    (kk : ∀ (H : Heap) (locs : List Loc), va_P D vwCl (wupd ws isC w1) H → va_D A (wupd ws isC w1) → va_S A H0 H locs → W p l e R s m args below meth c H locs (cells + mc) (slots + ms) Q (F0 m (pc + 3) ls (.int (iI r) :: rest))) : W p l e R s m args below meth c H locs cells slots Q (F0 m pc ls st0) := by
  have hFc := va_free (wc := wc) hD hS hA isC hC
  refine va_calli hr hS (fun q _ h => hFc q h) hFc (fun x u t H1 locs1 ht hvm hx hB hz1 hk1 hS => ?_)
  subst hx
  obtain ⟨hP1, hK1, hD1⟩ := hB
  rw [ht] at hP1
  obtain ⟨hP2, hD2⟩ := wupd_ok hP hD isC hC hadr hk1 hP1
  exact kk H1 locs1 hP2 hD2 hS
theorem cw_v (hr : va_Run p l e R s m args below meth c H locs cells slots mc ms (F0 m pc ls st0) rest (QV D tys wc H.size w1 a) (va_A wc H.size)) (hP : va_P D vwCl ws H) (hD : va_D A ws) (hS : va_S A H0 H locs) (hA : ∀ q, H0.size ≤ q → A q) (isC : List Nat)
    (hC : isC.map (fun i => ws[i]?) = wc.map some) (hadr : w1.map Prod.fst = wc.map Prod.fst)
    (kk : ∀ (H : Heap) (locs : List Loc), va_P D vwCl (wupd ws isC w1) H → va_D A (wupd ws isC w1) → va_S A H0 H locs → W p l e R s m args below meth c H locs (cells + mc) (slots + ms) Q (F0 m (pc + 3) ls rest)) : W p l e R s m args below meth c H locs cells slots Q (F0 m pc ls st0) := by
  have hFc := va_free (wc := wc) hD hS hA isC hC
  refine va_callv hr hS (fun q _ h => hFc q h) hFc (fun u t H1 locs1 ht hvm hx hB hz1 hk1 hS => ?_)
  obtain ⟨hP1, hK1, hD1⟩ := hB
  rw [ht] at hP1
  obtain ⟨hP2, hD2⟩ := wupd_ok hP hD isC hC hadr hk1 hP1
  exact kk H1 locs1 hP2 hD2 hS
end CW
