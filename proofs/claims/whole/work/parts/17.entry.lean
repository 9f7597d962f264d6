/-! what the law finds at its entry: the classes, the words that no list of steady words carries -/
theorem en_T {b : Nat} {s : State} (hts : ∀ w ∈ lw_tbl, w.before #[Value.ref b] s = true) : ∀ w ∈ Tg, w.before #[Value.ref b] s = true := fun w h => hts w (List.mem_filter.mp h).1
theorem en_NW {b : Nat} {s : State} (hts : ∀ w ∈ lw_tbl, w.before #[Value.ref b] s = true) : NW s := ⟨va_Nw.of rfl (hts _ (by decide +kernel)), va_Nw.of rfl (hts _ (by decide +kernel)), va_Nw.of rfl (hts _ (by decide +kernel)), va_Nw.of rfl (hts _ (by decide +kernel))⟩
theorem en_XW {b : Nat} {s : State} (hts : ∀ w ∈ lw_tbl, w.before #[Value.ref b] s = true) (hgv : (Jvm.Cond.and given_1 narrow_1).before #[Value.ref b] s = true) : XW s := by
  have hs := flat_of_before _ hgv
  intro w hw
  simp only [xwords, List.mem_cons, List.not_mem_nil, or_false] at hw
  rcases hw with rfl | rfl | rfl | rfl | rfl | rfl | rfl | rfl | rfl | rfl
  · exact hts (.declares (Bundle.init0 "java/lang/RuntimeException")) (by decide +kernel)
  · exact hts (.declares (Bundle.init0 "java/lang/Exception")) (by decide +kernel)
  · exact hts (.declares (Bundle.init0 Bundle.tN)) (by decide +kernel)
  · exact hts (.castable (exn 0) (exn 0)) (by decide +kernel)
  · exact hts (.castable (exn 1) (exn 1)) (by decide +kernel)
  · exact hts (.castable (exn 2) (exn 2)) (by decide +kernel)
  · exact hs (.isRef (.static Bundle.tN "UNASSIGNED_STACK" Bundle.steD)) (by decide +kernel)
  · exact hs (.isRef (.static Bundle.tN "SUPPRESSED_SENTINEL" Bundle.listD)) (by decide +kernel)
  · exact hts (.laysStatic Bundle.tN "UNASSIGNED_STACK" Bundle.steD) (by decide +kernel)
  · exact hts (.laysStatic Bundle.tN "SUPPRESSED_SENTINEL" Bundle.listD) (by decide +kernel)
theorem en_YW {b : Nat} {s : State} (hgv : (Jvm.Cond.and given_1 narrow_1).before #[Value.ref b] s = true) : YW s := by
  have hs := flat_of_before _ hgv
  intro w hw
  simp only [ywords, List.mem_cons, List.not_mem_nil, or_false] at hw
  rcases hw with rfl | rfl | rfl
  · exact hs (.not (.castable (exn 0) (exn 1))) (by decide +kernel)
  · exact hs (.not (.castable (exn 2) (exn 1))) (by decide +kernel)
  · exact hs (.not (.castable (exn 2) (exn 0))) (by decide +kernel)
theorem en_arr {s : State} {args : Array Value} {ty : FieldType} (h : (Cond.arrayClass ty).before args s = true) : ∃ cA, ArrOfT s cA ty ∧ s.vm.findClass ("[" ++ ty.toString) = some cA := by
  simp only [Cond.before, Cond.holds, Cond.value] at h
  cases hc : s.vm.findClass ("[" ++ ty.toString) with
  | none => simp [hc] at h
  | some cA =>
    cases hk : s.vm.classes[cA]? with
    | none => simp [hc, hk] at h
    | some k =>
      simp only [hc, Option.bind_some, hk, Option.map_some] at h
      cases hkind : k.kind with
      | array comp ty' =>
        rw [hkind] at h
        have h2 : ty' = ty := by simpa using h
        subst h2
        exact ⟨cA, fun n z => ⟨fun k h => (by cases h), k, hk, comp, hkind⟩, rfl⟩
      | _ => rw [hkind] at h; simp at h
theorem en_K {b : Nat} {s : State} (hT : ∀ w ∈ Tg, w.before #[Value.ref b] s = true) : ∃ (D : va_G) (cI cJ cZ : ClassId), va_K D vwCl [(cI, .int), (cJ, .long), (cZ, .boolean)] s := by
  obtain ⟨c0, i0, h0⟩ := u_known (T := F_T) (C := R_T) (N := 7) hT in_T (hT _ m23)
  obtain ⟨c1, i1, h1⟩ := u_known (T := F_Net) (C := R_Net) (N := 15) hT in_Net (hT _ m31)
  obtain ⟨c2, i2, h2⟩ := u_known (T := F_GateOrder) (C := R_GateOrder) (N := 4) hT in_GateOrder (hT _ m134)
  obtain ⟨c3, i3, h3⟩ := u_known (T := F_Spread) (C := R_Spread) (N := 5) hT in_Spread (hT _ m164)
  obtain ⟨c4, i4, h4⟩ := u_known (T := F_ClockWays) (C := R_ClockWays) (N := 17) hT in_ClockWays (hT _ m158)
  obtain ⟨c5, i5, h5⟩ := u_known (T := F_Arrivals) (C := R_Arrivals) (N := 4) hT in_Arrivals (hT _ m293)
  obtain ⟨c6, i6, h6⟩ := u_known (T := F_Rooms) (C := R_Rooms) (N := 7) hT in_Rooms (hT _ m260)
  obtain ⟨c7, i7, h7⟩ := u_known (T := F_Slacks) (C := R_Slacks) (N := 8) hT in_Slacks (hT _ m312)
  obtain ⟨c8, i8, h8⟩ := u_known (T := F_WorstPaths) (C := R_WorstPaths) (N := 12) hT in_WorstPaths (hT _ m344)
  obtain ⟨c9, i9, h9⟩ := u_known (T := F_PathList) (C := R_PathList) (N := 5) hT in_PathList (hT _ m350)
  obtain ⟨c10, i10, h10⟩ := u_known (T := F_M) (C := R_M) (N := 53) hT in_M (hT _ m1011)
  obtain ⟨cI, aI, rI⟩ := en_arr (hT _ m132)
  obtain ⟨cJ, aJ, rJ⟩ := en_arr (hT _ m156)
  obtain ⟨cZ, aZ, rZ⟩ := en_arr (hT _ m193)
  refine ⟨((fun k => match k with | 0 => c0 | 1 => c1 | 2 => c2 | 3 => c3 | 4 => c4 | 5 => c5 | 6 => c6 | 7 => c7 | 8 => c8 | 9 => c9 | _ => c10), (fun k => match k with | 0 => i0 | 1 => i1 | 2 => i2 | 3 => i3 | 4 => i4 | 5 => i5 | 6 => i6 | 7 => i7 | 8 => i8 | 9 => i9 | _ => i10)), cI, cJ, cZ, ?_, ?_⟩
  · intro c q hq
    match c, hq with
    | 0, hq => cases hq; exact h0
    | 1, hq => cases hq; exact h1
    | 2, hq => cases hq; exact h2
    | 3, hq => cases hq; exact h3
    | 4, hq => cases hq; exact h4
    | 5, hq => cases hq; exact h5
    | 6, hq => cases hq; exact h6
    | 7, hq => cases hq; exact h7
    | 8, hq => cases hq; exact h8
    | 9, hq => cases hq; exact h9
    | 10, hq => cases hq; exact h10
    | c + 11, hq => cases hq
  · intro k q hq
    match k, hq with
    | 0, hq => cases hq; exact ⟨aI, rI⟩
    | 1, hq => cases hq; exact ⟨aJ, rJ⟩
    | 2, hq => cases hq; exact ⟨aZ, rZ⟩
    | k + 3, hq => cases hq
