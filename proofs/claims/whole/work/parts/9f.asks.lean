/-! cases of the law that ask (laid by wip/whole/gets.py) -/
section DOG
variable {F : Nat} {x : St} {i : Int} {L : Nat} {sc : Int → Int}
theorem do_11 (hF : 200 ≤ F) (hI : Inv F x) (hi : 0 ≤ i) (hiL : i + 6 ≤ L) (hsc : ∀ j, -2147483648 ≤ sc j ∧ sc j ≤ 2147483647) : ∃ x', Do_11 F i L sc x x' ∧ Inv F x' := by
  have hI' := hI
  obtain ⟨hN, hM, hrs, hTA, hA⟩ := hI'
  obtain ⟨⟨e1, e2, e3⟩, ⟨e4, e5, e6, e7, e8⟩, -⟩ := id hM
  obtain ⟨hz, hpw, hk0, hk, -⟩ := id hN
  rcases hA with h0 | ⟨h1, hA⟩
  · have hm : x.M_analysed = 0 := by rw [← hTA]; exact h0
    have t := ways_1 (F := F) (size := x.N_size) (kd := x.N_kind) (wc := x.M_wayCount) (a := (sc (i + 1)))
    have a1 : f_lt_11_1 F x.T_analysed x.N_size x.N_kind i L sc = some 1 := by
      apply ok_eq
      unfold f_lt_11_1
      rw [h0]
      exact (ok_gi ⟨by omega, by omega⟩ (hdg t.1))
    have a2 : f_lr_11 F x.M_nodes x.M_analysed x.M_kinds x.M_wayCount x.out i L sc 1 = some 1 := by
      apply ok_eq
      unfold f_lr_11 f_lr_11_j737
      rw [hm, e3, e4]
      exact (ok_gi ⟨by omega, by omega⟩ (tl t.2 (by omega) (fun z => by omega)))
    exact ⟨_, Or.inr (Or.inr ⟨a1, _, a2, rfl⟩), by rw [Inv_mk]; exact hI⟩
  · have hm : x.M_analysed = 1 := by rw [← hTA]; exact h1
    obtain ⟨A1, A2, A3, A4, A5, A6, A7⟩ := hA
    have A4i : ∀ m b, (0 ≤ m ∧ m < x.N_size) → (b = 0 ∨ b = 1) → tie (x.M_slacks (2 * m + b)) (x.L_least (2 * m + b)) ∧ (-100000000 ≤ x.L_least (2 * m + b) ∧ x.L_least (2 * m + b) ≤ 1000000000) := by
      intro m b hm hb
      have q := A4 m hm.1 hm.2
      rcases hb with rfl | rfl
      · rw [Int.add_zero]; exact ⟨q.1.1, q.2.1⟩
      · exact ⟨q.1.2, q.2.2⟩
    by_cases h : (0 ≤ (sc (i + 1)) ∧ (sc (i + 1)) < x.N_size) ∧ x.N_kind (sc (i + 1)) = 3
    · have t := ways_v (F := F) hz hk (hsc (i + 1)) h (A1 _ h.1.1 h.1.2 h.2).1
      have a1 : f_lh_11 F x.T_analysed x.C_count x.N_size x.N_kind x.out i L sc = some (0, ul x.out 0 (Int32.toInt64 (iI (x.M_wayCount (sc (i + 1)))))) := by
        apply ok_eq
        unfold f_lh_11 f_Law_ways
        rw [h1]
        exact (ok_gi ⟨by omega, by omega⟩ (hdw t.1))
      have a2 : f_lr_11 F x.M_nodes x.M_analysed x.M_kinds x.M_wayCount (ul x.out 0 (Int32.toInt64 (iI (x.M_wayCount (sc (i + 1)))))) i L sc 0 = some 0 := by
        apply ok_eq
        unfold f_lr_11 f_lr_11_j737
        rw [hm, e3, e4]
        exact (ok_gi ⟨by omega, by omega⟩ (tl t.2 (by omega) (fun _ => ul_0)))
      exact ⟨_, Or.inl ⟨_, _, a1, _, a2, rfl⟩, by rw [Inv_mk]; exact hI⟩
    · have t := ways_0 (F := F) (wc := x.M_wayCount) hz hk (hsc (i + 1)) h
      have a1 : f_lt_11_0 F x.T_analysed x.N_size x.N_kind i L sc = some 0 := by
        apply ok_eq
        unfold f_lt_11_0
        rw [h1]
        exact (ok_gi ⟨by omega, by omega⟩ (hdg t.1))
      have a2 : f_lr_11 F x.M_nodes x.M_analysed x.M_kinds x.M_wayCount x.out i L sc 2 = some 2 := by
        apply ok_eq
        unfold f_lr_11 f_lr_11_j737
        rw [hm, e3, e4]
        exact (ok_gi ⟨by omega, by omega⟩ (tl t.2 (by omega) (fun z => by omega)))
      exact ⟨_, Or.inr (Or.inl ⟨a1, _, a2, rfl⟩), by rw [Inv_mk]; exact hI⟩
theorem do_13 (hF : 200 ≤ F) (hI : Inv F x) (hi : 0 ≤ i) (hiL : i + 6 ≤ L) (hsc : ∀ j, -2147483648 ≤ sc j ∧ sc j ≤ 2147483647) : ∃ x', Do_13 F i L sc x x' ∧ Inv F x' := by
  have hI' := hI
  obtain ⟨hN, hM, hrs, hTA, hA⟩ := hI'
  obtain ⟨⟨e1, e2, e3⟩, ⟨e4, e5, e6, e7, e8⟩, -⟩ := id hM
  obtain ⟨hz, hpw, hk0, hk, -⟩ := id hN
  rcases hA with h0 | ⟨h1, hA⟩
  · have hm : x.M_analysed = 0 := by rw [← hTA]; exact h0
    have t := slk_1 (F := F) (size := x.N_size) (kd := x.N_kind) (A := x.L_least) (S := x.M_slacks) (a := (sc (i + 1))) (b := (sc (i + 2)))
    have a1 : f_lt_13_1 F x.T_analysed x.L_least x.N_size x.N_kind i L sc = some 1 := by
      apply ok_eq
      unfold f_lt_13_1
      rw [h0]
      exact (ok_gi ⟨by omega, by omega⟩ (ok_gi ⟨by omega, by omega⟩ (hdg t.1)))
    have a2 : f_lr_13 F x.M_nodes x.M_analysed x.M_kinds x.M_slacks x.out i L sc 1 = some 1 := by
      apply ok_eq
      unfold f_lr_13 f_lr_13_j913
      rw [hm, e3, e4]
      exact (ok_gi ⟨by omega, by omega⟩ (ok_gi ⟨by omega, by omega⟩ (tl t.2 (by omega) (fun z => by omega))))
    exact ⟨_, Or.inr (Or.inr ⟨a1, _, a2, rfl⟩), by rw [Inv_mk]; exact hI⟩
  · have hm : x.M_analysed = 1 := by rw [← hTA]; exact h1
    obtain ⟨A1, A2, A3, A4, A5, A6, A7⟩ := hA
    have A4i : ∀ m b, (0 ≤ m ∧ m < x.N_size) → (b = 0 ∨ b = 1) → tie (x.M_slacks (2 * m + b)) (x.L_least (2 * m + b)) ∧ (-100000000 ≤ x.L_least (2 * m + b) ∧ x.L_least (2 * m + b) ≤ 1000000000) := by
      intro m b hm hb
      have q := A4 m hm.1 hm.2
      rcases hb with rfl | rfl
      · rw [Int.add_zero]; exact ⟨q.1.1, q.2.1⟩
      · exact ⟨q.1.2, q.2.2⟩
    by_cases h : ((0 ≤ (sc (i + 1)) ∧ (sc (i + 1)) < x.N_size) ∧ (x.N_kind (sc (i + 1)) = 4 ∨ x.N_kind (sc (i + 1)) = 3)) ∧ ((sc (i + 2)) = 0 ∨ (sc (i + 2)) = 1)
    · have t := slk_v (F := F) (A := x.L_least) (S := x.M_slacks) hz hk (hsc (i + 1)) (hsc (i + 2)) h (A4i (sc (i + 1)) (sc (i + 2)) h.1.1 h.2).1 (A4i (sc (i + 1)) (sc (i + 2)) h.1.1 h.2).2
      have a1 : f_lh_13 F x.T_analysed x.L_least x.N_size x.N_kind x.out i L sc = some (0, ul x.out 0 (Int32.toInt64 (iI (x.M_slacks (2 * (sc (i + 1)) + (sc (i + 2))))))) := by
        apply ok_eq
        unfold f_lh_13 f_Law_slack
        rw [h1]
        exact (ok_gi ⟨by omega, by omega⟩ (ok_gi ⟨by omega, by omega⟩ (hdw t.1)))
      have a2 : f_lr_13 F x.M_nodes x.M_analysed x.M_kinds x.M_slacks (ul x.out 0 (Int32.toInt64 (iI (x.M_slacks (2 * (sc (i + 1)) + (sc (i + 2))))))) i L sc 0 = some 0 := by
        apply ok_eq
        unfold f_lr_13 f_lr_13_j913
        rw [hm, e3, e4]
        exact (ok_gi ⟨by omega, by omega⟩ (ok_gi ⟨by omega, by omega⟩ (tl t.2 (by omega) (fun _ => ul_0))))
      exact ⟨_, Or.inl ⟨_, _, a1, _, a2, rfl⟩, by rw [Inv_mk]; exact hI⟩
    · have t := slk_0 (F := F) (A := x.L_least) (S := x.M_slacks) hz hk (hsc (i + 1)) (hsc (i + 2)) h
      have a1 : f_lt_13_0 F x.T_analysed x.L_least x.N_size x.N_kind i L sc = some 0 := by
        apply ok_eq
        unfold f_lt_13_0
        rw [h1]
        exact (ok_gi ⟨by omega, by omega⟩ (ok_gi ⟨by omega, by omega⟩ (hdg t.1)))
      have a2 : f_lr_13 F x.M_nodes x.M_analysed x.M_kinds x.M_slacks x.out i L sc 2 = some 2 := by
        apply ok_eq
        unfold f_lr_13 f_lr_13_j913
        rw [hm, e3, e4]
        exact (ok_gi ⟨by omega, by omega⟩ (ok_gi ⟨by omega, by omega⟩ (tl t.2 (by omega) (fun z => by omega))))
      exact ⟨_, Or.inr (Or.inl ⟨a1, _, a2, rfl⟩), by rw [Inv_mk]; exact hI⟩
theorem do_14 (hF : 200 ≤ F) (hI : Inv F x) (hi : 0 ≤ i) (hiL : i + 6 ≤ L) (hsc : ∀ j, -2147483648 ≤ sc j ∧ sc j ≤ 2147483647) : ∃ x', Do_14 F i L sc x x' ∧ Inv F x' := by
  have hI' := hI
  obtain ⟨hN, hM, hrs, hTA, hA⟩ := hI'
  obtain ⟨⟨e1, e2, e3⟩, ⟨e4, e5, e6, e7, e8⟩, -⟩ := id hM
  obtain ⟨hz, hpw, hk0, hk, -⟩ := id hN
  rcases hA with h0 | ⟨h1, hA⟩
  · have hm : x.M_analysed = 0 := by rw [← hTA]; exact h0
    have t := wst_1 (F := F) (size := x.N_size) (A := x.L_least) (S := x.M_slacks) (a := (sc (i + 1))) hF hz
    have a1 : f_lt_14_1 F x.T_analysed x.L_least x.N_size i L sc = some 1 := by
      apply ok_eq
      unfold f_lt_14_1
      rw [h0]
      exact (ok_gi ⟨by omega, by omega⟩ (hdg t.1))
    have a2 : f_lr_14 F x.M_nodes x.M_analysed x.M_slacks x.out i L sc 1 = some 1 := by
      apply ok_eq
      unfold f_lr_14 f_lr_14_j969
      rw [hm, e3]
      exact (ok_gi ⟨by omega, by omega⟩ (tl t.2 (by omega) (fun z => by omega)))
    exact ⟨_, Or.inr (Or.inr ⟨a1, _, a2, rfl⟩), by rw [Inv_mk]; exact hI⟩
  · have hm : x.M_analysed = 1 := by rw [← hTA]; exact h1
    obtain ⟨A1, A2, A3, A4, A5, A6, A7⟩ := hA
    have A4i : ∀ m b, (0 ≤ m ∧ m < x.N_size) → (b = 0 ∨ b = 1) → tie (x.M_slacks (2 * m + b)) (x.L_least (2 * m + b)) ∧ (-100000000 ≤ x.L_least (2 * m + b) ∧ x.L_least (2 * m + b) ≤ 1000000000) := by
      intro m b hm hb
      have q := A4 m hm.1 hm.2
      rcases hb with rfl | rfl
      · rw [Int.add_zero]; exact ⟨q.1.1, q.2.1⟩
      · exact ⟨q.1.2, q.2.2⟩
    by_cases h : (sc (i + 1)) = 0 ∨ (sc (i + 1)) = 1
    · have t := wst_v (F := F) (A := x.L_least) (S := x.M_slacks) hF hz (hsc (i + 1)) h (fun m m1 m2 => A4i m (sc (i + 1)) ⟨m1, m2⟩ h)
      have a1 : f_lh_14 F x.T_analysed x.L_least x.N_size x.out i L sc = some (0, ul x.out 0 (Int32.toInt64 (iI (mWo x.M_slacks (sc (i + 1)) x.N_size.toNat)))) := by
        apply ok_eq
        unfold f_lh_14 f_Law_worst
        rw [h1]
        exact (ok_gi ⟨by omega, by omega⟩ (hdw t.1))
      have a2 : f_lr_14 F x.M_nodes x.M_analysed x.M_slacks (ul x.out 0 (Int32.toInt64 (iI (mWo x.M_slacks (sc (i + 1)) x.N_size.toNat)))) i L sc 0 = some 0 := by
        apply ok_eq
        unfold f_lr_14 f_lr_14_j969
        rw [hm, e3]
        exact (ok_gi ⟨by omega, by omega⟩ (tl t.2 (by omega) (fun _ => ul_0)))
      exact ⟨_, Or.inl ⟨_, _, a1, _, a2, rfl⟩, by rw [Inv_mk]; exact hI⟩
    · have t := wst_0 (F := F) (A := x.L_least) (S := x.M_slacks) hF hz (hsc (i + 1)) h
      have a1 : f_lt_14_0 F x.T_analysed x.L_least x.N_size i L sc = some 0 := by
        apply ok_eq
        unfold f_lt_14_0
        rw [h1]
        exact (ok_gi ⟨by omega, by omega⟩ (hdg t.1))
      have a2 : f_lr_14 F x.M_nodes x.M_analysed x.M_slacks x.out i L sc 2 = some 2 := by
        apply ok_eq
        unfold f_lr_14 f_lr_14_j969
        rw [hm, e3]
        exact (ok_gi ⟨by omega, by omega⟩ (tl t.2 (by omega) (fun z => by omega)))
      exact ⟨_, Or.inr (Or.inl ⟨a1, _, a2, rfl⟩), by rw [Inv_mk]; exact hI⟩
theorem do_15 (hF : 200 ≤ F) (hI : Inv F x) (hi : 0 ≤ i) (hiL : i + 6 ≤ L) (hsc : ∀ j, -2147483648 ≤ sc j ∧ sc j ≤ 2147483647) : ∃ x', Do_15 F i L sc x x' ∧ Inv F x' := by
  have hI' := hI
  obtain ⟨hN, hM, hrs, hTA, hA⟩ := hI'
  obtain ⟨⟨e1, e2, e3⟩, ⟨e4, e5, e6, e7, e8⟩, -⟩ := id hM
  obtain ⟨hz, hpw, hk0, hk, -⟩ := id hN
  rcases hA with h0 | ⟨h1, hA⟩
  · have hm : x.M_analysed = 0 := by rw [← hTA]; exact h0
    have t := tot_1 (F := F) (size := x.N_size) (A := x.L_least) (S := x.M_slacks) (a := (sc (i + 1))) hF hz
    have a1 : f_lt_15_1 F x.T_analysed x.L_least x.N_size i L sc = some 1 := by
      apply ok_eq
      unfold f_lt_15_1
      rw [h0]
      exact (ok_gi ⟨by omega, by omega⟩ (hdg t.1))
    have a2 : f_lr_15 F x.M_nodes x.M_analysed x.M_slacks x.out i L sc 1 = some 1 := by
      apply ok_eq
      unfold f_lr_15 f_lr_15_j1025
      rw [hm, e3]
      exact (ok_gi ⟨by omega, by omega⟩ (tl t.2 (by omega) (fun z => by omega)))
    exact ⟨_, Or.inr (Or.inr ⟨a1, _, a2, rfl⟩), by rw [Inv_mk]; exact hI⟩
  · have hm : x.M_analysed = 1 := by rw [← hTA]; exact h1
    obtain ⟨A1, A2, A3, A4, A5, A6, A7⟩ := hA
    have A4i : ∀ m b, (0 ≤ m ∧ m < x.N_size) → (b = 0 ∨ b = 1) → tie (x.M_slacks (2 * m + b)) (x.L_least (2 * m + b)) ∧ (-100000000 ≤ x.L_least (2 * m + b) ∧ x.L_least (2 * m + b) ≤ 1000000000) := by
      intro m b hm hb
      have q := A4 m hm.1 hm.2
      rcases hb with rfl | rfl
      · rw [Int.add_zero]; exact ⟨q.1.1, q.2.1⟩
      · exact ⟨q.1.2, q.2.2⟩
    by_cases h : (sc (i + 1)) = 0 ∨ (sc (i + 1)) = 1
    · have t := tot_v (F := F) (A := x.L_least) (S := x.M_slacks) hF hz (hsc (i + 1)) h (fun m m1 m2 => A4i m (sc (i + 1)) ⟨m1, m2⟩ h)
      have a1 : f_lh_15 F x.T_analysed x.L_least x.N_size x.out i L sc = some (0, ul x.out 0 (Int32.toInt64 (iI (mTo x.M_slacks (sc (i + 1)) x.N_size.toNat)))) := by
        apply ok_eq
        unfold f_lh_15 f_Law_total
        rw [h1]
        exact (ok_gi ⟨by omega, by omega⟩ (hdw t.1))
      have a2 : f_lr_15 F x.M_nodes x.M_analysed x.M_slacks (ul x.out 0 (Int32.toInt64 (iI (mTo x.M_slacks (sc (i + 1)) x.N_size.toNat)))) i L sc 0 = some 0 := by
        apply ok_eq
        unfold f_lr_15 f_lr_15_j1025
        rw [hm, e3]
        exact (ok_gi ⟨by omega, by omega⟩ (tl t.2 (by omega) (fun _ => ul_0)))
      exact ⟨_, Or.inl ⟨_, _, a1, _, a2, rfl⟩, by rw [Inv_mk]; exact hI⟩
    · have t := tot_0 (F := F) (A := x.L_least) (S := x.M_slacks) hF hz (hsc (i + 1)) h
      have a1 : f_lt_15_0 F x.T_analysed x.L_least x.N_size i L sc = some 0 := by
        apply ok_eq
        unfold f_lt_15_0
        rw [h1]
        exact (ok_gi ⟨by omega, by omega⟩ (hdg t.1))
      have a2 : f_lr_15 F x.M_nodes x.M_analysed x.M_slacks x.out i L sc 2 = some 2 := by
        apply ok_eq
        unfold f_lr_15 f_lr_15_j1025
        rw [hm, e3]
        exact (ok_gi ⟨by omega, by omega⟩ (tl t.2 (by omega) (fun z => by omega)))
      exact ⟨_, Or.inr (Or.inl ⟨a1, _, a2, rfl⟩), by rw [Inv_mk]; exact hI⟩
theorem do_16 (hF : 200 ≤ F) (hI : Inv F x) (hi : 0 ≤ i) (hiL : i + 6 ≤ L) (hsc : ∀ j, -2147483648 ≤ sc j ∧ sc j ≤ 2147483647) : ∃ x', Do_16 F i L sc x x' ∧ Inv F x' := by
  have hI' := hI
  obtain ⟨hN, hM, hrs, hTA, hA⟩ := hI'
  obtain ⟨⟨e1, e2, e3⟩, ⟨e4, e5, e6, e7, e8⟩, -⟩ := id hM
  obtain ⟨hz, hpw, hk0, hk, -⟩ := id hN
  rcases hA with h0 | ⟨h1, hA⟩
  · have hm : x.M_analysed = 0 := by rw [← hTA]; exact h0
    have t := lpe_1 (F := F) (LM := x.L_leastMoving) (LF := x.L_leastFixed) (ww := x.M_worstWith) (wo := x.M_worstWithout) (per := x.N_period) (wid := x.N_width)
    have a1 : f_lt_16_1 F x.T_analysed x.L_leastMoving x.L_leastFixed x.N_period x.N_width = some 1 := by
      apply ok_eq
      unfold f_lt_16_1
      rw [h0]
      exact (hdg t.1)
    have a2 : f_lr_16 F x.M_period x.M_width x.M_analysed x.M_worstWith x.M_worstWithout x.out 1 = some 1 := by
      apply ok_eq
      unfold f_lr_16 f_lr_16_j1069
      rw [hm, e1, e2]
      exact (tl t.2 (by omega) (fun z => by omega))
    exact ⟨_, Or.inr ⟨a1, _, a2, rfl⟩, by rw [Inv_mk]; exact hI⟩
  · have hm : x.M_analysed = 1 := by rw [← hTA]; exact h1
    obtain ⟨A1, A2, A3, A4, A5, A6, A7⟩ := hA
    have A4i : ∀ m b, (0 ≤ m ∧ m < x.N_size) → (b = 0 ∨ b = 1) → tie (x.M_slacks (2 * m + b)) (x.L_least (2 * m + b)) ∧ (-100000000 ≤ x.L_least (2 * m + b) ∧ x.L_least (2 * m + b) ≤ 1000000000) := by
      intro m b hm hb
      have q := A4 m hm.1 hm.2
      rcases hb with rfl | rfl
      · rw [Int.add_zero]; exact ⟨q.1.1, q.2.1⟩
      · exact ⟨q.1.2, q.2.2⟩
    have t := lpe_v (F := F) (wid := x.N_width) (per := x.N_period) ⟨by omega, by omega, by omega⟩ A5.1 A5.2.1 A5.2.2.1 A5.2.2.2
    obtain ⟨v, t⟩ := t
    have a1 : f_lh_16 F x.T_analysed x.L_leastMoving x.L_leastFixed x.N_period x.N_width x.out = some (0, ul x.out 0 (Int32.toInt64 (iI (v)))) := by
      apply ok_eq
      unfold f_lh_16 f_Law_leastPeriod
      rw [h1]
      exact (hdw t.1)
    have a2 : f_lr_16 F x.M_period x.M_width x.M_analysed x.M_worstWith x.M_worstWithout (ul x.out 0 (Int32.toInt64 (iI (v)))) 0 = some 0 := by
      apply ok_eq
      unfold f_lr_16 f_lr_16_j1069
      rw [hm, e1, e2]
      exact (tl t.2 (by omega) (fun _ => ul_0))
    exact ⟨_, Or.inl ⟨_, _, a1, _, a2, rfl⟩, by rw [Inv_mk]; exact hI⟩
theorem do_17 (hF : 200 ≤ F) (hI : Inv F x) (hi : 0 ≤ i) (hiL : i + 6 ≤ L) (hsc : ∀ j, -2147483648 ≤ sc j ∧ sc j ≤ 2147483647) : ∃ x', Do_17 F i L sc x x' ∧ Inv F x' := by
  have hI' := hI
  obtain ⟨hN, hM, hrs, hTA, hA⟩ := hI'
  obtain ⟨⟨e1, e2, e3⟩, ⟨e4, e5, e6, e7, e8⟩, -⟩ := id hM
  obtain ⟨hz, hpw, hk0, hk, -⟩ := id hN
  rcases hA with h0 | ⟨h1, hA⟩
  · have hm : x.M_analysed = 0 := by rw [← hTA]; exact h0
    have t := pat_1 (F := F) (pc := x.L_pathCount) (all := x.M_all)
    have a1 : f_lt_17_1 F x.T_analysed x.L_pathCount = some 1 := by
      apply ok_eq
      unfold f_lt_17_1
      rw [h0]
      exact (hdg t.1)
    have a2 : f_lr_17 F x.M_analysed x.M_all x.out 1 = some 1 := by
      apply ok_eq
      unfold f_lr_17 f_lr_17_j1113
      rw [hm]
      exact (tl t.2 (by omega) (fun z => by omega))
    exact ⟨_, Or.inr ⟨a1, _, a2, rfl⟩, by rw [Inv_mk]; exact hI⟩
  · have hm : x.M_analysed = 1 := by rw [← hTA]; exact h1
    obtain ⟨A1, A2, A3, A4, A5, A6, A7⟩ := hA
    have A4i : ∀ m b, (0 ≤ m ∧ m < x.N_size) → (b = 0 ∨ b = 1) → tie (x.M_slacks (2 * m + b)) (x.L_least (2 * m + b)) ∧ (-100000000 ≤ x.L_least (2 * m + b) ∧ x.L_least (2 * m + b) ≤ 1000000000) := by
      intro m b hm hb
      have q := A4 m hm.1 hm.2
      rcases hb with rfl | rfl
      · rw [Int.add_zero]; exact ⟨q.1.1, q.2.1⟩
      · exact ⟨q.1.2, q.2.2⟩
    have t := pat_v (F := F) A6
    obtain ⟨v, t⟩ := t
    have a1 : f_lh_17 F x.T_analysed x.L_pathCount x.out = some (0, ul x.out 0 (Int32.toInt64 (iI (v)))) := by
      apply ok_eq
      unfold f_lh_17 f_Law_paths
      rw [h1]
      exact (hdw t.1)
    have a2 : f_lr_17 F x.M_analysed x.M_all (ul x.out 0 (Int32.toInt64 (iI (v)))) 0 = some 0 := by
      apply ok_eq
      unfold f_lr_17 f_lr_17_j1113
      rw [hm]
      exact (tl t.2 (by omega) (fun _ => ul_0))
    exact ⟨_, Or.inl ⟨_, _, a1, _, a2, rfl⟩, by rw [Inv_mk]; exact hI⟩
theorem do_12 (hF : 200 ≤ F) (hI : Inv F x) (hi : 0 ≤ i) (hiL : i + 6 ≤ L) (hsc : ∀ j, -2147483648 ≤ sc j ∧ sc j ≤ 2147483647) : ∃ x', Do_12 F i L sc x x' ∧ Inv F x' := by
  have hI' := hI
  obtain ⟨hN, hM, hrs, hTA, hA⟩ := hI'
  obtain ⟨⟨e1, e2, e3⟩, ⟨e4, e5, e6, e7, e8⟩, -⟩ := id hM
  obtain ⟨hz, hpw, hk0, hk, -⟩ := id hN
  rcases hA with h0 | ⟨h1, hA⟩
  · have hm : x.M_analysed = 0 := by rw [← hTA]; exact h0
    have t := fun q => arr_1 (F := F) (size := x.N_size) (kd := x.N_kind) (Zc := x.Z_count) (Ze := x.Z_early) (Zl := x.Z_late) (Vc := x.V_count) (Ve := x.V_early) (Vl := x.V_late) (so := x.N_source) (wE := x.N_wireEarly) (wL := x.N_wireLate) (le := x.M_least) (ge := x.M_greatest) (a := (sc (i + 1))) (b := (sc (i + 2))) (c := (sc (i + 3))) (x4 := q)
    have a1 : f_lt_12_1 F x.T_analysed x.Z_count x.Z_early x.Z_late x.V_count x.V_early x.V_late x.N_size x.N_kind x.N_source x.N_wireEarly x.N_wireLate i L sc = some 1 := by
      apply ok_eq
      unfold f_lt_12_1 f_lt_12_1_j773
      rw [h0]
      exact (ok_gi ⟨by omega, by omega⟩ (ok_gi ⟨by omega, by omega⟩ (ok_gi ⟨by omega, by omega⟩ (ok_gi ⟨by omega, by omega⟩ (ok_gr (hsc _) (ok_if (fun q => hdg (t 0).1) (fun q => hdg (t 1).1)))))))
    have a2 : f_lr_12 F x.M_nodes x.M_analysed x.M_least x.M_greatest x.out i L sc 1 = some 1 := by
      apply ok_eq
      unfold f_lr_12 f_lr_12_j812 f_lr_12_j845
      rw [hm, e3]
      exact (ok_gi ⟨by omega, by omega⟩ (ok_gi ⟨by omega, by omega⟩ (ok_gi ⟨by omega, by omega⟩ (ok_gi ⟨by omega, by omega⟩ (ok_gr (hsc _) (ok_if (fun q => tl (t 0).2 (by omega) (fun z => by omega)) (fun q => tl (t 1).2 (by omega) (fun z => by omega))))))))
    exact ⟨_, Or.inr (Or.inr ⟨a1, _, a2, rfl⟩), by rw [Inv_mk]; exact hI⟩
  · have hm : x.M_analysed = 1 := by rw [← hTA]; exact h1
    obtain ⟨A1, A2, A3, A4, A5, A6, A7⟩ := hA
    by_cases h : (0 ≤ (sc (i + 1)) ∧ (sc (i + 1)) < x.N_size) ∧ ((sc (i + 2)) = 0 ∨ (sc (i + 2)) = 1) ∧ ((sc (i + 3)) = 0 ∨ (sc (i + 3)) = 1)
    · have t := fun q (hq : q = 0 ∨ q = 1) => arr_v (F := F) (kd := x.N_kind) (x4 := q) hz (hsc (i + 1)) (hsc (i + 2)) (hsc (i + 3)) h hq rfl (A3 (sc (i + 1)) (sc (i + 2)) (sc (i + 3)) q h.1.1 h.1.2 h.2.1 h.2.2 (by omega))
      obtain ⟨v, hv0, hv1⟩ : ∃ v, ((sc (i + 4)) = 0 → v = (if (0 : Int) = 0 then x.M_least (4 * (sc (i + 1)) + 2 * (sc (i + 2)) + (sc (i + 3))) else x.M_greatest (4 * (sc (i + 1)) + 2 * (sc (i + 2)) + (sc (i + 3))))) ∧ (¬ (sc (i + 4)) = 0 → v = (if (1 : Int) = 0 then x.M_least (4 * (sc (i + 1)) + 2 * (sc (i + 2)) + (sc (i + 3))) else x.M_greatest (4 * (sc (i + 1)) + 2 * (sc (i + 2)) + (sc (i + 3))))) := by
        by_cases q : (sc (i + 4)) = 0
        · exact ⟨_, fun _ => rfl, fun z => absurd q z⟩
        · exact ⟨_, fun z => absurd z q, fun _ => rfl⟩
      have a1 : f_lh_12 F x.T_analysed x.Z_count x.Z_early x.Z_late x.V_count x.V_early x.V_late x.N_size x.N_kind x.N_source x.N_wireEarly x.N_wireLate x.out i L sc = some (0, ul x.out 0 (Int32.toInt64 (iI v))) := by
        apply ok_eq
        unfold f_lh_12 f_lh_12_j773 f_Law_arrival
        rw [h1]
        exact (ok_gi ⟨by omega, by omega⟩ (ok_gi ⟨by omega, by omega⟩ (ok_gi ⟨by omega, by omega⟩ (ok_gi ⟨by omega, by omega⟩ (ok_gr (hsc _) (ok_if (fun q => by rw [hv0 q]; exact hdw (t 0 (Or.inl rfl)).1) (fun q => by rw [hv1 q]; exact hdw (t 1 (Or.inr rfl)).1)))))))
      have a2 : f_lr_12 F x.M_nodes x.M_analysed x.M_least x.M_greatest (ul x.out 0 (Int32.toInt64 (iI v))) i L sc 0 = some 0 := by
        apply ok_eq
        unfold f_lr_12 f_lr_12_j812 f_lr_12_j845
        rw [hm, e3]
        exact (ok_gi ⟨by omega, by omega⟩ (ok_gi ⟨by omega, by omega⟩ (ok_gi ⟨by omega, by omega⟩ (ok_gi ⟨by omega, by omega⟩ (ok_gr (hsc _) (ok_if (fun q => tl (t 0 (Or.inl rfl)).2 (by omega) (fun _ => by rw [hv0 q]; exact ul_0)) (fun q => tl (t 1 (Or.inr rfl)).2 (by omega) (fun _ => by rw [hv1 q]; exact ul_0))))))))
      exact ⟨_, Or.inl ⟨_, _, a1, _, a2, rfl⟩, by rw [Inv_mk]; exact hI⟩
    · have t := fun q (hq : q = 0 ∨ q = 1) => arr_0 (F := F) (kd := x.N_kind) (Zc := x.Z_count) (Ze := x.Z_early) (Zl := x.Z_late) (Vc := x.V_count) (Ve := x.V_early) (Vl := x.V_late) (so := x.N_source) (wE := x.N_wireEarly) (wL := x.N_wireLate) (le := x.M_least) (ge := x.M_greatest) (x4 := q) hz (hsc (i + 1)) (hsc (i + 2)) (hsc (i + 3)) h hq
      have a1 : f_lt_12_0 F x.T_analysed x.Z_count x.Z_early x.Z_late x.V_count x.V_early x.V_late x.N_size x.N_kind x.N_source x.N_wireEarly x.N_wireLate i L sc = some 0 := by
        apply ok_eq
        unfold f_lt_12_0 f_lt_12_0_j773
        rw [h1]
        exact (ok_gi ⟨by omega, by omega⟩ (ok_gi ⟨by omega, by omega⟩ (ok_gi ⟨by omega, by omega⟩ (ok_gi ⟨by omega, by omega⟩ (ok_gr (hsc _) (ok_if (fun q => hdg (t 0 (Or.inl rfl)).1) (fun q => hdg (t 1 (Or.inr rfl)).1)))))))
      have a2 : f_lr_12 F x.M_nodes x.M_analysed x.M_least x.M_greatest x.out i L sc 2 = some 2 := by
        apply ok_eq
        unfold f_lr_12 f_lr_12_j812 f_lr_12_j845
        rw [hm, e3]
        exact (ok_gi ⟨by omega, by omega⟩ (ok_gi ⟨by omega, by omega⟩ (ok_gi ⟨by omega, by omega⟩ (ok_gi ⟨by omega, by omega⟩ (ok_gr (hsc _) (ok_if (fun q => tl (t 0 (Or.inl rfl)).2 (by omega) (fun z => by omega)) (fun q => tl (t 1 (Or.inr rfl)).2 (by omega) (fun z => by omega))))))))
      exact ⟨_, Or.inr (Or.inl ⟨a1, _, a2, rfl⟩), by rw [Inv_mk]; exact hI⟩
end DOG
