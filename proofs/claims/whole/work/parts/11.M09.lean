abbrev rm_M_slack : Room := { frames := 1, cells := 0, slots := 0, locals := 21 }
set_option maxHeartbeats 4000000 in
set_option maxRecDepth 100000 in
theorem c_M_slack (l : Launch) (D : va_G) (cI cJ cZ : ClassId) (F : Nat) (a : Nat → Nat) (M_thrown : Int) (M_period : Int) (M_width : Int) (M_nodes : Int) (M_analysed : Int) (M_gates : Int) (M_startNode : Int) (M_startChange : Int) (M_startWay : Int) (M_startBase : Int) (M_startEarly : Int) (M_startLate : Int) (M_worstWith : Int) (M_worstWithout : Int) (M_all : Int64) (M_rowSize : Int) (M_kinds : Int → Int) (M_slacks : Int → Int) (x1 : Int) (x2 : Int) (r : Int) (z_M_thrown : Int) (sz : Nat) (h : f_M_slack F M_nodes M_analysed M_kinds M_slacks x1 x2 = some (r, z_M_thrown)) : Met l y_M_slack w_M_slack rm_M_slack (PC D [(cI, .int), (cJ, .long), (cZ, .boolean)] [.ref (a 0), .int (iI x1), .int (iI x2)] ([(o_M a M_thrown M_period M_width M_nodes M_analysed M_gates M_startNode M_startChange M_startWay M_startBase M_startEarly M_startLate M_worstWith M_worstWithout M_all M_rowSize), ((a 1), .inl (cI, 48, .inl (ia M_kinds))), ((a 26), .inl (cI, 96, .inl (ia M_slacks)))]) sz) (QI D [(cI, .int), (cJ, .long), (cZ, .boolean)] ([(o_M a M_thrown M_period M_width M_nodes M_analysed M_gates M_startNode M_startChange M_startWay M_startBase M_startEarly M_startLate M_worstWith M_worstWithout M_all M_rowSize), ((a 1), .inl (cI, 48, .inl (ia M_kinds))), ((a 26), .inl (cI, 96, .inl (ia M_slacks)))]) sz r ([(o_M a z_M_thrown M_period M_width M_nodes M_analysed M_gates M_startNode M_startChange M_startWay M_startBase M_startEarly M_startLate M_worstWith M_worstWithout M_all M_rowSize), ((a 1), .inl (cI, 48, .inl (ia M_kinds))), ((a 26), .inl (cI, 96, .inl (ia M_slacks)))])) 0 0 (va_A ([(o_M a M_thrown M_period M_width M_nodes M_analysed M_gates M_startNode M_startChange M_startWay M_startBase M_startEarly M_startLate M_worstWith M_worstWithout M_all M_rowSize), ((a 1), .inl (cI, 48, .inl (ia M_kinds))), ((a 26), .inl (cI, 96, .inl (ia M_slacks)))]) sz) := by
  refine Met.ofW (cc := prog_12_method_49_code) (maxL := 3) (ret := (Option.some Jvm.ClassFile.FieldType.int)) (by decide) rfl ?_
  intro p e s m args below meth c s₁ B hml hv
  obtain ⟨rfl, hsz, hP, hK, hD0, hN⟩ := hv
  have hx := B.exec
  have hb := B.bytes
  have hr := B.returns
  have hts := atoms_spec (ws := w_M_slack) B.pre
  have hown : s.vm.findClass R_M = some m.cls := findClass_of_methodNamed B.named
  have hlocks := B.notSynchronized
  subst hsz
  have hD := hD0.self (sz := s.heap.size)
  obtain ⟨A, hAe⟩ : ∃ A, A = va_A ([(o_M a M_thrown M_period M_width M_nodes M_analysed M_gates M_startNode M_startChange M_startWay M_startBase M_startEarly M_startLate M_worstWith M_worstWithout M_all M_rowSize), ((a 1), .inl (cI, 48, .inl (ia M_kinds))), ((a 26), .inl (cI, 96, .inl (ia M_slacks)))]) s.heap.size := ⟨_, rfl⟩
  rw [← hAe] at hD
  have hA : ∀ q : Nat, s.heap.size ≤ q → A q := fun q h => by rw [hAe]; exact Or.inr h
  have hS : va_S A s.heap s.heap [] := va_S.rf
  have hl := lv_entry ([.ref (a 0), .int (iI x1), .int (iI x2)]) (n := 3) (Nat.le_of_ble_eq_true rfl)
  rw [lg_entry_eq]
  generalize (lg_sl ([.ref (a 0), .int (iI x1), .int (iI x2)]) ++ List.replicate (3 - (lg_sl ([.ref (a 0), .int (iI x1), .int (iI x2)])).length) Slot.unset).toArray = ls at hl ⊢
  have hl : lv_has ls 3 [(0, .ref (a 0)), (1, .int (iI x1)), (2, .int (iI x2))] := hl
  generalize (List.toArray ([.ref (a 0), .int (iI x1), .int (iI x2)] : List Value)) = args at hts ⊢
  have hT : ∀ w ∈ Tg, w.before args s = true := fun w h => hts w (List.mem_cons_of_mem _ h)
  obtain ⟨Q, hQ⟩ : ∃ Q, Q = MQ below (QI D [(cI, .int), (cJ, .long), (cZ, .boolean)] ([(o_M a M_thrown M_period M_width M_nodes M_analysed M_gates M_startNode M_startChange M_startWay M_startBase M_startEarly M_startLate M_worstWith M_worstWithout M_all M_rowSize), ((a 1), .inl (cI, 48, .inl (ia M_kinds))), ((a 26), .inl (cI, 96, .inl (ia M_slacks)))]) s.heap.size r ([(o_M a z_M_thrown M_period M_width M_nodes M_analysed M_gates M_startNode M_startChange M_startWay M_startBase M_startEarly M_startLate M_worstWith M_worstWithout M_all M_rowSize), ((a 1), .inl (cI, 48, .inl (ia M_kinds))), ((a 26), .inl (cI, 96, .inl (ia M_slacks)))])) args s 0 0 (va_A ([(o_M a M_thrown M_period M_width M_nodes M_analysed M_gates M_startNode M_startChange M_startWay M_startBase M_startEarly M_startLate M_worstWith M_worstWithout M_all M_rowSize), ((a 1), .inl (cI, 48, .inl (ia M_kinds))), ((a 26), .inl (cI, 96, .inl (ia M_slacks)))]) s.heap.size) := ⟨_, rfl⟩
  rw [← hQ]
  suffices hW : ∀ (H : Heap) (locs : List Loc), va_P D vwCl ([(o_M a M_thrown M_period M_width M_nodes M_analysed M_gates M_startNode M_startChange M_startWay M_startBase M_startEarly M_startLate M_worstWith M_worstWithout M_all M_rowSize), ((a 1), .inl (cI, 48, .inl (ia M_kinds))), ((a 26), .inl (cI, 96, .inl (ia M_slacks)))]) H → va_D A ([(o_M a M_thrown M_period M_width M_nodes M_analysed M_gates M_startNode M_startChange M_startWay M_startBase M_startEarly M_startLate M_worstWith M_worstWithout M_all M_rowSize), ((a 1), .inl (cI, 48, .inl (ia M_kinds))), ((a 26), .inl (cI, 96, .inl (ia M_slacks)))]) → va_S A s.heap H locs → W p l e (headSpec w_M_slack rm_M_slack).room s m args below meth c H locs 0 0 Q (F0 m 0 ls []) from hW s.heap [] hP hD hS
  clear hP hD hS
  intro H locs hP hD hS
  rw [f_M_slack] at h
  refine lv_aload_n hx hb d_M_slack_0 rfl (lv_at hl 0 rfl) ?_
  refine lv_aload_n hx hb d_M_slack_1 rfl (lv_at hl 0 rfl) ?_
  refine va_get (D := D) (ci := 10) (v := .int (iI M_analysed)) (C := R_M) (T := F_M) (N := 53) hx hb hT in_M hown hK hP 0 rfl rfl 14 (by decide) (hT _ m1035) (fun _ h9 => h9) rfl d_M_slack_2 ?_
  have hj32 : ∀ (q1 : Int) (H : Heap) (locs : List Loc) (ls : Array Slot), va_P D vwCl [(o_M a M_thrown M_period M_width M_nodes M_analysed M_gates M_startNode M_startChange M_startWay M_startBase M_startEarly M_startLate M_worstWith M_worstWithout M_all M_rowSize), ((a 1), .inl (cI, 48, .inl (ia M_kinds))), ((a 26), .inl (cI, 96, .inl (ia M_slacks)))] H → va_D A [(o_M a M_thrown M_period M_width M_nodes M_analysed M_gates M_startNode M_startChange M_startWay M_startBase M_startEarly M_startLate M_worstWith M_worstWithout M_all M_rowSize), ((a 1), .inl (cI, 48, .inl (ia M_kinds))), ((a 26), .inl (cI, 96, .inl (ia M_slacks)))] → va_S A s.heap H locs → lv_has ls 3 [(0, .ref (a 0)), (1, .int (iI x1)), (2, .int (iI x2))] → f_M_slack_j32 F M_slacks x1 x2 q1 = some (r, z_M_thrown) → W p l e (headSpec w_M_slack rm_M_slack).room s m args below meth c H locs 0 0 Q (F0 m 32 ls [.int (iI q1), .ref (a 0)]) := by
    intro q1 H locs ls hP hD hS hl h
    rw [f_M_slack_j32] at h
    refine va_put (D := D) (ci := 10) (v := .int (iI q1)) (ty := .int) (C := R_M) (T := F_M) (N := 53) hx hb hT in_M ty_M ty_M_ok n_M hown hK hP hD hS 0 rfl rfl 0 (by decide) (hT _ m1021) (fun _ h9 => h9) rfl (by decide +kernel) rfl rfl (Nat.le_of_ble_eq_true rfl) d_M_slack_32 (fun H locs hP hD hS => ?_)
    have hP : va_P D vwCl [(o_M a q1 M_period M_width M_nodes M_analysed M_gates M_startNode M_startChange M_startWay M_startBase M_startEarly M_startLate M_worstWith M_worstWithout M_all M_rowSize), ((a 1), .inl (cI, 48, .inl (ia M_kinds))), ((a 26), .inl (cI, 96, .inl (ia M_slacks)))] H := hP
    have hD : va_D A [(o_M a q1 M_period M_width M_nodes M_analysed M_gates M_startNode M_startChange M_startWay M_startBase M_startEarly M_startLate M_worstWith M_worstWithout M_all M_rowSize), ((a 1), .inl (cI, 48, .inl (ia M_kinds))), ((a 26), .inl (cI, 96, .inl (ia M_slacks)))] := hD
    refine lv_aload_n hx hb d_M_slack_35 rfl (lv_at hl 0 rfl) ?_
    refine va_get (D := D) (ci := 10) (v := .int (iI q1)) (C := R_M) (T := F_M) (N := 53) hx hb hT in_M hown hK hP 0 rfl rfl 0 (by decide) (hT _ m1021) (fun _ h9 => h9) rfl d_M_slack_36 ?_
    obtain ⟨hg0, h⟩ := gr_e h
    refine zi_le hx hb d_M_slack_39 rfl hg0 (fun hc => ?_) (fun hc => ?_)
    · replace h := if_t hc h
      refine lv_aload_n hx hb d_M_slack_46 rfl (lv_at hl 0 rfl) ?_
      refine va_get (D := D) (ci := 10) (v := .ref (a 26)) (C := R_M) (T := F_M) (N := 53) hx hb hT in_M hown hK hP 0 rfl rfl 37 (by decide) (hT _ m1058) (fun _ h9 => h9) rfl d_M_slack_47 ?_
      refine zv_iconst hx hb d_M_slack_50 ?_
      refine lv_iload_n hx hb d_M_slack_51 rfl (lv_at hl 1 rfl) ?_
      refine zv_imul hx hb d_M_slack_52 ?_
      refine lv_iload_n hx hb d_M_slack_53 rfl (lv_at hl 2 rfl) ?_
      refine zv_iadd hx hb d_M_slack_54 ?_
      obtain ⟨hin, h⟩ := gi_e h
      refine zv_iald hx hb hK hP 2 0 rfl rfl (Nat.le_of_ble_eq_true rfl) hin d_M_slack_55 ?_
      obtain ⟨e1, e2⟩ := so2 h
      rw [hQ, e1, e2]; rw [hAe] at hD hS; exact W.iret hx hb hr (fun t ht hW => ⟨⟨_, (), rfl, rfl, by rw [ht]; exact hP, va_K.moved hW.alike hK, hD⟩, hS.F ht⟩) hS.2.2 d_M_slack_56
    · replace h := if_f hc h
      refine zv_iconst hx hb d_M_slack_42 ?_
      refine lv_goto hx hb d_M_slack_43 rfl ?_
      obtain ⟨e1, e2⟩ := so2 h
      rw [hQ, e1, e2]; rw [hAe] at hD hS; exact W.iret hx hb hr (fun t ht hW => ⟨⟨_, (), rfl, rfl, by rw [ht]; exact hP, va_K.moved hW.alike hK, hD⟩, hS.F ht⟩) hS.2.2 d_M_slack_56
  obtain ⟨hg0, h⟩ := gr_e h
  refine zi_ne hx hb d_M_slack_5 rfl hg0 (fun hc => ?_) (fun hc => ?_)
  · replace h := if_f hc h
    refine lv_aload_n hx hb d_M_slack_12 rfl (lv_at hl 0 rfl) ?_
    refine lv_iload_n hx hb d_M_slack_13 rfl (lv_at hl 1 rfl) ?_
    obtain ⟨r14, hcall, h⟩ := ob1_e h
    refine ro_i (va_Run.run (va_runV (As := [.int (iI x1)]) (rest := [.ref (a 0)]) ⟨hx, hb, hml, hown, hts⟩ (c_M_isEnd l D cI cJ cZ F a M_thrown M_period M_width M_nodes M_analysed M_gates M_startNode M_startChange M_startWay M_startBase M_startEarly M_startLate M_worstWith M_worstWithout M_all M_rowSize M_kinds x1 r14 H.size hcall) (cwV 1 hts (gd_V m1237 m1234 m1236 sl_M_isEnd m12) rfl rfl rfl ⟨rfl, hc_M_isEnd⟩ ⟨Nat.le_of_ble_eq_true rfl, Nat.le_of_ble_eq_true rfl⟩) (pc_V 0 10 [.int (iI x1)] hP hK hD hN [0, 1] rfl rfl rfl rfl rfl) rfl rfl hl.1 rfl (lv_room (Nat.le_of_ble_eq_true rfl)) d_M_slack_14 ⟨Nat.le_refl 0, Nat.le_refl 0⟩)) (W.eq (g2 := F0 m 17 ls [.int (iI r14), .ref (a 0)]) rfl ?_)
    have hj27 : ∀  (H : Heap) (locs : List Loc) (ls : Array Slot), va_P D vwCl [(o_M a M_thrown M_period M_width M_nodes M_analysed M_gates M_startNode M_startChange M_startWay M_startBase M_startEarly M_startLate M_worstWith M_worstWithout M_all M_rowSize), ((a 1), .inl (cI, 48, .inl (ia M_kinds))), ((a 26), .inl (cI, 96, .inl (ia M_slacks)))] H → va_D A [(o_M a M_thrown M_period M_width M_nodes M_analysed M_gates M_startNode M_startChange M_startWay M_startBase M_startEarly M_startLate M_worstWith M_worstWithout M_all M_rowSize), ((a 1), .inl (cI, 48, .inl (ia M_kinds))), ((a 26), .inl (cI, 96, .inl (ia M_slacks)))] → va_S A s.heap H locs → lv_has ls 3 [(0, .ref (a 0)), (1, .int (iI x1)), (2, .int (iI x2))] → f_M_slack_j27 F M_slacks x1 x2 = some (r, z_M_thrown) → W p l e (headSpec w_M_slack rm_M_slack).room s m args below meth c H locs 0 0 Q (F0 m 27 ls [.ref (a 0)]) := by
      intro  H locs ls hP hD hS hl h
      rw [f_M_slack_j27] at h
      refine zv_iconst hx hb d_M_slack_27 ?_
      refine lv_goto hx hb d_M_slack_28 rfl ?_
      exact hj32 2 H locs ls hP hD hS (lv_sub hl [0, 1, 2] rfl) h
    obtain ⟨hg0, h⟩ := gr_e h
    refine zi_eq hx hb d_M_slack_17 rfl hg0 (fun hc => ?_) (fun hc => ?_)
    · replace h := if_t hc h
      exact hj27  H locs ls hP hD hS (lv_sub hl [0, 1, 2] rfl) h
    · replace h := if_f hc h
      refine lv_iload_n hx hb d_M_slack_20 rfl (lv_at hl 2 rfl) ?_
      obtain ⟨r21, hcall, h⟩ := ob1_e h
      refine ro_i (va_Run.run (va_runS (As := [.int (iI x2)]) (rest := [.ref (a 0)]) ⟨hx, hb, hml, hown, hts⟩ (c_M_noBit l D cI cJ cZ F a x2 r21 H.size hcall) (cwS 1 hts (gd_S m1367 m1365 m1366 m12) rfl rfl rfl ⟨rfl, hc_M_noBit⟩ ⟨Nat.le_of_ble_eq_true rfl, Nat.le_of_ble_eq_true rfl⟩) (pc_S [.int (iI x2)] hP hK hD hN [] rfl rfl rfl) rfl rfl hl.1 rfl (lv_room (Nat.le_of_ble_eq_true rfl)) d_M_slack_21 ⟨Nat.le_refl 0, Nat.le_refl 0⟩)) (W.eq (g2 := F0 m 24 ls [.int (iI r21), .ref (a 0)]) rfl ?_)
      obtain ⟨hg0, h⟩ := gr_e h
      refine zi_eq hx hb d_M_slack_24 rfl hg0 (fun hc => ?_) (fun hc => ?_)
      · replace h := if_t hc h
        refine zv_iconst hx hb d_M_slack_31 ?_
        exact hj32 0 H locs ls hP hD hS (lv_sub hl [0, 1, 2] rfl) h
      · replace h := if_f hc h
        exact hj27  H locs ls hP hD hS (lv_sub hl [0, 1, 2] rfl) h
  · replace h := if_t hc h
    refine zv_iconst hx hb d_M_slack_8 ?_
    refine lv_goto hx hb d_M_slack_9 rfl ?_
    exact hj32 1 H locs ls hP hD hS (lv_sub hl [0, 1, 2] rfl) h
abbrev rm_M_worst : Room := { frames := 1, cells := 0, slots := 0, locals := 20 }
set_option maxHeartbeats 4000000 in
set_option maxRecDepth 100000 in
theorem c_M_worst (l : Launch) (D : va_G) (cI cJ cZ : ClassId) (F : Nat) (a : Nat → Nat) (M_thrown : Int) (M_period : Int) (M_width : Int) (M_nodes : Int) (M_analysed : Int) (M_gates : Int) (M_startNode : Int) (M_startChange : Int) (M_startWay : Int) (M_startBase : Int) (M_startEarly : Int) (M_startLate : Int) (M_worstWith : Int) (M_worstWithout : Int) (M_all : Int64) (M_rowSize : Int) (M_slacks : Int → Int) (x1 : Int) (r : Int) (z_M_thrown : Int) (sz : Nat) (h : f_M_worst F M_nodes M_analysed M_slacks x1 = some (r, z_M_thrown)) : Met l y_M_worst w_M_worst rm_M_worst (PC D [(cI, .int), (cJ, .long), (cZ, .boolean)] [.ref (a 0), .int (iI x1)] ([(o_M a M_thrown M_period M_width M_nodes M_analysed M_gates M_startNode M_startChange M_startWay M_startBase M_startEarly M_startLate M_worstWith M_worstWithout M_all M_rowSize), ((a 26), .inl (cI, 96, .inl (ia M_slacks)))]) sz) (QI D [(cI, .int), (cJ, .long), (cZ, .boolean)] ([(o_M a M_thrown M_period M_width M_nodes M_analysed M_gates M_startNode M_startChange M_startWay M_startBase M_startEarly M_startLate M_worstWith M_worstWithout M_all M_rowSize), ((a 26), .inl (cI, 96, .inl (ia M_slacks)))]) sz r ([(o_M a z_M_thrown M_period M_width M_nodes M_analysed M_gates M_startNode M_startChange M_startWay M_startBase M_startEarly M_startLate M_worstWith M_worstWithout M_all M_rowSize), ((a 26), .inl (cI, 96, .inl (ia M_slacks)))])) 0 0 (va_A ([(o_M a M_thrown M_period M_width M_nodes M_analysed M_gates M_startNode M_startChange M_startWay M_startBase M_startEarly M_startLate M_worstWith M_worstWithout M_all M_rowSize), ((a 26), .inl (cI, 96, .inl (ia M_slacks)))]) sz) := by
  refine Met.ofW (cc := prog_12_method_50_code) (maxL := 5) (ret := (Option.some Jvm.ClassFile.FieldType.int)) (by decide) rfl ?_
  intro p e s m args below meth c s₁ B hml hv
  obtain ⟨rfl, hsz, hP, hK, hD0, hN⟩ := hv
  have hx := B.exec
  have hb := B.bytes
  have hr := B.returns
  have hts := atoms_spec (ws := w_M_worst) B.pre
  have hown : s.vm.findClass R_M = some m.cls := findClass_of_methodNamed B.named
  have hlocks := B.notSynchronized
  subst hsz
  have hD := hD0.self (sz := s.heap.size)
  obtain ⟨A, hAe⟩ : ∃ A, A = va_A ([(o_M a M_thrown M_period M_width M_nodes M_analysed M_gates M_startNode M_startChange M_startWay M_startBase M_startEarly M_startLate M_worstWith M_worstWithout M_all M_rowSize), ((a 26), .inl (cI, 96, .inl (ia M_slacks)))]) s.heap.size := ⟨_, rfl⟩
  rw [← hAe] at hD
  have hA : ∀ q : Nat, s.heap.size ≤ q → A q := fun q h => by rw [hAe]; exact Or.inr h
  have hS : va_S A s.heap s.heap [] := va_S.rf
  have hl := lv_entry ([.ref (a 0), .int (iI x1)]) (n := 5) (Nat.le_of_ble_eq_true rfl)
  rw [lg_entry_eq]
  generalize (lg_sl ([.ref (a 0), .int (iI x1)]) ++ List.replicate (5 - (lg_sl ([.ref (a 0), .int (iI x1)])).length) Slot.unset).toArray = ls at hl ⊢
  have hl : lv_has ls 5 [(0, .ref (a 0)), (1, .int (iI x1))] := hl
  generalize (List.toArray ([.ref (a 0), .int (iI x1)] : List Value)) = args at hts ⊢
  have hT : ∀ w ∈ Tg, w.before args s = true := fun w h => hts w (List.mem_cons_of_mem _ h)
  obtain ⟨Q, hQ⟩ : ∃ Q, Q = MQ below (QI D [(cI, .int), (cJ, .long), (cZ, .boolean)] ([(o_M a M_thrown M_period M_width M_nodes M_analysed M_gates M_startNode M_startChange M_startWay M_startBase M_startEarly M_startLate M_worstWith M_worstWithout M_all M_rowSize), ((a 26), .inl (cI, 96, .inl (ia M_slacks)))]) s.heap.size r ([(o_M a z_M_thrown M_period M_width M_nodes M_analysed M_gates M_startNode M_startChange M_startWay M_startBase M_startEarly M_startLate M_worstWith M_worstWithout M_all M_rowSize), ((a 26), .inl (cI, 96, .inl (ia M_slacks)))])) args s 0 0 (va_A ([(o_M a M_thrown M_period M_width M_nodes M_analysed M_gates M_startNode M_startChange M_startWay M_startBase M_startEarly M_startLate M_worstWith M_worstWithout M_all M_rowSize), ((a 26), .inl (cI, 96, .inl (ia M_slacks)))]) s.heap.size) := ⟨_, rfl⟩
  rw [← hQ]
  suffices hW : ∀ (H : Heap) (locs : List Loc), va_P D vwCl ([(o_M a M_thrown M_period M_width M_nodes M_analysed M_gates M_startNode M_startChange M_startWay M_startBase M_startEarly M_startLate M_worstWith M_worstWithout M_all M_rowSize), ((a 26), .inl (cI, 96, .inl (ia M_slacks)))]) H → va_D A ([(o_M a M_thrown M_period M_width M_nodes M_analysed M_gates M_startNode M_startChange M_startWay M_startBase M_startEarly M_startLate M_worstWith M_worstWithout M_all M_rowSize), ((a 26), .inl (cI, 96, .inl (ia M_slacks)))]) → va_S A s.heap H locs → W p l e (headSpec w_M_worst rm_M_worst).room s m args below meth c H locs 0 0 Q (F0 m 0 ls []) from hW s.heap [] hP hD hS
  clear hP hD hS
  intro H locs hP hD hS
  have hk0 := (show (Cond.constant "PathTimingModel" 140 (iI (-2147483648))).before args s = true from by rw [show iI (-2147483648) = ((-2147483648) : Int32) from by decide]; exact hT _ m1020)
  rw [f_M_worst] at h
  refine lv_aload_n hx hb d_M_worst_0 rfl (lv_at hl 0 rfl) ?_
  refine lv_aload_n hx hb d_M_worst_1 rfl (lv_at hl 0 rfl) ?_
  refine va_get (D := D) (ci := 10) (v := .int (iI M_analysed)) (C := R_M) (T := F_M) (N := 53) hx hb hT in_M hown hK hP 0 rfl rfl 14 (by decide) (hT _ m1035) (fun _ h9 => h9) rfl d_M_worst_2 ?_
  have hj24 : ∀ (q1 : Int) (H : Heap) (locs : List Loc) (ls : Array Slot), va_P D vwCl [(o_M a M_thrown M_period M_width M_nodes M_analysed M_gates M_startNode M_startChange M_startWay M_startBase M_startEarly M_startLate M_worstWith M_worstWithout M_all M_rowSize), ((a 26), .inl (cI, 96, .inl (ia M_slacks)))] H → va_D A [(o_M a M_thrown M_period M_width M_nodes M_analysed M_gates M_startNode M_startChange M_startWay M_startBase M_startEarly M_startLate M_worstWith M_worstWithout M_all M_rowSize), ((a 26), .inl (cI, 96, .inl (ia M_slacks)))] → va_S A s.heap H locs → lv_has ls 5 [(0, .ref (a 0)), (1, .int (iI x1))] → f_M_worst_j24 F M_nodes M_slacks x1 q1 = some (r, z_M_thrown) → W p l e (headSpec w_M_worst rm_M_worst).room s m args below meth c H locs 0 0 Q (F0 m 24 ls [.int (iI q1), .ref (a 0)]) := by
    intro q1 H locs ls hP hD hS hl h
    rw [f_M_worst_j24] at h
    refine va_put (D := D) (ci := 10) (v := .int (iI q1)) (ty := .int) (C := R_M) (T := F_M) (N := 53) hx hb hT in_M ty_M ty_M_ok n_M hown hK hP hD hS 0 rfl rfl 0 (by decide) (hT _ m1021) (fun _ h9 => h9) rfl (by decide +kernel) rfl rfl (Nat.le_of_ble_eq_true rfl) d_M_worst_24 (fun H locs hP hD hS => ?_)
    have hP : va_P D vwCl [(o_M a q1 M_period M_width M_nodes M_analysed M_gates M_startNode M_startChange M_startWay M_startBase M_startEarly M_startLate M_worstWith M_worstWithout M_all M_rowSize), ((a 26), .inl (cI, 96, .inl (ia M_slacks)))] H := hP
    have hD : va_D A [(o_M a q1 M_period M_width M_nodes M_analysed M_gates M_startNode M_startChange M_startWay M_startBase M_startEarly M_startLate M_worstWith M_worstWithout M_all M_rowSize), ((a 26), .inl (cI, 96, .inl (ia M_slacks)))] := hD
    refine lv_ldc hx hb hown hk0 d_M_worst_27 ?_
    refine lv_istore_n (lv' := [(2, .int (iI (-2147483648))), (0, .ref (a 0)), (1, .int (iI x1))]) hx hb d_M_worst_29 rfl hl (by decide) rfl (fun ls hl => ?_)
    refine zv_iconst hx hb d_M_worst_30 ?_
    refine lv_istore_n (lv' := [(3, .int (iI 0)), (2, .int (iI (-2147483648))), (0, .ref (a 0)), (1, .int (iI x1))]) hx hb d_M_worst_31 rfl hl (by decide) rfl (fun ls hl => ?_)
    have hl32 : ∀ (nf : Nat) (v2 : Int) (v3 : Int) (H : Heap) (locs : List Loc) (ls : Array Slot), va_P D vwCl [(o_M a q1 M_period M_width M_nodes M_analysed M_gates M_startNode M_startChange M_startWay M_startBase M_startEarly M_startLate M_worstWith M_worstWithout M_all M_rowSize), ((a 26), .inl (cI, 96, .inl (ia M_slacks)))] H → va_D A [(o_M a q1 M_period M_width M_nodes M_analysed M_gates M_startNode M_startChange M_startWay M_startBase M_startEarly M_startLate M_worstWith M_worstWithout M_all M_rowSize), ((a 26), .inl (cI, 96, .inl (ia M_slacks)))] → va_S A s.heap H locs → lv_has ls 5 [(0, .ref (a 0)), (1, .int (iI x1)), (2, .int (iI v2)), (3, .int (iI v3))] → lq2 (f_M_worst_b32 F M_nodes M_slacks x1 q1) nf v2 v3 = some (r, z_M_thrown) → W p l e (headSpec w_M_worst rm_M_worst).room s m args below meth c H locs 0 0 Q (F0 m 32 ls []) := by
      intro n32
      induction n32 with
      | zero => intro v2 v3 H locs ls hP hD hS hl h; exact no_some h
      | succ n32 ih32 =>
        intro v2 v3 H locs ls hP hD hS hl h
        replace h : f_M_worst_b32 F M_nodes M_slacks x1 q1 (lq2 (f_M_worst_b32 F M_nodes M_slacks x1 q1) n32) v2 v3 = some (r, z_M_thrown) := h
        obtain ⟨self32, hs32⟩ : ∃ z, z = lq2 (f_M_worst_b32 F M_nodes M_slacks x1 q1) n32 := ⟨_, rfl⟩
        rw [← hs32] at h ih32
        rw [f_M_worst_b32] at h
        refine lv_iload_n hx hb d_M_worst_32 rfl (lv_at hl 3 rfl) ?_
        refine lv_aload_n hx hb d_M_worst_33 rfl (lv_at hl 0 rfl) ?_
        refine va_get (D := D) (ci := 10) (v := .int (iI M_nodes)) (C := R_M) (T := F_M) (N := 53) hx hb hT in_M hown hK hP 0 rfl rfl 3 (by decide) (hT _ m1024) (fun _ h9 => h9) rfl d_M_worst_34 ?_
        have hj91 : ∀  (H : Heap) (locs : List Loc) (ls : Array Slot), va_P D vwCl [(o_M a q1 M_period M_width M_nodes M_analysed M_gates M_startNode M_startChange M_startWay M_startBase M_startEarly M_startLate M_worstWith M_worstWithout M_all M_rowSize), ((a 26), .inl (cI, 96, .inl (ia M_slacks)))] H → va_D A [(o_M a q1 M_period M_width M_nodes M_analysed M_gates M_startNode M_startChange M_startWay M_startBase M_startEarly M_startLate M_worstWith M_worstWithout M_all M_rowSize), ((a 26), .inl (cI, 96, .inl (ia M_slacks)))] → va_S A s.heap H locs → lv_has ls 5 [(0, .ref (a 0)), (2, .int (iI v2))] → f_M_worst_j91 F q1 v2 = some (r, z_M_thrown) → W p l e (headSpec w_M_worst rm_M_worst).room s m args below meth c H locs 0 0 Q (F0 m 91 ls []) := by
          intro  H locs ls hP hD hS hl h
          rw [f_M_worst_j91] at h
          refine lv_aload_n hx hb d_M_worst_91 rfl (lv_at hl 0 rfl) ?_
          refine va_get (D := D) (ci := 10) (v := .int (iI q1)) (C := R_M) (T := F_M) (N := 53) hx hb hT in_M hown hK hP 0 rfl rfl 0 (by decide) (hT _ m1021) (fun _ h9 => h9) rfl d_M_worst_92 ?_
          obtain ⟨hg0, h⟩ := gr_e h
          refine zi_le hx hb d_M_worst_95 rfl hg0 (fun hc => ?_) (fun hc => ?_)
          · replace h := if_t hc h
            refine lv_iload_n hx hb d_M_worst_102 rfl (lv_at hl 1 rfl) ?_
            obtain ⟨e1, e2⟩ := so2 h
            rw [hQ, e1, e2]; rw [hAe] at hD hS; exact W.iret hx hb hr (fun t ht hW => ⟨⟨_, (), rfl, rfl, by rw [ht]; exact hP, va_K.moved hW.alike hK, hD⟩, hS.F ht⟩) hS.2.2 d_M_worst_103
          · replace h := if_f hc h
            refine zv_iconst hx hb d_M_worst_98 ?_
            refine lv_goto hx hb d_M_worst_99 rfl ?_
            obtain ⟨e1, e2⟩ := so2 h
            rw [hQ, e1, e2]; rw [hAe] at hD hS; exact W.iret hx hb hr (fun t ht hW => ⟨⟨_, (), rfl, rfl, by rw [ht]; exact hP, va_K.moved hW.alike hK, hD⟩, hS.F ht⟩) hS.2.2 d_M_worst_103
        obtain ⟨hg0, h⟩ := gr_e h
        obtain ⟨hg1, h⟩ := gr_e h
        refine zc_ge hx hb d_M_worst_37 rfl hg0 hg1 (fun hc => ?_) (fun hc => ?_)
        · replace h := if_t hc h
          exact hj91  H locs ls hP hD hS (lv_sub hl [0, 2] rfl) h
        · replace h := if_f hc h
          refine lv_aload_n hx hb d_M_worst_40 rfl (lv_at hl 0 rfl) ?_
          refine va_get (D := D) (ci := 10) (v := .int (iI q1)) (C := R_M) (T := F_M) (N := 53) hx hb hT in_M hown hK hP 0 rfl rfl 0 (by decide) (hT _ m1021) (fun _ h9 => h9) rfl d_M_worst_41 ?_
          obtain ⟨hg0, h⟩ := gr_e h
          refine zi_ne hx hb d_M_worst_44 rfl hg0 (fun hc => ?_) (fun hc => ?_)
          · replace h := if_f hc h
            exact hj91  H locs ls hP hD hS (lv_sub hl [0, 2] rfl) h
          · replace h := if_t hc h
            refine lv_aload_n hx hb d_M_worst_47 rfl (lv_at hl 0 rfl) ?_
            refine va_get (D := D) (ci := 10) (v := .ref (a 26)) (C := R_M) (T := F_M) (N := 53) hx hb hT in_M hown hK hP 0 rfl rfl 37 (by decide) (hT _ m1058) (fun _ h9 => h9) rfl d_M_worst_48 ?_
            refine zv_iconst hx hb d_M_worst_51 ?_
            refine lv_iload_n hx hb d_M_worst_52 rfl (lv_at hl 3 rfl) ?_
            refine zv_imul hx hb d_M_worst_53 ?_
            refine lv_iload_n hx hb d_M_worst_54 rfl (lv_at hl 1 rfl) ?_
            refine zv_iadd hx hb d_M_worst_55 ?_
            obtain ⟨hin, h⟩ := gi_e h
            refine zv_iald hx hb hK hP 1 0 rfl rfl (Nat.le_of_ble_eq_true rfl) hin d_M_worst_56 ?_
            refine zv_top (fun v4 hv => ?_)
            replace h := bd_e hv h
            refine lv_istore (lv' := [(4, .int (iI v4)), (0, .ref (a 0)), (1, .int (iI x1)), (2, .int (iI v2)), (3, .int (iI v3))]) hx hb d_M_worst_57 hl (by decide) rfl (fun ls hl => ?_)
            refine lv_iload hx hb d_M_worst_59 (lv_at hl 0 rfl) ?_
            refine lv_ldc hx hb hown hk0 d_M_worst_61 ?_
            have hj84 : ∀ (q0 : Int) (H : Heap) (locs : List Loc) (ls : Array Slot), va_P D vwCl [(o_M a q1 M_period M_width M_nodes M_analysed M_gates M_startNode M_startChange M_startWay M_startBase M_startEarly M_startLate M_worstWith M_worstWithout M_all M_rowSize), ((a 26), .inl (cI, 96, .inl (ia M_slacks)))] H → va_D A [(o_M a q1 M_period M_width M_nodes M_analysed M_gates M_startNode M_startChange M_startWay M_startBase M_startEarly M_startLate M_worstWith M_worstWithout M_all M_rowSize), ((a 26), .inl (cI, 96, .inl (ia M_slacks)))] → va_S A s.heap H locs → lv_has ls 5 [(0, .ref (a 0)), (1, .int (iI x1)), (3, .int (iI v3))] → f_M_worst_j84 F v3 self32 q0 = some (r, z_M_thrown) → W p l e (headSpec w_M_worst rm_M_worst).room s m args below meth c H locs 0 0 Q (F0 m 84 ls [.int (iI q0)]) := by
              intro q0 H locs ls hP hD hS hl h
              rw [f_M_worst_j84] at h
              refine lv_istore_n (lv' := [(2, .int (iI q0)), (0, .ref (a 0)), (1, .int (iI x1)), (3, .int (iI v3))]) hx hb d_M_worst_84 rfl hl (by decide) rfl (fun ls hl => ?_)
              refine lv_iinc (v := iI (v3 + 1)) (k := 3) (lv' := [(3, .int (iI (v3 + 1))), (2, .int (iI q0)), (0, .ref (a 0)), (1, .int (iI x1))]) hx hb d_M_worst_85 hl rfl (iI_add _ _) (by decide) rfl (fun ls hl => ?_)
              refine lv_goto hx hb d_M_worst_88 rfl ?_
              exact ih32 q0 (v3 + 1) H locs ls hP hD hS (lv_sub hl [2, 3, 1, 0] rfl) h
            have hj83 : ∀  (H : Heap) (locs : List Loc) (ls : Array Slot), va_P D vwCl [(o_M a q1 M_period M_width M_nodes M_analysed M_gates M_startNode M_startChange M_startWay M_startBase M_startEarly M_startLate M_worstWith M_worstWithout M_all M_rowSize), ((a 26), .inl (cI, 96, .inl (ia M_slacks)))] H → va_D A [(o_M a q1 M_period M_width M_nodes M_analysed M_gates M_startNode M_startChange M_startWay M_startBase M_startEarly M_startLate M_worstWith M_worstWithout M_all M_rowSize), ((a 26), .inl (cI, 96, .inl (ia M_slacks)))] → va_S A s.heap H locs → lv_has ls 5 [(0, .ref (a 0)), (1, .int (iI x1)), (2, .int (iI v2)), (3, .int (iI v3))] → f_M_worst_j83 F v2 v3 self32 = some (r, z_M_thrown) → W p l e (headSpec w_M_worst rm_M_worst).room s m args below meth c H locs 0 0 Q (F0 m 83 ls []) := by
              intro  H locs ls hP hD hS hl h
              rw [f_M_worst_j83] at h
              refine lv_iload_n hx hb d_M_worst_83 rfl (lv_at hl 2 rfl) ?_
              exact hj84 v2 H locs ls hP hD hS (lv_sub hl [0, 1, 3] rfl) h
            obtain ⟨hg0, h⟩ := gr_e h
            refine zc_eq hx hb d_M_worst_63 rfl hg0 (by decide) (fun hc => ?_) (fun hc => ?_)
            · replace h := if_t hc h
              exact hj83  H locs ls hP hD hS (lv_sub hl [1, 2, 3, 4] rfl) h
            · replace h := if_f hc h
              refine lv_iload_n hx hb d_M_worst_66 rfl (lv_at hl 3 rfl) ?_
              refine lv_ldc hx hb hown hk0 d_M_worst_67 ?_
              have hj78 : ∀  (H : Heap) (locs : List Loc) (ls : Array Slot), va_P D vwCl [(o_M a q1 M_period M_width M_nodes M_analysed M_gates M_startNode M_startChange M_startWay M_startBase M_startEarly M_startLate M_worstWith M_worstWithout M_all M_rowSize), ((a 26), .inl (cI, 96, .inl (ia M_slacks)))] H → va_D A [(o_M a q1 M_period M_width M_nodes M_analysed M_gates M_startNode M_startChange M_startWay M_startBase M_startEarly M_startLate M_worstWith M_worstWithout M_all M_rowSize), ((a 26), .inl (cI, 96, .inl (ia M_slacks)))] → va_S A s.heap H locs → lv_has ls 5 [(0, .ref (a 0)), (1, .int (iI x1)), (3, .int (iI v3)), (4, .int (iI v4))] → f_M_worst_j78 F v3 self32 v4 = some (r, z_M_thrown) → W p l e (headSpec w_M_worst rm_M_worst).room s m args below meth c H locs 0 0 Q (F0 m 78 ls []) := by
                intro  H locs ls hP hD hS hl h
                rw [f_M_worst_j78] at h
                refine lv_iload hx hb d_M_worst_78 (lv_at hl 3 rfl) ?_
                refine lv_goto hx hb d_M_worst_80 rfl ?_
                exact hj84 v4 H locs ls hP hD hS (lv_sub hl [0, 1, 2] rfl) h
              obtain ⟨hg0, h⟩ := gr_e h
              refine zc_eq hx hb d_M_worst_69 rfl hg0 (by decide) (fun hc => ?_) (fun hc => ?_)
              · replace h := if_t hc h
                exact hj78  H locs ls hP hD hS (lv_sub hl [1, 2, 4, 0] rfl) h
              · replace h := if_f hc h
                refine lv_iload hx hb d_M_worst_72 (lv_at hl 0 rfl) ?_
                refine lv_iload_n hx hb d_M_worst_74 rfl (lv_at hl 3 rfl) ?_
                obtain ⟨hg0, h⟩ := gr_e h
                obtain ⟨hg1, h⟩ := gr_e h
                refine zc_ge hx hb d_M_worst_75 rfl hg0 hg1 (fun hc => ?_) (fun hc => ?_)
                · replace h := if_t hc h
                  exact hj83  H locs ls hP hD hS (lv_sub hl [1, 2, 3, 4] rfl) h
                · replace h := if_f hc h
                  exact hj78  H locs ls hP hD hS (lv_sub hl [1, 2, 4, 0] rfl) h
    exact hl32 F (-2147483648) 0 H locs ls hP hD hS (lv_sub hl [2, 3, 1, 0] rfl) h
  obtain ⟨hg0, h⟩ := gr_e h
  refine zi_ne hx hb d_M_worst_5 rfl hg0 (fun hc => ?_) (fun hc => ?_)
  · replace h := if_f hc h
    refine lv_iload_n hx hb d_M_worst_12 rfl (lv_at hl 1 rfl) ?_
    obtain ⟨r13, hcall, h⟩ := ob1_e h
    refine ro_i (va_Run.run (va_runS (As := [.int (iI x1)]) (rest := [.ref (a 0)]) ⟨hx, hb, hml, hown, hts⟩ (c_M_noBit l D cI cJ cZ F a x1 r13 H.size hcall) (cwS 1 hts (gd_S m1367 m1365 m1366 m12) rfl rfl rfl ⟨rfl, hc_M_noBit⟩ ⟨Nat.le_of_ble_eq_true rfl, Nat.le_of_ble_eq_true rfl⟩) (pc_S [.int (iI x1)] hP hK hD hN [] rfl rfl rfl) rfl rfl hl.1 rfl (lv_room (Nat.le_of_ble_eq_true rfl)) d_M_worst_13 ⟨Nat.le_refl 0, Nat.le_refl 0⟩)) (W.eq (g2 := F0 m 16 ls [.int (iI r13), .ref (a 0)]) rfl ?_)
    obtain ⟨hg0, h⟩ := gr_e h
    refine zi_eq hx hb d_M_worst_16 rfl hg0 (fun hc => ?_) (fun hc => ?_)
    · replace h := if_t hc h
      refine zv_iconst hx hb d_M_worst_23 ?_
      exact hj24 0 H locs ls hP hD hS (lv_sub hl [0, 1] rfl) h
    · replace h := if_f hc h
      refine zv_iconst hx hb d_M_worst_19 ?_
      refine lv_goto hx hb d_M_worst_20 rfl ?_
      exact hj24 2 H locs ls hP hD hS (lv_sub hl [0, 1] rfl) h
  · replace h := if_t hc h
    refine zv_iconst hx hb d_M_worst_8 ?_
    refine lv_goto hx hb d_M_worst_9 rfl ?_
    exact hj24 1 H locs ls hP hD hS (lv_sub hl [0, 1] rfl) h
abbrev rm_M_total : Room := { frames := 1, cells := 0, slots := 0, locals := 20 }
set_option maxHeartbeats 4000000 in
set_option maxRecDepth 100000 in
theorem c_M_total (l : Launch) (D : va_G) (cI cJ cZ : ClassId) (F : Nat) (a : Nat → Nat) (M_thrown : Int) (M_period : Int) (M_width : Int) (M_nodes : Int) (M_analysed : Int) (M_gates : Int) (M_startNode : Int) (M_startChange : Int) (M_startWay : Int) (M_startBase : Int) (M_startEarly : Int) (M_startLate : Int) (M_worstWith : Int) (M_worstWithout : Int) (M_all : Int64) (M_rowSize : Int) (M_slacks : Int → Int) (x1 : Int) (r : Int) (z_M_thrown : Int) (sz : Nat) (h : f_M_total F M_nodes M_analysed M_slacks x1 = some (r, z_M_thrown)) : Met l y_M_total w_M_total rm_M_total (PC D [(cI, .int), (cJ, .long), (cZ, .boolean)] [.ref (a 0), .int (iI x1)] ([(o_M a M_thrown M_period M_width M_nodes M_analysed M_gates M_startNode M_startChange M_startWay M_startBase M_startEarly M_startLate M_worstWith M_worstWithout M_all M_rowSize), ((a 26), .inl (cI, 96, .inl (ia M_slacks)))]) sz) (QI D [(cI, .int), (cJ, .long), (cZ, .boolean)] ([(o_M a M_thrown M_period M_width M_nodes M_analysed M_gates M_startNode M_startChange M_startWay M_startBase M_startEarly M_startLate M_worstWith M_worstWithout M_all M_rowSize), ((a 26), .inl (cI, 96, .inl (ia M_slacks)))]) sz r ([(o_M a z_M_thrown M_period M_width M_nodes M_analysed M_gates M_startNode M_startChange M_startWay M_startBase M_startEarly M_startLate M_worstWith M_worstWithout M_all M_rowSize), ((a 26), .inl (cI, 96, .inl (ia M_slacks)))])) 0 0 (va_A ([(o_M a M_thrown M_period M_width M_nodes M_analysed M_gates M_startNode M_startChange M_startWay M_startBase M_startEarly M_startLate M_worstWith M_worstWithout M_all M_rowSize), ((a 26), .inl (cI, 96, .inl (ia M_slacks)))]) sz) := by
  refine Met.ofW (cc := prog_12_method_51_code) (maxL := 5) (ret := (Option.some Jvm.ClassFile.FieldType.int)) (by decide) rfl ?_
  intro p e s m args below meth c s₁ B hml hv
  obtain ⟨rfl, hsz, hP, hK, hD0, hN⟩ := hv
  have hx := B.exec
  have hb := B.bytes
  have hr := B.returns
  have hts := atoms_spec (ws := w_M_total) B.pre
  have hown : s.vm.findClass R_M = some m.cls := findClass_of_methodNamed B.named
  have hlocks := B.notSynchronized
  subst hsz
  have hD := hD0.self (sz := s.heap.size)
  obtain ⟨A, hAe⟩ : ∃ A, A = va_A ([(o_M a M_thrown M_period M_width M_nodes M_analysed M_gates M_startNode M_startChange M_startWay M_startBase M_startEarly M_startLate M_worstWith M_worstWithout M_all M_rowSize), ((a 26), .inl (cI, 96, .inl (ia M_slacks)))]) s.heap.size := ⟨_, rfl⟩
  rw [← hAe] at hD
  have hA : ∀ q : Nat, s.heap.size ≤ q → A q := fun q h => by rw [hAe]; exact Or.inr h
  have hS : va_S A s.heap s.heap [] := va_S.rf
  have hl := lv_entry ([.ref (a 0), .int (iI x1)]) (n := 5) (Nat.le_of_ble_eq_true rfl)
  rw [lg_entry_eq]
  generalize (lg_sl ([.ref (a 0), .int (iI x1)]) ++ List.replicate (5 - (lg_sl ([.ref (a 0), .int (iI x1)])).length) Slot.unset).toArray = ls at hl ⊢
  have hl : lv_has ls 5 [(0, .ref (a 0)), (1, .int (iI x1))] := hl
  generalize (List.toArray ([.ref (a 0), .int (iI x1)] : List Value)) = args at hts ⊢
  have hT : ∀ w ∈ Tg, w.before args s = true := fun w h => hts w (List.mem_cons_of_mem _ h)
  obtain ⟨Q, hQ⟩ : ∃ Q, Q = MQ below (QI D [(cI, .int), (cJ, .long), (cZ, .boolean)] ([(o_M a M_thrown M_period M_width M_nodes M_analysed M_gates M_startNode M_startChange M_startWay M_startBase M_startEarly M_startLate M_worstWith M_worstWithout M_all M_rowSize), ((a 26), .inl (cI, 96, .inl (ia M_slacks)))]) s.heap.size r ([(o_M a z_M_thrown M_period M_width M_nodes M_analysed M_gates M_startNode M_startChange M_startWay M_startBase M_startEarly M_startLate M_worstWith M_worstWithout M_all M_rowSize), ((a 26), .inl (cI, 96, .inl (ia M_slacks)))])) args s 0 0 (va_A ([(o_M a M_thrown M_period M_width M_nodes M_analysed M_gates M_startNode M_startChange M_startWay M_startBase M_startEarly M_startLate M_worstWith M_worstWithout M_all M_rowSize), ((a 26), .inl (cI, 96, .inl (ia M_slacks)))]) s.heap.size) := ⟨_, rfl⟩
  rw [← hQ]
  suffices hW : ∀ (H : Heap) (locs : List Loc), va_P D vwCl ([(o_M a M_thrown M_period M_width M_nodes M_analysed M_gates M_startNode M_startChange M_startWay M_startBase M_startEarly M_startLate M_worstWith M_worstWithout M_all M_rowSize), ((a 26), .inl (cI, 96, .inl (ia M_slacks)))]) H → va_D A ([(o_M a M_thrown M_period M_width M_nodes M_analysed M_gates M_startNode M_startChange M_startWay M_startBase M_startEarly M_startLate M_worstWith M_worstWithout M_all M_rowSize), ((a 26), .inl (cI, 96, .inl (ia M_slacks)))]) → va_S A s.heap H locs → W p l e (headSpec w_M_total rm_M_total).room s m args below meth c H locs 0 0 Q (F0 m 0 ls []) from hW s.heap [] hP hD hS
  clear hP hD hS
  intro H locs hP hD hS
  have hk0 := (show (Cond.constant "PathTimingModel" 140 (iI (-2147483648))).before args s = true from by rw [show iI (-2147483648) = ((-2147483648) : Int32) from by decide]; exact hT _ m1020)
  rw [f_M_total] at h
  refine lv_aload_n hx hb d_M_total_0 rfl (lv_at hl 0 rfl) ?_
  refine lv_aload_n hx hb d_M_total_1 rfl (lv_at hl 0 rfl) ?_
  refine va_get (D := D) (ci := 10) (v := .int (iI M_analysed)) (C := R_M) (T := F_M) (N := 53) hx hb hT in_M hown hK hP 0 rfl rfl 14 (by decide) (hT _ m1035) (fun _ h9 => h9) rfl d_M_total_2 ?_
  have hj24 : ∀ (q1 : Int) (H : Heap) (locs : List Loc) (ls : Array Slot), va_P D vwCl [(o_M a M_thrown M_period M_width M_nodes M_analysed M_gates M_startNode M_startChange M_startWay M_startBase M_startEarly M_startLate M_worstWith M_worstWithout M_all M_rowSize), ((a 26), .inl (cI, 96, .inl (ia M_slacks)))] H → va_D A [(o_M a M_thrown M_period M_width M_nodes M_analysed M_gates M_startNode M_startChange M_startWay M_startBase M_startEarly M_startLate M_worstWith M_worstWithout M_all M_rowSize), ((a 26), .inl (cI, 96, .inl (ia M_slacks)))] → va_S A s.heap H locs → lv_has ls 5 [(0, .ref (a 0)), (1, .int (iI x1))] → f_M_total_j24 F M_nodes M_slacks x1 q1 = some (r, z_M_thrown) → W p l e (headSpec w_M_total rm_M_total).room s m args below meth c H locs 0 0 Q (F0 m 24 ls [.int (iI q1), .ref (a 0)]) := by
    intro q1 H locs ls hP hD hS hl h
    rw [f_M_total_j24] at h
    refine va_put (D := D) (ci := 10) (v := .int (iI q1)) (ty := .int) (C := R_M) (T := F_M) (N := 53) hx hb hT in_M ty_M ty_M_ok n_M hown hK hP hD hS 0 rfl rfl 0 (by decide) (hT _ m1021) (fun _ h9 => h9) rfl (by decide +kernel) rfl rfl (Nat.le_of_ble_eq_true rfl) d_M_total_24 (fun H locs hP hD hS => ?_)
    have hP : va_P D vwCl [(o_M a q1 M_period M_width M_nodes M_analysed M_gates M_startNode M_startChange M_startWay M_startBase M_startEarly M_startLate M_worstWith M_worstWithout M_all M_rowSize), ((a 26), .inl (cI, 96, .inl (ia M_slacks)))] H := hP
    have hD : va_D A [(o_M a q1 M_period M_width M_nodes M_analysed M_gates M_startNode M_startChange M_startWay M_startBase M_startEarly M_startLate M_worstWith M_worstWithout M_all M_rowSize), ((a 26), .inl (cI, 96, .inl (ia M_slacks)))] := hD
    refine zv_iconst hx hb d_M_total_27 ?_
    refine lv_istore_n (lv' := [(2, .int (iI 0)), (0, .ref (a 0)), (1, .int (iI x1))]) hx hb d_M_total_28 rfl hl (by decide) rfl (fun ls hl => ?_)
    refine zv_iconst hx hb d_M_total_29 ?_
    refine lv_istore_n (lv' := [(3, .int (iI 0)), (2, .int (iI 0)), (0, .ref (a 0)), (1, .int (iI x1))]) hx hb d_M_total_30 rfl hl (by decide) rfl (fun ls hl => ?_)
    have hl31 : ∀ (nf : Nat) (v2 : Int) (v3 : Int) (H : Heap) (locs : List Loc) (ls : Array Slot), va_P D vwCl [(o_M a q1 M_period M_width M_nodes M_analysed M_gates M_startNode M_startChange M_startWay M_startBase M_startEarly M_startLate M_worstWith M_worstWithout M_all M_rowSize), ((a 26), .inl (cI, 96, .inl (ia M_slacks)))] H → va_D A [(o_M a q1 M_period M_width M_nodes M_analysed M_gates M_startNode M_startChange M_startWay M_startBase M_startEarly M_startLate M_worstWith M_worstWithout M_all M_rowSize), ((a 26), .inl (cI, 96, .inl (ia M_slacks)))] → va_S A s.heap H locs → lv_has ls 5 [(0, .ref (a 0)), (1, .int (iI x1)), (2, .int (iI v2)), (3, .int (iI v3))] → lq2 (f_M_total_b31 F M_nodes M_slacks x1 q1) nf v2 v3 = some (r, z_M_thrown) → W p l e (headSpec w_M_total rm_M_total).room s m args below meth c H locs 0 0 Q (F0 m 31 ls []) := by
      intro n31
      induction n31 with
      | zero => intro v2 v3 H locs ls hP hD hS hl h; exact no_some h
      | succ n31 ih31 =>
        intro v2 v3 H locs ls hP hD hS hl h
        replace h : f_M_total_b31 F M_nodes M_slacks x1 q1 (lq2 (f_M_total_b31 F M_nodes M_slacks x1 q1) n31) v2 v3 = some (r, z_M_thrown) := h
        obtain ⟨self31, hs31⟩ : ∃ z, z = lq2 (f_M_total_b31 F M_nodes M_slacks x1 q1) n31 := ⟨_, rfl⟩
        rw [← hs31] at h ih31
        rw [f_M_total_b31] at h
        refine lv_iload_n hx hb d_M_total_31 rfl (lv_at hl 3 rfl) ?_
        refine lv_aload_n hx hb d_M_total_32 rfl (lv_at hl 0 rfl) ?_
        refine va_get (D := D) (ci := 10) (v := .int (iI M_nodes)) (C := R_M) (T := F_M) (N := 53) hx hb hT in_M hown hK hP 0 rfl rfl 3 (by decide) (hT _ m1024) (fun _ h9 => h9) rfl d_M_total_33 ?_
        have hj85 : ∀  (H : Heap) (locs : List Loc) (ls : Array Slot), va_P D vwCl [(o_M a q1 M_period M_width M_nodes M_analysed M_gates M_startNode M_startChange M_startWay M_startBase M_startEarly M_startLate M_worstWith M_worstWithout M_all M_rowSize), ((a 26), .inl (cI, 96, .inl (ia M_slacks)))] H → va_D A [(o_M a q1 M_period M_width M_nodes M_analysed M_gates M_startNode M_startChange M_startWay M_startBase M_startEarly M_startLate M_worstWith M_worstWithout M_all M_rowSize), ((a 26), .inl (cI, 96, .inl (ia M_slacks)))] → va_S A s.heap H locs → lv_has ls 5 [(2, .int (iI v2))] → f_M_total_j85 F q1 v2 = some (r, z_M_thrown) → W p l e (headSpec w_M_total rm_M_total).room s m args below meth c H locs 0 0 Q (F0 m 85 ls []) := by
          intro  H locs ls hP hD hS hl h
          rw [f_M_total_j85] at h
          refine lv_iload_n hx hb d_M_total_85 rfl (lv_at hl 0 rfl) ?_
          obtain ⟨e1, e2⟩ := so2 h
          rw [hQ, e1, e2]; rw [hAe] at hD hS; exact W.iret hx hb hr (fun t ht hW => ⟨⟨_, (), rfl, rfl, by rw [ht]; exact hP, va_K.moved hW.alike hK, hD⟩, hS.F ht⟩) hS.2.2 d_M_total_86
        obtain ⟨hg0, h⟩ := gr_e h
        obtain ⟨hg1, h⟩ := gr_e h
        refine zc_ge hx hb d_M_total_36 rfl hg0 hg1 (fun hc => ?_) (fun hc => ?_)
        · replace h := if_t hc h
          exact hj85  H locs ls hP hD hS (lv_sub hl [2] rfl) h
        · replace h := if_f hc h
          refine lv_aload_n hx hb d_M_total_39 rfl (lv_at hl 0 rfl) ?_
          refine va_get (D := D) (ci := 10) (v := .int (iI q1)) (C := R_M) (T := F_M) (N := 53) hx hb hT in_M hown hK hP 0 rfl rfl 0 (by decide) (hT _ m1021) (fun _ h9 => h9) rfl d_M_total_40 ?_
          obtain ⟨hg0, h⟩ := gr_e h
          refine zi_ne hx hb d_M_total_43 rfl hg0 (fun hc => ?_) (fun hc => ?_)
          · replace h := if_f hc h
            exact hj85  H locs ls hP hD hS (lv_sub hl [2] rfl) h
          · replace h := if_t hc h
            refine lv_aload_n hx hb d_M_total_46 rfl (lv_at hl 0 rfl) ?_
            refine va_get (D := D) (ci := 10) (v := .ref (a 26)) (C := R_M) (T := F_M) (N := 53) hx hb hT in_M hown hK hP 0 rfl rfl 37 (by decide) (hT _ m1058) (fun _ h9 => h9) rfl d_M_total_47 ?_
            refine zv_iconst hx hb d_M_total_50 ?_
            refine lv_iload_n hx hb d_M_total_51 rfl (lv_at hl 3 rfl) ?_
            refine zv_imul hx hb d_M_total_52 ?_
            refine lv_iload_n hx hb d_M_total_53 rfl (lv_at hl 1 rfl) ?_
            refine zv_iadd hx hb d_M_total_54 ?_
            obtain ⟨hin, h⟩ := gi_e h
            refine zv_iald hx hb hK hP 1 0 rfl rfl (Nat.le_of_ble_eq_true rfl) hin d_M_total_55 ?_
            refine zv_top (fun v4 hv => ?_)
            replace h := bd_e hv h
            refine lv_istore (lv' := [(4, .int (iI v4)), (0, .ref (a 0)), (1, .int (iI x1)), (2, .int (iI v2)), (3, .int (iI v3))]) hx hb d_M_total_56 hl (by decide) rfl (fun ls hl => ?_)
            refine lv_iload_n hx hb d_M_total_58 rfl (lv_at hl 3 rfl) ?_
            refine lv_iload hx hb d_M_total_59 (lv_at hl 0 rfl) ?_
            refine lv_ldc hx hb hown hk0 d_M_total_61 ?_
            have hj77 : ∀ (q1_1 : Int) (H : Heap) (locs : List Loc) (ls : Array Slot), va_P D vwCl [(o_M a q1 M_period M_width M_nodes M_analysed M_gates M_startNode M_startChange M_startWay M_startBase M_startEarly M_startLate M_worstWith M_worstWithout M_all M_rowSize), ((a 26), .inl (cI, 96, .inl (ia M_slacks)))] H → va_D A [(o_M a q1 M_period M_width M_nodes M_analysed M_gates M_startNode M_startChange M_startWay M_startBase M_startEarly M_startLate M_worstWith M_worstWithout M_all M_rowSize), ((a 26), .inl (cI, 96, .inl (ia M_slacks)))] → va_S A s.heap H locs → lv_has ls 5 [(0, .ref (a 0)), (1, .int (iI x1)), (3, .int (iI v3))] → f_M_total_j77 F v2 v3 self31 q1_1 = some (r, z_M_thrown) → W p l e (headSpec w_M_total rm_M_total).room s m args below meth c H locs 0 0 Q (F0 m 77 ls [.int (iI q1_1), .int (iI v2)]) := by
              intro q1_1 H locs ls hP hD hS hl h
              rw [f_M_total_j77] at h
              refine zv_iadd hx hb d_M_total_77 ?_
              refine zv_top (fun v2_2 hv => ?_)
              replace h := bd_e hv h
              refine lv_istore_n (lv' := [(2, .int (iI v2_2)), (0, .ref (a 0)), (1, .int (iI x1)), (3, .int (iI v3))]) hx hb d_M_total_78 rfl hl (by decide) rfl (fun ls hl => ?_)
              refine lv_iinc (v := iI (v3 + 1)) (k := 3) (lv' := [(3, .int (iI (v3 + 1))), (2, .int (iI v2_2)), (0, .ref (a 0)), (1, .int (iI x1))]) hx hb d_M_total_79 hl rfl (iI_add _ _) (by decide) rfl (fun ls hl => ?_)
              refine lv_goto hx hb d_M_total_82 rfl ?_
              exact ih31 v2_2 (v3 + 1) H locs ls hP hD hS (lv_sub hl [2, 3, 1, 0] rfl) h
            have hj76 : ∀  (H : Heap) (locs : List Loc) (ls : Array Slot), va_P D vwCl [(o_M a q1 M_period M_width M_nodes M_analysed M_gates M_startNode M_startChange M_startWay M_startBase M_startEarly M_startLate M_worstWith M_worstWithout M_all M_rowSize), ((a 26), .inl (cI, 96, .inl (ia M_slacks)))] H → va_D A [(o_M a q1 M_period M_width M_nodes M_analysed M_gates M_startNode M_startChange M_startWay M_startBase M_startEarly M_startLate M_worstWith M_worstWithout M_all M_rowSize), ((a 26), .inl (cI, 96, .inl (ia M_slacks)))] → va_S A s.heap H locs → lv_has ls 5 [(0, .ref (a 0)), (1, .int (iI x1)), (3, .int (iI v3))] → f_M_total_j76 F v2 v3 self31 = some (r, z_M_thrown) → W p l e (headSpec w_M_total rm_M_total).room s m args below meth c H locs 0 0 Q (F0 m 76 ls [.int (iI v2)]) := by
              intro  H locs ls hP hD hS hl h
              rw [f_M_total_j76] at h
              refine zv_iconst hx hb d_M_total_76 ?_
              exact hj77 0 H locs ls hP hD hS (lv_sub hl [0, 1, 2] rfl) h
            obtain ⟨hg0, h⟩ := gr_e h
            refine zc_eq hx hb d_M_total_63 rfl hg0 (by decide) (fun hc => ?_) (fun hc => ?_)
            · replace h := if_t hc h
              exact hj76  H locs ls hP hD hS (lv_sub hl [1, 2, 4] rfl) h
            · replace h := if_f hc h
              refine lv_iload hx hb d_M_total_66 (lv_at hl 0 rfl) ?_
              obtain ⟨hg0, h⟩ := gr_e h
              refine zi_ge hx hb d_M_total_68 rfl hg0 (fun hc => ?_) (fun hc => ?_)
              · replace h := if_t hc h
                exact hj76  H locs ls hP hD hS (lv_sub hl [1, 2, 4] rfl) h
              · replace h := if_f hc h
                refine lv_iload hx hb d_M_total_71 (lv_at hl 0 rfl) ?_
                refine lv_goto hx hb d_M_total_73 rfl ?_
                exact hj77 v4 H locs ls hP hD hS (lv_sub hl [1, 2, 4] rfl) h
    exact hl31 F 0 0 H locs ls hP hD hS (lv_sub hl [2, 3, 1, 0] rfl) h
  obtain ⟨hg0, h⟩ := gr_e h
  refine zi_ne hx hb d_M_total_5 rfl hg0 (fun hc => ?_) (fun hc => ?_)
  · replace h := if_f hc h
    refine lv_iload_n hx hb d_M_total_12 rfl (lv_at hl 1 rfl) ?_
    obtain ⟨r13, hcall, h⟩ := ob1_e h
    refine ro_i (va_Run.run (va_runS (As := [.int (iI x1)]) (rest := [.ref (a 0)]) ⟨hx, hb, hml, hown, hts⟩ (c_M_noBit l D cI cJ cZ F a x1 r13 H.size hcall) (cwS 1 hts (gd_S m1367 m1365 m1366 m12) rfl rfl rfl ⟨rfl, hc_M_noBit⟩ ⟨Nat.le_of_ble_eq_true rfl, Nat.le_of_ble_eq_true rfl⟩) (pc_S [.int (iI x1)] hP hK hD hN [] rfl rfl rfl) rfl rfl hl.1 rfl (lv_room (Nat.le_of_ble_eq_true rfl)) d_M_total_13 ⟨Nat.le_refl 0, Nat.le_refl 0⟩)) (W.eq (g2 := F0 m 16 ls [.int (iI r13), .ref (a 0)]) rfl ?_)
    obtain ⟨hg0, h⟩ := gr_e h
    refine zi_eq hx hb d_M_total_16 rfl hg0 (fun hc => ?_) (fun hc => ?_)
    · replace h := if_t hc h
      refine zv_iconst hx hb d_M_total_23 ?_
      exact hj24 0 H locs ls hP hD hS (lv_sub hl [0, 1] rfl) h
    · replace h := if_f hc h
      refine zv_iconst hx hb d_M_total_19 ?_
      refine lv_goto hx hb d_M_total_20 rfl ?_
      exact hj24 2 H locs ls hP hD hS (lv_sub hl [0, 1] rfl) h
  · replace h := if_t hc h
    refine zv_iconst hx hb d_M_total_8 ?_
    refine lv_goto hx hb d_M_total_9 rfl ?_
    exact hj24 1 H locs ls hP hD hS (lv_sub hl [0, 1] rfl) h
abbrev rm_M_leastPeriod : Room := { frames := 0, cells := 0, slots := 0, locals := 0 }
set_option maxHeartbeats 4000000 in
set_option maxRecDepth 100000 in
theorem c_M_leastPeriod (l : Launch) (D : va_G) (cI cJ cZ : ClassId) (F : Nat) (a : Nat → Nat) (M_thrown : Int) (M_period : Int) (M_width : Int) (M_nodes : Int) (M_analysed : Int) (M_gates : Int) (M_startNode : Int) (M_startChange : Int) (M_startWay : Int) (M_startBase : Int) (M_startEarly : Int) (M_startLate : Int) (M_worstWith : Int) (M_worstWithout : Int) (M_all : Int64) (M_rowSize : Int) (r : Int) (z_M_thrown : Int) (sz : Nat) (h : f_M_leastPeriod F M_period M_width M_analysed M_worstWith M_worstWithout = some (r, z_M_thrown)) : Met l y_M_leastPeriod w_M_leastPeriod rm_M_leastPeriod (PC D [(cI, .int), (cJ, .long), (cZ, .boolean)] [.ref (a 0)] ([(o_M a M_thrown M_period M_width M_nodes M_analysed M_gates M_startNode M_startChange M_startWay M_startBase M_startEarly M_startLate M_worstWith M_worstWithout M_all M_rowSize)]) sz) (QI D [(cI, .int), (cJ, .long), (cZ, .boolean)] ([(o_M a M_thrown M_period M_width M_nodes M_analysed M_gates M_startNode M_startChange M_startWay M_startBase M_startEarly M_startLate M_worstWith M_worstWithout M_all M_rowSize)]) sz r ([(o_M a z_M_thrown M_period M_width M_nodes M_analysed M_gates M_startNode M_startChange M_startWay M_startBase M_startEarly M_startLate M_worstWith M_worstWithout M_all M_rowSize)])) 0 0 (va_A ([(o_M a M_thrown M_period M_width M_nodes M_analysed M_gates M_startNode M_startChange M_startWay M_startBase M_startEarly M_startLate M_worstWith M_worstWithout M_all M_rowSize)]) sz) := by
  refine Met.ofW (cc := prog_12_method_52_code) (maxL := 2) (ret := (Option.some Jvm.ClassFile.FieldType.int)) (by decide) rfl ?_
  intro p e s m args below meth c s₁ B hml hv
  obtain ⟨rfl, hsz, hP, hK, hD0, hN⟩ := hv
  have hx := B.exec
  have hb := B.bytes
  have hr := B.returns
  have hts := atoms_spec (ws := w_M_leastPeriod) B.pre
  have hown : s.vm.findClass R_M = some m.cls := findClass_of_methodNamed B.named
  have hlocks := B.notSynchronized
  subst hsz
  have hD := hD0.self (sz := s.heap.size)
  obtain ⟨A, hAe⟩ : ∃ A, A = va_A ([(o_M a M_thrown M_period M_width M_nodes M_analysed M_gates M_startNode M_startChange M_startWay M_startBase M_startEarly M_startLate M_worstWith M_worstWithout M_all M_rowSize)]) s.heap.size := ⟨_, rfl⟩
  rw [← hAe] at hD
  have hA : ∀ q : Nat, s.heap.size ≤ q → A q := fun q h => by rw [hAe]; exact Or.inr h
  have hS : va_S A s.heap s.heap [] := va_S.rf
  have hl := lv_entry ([.ref (a 0)]) (n := 2) (Nat.le_of_ble_eq_true rfl)
  rw [lg_entry_eq]
  generalize (lg_sl ([.ref (a 0)]) ++ List.replicate (2 - (lg_sl ([.ref (a 0)])).length) Slot.unset).toArray = ls at hl ⊢
  have hl : lv_has ls 2 [(0, .ref (a 0))] := hl
  generalize (List.toArray ([.ref (a 0)] : List Value)) = args at hts ⊢
  have hT : ∀ w ∈ Tg, w.before args s = true := fun w h => hts w (List.mem_cons_of_mem _ h)
  obtain ⟨Q, hQ⟩ : ∃ Q, Q = MQ below (QI D [(cI, .int), (cJ, .long), (cZ, .boolean)] ([(o_M a M_thrown M_period M_width M_nodes M_analysed M_gates M_startNode M_startChange M_startWay M_startBase M_startEarly M_startLate M_worstWith M_worstWithout M_all M_rowSize)]) s.heap.size r ([(o_M a z_M_thrown M_period M_width M_nodes M_analysed M_gates M_startNode M_startChange M_startWay M_startBase M_startEarly M_startLate M_worstWith M_worstWithout M_all M_rowSize)])) args s 0 0 (va_A ([(o_M a M_thrown M_period M_width M_nodes M_analysed M_gates M_startNode M_startChange M_startWay M_startBase M_startEarly M_startLate M_worstWith M_worstWithout M_all M_rowSize)]) s.heap.size) := ⟨_, rfl⟩
  rw [← hQ]
  suffices hW : ∀ (H : Heap) (locs : List Loc), va_P D vwCl ([(o_M a M_thrown M_period M_width M_nodes M_analysed M_gates M_startNode M_startChange M_startWay M_startBase M_startEarly M_startLate M_worstWith M_worstWithout M_all M_rowSize)]) H → va_D A ([(o_M a M_thrown M_period M_width M_nodes M_analysed M_gates M_startNode M_startChange M_startWay M_startBase M_startEarly M_startLate M_worstWith M_worstWithout M_all M_rowSize)]) → va_S A s.heap H locs → W p l e (headSpec w_M_leastPeriod rm_M_leastPeriod).room s m args below meth c H locs 0 0 Q (F0 m 0 ls []) from hW s.heap [] hP hD hS
  clear hP hD hS
  intro H locs hP hD hS
  have hk0 := (show (Cond.constant "PathTimingModel" 140 (iI (-2147483648))).before args s = true from by rw [show iI (-2147483648) = ((-2147483648) : Int32) from by decide]; exact hT _ m1020)
  have hk1 := (show (Cond.constant "PathTimingModel" 145 (iI 1000000)).before args s = true from by rw [show iI 1000000 = (1000000 : Int32) from by decide]; exact hT _ m1189)
  rw [f_M_leastPeriod] at h
  refine lv_aload_n hx hb d_M_leastPeriod_0 rfl (lv_at hl 0 rfl) ?_
  refine lv_aload_n hx hb d_M_leastPeriod_1 rfl (lv_at hl 0 rfl) ?_
  refine va_get (D := D) (ci := 10) (v := .int (iI M_analysed)) (C := R_M) (T := F_M) (N := 53) hx hb hT in_M hown hK hP 0 rfl rfl 14 (by decide) (hT _ m1035) (fun _ h9 => h9) rfl d_M_leastPeriod_2 ?_
  have hj13 : ∀ (q1 : Int) (H : Heap) (locs : List Loc) (ls : Array Slot), va_P D vwCl [(o_M a M_thrown M_period M_width M_nodes M_analysed M_gates M_startNode M_startChange M_startWay M_startBase M_startEarly M_startLate M_worstWith M_worstWithout M_all M_rowSize)] H → va_D A [(o_M a M_thrown M_period M_width M_nodes M_analysed M_gates M_startNode M_startChange M_startWay M_startBase M_startEarly M_startLate M_worstWith M_worstWithout M_all M_rowSize)] → va_S A s.heap H locs → lv_has ls 2 [(0, .ref (a 0))] → f_M_leastPeriod_j13 F M_period M_width M_worstWith M_worstWithout q1 = some (r, z_M_thrown) → W p l e (headSpec w_M_leastPeriod rm_M_leastPeriod).room s m args below meth c H locs 0 0 Q (F0 m 13 ls [.int (iI q1), .ref (a 0)]) := by
    intro q1 H locs ls hP hD hS hl h
    rw [f_M_leastPeriod_j13] at h
    refine va_put (D := D) (ci := 10) (v := .int (iI q1)) (ty := .int) (C := R_M) (T := F_M) (N := 53) hx hb hT in_M ty_M ty_M_ok n_M hown hK hP hD hS 0 rfl rfl 0 (by decide) (hT _ m1021) (fun _ h9 => h9) rfl (by decide +kernel) rfl rfl (Nat.le_of_ble_eq_true rfl) d_M_leastPeriod_13 (fun H locs hP hD hS => ?_)
    have hP : va_P D vwCl [(o_M a q1 M_period M_width M_nodes M_analysed M_gates M_startNode M_startChange M_startWay M_startBase M_startEarly M_startLate M_worstWith M_worstWithout M_all M_rowSize)] H := hP
    have hD : va_D A [(o_M a q1 M_period M_width M_nodes M_analysed M_gates M_startNode M_startChange M_startWay M_startBase M_startEarly M_startLate M_worstWith M_worstWithout M_all M_rowSize)] := hD
    refine lv_aload_n hx hb d_M_leastPeriod_16 rfl (lv_at hl 0 rfl) ?_
    refine va_get (D := D) (ci := 10) (v := .int (iI q1)) (C := R_M) (T := F_M) (N := 53) hx hb hT in_M hown hK hP 0 rfl rfl 0 (by decide) (hT _ m1021) (fun _ h9 => h9) rfl d_M_leastPeriod_17 ?_
    obtain ⟨hg0, h⟩ := gr_e h
    refine zi_le hx hb d_M_leastPeriod_20 rfl hg0 (fun hc => ?_) (fun hc => ?_)
    · replace h := if_t hc h
      refine lv_aload_n hx hb d_M_leastPeriod_25 rfl (lv_at hl 0 rfl) ?_
      refine va_get (D := D) (ci := 10) (v := .int (iI M_worstWithout)) (C := R_M) (T := F_M) (N := 53) hx hb hT in_M hown hK hP 0 rfl rfl 39 (by decide) (hT _ m1060) (fun _ h9 => h9) rfl d_M_leastPeriod_26 ?_
      refine lv_ldc hx hb hown hk0 d_M_leastPeriod_29 ?_
      have hj44 : ∀  (H : Heap) (locs : List Loc) (ls : Array Slot), va_P D vwCl [(o_M a q1 M_period M_width M_nodes M_analysed M_gates M_startNode M_startChange M_startWay M_startBase M_startEarly M_startLate M_worstWith M_worstWithout M_all M_rowSize)] H → va_D A [(o_M a q1 M_period M_width M_nodes M_analysed M_gates M_startNode M_startChange M_startWay M_startBase M_startEarly M_startLate M_worstWith M_worstWithout M_all M_rowSize)] → va_S A s.heap H locs → lv_has ls 2 [(0, .ref (a 0))] → f_M_leastPeriod_j44 F M_period M_width M_worstWith q1 = some (r, z_M_thrown) → W p l e (headSpec w_M_leastPeriod rm_M_leastPeriod).room s m args below meth c H locs 0 0 Q (F0 m 44 ls []) := by
        intro  H locs ls hP hD hS hl h
        rw [f_M_leastPeriod_j44] at h
        refine lv_aload_n hx hb d_M_leastPeriod_44 rfl (lv_at hl 0 rfl) ?_
        refine va_get (D := D) (ci := 10) (v := .int (iI M_worstWith)) (C := R_M) (T := F_M) (N := 53) hx hb hT in_M hown hK hP 0 rfl rfl 38 (by decide) (hT _ m1059) (fun _ h9 => h9) rfl d_M_leastPeriod_45 ?_
        refine lv_ldc hx hb hown hk0 d_M_leastPeriod_48 ?_
        have hj71 : ∀ (q0 : Int) (H : Heap) (locs : List Loc) (ls : Array Slot), va_P D vwCl [(o_M a q1 M_period M_width M_nodes M_analysed M_gates M_startNode M_startChange M_startWay M_startBase M_startEarly M_startLate M_worstWith M_worstWithout M_all M_rowSize)] H → va_D A [(o_M a q1 M_period M_width M_nodes M_analysed M_gates M_startNode M_startChange M_startWay M_startBase M_startEarly M_startLate M_worstWith M_worstWithout M_all M_rowSize)] → va_S A s.heap H locs → lv_has ls 2 [(0, .ref (a 0))] → f_M_leastPeriod_j71 F M_width q1 q0 = some (r, z_M_thrown) → W p l e (headSpec w_M_leastPeriod rm_M_leastPeriod).room s m args below meth c H locs 0 0 Q (F0 m 71 ls [.int (iI q0)]) := by
          intro q0 H locs ls hP hD hS hl h
          rw [f_M_leastPeriod_j71] at h
          refine lv_istore_n (lv' := [(1, .int (iI q0)), (0, .ref (a 0))]) hx hb d_M_leastPeriod_71 rfl hl (by decide) rfl (fun ls hl => ?_)
          refine lv_iload_n hx hb d_M_leastPeriod_72 rfl (lv_at hl 0 rfl) ?_
          refine lv_aload_n hx hb d_M_leastPeriod_73 rfl (lv_at hl 1 rfl) ?_
          refine va_get (D := D) (ci := 10) (v := .int (iI M_width)) (C := R_M) (T := F_M) (N := 53) hx hb hT in_M hown hK hP 0 rfl rfl 2 (by decide) (hT _ m1023) (fun _ h9 => h9) rfl d_M_leastPeriod_74 ?_
          have hj90 : ∀ (q0_1 : Int) (H : Heap) (locs : List Loc) (ls : Array Slot), va_P D vwCl [(o_M a q1 M_period M_width M_nodes M_analysed M_gates M_startNode M_startChange M_startWay M_startBase M_startEarly M_startLate M_worstWith M_worstWithout M_all M_rowSize)] H → va_D A [(o_M a q1 M_period M_width M_nodes M_analysed M_gates M_startNode M_startChange M_startWay M_startBase M_startEarly M_startLate M_worstWith M_worstWithout M_all M_rowSize)] → va_S A s.heap H locs → lv_has ls 2 [] → f_M_leastPeriod_j90 F q1 q0_1 = some (r, z_M_thrown) → W p l e (headSpec w_M_leastPeriod rm_M_leastPeriod).room s m args below meth c H locs 0 0 Q (F0 m 90 ls [.int (iI q0_1)]) := by
            intro q0_1 H locs ls hP hD hS hl h
            rw [f_M_leastPeriod_j90] at h
            refine lv_istore_n (lv' := [(1, .int (iI q0_1))]) hx hb d_M_leastPeriod_90 rfl hl (by decide) rfl (fun ls hl => ?_)
            refine lv_iload_n hx hb d_M_leastPeriod_91 rfl (lv_at hl 0 rfl) ?_
            refine lv_ldc hx hb hown hk1 d_M_leastPeriod_92 ?_
            obtain ⟨hg0, h⟩ := gr_e h
            refine zc_le hx hb d_M_leastPeriod_94 rfl hg0 (by decide) (fun hc => ?_) (fun hc => ?_)
            · replace h := if_t hc h
              refine lv_iload_n hx hb d_M_leastPeriod_102 rfl (lv_at hl 0 rfl) ?_
              obtain ⟨e1, e2⟩ := so2 h
              rw [hQ, e1, e2]; rw [hAe] at hD hS; exact W.iret hx hb hr (fun t ht hW => ⟨⟨_, (), rfl, rfl, by rw [ht]; exact hP, va_K.moved hW.alike hK, hD⟩, hS.F ht⟩) hS.2.2 d_M_leastPeriod_103
            · replace h := if_f hc h
              refine lv_ldc hx hb hown hk0 d_M_leastPeriod_97 ?_
              refine lv_goto hx hb d_M_leastPeriod_99 rfl ?_
              obtain ⟨e1, e2⟩ := so2 h
              rw [hQ, e1, e2]; rw [hAe] at hD hS; exact W.iret hx hb hr (fun t ht hW => ⟨⟨_, (), rfl, rfl, by rw [ht]; exact hP, va_K.moved hW.alike hK, hD⟩, hS.F ht⟩) hS.2.2 d_M_leastPeriod_103
          obtain ⟨hg0, h⟩ := gr_e h
          obtain ⟨hg1, h⟩ := gr_e h
          refine zc_le hx hb d_M_leastPeriod_77 rfl hg0 hg1 (fun hc => ?_) (fun hc => ?_)
          · replace h := if_t hc h
            refine lv_aload_n hx hb d_M_leastPeriod_84 rfl (lv_at hl 1 rfl) ?_
            refine va_get (D := D) (ci := 10) (v := .int (iI M_width)) (C := R_M) (T := F_M) (N := 53) hx hb hT in_M hown hK hP 0 rfl rfl 2 (by decide) (hT _ m1023) (fun _ h9 => h9) rfl d_M_leastPeriod_85 ?_
            refine zv_iconst hx hb d_M_leastPeriod_88 ?_
            refine zv_iadd hx hb d_M_leastPeriod_89 ?_
            exact hj90 (M_width + 1) H locs ls hP hD hS (lv_sub hl [] rfl) h
          · replace h := if_f hc h
            refine lv_iload_n hx hb d_M_leastPeriod_80 rfl (lv_at hl 0 rfl) ?_
            refine lv_goto hx hb d_M_leastPeriod_81 rfl ?_
            exact hj90 q0 H locs ls hP hD hS (lv_sub hl [] rfl) h
        obtain ⟨hg0, h⟩ := gr_e h
        refine zc_ne hx hb d_M_leastPeriod_50 rfl hg0 (by decide) (fun hc => ?_) (fun hc => ?_)
        · replace h := if_f hc h
          refine lv_aload_n hx hb d_M_leastPeriod_62 rfl (lv_at hl 0 rfl) ?_
          refine va_get (D := D) (ci := 10) (v := .int (iI M_period)) (C := R_M) (T := F_M) (N := 53) hx hb hT in_M hown hK hP 0 rfl rfl 1 (by decide) (hT _ m1022) (fun _ h9 => h9) rfl d_M_leastPeriod_63 ?_
          refine lv_aload_n hx hb d_M_leastPeriod_66 rfl (lv_at hl 0 rfl) ?_
          refine va_get (D := D) (ci := 10) (v := .int (iI M_worstWith)) (C := R_M) (T := F_M) (N := 53) hx hb hT in_M hown hK hP 0 rfl rfl 38 (by decide) (hT _ m1059) (fun _ h9 => h9) rfl d_M_leastPeriod_67 ?_
          refine zv_isub hx hb d_M_leastPeriod_70 ?_
          exact hj71 (M_period - M_worstWith) H locs ls hP hD hS (lv_sub hl [0] rfl) h
        · replace h := if_t hc h
          refine lv_aload_n hx hb d_M_leastPeriod_53 rfl (lv_at hl 0 rfl) ?_
          refine va_get (D := D) (ci := 10) (v := .int (iI M_width)) (C := R_M) (T := F_M) (N := 53) hx hb hT in_M hown hK hP 0 rfl rfl 2 (by decide) (hT _ m1023) (fun _ h9 => h9) rfl d_M_leastPeriod_54 ?_
          refine zv_iconst hx hb d_M_leastPeriod_57 ?_
          refine zv_iadd hx hb d_M_leastPeriod_58 ?_
          refine lv_goto hx hb d_M_leastPeriod_59 rfl ?_
          exact hj71 (M_width + 1) H locs ls hP hD hS (lv_sub hl [0] rfl) h
      obtain ⟨hg0, h⟩ := gr_e h
      refine zc_eq hx hb d_M_leastPeriod_31 rfl hg0 (by decide) (fun hc => ?_) (fun hc => ?_)
      · replace h := if_t hc h
        exact hj44  H locs ls hP hD hS (lv_sub hl [0] rfl) h
      · replace h := if_f hc h
        refine lv_aload_n hx hb d_M_leastPeriod_34 rfl (lv_at hl 0 rfl) ?_
        refine va_get (D := D) (ci := 10) (v := .int (iI M_worstWithout)) (C := R_M) (T := F_M) (N := 53) hx hb hT in_M hown hK hP 0 rfl rfl 39 (by decide) (hT _ m1060) (fun _ h9 => h9) rfl d_M_leastPeriod_35 ?_
        obtain ⟨hg0, h⟩ := gr_e h
        refine zi_ge hx hb d_M_leastPeriod_38 rfl hg0 (fun hc => ?_) (fun hc => ?_)
        · replace h := if_t hc h
          exact hj44  H locs ls hP hD hS (lv_sub hl [0] rfl) h
        · replace h := if_f hc h
          refine lv_ldc hx hb hown hk0 d_M_leastPeriod_41 ?_
          obtain ⟨e1, e2⟩ := so2 h
          rw [hQ, e1, e2]; rw [hAe] at hD hS; exact W.iret hx hb hr (fun t ht hW => ⟨⟨_, (), rfl, rfl, by rw [ht]; exact hP, va_K.moved hW.alike hK, hD⟩, hS.F ht⟩) hS.2.2 d_M_leastPeriod_43
    · replace h := if_f hc h
      refine zv_iconst hx hb d_M_leastPeriod_23 ?_
      obtain ⟨e1, e2⟩ := so2 h
      rw [hQ, e1, e2]; rw [hAe] at hD hS; exact W.iret hx hb hr (fun t ht hW => ⟨⟨_, (), rfl, rfl, by rw [ht]; exact hP, va_K.moved hW.alike hK, hD⟩, hS.F ht⟩) hS.2.2 d_M_leastPeriod_24
  obtain ⟨hg0, h⟩ := gr_e h
  refine zi_eq hx hb d_M_leastPeriod_5 rfl hg0 (fun hc => ?_) (fun hc => ?_)
  · replace h := if_t hc h
    refine zv_iconst hx hb d_M_leastPeriod_12 ?_
    exact hj13 1 H locs ls hP hD hS (lv_sub hl [0] rfl) h
  · replace h := if_f hc h
    refine zv_iconst hx hb d_M_leastPeriod_8 ?_
    refine lv_goto hx hb d_M_leastPeriod_9 rfl ?_
    exact hj13 0 H locs ls hP hD hS (lv_sub hl [0] rfl) h
abbrev rm_M_paths : Room := { frames := 0, cells := 0, slots := 0, locals := 0 }
set_option maxHeartbeats 4000000 in
set_option maxRecDepth 100000 in
theorem c_M_paths (l : Launch) (D : va_G) (cI cJ cZ : ClassId) (F : Nat) (a : Nat → Nat) (M_thrown : Int) (M_period : Int) (M_width : Int) (M_nodes : Int) (M_analysed : Int) (M_gates : Int) (M_startNode : Int) (M_startChange : Int) (M_startWay : Int) (M_startBase : Int) (M_startEarly : Int) (M_startLate : Int) (M_worstWith : Int) (M_worstWithout : Int) (M_all : Int64) (M_rowSize : Int) (r : Int) (z_M_thrown : Int) (sz : Nat) (h : f_M_paths F M_analysed M_all = some (r, z_M_thrown)) : Met l y_M_paths w_M_paths rm_M_paths (PC D [(cI, .int), (cJ, .long), (cZ, .boolean)] [.ref (a 0)] ([(o_M a M_thrown M_period M_width M_nodes M_analysed M_gates M_startNode M_startChange M_startWay M_startBase M_startEarly M_startLate M_worstWith M_worstWithout M_all M_rowSize)]) sz) (QI D [(cI, .int), (cJ, .long), (cZ, .boolean)] ([(o_M a M_thrown M_period M_width M_nodes M_analysed M_gates M_startNode M_startChange M_startWay M_startBase M_startEarly M_startLate M_worstWith M_worstWithout M_all M_rowSize)]) sz r ([(o_M a z_M_thrown M_period M_width M_nodes M_analysed M_gates M_startNode M_startChange M_startWay M_startBase M_startEarly M_startLate M_worstWith M_worstWithout M_all M_rowSize)])) 0 0 (va_A ([(o_M a M_thrown M_period M_width M_nodes M_analysed M_gates M_startNode M_startChange M_startWay M_startBase M_startEarly M_startLate M_worstWith M_worstWithout M_all M_rowSize)]) sz) := by
  refine Met.ofW (cc := prog_12_method_53_code) (maxL := 1) (ret := (Option.some Jvm.ClassFile.FieldType.int)) (by decide) rfl ?_
  intro p e s m args below meth c s₁ B hml hv
  obtain ⟨rfl, hsz, hP, hK, hD0, hN⟩ := hv
  have hx := B.exec
  have hb := B.bytes
  have hr := B.returns
  have hts := atoms_spec (ws := w_M_paths) B.pre
  have hown : s.vm.findClass R_M = some m.cls := findClass_of_methodNamed B.named
  have hlocks := B.notSynchronized
  subst hsz
  have hD := hD0.self (sz := s.heap.size)
  obtain ⟨A, hAe⟩ : ∃ A, A = va_A ([(o_M a M_thrown M_period M_width M_nodes M_analysed M_gates M_startNode M_startChange M_startWay M_startBase M_startEarly M_startLate M_worstWith M_worstWithout M_all M_rowSize)]) s.heap.size := ⟨_, rfl⟩
  rw [← hAe] at hD
  have hA : ∀ q : Nat, s.heap.size ≤ q → A q := fun q h => by rw [hAe]; exact Or.inr h
  have hS : va_S A s.heap s.heap [] := va_S.rf
  have hl := lv_entry ([.ref (a 0)]) (n := 1) (Nat.le_of_ble_eq_true rfl)
  rw [lg_entry_eq]
  generalize (lg_sl ([.ref (a 0)]) ++ List.replicate (1 - (lg_sl ([.ref (a 0)])).length) Slot.unset).toArray = ls at hl ⊢
  have hl : lv_has ls 1 [(0, .ref (a 0))] := hl
  generalize (List.toArray ([.ref (a 0)] : List Value)) = args at hts ⊢
  have hT : ∀ w ∈ Tg, w.before args s = true := fun w h => hts w (List.mem_cons_of_mem _ h)
  obtain ⟨Q, hQ⟩ : ∃ Q, Q = MQ below (QI D [(cI, .int), (cJ, .long), (cZ, .boolean)] ([(o_M a M_thrown M_period M_width M_nodes M_analysed M_gates M_startNode M_startChange M_startWay M_startBase M_startEarly M_startLate M_worstWith M_worstWithout M_all M_rowSize)]) s.heap.size r ([(o_M a z_M_thrown M_period M_width M_nodes M_analysed M_gates M_startNode M_startChange M_startWay M_startBase M_startEarly M_startLate M_worstWith M_worstWithout M_all M_rowSize)])) args s 0 0 (va_A ([(o_M a M_thrown M_period M_width M_nodes M_analysed M_gates M_startNode M_startChange M_startWay M_startBase M_startEarly M_startLate M_worstWith M_worstWithout M_all M_rowSize)]) s.heap.size) := ⟨_, rfl⟩
  rw [← hQ]
  suffices hW : ∀ (H : Heap) (locs : List Loc), va_P D vwCl ([(o_M a M_thrown M_period M_width M_nodes M_analysed M_gates M_startNode M_startChange M_startWay M_startBase M_startEarly M_startLate M_worstWith M_worstWithout M_all M_rowSize)]) H → va_D A ([(o_M a M_thrown M_period M_width M_nodes M_analysed M_gates M_startNode M_startChange M_startWay M_startBase M_startEarly M_startLate M_worstWith M_worstWithout M_all M_rowSize)]) → va_S A s.heap H locs → W p l e (headSpec w_M_paths rm_M_paths).room s m args below meth c H locs 0 0 Q (F0 m 0 ls []) from hW s.heap [] hP hD hS
  clear hP hD hS
  intro H locs hP hD hS
  have hk0 := hT _ m1332
  rw [f_M_paths] at h
  refine lv_aload_n hx hb d_M_paths_0 rfl (lv_at hl 0 rfl) ?_
  refine lv_aload_n hx hb d_M_paths_1 rfl (lv_at hl 0 rfl) ?_
  refine va_get (D := D) (ci := 10) (v := .int (iI M_analysed)) (C := R_M) (T := F_M) (N := 53) hx hb hT in_M hown hK hP 0 rfl rfl 14 (by decide) (hT _ m1035) (fun _ h9 => h9) rfl d_M_paths_2 ?_
  have hj13 : ∀ (q1 : Int) (H : Heap) (locs : List Loc) (ls : Array Slot), va_P D vwCl [(o_M a M_thrown M_period M_width M_nodes M_analysed M_gates M_startNode M_startChange M_startWay M_startBase M_startEarly M_startLate M_worstWith M_worstWithout M_all M_rowSize)] H → va_D A [(o_M a M_thrown M_period M_width M_nodes M_analysed M_gates M_startNode M_startChange M_startWay M_startBase M_startEarly M_startLate M_worstWith M_worstWithout M_all M_rowSize)] → va_S A s.heap H locs → lv_has ls 1 [(0, .ref (a 0))] → f_M_paths_j13 F M_all q1 = some (r, z_M_thrown) → W p l e (headSpec w_M_paths rm_M_paths).room s m args below meth c H locs 0 0 Q (F0 m 13 ls [.int (iI q1), .ref (a 0)]) := by
    intro q1 H locs ls hP hD hS hl h
    rw [f_M_paths_j13] at h
    refine va_put (D := D) (ci := 10) (v := .int (iI q1)) (ty := .int) (C := R_M) (T := F_M) (N := 53) hx hb hT in_M ty_M ty_M_ok n_M hown hK hP hD hS 0 rfl rfl 0 (by decide) (hT _ m1021) (fun _ h9 => h9) rfl (by decide +kernel) rfl rfl (Nat.le_of_ble_eq_true rfl) d_M_paths_13 (fun H locs hP hD hS => ?_)
    have hP : va_P D vwCl [(o_M a q1 M_period M_width M_nodes M_analysed M_gates M_startNode M_startChange M_startWay M_startBase M_startEarly M_startLate M_worstWith M_worstWithout M_all M_rowSize)] H := hP
    have hD : va_D A [(o_M a q1 M_period M_width M_nodes M_analysed M_gates M_startNode M_startChange M_startWay M_startBase M_startEarly M_startLate M_worstWith M_worstWithout M_all M_rowSize)] := hD
    refine lv_aload_n hx hb d_M_paths_16 rfl (lv_at hl 0 rfl) ?_
    refine va_get (D := D) (ci := 10) (v := .int (iI q1)) (C := R_M) (T := F_M) (N := 53) hx hb hT in_M hown hK hP 0 rfl rfl 0 (by decide) (hT _ m1021) (fun _ h9 => h9) rfl d_M_paths_17 ?_
    obtain ⟨hg0, h⟩ := gr_e h
    refine zi_le hx hb d_M_paths_20 rfl hg0 (fun hc => ?_) (fun hc => ?_)
    · replace h := if_t hc h
      refine lv_aload_n hx hb d_M_paths_27 rfl (lv_at hl 0 rfl) ?_
      refine va_get (D := D) (ci := 10) (v := .long M_all) (C := R_M) (T := F_M) (N := 53) hx hb hT in_M hown hK hP 0 rfl rfl 41 (by decide) (hT _ m1062) (fun _ h9 => h9) rfl d_M_paths_28 ?_
      refine lv_ldc2 hx hb hown hk0 d_M_paths_31 ?_
      refine zv_lcmp hx hb d_M_paths_34 ?_
      obtain ⟨hg0, h⟩ := gr_e h
      refine zi_le hx hb d_M_paths_35 rfl hg0 (fun hc => ?_) (fun hc => ?_)
      · replace h := if_t hc h
        refine lv_aload_n hx hb d_M_paths_43 rfl (lv_at hl 0 rfl) ?_
        refine va_get (D := D) (ci := 10) (v := .long M_all) (C := R_M) (T := F_M) (N := 53) hx hb hT in_M hown hK hP 0 rfl rfl 41 (by decide) (hT _ m1062) (fun _ h9 => h9) rfl d_M_paths_44 ?_
        refine zv_l2i hx hb d_M_paths_47 ?_
        obtain ⟨e1, e2⟩ := so2 h
        rw [hQ, e1, e2]; rw [hAe] at hD hS; exact W.iret hx hb hr (fun t ht hW => ⟨⟨_, (), rfl, rfl, by rw [ht]; exact hP, va_K.moved hW.alike hK, hD⟩, hS.F ht⟩) hS.2.2 d_M_paths_48
      · replace h := if_f hc h
        refine lv_bipush (v := iI (-3)) hx hb d_M_paths_38 (by decide) ?_
        refine lv_goto hx hb d_M_paths_40 rfl ?_
        obtain ⟨e1, e2⟩ := so2 h
        rw [hQ, e1, e2]; rw [hAe] at hD hS; exact W.iret hx hb hr (fun t ht hW => ⟨⟨_, (), rfl, rfl, by rw [ht]; exact hP, va_K.moved hW.alike hK, hD⟩, hS.F ht⟩) hS.2.2 d_M_paths_48
    · replace h := if_f hc h
      refine zv_iconst hx hb d_M_paths_23 ?_
      refine lv_goto hx hb d_M_paths_24 rfl ?_
      obtain ⟨e1, e2⟩ := so2 h
      rw [hQ, e1, e2]; rw [hAe] at hD hS; exact W.iret hx hb hr (fun t ht hW => ⟨⟨_, (), rfl, rfl, by rw [ht]; exact hP, va_K.moved hW.alike hK, hD⟩, hS.F ht⟩) hS.2.2 d_M_paths_48
  obtain ⟨hg0, h⟩ := gr_e h
  refine zi_eq hx hb d_M_paths_5 rfl hg0 (fun hc => ?_) (fun hc => ?_)
  · replace h := if_t hc h
    refine zv_iconst hx hb d_M_paths_12 ?_
    exact hj13 1 H locs ls hP hD hS (lv_sub hl [0] rfl) h
  · replace h := if_f hc h
    refine zv_iconst hx hb d_M_paths_8 ?_
    refine lv_goto hx hb d_M_paths_9 rfl ?_
    exact hj13 0 H locs ls hP hD hS (lv_sub hl [0] rfl) h
abbrev rm_M_refused : Room := { frames := 1, cells := 0, slots := 0, locals := 20 }
set_option maxHeartbeats 4000000 in
set_option maxRecDepth 100000 in
theorem c_M_refused (l : Launch) (D : va_G) (cI cJ cZ : ClassId) (F : Nat) (a : Nat → Nat) (M_thrown : Int) (M_period : Int) (M_width : Int) (M_nodes : Int) (M_analysed : Int) (M_gates : Int) (M_startNode : Int) (M_startChange : Int) (M_startWay : Int) (M_startBase : Int) (M_startEarly : Int) (M_startLate : Int) (M_worstWith : Int) (M_worstWithout : Int) (M_all : Int64) (M_rowSize : Int) (M_listed : Int → Int) (x1 : Int) (x2 : Int) (r : Int) (sz : Nat) (h : f_M_refused F M_analysed M_all M_listed x1 x2 = some (r)) : Met l y_M_refused w_M_refused rm_M_refused (PC D [(cI, .int), (cJ, .long), (cZ, .boolean)] [.ref (a 0), .int (iI x1), .int (iI x2)] ([(o_M a M_thrown M_period M_width M_nodes M_analysed M_gates M_startNode M_startChange M_startWay M_startBase M_startEarly M_startLate M_worstWith M_worstWithout M_all M_rowSize), ((a 34), .inl (cI, 2, .inl (ia M_listed)))]) sz) (QcRead (iI r)) 0 0 (fun _ => False) := by
  refine Met.ofW (cc := prog_12_method_54_code) (maxL := 3) (ret := (Option.some Jvm.ClassFile.FieldType.int)) (by decide) rfl ?_
  intro p e s m args below meth c s₁ B hml hv
  obtain ⟨rfl, hsz, hP, hK, hD0, hN⟩ := hv
  have hx := B.exec
  have hb := B.bytes
  have hr := B.returns
  have hts := atoms_spec (ws := w_M_refused) B.pre
  have hown : s.vm.findClass R_M = some m.cls := findClass_of_methodNamed B.named
  have hlocks := B.notSynchronized
  subst hsz
  have hl := lv_entry ([.ref (a 0), .int (iI x1), .int (iI x2)]) (n := 3) (Nat.le_of_ble_eq_true rfl)
  rw [lg_entry_eq]
  generalize (lg_sl ([.ref (a 0), .int (iI x1), .int (iI x2)]) ++ List.replicate (3 - (lg_sl ([.ref (a 0), .int (iI x1), .int (iI x2)])).length) Slot.unset).toArray = ls at hl ⊢
  have hl : lv_has ls 3 [(0, .ref (a 0)), (1, .int (iI x1)), (2, .int (iI x2))] := hl
  generalize (List.toArray ([.ref (a 0), .int (iI x1), .int (iI x2)] : List Value)) = args at hts ⊢
  have hT : ∀ w ∈ Tg, w.before args s = true := fun w h => hts w (List.mem_cons_of_mem _ h)
  obtain ⟨Q, hQ⟩ : ∃ Q, Q = MQ below (QcRead (iI r)) args s 0 0 (fun _ => False) := ⟨_, rfl⟩
  rw [← hQ]
  have hk0 := hT _ m1332
  rw [f_M_refused] at h
  refine lv_aload_n hx hb d_M_refused_0 rfl (lv_at hl 0 rfl) ?_
  refine va_get (D := D) (ci := 10) (v := .int (iI M_analysed)) (C := R_M) (T := F_M) (N := 53) hx hb hT in_M hown hK hP 0 rfl rfl 14 (by decide) (hT _ m1035) (fun _ h9 => h9) rfl d_M_refused_1 ?_
  have hj18 : ∀  (ls : Array Slot), lv_has ls 3 [] → f_M_refused_j18 F = some (r) → W p l e (headSpec w_M_refused rm_M_refused).room s m args below meth c s.heap [] 0 0 Q (F0 m 18 ls []) := by
    intro  ls hl h
    rw [f_M_refused_j18] at h
    refine zv_iconst hx hb d_M_refused_18 ?_
    refine lv_goto hx hb d_M_refused_19 rfl ?_
    have e1 := so1 h
    rw [hQ, e1]; exact W.iret hx hb hr (fun t ht hW => ⟨rfl, ht⟩) (fun q h => nomatch h) d_M_refused_58
  obtain ⟨hg0, h⟩ := gr_e h
  refine zi_eq hx hb d_M_refused_4 rfl hg0 (fun hc => ?_) (fun hc => ?_)
  · replace h := if_t hc h
    exact hj18  ls (lv_sub hl [] rfl) h
  · replace h := if_f hc h
    refine lv_aload_n hx hb d_M_refused_7 rfl (lv_at hl 0 rfl) ?_
    refine va_get (D := D) (ci := 10) (v := .long M_all) (C := R_M) (T := F_M) (N := 53) hx hb hT in_M hown hK hP 0 rfl rfl 41 (by decide) (hT _ m1062) (fun _ h9 => h9) rfl d_M_refused_8 ?_
    refine lv_ldc2 hx hb hown hk0 d_M_refused_11 ?_
    refine zv_lcmp hx hb d_M_refused_14 ?_
    obtain ⟨hg0, h⟩ := gr_e h
    refine zi_le hx hb d_M_refused_15 rfl hg0 (fun hc => ?_) (fun hc => ?_)
    · replace h := if_t hc h
      refine lv_iload_n hx hb d_M_refused_22 rfl (lv_at hl 1 rfl) ?_
      obtain ⟨r23, hcall, h⟩ := ob1_e h
      refine ro_i (va_Run.run (va_runS (As := [.int (iI x1)]) (rest := []) ⟨hx, hb, hml, hown, hts⟩ (c_M_noBit l D cI cJ cZ F a x1 r23 s.heap.size hcall) (cwS 1 hts (gd_S m1367 m1365 m1366 m12) rfl rfl rfl ⟨rfl, hc_M_noBit⟩ ⟨Nat.le_of_ble_eq_true rfl, Nat.le_of_ble_eq_true rfl⟩) (pc_S [.int (iI x1)] hP hK hD0 hN [] rfl rfl rfl) rfl rfl hl.1 rfl (lv_room (Nat.le_of_ble_eq_true rfl)) d_M_refused_23 ⟨Nat.le_refl 0, Nat.le_refl 0⟩)) (W.eq (g2 := F0 m 26 ls [.int (iI r23)]) rfl ?_)
      obtain ⟨hg0, h⟩ := gr_e h
      refine zi_eq hx hb d_M_refused_26 rfl hg0 (fun hc => ?_) (fun hc => ?_)
      · replace h := if_t hc h
        refine lv_iload_n hx hb d_M_refused_33 rfl (lv_at hl 2 rfl) ?_
        have hj53 : ∀  (ls : Array Slot), lv_has ls 3 [] → f_M_refused_j53 F = some (r) → W p l e (headSpec w_M_refused rm_M_refused).room s m args below meth c s.heap [] 0 0 Q (F0 m 53 ls []) := by
          intro  ls hl h
          rw [f_M_refused_j53] at h
          refine zv_iconst hx hb d_M_refused_53 ?_
          refine lv_goto hx hb d_M_refused_54 rfl ?_
          have e1 := so1 h
          rw [hQ, e1]; exact W.iret hx hb hr (fun t ht hW => ⟨rfl, ht⟩) (fun q h => nomatch h) d_M_refused_58
        obtain ⟨hg0, h⟩ := gr_e h
        refine zi_lt hx hb d_M_refused_34 rfl hg0 (fun hc => ?_) (fun hc => ?_)
        · replace h := if_t hc h
          exact hj53  ls (lv_sub hl [] rfl) h
        · replace h := if_f hc h
          refine lv_iload_n hx hb d_M_refused_37 rfl (lv_at hl 2 rfl) ?_
          refine lv_bipush (v := iI 20) hx hb d_M_refused_38 (by decide) ?_
          obtain ⟨hg0, h⟩ := gr_e h
          refine zc_ge hx hb d_M_refused_40 rfl hg0 (by decide) (fun hc => ?_) (fun hc => ?_)
          · replace h := if_t hc h
            exact hj53  ls (lv_sub hl [] rfl) h
          · replace h := if_f hc h
            refine lv_iload_n hx hb d_M_refused_43 rfl (lv_at hl 2 rfl) ?_
            refine lv_aload_n hx hb d_M_refused_44 rfl (lv_at hl 0 rfl) ?_
            refine va_get (D := D) (ci := 10) (v := .ref (a 34)) (C := R_M) (T := F_M) (N := 53) hx hb hT in_M hown hK hP 0 rfl rfl 49 (by decide) (hT _ m1070) (fun _ h9 => h9) rfl d_M_refused_45 ?_
            refine lv_iload_n hx hb d_M_refused_48 rfl (lv_at hl 1 rfl) ?_
            obtain ⟨hin, h⟩ := gi_e h
            refine zv_iald hx hb hK hP 1 0 rfl rfl (Nat.le_of_ble_eq_true rfl) hin d_M_refused_49 ?_
            obtain ⟨hg0, h⟩ := gr_e h
            obtain ⟨hg1, h⟩ := gr_e h
            refine zc_lt hx hb d_M_refused_50 rfl hg0 hg1 (fun hc => ?_) (fun hc => ?_)
            · replace h := if_t hc h
              refine zv_iconst hx hb d_M_refused_57 ?_
              have e1 := so1 h
              rw [hQ, e1]; exact W.iret hx hb hr (fun t ht hW => ⟨rfl, ht⟩) (fun q h => nomatch h) d_M_refused_58
            · replace h := if_f hc h
              exact hj53  ls (lv_sub hl [] rfl) h
      · replace h := if_f hc h
        refine zv_iconst hx hb d_M_refused_29 ?_
        refine lv_goto hx hb d_M_refused_30 rfl ?_
        have e1 := so1 h
        rw [hQ, e1]; exact W.iret hx hb hr (fun t ht hW => ⟨rfl, ht⟩) (fun q h => nomatch h) d_M_refused_58
    · replace h := if_f hc h
      exact hj18  ls (lv_sub hl [] rfl) h
