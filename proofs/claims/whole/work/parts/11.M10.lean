abbrev rm_M_path : Room := { frames := 2, cells := 0, slots := 0, locals := 42 }
set_option maxHeartbeats 4000000 in
set_option maxRecDepth 100000 in
theorem c_M_path (l : Launch) (D : va_G) (cI cJ cZ : ClassId) (F : Nat) (a : Nat → Nat) (M_thrown : Int) (M_period : Int) (M_width : Int) (M_nodes : Int) (M_analysed : Int) (M_gates : Int) (M_startNode : Int) (M_startChange : Int) (M_startWay : Int) (M_startBase : Int) (M_startEarly : Int) (M_startLate : Int) (M_worstWith : Int) (M_worstWithout : Int) (M_all : Int64) (M_rowSize : Int) (M_listed : Int → Int) (M_listSlack : Int → Int) (x1 : Int) (x2 : Int) (r : Int) (z_M_thrown : Int) (sz : Nat) (h : f_M_path F M_analysed M_all M_listed M_listSlack x1 x2 = some (r, z_M_thrown)) : Met l y_M_path w_M_path rm_M_path (PC D [(cI, .int), (cJ, .long), (cZ, .boolean)] [.ref (a 0), .int (iI x1), .int (iI x2)] ([(o_M a M_thrown M_period M_width M_nodes M_analysed M_gates M_startNode M_startChange M_startWay M_startBase M_startEarly M_startLate M_worstWith M_worstWithout M_all M_rowSize), ((a 34), .inl (cI, 2, .inl (ia M_listed))), ((a 35), .inl (cI, 42, .inl (ia M_listSlack)))]) sz) (QI D [(cI, .int), (cJ, .long), (cZ, .boolean)] ([(o_M a M_thrown M_period M_width M_nodes M_analysed M_gates M_startNode M_startChange M_startWay M_startBase M_startEarly M_startLate M_worstWith M_worstWithout M_all M_rowSize), ((a 34), .inl (cI, 2, .inl (ia M_listed))), ((a 35), .inl (cI, 42, .inl (ia M_listSlack)))]) sz r ([(o_M a z_M_thrown M_period M_width M_nodes M_analysed M_gates M_startNode M_startChange M_startWay M_startBase M_startEarly M_startLate M_worstWith M_worstWithout M_all M_rowSize), ((a 34), .inl (cI, 2, .inl (ia M_listed))), ((a 35), .inl (cI, 42, .inl (ia M_listSlack)))])) 0 0 (va_A ([(o_M a M_thrown M_period M_width M_nodes M_analysed M_gates M_startNode M_startChange M_startWay M_startBase M_startEarly M_startLate M_worstWith M_worstWithout M_all M_rowSize), ((a 34), .inl (cI, 2, .inl (ia M_listed))), ((a 35), .inl (cI, 42, .inl (ia M_listSlack)))]) sz) := by
  refine Met.ofW (cc := prog_12_method_55_code) (maxL := 3) (ret := (Option.some Jvm.ClassFile.FieldType.int)) (by decide) rfl ?_
  intro p e s m args below meth c s₁ B hml hv
  obtain ⟨rfl, hsz, hP, hK, hD0, hN⟩ := hv
  have hx := B.exec
  have hb := B.bytes
  have hr := B.returns
  have hts := atoms_spec (ws := w_M_path) B.pre
  have hown : s.vm.findClass R_M = some m.cls := findClass_of_methodNamed B.named
  have hlocks := B.notSynchronized
  subst hsz
  have hD := hD0.self (sz := s.heap.size)
  obtain ⟨A, hAe⟩ : ∃ A, A = va_A ([(o_M a M_thrown M_period M_width M_nodes M_analysed M_gates M_startNode M_startChange M_startWay M_startBase M_startEarly M_startLate M_worstWith M_worstWithout M_all M_rowSize), ((a 34), .inl (cI, 2, .inl (ia M_listed))), ((a 35), .inl (cI, 42, .inl (ia M_listSlack)))]) s.heap.size := ⟨_, rfl⟩
  rw [← hAe] at hD
  have hA : ∀ q : Nat, s.heap.size ≤ q → A q := fun q h => by rw [hAe]; exact Or.inr h
  have hS : va_S A s.heap s.heap [] := va_S.rf
  have hl := lv_entry ([.ref (a 0), .int (iI x1), .int (iI x2)]) (n := 3) (Nat.le_of_ble_eq_true rfl)
  rw [lg_entry_eq]
  generalize (lg_sl ([.ref (a 0), .int (iI x1), .int (iI x2)]) ++ List.replicate (3 - (lg_sl ([.ref (a 0), .int (iI x1), .int (iI x2)])).length) Slot.unset).toArray = ls at hl ⊢
  have hl : lv_has ls 3 [(0, .ref (a 0)), (1, .int (iI x1)), (2, .int (iI x2))] := hl
  generalize (List.toArray ([.ref (a 0), .int (iI x1), .int (iI x2)] : List Value)) = args at hts ⊢
  have hT : ∀ w ∈ Tg, w.before args s = true := fun w h => hts w (List.mem_cons_of_mem _ h)
  obtain ⟨Q, hQ⟩ : ∃ Q, Q = MQ below (QI D [(cI, .int), (cJ, .long), (cZ, .boolean)] ([(o_M a M_thrown M_period M_width M_nodes M_analysed M_gates M_startNode M_startChange M_startWay M_startBase M_startEarly M_startLate M_worstWith M_worstWithout M_all M_rowSize), ((a 34), .inl (cI, 2, .inl (ia M_listed))), ((a 35), .inl (cI, 42, .inl (ia M_listSlack)))]) s.heap.size r ([(o_M a z_M_thrown M_period M_width M_nodes M_analysed M_gates M_startNode M_startChange M_startWay M_startBase M_startEarly M_startLate M_worstWith M_worstWithout M_all M_rowSize), ((a 34), .inl (cI, 2, .inl (ia M_listed))), ((a 35), .inl (cI, 42, .inl (ia M_listSlack)))])) args s 0 0 (va_A ([(o_M a M_thrown M_period M_width M_nodes M_analysed M_gates M_startNode M_startChange M_startWay M_startBase M_startEarly M_startLate M_worstWith M_worstWithout M_all M_rowSize), ((a 34), .inl (cI, 2, .inl (ia M_listed))), ((a 35), .inl (cI, 42, .inl (ia M_listSlack)))]) s.heap.size) := ⟨_, rfl⟩
  rw [← hQ]
  suffices hW : ∀ (H : Heap) (locs : List Loc), va_P D vwCl ([(o_M a M_thrown M_period M_width M_nodes M_analysed M_gates M_startNode M_startChange M_startWay M_startBase M_startEarly M_startLate M_worstWith M_worstWithout M_all M_rowSize), ((a 34), .inl (cI, 2, .inl (ia M_listed))), ((a 35), .inl (cI, 42, .inl (ia M_listSlack)))]) H → va_D A ([(o_M a M_thrown M_period M_width M_nodes M_analysed M_gates M_startNode M_startChange M_startWay M_startBase M_startEarly M_startLate M_worstWith M_worstWithout M_all M_rowSize), ((a 34), .inl (cI, 2, .inl (ia M_listed))), ((a 35), .inl (cI, 42, .inl (ia M_listSlack)))]) → va_S A s.heap H locs → W p l e (headSpec w_M_path rm_M_path).room s m args below meth c H locs 0 0 Q (F0 m 0 ls []) from hW s.heap [] hP hD hS
  clear hP hD hS
  intro H locs hP hD hS
  rw [f_M_path] at h
  refine lv_aload_n hx hb d_M_path_0 rfl (lv_at hl 0 rfl) ?_
  refine lv_aload_n hx hb d_M_path_1 rfl (lv_at hl 0 rfl) ?_
  refine lv_iload_n hx hb d_M_path_2 rfl (lv_at hl 1 rfl) ?_
  refine lv_iload_n hx hb d_M_path_3 rfl (lv_at hl 2 rfl) ?_
  obtain ⟨r4, hcall, h⟩ := ob1_e h
  refine ro_i (va_Run.run (va_runV (As := [.int (iI x1), .int (iI x2)]) (rest := [.ref (a 0)]) ⟨hx, hb, hml, hown, hts⟩ (c_M_refused l D cI cJ cZ F a M_thrown M_period M_width M_nodes M_analysed M_gates M_startNode M_startChange M_startWay M_startBase M_startEarly M_startLate M_worstWith M_worstWithout M_all M_rowSize M_listed x1 x2 r4 H.size hcall) (cwV 2 hts (gd_V m1395 m1392 m1394 sl_M_refused m12) rfl rfl rfl ⟨rfl, hc_M_refused⟩ ⟨Nat.le_of_ble_eq_true rfl, Nat.le_of_ble_eq_true rfl⟩) (pc_V 0 10 [.int (iI x1), .int (iI x2)] hP hK hD hN [0, 1] rfl rfl rfl rfl rfl) rfl rfl hl.1 rfl (lv_room (Nat.le_of_ble_eq_true rfl)) d_M_path_4 ⟨Nat.le_refl 0, Nat.le_refl 0⟩)) (W.eq (g2 := F0 m 7 ls [.int (iI r4), .ref (a 0)]) rfl ?_)
  refine va_put (D := D) (ci := 10) (v := .int (iI r4)) (ty := .int) (C := R_M) (T := F_M) (N := 53) hx hb hT in_M ty_M ty_M_ok n_M hown hK hP hD hS 0 rfl rfl 0 (by decide) (hT _ m1021) (fun _ h9 => h9) rfl (by decide +kernel) rfl rfl (Nat.le_of_ble_eq_true rfl) d_M_path_7 (fun H locs hP hD hS => ?_)
  have hP : va_P D vwCl [(o_M a r4 M_period M_width M_nodes M_analysed M_gates M_startNode M_startChange M_startWay M_startBase M_startEarly M_startLate M_worstWith M_worstWithout M_all M_rowSize), ((a 34), .inl (cI, 2, .inl (ia M_listed))), ((a 35), .inl (cI, 42, .inl (ia M_listSlack)))] H := hP
  have hD : va_D A [(o_M a r4 M_period M_width M_nodes M_analysed M_gates M_startNode M_startChange M_startWay M_startBase M_startEarly M_startLate M_worstWith M_worstWithout M_all M_rowSize), ((a 34), .inl (cI, 2, .inl (ia M_listed))), ((a 35), .inl (cI, 42, .inl (ia M_listSlack)))] := hD
  refine lv_aload_n hx hb d_M_path_10 rfl (lv_at hl 0 rfl) ?_
  refine va_get (D := D) (ci := 10) (v := .int (iI r4)) (C := R_M) (T := F_M) (N := 53) hx hb hT in_M hown hK hP 0 rfl rfl 0 (by decide) (hT _ m1021) (fun _ h9 => h9) rfl d_M_path_11 ?_
  obtain ⟨hg0, h⟩ := gr_e h
  refine zi_le hx hb d_M_path_14 rfl hg0 (fun hc => ?_) (fun hc => ?_)
  · replace h := if_t hc h
    refine lv_aload_n hx hb d_M_path_21 rfl (lv_at hl 0 rfl) ?_
    refine va_get (D := D) (ci := 10) (v := .ref (a 35)) (C := R_M) (T := F_M) (N := 53) hx hb hT in_M hown hK hP 0 rfl rfl 50 (by decide) (hT _ m1071) (fun _ h9 => h9) rfl d_M_path_22 ?_
    refine lv_bipush (v := iI 21) hx hb d_M_path_25 (by decide) ?_
    refine lv_iload_n hx hb d_M_path_27 rfl (lv_at hl 1 rfl) ?_
    refine zv_imul hx hb d_M_path_28 ?_
    refine lv_iload_n hx hb d_M_path_29 rfl (lv_at hl 2 rfl) ?_
    refine zv_iadd hx hb d_M_path_30 ?_
    obtain ⟨hin, h⟩ := gi_e h
    refine zv_iald hx hb hK hP 2 0 rfl rfl (Nat.le_of_ble_eq_true rfl) hin d_M_path_31 ?_
    obtain ⟨e1, e2⟩ := so2 h
    rw [hQ, e1, e2]; rw [hAe] at hD hS; exact W.iret hx hb hr (fun t ht hW => ⟨⟨_, (), rfl, rfl, by rw [ht]; exact hP, va_K.moved hW.alike hK, hD⟩, hS.F ht⟩) hS.2.2 d_M_path_32
  · replace h := if_f hc h
    refine zv_iconst hx hb d_M_path_17 ?_
    refine lv_goto hx hb d_M_path_18 rfl ?_
    obtain ⟨e1, e2⟩ := so2 h
    rw [hQ, e1, e2]; rw [hAe] at hD hS; exact W.iret hx hb hr (fun t ht hW => ⟨⟨_, (), rfl, rfl, by rw [ht]; exact hP, va_K.moved hW.alike hK, hD⟩, hS.F ht⟩) hS.2.2 d_M_path_32
abbrev rm_M_element : Room := { frames := 2, cells := 0, slots := 0, locals := 42 }
set_option maxHeartbeats 4000000 in
set_option maxRecDepth 100000 in
theorem c_M_element (l : Launch) (D : va_G) (cI cJ cZ : ClassId) (F : Nat) (a : Nat → Nat) (M_thrown : Int) (M_period : Int) (M_width : Int) (M_nodes : Int) (M_analysed : Int) (M_gates : Int) (M_startNode : Int) (M_startChange : Int) (M_startWay : Int) (M_startBase : Int) (M_startEarly : Int) (M_startLate : Int) (M_worstWith : Int) (M_worstWithout : Int) (M_all : Int64) (M_rowSize : Int) (M_listed : Int → Int) (M_listSize : Int → Int) (M_listRows : Int → Int) (x1 : Int) (x2 : Int) (x3 : Int) (r : Int) (z_M_thrown : Int) (sz : Nat) (h : f_M_element F M_analysed M_all M_listed M_listSize M_listRows x1 x2 x3 = some (r, z_M_thrown)) : Met l y_M_element w_M_element rm_M_element (PC D [(cI, .int), (cJ, .long), (cZ, .boolean)] [.ref (a 0), .int (iI x1), .int (iI x2), .int (iI x3)] ([(o_M a M_thrown M_period M_width M_nodes M_analysed M_gates M_startNode M_startChange M_startWay M_startBase M_startEarly M_startLate M_worstWith M_worstWithout M_all M_rowSize), ((a 34), .inl (cI, 2, .inl (ia M_listed))), ((a 36), .inl (cI, 42, .inl (ia M_listSize))), ((a 37), .inl (cI, 6720, .inl (ia M_listRows)))]) sz) (QI D [(cI, .int), (cJ, .long), (cZ, .boolean)] ([(o_M a M_thrown M_period M_width M_nodes M_analysed M_gates M_startNode M_startChange M_startWay M_startBase M_startEarly M_startLate M_worstWith M_worstWithout M_all M_rowSize), ((a 34), .inl (cI, 2, .inl (ia M_listed))), ((a 36), .inl (cI, 42, .inl (ia M_listSize))), ((a 37), .inl (cI, 6720, .inl (ia M_listRows)))]) sz r ([(o_M a z_M_thrown M_period M_width M_nodes M_analysed M_gates M_startNode M_startChange M_startWay M_startBase M_startEarly M_startLate M_worstWith M_worstWithout M_all M_rowSize), ((a 34), .inl (cI, 2, .inl (ia M_listed))), ((a 36), .inl (cI, 42, .inl (ia M_listSize))), ((a 37), .inl (cI, 6720, .inl (ia M_listRows)))])) 0 0 (va_A ([(o_M a M_thrown M_period M_width M_nodes M_analysed M_gates M_startNode M_startChange M_startWay M_startBase M_startEarly M_startLate M_worstWith M_worstWithout M_all M_rowSize), ((a 34), .inl (cI, 2, .inl (ia M_listed))), ((a 36), .inl (cI, 42, .inl (ia M_listSize))), ((a 37), .inl (cI, 6720, .inl (ia M_listRows)))]) sz) := by
  refine Met.ofW (cc := prog_12_method_56_code) (maxL := 4) (ret := (Option.some Jvm.ClassFile.FieldType.int)) (by decide) rfl ?_
  intro p e s m args below meth c s₁ B hml hv
  obtain ⟨rfl, hsz, hP, hK, hD0, hN⟩ := hv
  have hx := B.exec
  have hb := B.bytes
  have hr := B.returns
  have hts := atoms_spec (ws := w_M_element) B.pre
  have hown : s.vm.findClass R_M = some m.cls := findClass_of_methodNamed B.named
  have hlocks := B.notSynchronized
  subst hsz
  have hD := hD0.self (sz := s.heap.size)
  obtain ⟨A, hAe⟩ : ∃ A, A = va_A ([(o_M a M_thrown M_period M_width M_nodes M_analysed M_gates M_startNode M_startChange M_startWay M_startBase M_startEarly M_startLate M_worstWith M_worstWithout M_all M_rowSize), ((a 34), .inl (cI, 2, .inl (ia M_listed))), ((a 36), .inl (cI, 42, .inl (ia M_listSize))), ((a 37), .inl (cI, 6720, .inl (ia M_listRows)))]) s.heap.size := ⟨_, rfl⟩
  rw [← hAe] at hD
  have hA : ∀ q : Nat, s.heap.size ≤ q → A q := fun q h => by rw [hAe]; exact Or.inr h
  have hS : va_S A s.heap s.heap [] := va_S.rf
  have hl := lv_entry ([.ref (a 0), .int (iI x1), .int (iI x2), .int (iI x3)]) (n := 4) (Nat.le_of_ble_eq_true rfl)
  rw [lg_entry_eq]
  generalize (lg_sl ([.ref (a 0), .int (iI x1), .int (iI x2), .int (iI x3)]) ++ List.replicate (4 - (lg_sl ([.ref (a 0), .int (iI x1), .int (iI x2), .int (iI x3)])).length) Slot.unset).toArray = ls at hl ⊢
  have hl : lv_has ls 4 [(0, .ref (a 0)), (1, .int (iI x1)), (2, .int (iI x2)), (3, .int (iI x3))] := hl
  generalize (List.toArray ([.ref (a 0), .int (iI x1), .int (iI x2), .int (iI x3)] : List Value)) = args at hts ⊢
  have hT : ∀ w ∈ Tg, w.before args s = true := fun w h => hts w (List.mem_cons_of_mem _ h)
  obtain ⟨Q, hQ⟩ : ∃ Q, Q = MQ below (QI D [(cI, .int), (cJ, .long), (cZ, .boolean)] ([(o_M a M_thrown M_period M_width M_nodes M_analysed M_gates M_startNode M_startChange M_startWay M_startBase M_startEarly M_startLate M_worstWith M_worstWithout M_all M_rowSize), ((a 34), .inl (cI, 2, .inl (ia M_listed))), ((a 36), .inl (cI, 42, .inl (ia M_listSize))), ((a 37), .inl (cI, 6720, .inl (ia M_listRows)))]) s.heap.size r ([(o_M a z_M_thrown M_period M_width M_nodes M_analysed M_gates M_startNode M_startChange M_startWay M_startBase M_startEarly M_startLate M_worstWith M_worstWithout M_all M_rowSize), ((a 34), .inl (cI, 2, .inl (ia M_listed))), ((a 36), .inl (cI, 42, .inl (ia M_listSize))), ((a 37), .inl (cI, 6720, .inl (ia M_listRows)))])) args s 0 0 (va_A ([(o_M a M_thrown M_period M_width M_nodes M_analysed M_gates M_startNode M_startChange M_startWay M_startBase M_startEarly M_startLate M_worstWith M_worstWithout M_all M_rowSize), ((a 34), .inl (cI, 2, .inl (ia M_listed))), ((a 36), .inl (cI, 42, .inl (ia M_listSize))), ((a 37), .inl (cI, 6720, .inl (ia M_listRows)))]) s.heap.size) := ⟨_, rfl⟩
  rw [← hQ]
  suffices hW : ∀ (H : Heap) (locs : List Loc), va_P D vwCl ([(o_M a M_thrown M_period M_width M_nodes M_analysed M_gates M_startNode M_startChange M_startWay M_startBase M_startEarly M_startLate M_worstWith M_worstWithout M_all M_rowSize), ((a 34), .inl (cI, 2, .inl (ia M_listed))), ((a 36), .inl (cI, 42, .inl (ia M_listSize))), ((a 37), .inl (cI, 6720, .inl (ia M_listRows)))]) H → va_D A ([(o_M a M_thrown M_period M_width M_nodes M_analysed M_gates M_startNode M_startChange M_startWay M_startBase M_startEarly M_startLate M_worstWith M_worstWithout M_all M_rowSize), ((a 34), .inl (cI, 2, .inl (ia M_listed))), ((a 36), .inl (cI, 42, .inl (ia M_listSize))), ((a 37), .inl (cI, 6720, .inl (ia M_listRows)))]) → va_S A s.heap H locs → W p l e (headSpec w_M_element rm_M_element).room s m args below meth c H locs 0 0 Q (F0 m 0 ls []) from hW s.heap [] hP hD hS
  clear hP hD hS
  intro H locs hP hD hS
  rw [f_M_element] at h
  refine lv_aload_n hx hb d_M_element_0 rfl (lv_at hl 0 rfl) ?_
  refine lv_aload_n hx hb d_M_element_1 rfl (lv_at hl 0 rfl) ?_
  refine lv_iload_n hx hb d_M_element_2 rfl (lv_at hl 1 rfl) ?_
  refine lv_iload_n hx hb d_M_element_3 rfl (lv_at hl 2 rfl) ?_
  obtain ⟨r4, hcall, h⟩ := ob1_e h
  refine ro_i (va_Run.run (va_runV (As := [.int (iI x1), .int (iI x2)]) (rest := [.ref (a 0)]) ⟨hx, hb, hml, hown, hts⟩ (c_M_refused l D cI cJ cZ F a M_thrown M_period M_width M_nodes M_analysed M_gates M_startNode M_startChange M_startWay M_startBase M_startEarly M_startLate M_worstWith M_worstWithout M_all M_rowSize M_listed x1 x2 r4 H.size hcall) (cwV 2 hts (gd_V m1395 m1392 m1394 sl_M_refused m12) rfl rfl rfl ⟨rfl, hc_M_refused⟩ ⟨Nat.le_of_ble_eq_true rfl, Nat.le_of_ble_eq_true rfl⟩) (pc_V 0 10 [.int (iI x1), .int (iI x2)] hP hK hD hN [0, 1] rfl rfl rfl rfl rfl) rfl rfl hl.1 rfl (lv_room (Nat.le_of_ble_eq_true rfl)) d_M_element_4 ⟨Nat.le_refl 0, Nat.le_refl 0⟩)) (W.eq (g2 := F0 m 7 ls [.int (iI r4), .ref (a 0)]) rfl ?_)
  refine va_put (D := D) (ci := 10) (v := .int (iI r4)) (ty := .int) (C := R_M) (T := F_M) (N := 53) hx hb hT in_M ty_M ty_M_ok n_M hown hK hP hD hS 0 rfl rfl 0 (by decide) (hT _ m1021) (fun _ h9 => h9) rfl (by decide +kernel) rfl rfl (Nat.le_of_ble_eq_true rfl) d_M_element_7 (fun H locs hP hD hS => ?_)
  have hP : va_P D vwCl [(o_M a r4 M_period M_width M_nodes M_analysed M_gates M_startNode M_startChange M_startWay M_startBase M_startEarly M_startLate M_worstWith M_worstWithout M_all M_rowSize), ((a 34), .inl (cI, 2, .inl (ia M_listed))), ((a 36), .inl (cI, 42, .inl (ia M_listSize))), ((a 37), .inl (cI, 6720, .inl (ia M_listRows)))] H := hP
  have hD : va_D A [(o_M a r4 M_period M_width M_nodes M_analysed M_gates M_startNode M_startChange M_startWay M_startBase M_startEarly M_startLate M_worstWith M_worstWithout M_all M_rowSize), ((a 34), .inl (cI, 2, .inl (ia M_listed))), ((a 36), .inl (cI, 42, .inl (ia M_listSize))), ((a 37), .inl (cI, 6720, .inl (ia M_listRows)))] := hD
  refine lv_aload_n hx hb d_M_element_10 rfl (lv_at hl 0 rfl) ?_
  refine va_get (D := D) (ci := 10) (v := .int (iI r4)) (C := R_M) (T := F_M) (N := 53) hx hb hT in_M hown hK hP 0 rfl rfl 0 (by decide) (hT _ m1021) (fun _ h9 => h9) rfl d_M_element_11 ?_
  obtain ⟨hg0, h⟩ := gr_e h
  refine zi_le hx hb d_M_element_14 rfl hg0 (fun hc => ?_) (fun hc => ?_)
  · replace h := if_t hc h
    refine lv_iload_n hx hb d_M_element_21 rfl (lv_at hl 3 rfl) ?_
    have hj40 : ∀  (H : Heap) (locs : List Loc) (ls : Array Slot), va_P D vwCl [(o_M a r4 M_period M_width M_nodes M_analysed M_gates M_startNode M_startChange M_startWay M_startBase M_startEarly M_startLate M_worstWith M_worstWithout M_all M_rowSize), ((a 34), .inl (cI, 2, .inl (ia M_listed))), ((a 36), .inl (cI, 42, .inl (ia M_listSize))), ((a 37), .inl (cI, 6720, .inl (ia M_listRows)))] H → va_D A [(o_M a r4 M_period M_width M_nodes M_analysed M_gates M_startNode M_startChange M_startWay M_startBase M_startEarly M_startLate M_worstWith M_worstWithout M_all M_rowSize), ((a 34), .inl (cI, 2, .inl (ia M_listed))), ((a 36), .inl (cI, 42, .inl (ia M_listSize))), ((a 37), .inl (cI, 6720, .inl (ia M_listRows)))] → va_S A s.heap H locs → lv_has ls 4 [] → f_M_element_j40 F r4 = some (r, z_M_thrown) → W p l e (headSpec w_M_element rm_M_element).room s m args below meth c H locs 0 0 Q (F0 m 40 ls []) := by
      intro  H locs ls hP hD hS hl h
      rw [f_M_element_j40] at h
      refine zv_iconst hx hb d_M_element_40 ?_
      refine lv_goto hx hb d_M_element_41 rfl ?_
      obtain ⟨e1, e2⟩ := so2 h
      rw [hQ, e1, e2]; rw [hAe] at hD hS; exact W.iret hx hb hr (fun t ht hW => ⟨⟨_, (), rfl, rfl, by rw [ht]; exact hP, va_K.moved hW.alike hK, hD⟩, hS.F ht⟩) hS.2.2 d_M_element_61
    obtain ⟨hg0, h⟩ := gr_e h
    refine zi_lt hx hb d_M_element_22 rfl hg0 (fun hc => ?_) (fun hc => ?_)
    · replace h := if_t hc h
      exact hj40  H locs ls hP hD hS (lv_sub hl [] rfl) h
    · replace h := if_f hc h
      refine lv_iload_n hx hb d_M_element_25 rfl (lv_at hl 3 rfl) ?_
      refine lv_aload_n hx hb d_M_element_26 rfl (lv_at hl 0 rfl) ?_
      refine va_get (D := D) (ci := 10) (v := .ref (a 36)) (C := R_M) (T := F_M) (N := 53) hx hb hT in_M hown hK hP 0 rfl rfl 51 (by decide) (hT _ m1072) (fun _ h9 => h9) rfl d_M_element_27 ?_
      refine lv_bipush (v := iI 21) hx hb d_M_element_30 (by decide) ?_
      refine lv_iload_n hx hb d_M_element_32 rfl (lv_at hl 1 rfl) ?_
      refine zv_imul hx hb d_M_element_33 ?_
      refine lv_iload_n hx hb d_M_element_34 rfl (lv_at hl 2 rfl) ?_
      refine zv_iadd hx hb d_M_element_35 ?_
      obtain ⟨hin, h⟩ := gi_e h
      refine zv_iald hx hb hK hP 2 0 rfl rfl (Nat.le_of_ble_eq_true rfl) hin d_M_element_36 ?_
      obtain ⟨hg0, h⟩ := gr_e h
      obtain ⟨hg1, h⟩ := gr_e h
      refine zc_lt hx hb d_M_element_37 rfl hg0 hg1 (fun hc => ?_) (fun hc => ?_)
      · replace h := if_t hc h
        refine lv_aload_n hx hb d_M_element_44 rfl (lv_at hl 0 rfl) ?_
        refine va_get (D := D) (ci := 10) (v := .ref (a 37)) (C := R_M) (T := F_M) (N := 53) hx hb hT in_M hown hK hP 0 rfl rfl 52 (by decide) (hT _ m1073) (fun _ h9 => h9) rfl d_M_element_45 ?_
        refine lv_sipush (v := iI 160) hx hb d_M_element_48 (by decide) ?_
        refine lv_bipush (v := iI 21) hx hb d_M_element_51 (by decide) ?_
        refine lv_iload_n hx hb d_M_element_53 rfl (lv_at hl 1 rfl) ?_
        refine zv_imul hx hb d_M_element_54 ?_
        refine lv_iload_n hx hb d_M_element_55 rfl (lv_at hl 2 rfl) ?_
        refine zv_iadd hx hb d_M_element_56 ?_
        refine zv_imul hx hb d_M_element_57 ?_
        refine lv_iload_n hx hb d_M_element_58 rfl (lv_at hl 3 rfl) ?_
        refine zv_iadd hx hb d_M_element_59 ?_
        obtain ⟨hin, h⟩ := gi_e h
        refine zv_iald hx hb hK hP 3 0 rfl rfl (Nat.le_of_ble_eq_true rfl) hin d_M_element_60 ?_
        obtain ⟨e1, e2⟩ := so2 h
        rw [hQ, e1, e2]; rw [hAe] at hD hS; exact W.iret hx hb hr (fun t ht hW => ⟨⟨_, (), rfl, rfl, by rw [ht]; exact hP, va_K.moved hW.alike hK, hD⟩, hS.F ht⟩) hS.2.2 d_M_element_61
      · replace h := if_f hc h
        exact hj40  H locs ls hP hD hS (lv_sub hl [] rfl) h
  · replace h := if_f hc h
    refine zv_iconst hx hb d_M_element_17 ?_
    refine lv_goto hx hb d_M_element_18 rfl ?_
    obtain ⟨e1, e2⟩ := so2 h
    rw [hQ, e1, e2]; rw [hAe] at hD hS; exact W.iret hx hb hr (fun t ht hW => ⟨⟨_, (), rfl, rfl, by rw [ht]; exact hP, va_K.moved hW.alike hK, hD⟩, hS.F ht⟩) hS.2.2 d_M_element_61
