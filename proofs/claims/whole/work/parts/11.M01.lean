abbrev rm_M_register : Room := { frames := 2, cells := 0, slots := 0, locals := 47 }
set_option maxHeartbeats 4000000 in
set_option maxRecDepth 100000 in
theorem c_M_register (l : Launch) (D : va_G) (cI cJ cZ : ClassId) (F : Nat) (a : Nat → Nat) (M_thrown : Int) (M_period : Int) (M_width : Int) (M_nodes : Int) (M_analysed : Int) (M_gates : Int) (M_startNode : Int) (M_startChange : Int) (M_startWay : Int) (M_startBase : Int) (M_startEarly : Int) (M_startLate : Int) (M_worstWith : Int) (M_worstWithout : Int) (M_all : Int64) (M_rowSize : Int) (M_kinds : Int → Int) (M_pins : Int → Int) (M_froms : Int → Int) (M_wireEarly : Int → Int) (M_wireLate : Int → Int) (M_senses : Int → Int) (M_delayEarly : Int → Int) (M_delayLate : Int → Int) (M_firstOf : Int → Int) (M_secondOf : Int → Int) (r : Int) (z_M_thrown : Int) (z_M_nodes : Int) (z_M_kinds : Int → Int) (z_M_pins : Int → Int) (z_M_froms : Int → Int) (z_M_wireEarly : Int → Int) (z_M_wireLate : Int → Int) (z_M_senses : Int → Int) (z_M_delayEarly : Int → Int) (z_M_delayLate : Int → Int) (z_M_firstOf : Int → Int) (z_M_secondOf : Int → Int) (z_M_analysed : Int) (sz : Nat) (h : f_M_register F M_nodes M_analysed M_kinds M_pins M_froms M_wireEarly M_wireLate M_senses M_delayEarly M_delayLate M_firstOf M_secondOf = some (r, z_M_thrown, z_M_nodes, z_M_kinds, z_M_pins, z_M_froms, z_M_wireEarly, z_M_wireLate, z_M_senses, z_M_delayEarly, z_M_delayLate, z_M_firstOf, z_M_secondOf, z_M_analysed)) : Met l y_M_register w_M_register rm_M_register (PC D [(cI, .int), (cJ, .long), (cZ, .boolean)] [.ref (a 0)] ([(o_M a M_thrown M_period M_width M_nodes M_analysed M_gates M_startNode M_startChange M_startWay M_startBase M_startEarly M_startLate M_worstWith M_worstWithout M_all M_rowSize), ((a 1), .inl (cI, 48, .inl (ia M_kinds))), ((a 2), .inl (cI, 48, .inl (ia M_pins))), ((a 3), .inl (cI, 144, .inl (ia M_froms))), ((a 4), .inl (cI, 144, .inl (ia M_wireEarly))), ((a 5), .inl (cI, 144, .inl (ia M_wireLate))), ((a 6), .inl (cI, 144, .inl (ia M_senses))), ((a 7), .inl (cI, 288, .inl (ia M_delayEarly))), ((a 8), .inl (cI, 288, .inl (ia M_delayLate))), ((a 9), .inl (cI, 96, .inl (ia M_firstOf))), ((a 10), .inl (cI, 96, .inl (ia M_secondOf)))]) sz) (QI D [(cI, .int), (cJ, .long), (cZ, .boolean)] ([(o_M a M_thrown M_period M_width M_nodes M_analysed M_gates M_startNode M_startChange M_startWay M_startBase M_startEarly M_startLate M_worstWith M_worstWithout M_all M_rowSize), ((a 1), .inl (cI, 48, .inl (ia M_kinds))), ((a 2), .inl (cI, 48, .inl (ia M_pins))), ((a 3), .inl (cI, 144, .inl (ia M_froms))), ((a 4), .inl (cI, 144, .inl (ia M_wireEarly))), ((a 5), .inl (cI, 144, .inl (ia M_wireLate))), ((a 6), .inl (cI, 144, .inl (ia M_senses))), ((a 7), .inl (cI, 288, .inl (ia M_delayEarly))), ((a 8), .inl (cI, 288, .inl (ia M_delayLate))), ((a 9), .inl (cI, 96, .inl (ia M_firstOf))), ((a 10), .inl (cI, 96, .inl (ia M_secondOf)))]) sz r ([(o_M a z_M_thrown M_period M_width z_M_nodes z_M_analysed M_gates M_startNode M_startChange M_startWay M_startBase M_startEarly M_startLate M_worstWith M_worstWithout M_all M_rowSize), ((a 1), .inl (cI, 48, .inl (ia z_M_kinds))), ((a 2), .inl (cI, 48, .inl (ia z_M_pins))), ((a 3), .inl (cI, 144, .inl (ia z_M_froms))), ((a 4), .inl (cI, 144, .inl (ia z_M_wireEarly))), ((a 5), .inl (cI, 144, .inl (ia z_M_wireLate))), ((a 6), .inl (cI, 144, .inl (ia z_M_senses))), ((a 7), .inl (cI, 288, .inl (ia z_M_delayEarly))), ((a 8), .inl (cI, 288, .inl (ia z_M_delayLate))), ((a 9), .inl (cI, 96, .inl (ia z_M_firstOf))), ((a 10), .inl (cI, 96, .inl (ia z_M_secondOf)))])) 0 0 (va_A ([(o_M a M_thrown M_period M_width M_nodes M_analysed M_gates M_startNode M_startChange M_startWay M_startBase M_startEarly M_startLate M_worstWith M_worstWithout M_all M_rowSize), ((a 1), .inl (cI, 48, .inl (ia M_kinds))), ((a 2), .inl (cI, 48, .inl (ia M_pins))), ((a 3), .inl (cI, 144, .inl (ia M_froms))), ((a 4), .inl (cI, 144, .inl (ia M_wireEarly))), ((a 5), .inl (cI, 144, .inl (ia M_wireLate))), ((a 6), .inl (cI, 144, .inl (ia M_senses))), ((a 7), .inl (cI, 288, .inl (ia M_delayEarly))), ((a 8), .inl (cI, 288, .inl (ia M_delayLate))), ((a 9), .inl (cI, 96, .inl (ia M_firstOf))), ((a 10), .inl (cI, 96, .inl (ia M_secondOf)))]) sz) := by
  refine Met.ofW (cc := prog_12_method_9_code) (maxL := 1) (ret := (Option.some Jvm.ClassFile.FieldType.int)) (by decide) rfl ?_
  intro p e s m args below meth c s₁ B hml hv
  obtain ⟨rfl, hsz, hP, hK, hD0, hN⟩ := hv
  have hx := B.exec
  have hb := B.bytes
  have hr := B.returns
  have hts := atoms_spec (ws := w_M_register) B.pre
  have hown : s.vm.findClass R_M = some m.cls := findClass_of_methodNamed B.named
  have hlocks := B.notSynchronized
  subst hsz
  have hD := hD0.self (sz := s.heap.size)
  obtain ⟨A, hAe⟩ : ∃ A, A = va_A ([(o_M a M_thrown M_period M_width M_nodes M_analysed M_gates M_startNode M_startChange M_startWay M_startBase M_startEarly M_startLate M_worstWith M_worstWithout M_all M_rowSize), ((a 1), .inl (cI, 48, .inl (ia M_kinds))), ((a 2), .inl (cI, 48, .inl (ia M_pins))), ((a 3), .inl (cI, 144, .inl (ia M_froms))), ((a 4), .inl (cI, 144, .inl (ia M_wireEarly))), ((a 5), .inl (cI, 144, .inl (ia M_wireLate))), ((a 6), .inl (cI, 144, .inl (ia M_senses))), ((a 7), .inl (cI, 288, .inl (ia M_delayEarly))), ((a 8), .inl (cI, 288, .inl (ia M_delayLate))), ((a 9), .inl (cI, 96, .inl (ia M_firstOf))), ((a 10), .inl (cI, 96, .inl (ia M_secondOf)))]) s.heap.size := ⟨_, rfl⟩
  rw [← hAe] at hD
  have hA : ∀ q : Nat, s.heap.size ≤ q → A q := fun q h => by rw [hAe]; exact Or.inr h
  have hS : va_S A s.heap s.heap [] := va_S.rf
  have hl := lv_entry ([.ref (a 0)]) (n := 1) (Nat.le_of_ble_eq_true rfl)
  rw [lg_entry_eq]
  generalize (lg_sl ([.ref (a 0)]) ++ List.replicate (1 - (lg_sl ([.ref (a 0)])).length) Slot.unset).toArray = ls at hl ⊢
  have hl : lv_has ls 1 [(0, .ref (a 0))] := hl
  generalize (List.toArray ([.ref (a 0)] : List Value)) = args at hts ⊢
  have hT : ∀ w ∈ Tg, w.before args s = true := fun w h => hts w (List.mem_cons_of_mem _ h)
  obtain ⟨Q, hQ⟩ : ∃ Q, Q = MQ below (QI D [(cI, .int), (cJ, .long), (cZ, .boolean)] ([(o_M a M_thrown M_period M_width M_nodes M_analysed M_gates M_startNode M_startChange M_startWay M_startBase M_startEarly M_startLate M_worstWith M_worstWithout M_all M_rowSize), ((a 1), .inl (cI, 48, .inl (ia M_kinds))), ((a 2), .inl (cI, 48, .inl (ia M_pins))), ((a 3), .inl (cI, 144, .inl (ia M_froms))), ((a 4), .inl (cI, 144, .inl (ia M_wireEarly))), ((a 5), .inl (cI, 144, .inl (ia M_wireLate))), ((a 6), .inl (cI, 144, .inl (ia M_senses))), ((a 7), .inl (cI, 288, .inl (ia M_delayEarly))), ((a 8), .inl (cI, 288, .inl (ia M_delayLate))), ((a 9), .inl (cI, 96, .inl (ia M_firstOf))), ((a 10), .inl (cI, 96, .inl (ia M_secondOf)))]) s.heap.size r ([(o_M a z_M_thrown M_period M_width z_M_nodes z_M_analysed M_gates M_startNode M_startChange M_startWay M_startBase M_startEarly M_startLate M_worstWith M_worstWithout M_all M_rowSize), ((a 1), .inl (cI, 48, .inl (ia z_M_kinds))), ((a 2), .inl (cI, 48, .inl (ia z_M_pins))), ((a 3), .inl (cI, 144, .inl (ia z_M_froms))), ((a 4), .inl (cI, 144, .inl (ia z_M_wireEarly))), ((a 5), .inl (cI, 144, .inl (ia z_M_wireLate))), ((a 6), .inl (cI, 144, .inl (ia z_M_senses))), ((a 7), .inl (cI, 288, .inl (ia z_M_delayEarly))), ((a 8), .inl (cI, 288, .inl (ia z_M_delayLate))), ((a 9), .inl (cI, 96, .inl (ia z_M_firstOf))), ((a 10), .inl (cI, 96, .inl (ia z_M_secondOf)))])) args s 0 0 (va_A ([(o_M a M_thrown M_period M_width M_nodes M_analysed M_gates M_startNode M_startChange M_startWay M_startBase M_startEarly M_startLate M_worstWith M_worstWithout M_all M_rowSize), ((a 1), .inl (cI, 48, .inl (ia M_kinds))), ((a 2), .inl (cI, 48, .inl (ia M_pins))), ((a 3), .inl (cI, 144, .inl (ia M_froms))), ((a 4), .inl (cI, 144, .inl (ia M_wireEarly))), ((a 5), .inl (cI, 144, .inl (ia M_wireLate))), ((a 6), .inl (cI, 144, .inl (ia M_senses))), ((a 7), .inl (cI, 288, .inl (ia M_delayEarly))), ((a 8), .inl (cI, 288, .inl (ia M_delayLate))), ((a 9), .inl (cI, 96, .inl (ia M_firstOf))), ((a 10), .inl (cI, 96, .inl (ia M_secondOf)))]) s.heap.size) := ⟨_, rfl⟩
  rw [← hQ]
  suffices hW : ∀ (H : Heap) (locs : List Loc), va_P D vwCl ([(o_M a M_thrown M_period M_width M_nodes M_analysed M_gates M_startNode M_startChange M_startWay M_startBase M_startEarly M_startLate M_worstWith M_worstWithout M_all M_rowSize), ((a 1), .inl (cI, 48, .inl (ia M_kinds))), ((a 2), .inl (cI, 48, .inl (ia M_pins))), ((a 3), .inl (cI, 144, .inl (ia M_froms))), ((a 4), .inl (cI, 144, .inl (ia M_wireEarly))), ((a 5), .inl (cI, 144, .inl (ia M_wireLate))), ((a 6), .inl (cI, 144, .inl (ia M_senses))), ((a 7), .inl (cI, 288, .inl (ia M_delayEarly))), ((a 8), .inl (cI, 288, .inl (ia M_delayLate))), ((a 9), .inl (cI, 96, .inl (ia M_firstOf))), ((a 10), .inl (cI, 96, .inl (ia M_secondOf)))]) H → va_D A ([(o_M a M_thrown M_period M_width M_nodes M_analysed M_gates M_startNode M_startChange M_startWay M_startBase M_startEarly M_startLate M_worstWith M_worstWithout M_all M_rowSize), ((a 1), .inl (cI, 48, .inl (ia M_kinds))), ((a 2), .inl (cI, 48, .inl (ia M_pins))), ((a 3), .inl (cI, 144, .inl (ia M_froms))), ((a 4), .inl (cI, 144, .inl (ia M_wireEarly))), ((a 5), .inl (cI, 144, .inl (ia M_wireLate))), ((a 6), .inl (cI, 144, .inl (ia M_senses))), ((a 7), .inl (cI, 288, .inl (ia M_delayEarly))), ((a 8), .inl (cI, 288, .inl (ia M_delayLate))), ((a 9), .inl (cI, 96, .inl (ia M_firstOf))), ((a 10), .inl (cI, 96, .inl (ia M_secondOf)))]) → va_S A s.heap H locs → W p l e (headSpec w_M_register rm_M_register).room s m args below meth c H locs 0 0 Q (F0 m 0 ls []) from hW s.heap [] hP hD hS
  clear hP hD hS
  intro H locs hP hD hS
  rw [f_M_register] at h
  refine lv_aload_n hx hb d_M_register_0 rfl (lv_at hl 0 rfl) ?_
  refine zv_iconst hx hb d_M_register_1 ?_
  refine va_put (D := D) (ci := 10) (v := .int (iI 0)) (ty := .int) (C := R_M) (T := F_M) (N := 53) hx hb hT in_M ty_M ty_M_ok n_M hown hK hP hD hS 0 rfl rfl 0 (by decide) (hT _ m1021) (fun _ h9 => h9) rfl (by decide +kernel) rfl rfl (Nat.le_of_ble_eq_true rfl) d_M_register_2 (fun H locs hP hD hS => ?_)
  have hP : va_P D vwCl [(o_M a 0 M_period M_width M_nodes M_analysed M_gates M_startNode M_startChange M_startWay M_startBase M_startEarly M_startLate M_worstWith M_worstWithout M_all M_rowSize), ((a 1), .inl (cI, 48, .inl (ia M_kinds))), ((a 2), .inl (cI, 48, .inl (ia M_pins))), ((a 3), .inl (cI, 144, .inl (ia M_froms))), ((a 4), .inl (cI, 144, .inl (ia M_wireEarly))), ((a 5), .inl (cI, 144, .inl (ia M_wireLate))), ((a 6), .inl (cI, 144, .inl (ia M_senses))), ((a 7), .inl (cI, 288, .inl (ia M_delayEarly))), ((a 8), .inl (cI, 288, .inl (ia M_delayLate))), ((a 9), .inl (cI, 96, .inl (ia M_firstOf))), ((a 10), .inl (cI, 96, .inl (ia M_secondOf)))] H := hP
  have hD : va_D A [(o_M a 0 M_period M_width M_nodes M_analysed M_gates M_startNode M_startChange M_startWay M_startBase M_startEarly M_startLate M_worstWith M_worstWithout M_all M_rowSize), ((a 1), .inl (cI, 48, .inl (ia M_kinds))), ((a 2), .inl (cI, 48, .inl (ia M_pins))), ((a 3), .inl (cI, 144, .inl (ia M_froms))), ((a 4), .inl (cI, 144, .inl (ia M_wireEarly))), ((a 5), .inl (cI, 144, .inl (ia M_wireLate))), ((a 6), .inl (cI, 144, .inl (ia M_senses))), ((a 7), .inl (cI, 288, .inl (ia M_delayEarly))), ((a 8), .inl (cI, 288, .inl (ia M_delayLate))), ((a 9), .inl (cI, 96, .inl (ia M_firstOf))), ((a 10), .inl (cI, 96, .inl (ia M_secondOf)))] := hD
  refine lv_aload_n hx hb d_M_register_5 rfl (lv_at hl 0 rfl) ?_
  refine zv_iconst hx hb d_M_register_6 ?_
  refine zv_iconst hx hb d_M_register_7 ?_
  obtain ⟨r8, M_nodes_1, M_kinds_2, M_pins_3, M_froms_4, M_wireEarly_5, M_wireLate_6, M_senses_7, M_delayEarly_8, M_delayLate_9, M_firstOf_10, M_secondOf_11, M_analysed_12, hcall, h⟩ := ob13_e h
  refine ca_i (w2 := [(o_M a 0 M_period M_width M_nodes_1 M_analysed_12 M_gates M_startNode M_startChange M_startWay M_startBase M_startEarly M_startLate M_worstWith M_worstWithout M_all M_rowSize), ((a 1), .inl (cI, 48, .inl (ia M_kinds_2))), ((a 2), .inl (cI, 48, .inl (ia M_pins_3))), ((a 3), .inl (cI, 144, .inl (ia M_froms_4))), ((a 4), .inl (cI, 144, .inl (ia M_wireEarly_5))), ((a 5), .inl (cI, 144, .inl (ia M_wireLate_6))), ((a 6), .inl (cI, 144, .inl (ia M_senses_7))), ((a 7), .inl (cI, 288, .inl (ia M_delayEarly_8))), ((a 8), .inl (cI, 288, .inl (ia M_delayLate_9))), ((a 9), .inl (cI, 96, .inl (ia M_firstOf_10))), ((a 10), .inl (cI, 96, .inl (ia M_secondOf_11)))]) (va_runV (As := [.int (iI 3), .int (iI 2)]) (rest := []) ⟨hx, hb, hml, hown, hts⟩ (c_M_add l D cI cJ cZ F a 0 M_period M_width M_nodes M_analysed M_gates M_startNode M_startChange M_startWay M_startBase M_startEarly M_startLate M_worstWith M_worstWithout M_all M_rowSize M_kinds M_pins M_froms M_wireEarly M_wireLate M_senses M_delayEarly M_delayLate M_firstOf M_secondOf 3 2 r8 M_nodes_1 M_kinds_2 M_pins_3 M_froms_4 M_wireEarly_5 M_wireLate_6 M_senses_7 M_delayEarly_8 M_delayLate_9 M_firstOf_10 M_secondOf_11 M_analysed_12 H.size hcall) (cwV 2 hts (gd_V m1201 m1198 m1200 sl_M_add m12) rfl rfl rfl ⟨rfl, hc_M_add⟩ ⟨Nat.le_of_ble_eq_true rfl, Nat.le_of_ble_eq_true rfl⟩) (pc_V 0 10 [.int (iI 3), .int (iI 2)] hP hK hD hN [0, 1, 2, 3, 4, 5, 6, 7, 8, 9, 10] rfl rfl rfl rfl rfl) rfl rfl hl.1 rfl (lv_room (Nat.le_of_ble_eq_true rfl)) d_M_register_8 ⟨Nat.le_refl 0, Nat.le_refl 0⟩) hP hD hS hA [0, 1, 2, 3, 4, 5, 6, 7, 8, 9, 10] [] [0, 1, 2, 3, 4, 5, 6, 7, 8, 9, 10] rfl rfl rfl (by decide) rfl rfl rfl (fun H locs hP hD hS => ?_)
  obtain ⟨e1, e2, e3, e4, e5, e6, e7, e8, e9, e10, e11, e12, e13, e14⟩ := so14 h
  rw [hQ, e1, e2, e3, e4, e5, e6, e7, e8, e9, e10, e11, e12, e13, e14]; rw [hAe] at hD hS; exact W.iret hx hb hr (fun t ht hW => ⟨⟨_, (), rfl, rfl, by rw [ht]; exact hP, va_K.moved hW.alike hK, hD⟩, hS.F ht⟩) hS.2.2 d_M_register_11
abbrev rm_M_output : Room := { frames := 2, cells := 0, slots := 0, locals := 47 }
set_option maxHeartbeats 4000000 in
set_option maxRecDepth 100000 in
theorem c_M_output (l : Launch) (D : va_G) (cI cJ cZ : ClassId) (F : Nat) (a : Nat → Nat) (M_thrown : Int) (M_period : Int) (M_width : Int) (M_nodes : Int) (M_analysed : Int) (M_gates : Int) (M_startNode : Int) (M_startChange : Int) (M_startWay : Int) (M_startBase : Int) (M_startEarly : Int) (M_startLate : Int) (M_worstWith : Int) (M_worstWithout : Int) (M_all : Int64) (M_rowSize : Int) (M_kinds : Int → Int) (M_pins : Int → Int) (M_froms : Int → Int) (M_wireEarly : Int → Int) (M_wireLate : Int → Int) (M_senses : Int → Int) (M_delayEarly : Int → Int) (M_delayLate : Int → Int) (M_firstOf : Int → Int) (M_secondOf : Int → Int) (r : Int) (z_M_thrown : Int) (z_M_nodes : Int) (z_M_kinds : Int → Int) (z_M_pins : Int → Int) (z_M_froms : Int → Int) (z_M_wireEarly : Int → Int) (z_M_wireLate : Int → Int) (z_M_senses : Int → Int) (z_M_delayEarly : Int → Int) (z_M_delayLate : Int → Int) (z_M_firstOf : Int → Int) (z_M_secondOf : Int → Int) (z_M_analysed : Int) (sz : Nat) (h : f_M_output F M_nodes M_analysed M_kinds M_pins M_froms M_wireEarly M_wireLate M_senses M_delayEarly M_delayLate M_firstOf M_secondOf = some (r, z_M_thrown, z_M_nodes, z_M_kinds, z_M_pins, z_M_froms, z_M_wireEarly, z_M_wireLate, z_M_senses, z_M_delayEarly, z_M_delayLate, z_M_firstOf, z_M_secondOf, z_M_analysed)) : Met l y_M_output w_M_output rm_M_output (PC D [(cI, .int), (cJ, .long), (cZ, .boolean)] [.ref (a 0)] ([(o_M a M_thrown M_period M_width M_nodes M_analysed M_gates M_startNode M_startChange M_startWay M_startBase M_startEarly M_startLate M_worstWith M_worstWithout M_all M_rowSize), ((a 1), .inl (cI, 48, .inl (ia M_kinds))), ((a 2), .inl (cI, 48, .inl (ia M_pins))), ((a 3), .inl (cI, 144, .inl (ia M_froms))), ((a 4), .inl (cI, 144, .inl (ia M_wireEarly))), ((a 5), .inl (cI, 144, .inl (ia M_wireLate))), ((a 6), .inl (cI, 144, .inl (ia M_senses))), ((a 7), .inl (cI, 288, .inl (ia M_delayEarly))), ((a 8), .inl (cI, 288, .inl (ia M_delayLate))), ((a 9), .inl (cI, 96, .inl (ia M_firstOf))), ((a 10), .inl (cI, 96, .inl (ia M_secondOf)))]) sz) (QI D [(cI, .int), (cJ, .long), (cZ, .boolean)] ([(o_M a M_thrown M_period M_width M_nodes M_analysed M_gates M_startNode M_startChange M_startWay M_startBase M_startEarly M_startLate M_worstWith M_worstWithout M_all M_rowSize), ((a 1), .inl (cI, 48, .inl (ia M_kinds))), ((a 2), .inl (cI, 48, .inl (ia M_pins))), ((a 3), .inl (cI, 144, .inl (ia M_froms))), ((a 4), .inl (cI, 144, .inl (ia M_wireEarly))), ((a 5), .inl (cI, 144, .inl (ia M_wireLate))), ((a 6), .inl (cI, 144, .inl (ia M_senses))), ((a 7), .inl (cI, 288, .inl (ia M_delayEarly))), ((a 8), .inl (cI, 288, .inl (ia M_delayLate))), ((a 9), .inl (cI, 96, .inl (ia M_firstOf))), ((a 10), .inl (cI, 96, .inl (ia M_secondOf)))]) sz r ([(o_M a z_M_thrown M_period M_width z_M_nodes z_M_analysed M_gates M_startNode M_startChange M_startWay M_startBase M_startEarly M_startLate M_worstWith M_worstWithout M_all M_rowSize), ((a 1), .inl (cI, 48, .inl (ia z_M_kinds))), ((a 2), .inl (cI, 48, .inl (ia z_M_pins))), ((a 3), .inl (cI, 144, .inl (ia z_M_froms))), ((a 4), .inl (cI, 144, .inl (ia z_M_wireEarly))), ((a 5), .inl (cI, 144, .inl (ia z_M_wireLate))), ((a 6), .inl (cI, 144, .inl (ia z_M_senses))), ((a 7), .inl (cI, 288, .inl (ia z_M_delayEarly))), ((a 8), .inl (cI, 288, .inl (ia z_M_delayLate))), ((a 9), .inl (cI, 96, .inl (ia z_M_firstOf))), ((a 10), .inl (cI, 96, .inl (ia z_M_secondOf)))])) 0 0 (va_A ([(o_M a M_thrown M_period M_width M_nodes M_analysed M_gates M_startNode M_startChange M_startWay M_startBase M_startEarly M_startLate M_worstWith M_worstWithout M_all M_rowSize), ((a 1), .inl (cI, 48, .inl (ia M_kinds))), ((a 2), .inl (cI, 48, .inl (ia M_pins))), ((a 3), .inl (cI, 144, .inl (ia M_froms))), ((a 4), .inl (cI, 144, .inl (ia M_wireEarly))), ((a 5), .inl (cI, 144, .inl (ia M_wireLate))), ((a 6), .inl (cI, 144, .inl (ia M_senses))), ((a 7), .inl (cI, 288, .inl (ia M_delayEarly))), ((a 8), .inl (cI, 288, .inl (ia M_delayLate))), ((a 9), .inl (cI, 96, .inl (ia M_firstOf))), ((a 10), .inl (cI, 96, .inl (ia M_secondOf)))]) sz) := by
  refine Met.ofW (cc := prog_12_method_10_code) (maxL := 1) (ret := (Option.some Jvm.ClassFile.FieldType.int)) (by decide) rfl ?_
  intro p e s m args below meth c s₁ B hml hv
  obtain ⟨rfl, hsz, hP, hK, hD0, hN⟩ := hv
  have hx := B.exec
  have hb := B.bytes
  have hr := B.returns
  have hts := atoms_spec (ws := w_M_output) B.pre
  have hown : s.vm.findClass R_M = some m.cls := findClass_of_methodNamed B.named
  have hlocks := B.notSynchronized
  subst hsz
  have hD := hD0.self (sz := s.heap.size)
  obtain ⟨A, hAe⟩ : ∃ A, A = va_A ([(o_M a M_thrown M_period M_width M_nodes M_analysed M_gates M_startNode M_startChange M_startWay M_startBase M_startEarly M_startLate M_worstWith M_worstWithout M_all M_rowSize), ((a 1), .inl (cI, 48, .inl (ia M_kinds))), ((a 2), .inl (cI, 48, .inl (ia M_pins))), ((a 3), .inl (cI, 144, .inl (ia M_froms))), ((a 4), .inl (cI, 144, .inl (ia M_wireEarly))), ((a 5), .inl (cI, 144, .inl (ia M_wireLate))), ((a 6), .inl (cI, 144, .inl (ia M_senses))), ((a 7), .inl (cI, 288, .inl (ia M_delayEarly))), ((a 8), .inl (cI, 288, .inl (ia M_delayLate))), ((a 9), .inl (cI, 96, .inl (ia M_firstOf))), ((a 10), .inl (cI, 96, .inl (ia M_secondOf)))]) s.heap.size := ⟨_, rfl⟩
  rw [← hAe] at hD
  have hA : ∀ q : Nat, s.heap.size ≤ q → A q := fun q h => by rw [hAe]; exact Or.inr h
  have hS : va_S A s.heap s.heap [] := va_S.rf
  have hl := lv_entry ([.ref (a 0)]) (n := 1) (Nat.le_of_ble_eq_true rfl)
  rw [lg_entry_eq]
  generalize (lg_sl ([.ref (a 0)]) ++ List.replicate (1 - (lg_sl ([.ref (a 0)])).length) Slot.unset).toArray = ls at hl ⊢
  have hl : lv_has ls 1 [(0, .ref (a 0))] := hl
  generalize (List.toArray ([.ref (a 0)] : List Value)) = args at hts ⊢
  have hT : ∀ w ∈ Tg, w.before args s = true := fun w h => hts w (List.mem_cons_of_mem _ h)
  obtain ⟨Q, hQ⟩ : ∃ Q, Q = MQ below (QI D [(cI, .int), (cJ, .long), (cZ, .boolean)] ([(o_M a M_thrown M_period M_width M_nodes M_analysed M_gates M_startNode M_startChange M_startWay M_startBase M_startEarly M_startLate M_worstWith M_worstWithout M_all M_rowSize), ((a 1), .inl (cI, 48, .inl (ia M_kinds))), ((a 2), .inl (cI, 48, .inl (ia M_pins))), ((a 3), .inl (cI, 144, .inl (ia M_froms))), ((a 4), .inl (cI, 144, .inl (ia M_wireEarly))), ((a 5), .inl (cI, 144, .inl (ia M_wireLate))), ((a 6), .inl (cI, 144, .inl (ia M_senses))), ((a 7), .inl (cI, 288, .inl (ia M_delayEarly))), ((a 8), .inl (cI, 288, .inl (ia M_delayLate))), ((a 9), .inl (cI, 96, .inl (ia M_firstOf))), ((a 10), .inl (cI, 96, .inl (ia M_secondOf)))]) s.heap.size r ([(o_M a z_M_thrown M_period M_width z_M_nodes z_M_analysed M_gates M_startNode M_startChange M_startWay M_startBase M_startEarly M_startLate M_worstWith M_worstWithout M_all M_rowSize), ((a 1), .inl (cI, 48, .inl (ia z_M_kinds))), ((a 2), .inl (cI, 48, .inl (ia z_M_pins))), ((a 3), .inl (cI, 144, .inl (ia z_M_froms))), ((a 4), .inl (cI, 144, .inl (ia z_M_wireEarly))), ((a 5), .inl (cI, 144, .inl (ia z_M_wireLate))), ((a 6), .inl (cI, 144, .inl (ia z_M_senses))), ((a 7), .inl (cI, 288, .inl (ia z_M_delayEarly))), ((a 8), .inl (cI, 288, .inl (ia z_M_delayLate))), ((a 9), .inl (cI, 96, .inl (ia z_M_firstOf))), ((a 10), .inl (cI, 96, .inl (ia z_M_secondOf)))])) args s 0 0 (va_A ([(o_M a M_thrown M_period M_width M_nodes M_analysed M_gates M_startNode M_startChange M_startWay M_startBase M_startEarly M_startLate M_worstWith M_worstWithout M_all M_rowSize), ((a 1), .inl (cI, 48, .inl (ia M_kinds))), ((a 2), .inl (cI, 48, .inl (ia M_pins))), ((a 3), .inl (cI, 144, .inl (ia M_froms))), ((a 4), .inl (cI, 144, .inl (ia M_wireEarly))), ((a 5), .inl (cI, 144, .inl (ia M_wireLate))), ((a 6), .inl (cI, 144, .inl (ia M_senses))), ((a 7), .inl (cI, 288, .inl (ia M_delayEarly))), ((a 8), .inl (cI, 288, .inl (ia M_delayLate))), ((a 9), .inl (cI, 96, .inl (ia M_firstOf))), ((a 10), .inl (cI, 96, .inl (ia M_secondOf)))]) s.heap.size) := ⟨_, rfl⟩
  rw [← hQ]
  suffices hW : ∀ (H : Heap) (locs : List Loc), va_P D vwCl ([(o_M a M_thrown M_period M_width M_nodes M_analysed M_gates M_startNode M_startChange M_startWay M_startBase M_startEarly M_startLate M_worstWith M_worstWithout M_all M_rowSize), ((a 1), .inl (cI, 48, .inl (ia M_kinds))), ((a 2), .inl (cI, 48, .inl (ia M_pins))), ((a 3), .inl (cI, 144, .inl (ia M_froms))), ((a 4), .inl (cI, 144, .inl (ia M_wireEarly))), ((a 5), .inl (cI, 144, .inl (ia M_wireLate))), ((a 6), .inl (cI, 144, .inl (ia M_senses))), ((a 7), .inl (cI, 288, .inl (ia M_delayEarly))), ((a 8), .inl (cI, 288, .inl (ia M_delayLate))), ((a 9), .inl (cI, 96, .inl (ia M_firstOf))), ((a 10), .inl (cI, 96, .inl (ia M_secondOf)))]) H → va_D A ([(o_M a M_thrown M_period M_width M_nodes M_analysed M_gates M_startNode M_startChange M_startWay M_startBase M_startEarly M_startLate M_worstWith M_worstWithout M_all M_rowSize), ((a 1), .inl (cI, 48, .inl (ia M_kinds))), ((a 2), .inl (cI, 48, .inl (ia M_pins))), ((a 3), .inl (cI, 144, .inl (ia M_froms))), ((a 4), .inl (cI, 144, .inl (ia M_wireEarly))), ((a 5), .inl (cI, 144, .inl (ia M_wireLate))), ((a 6), .inl (cI, 144, .inl (ia M_senses))), ((a 7), .inl (cI, 288, .inl (ia M_delayEarly))), ((a 8), .inl (cI, 288, .inl (ia M_delayLate))), ((a 9), .inl (cI, 96, .inl (ia M_firstOf))), ((a 10), .inl (cI, 96, .inl (ia M_secondOf)))]) → va_S A s.heap H locs → W p l e (headSpec w_M_output rm_M_output).room s m args below meth c H locs 0 0 Q (F0 m 0 ls []) from hW s.heap [] hP hD hS
  clear hP hD hS
  intro H locs hP hD hS
  rw [f_M_output] at h
  refine lv_aload_n hx hb d_M_output_0 rfl (lv_at hl 0 rfl) ?_
  refine zv_iconst hx hb d_M_output_1 ?_
  refine va_put (D := D) (ci := 10) (v := .int (iI 0)) (ty := .int) (C := R_M) (T := F_M) (N := 53) hx hb hT in_M ty_M ty_M_ok n_M hown hK hP hD hS 0 rfl rfl 0 (by decide) (hT _ m1021) (fun _ h9 => h9) rfl (by decide +kernel) rfl rfl (Nat.le_of_ble_eq_true rfl) d_M_output_2 (fun H locs hP hD hS => ?_)
  have hP : va_P D vwCl [(o_M a 0 M_period M_width M_nodes M_analysed M_gates M_startNode M_startChange M_startWay M_startBase M_startEarly M_startLate M_worstWith M_worstWithout M_all M_rowSize), ((a 1), .inl (cI, 48, .inl (ia M_kinds))), ((a 2), .inl (cI, 48, .inl (ia M_pins))), ((a 3), .inl (cI, 144, .inl (ia M_froms))), ((a 4), .inl (cI, 144, .inl (ia M_wireEarly))), ((a 5), .inl (cI, 144, .inl (ia M_wireLate))), ((a 6), .inl (cI, 144, .inl (ia M_senses))), ((a 7), .inl (cI, 288, .inl (ia M_delayEarly))), ((a 8), .inl (cI, 288, .inl (ia M_delayLate))), ((a 9), .inl (cI, 96, .inl (ia M_firstOf))), ((a 10), .inl (cI, 96, .inl (ia M_secondOf)))] H := hP
  have hD : va_D A [(o_M a 0 M_period M_width M_nodes M_analysed M_gates M_startNode M_startChange M_startWay M_startBase M_startEarly M_startLate M_worstWith M_worstWithout M_all M_rowSize), ((a 1), .inl (cI, 48, .inl (ia M_kinds))), ((a 2), .inl (cI, 48, .inl (ia M_pins))), ((a 3), .inl (cI, 144, .inl (ia M_froms))), ((a 4), .inl (cI, 144, .inl (ia M_wireEarly))), ((a 5), .inl (cI, 144, .inl (ia M_wireLate))), ((a 6), .inl (cI, 144, .inl (ia M_senses))), ((a 7), .inl (cI, 288, .inl (ia M_delayEarly))), ((a 8), .inl (cI, 288, .inl (ia M_delayLate))), ((a 9), .inl (cI, 96, .inl (ia M_firstOf))), ((a 10), .inl (cI, 96, .inl (ia M_secondOf)))] := hD
  refine lv_aload_n hx hb d_M_output_5 rfl (lv_at hl 0 rfl) ?_
  refine zv_iconst hx hb d_M_output_6 ?_
  refine zv_iconst hx hb d_M_output_7 ?_
  obtain ⟨r8, M_nodes_1, M_kinds_2, M_pins_3, M_froms_4, M_wireEarly_5, M_wireLate_6, M_senses_7, M_delayEarly_8, M_delayLate_9, M_firstOf_10, M_secondOf_11, M_analysed_12, hcall, h⟩ := ob13_e h
  refine ca_i (w2 := [(o_M a 0 M_period M_width M_nodes_1 M_analysed_12 M_gates M_startNode M_startChange M_startWay M_startBase M_startEarly M_startLate M_worstWith M_worstWithout M_all M_rowSize), ((a 1), .inl (cI, 48, .inl (ia M_kinds_2))), ((a 2), .inl (cI, 48, .inl (ia M_pins_3))), ((a 3), .inl (cI, 144, .inl (ia M_froms_4))), ((a 4), .inl (cI, 144, .inl (ia M_wireEarly_5))), ((a 5), .inl (cI, 144, .inl (ia M_wireLate_6))), ((a 6), .inl (cI, 144, .inl (ia M_senses_7))), ((a 7), .inl (cI, 288, .inl (ia M_delayEarly_8))), ((a 8), .inl (cI, 288, .inl (ia M_delayLate_9))), ((a 9), .inl (cI, 96, .inl (ia M_firstOf_10))), ((a 10), .inl (cI, 96, .inl (ia M_secondOf_11)))]) (va_runV (As := [.int (iI 4), .int (iI 1)]) (rest := []) ⟨hx, hb, hml, hown, hts⟩ (c_M_add l D cI cJ cZ F a 0 M_period M_width M_nodes M_analysed M_gates M_startNode M_startChange M_startWay M_startBase M_startEarly M_startLate M_worstWith M_worstWithout M_all M_rowSize M_kinds M_pins M_froms M_wireEarly M_wireLate M_senses M_delayEarly M_delayLate M_firstOf M_secondOf 4 1 r8 M_nodes_1 M_kinds_2 M_pins_3 M_froms_4 M_wireEarly_5 M_wireLate_6 M_senses_7 M_delayEarly_8 M_delayLate_9 M_firstOf_10 M_secondOf_11 M_analysed_12 H.size hcall) (cwV 2 hts (gd_V m1201 m1198 m1200 sl_M_add m12) rfl rfl rfl ⟨rfl, hc_M_add⟩ ⟨Nat.le_of_ble_eq_true rfl, Nat.le_of_ble_eq_true rfl⟩) (pc_V 0 10 [.int (iI 4), .int (iI 1)] hP hK hD hN [0, 1, 2, 3, 4, 5, 6, 7, 8, 9, 10] rfl rfl rfl rfl rfl) rfl rfl hl.1 rfl (lv_room (Nat.le_of_ble_eq_true rfl)) d_M_output_8 ⟨Nat.le_refl 0, Nat.le_refl 0⟩) hP hD hS hA [0, 1, 2, 3, 4, 5, 6, 7, 8, 9, 10] [] [0, 1, 2, 3, 4, 5, 6, 7, 8, 9, 10] rfl rfl rfl (by decide) rfl rfl rfl (fun H locs hP hD hS => ?_)
  obtain ⟨e1, e2, e3, e4, e5, e6, e7, e8, e9, e10, e11, e12, e13, e14⟩ := so14 h
  rw [hQ, e1, e2, e3, e4, e5, e6, e7, e8, e9, e10, e11, e12, e13, e14]; rw [hAe] at hD hS; exact W.iret hx hb hr (fun t ht hW => ⟨⟨_, (), rfl, rfl, by rw [ht]; exact hP, va_K.moved hW.alike hK, hD⟩, hS.F ht⟩) hS.2.2 d_M_output_11
abbrev rm_M_noPin : Room := { frames := 0, cells := 0, slots := 0, locals := 0 }
set_option maxHeartbeats 4000000 in
set_option maxRecDepth 100000 in
theorem c_M_noPin (l : Launch) (D : va_G) (cI cJ cZ : ClassId) (F : Nat) (a : Nat → Nat) (M_thrown : Int) (M_period : Int) (M_width : Int) (M_nodes : Int) (M_analysed : Int) (M_gates : Int) (M_startNode : Int) (M_startChange : Int) (M_startWay : Int) (M_startBase : Int) (M_startEarly : Int) (M_startLate : Int) (M_worstWith : Int) (M_worstWithout : Int) (M_all : Int64) (M_rowSize : Int) (M_pins : Int → Int) (x1 : Int) (x2 : Int) (r : Int) (sz : Nat) (h : f_M_noPin F M_nodes M_pins x1 x2 = some (r)) : Met l y_M_noPin w_M_noPin rm_M_noPin (PC D [(cI, .int), (cJ, .long), (cZ, .boolean)] [.ref (a 0), .int (iI x1), .int (iI x2)] ([(o_M a M_thrown M_period M_width M_nodes M_analysed M_gates M_startNode M_startChange M_startWay M_startBase M_startEarly M_startLate M_worstWith M_worstWithout M_all M_rowSize), ((a 2), .inl (cI, 48, .inl (ia M_pins)))]) sz) (QcRead (iI r)) 0 0 (fun _ => False) := by
  refine Met.ofW (cc := prog_12_method_11_code) (maxL := 3) (ret := (Option.some Jvm.ClassFile.FieldType.boolean)) (by decide) rfl ?_
  intro p e s m args below meth c s₁ B hml hv
  obtain ⟨rfl, hsz, hP, hK, hD0, hN⟩ := hv
  have hx := B.exec
  have hb := B.bytes
  have hr := B.returns
  have hts := atoms_spec (ws := w_M_noPin) B.pre
  have hown : s.vm.findClass R_M = some m.cls := findClass_of_methodNamed B.named
  have hlocks := B.notSynchronized
  subst hsz
  have hl := lv_entry ([.ref (a 0), .int (iI x1), .int (iI x2)]) (n := 3) (Nat.le_of_ble_eq_true rfl)
  rw [lg_entry_eq]
  generalize (lg_sl ([.ref (a 0), .int (iI x1), .int (iI x2)]) ++ List.replicate (3 - (lg_sl ([.ref (a 0), .int (iI x1), .int (iI x2)])).length) Slot.unset).toArray = ls at hl ⊢
  have hl : lv_has ls 3 [(0, .ref (a 0)), (1, .int (iI x1)), (2, .int (iI x2))] := hl
  generalize (List.toArray ([.ref (a 0), .int (iI x1), .int (iI x2)] : List Value)) = args at hts ⊢
  have hT : ∀ w ∈ Tg, w.before args s = true := fun w h => hts w (List.mem_cons_of_mem _ h)
  obtain ⟨Q, hQ⟩ : ∃ Q, Q = MQ below (QcRead (iI r)) args s 0 0 (fun _ => False) := ⟨_, rfl⟩
  rw [← hQ]
  rw [f_M_noPin] at h
  refine lv_iload_n hx hb d_M_noPin_0 rfl (lv_at hl 1 rfl) ?_
  have hj26 : ∀  (ls : Array Slot), lv_has ls 3 [] → f_M_noPin_j26 F = some (r) → W p l e (headSpec w_M_noPin rm_M_noPin).room s m args below meth c s.heap [] 0 0 Q (F0 m 26 ls []) := by
    intro  ls hl h
    rw [f_M_noPin_j26] at h
    refine zv_iconst hx hb d_M_noPin_26 ?_
    refine lv_goto hx hb d_M_noPin_27 rfl ?_
    obtain ⟨hbo, h⟩ := gb_e h
    have e1 := so1 h
    rw [hQ, e1]; exact W.zret (ty := .boolean) hx hb hr (gb_n hbo) (fun t ht hW => ⟨rfl, ht⟩) (fun q h => nomatch h) d_M_noPin_31
  obtain ⟨hg0, h⟩ := gr_e h
  refine zi_lt hx hb d_M_noPin_1 rfl hg0 (fun hc => ?_) (fun hc => ?_)
  · replace h := if_t hc h
    exact hj26  ls (lv_sub hl [] rfl) h
  · replace h := if_f hc h
    refine lv_iload_n hx hb d_M_noPin_4 rfl (lv_at hl 1 rfl) ?_
    refine lv_aload_n hx hb d_M_noPin_5 rfl (lv_at hl 0 rfl) ?_
    refine va_get (D := D) (ci := 10) (v := .int (iI M_nodes)) (C := R_M) (T := F_M) (N := 53) hx hb hT in_M hown hK hP 0 rfl rfl 3 (by decide) (hT _ m1024) (fun _ h9 => h9) rfl d_M_noPin_6 ?_
    obtain ⟨hg0, h⟩ := gr_e h
    obtain ⟨hg1, h⟩ := gr_e h
    refine zc_ge hx hb d_M_noPin_9 rfl hg0 hg1 (fun hc => ?_) (fun hc => ?_)
    · replace h := if_t hc h
      exact hj26  ls (lv_sub hl [] rfl) h
    · replace h := if_f hc h
      refine lv_iload_n hx hb d_M_noPin_12 rfl (lv_at hl 2 rfl) ?_
      obtain ⟨hg0, h⟩ := gr_e h
      refine zi_lt hx hb d_M_noPin_13 rfl hg0 (fun hc => ?_) (fun hc => ?_)
      · replace h := if_t hc h
        exact hj26  ls (lv_sub hl [] rfl) h
      · replace h := if_f hc h
        refine lv_iload_n hx hb d_M_noPin_16 rfl (lv_at hl 2 rfl) ?_
        refine lv_aload_n hx hb d_M_noPin_17 rfl (lv_at hl 0 rfl) ?_
        refine va_get (D := D) (ci := 10) (v := .ref (a 2)) (C := R_M) (T := F_M) (N := 53) hx hb hT in_M hown hK hP 0 rfl rfl 5 (by decide) (hT _ m1026) (fun _ h9 => h9) rfl d_M_noPin_18 ?_
        refine lv_iload_n hx hb d_M_noPin_21 rfl (lv_at hl 1 rfl) ?_
        obtain ⟨hin, h⟩ := gi_e h
        refine zv_iald hx hb hK hP 1 0 rfl rfl (Nat.le_of_ble_eq_true rfl) hin d_M_noPin_22 ?_
        obtain ⟨hg0, h⟩ := gr_e h
        obtain ⟨hg1, h⟩ := gr_e h
        refine zc_lt hx hb d_M_noPin_23 rfl hg0 hg1 (fun hc => ?_) (fun hc => ?_)
        · replace h := if_t hc h
          refine zv_iconst hx hb d_M_noPin_30 ?_
          obtain ⟨hbo, h⟩ := gb_e h
          have e1 := so1 h
          rw [hQ, e1]; exact W.zret (ty := .boolean) hx hb hr (gb_n hbo) (fun t ht hW => ⟨rfl, ht⟩) (fun q h => nomatch h) d_M_noPin_31
        · replace h := if_f hc h
          exact hj26  ls (lv_sub hl [] rfl) h
abbrev rm_M_wire : Room := { frames := 1, cells := 0, slots := 0, locals := 23 }
set_option maxHeartbeats 4000000 in
set_option maxRecDepth 100000 in
theorem c_M_wire (l : Launch) (D : va_G) (cI cJ cZ : ClassId) (F : Nat) (a : Nat → Nat) (M_thrown : Int) (M_period : Int) (M_width : Int) (M_nodes : Int) (M_analysed : Int) (M_gates : Int) (M_startNode : Int) (M_startChange : Int) (M_startWay : Int) (M_startBase : Int) (M_startEarly : Int) (M_startLate : Int) (M_worstWith : Int) (M_worstWithout : Int) (M_all : Int64) (M_rowSize : Int) (M_kinds : Int → Int) (M_pins : Int → Int) (M_froms : Int → Int) (M_wireEarly : Int → Int) (M_wireLate : Int → Int) (x1 : Int) (x2 : Int) (x3 : Int) (x4 : Int) (x5 : Int) (z_M_thrown : Int) (z_M_froms : Int → Int) (z_M_wireEarly : Int → Int) (z_M_wireLate : Int → Int) (z_M_analysed : Int) (sz : Nat) (h : f_M_wire F M_nodes M_analysed M_kinds M_pins M_froms M_wireEarly M_wireLate x1 x2 x3 x4 x5 = some (z_M_thrown, z_M_froms, z_M_wireEarly, z_M_wireLate, z_M_analysed)) : Met l y_M_wire w_M_wire rm_M_wire (PC D [(cI, .int), (cJ, .long), (cZ, .boolean)] [.ref (a 0), .int (iI x1), .int (iI x2), .int (iI x3), .int (iI x4), .int (iI x5)] ([(o_M a M_thrown M_period M_width M_nodes M_analysed M_gates M_startNode M_startChange M_startWay M_startBase M_startEarly M_startLate M_worstWith M_worstWithout M_all M_rowSize), ((a 1), .inl (cI, 48, .inl (ia M_kinds))), ((a 2), .inl (cI, 48, .inl (ia M_pins))), ((a 3), .inl (cI, 144, .inl (ia M_froms))), ((a 4), .inl (cI, 144, .inl (ia M_wireEarly))), ((a 5), .inl (cI, 144, .inl (ia M_wireLate)))]) sz) (QV D [(cI, .int), (cJ, .long), (cZ, .boolean)] ([(o_M a M_thrown M_period M_width M_nodes M_analysed M_gates M_startNode M_startChange M_startWay M_startBase M_startEarly M_startLate M_worstWith M_worstWithout M_all M_rowSize), ((a 1), .inl (cI, 48, .inl (ia M_kinds))), ((a 2), .inl (cI, 48, .inl (ia M_pins))), ((a 3), .inl (cI, 144, .inl (ia M_froms))), ((a 4), .inl (cI, 144, .inl (ia M_wireEarly))), ((a 5), .inl (cI, 144, .inl (ia M_wireLate)))]) sz ([(o_M a z_M_thrown M_period M_width M_nodes z_M_analysed M_gates M_startNode M_startChange M_startWay M_startBase M_startEarly M_startLate M_worstWith M_worstWithout M_all M_rowSize), ((a 1), .inl (cI, 48, .inl (ia M_kinds))), ((a 2), .inl (cI, 48, .inl (ia M_pins))), ((a 3), .inl (cI, 144, .inl (ia z_M_froms))), ((a 4), .inl (cI, 144, .inl (ia z_M_wireEarly))), ((a 5), .inl (cI, 144, .inl (ia z_M_wireLate)))])) 0 0 (va_A ([(o_M a M_thrown M_period M_width M_nodes M_analysed M_gates M_startNode M_startChange M_startWay M_startBase M_startEarly M_startLate M_worstWith M_worstWithout M_all M_rowSize), ((a 1), .inl (cI, 48, .inl (ia M_kinds))), ((a 2), .inl (cI, 48, .inl (ia M_pins))), ((a 3), .inl (cI, 144, .inl (ia M_froms))), ((a 4), .inl (cI, 144, .inl (ia M_wireEarly))), ((a 5), .inl (cI, 144, .inl (ia M_wireLate)))]) sz) := by
  refine Met.ofW (cc := prog_12_method_12_code) (maxL := 6) (ret := (Option.none : Option Jvm.ClassFile.FieldType)) (by decide) rfl ?_
  intro p e s m args below meth c s₁ B hml hv
  obtain ⟨rfl, hsz, hP, hK, hD0, hN⟩ := hv
  have hx := B.exec
  have hb := B.bytes
  have hr := B.returns
  have hts := atoms_spec (ws := w_M_wire) B.pre
  have hown : s.vm.findClass R_M = some m.cls := findClass_of_methodNamed B.named
  have hlocks := B.notSynchronized
  subst hsz
  have hD := hD0.self (sz := s.heap.size)
  obtain ⟨A, hAe⟩ : ∃ A, A = va_A ([(o_M a M_thrown M_period M_width M_nodes M_analysed M_gates M_startNode M_startChange M_startWay M_startBase M_startEarly M_startLate M_worstWith M_worstWithout M_all M_rowSize), ((a 1), .inl (cI, 48, .inl (ia M_kinds))), ((a 2), .inl (cI, 48, .inl (ia M_pins))), ((a 3), .inl (cI, 144, .inl (ia M_froms))), ((a 4), .inl (cI, 144, .inl (ia M_wireEarly))), ((a 5), .inl (cI, 144, .inl (ia M_wireLate)))]) s.heap.size := ⟨_, rfl⟩
  rw [← hAe] at hD
  have hA : ∀ q : Nat, s.heap.size ≤ q → A q := fun q h => by rw [hAe]; exact Or.inr h
  have hS : va_S A s.heap s.heap [] := va_S.rf
  have hl := lv_entry ([.ref (a 0), .int (iI x1), .int (iI x2), .int (iI x3), .int (iI x4), .int (iI x5)]) (n := 6) (Nat.le_of_ble_eq_true rfl)
  rw [lg_entry_eq]
  generalize (lg_sl ([.ref (a 0), .int (iI x1), .int (iI x2), .int (iI x3), .int (iI x4), .int (iI x5)]) ++ List.replicate (6 - (lg_sl ([.ref (a 0), .int (iI x1), .int (iI x2), .int (iI x3), .int (iI x4), .int (iI x5)])).length) Slot.unset).toArray = ls at hl ⊢
  have hl : lv_has ls 6 [(0, .ref (a 0)), (1, .int (iI x1)), (2, .int (iI x2)), (3, .int (iI x3)), (4, .int (iI x4)), (5, .int (iI x5))] := hl
  generalize (List.toArray ([.ref (a 0), .int (iI x1), .int (iI x2), .int (iI x3), .int (iI x4), .int (iI x5)] : List Value)) = args at hts ⊢
  have hT : ∀ w ∈ Tg, w.before args s = true := fun w h => hts w (List.mem_cons_of_mem _ h)
  obtain ⟨Q, hQ⟩ : ∃ Q, Q = MQ below (QV D [(cI, .int), (cJ, .long), (cZ, .boolean)] ([(o_M a M_thrown M_period M_width M_nodes M_analysed M_gates M_startNode M_startChange M_startWay M_startBase M_startEarly M_startLate M_worstWith M_worstWithout M_all M_rowSize), ((a 1), .inl (cI, 48, .inl (ia M_kinds))), ((a 2), .inl (cI, 48, .inl (ia M_pins))), ((a 3), .inl (cI, 144, .inl (ia M_froms))), ((a 4), .inl (cI, 144, .inl (ia M_wireEarly))), ((a 5), .inl (cI, 144, .inl (ia M_wireLate)))]) s.heap.size ([(o_M a z_M_thrown M_period M_width M_nodes z_M_analysed M_gates M_startNode M_startChange M_startWay M_startBase M_startEarly M_startLate M_worstWith M_worstWithout M_all M_rowSize), ((a 1), .inl (cI, 48, .inl (ia M_kinds))), ((a 2), .inl (cI, 48, .inl (ia M_pins))), ((a 3), .inl (cI, 144, .inl (ia z_M_froms))), ((a 4), .inl (cI, 144, .inl (ia z_M_wireEarly))), ((a 5), .inl (cI, 144, .inl (ia z_M_wireLate)))])) args s 0 0 (va_A ([(o_M a M_thrown M_period M_width M_nodes M_analysed M_gates M_startNode M_startChange M_startWay M_startBase M_startEarly M_startLate M_worstWith M_worstWithout M_all M_rowSize), ((a 1), .inl (cI, 48, .inl (ia M_kinds))), ((a 2), .inl (cI, 48, .inl (ia M_pins))), ((a 3), .inl (cI, 144, .inl (ia M_froms))), ((a 4), .inl (cI, 144, .inl (ia M_wireEarly))), ((a 5), .inl (cI, 144, .inl (ia M_wireLate)))]) s.heap.size) := ⟨_, rfl⟩
  rw [← hQ]
  suffices hW : ∀ (H : Heap) (locs : List Loc), va_P D vwCl ([(o_M a M_thrown M_period M_width M_nodes M_analysed M_gates M_startNode M_startChange M_startWay M_startBase M_startEarly M_startLate M_worstWith M_worstWithout M_all M_rowSize), ((a 1), .inl (cI, 48, .inl (ia M_kinds))), ((a 2), .inl (cI, 48, .inl (ia M_pins))), ((a 3), .inl (cI, 144, .inl (ia M_froms))), ((a 4), .inl (cI, 144, .inl (ia M_wireEarly))), ((a 5), .inl (cI, 144, .inl (ia M_wireLate)))]) H → va_D A ([(o_M a M_thrown M_period M_width M_nodes M_analysed M_gates M_startNode M_startChange M_startWay M_startBase M_startEarly M_startLate M_worstWith M_worstWithout M_all M_rowSize), ((a 1), .inl (cI, 48, .inl (ia M_kinds))), ((a 2), .inl (cI, 48, .inl (ia M_pins))), ((a 3), .inl (cI, 144, .inl (ia M_froms))), ((a 4), .inl (cI, 144, .inl (ia M_wireEarly))), ((a 5), .inl (cI, 144, .inl (ia M_wireLate)))]) → va_S A s.heap H locs → W p l e (headSpec w_M_wire rm_M_wire).room s m args below meth c H locs 0 0 Q (F0 m 0 ls []) from hW s.heap [] hP hD hS
  clear hP hD hS
  intro H locs hP hD hS
  rw [f_M_wire] at h
  refine lv_aload_n hx hb d_M_wire_0 rfl (lv_at hl 0 rfl) ?_
  refine lv_aload_n hx hb d_M_wire_1 rfl (lv_at hl 0 rfl) ?_
  refine lv_iload_n hx hb d_M_wire_2 rfl (lv_at hl 1 rfl) ?_
  refine lv_iload_n hx hb d_M_wire_3 rfl (lv_at hl 2 rfl) ?_
  obtain ⟨r4, hcall, h⟩ := ob1_e h
  refine ro_i (va_Run.run (va_runV (As := [.int (iI x1), .int (iI x2)]) (rest := [.ref (a 0)]) ⟨hx, hb, hml, hown, hts⟩ (c_M_noPin l D cI cJ cZ F a M_thrown M_period M_width M_nodes M_analysed M_gates M_startNode M_startChange M_startWay M_startBase M_startEarly M_startLate M_worstWith M_worstWithout M_all M_rowSize M_pins x1 x2 r4 H.size hcall) (cwV 2 hts (gd_V m1221 m1218 m1220 sl_M_noPin m12) rfl rfl rfl ⟨rfl, hc_M_noPin⟩ ⟨Nat.le_of_ble_eq_true rfl, Nat.le_of_ble_eq_true rfl⟩) (pc_V 0 10 [.int (iI x1), .int (iI x2)] hP hK hD hN [0, 2] rfl rfl rfl rfl rfl) rfl rfl hl.1 rfl (lv_room (Nat.le_of_ble_eq_true rfl)) d_M_wire_4 ⟨Nat.le_refl 0, Nat.le_refl 0⟩)) (W.eq (g2 := F0 m 7 ls [.int (iI r4), .ref (a 0)]) rfl ?_)
  have hj51 : ∀ (q1 : Int) (H : Heap) (locs : List Loc) (ls : Array Slot), va_P D vwCl [(o_M a M_thrown M_period M_width M_nodes M_analysed M_gates M_startNode M_startChange M_startWay M_startBase M_startEarly M_startLate M_worstWith M_worstWithout M_all M_rowSize), ((a 1), .inl (cI, 48, .inl (ia M_kinds))), ((a 2), .inl (cI, 48, .inl (ia M_pins))), ((a 3), .inl (cI, 144, .inl (ia M_froms))), ((a 4), .inl (cI, 144, .inl (ia M_wireEarly))), ((a 5), .inl (cI, 144, .inl (ia M_wireLate)))] H → va_D A [(o_M a M_thrown M_period M_width M_nodes M_analysed M_gates M_startNode M_startChange M_startWay M_startBase M_startEarly M_startLate M_worstWith M_worstWithout M_all M_rowSize), ((a 1), .inl (cI, 48, .inl (ia M_kinds))), ((a 2), .inl (cI, 48, .inl (ia M_pins))), ((a 3), .inl (cI, 144, .inl (ia M_froms))), ((a 4), .inl (cI, 144, .inl (ia M_wireEarly))), ((a 5), .inl (cI, 144, .inl (ia M_wireLate)))] → va_S A s.heap H locs → lv_has ls 6 [(0, .ref (a 0)), (1, .int (iI x1)), (2, .int (iI x2)), (3, .int (iI x3)), (4, .int (iI x4)), (5, .int (iI x5))] → f_M_wire_j51 F M_analysed M_froms M_wireEarly M_wireLate x1 x2 x3 x4 x5 q1 = some (z_M_thrown, z_M_froms, z_M_wireEarly, z_M_wireLate, z_M_analysed) → W p l e (headSpec w_M_wire rm_M_wire).room s m args below meth c H locs 0 0 Q (F0 m 51 ls [.int (iI q1), .ref (a 0)]) := by
    intro q1 H locs ls hP hD hS hl h
    rw [f_M_wire_j51] at h
    refine va_put (D := D) (ci := 10) (v := .int (iI q1)) (ty := .int) (C := R_M) (T := F_M) (N := 53) hx hb hT in_M ty_M ty_M_ok n_M hown hK hP hD hS 0 rfl rfl 0 (by decide) (hT _ m1021) (fun _ h9 => h9) rfl (by decide +kernel) rfl rfl (Nat.le_of_ble_eq_true rfl) d_M_wire_51 (fun H locs hP hD hS => ?_)
    have hP : va_P D vwCl [(o_M a q1 M_period M_width M_nodes M_analysed M_gates M_startNode M_startChange M_startWay M_startBase M_startEarly M_startLate M_worstWith M_worstWithout M_all M_rowSize), ((a 1), .inl (cI, 48, .inl (ia M_kinds))), ((a 2), .inl (cI, 48, .inl (ia M_pins))), ((a 3), .inl (cI, 144, .inl (ia M_froms))), ((a 4), .inl (cI, 144, .inl (ia M_wireEarly))), ((a 5), .inl (cI, 144, .inl (ia M_wireLate)))] H := hP
    have hD : va_D A [(o_M a q1 M_period M_width M_nodes M_analysed M_gates M_startNode M_startChange M_startWay M_startBase M_startEarly M_startLate M_worstWith M_worstWithout M_all M_rowSize), ((a 1), .inl (cI, 48, .inl (ia M_kinds))), ((a 2), .inl (cI, 48, .inl (ia M_pins))), ((a 3), .inl (cI, 144, .inl (ia M_froms))), ((a 4), .inl (cI, 144, .inl (ia M_wireEarly))), ((a 5), .inl (cI, 144, .inl (ia M_wireLate)))] := hD
    refine lv_aload_n hx hb d_M_wire_54 rfl (lv_at hl 0 rfl) ?_
    refine va_get (D := D) (ci := 10) (v := .int (iI q1)) (C := R_M) (T := F_M) (N := 53) hx hb hT in_M hown hK hP 0 rfl rfl 0 (by decide) (hT _ m1021) (fun _ h9 => h9) rfl d_M_wire_55 ?_
    obtain ⟨hg0, h⟩ := gr_e h
    refine zi_ne hx hb d_M_wire_58 rfl hg0 (fun hc => ?_) (fun hc => ?_)
    · replace h := if_f hc h
      obtain ⟨e1, e2, e3, e4, e5⟩ := so5 h
      rw [hQ, e1, e2, e3, e4, e5]; rw [hAe] at hD hS; exact W.vret hx hb hr (fun t ht hW => ⟨⟨(), rfl, trivial, by rw [ht]; exact hP, va_K.moved hW.alike hK, hD⟩, hS.F ht⟩) hS.2.2 d_M_wire_101
    · replace h := if_t hc h
      refine lv_aload_n hx hb d_M_wire_61 rfl (lv_at hl 0 rfl) ?_
      refine va_get (D := D) (ci := 10) (v := .ref (a 3)) (C := R_M) (T := F_M) (N := 53) hx hb hT in_M hown hK hP 0 rfl rfl 6 (by decide) (hT _ m1027) (fun _ h9 => h9) rfl d_M_wire_62 ?_
      refine zv_iconst hx hb d_M_wire_65 ?_
      refine lv_iload_n hx hb d_M_wire_66 rfl (lv_at hl 1 rfl) ?_
      refine zv_imul hx hb d_M_wire_67 ?_
      refine lv_iload_n hx hb d_M_wire_68 rfl (lv_at hl 2 rfl) ?_
      refine zv_iadd hx hb d_M_wire_69 ?_
      refine lv_iload_n hx hb d_M_wire_70 rfl (lv_at hl 3 rfl) ?_
      obtain ⟨hin, h⟩ := gi_e h
      refine zv_iast hx hb hK hP hD hS 3 0 rfl rfl (Nat.le_of_ble_eq_true rfl) hin d_M_wire_71 (fun H locs hP hD hS => ?_)
      obtain ⟨M_froms_1, hv⟩ : ∃ z, z = (ui M_froms ((3 * x1) + x2) x3) := ⟨_, rfl⟩
      replace h := bd_e hv h
      have hP : va_P D vwCl [(o_M a q1 M_period M_width M_nodes M_analysed M_gates M_startNode M_startChange M_startWay M_startBase M_startEarly M_startLate M_worstWith M_worstWithout M_all M_rowSize), ((a 1), .inl (cI, 48, .inl (ia M_kinds))), ((a 2), .inl (cI, 48, .inl (ia M_pins))), ((a 3), .inl (cI, 144, .inl (ia M_froms_1))), ((a 4), .inl (cI, 144, .inl (ia M_wireEarly))), ((a 5), .inl (cI, 144, .inl (ia M_wireLate)))] H := by rw [hv]; exact hP
      have hD : va_D A [(o_M a q1 M_period M_width M_nodes M_analysed M_gates M_startNode M_startChange M_startWay M_startBase M_startEarly M_startLate M_worstWith M_worstWithout M_all M_rowSize), ((a 1), .inl (cI, 48, .inl (ia M_kinds))), ((a 2), .inl (cI, 48, .inl (ia M_pins))), ((a 3), .inl (cI, 144, .inl (ia M_froms_1))), ((a 4), .inl (cI, 144, .inl (ia M_wireEarly))), ((a 5), .inl (cI, 144, .inl (ia M_wireLate)))] := by rw [hv]; exact hD
      refine lv_aload_n hx hb d_M_wire_72 rfl (lv_at hl 0 rfl) ?_
      refine va_get (D := D) (ci := 10) (v := .ref (a 4)) (C := R_M) (T := F_M) (N := 53) hx hb hT in_M hown hK hP 0 rfl rfl 7 (by decide) (hT _ m1028) (fun _ h9 => h9) rfl d_M_wire_73 ?_
      refine zv_iconst hx hb d_M_wire_76 ?_
      refine lv_iload_n hx hb d_M_wire_77 rfl (lv_at hl 1 rfl) ?_
      refine zv_imul hx hb d_M_wire_78 ?_
      refine lv_iload_n hx hb d_M_wire_79 rfl (lv_at hl 2 rfl) ?_
      refine zv_iadd hx hb d_M_wire_80 ?_
      refine lv_iload hx hb d_M_wire_81 (lv_at hl 4 rfl) ?_
      obtain ⟨hin, h⟩ := gi_e h
      refine zv_iast hx hb hK hP hD hS 4 0 rfl rfl (Nat.le_of_ble_eq_true rfl) hin d_M_wire_83 (fun H locs hP hD hS => ?_)
      obtain ⟨M_wireEarly_2, hv⟩ : ∃ z, z = (ui M_wireEarly ((3 * x1) + x2) x4) := ⟨_, rfl⟩
      replace h := bd_e hv h
      have hP : va_P D vwCl [(o_M a q1 M_period M_width M_nodes M_analysed M_gates M_startNode M_startChange M_startWay M_startBase M_startEarly M_startLate M_worstWith M_worstWithout M_all M_rowSize), ((a 1), .inl (cI, 48, .inl (ia M_kinds))), ((a 2), .inl (cI, 48, .inl (ia M_pins))), ((a 3), .inl (cI, 144, .inl (ia M_froms_1))), ((a 4), .inl (cI, 144, .inl (ia M_wireEarly_2))), ((a 5), .inl (cI, 144, .inl (ia M_wireLate)))] H := by rw [hv]; exact hP
      have hD : va_D A [(o_M a q1 M_period M_width M_nodes M_analysed M_gates M_startNode M_startChange M_startWay M_startBase M_startEarly M_startLate M_worstWith M_worstWithout M_all M_rowSize), ((a 1), .inl (cI, 48, .inl (ia M_kinds))), ((a 2), .inl (cI, 48, .inl (ia M_pins))), ((a 3), .inl (cI, 144, .inl (ia M_froms_1))), ((a 4), .inl (cI, 144, .inl (ia M_wireEarly_2))), ((a 5), .inl (cI, 144, .inl (ia M_wireLate)))] := by rw [hv]; exact hD
      refine lv_aload_n hx hb d_M_wire_84 rfl (lv_at hl 0 rfl) ?_
      refine va_get (D := D) (ci := 10) (v := .ref (a 5)) (C := R_M) (T := F_M) (N := 53) hx hb hT in_M hown hK hP 0 rfl rfl 8 (by decide) (hT _ m1029) (fun _ h9 => h9) rfl d_M_wire_85 ?_
      refine zv_iconst hx hb d_M_wire_88 ?_
      refine lv_iload_n hx hb d_M_wire_89 rfl (lv_at hl 1 rfl) ?_
      refine zv_imul hx hb d_M_wire_90 ?_
      refine lv_iload_n hx hb d_M_wire_91 rfl (lv_at hl 2 rfl) ?_
      refine zv_iadd hx hb d_M_wire_92 ?_
      refine lv_iload hx hb d_M_wire_93 (lv_at hl 5 rfl) ?_
      obtain ⟨hin, h⟩ := gi_e h
      refine zv_iast hx hb hK hP hD hS 5 0 rfl rfl (Nat.le_of_ble_eq_true rfl) hin d_M_wire_95 (fun H locs hP hD hS => ?_)
      obtain ⟨M_wireLate_3, hv⟩ : ∃ z, z = (ui M_wireLate ((3 * x1) + x2) x5) := ⟨_, rfl⟩
      replace h := bd_e hv h
      have hP : va_P D vwCl [(o_M a q1 M_period M_width M_nodes M_analysed M_gates M_startNode M_startChange M_startWay M_startBase M_startEarly M_startLate M_worstWith M_worstWithout M_all M_rowSize), ((a 1), .inl (cI, 48, .inl (ia M_kinds))), ((a 2), .inl (cI, 48, .inl (ia M_pins))), ((a 3), .inl (cI, 144, .inl (ia M_froms_1))), ((a 4), .inl (cI, 144, .inl (ia M_wireEarly_2))), ((a 5), .inl (cI, 144, .inl (ia M_wireLate_3)))] H := by rw [hv]; exact hP
      have hD : va_D A [(o_M a q1 M_period M_width M_nodes M_analysed M_gates M_startNode M_startChange M_startWay M_startBase M_startEarly M_startLate M_worstWith M_worstWithout M_all M_rowSize), ((a 1), .inl (cI, 48, .inl (ia M_kinds))), ((a 2), .inl (cI, 48, .inl (ia M_pins))), ((a 3), .inl (cI, 144, .inl (ia M_froms_1))), ((a 4), .inl (cI, 144, .inl (ia M_wireEarly_2))), ((a 5), .inl (cI, 144, .inl (ia M_wireLate_3)))] := by rw [hv]; exact hD
      refine lv_aload_n hx hb d_M_wire_96 rfl (lv_at hl 0 rfl) ?_
      refine zv_iconst hx hb d_M_wire_97 ?_
      refine va_put (D := D) (ci := 10) (v := .int (iI 0)) (ty := .boolean) (C := R_M) (T := F_M) (N := 53) hx hb hT in_M ty_M ty_M_ok n_M hown hK hP hD hS 0 rfl rfl 14 (by decide) (hT _ m1035) (fun _ h9 => h9) rfl (by decide +kernel) rfl rfl (Nat.le_of_ble_eq_true rfl) d_M_wire_98 (fun H locs hP hD hS => ?_)
      have hP : va_P D vwCl [(o_M a q1 M_period M_width M_nodes 0 M_gates M_startNode M_startChange M_startWay M_startBase M_startEarly M_startLate M_worstWith M_worstWithout M_all M_rowSize), ((a 1), .inl (cI, 48, .inl (ia M_kinds))), ((a 2), .inl (cI, 48, .inl (ia M_pins))), ((a 3), .inl (cI, 144, .inl (ia M_froms_1))), ((a 4), .inl (cI, 144, .inl (ia M_wireEarly_2))), ((a 5), .inl (cI, 144, .inl (ia M_wireLate_3)))] H := hP
      have hD : va_D A [(o_M a q1 M_period M_width M_nodes 0 M_gates M_startNode M_startChange M_startWay M_startBase M_startEarly M_startLate M_worstWith M_worstWithout M_all M_rowSize), ((a 1), .inl (cI, 48, .inl (ia M_kinds))), ((a 2), .inl (cI, 48, .inl (ia M_pins))), ((a 3), .inl (cI, 144, .inl (ia M_froms_1))), ((a 4), .inl (cI, 144, .inl (ia M_wireEarly_2))), ((a 5), .inl (cI, 144, .inl (ia M_wireLate_3)))] := hD
      obtain ⟨e1, e2, e3, e4, e5⟩ := so5 h
      rw [hQ, e1, e2, e3, e4, e5]; rw [hAe] at hD hS; exact W.vret hx hb hr (fun t ht hW => ⟨⟨(), rfl, trivial, by rw [ht]; exact hP, va_K.moved hW.alike hK, hD⟩, hS.F ht⟩) hS.2.2 d_M_wire_101
  have hj46 : ∀  (H : Heap) (locs : List Loc) (ls : Array Slot), va_P D vwCl [(o_M a M_thrown M_period M_width M_nodes M_analysed M_gates M_startNode M_startChange M_startWay M_startBase M_startEarly M_startLate M_worstWith M_worstWithout M_all M_rowSize), ((a 1), .inl (cI, 48, .inl (ia M_kinds))), ((a 2), .inl (cI, 48, .inl (ia M_pins))), ((a 3), .inl (cI, 144, .inl (ia M_froms))), ((a 4), .inl (cI, 144, .inl (ia M_wireEarly))), ((a 5), .inl (cI, 144, .inl (ia M_wireLate)))] H → va_D A [(o_M a M_thrown M_period M_width M_nodes M_analysed M_gates M_startNode M_startChange M_startWay M_startBase M_startEarly M_startLate M_worstWith M_worstWithout M_all M_rowSize), ((a 1), .inl (cI, 48, .inl (ia M_kinds))), ((a 2), .inl (cI, 48, .inl (ia M_pins))), ((a 3), .inl (cI, 144, .inl (ia M_froms))), ((a 4), .inl (cI, 144, .inl (ia M_wireEarly))), ((a 5), .inl (cI, 144, .inl (ia M_wireLate)))] → va_S A s.heap H locs → lv_has ls 6 [(0, .ref (a 0)), (1, .int (iI x1)), (2, .int (iI x2)), (3, .int (iI x3)), (4, .int (iI x4)), (5, .int (iI x5))] → f_M_wire_j46 F M_analysed M_froms M_wireEarly M_wireLate x1 x2 x3 x4 x5 = some (z_M_thrown, z_M_froms, z_M_wireEarly, z_M_wireLate, z_M_analysed) → W p l e (headSpec w_M_wire rm_M_wire).room s m args below meth c H locs 0 0 Q (F0 m 46 ls [.ref (a 0)]) := by
    intro  H locs ls hP hD hS hl h
    rw [f_M_wire_j46] at h
    refine zv_iconst hx hb d_M_wire_46 ?_
    refine lv_goto hx hb d_M_wire_47 rfl ?_
    exact hj51 1 H locs ls hP hD hS (lv_sub hl [0, 1, 2, 3, 4, 5] rfl) h
  obtain ⟨hg0, h⟩ := gr_e h
  refine zi_ne hx hb d_M_wire_7 rfl hg0 (fun hc => ?_) (fun hc => ?_)
  · replace h := if_f hc h
    exact hj46  H locs ls hP hD hS (lv_sub hl [0, 1, 2, 3, 4, 5] rfl) h
  · replace h := if_t hc h
    refine lv_iload_n hx hb d_M_wire_10 rfl (lv_at hl 3 rfl) ?_
    obtain ⟨hg0, h⟩ := gr_e h
    refine zi_lt hx hb d_M_wire_11 rfl hg0 (fun hc => ?_) (fun hc => ?_)
    · replace h := if_t hc h
      exact hj46  H locs ls hP hD hS (lv_sub hl [0, 1, 2, 3, 4, 5] rfl) h
    · replace h := if_f hc h
      refine lv_iload_n hx hb d_M_wire_14 rfl (lv_at hl 3 rfl) ?_
      refine lv_aload_n hx hb d_M_wire_15 rfl (lv_at hl 0 rfl) ?_
      refine va_get (D := D) (ci := 10) (v := .int (iI M_nodes)) (C := R_M) (T := F_M) (N := 53) hx hb hT in_M hown hK hP 0 rfl rfl 3 (by decide) (hT _ m1024) (fun _ h9 => h9) rfl d_M_wire_16 ?_
      obtain ⟨hg0, h⟩ := gr_e h
      obtain ⟨hg1, h⟩ := gr_e h
      refine zc_ge hx hb d_M_wire_19 rfl hg0 hg1 (fun hc => ?_) (fun hc => ?_)
      · replace h := if_t hc h
        exact hj46  H locs ls hP hD hS (lv_sub hl [0, 1, 2, 3, 4, 5] rfl) h
      · replace h := if_f hc h
        refine lv_aload_n hx hb d_M_wire_22 rfl (lv_at hl 0 rfl) ?_
        refine va_get (D := D) (ci := 10) (v := .ref (a 1)) (C := R_M) (T := F_M) (N := 53) hx hb hT in_M hown hK hP 0 rfl rfl 4 (by decide) (hT _ m1025) (fun _ h9 => h9) rfl d_M_wire_23 ?_
        refine lv_iload_n hx hb d_M_wire_26 rfl (lv_at hl 3 rfl) ?_
        obtain ⟨hin, h⟩ := gi_e h
        refine zv_iald hx hb hK hP 1 0 rfl rfl (Nat.le_of_ble_eq_true rfl) hin d_M_wire_27 ?_
        refine zv_iconst hx hb d_M_wire_28 ?_
        obtain ⟨hg0, h⟩ := gr_e h
        refine zc_eq hx hb d_M_wire_29 rfl hg0 (by decide) (fun hc => ?_) (fun hc => ?_)
        · replace h := if_t hc h
          exact hj46  H locs ls hP hD hS (lv_sub hl [0, 1, 2, 3, 4, 5] rfl) h
        · replace h := if_f hc h
          refine lv_iload hx hb d_M_wire_32 (lv_at hl 4 rfl) ?_
          refine lv_iload hx hb d_M_wire_34 (lv_at hl 5 rfl) ?_
          refine lv_sipush (v := iI 10000) hx hb d_M_wire_36 (by decide) ?_
          refine zv_iconst hx hb d_M_wire_39 ?_
          obtain ⟨r40, hcall, h⟩ := ob1_e h
          refine ro_i (va_Run.run (va_runS (As := [.int (iI x4), .int (iI x5), .int (iI 10000), .int (iI 0)]) (rest := [.ref (a 0)]) ⟨hx, hb, hml, hown, hts⟩ (c_M_noTimes l D cI cJ cZ F a x4 x5 10000 0 r40 H.size hcall) (cwS 4 hts (gd_S m1197 m1195 m1196 m12) rfl rfl rfl ⟨rfl, hc_M_noTimes⟩ ⟨Nat.le_of_ble_eq_true rfl, Nat.le_of_ble_eq_true rfl⟩) (pc_S [.int (iI x4), .int (iI x5), .int (iI 10000), .int (iI 0)] hP hK hD hN [] rfl rfl rfl) rfl rfl hl.1 rfl (lv_room (Nat.le_of_ble_eq_true rfl)) d_M_wire_40 ⟨Nat.le_refl 0, Nat.le_refl 0⟩)) (W.eq (g2 := F0 m 43 ls [.int (iI r40), .ref (a 0)]) rfl ?_)
          obtain ⟨hg0, h⟩ := gr_e h
          refine zi_eq hx hb d_M_wire_43 rfl hg0 (fun hc => ?_) (fun hc => ?_)
          · replace h := if_t hc h
            refine zv_iconst hx hb d_M_wire_50 ?_
            exact hj51 0 H locs ls hP hD hS (lv_sub hl [0, 1, 2, 3, 4, 5] rfl) h
          · replace h := if_f hc h
            exact hj46  H locs ls hP hD hS (lv_sub hl [0, 1, 2, 3, 4, 5] rfl) h
abbrev rm_M_sense : Room := { frames := 1, cells := 0, slots := 0, locals := 22 }
set_option maxHeartbeats 4000000 in
set_option maxRecDepth 100000 in
theorem c_M_sense (l : Launch) (D : va_G) (cI cJ cZ : ClassId) (F : Nat) (a : Nat → Nat) (M_thrown : Int) (M_period : Int) (M_width : Int) (M_nodes : Int) (M_analysed : Int) (M_gates : Int) (M_startNode : Int) (M_startChange : Int) (M_startWay : Int) (M_startBase : Int) (M_startEarly : Int) (M_startLate : Int) (M_worstWith : Int) (M_worstWithout : Int) (M_all : Int64) (M_rowSize : Int) (M_kinds : Int → Int) (M_pins : Int → Int) (M_senses : Int → Int) (x1 : Int) (x2 : Int) (x3 : Int) (z_M_thrown : Int) (z_M_senses : Int → Int) (z_M_analysed : Int) (sz : Nat) (h : f_M_sense F M_nodes M_analysed M_kinds M_pins M_senses x1 x2 x3 = some (z_M_thrown, z_M_senses, z_M_analysed)) : Met l y_M_sense w_M_sense rm_M_sense (PC D [(cI, .int), (cJ, .long), (cZ, .boolean)] [.ref (a 0), .int (iI x1), .int (iI x2), .int (iI x3)] ([(o_M a M_thrown M_period M_width M_nodes M_analysed M_gates M_startNode M_startChange M_startWay M_startBase M_startEarly M_startLate M_worstWith M_worstWithout M_all M_rowSize), ((a 1), .inl (cI, 48, .inl (ia M_kinds))), ((a 2), .inl (cI, 48, .inl (ia M_pins))), ((a 6), .inl (cI, 144, .inl (ia M_senses)))]) sz) (QV D [(cI, .int), (cJ, .long), (cZ, .boolean)] ([(o_M a M_thrown M_period M_width M_nodes M_analysed M_gates M_startNode M_startChange M_startWay M_startBase M_startEarly M_startLate M_worstWith M_worstWithout M_all M_rowSize), ((a 1), .inl (cI, 48, .inl (ia M_kinds))), ((a 2), .inl (cI, 48, .inl (ia M_pins))), ((a 6), .inl (cI, 144, .inl (ia M_senses)))]) sz ([(o_M a z_M_thrown M_period M_width M_nodes z_M_analysed M_gates M_startNode M_startChange M_startWay M_startBase M_startEarly M_startLate M_worstWith M_worstWithout M_all M_rowSize), ((a 1), .inl (cI, 48, .inl (ia M_kinds))), ((a 2), .inl (cI, 48, .inl (ia M_pins))), ((a 6), .inl (cI, 144, .inl (ia z_M_senses)))])) 0 0 (va_A ([(o_M a M_thrown M_period M_width M_nodes M_analysed M_gates M_startNode M_startChange M_startWay M_startBase M_startEarly M_startLate M_worstWith M_worstWithout M_all M_rowSize), ((a 1), .inl (cI, 48, .inl (ia M_kinds))), ((a 2), .inl (cI, 48, .inl (ia M_pins))), ((a 6), .inl (cI, 144, .inl (ia M_senses)))]) sz) := by
  refine Met.ofW (cc := prog_12_method_13_code) (maxL := 4) (ret := (Option.none : Option Jvm.ClassFile.FieldType)) (by decide) rfl ?_
  intro p e s m args below meth c s₁ B hml hv
  obtain ⟨rfl, hsz, hP, hK, hD0, hN⟩ := hv
  have hx := B.exec
  have hb := B.bytes
  have hr := B.returns
  have hts := atoms_spec (ws := w_M_sense) B.pre
  have hown : s.vm.findClass R_M = some m.cls := findClass_of_methodNamed B.named
  have hlocks := B.notSynchronized
  subst hsz
  have hD := hD0.self (sz := s.heap.size)
  obtain ⟨A, hAe⟩ : ∃ A, A = va_A ([(o_M a M_thrown M_period M_width M_nodes M_analysed M_gates M_startNode M_startChange M_startWay M_startBase M_startEarly M_startLate M_worstWith M_worstWithout M_all M_rowSize), ((a 1), .inl (cI, 48, .inl (ia M_kinds))), ((a 2), .inl (cI, 48, .inl (ia M_pins))), ((a 6), .inl (cI, 144, .inl (ia M_senses)))]) s.heap.size := ⟨_, rfl⟩
  rw [← hAe] at hD
  have hA : ∀ q : Nat, s.heap.size ≤ q → A q := fun q h => by rw [hAe]; exact Or.inr h
  have hS : va_S A s.heap s.heap [] := va_S.rf
  have hl := lv_entry ([.ref (a 0), .int (iI x1), .int (iI x2), .int (iI x3)]) (n := 4) (Nat.le_of_ble_eq_true rfl)
  rw [lg_entry_eq]
  generalize (lg_sl ([.ref (a 0), .int (iI x1), .int (iI x2), .int (iI x3)]) ++ List.replicate (4 - (lg_sl ([.ref (a 0), .int (iI x1), .int (iI x2), .int (iI x3)])).length) Slot.unset).toArray = ls at hl ⊢
  have hl : lv_has ls 4 [(0, .ref (a 0)), (1, .int (iI x1)), (2, .int (iI x2)), (3, .int (iI x3))] := hl
  generalize (List.toArray ([.ref (a 0), .int (iI x1), .int (iI x2), .int (iI x3)] : List Value)) = args at hts ⊢
  have hT : ∀ w ∈ Tg, w.before args s = true := fun w h => hts w (List.mem_cons_of_mem _ h)
  obtain ⟨Q, hQ⟩ : ∃ Q, Q = MQ below (QV D [(cI, .int), (cJ, .long), (cZ, .boolean)] ([(o_M a M_thrown M_period M_width M_nodes M_analysed M_gates M_startNode M_startChange M_startWay M_startBase M_startEarly M_startLate M_worstWith M_worstWithout M_all M_rowSize), ((a 1), .inl (cI, 48, .inl (ia M_kinds))), ((a 2), .inl (cI, 48, .inl (ia M_pins))), ((a 6), .inl (cI, 144, .inl (ia M_senses)))]) s.heap.size ([(o_M a z_M_thrown M_period M_width M_nodes z_M_analysed M_gates M_startNode M_startChange M_startWay M_startBase M_startEarly M_startLate M_worstWith M_worstWithout M_all M_rowSize), ((a 1), .inl (cI, 48, .inl (ia M_kinds))), ((a 2), .inl (cI, 48, .inl (ia M_pins))), ((a 6), .inl (cI, 144, .inl (ia z_M_senses)))])) args s 0 0 (va_A ([(o_M a M_thrown M_period M_width M_nodes M_analysed M_gates M_startNode M_startChange M_startWay M_startBase M_startEarly M_startLate M_worstWith M_worstWithout M_all M_rowSize), ((a 1), .inl (cI, 48, .inl (ia M_kinds))), ((a 2), .inl (cI, 48, .inl (ia M_pins))), ((a 6), .inl (cI, 144, .inl (ia M_senses)))]) s.heap.size) := ⟨_, rfl⟩
  rw [← hQ]
  suffices hW : ∀ (H : Heap) (locs : List Loc), va_P D vwCl ([(o_M a M_thrown M_period M_width M_nodes M_analysed M_gates M_startNode M_startChange M_startWay M_startBase M_startEarly M_startLate M_worstWith M_worstWithout M_all M_rowSize), ((a 1), .inl (cI, 48, .inl (ia M_kinds))), ((a 2), .inl (cI, 48, .inl (ia M_pins))), ((a 6), .inl (cI, 144, .inl (ia M_senses)))]) H → va_D A ([(o_M a M_thrown M_period M_width M_nodes M_analysed M_gates M_startNode M_startChange M_startWay M_startBase M_startEarly M_startLate M_worstWith M_worstWithout M_all M_rowSize), ((a 1), .inl (cI, 48, .inl (ia M_kinds))), ((a 2), .inl (cI, 48, .inl (ia M_pins))), ((a 6), .inl (cI, 144, .inl (ia M_senses)))]) → va_S A s.heap H locs → W p l e (headSpec w_M_sense rm_M_sense).room s m args below meth c H locs 0 0 Q (F0 m 0 ls []) from hW s.heap [] hP hD hS
  clear hP hD hS
  intro H locs hP hD hS
  rw [f_M_sense] at h
  refine lv_aload_n hx hb d_M_sense_0 rfl (lv_at hl 0 rfl) ?_
  refine lv_aload_n hx hb d_M_sense_1 rfl (lv_at hl 0 rfl) ?_
  refine lv_iload_n hx hb d_M_sense_2 rfl (lv_at hl 1 rfl) ?_
  refine lv_iload_n hx hb d_M_sense_3 rfl (lv_at hl 2 rfl) ?_
  obtain ⟨r4, hcall, h⟩ := ob1_e h
  refine ro_i (va_Run.run (va_runV (As := [.int (iI x1), .int (iI x2)]) (rest := [.ref (a 0)]) ⟨hx, hb, hml, hown, hts⟩ (c_M_noPin l D cI cJ cZ F a M_thrown M_period M_width M_nodes M_analysed M_gates M_startNode M_startChange M_startWay M_startBase M_startEarly M_startLate M_worstWith M_worstWithout M_all M_rowSize M_pins x1 x2 r4 H.size hcall) (cwV 2 hts (gd_V m1221 m1218 m1220 sl_M_noPin m12) rfl rfl rfl ⟨rfl, hc_M_noPin⟩ ⟨Nat.le_of_ble_eq_true rfl, Nat.le_of_ble_eq_true rfl⟩) (pc_V 0 10 [.int (iI x1), .int (iI x2)] hP hK hD hN [0, 2] rfl rfl rfl rfl rfl) rfl rfl hl.1 rfl (lv_room (Nat.le_of_ble_eq_true rfl)) d_M_sense_4 ⟨Nat.le_refl 0, Nat.le_refl 0⟩)) (W.eq (g2 := F0 m 7 ls [.int (iI r4), .ref (a 0)]) rfl ?_)
  have hj34 : ∀ (q1 : Int) (H : Heap) (locs : List Loc) (ls : Array Slot), va_P D vwCl [(o_M a M_thrown M_period M_width M_nodes M_analysed M_gates M_startNode M_startChange M_startWay M_startBase M_startEarly M_startLate M_worstWith M_worstWithout M_all M_rowSize), ((a 1), .inl (cI, 48, .inl (ia M_kinds))), ((a 2), .inl (cI, 48, .inl (ia M_pins))), ((a 6), .inl (cI, 144, .inl (ia M_senses)))] H → va_D A [(o_M a M_thrown M_period M_width M_nodes M_analysed M_gates M_startNode M_startChange M_startWay M_startBase M_startEarly M_startLate M_worstWith M_worstWithout M_all M_rowSize), ((a 1), .inl (cI, 48, .inl (ia M_kinds))), ((a 2), .inl (cI, 48, .inl (ia M_pins))), ((a 6), .inl (cI, 144, .inl (ia M_senses)))] → va_S A s.heap H locs → lv_has ls 4 [(0, .ref (a 0)), (1, .int (iI x1)), (2, .int (iI x2)), (3, .int (iI x3))] → f_M_sense_j34 F M_analysed M_senses x1 x2 x3 q1 = some (z_M_thrown, z_M_senses, z_M_analysed) → W p l e (headSpec w_M_sense rm_M_sense).room s m args below meth c H locs 0 0 Q (F0 m 34 ls [.int (iI q1), .ref (a 0)]) := by
    intro q1 H locs ls hP hD hS hl h
    rw [f_M_sense_j34] at h
    refine va_put (D := D) (ci := 10) (v := .int (iI q1)) (ty := .int) (C := R_M) (T := F_M) (N := 53) hx hb hT in_M ty_M ty_M_ok n_M hown hK hP hD hS 0 rfl rfl 0 (by decide) (hT _ m1021) (fun _ h9 => h9) rfl (by decide +kernel) rfl rfl (Nat.le_of_ble_eq_true rfl) d_M_sense_34 (fun H locs hP hD hS => ?_)
    have hP : va_P D vwCl [(o_M a q1 M_period M_width M_nodes M_analysed M_gates M_startNode M_startChange M_startWay M_startBase M_startEarly M_startLate M_worstWith M_worstWithout M_all M_rowSize), ((a 1), .inl (cI, 48, .inl (ia M_kinds))), ((a 2), .inl (cI, 48, .inl (ia M_pins))), ((a 6), .inl (cI, 144, .inl (ia M_senses)))] H := hP
    have hD : va_D A [(o_M a q1 M_period M_width M_nodes M_analysed M_gates M_startNode M_startChange M_startWay M_startBase M_startEarly M_startLate M_worstWith M_worstWithout M_all M_rowSize), ((a 1), .inl (cI, 48, .inl (ia M_kinds))), ((a 2), .inl (cI, 48, .inl (ia M_pins))), ((a 6), .inl (cI, 144, .inl (ia M_senses)))] := hD
    refine lv_aload_n hx hb d_M_sense_37 rfl (lv_at hl 0 rfl) ?_
    refine va_get (D := D) (ci := 10) (v := .int (iI q1)) (C := R_M) (T := F_M) (N := 53) hx hb hT in_M hown hK hP 0 rfl rfl 0 (by decide) (hT _ m1021) (fun _ h9 => h9) rfl d_M_sense_38 ?_
    obtain ⟨hg0, h⟩ := gr_e h
    refine zi_ne hx hb d_M_sense_41 rfl hg0 (fun hc => ?_) (fun hc => ?_)
    · replace h := if_f hc h
      obtain ⟨e1, e2, e3⟩ := so3 h
      rw [hQ, e1, e2, e3]; rw [hAe] at hD hS; exact W.vret hx hb hr (fun t ht hW => ⟨⟨(), rfl, trivial, by rw [ht]; exact hP, va_K.moved hW.alike hK, hD⟩, hS.F ht⟩) hS.2.2 d_M_sense_60
    · replace h := if_t hc h
      refine lv_aload_n hx hb d_M_sense_44 rfl (lv_at hl 0 rfl) ?_
      refine va_get (D := D) (ci := 10) (v := .ref (a 6)) (C := R_M) (T := F_M) (N := 53) hx hb hT in_M hown hK hP 0 rfl rfl 9 (by decide) (hT _ m1030) (fun _ h9 => h9) rfl d_M_sense_45 ?_
      refine zv_iconst hx hb d_M_sense_48 ?_
      refine lv_iload_n hx hb d_M_sense_49 rfl (lv_at hl 1 rfl) ?_
      refine zv_imul hx hb d_M_sense_50 ?_
      refine lv_iload_n hx hb d_M_sense_51 rfl (lv_at hl 2 rfl) ?_
      refine zv_iadd hx hb d_M_sense_52 ?_
      refine lv_iload_n hx hb d_M_sense_53 rfl (lv_at hl 3 rfl) ?_
      obtain ⟨hin, h⟩ := gi_e h
      refine zv_iast hx hb hK hP hD hS 3 0 rfl rfl (Nat.le_of_ble_eq_true rfl) hin d_M_sense_54 (fun H locs hP hD hS => ?_)
      obtain ⟨M_senses_1, hv⟩ : ∃ z, z = (ui M_senses ((3 * x1) + x2) x3) := ⟨_, rfl⟩
      replace h := bd_e hv h
      have hP : va_P D vwCl [(o_M a q1 M_period M_width M_nodes M_analysed M_gates M_startNode M_startChange M_startWay M_startBase M_startEarly M_startLate M_worstWith M_worstWithout M_all M_rowSize), ((a 1), .inl (cI, 48, .inl (ia M_kinds))), ((a 2), .inl (cI, 48, .inl (ia M_pins))), ((a 6), .inl (cI, 144, .inl (ia M_senses_1)))] H := by rw [hv]; exact hP
      have hD : va_D A [(o_M a q1 M_period M_width M_nodes M_analysed M_gates M_startNode M_startChange M_startWay M_startBase M_startEarly M_startLate M_worstWith M_worstWithout M_all M_rowSize), ((a 1), .inl (cI, 48, .inl (ia M_kinds))), ((a 2), .inl (cI, 48, .inl (ia M_pins))), ((a 6), .inl (cI, 144, .inl (ia M_senses_1)))] := by rw [hv]; exact hD
      refine lv_aload_n hx hb d_M_sense_55 rfl (lv_at hl 0 rfl) ?_
      refine zv_iconst hx hb d_M_sense_56 ?_
      refine va_put (D := D) (ci := 10) (v := .int (iI 0)) (ty := .boolean) (C := R_M) (T := F_M) (N := 53) hx hb hT in_M ty_M ty_M_ok n_M hown hK hP hD hS 0 rfl rfl 14 (by decide) (hT _ m1035) (fun _ h9 => h9) rfl (by decide +kernel) rfl rfl (Nat.le_of_ble_eq_true rfl) d_M_sense_57 (fun H locs hP hD hS => ?_)
      have hP : va_P D vwCl [(o_M a q1 M_period M_width M_nodes 0 M_gates M_startNode M_startChange M_startWay M_startBase M_startEarly M_startLate M_worstWith M_worstWithout M_all M_rowSize), ((a 1), .inl (cI, 48, .inl (ia M_kinds))), ((a 2), .inl (cI, 48, .inl (ia M_pins))), ((a 6), .inl (cI, 144, .inl (ia M_senses_1)))] H := hP
      have hD : va_D A [(o_M a q1 M_period M_width M_nodes 0 M_gates M_startNode M_startChange M_startWay M_startBase M_startEarly M_startLate M_worstWith M_worstWithout M_all M_rowSize), ((a 1), .inl (cI, 48, .inl (ia M_kinds))), ((a 2), .inl (cI, 48, .inl (ia M_pins))), ((a 6), .inl (cI, 144, .inl (ia M_senses_1)))] := hD
      obtain ⟨e1, e2, e3⟩ := so3 h
      rw [hQ, e1, e2, e3]; rw [hAe] at hD hS; exact W.vret hx hb hr (fun t ht hW => ⟨⟨(), rfl, trivial, by rw [ht]; exact hP, va_K.moved hW.alike hK, hD⟩, hS.F ht⟩) hS.2.2 d_M_sense_60
  have hj29 : ∀  (H : Heap) (locs : List Loc) (ls : Array Slot), va_P D vwCl [(o_M a M_thrown M_period M_width M_nodes M_analysed M_gates M_startNode M_startChange M_startWay M_startBase M_startEarly M_startLate M_worstWith M_worstWithout M_all M_rowSize), ((a 1), .inl (cI, 48, .inl (ia M_kinds))), ((a 2), .inl (cI, 48, .inl (ia M_pins))), ((a 6), .inl (cI, 144, .inl (ia M_senses)))] H → va_D A [(o_M a M_thrown M_period M_width M_nodes M_analysed M_gates M_startNode M_startChange M_startWay M_startBase M_startEarly M_startLate M_worstWith M_worstWithout M_all M_rowSize), ((a 1), .inl (cI, 48, .inl (ia M_kinds))), ((a 2), .inl (cI, 48, .inl (ia M_pins))), ((a 6), .inl (cI, 144, .inl (ia M_senses)))] → va_S A s.heap H locs → lv_has ls 4 [(0, .ref (a 0)), (1, .int (iI x1)), (2, .int (iI x2)), (3, .int (iI x3))] → f_M_sense_j29 F M_analysed M_senses x1 x2 x3 = some (z_M_thrown, z_M_senses, z_M_analysed) → W p l e (headSpec w_M_sense rm_M_sense).room s m args below meth c H locs 0 0 Q (F0 m 29 ls [.ref (a 0)]) := by
    intro  H locs ls hP hD hS hl h
    rw [f_M_sense_j29] at h
    refine zv_iconst hx hb d_M_sense_29 ?_
    refine lv_goto hx hb d_M_sense_30 rfl ?_
    exact hj34 1 H locs ls hP hD hS (lv_sub hl [0, 1, 2, 3] rfl) h
  obtain ⟨hg0, h⟩ := gr_e h
  refine zi_ne hx hb d_M_sense_7 rfl hg0 (fun hc => ?_) (fun hc => ?_)
  · replace h := if_f hc h
    exact hj29  H locs ls hP hD hS (lv_sub hl [0, 1, 2, 3] rfl) h
  · replace h := if_t hc h
    refine lv_aload_n hx hb d_M_sense_10 rfl (lv_at hl 0 rfl) ?_
    refine va_get (D := D) (ci := 10) (v := .ref (a 1)) (C := R_M) (T := F_M) (N := 53) hx hb hT in_M hown hK hP 0 rfl rfl 4 (by decide) (hT _ m1025) (fun _ h9 => h9) rfl d_M_sense_11 ?_
    refine lv_iload_n hx hb d_M_sense_14 rfl (lv_at hl 1 rfl) ?_
    obtain ⟨hin, h⟩ := gi_e h
    refine zv_iald hx hb hK hP 1 0 rfl rfl (Nat.le_of_ble_eq_true rfl) hin d_M_sense_15 ?_
    refine zv_iconst hx hb d_M_sense_16 ?_
    obtain ⟨hg0, h⟩ := gr_e h
    refine zc_ne hx hb d_M_sense_17 rfl hg0 (by decide) (fun hc => ?_) (fun hc => ?_)
    · replace h := if_f hc h
      exact hj29  H locs ls hP hD hS (lv_sub hl [0, 1, 2, 3] rfl) h
    · replace h := if_t hc h
      refine lv_iload_n hx hb d_M_sense_20 rfl (lv_at hl 3 rfl) ?_
      obtain ⟨hg0, h⟩ := gr_e h
      refine zi_lt hx hb d_M_sense_21 rfl hg0 (fun hc => ?_) (fun hc => ?_)
      · replace h := if_t hc h
        exact hj29  H locs ls hP hD hS (lv_sub hl [0, 1, 2, 3] rfl) h
      · replace h := if_f hc h
        refine lv_iload_n hx hb d_M_sense_24 rfl (lv_at hl 3 rfl) ?_
        refine zv_iconst hx hb d_M_sense_25 ?_
        obtain ⟨hg0, h⟩ := gr_e h
        refine zc_le hx hb d_M_sense_26 rfl hg0 (by decide) (fun hc => ?_) (fun hc => ?_)
        · replace h := if_t hc h
          refine zv_iconst hx hb d_M_sense_33 ?_
          exact hj34 0 H locs ls hP hD hS (lv_sub hl [0, 1, 2, 3] rfl) h
        · replace h := if_f hc h
          exact hj29  H locs ls hP hD hS (lv_sub hl [0, 1, 2, 3] rfl) h
abbrev rm_M_delay : Room := { frames := 1, cells := 0, slots := 0, locals := 23 }
set_option maxHeartbeats 4000000 in
set_option maxRecDepth 100000 in
theorem c_M_delay (l : Launch) (D : va_G) (cI cJ cZ : ClassId) (F : Nat) (a : Nat → Nat) (M_thrown : Int) (M_period : Int) (M_width : Int) (M_nodes : Int) (M_analysed : Int) (M_gates : Int) (M_startNode : Int) (M_startChange : Int) (M_startWay : Int) (M_startBase : Int) (M_startEarly : Int) (M_startLate : Int) (M_worstWith : Int) (M_worstWithout : Int) (M_all : Int64) (M_rowSize : Int) (M_kinds : Int → Int) (M_pins : Int → Int) (M_delayEarly : Int → Int) (M_delayLate : Int → Int) (x1 : Int) (x2 : Int) (x3 : Int) (x4 : Int) (x5 : Int) (z_M_thrown : Int) (z_M_delayEarly : Int → Int) (z_M_delayLate : Int → Int) (z_M_analysed : Int) (sz : Nat) (h : f_M_delay F M_nodes M_analysed M_kinds M_pins M_delayEarly M_delayLate x1 x2 x3 x4 x5 = some (z_M_thrown, z_M_delayEarly, z_M_delayLate, z_M_analysed)) : Met l y_M_delay w_M_delay rm_M_delay (PC D [(cI, .int), (cJ, .long), (cZ, .boolean)] [.ref (a 0), .int (iI x1), .int (iI x2), .int (iI x3), .int (iI x4), .int (iI x5)] ([(o_M a M_thrown M_period M_width M_nodes M_analysed M_gates M_startNode M_startChange M_startWay M_startBase M_startEarly M_startLate M_worstWith M_worstWithout M_all M_rowSize), ((a 1), .inl (cI, 48, .inl (ia M_kinds))), ((a 2), .inl (cI, 48, .inl (ia M_pins))), ((a 7), .inl (cI, 288, .inl (ia M_delayEarly))), ((a 8), .inl (cI, 288, .inl (ia M_delayLate)))]) sz) (QV D [(cI, .int), (cJ, .long), (cZ, .boolean)] ([(o_M a M_thrown M_period M_width M_nodes M_analysed M_gates M_startNode M_startChange M_startWay M_startBase M_startEarly M_startLate M_worstWith M_worstWithout M_all M_rowSize), ((a 1), .inl (cI, 48, .inl (ia M_kinds))), ((a 2), .inl (cI, 48, .inl (ia M_pins))), ((a 7), .inl (cI, 288, .inl (ia M_delayEarly))), ((a 8), .inl (cI, 288, .inl (ia M_delayLate)))]) sz ([(o_M a z_M_thrown M_period M_width M_nodes z_M_analysed M_gates M_startNode M_startChange M_startWay M_startBase M_startEarly M_startLate M_worstWith M_worstWithout M_all M_rowSize), ((a 1), .inl (cI, 48, .inl (ia M_kinds))), ((a 2), .inl (cI, 48, .inl (ia M_pins))), ((a 7), .inl (cI, 288, .inl (ia z_M_delayEarly))), ((a 8), .inl (cI, 288, .inl (ia z_M_delayLate)))])) 0 0 (va_A ([(o_M a M_thrown M_period M_width M_nodes M_analysed M_gates M_startNode M_startChange M_startWay M_startBase M_startEarly M_startLate M_worstWith M_worstWithout M_all M_rowSize), ((a 1), .inl (cI, 48, .inl (ia M_kinds))), ((a 2), .inl (cI, 48, .inl (ia M_pins))), ((a 7), .inl (cI, 288, .inl (ia M_delayEarly))), ((a 8), .inl (cI, 288, .inl (ia M_delayLate)))]) sz) := by
  refine Met.ofW (cc := prog_12_method_14_code) (maxL := 6) (ret := (Option.none : Option Jvm.ClassFile.FieldType)) (by decide) rfl ?_
  intro p e s m args below meth c s₁ B hml hv
  obtain ⟨rfl, hsz, hP, hK, hD0, hN⟩ := hv
  have hx := B.exec
  have hb := B.bytes
  have hr := B.returns
  have hts := atoms_spec (ws := w_M_delay) B.pre
  have hown : s.vm.findClass R_M = some m.cls := findClass_of_methodNamed B.named
  have hlocks := B.notSynchronized
  subst hsz
  have hD := hD0.self (sz := s.heap.size)
  obtain ⟨A, hAe⟩ : ∃ A, A = va_A ([(o_M a M_thrown M_period M_width M_nodes M_analysed M_gates M_startNode M_startChange M_startWay M_startBase M_startEarly M_startLate M_worstWith M_worstWithout M_all M_rowSize), ((a 1), .inl (cI, 48, .inl (ia M_kinds))), ((a 2), .inl (cI, 48, .inl (ia M_pins))), ((a 7), .inl (cI, 288, .inl (ia M_delayEarly))), ((a 8), .inl (cI, 288, .inl (ia M_delayLate)))]) s.heap.size := ⟨_, rfl⟩
  rw [← hAe] at hD
  have hA : ∀ q : Nat, s.heap.size ≤ q → A q := fun q h => by rw [hAe]; exact Or.inr h
  have hS : va_S A s.heap s.heap [] := va_S.rf
  have hl := lv_entry ([.ref (a 0), .int (iI x1), .int (iI x2), .int (iI x3), .int (iI x4), .int (iI x5)]) (n := 6) (Nat.le_of_ble_eq_true rfl)
  rw [lg_entry_eq]
  generalize (lg_sl ([.ref (a 0), .int (iI x1), .int (iI x2), .int (iI x3), .int (iI x4), .int (iI x5)]) ++ List.replicate (6 - (lg_sl ([.ref (a 0), .int (iI x1), .int (iI x2), .int (iI x3), .int (iI x4), .int (iI x5)])).length) Slot.unset).toArray = ls at hl ⊢
  have hl : lv_has ls 6 [(0, .ref (a 0)), (1, .int (iI x1)), (2, .int (iI x2)), (3, .int (iI x3)), (4, .int (iI x4)), (5, .int (iI x5))] := hl
  generalize (List.toArray ([.ref (a 0), .int (iI x1), .int (iI x2), .int (iI x3), .int (iI x4), .int (iI x5)] : List Value)) = args at hts ⊢
  have hT : ∀ w ∈ Tg, w.before args s = true := fun w h => hts w (List.mem_cons_of_mem _ h)
  obtain ⟨Q, hQ⟩ : ∃ Q, Q = MQ below (QV D [(cI, .int), (cJ, .long), (cZ, .boolean)] ([(o_M a M_thrown M_period M_width M_nodes M_analysed M_gates M_startNode M_startChange M_startWay M_startBase M_startEarly M_startLate M_worstWith M_worstWithout M_all M_rowSize), ((a 1), .inl (cI, 48, .inl (ia M_kinds))), ((a 2), .inl (cI, 48, .inl (ia M_pins))), ((a 7), .inl (cI, 288, .inl (ia M_delayEarly))), ((a 8), .inl (cI, 288, .inl (ia M_delayLate)))]) s.heap.size ([(o_M a z_M_thrown M_period M_width M_nodes z_M_analysed M_gates M_startNode M_startChange M_startWay M_startBase M_startEarly M_startLate M_worstWith M_worstWithout M_all M_rowSize), ((a 1), .inl (cI, 48, .inl (ia M_kinds))), ((a 2), .inl (cI, 48, .inl (ia M_pins))), ((a 7), .inl (cI, 288, .inl (ia z_M_delayEarly))), ((a 8), .inl (cI, 288, .inl (ia z_M_delayLate)))])) args s 0 0 (va_A ([(o_M a M_thrown M_period M_width M_nodes M_analysed M_gates M_startNode M_startChange M_startWay M_startBase M_startEarly M_startLate M_worstWith M_worstWithout M_all M_rowSize), ((a 1), .inl (cI, 48, .inl (ia M_kinds))), ((a 2), .inl (cI, 48, .inl (ia M_pins))), ((a 7), .inl (cI, 288, .inl (ia M_delayEarly))), ((a 8), .inl (cI, 288, .inl (ia M_delayLate)))]) s.heap.size) := ⟨_, rfl⟩
  rw [← hQ]
  suffices hW : ∀ (H : Heap) (locs : List Loc), va_P D vwCl ([(o_M a M_thrown M_period M_width M_nodes M_analysed M_gates M_startNode M_startChange M_startWay M_startBase M_startEarly M_startLate M_worstWith M_worstWithout M_all M_rowSize), ((a 1), .inl (cI, 48, .inl (ia M_kinds))), ((a 2), .inl (cI, 48, .inl (ia M_pins))), ((a 7), .inl (cI, 288, .inl (ia M_delayEarly))), ((a 8), .inl (cI, 288, .inl (ia M_delayLate)))]) H → va_D A ([(o_M a M_thrown M_period M_width M_nodes M_analysed M_gates M_startNode M_startChange M_startWay M_startBase M_startEarly M_startLate M_worstWith M_worstWithout M_all M_rowSize), ((a 1), .inl (cI, 48, .inl (ia M_kinds))), ((a 2), .inl (cI, 48, .inl (ia M_pins))), ((a 7), .inl (cI, 288, .inl (ia M_delayEarly))), ((a 8), .inl (cI, 288, .inl (ia M_delayLate)))]) → va_S A s.heap H locs → W p l e (headSpec w_M_delay rm_M_delay).room s m args below meth c H locs 0 0 Q (F0 m 0 ls []) from hW s.heap [] hP hD hS
  clear hP hD hS
  intro H locs hP hD hS
  rw [f_M_delay] at h
  refine lv_aload_n hx hb d_M_delay_0 rfl (lv_at hl 0 rfl) ?_
  refine lv_aload_n hx hb d_M_delay_1 rfl (lv_at hl 0 rfl) ?_
  refine lv_iload_n hx hb d_M_delay_2 rfl (lv_at hl 1 rfl) ?_
  refine lv_iload_n hx hb d_M_delay_3 rfl (lv_at hl 2 rfl) ?_
  obtain ⟨r4, hcall, h⟩ := ob1_e h
  refine ro_i (va_Run.run (va_runV (As := [.int (iI x1), .int (iI x2)]) (rest := [.ref (a 0)]) ⟨hx, hb, hml, hown, hts⟩ (c_M_noPin l D cI cJ cZ F a M_thrown M_period M_width M_nodes M_analysed M_gates M_startNode M_startChange M_startWay M_startBase M_startEarly M_startLate M_worstWith M_worstWithout M_all M_rowSize M_pins x1 x2 r4 H.size hcall) (cwV 2 hts (gd_V m1221 m1218 m1220 sl_M_noPin m12) rfl rfl rfl ⟨rfl, hc_M_noPin⟩ ⟨Nat.le_of_ble_eq_true rfl, Nat.le_of_ble_eq_true rfl⟩) (pc_V 0 10 [.int (iI x1), .int (iI x2)] hP hK hD hN [0, 2] rfl rfl rfl rfl rfl) rfl rfl hl.1 rfl (lv_room (Nat.le_of_ble_eq_true rfl)) d_M_delay_4 ⟨Nat.le_refl 0, Nat.le_refl 0⟩)) (W.eq (g2 := F0 m 7 ls [.int (iI r4), .ref (a 0)]) rfl ?_)
  have hj63 : ∀ (q1 : Int) (H : Heap) (locs : List Loc) (ls : Array Slot), va_P D vwCl [(o_M a M_thrown M_period M_width M_nodes M_analysed M_gates M_startNode M_startChange M_startWay M_startBase M_startEarly M_startLate M_worstWith M_worstWithout M_all M_rowSize), ((a 1), .inl (cI, 48, .inl (ia M_kinds))), ((a 2), .inl (cI, 48, .inl (ia M_pins))), ((a 7), .inl (cI, 288, .inl (ia M_delayEarly))), ((a 8), .inl (cI, 288, .inl (ia M_delayLate)))] H → va_D A [(o_M a M_thrown M_period M_width M_nodes M_analysed M_gates M_startNode M_startChange M_startWay M_startBase M_startEarly M_startLate M_worstWith M_worstWithout M_all M_rowSize), ((a 1), .inl (cI, 48, .inl (ia M_kinds))), ((a 2), .inl (cI, 48, .inl (ia M_pins))), ((a 7), .inl (cI, 288, .inl (ia M_delayEarly))), ((a 8), .inl (cI, 288, .inl (ia M_delayLate)))] → va_S A s.heap H locs → lv_has ls 6 [(0, .ref (a 0)), (1, .int (iI x1)), (2, .int (iI x2)), (3, .int (iI x3)), (4, .int (iI x4)), (5, .int (iI x5))] → f_M_delay_j63 F M_analysed M_delayEarly M_delayLate x1 x2 x3 x4 x5 q1 = some (z_M_thrown, z_M_delayEarly, z_M_delayLate, z_M_analysed) → W p l e (headSpec w_M_delay rm_M_delay).room s m args below meth c H locs 0 0 Q (F0 m 63 ls [.int (iI q1), .ref (a 0)]) := by
    intro q1 H locs ls hP hD hS hl h
    rw [f_M_delay_j63] at h
    refine va_put (D := D) (ci := 10) (v := .int (iI q1)) (ty := .int) (C := R_M) (T := F_M) (N := 53) hx hb hT in_M ty_M ty_M_ok n_M hown hK hP hD hS 0 rfl rfl 0 (by decide) (hT _ m1021) (fun _ h9 => h9) rfl (by decide +kernel) rfl rfl (Nat.le_of_ble_eq_true rfl) d_M_delay_63 (fun H locs hP hD hS => ?_)
    have hP : va_P D vwCl [(o_M a q1 M_period M_width M_nodes M_analysed M_gates M_startNode M_startChange M_startWay M_startBase M_startEarly M_startLate M_worstWith M_worstWithout M_all M_rowSize), ((a 1), .inl (cI, 48, .inl (ia M_kinds))), ((a 2), .inl (cI, 48, .inl (ia M_pins))), ((a 7), .inl (cI, 288, .inl (ia M_delayEarly))), ((a 8), .inl (cI, 288, .inl (ia M_delayLate)))] H := hP
    have hD : va_D A [(o_M a q1 M_period M_width M_nodes M_analysed M_gates M_startNode M_startChange M_startWay M_startBase M_startEarly M_startLate M_worstWith M_worstWithout M_all M_rowSize), ((a 1), .inl (cI, 48, .inl (ia M_kinds))), ((a 2), .inl (cI, 48, .inl (ia M_pins))), ((a 7), .inl (cI, 288, .inl (ia M_delayEarly))), ((a 8), .inl (cI, 288, .inl (ia M_delayLate)))] := hD
    refine lv_aload_n hx hb d_M_delay_66 rfl (lv_at hl 0 rfl) ?_
    refine va_get (D := D) (ci := 10) (v := .int (iI q1)) (C := R_M) (T := F_M) (N := 53) hx hb hT in_M hown hK hP 0 rfl rfl 0 (by decide) (hT _ m1021) (fun _ h9 => h9) rfl d_M_delay_67 ?_
    obtain ⟨hg0, h⟩ := gr_e h
    refine zi_ne hx hb d_M_delay_70 rfl hg0 (fun hc => ?_) (fun hc => ?_)
    · replace h := if_f hc h
      obtain ⟨e1, e2, e3, e4⟩ := so4 h
      rw [hQ, e1, e2, e3, e4]; rw [hAe] at hD hS; exact W.vret hx hb hr (fun t ht hW => ⟨⟨(), rfl, trivial, by rw [ht]; exact hP, va_K.moved hW.alike hK, hD⟩, hS.F ht⟩) hS.2.2 d_M_delay_112
    · replace h := if_t hc h
      refine lv_aload_n hx hb d_M_delay_73 rfl (lv_at hl 0 rfl) ?_
      refine va_get (D := D) (ci := 10) (v := .ref (a 7)) (C := R_M) (T := F_M) (N := 53) hx hb hT in_M hown hK hP 0 rfl rfl 10 (by decide) (hT _ m1031) (fun _ h9 => h9) rfl d_M_delay_74 ?_
      refine lv_bipush (v := iI 6) hx hb d_M_delay_77 (by decide) ?_
      refine lv_iload_n hx hb d_M_delay_79 rfl (lv_at hl 1 rfl) ?_
      refine zv_imul hx hb d_M_delay_80 ?_
      refine zv_iconst hx hb d_M_delay_81 ?_
      refine lv_iload_n hx hb d_M_delay_82 rfl (lv_at hl 2 rfl) ?_
      refine zv_imul hx hb d_M_delay_83 ?_
      refine zv_iadd hx hb d_M_delay_84 ?_
      refine lv_iload_n hx hb d_M_delay_85 rfl (lv_at hl 3 rfl) ?_
      refine zv_iadd hx hb d_M_delay_86 ?_
      refine lv_iload hx hb d_M_delay_87 (lv_at hl 4 rfl) ?_
      obtain ⟨hin, h⟩ := gi_e h
      refine zv_iast hx hb hK hP hD hS 3 0 rfl rfl (Nat.le_of_ble_eq_true rfl) hin d_M_delay_89 (fun H locs hP hD hS => ?_)
      obtain ⟨M_delayEarly_1, hv⟩ : ∃ z, z = (ui M_delayEarly (((6 * x1) + (2 * x2)) + x3) x4) := ⟨_, rfl⟩
      replace h := bd_e hv h
      have hP : va_P D vwCl [(o_M a q1 M_period M_width M_nodes M_analysed M_gates M_startNode M_startChange M_startWay M_startBase M_startEarly M_startLate M_worstWith M_worstWithout M_all M_rowSize), ((a 1), .inl (cI, 48, .inl (ia M_kinds))), ((a 2), .inl (cI, 48, .inl (ia M_pins))), ((a 7), .inl (cI, 288, .inl (ia M_delayEarly_1))), ((a 8), .inl (cI, 288, .inl (ia M_delayLate)))] H := by rw [hv]; exact hP
      have hD : va_D A [(o_M a q1 M_period M_width M_nodes M_analysed M_gates M_startNode M_startChange M_startWay M_startBase M_startEarly M_startLate M_worstWith M_worstWithout M_all M_rowSize), ((a 1), .inl (cI, 48, .inl (ia M_kinds))), ((a 2), .inl (cI, 48, .inl (ia M_pins))), ((a 7), .inl (cI, 288, .inl (ia M_delayEarly_1))), ((a 8), .inl (cI, 288, .inl (ia M_delayLate)))] := by rw [hv]; exact hD
      refine lv_aload_n hx hb d_M_delay_90 rfl (lv_at hl 0 rfl) ?_
      refine va_get (D := D) (ci := 10) (v := .ref (a 8)) (C := R_M) (T := F_M) (N := 53) hx hb hT in_M hown hK hP 0 rfl rfl 11 (by decide) (hT _ m1032) (fun _ h9 => h9) rfl d_M_delay_91 ?_
      refine lv_bipush (v := iI 6) hx hb d_M_delay_94 (by decide) ?_
      refine lv_iload_n hx hb d_M_delay_96 rfl (lv_at hl 1 rfl) ?_
      refine zv_imul hx hb d_M_delay_97 ?_
      refine zv_iconst hx hb d_M_delay_98 ?_
      refine lv_iload_n hx hb d_M_delay_99 rfl (lv_at hl 2 rfl) ?_
      refine zv_imul hx hb d_M_delay_100 ?_
      refine zv_iadd hx hb d_M_delay_101 ?_
      refine lv_iload_n hx hb d_M_delay_102 rfl (lv_at hl 3 rfl) ?_
      refine zv_iadd hx hb d_M_delay_103 ?_
      refine lv_iload hx hb d_M_delay_104 (lv_at hl 5 rfl) ?_
      obtain ⟨hin, h⟩ := gi_e h
      refine zv_iast hx hb hK hP hD hS 4 0 rfl rfl (Nat.le_of_ble_eq_true rfl) hin d_M_delay_106 (fun H locs hP hD hS => ?_)
      obtain ⟨M_delayLate_2, hv⟩ : ∃ z, z = (ui M_delayLate (((6 * x1) + (2 * x2)) + x3) x5) := ⟨_, rfl⟩
      replace h := bd_e hv h
      have hP : va_P D vwCl [(o_M a q1 M_period M_width M_nodes M_analysed M_gates M_startNode M_startChange M_startWay M_startBase M_startEarly M_startLate M_worstWith M_worstWithout M_all M_rowSize), ((a 1), .inl (cI, 48, .inl (ia M_kinds))), ((a 2), .inl (cI, 48, .inl (ia M_pins))), ((a 7), .inl (cI, 288, .inl (ia M_delayEarly_1))), ((a 8), .inl (cI, 288, .inl (ia M_delayLate_2)))] H := by rw [hv]; exact hP
      have hD : va_D A [(o_M a q1 M_period M_width M_nodes M_analysed M_gates M_startNode M_startChange M_startWay M_startBase M_startEarly M_startLate M_worstWith M_worstWithout M_all M_rowSize), ((a 1), .inl (cI, 48, .inl (ia M_kinds))), ((a 2), .inl (cI, 48, .inl (ia M_pins))), ((a 7), .inl (cI, 288, .inl (ia M_delayEarly_1))), ((a 8), .inl (cI, 288, .inl (ia M_delayLate_2)))] := by rw [hv]; exact hD
      refine lv_aload_n hx hb d_M_delay_107 rfl (lv_at hl 0 rfl) ?_
      refine zv_iconst hx hb d_M_delay_108 ?_
      refine va_put (D := D) (ci := 10) (v := .int (iI 0)) (ty := .boolean) (C := R_M) (T := F_M) (N := 53) hx hb hT in_M ty_M ty_M_ok n_M hown hK hP hD hS 0 rfl rfl 14 (by decide) (hT _ m1035) (fun _ h9 => h9) rfl (by decide +kernel) rfl rfl (Nat.le_of_ble_eq_true rfl) d_M_delay_109 (fun H locs hP hD hS => ?_)
      have hP : va_P D vwCl [(o_M a q1 M_period M_width M_nodes 0 M_gates M_startNode M_startChange M_startWay M_startBase M_startEarly M_startLate M_worstWith M_worstWithout M_all M_rowSize), ((a 1), .inl (cI, 48, .inl (ia M_kinds))), ((a 2), .inl (cI, 48, .inl (ia M_pins))), ((a 7), .inl (cI, 288, .inl (ia M_delayEarly_1))), ((a 8), .inl (cI, 288, .inl (ia M_delayLate_2)))] H := hP
      have hD : va_D A [(o_M a q1 M_period M_width M_nodes 0 M_gates M_startNode M_startChange M_startWay M_startBase M_startEarly M_startLate M_worstWith M_worstWithout M_all M_rowSize), ((a 1), .inl (cI, 48, .inl (ia M_kinds))), ((a 2), .inl (cI, 48, .inl (ia M_pins))), ((a 7), .inl (cI, 288, .inl (ia M_delayEarly_1))), ((a 8), .inl (cI, 288, .inl (ia M_delayLate_2)))] := hD
      obtain ⟨e1, e2, e3, e4⟩ := so4 h
      rw [hQ, e1, e2, e3, e4]; rw [hAe] at hD hS; exact W.vret hx hb hr (fun t ht hW => ⟨⟨(), rfl, trivial, by rw [ht]; exact hP, va_K.moved hW.alike hK, hD⟩, hS.F ht⟩) hS.2.2 d_M_delay_112
  have hj58 : ∀  (H : Heap) (locs : List Loc) (ls : Array Slot), va_P D vwCl [(o_M a M_thrown M_period M_width M_nodes M_analysed M_gates M_startNode M_startChange M_startWay M_startBase M_startEarly M_startLate M_worstWith M_worstWithout M_all M_rowSize), ((a 1), .inl (cI, 48, .inl (ia M_kinds))), ((a 2), .inl (cI, 48, .inl (ia M_pins))), ((a 7), .inl (cI, 288, .inl (ia M_delayEarly))), ((a 8), .inl (cI, 288, .inl (ia M_delayLate)))] H → va_D A [(o_M a M_thrown M_period M_width M_nodes M_analysed M_gates M_startNode M_startChange M_startWay M_startBase M_startEarly M_startLate M_worstWith M_worstWithout M_all M_rowSize), ((a 1), .inl (cI, 48, .inl (ia M_kinds))), ((a 2), .inl (cI, 48, .inl (ia M_pins))), ((a 7), .inl (cI, 288, .inl (ia M_delayEarly))), ((a 8), .inl (cI, 288, .inl (ia M_delayLate)))] → va_S A s.heap H locs → lv_has ls 6 [(0, .ref (a 0)), (1, .int (iI x1)), (2, .int (iI x2)), (3, .int (iI x3)), (4, .int (iI x4)), (5, .int (iI x5))] → f_M_delay_j58 F M_analysed M_delayEarly M_delayLate x1 x2 x3 x4 x5 = some (z_M_thrown, z_M_delayEarly, z_M_delayLate, z_M_analysed) → W p l e (headSpec w_M_delay rm_M_delay).room s m args below meth c H locs 0 0 Q (F0 m 58 ls [.ref (a 0)]) := by
    intro  H locs ls hP hD hS hl h
    rw [f_M_delay_j58] at h
    refine zv_iconst hx hb d_M_delay_58 ?_
    refine lv_goto hx hb d_M_delay_59 rfl ?_
    exact hj63 1 H locs ls hP hD hS (lv_sub hl [0, 1, 2, 3, 4, 5] rfl) h
  obtain ⟨hg0, h⟩ := gr_e h
  refine zi_ne hx hb d_M_delay_7 rfl hg0 (fun hc => ?_) (fun hc => ?_)
  · replace h := if_f hc h
    exact hj58  H locs ls hP hD hS (lv_sub hl [0, 1, 2, 3, 4, 5] rfl) h
  · replace h := if_t hc h
    refine lv_aload_n hx hb d_M_delay_10 rfl (lv_at hl 0 rfl) ?_
    refine va_get (D := D) (ci := 10) (v := .ref (a 1)) (C := R_M) (T := F_M) (N := 53) hx hb hT in_M hown hK hP 0 rfl rfl 4 (by decide) (hT _ m1025) (fun _ h9 => h9) rfl d_M_delay_11 ?_
    refine lv_iload_n hx hb d_M_delay_14 rfl (lv_at hl 1 rfl) ?_
    obtain ⟨hin, h⟩ := gi_e h
    refine zv_iald hx hb hK hP 1 0 rfl rfl (Nat.le_of_ble_eq_true rfl) hin d_M_delay_15 ?_
    refine zv_iconst hx hb d_M_delay_16 ?_
    have hj35 : ∀  (H : Heap) (locs : List Loc) (ls : Array Slot), va_P D vwCl [(o_M a M_thrown M_period M_width M_nodes M_analysed M_gates M_startNode M_startChange M_startWay M_startBase M_startEarly M_startLate M_worstWith M_worstWithout M_all M_rowSize), ((a 1), .inl (cI, 48, .inl (ia M_kinds))), ((a 2), .inl (cI, 48, .inl (ia M_pins))), ((a 7), .inl (cI, 288, .inl (ia M_delayEarly))), ((a 8), .inl (cI, 288, .inl (ia M_delayLate)))] H → va_D A [(o_M a M_thrown M_period M_width M_nodes M_analysed M_gates M_startNode M_startChange M_startWay M_startBase M_startEarly M_startLate M_worstWith M_worstWithout M_all M_rowSize), ((a 1), .inl (cI, 48, .inl (ia M_kinds))), ((a 2), .inl (cI, 48, .inl (ia M_pins))), ((a 7), .inl (cI, 288, .inl (ia M_delayEarly))), ((a 8), .inl (cI, 288, .inl (ia M_delayLate)))] → va_S A s.heap H locs → lv_has ls 6 [(0, .ref (a 0)), (1, .int (iI x1)), (2, .int (iI x2)), (3, .int (iI x3)), (4, .int (iI x4)), (5, .int (iI x5))] → f_M_delay_j35 F M_analysed M_delayEarly M_delayLate x1 x2 x3 x4 x5 = some (z_M_thrown, z_M_delayEarly, z_M_delayLate, z_M_analysed) → W p l e (headSpec w_M_delay rm_M_delay).room s m args below meth c H locs 0 0 Q (F0 m 35 ls [.ref (a 0)]) := by
      intro  H locs ls hP hD hS hl h
      rw [f_M_delay_j35] at h
      refine lv_iload_n hx hb d_M_delay_35 rfl (lv_at hl 3 rfl) ?_
      obtain ⟨hg0, h⟩ := gr_e h
      refine zi_lt hx hb d_M_delay_36 rfl hg0 (fun hc => ?_) (fun hc => ?_)
      · replace h := if_t hc h
        exact hj58  H locs ls hP hD hS (lv_sub hl [0, 1, 2, 3, 4, 5] rfl) h
      · replace h := if_f hc h
        refine lv_iload_n hx hb d_M_delay_39 rfl (lv_at hl 3 rfl) ?_
        refine zv_iconst hx hb d_M_delay_40 ?_
        obtain ⟨hg0, h⟩ := gr_e h
        refine zc_gt hx hb d_M_delay_41 rfl hg0 (by decide) (fun hc => ?_) (fun hc => ?_)
        · replace h := if_t hc h
          exact hj58  H locs ls hP hD hS (lv_sub hl [0, 1, 2, 3, 4, 5] rfl) h
        · replace h := if_f hc h
          refine lv_iload hx hb d_M_delay_44 (lv_at hl 4 rfl) ?_
          refine lv_iload hx hb d_M_delay_46 (lv_at hl 5 rfl) ?_
          refine lv_sipush (v := iI 10000) hx hb d_M_delay_48 (by decide) ?_
          refine zv_iconst hx hb d_M_delay_51 ?_
          obtain ⟨r52, hcall, h⟩ := ob1_e h
          refine ro_i (va_Run.run (va_runS (As := [.int (iI x4), .int (iI x5), .int (iI 10000), .int (iI 0)]) (rest := [.ref (a 0)]) ⟨hx, hb, hml, hown, hts⟩ (c_M_noTimes l D cI cJ cZ F a x4 x5 10000 0 r52 H.size hcall) (cwS 4 hts (gd_S m1197 m1195 m1196 m12) rfl rfl rfl ⟨rfl, hc_M_noTimes⟩ ⟨Nat.le_of_ble_eq_true rfl, Nat.le_of_ble_eq_true rfl⟩) (pc_S [.int (iI x4), .int (iI x5), .int (iI 10000), .int (iI 0)] hP hK hD hN [] rfl rfl rfl) rfl rfl hl.1 rfl (lv_room (Nat.le_of_ble_eq_true rfl)) d_M_delay_52 ⟨Nat.le_refl 0, Nat.le_refl 0⟩)) (W.eq (g2 := F0 m 55 ls [.int (iI r52), .ref (a 0)]) rfl ?_)
          obtain ⟨hg0, h⟩ := gr_e h
          refine zi_eq hx hb d_M_delay_55 rfl hg0 (fun hc => ?_) (fun hc => ?_)
          · replace h := if_t hc h
            refine zv_iconst hx hb d_M_delay_62 ?_
            exact hj63 0 H locs ls hP hD hS (lv_sub hl [0, 1, 2, 3, 4, 5] rfl) h
          · replace h := if_f hc h
            exact hj58  H locs ls hP hD hS (lv_sub hl [0, 1, 2, 3, 4, 5] rfl) h
    obtain ⟨hg0, h⟩ := gr_e h
    refine zc_eq hx hb d_M_delay_17 rfl hg0 (by decide) (fun hc => ?_) (fun hc => ?_)
    · replace h := if_t hc h
      exact hj35  H locs ls hP hD hS (lv_sub hl [0, 1, 2, 3, 4, 5] rfl) h
    · replace h := if_f hc h
      refine lv_aload_n hx hb d_M_delay_20 rfl (lv_at hl 0 rfl) ?_
      refine va_get (D := D) (ci := 10) (v := .ref (a 1)) (C := R_M) (T := F_M) (N := 53) hx hb hT in_M hown hK hP 0 rfl rfl 4 (by decide) (hT _ m1025) (fun _ h9 => h9) rfl d_M_delay_21 ?_
      refine lv_iload_n hx hb d_M_delay_24 rfl (lv_at hl 1 rfl) ?_
      obtain ⟨hin, h⟩ := gi_e h
      refine zv_iald hx hb hK hP 1 0 rfl rfl (Nat.le_of_ble_eq_true rfl) hin d_M_delay_25 ?_
      refine zv_iconst hx hb d_M_delay_26 ?_
      obtain ⟨hg0, h⟩ := gr_e h
      refine zc_ne hx hb d_M_delay_27 rfl hg0 (by decide) (fun hc => ?_) (fun hc => ?_)
      · replace h := if_f hc h
        exact hj58  H locs ls hP hD hS (lv_sub hl [0, 1, 2, 3, 4, 5] rfl) h
      · replace h := if_t hc h
        refine lv_iload_n hx hb d_M_delay_30 rfl (lv_at hl 2 rfl) ?_
        refine zv_iconst hx hb d_M_delay_31 ?_
        obtain ⟨hg0, h⟩ := gr_e h
        refine zc_ne hx hb d_M_delay_32 rfl hg0 (by decide) (fun hc => ?_) (fun hc => ?_)
        · replace h := if_f hc h
          exact hj58  H locs ls hP hD hS (lv_sub hl [0, 1, 2, 3, 4, 5] rfl) h
        · replace h := if_t hc h
          exact hj35  H locs ls hP hD hS (lv_sub hl [0, 1, 2, 3, 4, 5] rfl) h
abbrev rm_M_isEnd : Room := { frames := 0, cells := 0, slots := 0, locals := 0 }
set_option maxHeartbeats 4000000 in
set_option maxRecDepth 100000 in
theorem c_M_isEnd (l : Launch) (D : va_G) (cI cJ cZ : ClassId) (F : Nat) (a : Nat → Nat) (M_thrown : Int) (M_period : Int) (M_width : Int) (M_nodes : Int) (M_analysed : Int) (M_gates : Int) (M_startNode : Int) (M_startChange : Int) (M_startWay : Int) (M_startBase : Int) (M_startEarly : Int) (M_startLate : Int) (M_worstWith : Int) (M_worstWithout : Int) (M_all : Int64) (M_rowSize : Int) (M_kinds : Int → Int) (x1 : Int) (r : Int) (sz : Nat) (h : f_M_isEnd F M_nodes M_kinds x1 = some (r)) : Met l y_M_isEnd w_M_isEnd rm_M_isEnd (PC D [(cI, .int), (cJ, .long), (cZ, .boolean)] [.ref (a 0), .int (iI x1)] ([(o_M a M_thrown M_period M_width M_nodes M_analysed M_gates M_startNode M_startChange M_startWay M_startBase M_startEarly M_startLate M_worstWith M_worstWithout M_all M_rowSize), ((a 1), .inl (cI, 48, .inl (ia M_kinds)))]) sz) (QcRead (iI r)) 0 0 (fun _ => False) := by
  refine Met.ofW (cc := prog_12_method_15_code) (maxL := 2) (ret := (Option.some Jvm.ClassFile.FieldType.boolean)) (by decide) rfl ?_
  intro p e s m args below meth c s₁ B hml hv
  obtain ⟨rfl, hsz, hP, hK, hD0, hN⟩ := hv
  have hx := B.exec
  have hb := B.bytes
  have hr := B.returns
  have hts := atoms_spec (ws := w_M_isEnd) B.pre
  have hown : s.vm.findClass R_M = some m.cls := findClass_of_methodNamed B.named
  have hlocks := B.notSynchronized
  subst hsz
  have hl := lv_entry ([.ref (a 0), .int (iI x1)]) (n := 2) (Nat.le_of_ble_eq_true rfl)
  rw [lg_entry_eq]
  generalize (lg_sl ([.ref (a 0), .int (iI x1)]) ++ List.replicate (2 - (lg_sl ([.ref (a 0), .int (iI x1)])).length) Slot.unset).toArray = ls at hl ⊢
  have hl : lv_has ls 2 [(0, .ref (a 0)), (1, .int (iI x1))] := hl
  generalize (List.toArray ([.ref (a 0), .int (iI x1)] : List Value)) = args at hts ⊢
  have hT : ∀ w ∈ Tg, w.before args s = true := fun w h => hts w (List.mem_cons_of_mem _ h)
  obtain ⟨Q, hQ⟩ : ∃ Q, Q = MQ below (QcRead (iI r)) args s 0 0 (fun _ => False) := ⟨_, rfl⟩
  rw [← hQ]
  rw [f_M_isEnd] at h
  refine lv_iload_n hx hb d_M_isEnd_0 rfl (lv_at hl 1 rfl) ?_
  have hj36 : ∀  (ls : Array Slot), lv_has ls 2 [] → f_M_isEnd_j36 F = some (r) → W p l e (headSpec w_M_isEnd rm_M_isEnd).room s m args below meth c s.heap [] 0 0 Q (F0 m 36 ls []) := by
    intro  ls hl h
    rw [f_M_isEnd_j36] at h
    refine zv_iconst hx hb d_M_isEnd_36 ?_
    obtain ⟨hbo, h⟩ := gb_e h
    have e1 := so1 h
    rw [hQ, e1]; exact W.zret (ty := .boolean) hx hb hr (gb_n hbo) (fun t ht hW => ⟨rfl, ht⟩) (fun q h => nomatch h) d_M_isEnd_37
  obtain ⟨hg0, h⟩ := gr_e h
  refine zi_lt hx hb d_M_isEnd_1 rfl hg0 (fun hc => ?_) (fun hc => ?_)
  · replace h := if_t hc h
    exact hj36  ls (lv_sub hl [] rfl) h
  · replace h := if_f hc h
    refine lv_iload_n hx hb d_M_isEnd_4 rfl (lv_at hl 1 rfl) ?_
    refine lv_aload_n hx hb d_M_isEnd_5 rfl (lv_at hl 0 rfl) ?_
    refine va_get (D := D) (ci := 10) (v := .int (iI M_nodes)) (C := R_M) (T := F_M) (N := 53) hx hb hT in_M hown hK hP 0 rfl rfl 3 (by decide) (hT _ m1024) (fun _ h9 => h9) rfl d_M_isEnd_6 ?_
    obtain ⟨hg0, h⟩ := gr_e h
    obtain ⟨hg1, h⟩ := gr_e h
    refine zc_ge hx hb d_M_isEnd_9 rfl hg0 hg1 (fun hc => ?_) (fun hc => ?_)
    · replace h := if_t hc h
      exact hj36  ls (lv_sub hl [] rfl) h
    · replace h := if_f hc h
      refine lv_aload_n hx hb d_M_isEnd_12 rfl (lv_at hl 0 rfl) ?_
      refine va_get (D := D) (ci := 10) (v := .ref (a 1)) (C := R_M) (T := F_M) (N := 53) hx hb hT in_M hown hK hP 0 rfl rfl 4 (by decide) (hT _ m1025) (fun _ h9 => h9) rfl d_M_isEnd_13 ?_
      refine lv_iload_n hx hb d_M_isEnd_16 rfl (lv_at hl 1 rfl) ?_
      obtain ⟨hin, h⟩ := gi_e h
      refine zv_iald hx hb hK hP 1 0 rfl rfl (Nat.le_of_ble_eq_true rfl) hin d_M_isEnd_17 ?_
      refine zv_iconst hx hb d_M_isEnd_18 ?_
      have hj32 : ∀  (ls : Array Slot), lv_has ls 2 [] → f_M_isEnd_j32 F = some (r) → W p l e (headSpec w_M_isEnd rm_M_isEnd).room s m args below meth c s.heap [] 0 0 Q (F0 m 32 ls []) := by
        intro  ls hl h
        rw [f_M_isEnd_j32] at h
        refine zv_iconst hx hb d_M_isEnd_32 ?_
        refine lv_goto hx hb d_M_isEnd_33 rfl ?_
        obtain ⟨hbo, h⟩ := gb_e h
        have e1 := so1 h
        rw [hQ, e1]; exact W.zret (ty := .boolean) hx hb hr (gb_n hbo) (fun t ht hW => ⟨rfl, ht⟩) (fun q h => nomatch h) d_M_isEnd_37
      obtain ⟨hg0, h⟩ := gr_e h
      refine zc_eq hx hb d_M_isEnd_19 rfl hg0 (by decide) (fun hc => ?_) (fun hc => ?_)
      · replace h := if_t hc h
        exact hj32  ls (lv_sub hl [] rfl) h
      · replace h := if_f hc h
        refine lv_aload_n hx hb d_M_isEnd_22 rfl (lv_at hl 0 rfl) ?_
        refine va_get (D := D) (ci := 10) (v := .ref (a 1)) (C := R_M) (T := F_M) (N := 53) hx hb hT in_M hown hK hP 0 rfl rfl 4 (by decide) (hT _ m1025) (fun _ h9 => h9) rfl d_M_isEnd_23 ?_
        refine lv_iload_n hx hb d_M_isEnd_26 rfl (lv_at hl 1 rfl) ?_
        obtain ⟨hin, h⟩ := gi_e h
        refine zv_iald hx hb hK hP 1 0 rfl rfl (Nat.le_of_ble_eq_true rfl) hin d_M_isEnd_27 ?_
        refine zv_iconst hx hb d_M_isEnd_28 ?_
        obtain ⟨hg0, h⟩ := gr_e h
        refine zc_ne hx hb d_M_isEnd_29 rfl hg0 (by decide) (fun hc => ?_) (fun hc => ?_)
        · replace h := if_f hc h
          exact hj36  ls (lv_sub hl [] rfl) h
        · replace h := if_t hc h
          exact hj32  ls (lv_sub hl [] rfl) h
abbrev rm_M_check : Room := { frames := 1, cells := 0, slots := 0, locals := 21 }
set_option maxHeartbeats 4000000 in
set_option maxRecDepth 100000 in
theorem c_M_check (l : Launch) (D : va_G) (cI cJ cZ : ClassId) (F : Nat) (a : Nat → Nat) (M_thrown : Int) (M_period : Int) (M_width : Int) (M_nodes : Int) (M_analysed : Int) (M_gates : Int) (M_startNode : Int) (M_startChange : Int) (M_startWay : Int) (M_startBase : Int) (M_startEarly : Int) (M_startLate : Int) (M_worstWith : Int) (M_worstWithout : Int) (M_all : Int64) (M_rowSize : Int) (M_kinds : Int → Int) (M_firstOf : Int → Int) (M_secondOf : Int → Int) (x1 : Int) (x2 : Int) (x3 : Int) (x4 : Int) (z_M_thrown : Int) (z_M_firstOf : Int → Int) (z_M_secondOf : Int → Int) (z_M_analysed : Int) (sz : Nat) (h : f_M_check F M_nodes M_analysed M_kinds M_firstOf M_secondOf x1 x2 x3 x4 = some (z_M_thrown, z_M_firstOf, z_M_secondOf, z_M_analysed)) : Met l y_M_check w_M_check rm_M_check (PC D [(cI, .int), (cJ, .long), (cZ, .boolean)] [.ref (a 0), .int (iI x1), .int (iI x2), .int (iI x3), .int (iI x4)] ([(o_M a M_thrown M_period M_width M_nodes M_analysed M_gates M_startNode M_startChange M_startWay M_startBase M_startEarly M_startLate M_worstWith M_worstWithout M_all M_rowSize), ((a 1), .inl (cI, 48, .inl (ia M_kinds))), ((a 9), .inl (cI, 96, .inl (ia M_firstOf))), ((a 10), .inl (cI, 96, .inl (ia M_secondOf)))]) sz) (QV D [(cI, .int), (cJ, .long), (cZ, .boolean)] ([(o_M a M_thrown M_period M_width M_nodes M_analysed M_gates M_startNode M_startChange M_startWay M_startBase M_startEarly M_startLate M_worstWith M_worstWithout M_all M_rowSize), ((a 1), .inl (cI, 48, .inl (ia M_kinds))), ((a 9), .inl (cI, 96, .inl (ia M_firstOf))), ((a 10), .inl (cI, 96, .inl (ia M_secondOf)))]) sz ([(o_M a z_M_thrown M_period M_width M_nodes z_M_analysed M_gates M_startNode M_startChange M_startWay M_startBase M_startEarly M_startLate M_worstWith M_worstWithout M_all M_rowSize), ((a 1), .inl (cI, 48, .inl (ia M_kinds))), ((a 9), .inl (cI, 96, .inl (ia z_M_firstOf))), ((a 10), .inl (cI, 96, .inl (ia z_M_secondOf)))])) 0 0 (va_A ([(o_M a M_thrown M_period M_width M_nodes M_analysed M_gates M_startNode M_startChange M_startWay M_startBase M_startEarly M_startLate M_worstWith M_worstWithout M_all M_rowSize), ((a 1), .inl (cI, 48, .inl (ia M_kinds))), ((a 9), .inl (cI, 96, .inl (ia M_firstOf))), ((a 10), .inl (cI, 96, .inl (ia M_secondOf)))]) sz) := by
  refine Met.ofW (cc := prog_12_method_16_code) (maxL := 5) (ret := (Option.none : Option Jvm.ClassFile.FieldType)) (by decide) rfl ?_
  intro p e s m args below meth c s₁ B hml hv
  obtain ⟨rfl, hsz, hP, hK, hD0, hN⟩ := hv
  have hx := B.exec
  have hb := B.bytes
  have hr := B.returns
  have hts := atoms_spec (ws := w_M_check) B.pre
  have hown : s.vm.findClass R_M = some m.cls := findClass_of_methodNamed B.named
  have hlocks := B.notSynchronized
  subst hsz
  have hD := hD0.self (sz := s.heap.size)
  obtain ⟨A, hAe⟩ : ∃ A, A = va_A ([(o_M a M_thrown M_period M_width M_nodes M_analysed M_gates M_startNode M_startChange M_startWay M_startBase M_startEarly M_startLate M_worstWith M_worstWithout M_all M_rowSize), ((a 1), .inl (cI, 48, .inl (ia M_kinds))), ((a 9), .inl (cI, 96, .inl (ia M_firstOf))), ((a 10), .inl (cI, 96, .inl (ia M_secondOf)))]) s.heap.size := ⟨_, rfl⟩
  rw [← hAe] at hD
  have hA : ∀ q : Nat, s.heap.size ≤ q → A q := fun q h => by rw [hAe]; exact Or.inr h
  have hS : va_S A s.heap s.heap [] := va_S.rf
  have hl := lv_entry ([.ref (a 0), .int (iI x1), .int (iI x2), .int (iI x3), .int (iI x4)]) (n := 5) (Nat.le_of_ble_eq_true rfl)
  rw [lg_entry_eq]
  generalize (lg_sl ([.ref (a 0), .int (iI x1), .int (iI x2), .int (iI x3), .int (iI x4)]) ++ List.replicate (5 - (lg_sl ([.ref (a 0), .int (iI x1), .int (iI x2), .int (iI x3), .int (iI x4)])).length) Slot.unset).toArray = ls at hl ⊢
  have hl : lv_has ls 5 [(0, .ref (a 0)), (1, .int (iI x1)), (2, .int (iI x2)), (3, .int (iI x3)), (4, .int (iI x4))] := hl
  generalize (List.toArray ([.ref (a 0), .int (iI x1), .int (iI x2), .int (iI x3), .int (iI x4)] : List Value)) = args at hts ⊢
  have hT : ∀ w ∈ Tg, w.before args s = true := fun w h => hts w (List.mem_cons_of_mem _ h)
  obtain ⟨Q, hQ⟩ : ∃ Q, Q = MQ below (QV D [(cI, .int), (cJ, .long), (cZ, .boolean)] ([(o_M a M_thrown M_period M_width M_nodes M_analysed M_gates M_startNode M_startChange M_startWay M_startBase M_startEarly M_startLate M_worstWith M_worstWithout M_all M_rowSize), ((a 1), .inl (cI, 48, .inl (ia M_kinds))), ((a 9), .inl (cI, 96, .inl (ia M_firstOf))), ((a 10), .inl (cI, 96, .inl (ia M_secondOf)))]) s.heap.size ([(o_M a z_M_thrown M_period M_width M_nodes z_M_analysed M_gates M_startNode M_startChange M_startWay M_startBase M_startEarly M_startLate M_worstWith M_worstWithout M_all M_rowSize), ((a 1), .inl (cI, 48, .inl (ia M_kinds))), ((a 9), .inl (cI, 96, .inl (ia z_M_firstOf))), ((a 10), .inl (cI, 96, .inl (ia z_M_secondOf)))])) args s 0 0 (va_A ([(o_M a M_thrown M_period M_width M_nodes M_analysed M_gates M_startNode M_startChange M_startWay M_startBase M_startEarly M_startLate M_worstWith M_worstWithout M_all M_rowSize), ((a 1), .inl (cI, 48, .inl (ia M_kinds))), ((a 9), .inl (cI, 96, .inl (ia M_firstOf))), ((a 10), .inl (cI, 96, .inl (ia M_secondOf)))]) s.heap.size) := ⟨_, rfl⟩
  rw [← hQ]
  suffices hW : ∀ (H : Heap) (locs : List Loc), va_P D vwCl ([(o_M a M_thrown M_period M_width M_nodes M_analysed M_gates M_startNode M_startChange M_startWay M_startBase M_startEarly M_startLate M_worstWith M_worstWithout M_all M_rowSize), ((a 1), .inl (cI, 48, .inl (ia M_kinds))), ((a 9), .inl (cI, 96, .inl (ia M_firstOf))), ((a 10), .inl (cI, 96, .inl (ia M_secondOf)))]) H → va_D A ([(o_M a M_thrown M_period M_width M_nodes M_analysed M_gates M_startNode M_startChange M_startWay M_startBase M_startEarly M_startLate M_worstWith M_worstWithout M_all M_rowSize), ((a 1), .inl (cI, 48, .inl (ia M_kinds))), ((a 9), .inl (cI, 96, .inl (ia M_firstOf))), ((a 10), .inl (cI, 96, .inl (ia M_secondOf)))]) → va_S A s.heap H locs → W p l e (headSpec w_M_check rm_M_check).room s m args below meth c H locs 0 0 Q (F0 m 0 ls []) from hW s.heap [] hP hD hS
  clear hP hD hS
  intro H locs hP hD hS
  rw [f_M_check] at h
  refine lv_aload_n hx hb d_M_check_0 rfl (lv_at hl 0 rfl) ?_
  refine lv_aload_n hx hb d_M_check_1 rfl (lv_at hl 0 rfl) ?_
  refine lv_iload_n hx hb d_M_check_2 rfl (lv_at hl 1 rfl) ?_
  obtain ⟨r3, hcall, h⟩ := ob1_e h
  refine ro_i (va_Run.run (va_runV (As := [.int (iI x1)]) (rest := [.ref (a 0)]) ⟨hx, hb, hml, hown, hts⟩ (c_M_isEnd l D cI cJ cZ F a M_thrown M_period M_width M_nodes M_analysed M_gates M_startNode M_startChange M_startWay M_startBase M_startEarly M_startLate M_worstWith M_worstWithout M_all M_rowSize M_kinds x1 r3 H.size hcall) (cwV 1 hts (gd_V m1237 m1234 m1236 sl_M_isEnd m12) rfl rfl rfl ⟨rfl, hc_M_isEnd⟩ ⟨Nat.le_of_ble_eq_true rfl, Nat.le_of_ble_eq_true rfl⟩) (pc_V 0 10 [.int (iI x1)] hP hK hD hN [0, 1] rfl rfl rfl rfl rfl) rfl rfl hl.1 rfl (lv_room (Nat.le_of_ble_eq_true rfl)) d_M_check_3 ⟨Nat.le_refl 0, Nat.le_refl 0⟩)) (W.eq (g2 := F0 m 6 ls [.int (iI r3), .ref (a 0)]) rfl ?_)
  have hj53 : ∀ (q1 : Int) (H : Heap) (locs : List Loc) (ls : Array Slot), va_P D vwCl [(o_M a M_thrown M_period M_width M_nodes M_analysed M_gates M_startNode M_startChange M_startWay M_startBase M_startEarly M_startLate M_worstWith M_worstWithout M_all M_rowSize), ((a 1), .inl (cI, 48, .inl (ia M_kinds))), ((a 9), .inl (cI, 96, .inl (ia M_firstOf))), ((a 10), .inl (cI, 96, .inl (ia M_secondOf)))] H → va_D A [(o_M a M_thrown M_period M_width M_nodes M_analysed M_gates M_startNode M_startChange M_startWay M_startBase M_startEarly M_startLate M_worstWith M_worstWithout M_all M_rowSize), ((a 1), .inl (cI, 48, .inl (ia M_kinds))), ((a 9), .inl (cI, 96, .inl (ia M_firstOf))), ((a 10), .inl (cI, 96, .inl (ia M_secondOf)))] → va_S A s.heap H locs → lv_has ls 5 [(0, .ref (a 0)), (1, .int (iI x1)), (2, .int (iI x2)), (3, .int (iI x3)), (4, .int (iI x4))] → f_M_check_j53 F M_analysed M_firstOf M_secondOf x1 x2 x3 x4 q1 = some (z_M_thrown, z_M_firstOf, z_M_secondOf, z_M_analysed) → W p l e (headSpec w_M_check rm_M_check).room s m args below meth c H locs 0 0 Q (F0 m 53 ls [.int (iI q1), .ref (a 0)]) := by
    intro q1 H locs ls hP hD hS hl h
    rw [f_M_check_j53] at h
    refine va_put (D := D) (ci := 10) (v := .int (iI q1)) (ty := .int) (C := R_M) (T := F_M) (N := 53) hx hb hT in_M ty_M ty_M_ok n_M hown hK hP hD hS 0 rfl rfl 0 (by decide) (hT _ m1021) (fun _ h9 => h9) rfl (by decide +kernel) rfl rfl (Nat.le_of_ble_eq_true rfl) d_M_check_53 (fun H locs hP hD hS => ?_)
    have hP : va_P D vwCl [(o_M a q1 M_period M_width M_nodes M_analysed M_gates M_startNode M_startChange M_startWay M_startBase M_startEarly M_startLate M_worstWith M_worstWithout M_all M_rowSize), ((a 1), .inl (cI, 48, .inl (ia M_kinds))), ((a 9), .inl (cI, 96, .inl (ia M_firstOf))), ((a 10), .inl (cI, 96, .inl (ia M_secondOf)))] H := hP
    have hD : va_D A [(o_M a q1 M_period M_width M_nodes M_analysed M_gates M_startNode M_startChange M_startWay M_startBase M_startEarly M_startLate M_worstWith M_worstWithout M_all M_rowSize), ((a 1), .inl (cI, 48, .inl (ia M_kinds))), ((a 9), .inl (cI, 96, .inl (ia M_firstOf))), ((a 10), .inl (cI, 96, .inl (ia M_secondOf)))] := hD
    refine lv_aload_n hx hb d_M_check_56 rfl (lv_at hl 0 rfl) ?_
    refine va_get (D := D) (ci := 10) (v := .int (iI q1)) (C := R_M) (T := F_M) (N := 53) hx hb hT in_M hown hK hP 0 rfl rfl 0 (by decide) (hT _ m1021) (fun _ h9 => h9) rfl d_M_check_57 ?_
    obtain ⟨hg0, h⟩ := gr_e h
    refine zi_ne hx hb d_M_check_60 rfl hg0 (fun hc => ?_) (fun hc => ?_)
    · replace h := if_f hc h
      obtain ⟨e1, e2, e3, e4⟩ := so4 h
      rw [hQ, e1, e2, e3, e4]; rw [hAe] at hD hS; exact W.vret hx hb hr (fun t ht hW => ⟨⟨(), rfl, trivial, by rw [ht]; exact hP, va_K.moved hW.alike hK, hD⟩, hS.F ht⟩) hS.2.2 d_M_check_91
    · replace h := if_t hc h
      refine lv_aload_n hx hb d_M_check_63 rfl (lv_at hl 0 rfl) ?_
      refine va_get (D := D) (ci := 10) (v := .ref (a 9)) (C := R_M) (T := F_M) (N := 53) hx hb hT in_M hown hK hP 0 rfl rfl 12 (by decide) (hT _ m1033) (fun _ h9 => h9) rfl d_M_check_64 ?_
      refine zv_iconst hx hb d_M_check_67 ?_
      refine lv_iload_n hx hb d_M_check_68 rfl (lv_at hl 1 rfl) ?_
      refine zv_imul hx hb d_M_check_69 ?_
      refine lv_iload_n hx hb d_M_check_70 rfl (lv_at hl 2 rfl) ?_
      refine zv_iadd hx hb d_M_check_71 ?_
      refine lv_iload_n hx hb d_M_check_72 rfl (lv_at hl 3 rfl) ?_
      obtain ⟨hin, h⟩ := gi_e h
      refine zv_iast hx hb hK hP hD hS 2 0 rfl rfl (Nat.le_of_ble_eq_true rfl) hin d_M_check_73 (fun H locs hP hD hS => ?_)
      obtain ⟨M_firstOf_1, hv⟩ : ∃ z, z = (ui M_firstOf ((2 * x1) + x2) x3) := ⟨_, rfl⟩
      replace h := bd_e hv h
      have hP : va_P D vwCl [(o_M a q1 M_period M_width M_nodes M_analysed M_gates M_startNode M_startChange M_startWay M_startBase M_startEarly M_startLate M_worstWith M_worstWithout M_all M_rowSize), ((a 1), .inl (cI, 48, .inl (ia M_kinds))), ((a 9), .inl (cI, 96, .inl (ia M_firstOf_1))), ((a 10), .inl (cI, 96, .inl (ia M_secondOf)))] H := by rw [hv]; exact hP
      have hD : va_D A [(o_M a q1 M_period M_width M_nodes M_analysed M_gates M_startNode M_startChange M_startWay M_startBase M_startEarly M_startLate M_worstWith M_worstWithout M_all M_rowSize), ((a 1), .inl (cI, 48, .inl (ia M_kinds))), ((a 9), .inl (cI, 96, .inl (ia M_firstOf_1))), ((a 10), .inl (cI, 96, .inl (ia M_secondOf)))] := by rw [hv]; exact hD
      refine lv_aload_n hx hb d_M_check_74 rfl (lv_at hl 0 rfl) ?_
      refine va_get (D := D) (ci := 10) (v := .ref (a 10)) (C := R_M) (T := F_M) (N := 53) hx hb hT in_M hown hK hP 0 rfl rfl 13 (by decide) (hT _ m1034) (fun _ h9 => h9) rfl d_M_check_75 ?_
      refine zv_iconst hx hb d_M_check_78 ?_
      refine lv_iload_n hx hb d_M_check_79 rfl (lv_at hl 1 rfl) ?_
      refine zv_imul hx hb d_M_check_80 ?_
      refine lv_iload_n hx hb d_M_check_81 rfl (lv_at hl 2 rfl) ?_
      refine zv_iadd hx hb d_M_check_82 ?_
      refine lv_iload hx hb d_M_check_83 (lv_at hl 4 rfl) ?_
      obtain ⟨hin, h⟩ := gi_e h
      refine zv_iast hx hb hK hP hD hS 3 0 rfl rfl (Nat.le_of_ble_eq_true rfl) hin d_M_check_85 (fun H locs hP hD hS => ?_)
      obtain ⟨M_secondOf_2, hv⟩ : ∃ z, z = (ui M_secondOf ((2 * x1) + x2) x4) := ⟨_, rfl⟩
      replace h := bd_e hv h
      have hP : va_P D vwCl [(o_M a q1 M_period M_width M_nodes M_analysed M_gates M_startNode M_startChange M_startWay M_startBase M_startEarly M_startLate M_worstWith M_worstWithout M_all M_rowSize), ((a 1), .inl (cI, 48, .inl (ia M_kinds))), ((a 9), .inl (cI, 96, .inl (ia M_firstOf_1))), ((a 10), .inl (cI, 96, .inl (ia M_secondOf_2)))] H := by rw [hv]; exact hP
      have hD : va_D A [(o_M a q1 M_period M_width M_nodes M_analysed M_gates M_startNode M_startChange M_startWay M_startBase M_startEarly M_startLate M_worstWith M_worstWithout M_all M_rowSize), ((a 1), .inl (cI, 48, .inl (ia M_kinds))), ((a 9), .inl (cI, 96, .inl (ia M_firstOf_1))), ((a 10), .inl (cI, 96, .inl (ia M_secondOf_2)))] := by rw [hv]; exact hD
      refine lv_aload_n hx hb d_M_check_86 rfl (lv_at hl 0 rfl) ?_
      refine zv_iconst hx hb d_M_check_87 ?_
      refine va_put (D := D) (ci := 10) (v := .int (iI 0)) (ty := .boolean) (C := R_M) (T := F_M) (N := 53) hx hb hT in_M ty_M ty_M_ok n_M hown hK hP hD hS 0 rfl rfl 14 (by decide) (hT _ m1035) (fun _ h9 => h9) rfl (by decide +kernel) rfl rfl (Nat.le_of_ble_eq_true rfl) d_M_check_88 (fun H locs hP hD hS => ?_)
      have hP : va_P D vwCl [(o_M a q1 M_period M_width M_nodes 0 M_gates M_startNode M_startChange M_startWay M_startBase M_startEarly M_startLate M_worstWith M_worstWithout M_all M_rowSize), ((a 1), .inl (cI, 48, .inl (ia M_kinds))), ((a 9), .inl (cI, 96, .inl (ia M_firstOf_1))), ((a 10), .inl (cI, 96, .inl (ia M_secondOf_2)))] H := hP
      have hD : va_D A [(o_M a q1 M_period M_width M_nodes 0 M_gates M_startNode M_startChange M_startWay M_startBase M_startEarly M_startLate M_worstWith M_worstWithout M_all M_rowSize), ((a 1), .inl (cI, 48, .inl (ia M_kinds))), ((a 9), .inl (cI, 96, .inl (ia M_firstOf_1))), ((a 10), .inl (cI, 96, .inl (ia M_secondOf_2)))] := hD
      obtain ⟨e1, e2, e3, e4⟩ := so4 h
      rw [hQ, e1, e2, e3, e4]; rw [hAe] at hD hS; exact W.vret hx hb hr (fun t ht hW => ⟨⟨(), rfl, trivial, by rw [ht]; exact hP, va_K.moved hW.alike hK, hD⟩, hS.F ht⟩) hS.2.2 d_M_check_91
  have hj48 : ∀  (H : Heap) (locs : List Loc) (ls : Array Slot), va_P D vwCl [(o_M a M_thrown M_period M_width M_nodes M_analysed M_gates M_startNode M_startChange M_startWay M_startBase M_startEarly M_startLate M_worstWith M_worstWithout M_all M_rowSize), ((a 1), .inl (cI, 48, .inl (ia M_kinds))), ((a 9), .inl (cI, 96, .inl (ia M_firstOf))), ((a 10), .inl (cI, 96, .inl (ia M_secondOf)))] H → va_D A [(o_M a M_thrown M_period M_width M_nodes M_analysed M_gates M_startNode M_startChange M_startWay M_startBase M_startEarly M_startLate M_worstWith M_worstWithout M_all M_rowSize), ((a 1), .inl (cI, 48, .inl (ia M_kinds))), ((a 9), .inl (cI, 96, .inl (ia M_firstOf))), ((a 10), .inl (cI, 96, .inl (ia M_secondOf)))] → va_S A s.heap H locs → lv_has ls 5 [(0, .ref (a 0)), (1, .int (iI x1)), (2, .int (iI x2)), (3, .int (iI x3)), (4, .int (iI x4))] → f_M_check_j48 F M_analysed M_firstOf M_secondOf x1 x2 x3 x4 = some (z_M_thrown, z_M_firstOf, z_M_secondOf, z_M_analysed) → W p l e (headSpec w_M_check rm_M_check).room s m args below meth c H locs 0 0 Q (F0 m 48 ls [.ref (a 0)]) := by
    intro  H locs ls hP hD hS hl h
    rw [f_M_check_j48] at h
    refine zv_iconst hx hb d_M_check_48 ?_
    refine lv_goto hx hb d_M_check_49 rfl ?_
    exact hj53 1 H locs ls hP hD hS (lv_sub hl [0, 1, 2, 3, 4] rfl) h
  obtain ⟨hg0, h⟩ := gr_e h
  refine zi_eq hx hb d_M_check_6 rfl hg0 (fun hc => ?_) (fun hc => ?_)
  · replace h := if_t hc h
    exact hj48  H locs ls hP hD hS (lv_sub hl [0, 1, 2, 3, 4] rfl) h
  · replace h := if_f hc h
    refine lv_iload_n hx hb d_M_check_9 rfl (lv_at hl 2 rfl) ?_
    obtain ⟨hg0, h⟩ := gr_e h
    refine zi_lt hx hb d_M_check_10 rfl hg0 (fun hc => ?_) (fun hc => ?_)
    · replace h := if_t hc h
      exact hj48  H locs ls hP hD hS (lv_sub hl [0, 1, 2, 3, 4] rfl) h
    · replace h := if_f hc h
      refine lv_iload_n hx hb d_M_check_13 rfl (lv_at hl 2 rfl) ?_
      refine zv_iconst hx hb d_M_check_14 ?_
      obtain ⟨hg0, h⟩ := gr_e h
      refine zc_gt hx hb d_M_check_15 rfl hg0 (by decide) (fun hc => ?_) (fun hc => ?_)
      · replace h := if_t hc h
        exact hj48  H locs ls hP hD hS (lv_sub hl [0, 1, 2, 3, 4] rfl) h
      · replace h := if_f hc h
        refine lv_iload_n hx hb d_M_check_18 rfl (lv_at hl 3 rfl) ?_
        refine lv_sipush (v := iI (-10000)) hx hb d_M_check_19 (by decide) ?_
        obtain ⟨hg0, h⟩ := gr_e h
        refine zc_lt hx hb d_M_check_22 rfl hg0 (by decide) (fun hc => ?_) (fun hc => ?_)
        · replace h := if_t hc h
          exact hj48  H locs ls hP hD hS (lv_sub hl [0, 1, 2, 3, 4] rfl) h
        · replace h := if_f hc h
          refine lv_iload_n hx hb d_M_check_25 rfl (lv_at hl 3 rfl) ?_
          refine lv_sipush (v := iI 10000) hx hb d_M_check_26 (by decide) ?_
          obtain ⟨hg0, h⟩ := gr_e h
          refine zc_gt hx hb d_M_check_29 rfl hg0 (by decide) (fun hc => ?_) (fun hc => ?_)
          · replace h := if_t hc h
            exact hj48  H locs ls hP hD hS (lv_sub hl [0, 1, 2, 3, 4] rfl) h
          · replace h := if_f hc h
            refine lv_iload hx hb d_M_check_32 (lv_at hl 4 rfl) ?_
            refine lv_sipush (v := iI (-10000)) hx hb d_M_check_34 (by decide) ?_
            obtain ⟨hg0, h⟩ := gr_e h
            refine zc_lt hx hb d_M_check_37 rfl hg0 (by decide) (fun hc => ?_) (fun hc => ?_)
            · replace h := if_t hc h
              exact hj48  H locs ls hP hD hS (lv_sub hl [0, 1, 2, 3, 4] rfl) h
            · replace h := if_f hc h
              refine lv_iload hx hb d_M_check_40 (lv_at hl 4 rfl) ?_
              refine lv_sipush (v := iI 10000) hx hb d_M_check_42 (by decide) ?_
              obtain ⟨hg0, h⟩ := gr_e h
              refine zc_le hx hb d_M_check_45 rfl hg0 (by decide) (fun hc => ?_) (fun hc => ?_)
              · replace h := if_t hc h
                refine zv_iconst hx hb d_M_check_52 ?_
                exact hj53 0 H locs ls hP hD hS (lv_sub hl [0, 1, 2, 3, 4] rfl) h
              · replace h := if_f hc h
                exact hj48  H locs ls hP hD hS (lv_sub hl [0, 1, 2, 3, 4] rfl) h
