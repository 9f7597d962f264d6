abbrev rm_M_thrown : Room := { frames := 0, cells := 0, slots := 0, locals := 0 }
set_option maxHeartbeats 4000000 in
set_option maxRecDepth 100000 in
theorem c_M_thrown (l : Launch) (D : va_G) (cI cJ cZ : ClassId) (F : Nat) (a : Nat → Nat) (M_thrown : Int) (M_period : Int) (M_width : Int) (M_nodes : Int) (M_analysed : Int) (M_gates : Int) (M_startNode : Int) (M_startChange : Int) (M_startWay : Int) (M_startBase : Int) (M_startEarly : Int) (M_startLate : Int) (M_worstWith : Int) (M_worstWithout : Int) (M_all : Int64) (M_rowSize : Int) (r : Int) (sz : Nat) (h : f_M_thrown F M_thrown = some (r)) : Met l y_M_thrown w_M_thrown rm_M_thrown (PC D [(cI, .int), (cJ, .long), (cZ, .boolean)] [.ref (a 0)] ([(o_M a M_thrown M_period M_width M_nodes M_analysed M_gates M_startNode M_startChange M_startWay M_startBase M_startEarly M_startLate M_worstWith M_worstWithout M_all M_rowSize)]) sz) (QcRead (iI r)) 0 0 (fun _ => False) := by
  refine Met.ofW (cc := prog_12_method_2_code) (maxL := 1) (ret := (Option.some Jvm.ClassFile.FieldType.int)) (by decide) rfl ?_
  intro p e s m args below meth c s₁ B hml hv
  obtain ⟨rfl, hsz, hP, hK, hD0, hN⟩ := hv
  have hx := B.exec
  have hb := B.bytes
  have hr := B.returns
  have hts := atoms_spec (ws := w_M_thrown) B.pre
  have hown : s.vm.findClass R_M = some m.cls := findClass_of_methodNamed B.named
  have hlocks := B.notSynchronized
  subst hsz
  have hl := lv_entry ([.ref (a 0)]) (n := 1) (Nat.le_of_ble_eq_true rfl)
  rw [lg_entry_eq]
  generalize (lg_sl ([.ref (a 0)]) ++ List.replicate (1 - (lg_sl ([.ref (a 0)])).length) Slot.unset).toArray = ls at hl ⊢
  have hl : lv_has ls 1 [(0, .ref (a 0))] := hl
  generalize (List.toArray ([.ref (a 0)] : List Value)) = args at hts ⊢
  have hT : ∀ w ∈ Tg, w.before args s = true := fun w h => hts w (List.mem_cons_of_mem _ h)
  obtain ⟨Q, hQ⟩ : ∃ Q, Q = MQ below (QcRead (iI r)) args s 0 0 (fun _ => False) := ⟨_, rfl⟩
  rw [← hQ]
  rw [f_M_thrown] at h
  refine lv_aload_n hx hb d_M_thrown_0 rfl (lv_at hl 0 rfl) ?_
  refine va_get (D := D) (ci := 10) (v := .int (iI M_thrown)) (C := R_M) (T := F_M) (N := 53) hx hb hT in_M hown hK hP 0 rfl rfl 0 (by decide) (hT _ m1021) (fun _ h9 => h9) rfl d_M_thrown_1 ?_
  have e1 := so1 h
  rw [hQ, e1]; exact W.iret hx hb hr (fun t ht hW => ⟨rfl, ht⟩) (fun q h => nomatch h) d_M_thrown_4
abbrev rm_M_clearNode : Room := { frames := 0, cells := 0, slots := 0, locals := 0 }
set_option maxHeartbeats 4000000 in
set_option maxRecDepth 100000 in
theorem c_M_clearNode (l : Launch) (D : va_G) (cI cJ cZ : ClassId) (F : Nat) (a : Nat → Nat) (M_thrown : Int) (M_period : Int) (M_width : Int) (M_nodes : Int) (M_analysed : Int) (M_gates : Int) (M_startNode : Int) (M_startChange : Int) (M_startWay : Int) (M_startBase : Int) (M_startEarly : Int) (M_startLate : Int) (M_worstWith : Int) (M_worstWithout : Int) (M_all : Int64) (M_rowSize : Int) (M_kinds : Int → Int) (M_pins : Int → Int) (M_froms : Int → Int) (M_wireEarly : Int → Int) (M_wireLate : Int → Int) (M_senses : Int → Int) (M_delayEarly : Int → Int) (M_delayLate : Int → Int) (M_firstOf : Int → Int) (M_secondOf : Int → Int) (x1 : Int) (x2 : Int) (x3 : Int) (z_M_kinds : Int → Int) (z_M_pins : Int → Int) (z_M_froms : Int → Int) (z_M_wireEarly : Int → Int) (z_M_wireLate : Int → Int) (z_M_senses : Int → Int) (z_M_delayEarly : Int → Int) (z_M_delayLate : Int → Int) (z_M_firstOf : Int → Int) (z_M_secondOf : Int → Int) (sz : Nat) (h : f_M_clearNode F M_kinds M_pins M_froms M_wireEarly M_wireLate M_senses M_delayEarly M_delayLate M_firstOf M_secondOf x1 x2 x3 = some (z_M_kinds, z_M_pins, z_M_froms, z_M_wireEarly, z_M_wireLate, z_M_senses, z_M_delayEarly, z_M_delayLate, z_M_firstOf, z_M_secondOf)) : Met l y_M_clearNode w_M_clearNode rm_M_clearNode (PC D [(cI, .int), (cJ, .long), (cZ, .boolean)] [.ref (a 0), .int (iI x1), .int (iI x2), .int (iI x3)] ([(o_M a M_thrown M_period M_width M_nodes M_analysed M_gates M_startNode M_startChange M_startWay M_startBase M_startEarly M_startLate M_worstWith M_worstWithout M_all M_rowSize), ((a 1), .inl (cI, 48, .inl (ia M_kinds))), ((a 2), .inl (cI, 48, .inl (ia M_pins))), ((a 3), .inl (cI, 144, .inl (ia M_froms))), ((a 4), .inl (cI, 144, .inl (ia M_wireEarly))), ((a 5), .inl (cI, 144, .inl (ia M_wireLate))), ((a 6), .inl (cI, 144, .inl (ia M_senses))), ((a 7), .inl (cI, 288, .inl (ia M_delayEarly))), ((a 8), .inl (cI, 288, .inl (ia M_delayLate))), ((a 9), .inl (cI, 96, .inl (ia M_firstOf))), ((a 10), .inl (cI, 96, .inl (ia M_secondOf)))]) sz) (QV D [(cI, .int), (cJ, .long), (cZ, .boolean)] ([(o_M a M_thrown M_period M_width M_nodes M_analysed M_gates M_startNode M_startChange M_startWay M_startBase M_startEarly M_startLate M_worstWith M_worstWithout M_all M_rowSize), ((a 1), .inl (cI, 48, .inl (ia M_kinds))), ((a 2), .inl (cI, 48, .inl (ia M_pins))), ((a 3), .inl (cI, 144, .inl (ia M_froms))), ((a 4), .inl (cI, 144, .inl (ia M_wireEarly))), ((a 5), .inl (cI, 144, .inl (ia M_wireLate))), ((a 6), .inl (cI, 144, .inl (ia M_senses))), ((a 7), .inl (cI, 288, .inl (ia M_delayEarly))), ((a 8), .inl (cI, 288, .inl (ia M_delayLate))), ((a 9), .inl (cI, 96, .inl (ia M_firstOf))), ((a 10), .inl (cI, 96, .inl (ia M_secondOf)))]) sz ([(o_M a M_thrown M_period M_width M_nodes M_analysed M_gates M_startNode M_startChange M_startWay M_startBase M_startEarly M_startLate M_worstWith M_worstWithout M_all M_rowSize), ((a 1), .inl (cI, 48, .inl (ia z_M_kinds))), ((a 2), .inl (cI, 48, .inl (ia z_M_pins))), ((a 3), .inl (cI, 144, .inl (ia z_M_froms))), ((a 4), .inl (cI, 144, .inl (ia z_M_wireEarly))), ((a 5), .inl (cI, 144, .inl (ia z_M_wireLate))), ((a 6), .inl (cI, 144, .inl (ia z_M_senses))), ((a 7), .inl (cI, 288, .inl (ia z_M_delayEarly))), ((a 8), .inl (cI, 288, .inl (ia z_M_delayLate))), ((a 9), .inl (cI, 96, .inl (ia z_M_firstOf))), ((a 10), .inl (cI, 96, .inl (ia z_M_secondOf)))])) 0 0 (va_A ([(o_M a M_thrown M_period M_width M_nodes M_analysed M_gates M_startNode M_startChange M_startWay M_startBase M_startEarly M_startLate M_worstWith M_worstWithout M_all M_rowSize), ((a 1), .inl (cI, 48, .inl (ia M_kinds))), ((a 2), .inl (cI, 48, .inl (ia M_pins))), ((a 3), .inl (cI, 144, .inl (ia M_froms))), ((a 4), .inl (cI, 144, .inl (ia M_wireEarly))), ((a 5), .inl (cI, 144, .inl (ia M_wireLate))), ((a 6), .inl (cI, 144, .inl (ia M_senses))), ((a 7), .inl (cI, 288, .inl (ia M_delayEarly))), ((a 8), .inl (cI, 288, .inl (ia M_delayLate))), ((a 9), .inl (cI, 96, .inl (ia M_firstOf))), ((a 10), .inl (cI, 96, .inl (ia M_secondOf)))]) sz) := by
  refine Met.ofW (cc := prog_12_method_3_code) (maxL := 6) (ret := (Option.none : Option Jvm.ClassFile.FieldType)) (by decide) rfl ?_
  intro p e s m args below meth c s₁ B hml hv
  obtain ⟨rfl, hsz, hP, hK, hD0, hN⟩ := hv
  have hx := B.exec
  have hb := B.bytes
  have hr := B.returns
  have hts := atoms_spec (ws := w_M_clearNode) B.pre
  have hown : s.vm.findClass R_M = some m.cls := findClass_of_methodNamed B.named
  have hlocks := B.notSynchronized
  subst hsz
  have hD := hD0.self (sz := s.heap.size)
  obtain ⟨A, hAe⟩ : ∃ A, A = va_A ([(o_M a M_thrown M_period M_width M_nodes M_analysed M_gates M_startNode M_startChange M_startWay M_startBase M_startEarly M_startLate M_worstWith M_worstWithout M_all M_rowSize), ((a 1), .inl (cI, 48, .inl (ia M_kinds))), ((a 2), .inl (cI, 48, .inl (ia M_pins))), ((a 3), .inl (cI, 144, .inl (ia M_froms))), ((a 4), .inl (cI, 144, .inl (ia M_wireEarly))), ((a 5), .inl (cI, 144, .inl (ia M_wireLate))), ((a 6), .inl (cI, 144, .inl (ia M_senses))), ((a 7), .inl (cI, 288, .inl (ia M_delayEarly))), ((a 8), .inl (cI, 288, .inl (ia M_delayLate))), ((a 9), .inl (cI, 96, .inl (ia M_firstOf))), ((a 10), .inl (cI, 96, .inl (ia M_secondOf)))]) s.heap.size := ⟨_, rfl⟩
  rw [← hAe] at hD
  have hA : ∀ q : Nat, s.heap.size ≤ q → A q := fun q h => by rw [hAe]; exact Or.inr h
  have hS : va_S A s.heap s.heap [] := va_S.rf
  have hl := lv_entry ([.ref (a 0), .int (iI x1), .int (iI x2), .int (iI x3)]) (n := 6) (Nat.le_of_ble_eq_true rfl)
  rw [lg_entry_eq]
  generalize (lg_sl ([.ref (a 0), .int (iI x1), .int (iI x2), .int (iI x3)]) ++ List.replicate (6 - (lg_sl ([.ref (a 0), .int (iI x1), .int (iI x2), .int (iI x3)])).length) Slot.unset).toArray = ls at hl ⊢
  have hl : lv_has ls 6 [(0, .ref (a 0)), (1, .int (iI x1)), (2, .int (iI x2)), (3, .int (iI x3))] := hl
  generalize (List.toArray ([.ref (a 0), .int (iI x1), .int (iI x2), .int (iI x3)] : List Value)) = args at hts ⊢
  have hT : ∀ w ∈ Tg, w.before args s = true := fun w h => hts w (List.mem_cons_of_mem _ h)
  obtain ⟨Q, hQ⟩ : ∃ Q, Q = MQ below (QV D [(cI, .int), (cJ, .long), (cZ, .boolean)] ([(o_M a M_thrown M_period M_width M_nodes M_analysed M_gates M_startNode M_startChange M_startWay M_startBase M_startEarly M_startLate M_worstWith M_worstWithout M_all M_rowSize), ((a 1), .inl (cI, 48, .inl (ia M_kinds))), ((a 2), .inl (cI, 48, .inl (ia M_pins))), ((a 3), .inl (cI, 144, .inl (ia M_froms))), ((a 4), .inl (cI, 144, .inl (ia M_wireEarly))), ((a 5), .inl (cI, 144, .inl (ia M_wireLate))), ((a 6), .inl (cI, 144, .inl (ia M_senses))), ((a 7), .inl (cI, 288, .inl (ia M_delayEarly))), ((a 8), .inl (cI, 288, .inl (ia M_delayLate))), ((a 9), .inl (cI, 96, .inl (ia M_firstOf))), ((a 10), .inl (cI, 96, .inl (ia M_secondOf)))]) s.heap.size ([(o_M a M_thrown M_period M_width M_nodes M_analysed M_gates M_startNode M_startChange M_startWay M_startBase M_startEarly M_startLate M_worstWith M_worstWithout M_all M_rowSize), ((a 1), .inl (cI, 48, .inl (ia z_M_kinds))), ((a 2), .inl (cI, 48, .inl (ia z_M_pins))), ((a 3), .inl (cI, 144, .inl (ia z_M_froms))), ((a 4), .inl (cI, 144, .inl (ia z_M_wireEarly))), ((a 5), .inl (cI, 144, .inl (ia z_M_wireLate))), ((a 6), .inl (cI, 144, .inl (ia z_M_senses))), ((a 7), .inl (cI, 288, .inl (ia z_M_delayEarly))), ((a 8), .inl (cI, 288, .inl (ia z_M_delayLate))), ((a 9), .inl (cI, 96, .inl (ia z_M_firstOf))), ((a 10), .inl (cI, 96, .inl (ia z_M_secondOf)))])) args s 0 0 (va_A ([(o_M a M_thrown M_period M_width M_nodes M_analysed M_gates M_startNode M_startChange M_startWay M_startBase M_startEarly M_startLate M_worstWith M_worstWithout M_all M_rowSize), ((a 1), .inl (cI, 48, .inl (ia M_kinds))), ((a 2), .inl (cI, 48, .inl (ia M_pins))), ((a 3), .inl (cI, 144, .inl (ia M_froms))), ((a 4), .inl (cI, 144, .inl (ia M_wireEarly))), ((a 5), .inl (cI, 144, .inl (ia M_wireLate))), ((a 6), .inl (cI, 144, .inl (ia M_senses))), ((a 7), .inl (cI, 288, .inl (ia M_delayEarly))), ((a 8), .inl (cI, 288, .inl (ia M_delayLate))), ((a 9), .inl (cI, 96, .inl (ia M_firstOf))), ((a 10), .inl (cI, 96, .inl (ia M_secondOf)))]) s.heap.size) := ⟨_, rfl⟩
  rw [← hQ]
  suffices hW : ∀ (H : Heap) (locs : List Loc), va_P D vwCl ([(o_M a M_thrown M_period M_width M_nodes M_analysed M_gates M_startNode M_startChange M_startWay M_startBase M_startEarly M_startLate M_worstWith M_worstWithout M_all M_rowSize), ((a 1), .inl (cI, 48, .inl (ia M_kinds))), ((a 2), .inl (cI, 48, .inl (ia M_pins))), ((a 3), .inl (cI, 144, .inl (ia M_froms))), ((a 4), .inl (cI, 144, .inl (ia M_wireEarly))), ((a 5), .inl (cI, 144, .inl (ia M_wireLate))), ((a 6), .inl (cI, 144, .inl (ia M_senses))), ((a 7), .inl (cI, 288, .inl (ia M_delayEarly))), ((a 8), .inl (cI, 288, .inl (ia M_delayLate))), ((a 9), .inl (cI, 96, .inl (ia M_firstOf))), ((a 10), .inl (cI, 96, .inl (ia M_secondOf)))]) H → va_D A ([(o_M a M_thrown M_period M_width M_nodes M_analysed M_gates M_startNode M_startChange M_startWay M_startBase M_startEarly M_startLate M_worstWith M_worstWithout M_all M_rowSize), ((a 1), .inl (cI, 48, .inl (ia M_kinds))), ((a 2), .inl (cI, 48, .inl (ia M_pins))), ((a 3), .inl (cI, 144, .inl (ia M_froms))), ((a 4), .inl (cI, 144, .inl (ia M_wireEarly))), ((a 5), .inl (cI, 144, .inl (ia M_wireLate))), ((a 6), .inl (cI, 144, .inl (ia M_senses))), ((a 7), .inl (cI, 288, .inl (ia M_delayEarly))), ((a 8), .inl (cI, 288, .inl (ia M_delayLate))), ((a 9), .inl (cI, 96, .inl (ia M_firstOf))), ((a 10), .inl (cI, 96, .inl (ia M_secondOf)))]) → va_S A s.heap H locs → W p l e (headSpec w_M_clearNode rm_M_clearNode).room s m args below meth c H locs 0 0 Q (F0 m 0 ls []) from hW s.heap [] hP hD hS
  clear hP hD hS
  intro H locs hP hD hS
  have hk0 := (show (Cond.constant "PathTimingModel" 140 (iI (-2147483648))).before args s = true from by rw [show iI (-2147483648) = ((-2147483648) : Int32) from by decide]; exact hT _ m1020)
  rw [f_M_clearNode] at h
  refine lv_aload_n hx hb d_M_clearNode_0 rfl (lv_at hl 0 rfl) ?_
  refine va_get (D := D) (ci := 10) (v := .ref (a 1)) (C := R_M) (T := F_M) (N := 53) hx hb hT in_M hown hK hP 0 rfl rfl 4 (by decide) (hT _ m1025) (fun _ h9 => h9) rfl d_M_clearNode_1 ?_
  refine lv_iload_n hx hb d_M_clearNode_4 rfl (lv_at hl 1 rfl) ?_
  refine lv_iload_n hx hb d_M_clearNode_5 rfl (lv_at hl 2 rfl) ?_
  obtain ⟨hin, h⟩ := gi_e h
  refine zv_iast hx hb hK hP hD hS 1 0 rfl rfl (Nat.le_of_ble_eq_true rfl) hin d_M_clearNode_6 (fun H locs hP hD hS => ?_)
  obtain ⟨M_kinds_1, hv⟩ : ∃ z, z = (ui M_kinds x1 x2) := ⟨_, rfl⟩
  replace h := bd_e hv h
  have hP : va_P D vwCl [(o_M a M_thrown M_period M_width M_nodes M_analysed M_gates M_startNode M_startChange M_startWay M_startBase M_startEarly M_startLate M_worstWith M_worstWithout M_all M_rowSize), ((a 1), .inl (cI, 48, .inl (ia M_kinds_1))), ((a 2), .inl (cI, 48, .inl (ia M_pins))), ((a 3), .inl (cI, 144, .inl (ia M_froms))), ((a 4), .inl (cI, 144, .inl (ia M_wireEarly))), ((a 5), .inl (cI, 144, .inl (ia M_wireLate))), ((a 6), .inl (cI, 144, .inl (ia M_senses))), ((a 7), .inl (cI, 288, .inl (ia M_delayEarly))), ((a 8), .inl (cI, 288, .inl (ia M_delayLate))), ((a 9), .inl (cI, 96, .inl (ia M_firstOf))), ((a 10), .inl (cI, 96, .inl (ia M_secondOf)))] H := by rw [hv]; exact hP
  have hD : va_D A [(o_M a M_thrown M_period M_width M_nodes M_analysed M_gates M_startNode M_startChange M_startWay M_startBase M_startEarly M_startLate M_worstWith M_worstWithout M_all M_rowSize), ((a 1), .inl (cI, 48, .inl (ia M_kinds_1))), ((a 2), .inl (cI, 48, .inl (ia M_pins))), ((a 3), .inl (cI, 144, .inl (ia M_froms))), ((a 4), .inl (cI, 144, .inl (ia M_wireEarly))), ((a 5), .inl (cI, 144, .inl (ia M_wireLate))), ((a 6), .inl (cI, 144, .inl (ia M_senses))), ((a 7), .inl (cI, 288, .inl (ia M_delayEarly))), ((a 8), .inl (cI, 288, .inl (ia M_delayLate))), ((a 9), .inl (cI, 96, .inl (ia M_firstOf))), ((a 10), .inl (cI, 96, .inl (ia M_secondOf)))] := by rw [hv]; exact hD
  refine lv_aload_n hx hb d_M_clearNode_7 rfl (lv_at hl 0 rfl) ?_
  refine va_get (D := D) (ci := 10) (v := .ref (a 2)) (C := R_M) (T := F_M) (N := 53) hx hb hT in_M hown hK hP 0 rfl rfl 5 (by decide) (hT _ m1026) (fun _ h9 => h9) rfl d_M_clearNode_8 ?_
  refine lv_iload_n hx hb d_M_clearNode_11 rfl (lv_at hl 1 rfl) ?_
  refine lv_iload_n hx hb d_M_clearNode_12 rfl (lv_at hl 3 rfl) ?_
  obtain ⟨hin, h⟩ := gi_e h
  refine zv_iast hx hb hK hP hD hS 2 0 rfl rfl (Nat.le_of_ble_eq_true rfl) hin d_M_clearNode_13 (fun H locs hP hD hS => ?_)
  obtain ⟨M_pins_2, hv⟩ : ∃ z, z = (ui M_pins x1 x3) := ⟨_, rfl⟩
  replace h := bd_e hv h
  have hP : va_P D vwCl [(o_M a M_thrown M_period M_width M_nodes M_analysed M_gates M_startNode M_startChange M_startWay M_startBase M_startEarly M_startLate M_worstWith M_worstWithout M_all M_rowSize), ((a 1), .inl (cI, 48, .inl (ia M_kinds_1))), ((a 2), .inl (cI, 48, .inl (ia M_pins_2))), ((a 3), .inl (cI, 144, .inl (ia M_froms))), ((a 4), .inl (cI, 144, .inl (ia M_wireEarly))), ((a 5), .inl (cI, 144, .inl (ia M_wireLate))), ((a 6), .inl (cI, 144, .inl (ia M_senses))), ((a 7), .inl (cI, 288, .inl (ia M_delayEarly))), ((a 8), .inl (cI, 288, .inl (ia M_delayLate))), ((a 9), .inl (cI, 96, .inl (ia M_firstOf))), ((a 10), .inl (cI, 96, .inl (ia M_secondOf)))] H := by rw [hv]; exact hP
  have hD : va_D A [(o_M a M_thrown M_period M_width M_nodes M_analysed M_gates M_startNode M_startChange M_startWay M_startBase M_startEarly M_startLate M_worstWith M_worstWithout M_all M_rowSize), ((a 1), .inl (cI, 48, .inl (ia M_kinds_1))), ((a 2), .inl (cI, 48, .inl (ia M_pins_2))), ((a 3), .inl (cI, 144, .inl (ia M_froms))), ((a 4), .inl (cI, 144, .inl (ia M_wireEarly))), ((a 5), .inl (cI, 144, .inl (ia M_wireLate))), ((a 6), .inl (cI, 144, .inl (ia M_senses))), ((a 7), .inl (cI, 288, .inl (ia M_delayEarly))), ((a 8), .inl (cI, 288, .inl (ia M_delayLate))), ((a 9), .inl (cI, 96, .inl (ia M_firstOf))), ((a 10), .inl (cI, 96, .inl (ia M_secondOf)))] := by rw [hv]; exact hD
  refine zv_iconst hx hb d_M_clearNode_14 ?_
  refine lv_istore (lv' := [(4, .int (iI 0)), (0, .ref (a 0)), (1, .int (iI x1)), (2, .int (iI x2)), (3, .int (iI x3))]) hx hb d_M_clearNode_15 hl (by decide) rfl (fun ls hl => ?_)
  have hl17 : ∀ (nf : Nat) (v4 : Int) (M_froms_3 : Int → Int) (M_wireEarly_4 : Int → Int) (M_wireLate_5 : Int → Int) (M_senses_6 : Int → Int) (M_delayEarly_7 : Int → Int) (M_delayLate_8 : Int → Int) (H : Heap) (locs : List Loc) (ls : Array Slot), va_P D vwCl [(o_M a M_thrown M_period M_width M_nodes M_analysed M_gates M_startNode M_startChange M_startWay M_startBase M_startEarly M_startLate M_worstWith M_worstWithout M_all M_rowSize), ((a 1), .inl (cI, 48, .inl (ia M_kinds_1))), ((a 2), .inl (cI, 48, .inl (ia M_pins_2))), ((a 3), .inl (cI, 144, .inl (ia M_froms_3))), ((a 4), .inl (cI, 144, .inl (ia M_wireEarly_4))), ((a 5), .inl (cI, 144, .inl (ia M_wireLate_5))), ((a 6), .inl (cI, 144, .inl (ia M_senses_6))), ((a 7), .inl (cI, 288, .inl (ia M_delayEarly_7))), ((a 8), .inl (cI, 288, .inl (ia M_delayLate_8))), ((a 9), .inl (cI, 96, .inl (ia M_firstOf))), ((a 10), .inl (cI, 96, .inl (ia M_secondOf)))] H → va_D A [(o_M a M_thrown M_period M_width M_nodes M_analysed M_gates M_startNode M_startChange M_startWay M_startBase M_startEarly M_startLate M_worstWith M_worstWithout M_all M_rowSize), ((a 1), .inl (cI, 48, .inl (ia M_kinds_1))), ((a 2), .inl (cI, 48, .inl (ia M_pins_2))), ((a 3), .inl (cI, 144, .inl (ia M_froms_3))), ((a 4), .inl (cI, 144, .inl (ia M_wireEarly_4))), ((a 5), .inl (cI, 144, .inl (ia M_wireLate_5))), ((a 6), .inl (cI, 144, .inl (ia M_senses_6))), ((a 7), .inl (cI, 288, .inl (ia M_delayEarly_7))), ((a 8), .inl (cI, 288, .inl (ia M_delayLate_8))), ((a 9), .inl (cI, 96, .inl (ia M_firstOf))), ((a 10), .inl (cI, 96, .inl (ia M_secondOf)))] → va_S A s.heap H locs → lv_has ls 6 [(0, .ref (a 0)), (1, .int (iI x1)), (4, .int (iI v4))] → lq7 (f_M_clearNode_b17 F M_firstOf M_secondOf x1 M_kinds_1 M_pins_2) nf v4 M_froms_3 M_wireEarly_4 M_wireLate_5 M_senses_6 M_delayEarly_7 M_delayLate_8 = some (z_M_kinds, z_M_pins, z_M_froms, z_M_wireEarly, z_M_wireLate, z_M_senses, z_M_delayEarly, z_M_delayLate, z_M_firstOf, z_M_secondOf) → W p l e (headSpec w_M_clearNode rm_M_clearNode).room s m args below meth c H locs 0 0 Q (F0 m 17 ls []) := by
    intro n17
    induction n17 with
    | zero => intro v4 M_froms_3 M_wireEarly_4 M_wireLate_5 M_senses_6 M_delayEarly_7 M_delayLate_8 H locs ls hP hD hS hl h; exact no_some h
    | succ n17 ih17 =>
      intro v4 M_froms_3 M_wireEarly_4 M_wireLate_5 M_senses_6 M_delayEarly_7 M_delayLate_8 H locs ls hP hD hS hl h
      replace h : f_M_clearNode_b17 F M_firstOf M_secondOf x1 M_kinds_1 M_pins_2 (lq7 (f_M_clearNode_b17 F M_firstOf M_secondOf x1 M_kinds_1 M_pins_2) n17) v4 M_froms_3 M_wireEarly_4 M_wireLate_5 M_senses_6 M_delayEarly_7 M_delayLate_8 = some (z_M_kinds, z_M_pins, z_M_froms, z_M_wireEarly, z_M_wireLate, z_M_senses, z_M_delayEarly, z_M_delayLate, z_M_firstOf, z_M_secondOf) := h
      obtain ⟨self17, hs17⟩ : ∃ z, z = lq7 (f_M_clearNode_b17 F M_firstOf M_secondOf x1 M_kinds_1 M_pins_2) n17 := ⟨_, rfl⟩
      rw [← hs17] at h ih17
      rw [f_M_clearNode_b17] at h
      refine lv_iload hx hb d_M_clearNode_17 (lv_at hl 2 rfl) ?_
      refine zv_iconst hx hb d_M_clearNode_19 ?_
      obtain ⟨hg0, h⟩ := gr_e h
      refine zc_ge hx hb d_M_clearNode_20 rfl hg0 (by decide) (fun hc => ?_) (fun hc => ?_)
      · replace h := if_t hc h
        refine zv_iconst hx hb d_M_clearNode_129 ?_
        refine lv_istore (lv' := [(4, .int (iI 0)), (0, .ref (a 0)), (1, .int (iI x1))]) hx hb d_M_clearNode_130 hl (by decide) rfl (fun ls hl => ?_)
        have hl132 : ∀ (nf : Nat) (v4_9 : Int) (M_firstOf_10 : Int → Int) (M_secondOf_11 : Int → Int) (H : Heap) (locs : List Loc) (ls : Array Slot), va_P D vwCl [(o_M a M_thrown M_period M_width M_nodes M_analysed M_gates M_startNode M_startChange M_startWay M_startBase M_startEarly M_startLate M_worstWith M_worstWithout M_all M_rowSize), ((a 1), .inl (cI, 48, .inl (ia M_kinds_1))), ((a 2), .inl (cI, 48, .inl (ia M_pins_2))), ((a 3), .inl (cI, 144, .inl (ia M_froms_3))), ((a 4), .inl (cI, 144, .inl (ia M_wireEarly_4))), ((a 5), .inl (cI, 144, .inl (ia M_wireLate_5))), ((a 6), .inl (cI, 144, .inl (ia M_senses_6))), ((a 7), .inl (cI, 288, .inl (ia M_delayEarly_7))), ((a 8), .inl (cI, 288, .inl (ia M_delayLate_8))), ((a 9), .inl (cI, 96, .inl (ia M_firstOf_10))), ((a 10), .inl (cI, 96, .inl (ia M_secondOf_11)))] H → va_D A [(o_M a M_thrown M_period M_width M_nodes M_analysed M_gates M_startNode M_startChange M_startWay M_startBase M_startEarly M_startLate M_worstWith M_worstWithout M_all M_rowSize), ((a 1), .inl (cI, 48, .inl (ia M_kinds_1))), ((a 2), .inl (cI, 48, .inl (ia M_pins_2))), ((a 3), .inl (cI, 144, .inl (ia M_froms_3))), ((a 4), .inl (cI, 144, .inl (ia M_wireEarly_4))), ((a 5), .inl (cI, 144, .inl (ia M_wireLate_5))), ((a 6), .inl (cI, 144, .inl (ia M_senses_6))), ((a 7), .inl (cI, 288, .inl (ia M_delayEarly_7))), ((a 8), .inl (cI, 288, .inl (ia M_delayLate_8))), ((a 9), .inl (cI, 96, .inl (ia M_firstOf_10))), ((a 10), .inl (cI, 96, .inl (ia M_secondOf_11)))] → va_S A s.heap H locs → lv_has ls 6 [(0, .ref (a 0)), (1, .int (iI x1)), (4, .int (iI v4_9))] → lq3 (f_M_clearNode_b132 F x1 M_kinds_1 M_pins_2 M_froms_3 M_wireEarly_4 M_wireLate_5 M_senses_6 M_delayEarly_7 M_delayLate_8) nf v4_9 M_firstOf_10 M_secondOf_11 = some (z_M_kinds, z_M_pins, z_M_froms, z_M_wireEarly, z_M_wireLate, z_M_senses, z_M_delayEarly, z_M_delayLate, z_M_firstOf, z_M_secondOf) → W p l e (headSpec w_M_clearNode rm_M_clearNode).room s m args below meth c H locs 0 0 Q (F0 m 132 ls []) := by
          intro n132
          induction n132 with
          | zero => intro v4_9 M_firstOf_10 M_secondOf_11 H locs ls hP hD hS hl h; exact no_some h
          | succ n132 ih132 =>
            intro v4_9 M_firstOf_10 M_secondOf_11 H locs ls hP hD hS hl h
            replace h : f_M_clearNode_b132 F x1 M_kinds_1 M_pins_2 M_froms_3 M_wireEarly_4 M_wireLate_5 M_senses_6 M_delayEarly_7 M_delayLate_8 (lq3 (f_M_clearNode_b132 F x1 M_kinds_1 M_pins_2 M_froms_3 M_wireEarly_4 M_wireLate_5 M_senses_6 M_delayEarly_7 M_delayLate_8) n132) v4_9 M_firstOf_10 M_secondOf_11 = some (z_M_kinds, z_M_pins, z_M_froms, z_M_wireEarly, z_M_wireLate, z_M_senses, z_M_delayEarly, z_M_delayLate, z_M_firstOf, z_M_secondOf) := h
            obtain ⟨self132, hs132⟩ : ∃ z, z = lq3 (f_M_clearNode_b132 F x1 M_kinds_1 M_pins_2 M_froms_3 M_wireEarly_4 M_wireLate_5 M_senses_6 M_delayEarly_7 M_delayLate_8) n132 := ⟨_, rfl⟩
            rw [← hs132] at h ih132
            rw [f_M_clearNode_b132] at h
            refine lv_iload hx hb d_M_clearNode_132 (lv_at hl 2 rfl) ?_
            refine zv_iconst hx hb d_M_clearNode_134 ?_
            obtain ⟨hg0, h⟩ := gr_e h
            refine zc_ge hx hb d_M_clearNode_135 rfl hg0 (by decide) (fun hc => ?_) (fun hc => ?_)
            · replace h := if_t hc h
              obtain ⟨e1, e2, e3, e4, e5, e6, e7, e8, e9, e10⟩ := so10 h
              rw [hQ, e1, e2, e3, e4, e5, e6, e7, e8, e9, e10]; rw [hAe] at hD hS; exact W.vret hx hb hr (fun t ht hW => ⟨⟨(), rfl, trivial, by rw [ht]; exact hP, va_K.moved hW.alike hK, hD⟩, hS.F ht⟩) hS.2.2 d_M_clearNode_168
            · replace h := if_f hc h
              refine lv_aload_n hx hb d_M_clearNode_138 rfl (lv_at hl 0 rfl) ?_
              refine va_get (D := D) (ci := 10) (v := .ref (a 9)) (C := R_M) (T := F_M) (N := 53) hx hb hT in_M hown hK hP 0 rfl rfl 12 (by decide) (hT _ m1033) (fun _ h9 => h9) rfl d_M_clearNode_139 ?_
              refine zv_iconst hx hb d_M_clearNode_142 ?_
              refine lv_iload_n hx hb d_M_clearNode_143 rfl (lv_at hl 1 rfl) ?_
              refine zv_imul hx hb d_M_clearNode_144 ?_
              refine lv_iload hx hb d_M_clearNode_145 (lv_at hl 2 rfl) ?_
              refine zv_iadd hx hb d_M_clearNode_147 ?_
              refine zv_iconst hx hb d_M_clearNode_148 ?_
              obtain ⟨hin, h⟩ := gi_e h
              refine zv_iast hx hb hK hP hD hS 9 0 rfl rfl (Nat.le_of_ble_eq_true rfl) hin d_M_clearNode_149 (fun H locs hP hD hS => ?_)
              obtain ⟨M_firstOf_12, hv⟩ : ∃ z, z = (ui M_firstOf_10 ((2 * x1) + v4_9) 0) := ⟨_, rfl⟩
              replace h := bd_e hv h
              have hP : va_P D vwCl [(o_M a M_thrown M_period M_width M_nodes M_analysed M_gates M_startNode M_startChange M_startWay M_startBase M_startEarly M_startLate M_worstWith M_worstWithout M_all M_rowSize), ((a 1), .inl (cI, 48, .inl (ia M_kinds_1))), ((a 2), .inl (cI, 48, .inl (ia M_pins_2))), ((a 3), .inl (cI, 144, .inl (ia M_froms_3))), ((a 4), .inl (cI, 144, .inl (ia M_wireEarly_4))), ((a 5), .inl (cI, 144, .inl (ia M_wireLate_5))), ((a 6), .inl (cI, 144, .inl (ia M_senses_6))), ((a 7), .inl (cI, 288, .inl (ia M_delayEarly_7))), ((a 8), .inl (cI, 288, .inl (ia M_delayLate_8))), ((a 9), .inl (cI, 96, .inl (ia M_firstOf_12))), ((a 10), .inl (cI, 96, .inl (ia M_secondOf_11)))] H := by rw [hv]; exact hP
              have hD : va_D A [(o_M a M_thrown M_period M_width M_nodes M_analysed M_gates M_startNode M_startChange M_startWay M_startBase M_startEarly M_startLate M_worstWith M_worstWithout M_all M_rowSize), ((a 1), .inl (cI, 48, .inl (ia M_kinds_1))), ((a 2), .inl (cI, 48, .inl (ia M_pins_2))), ((a 3), .inl (cI, 144, .inl (ia M_froms_3))), ((a 4), .inl (cI, 144, .inl (ia M_wireEarly_4))), ((a 5), .inl (cI, 144, .inl (ia M_wireLate_5))), ((a 6), .inl (cI, 144, .inl (ia M_senses_6))), ((a 7), .inl (cI, 288, .inl (ia M_delayEarly_7))), ((a 8), .inl (cI, 288, .inl (ia M_delayLate_8))), ((a 9), .inl (cI, 96, .inl (ia M_firstOf_12))), ((a 10), .inl (cI, 96, .inl (ia M_secondOf_11)))] := by rw [hv]; exact hD
              refine lv_aload_n hx hb d_M_clearNode_150 rfl (lv_at hl 0 rfl) ?_
              refine va_get (D := D) (ci := 10) (v := .ref (a 10)) (C := R_M) (T := F_M) (N := 53) hx hb hT in_M hown hK hP 0 rfl rfl 13 (by decide) (hT _ m1034) (fun _ h9 => h9) rfl d_M_clearNode_151 ?_
              refine zv_iconst hx hb d_M_clearNode_154 ?_
              refine lv_iload_n hx hb d_M_clearNode_155 rfl (lv_at hl 1 rfl) ?_
              refine zv_imul hx hb d_M_clearNode_156 ?_
              refine lv_iload hx hb d_M_clearNode_157 (lv_at hl 2 rfl) ?_
              refine zv_iadd hx hb d_M_clearNode_159 ?_
              refine zv_iconst hx hb d_M_clearNode_160 ?_
              obtain ⟨hin, h⟩ := gi_e h
              refine zv_iast hx hb hK hP hD hS 10 0 rfl rfl (Nat.le_of_ble_eq_true rfl) hin d_M_clearNode_161 (fun H locs hP hD hS => ?_)
              obtain ⟨M_secondOf_13, hv⟩ : ∃ z, z = (ui M_secondOf_11 ((2 * x1) + v4_9) 0) := ⟨_, rfl⟩
              replace h := bd_e hv h
              have hP : va_P D vwCl [(o_M a M_thrown M_period M_width M_nodes M_analysed M_gates M_startNode M_startChange M_startWay M_startBase M_startEarly M_startLate M_worstWith M_worstWithout M_all M_rowSize), ((a 1), .inl (cI, 48, .inl (ia M_kinds_1))), ((a 2), .inl (cI, 48, .inl (ia M_pins_2))), ((a 3), .inl (cI, 144, .inl (ia M_froms_3))), ((a 4), .inl (cI, 144, .inl (ia M_wireEarly_4))), ((a 5), .inl (cI, 144, .inl (ia M_wireLate_5))), ((a 6), .inl (cI, 144, .inl (ia M_senses_6))), ((a 7), .inl (cI, 288, .inl (ia M_delayEarly_7))), ((a 8), .inl (cI, 288, .inl (ia M_delayLate_8))), ((a 9), .inl (cI, 96, .inl (ia M_firstOf_12))), ((a 10), .inl (cI, 96, .inl (ia M_secondOf_13)))] H := by rw [hv]; exact hP
              have hD : va_D A [(o_M a M_thrown M_period M_width M_nodes M_analysed M_gates M_startNode M_startChange M_startWay M_startBase M_startEarly M_startLate M_worstWith M_worstWithout M_all M_rowSize), ((a 1), .inl (cI, 48, .inl (ia M_kinds_1))), ((a 2), .inl (cI, 48, .inl (ia M_pins_2))), ((a 3), .inl (cI, 144, .inl (ia M_froms_3))), ((a 4), .inl (cI, 144, .inl (ia M_wireEarly_4))), ((a 5), .inl (cI, 144, .inl (ia M_wireLate_5))), ((a 6), .inl (cI, 144, .inl (ia M_senses_6))), ((a 7), .inl (cI, 288, .inl (ia M_delayEarly_7))), ((a 8), .inl (cI, 288, .inl (ia M_delayLate_8))), ((a 9), .inl (cI, 96, .inl (ia M_firstOf_12))), ((a 10), .inl (cI, 96, .inl (ia M_secondOf_13)))] := by rw [hv]; exact hD
              refine lv_iinc (v := iI (v4_9 + 1)) (k := 2) (lv' := [(4, .int (iI (v4_9 + 1))), (0, .ref (a 0)), (1, .int (iI x1))]) hx hb d_M_clearNode_162 hl rfl (iI_add _ _) (by decide) rfl (fun ls hl => ?_)
              refine lv_goto hx hb d_M_clearNode_165 rfl ?_
              exact ih132 (v4_9 + 1) M_firstOf_12 M_secondOf_13 H locs ls hP hD hS (lv_sub hl [1, 2, 0] rfl) h
        exact hl132 F 0 M_firstOf M_secondOf H locs ls hP hD hS (lv_sub hl [1, 2, 0] rfl) h
      · replace h := if_f hc h
        refine lv_aload_n hx hb d_M_clearNode_23 rfl (lv_at hl 0 rfl) ?_
        refine va_get (D := D) (ci := 10) (v := .ref (a 3)) (C := R_M) (T := F_M) (N := 53) hx hb hT in_M hown hK hP 0 rfl rfl 6 (by decide) (hT _ m1027) (fun _ h9 => h9) rfl d_M_clearNode_24 ?_
        refine zv_iconst hx hb d_M_clearNode_27 ?_
        refine lv_iload_n hx hb d_M_clearNode_28 rfl (lv_at hl 1 rfl) ?_
        refine zv_imul hx hb d_M_clearNode_29 ?_
        refine lv_iload hx hb d_M_clearNode_30 (lv_at hl 2 rfl) ?_
        refine zv_iadd hx hb d_M_clearNode_32 ?_
        refine lv_ldc hx hb hown hk0 d_M_clearNode_33 ?_
        obtain ⟨hin, h⟩ := gi_e h
        refine zv_iast hx hb hK hP hD hS 3 0 rfl rfl (Nat.le_of_ble_eq_true rfl) hin d_M_clearNode_35 (fun H locs hP hD hS => ?_)
        obtain ⟨M_froms_14, hv⟩ : ∃ z, z = (ui M_froms_3 ((3 * x1) + v4) (-2147483648)) := ⟨_, rfl⟩
        replace h := bd_e hv h
        have hP : va_P D vwCl [(o_M a M_thrown M_period M_width M_nodes M_analysed M_gates M_startNode M_startChange M_startWay M_startBase M_startEarly M_startLate M_worstWith M_worstWithout M_all M_rowSize), ((a 1), .inl (cI, 48, .inl (ia M_kinds_1))), ((a 2), .inl (cI, 48, .inl (ia M_pins_2))), ((a 3), .inl (cI, 144, .inl (ia M_froms_14))), ((a 4), .inl (cI, 144, .inl (ia M_wireEarly_4))), ((a 5), .inl (cI, 144, .inl (ia M_wireLate_5))), ((a 6), .inl (cI, 144, .inl (ia M_senses_6))), ((a 7), .inl (cI, 288, .inl (ia M_delayEarly_7))), ((a 8), .inl (cI, 288, .inl (ia M_delayLate_8))), ((a 9), .inl (cI, 96, .inl (ia M_firstOf))), ((a 10), .inl (cI, 96, .inl (ia M_secondOf)))] H := by rw [hv]; exact hP
        have hD : va_D A [(o_M a M_thrown M_period M_width M_nodes M_analysed M_gates M_startNode M_startChange M_startWay M_startBase M_startEarly M_startLate M_worstWith M_worstWithout M_all M_rowSize), ((a 1), .inl (cI, 48, .inl (ia M_kinds_1))), ((a 2), .inl (cI, 48, .inl (ia M_pins_2))), ((a 3), .inl (cI, 144, .inl (ia M_froms_14))), ((a 4), .inl (cI, 144, .inl (ia M_wireEarly_4))), ((a 5), .inl (cI, 144, .inl (ia M_wireLate_5))), ((a 6), .inl (cI, 144, .inl (ia M_senses_6))), ((a 7), .inl (cI, 288, .inl (ia M_delayEarly_7))), ((a 8), .inl (cI, 288, .inl (ia M_delayLate_8))), ((a 9), .inl (cI, 96, .inl (ia M_firstOf))), ((a 10), .inl (cI, 96, .inl (ia M_secondOf)))] := by rw [hv]; exact hD
        refine lv_aload_n hx hb d_M_clearNode_36 rfl (lv_at hl 0 rfl) ?_
        refine va_get (D := D) (ci := 10) (v := .ref (a 4)) (C := R_M) (T := F_M) (N := 53) hx hb hT in_M hown hK hP 0 rfl rfl 7 (by decide) (hT _ m1028) (fun _ h9 => h9) rfl d_M_clearNode_37 ?_
        refine zv_iconst hx hb d_M_clearNode_40 ?_
        refine lv_iload_n hx hb d_M_clearNode_41 rfl (lv_at hl 1 rfl) ?_
        refine zv_imul hx hb d_M_clearNode_42 ?_
        refine lv_iload hx hb d_M_clearNode_43 (lv_at hl 2 rfl) ?_
        refine zv_iadd hx hb d_M_clearNode_45 ?_
        refine zv_iconst hx hb d_M_clearNode_46 ?_
        obtain ⟨hin, h⟩ := gi_e h
        refine zv_iast hx hb hK hP hD hS 4 0 rfl rfl (Nat.le_of_ble_eq_true rfl) hin d_M_clearNode_47 (fun H locs hP hD hS => ?_)
        obtain ⟨M_wireEarly_15, hv⟩ : ∃ z, z = (ui M_wireEarly_4 ((3 * x1) + v4) 0) := ⟨_, rfl⟩
        replace h := bd_e hv h
        have hP : va_P D vwCl [(o_M a M_thrown M_period M_width M_nodes M_analysed M_gates M_startNode M_startChange M_startWay M_startBase M_startEarly M_startLate M_worstWith M_worstWithout M_all M_rowSize), ((a 1), .inl (cI, 48, .inl (ia M_kinds_1))), ((a 2), .inl (cI, 48, .inl (ia M_pins_2))), ((a 3), .inl (cI, 144, .inl (ia M_froms_14))), ((a 4), .inl (cI, 144, .inl (ia M_wireEarly_15))), ((a 5), .inl (cI, 144, .inl (ia M_wireLate_5))), ((a 6), .inl (cI, 144, .inl (ia M_senses_6))), ((a 7), .inl (cI, 288, .inl (ia M_delayEarly_7))), ((a 8), .inl (cI, 288, .inl (ia M_delayLate_8))), ((a 9), .inl (cI, 96, .inl (ia M_firstOf))), ((a 10), .inl (cI, 96, .inl (ia M_secondOf)))] H := by rw [hv]; exact hP
        have hD : va_D A [(o_M a M_thrown M_period M_width M_nodes M_analysed M_gates M_startNode M_startChange M_startWay M_startBase M_startEarly M_startLate M_worstWith M_worstWithout M_all M_rowSize), ((a 1), .inl (cI, 48, .inl (ia M_kinds_1))), ((a 2), .inl (cI, 48, .inl (ia M_pins_2))), ((a 3), .inl (cI, 144, .inl (ia M_froms_14))), ((a 4), .inl (cI, 144, .inl (ia M_wireEarly_15))), ((a 5), .inl (cI, 144, .inl (ia M_wireLate_5))), ((a 6), .inl (cI, 144, .inl (ia M_senses_6))), ((a 7), .inl (cI, 288, .inl (ia M_delayEarly_7))), ((a 8), .inl (cI, 288, .inl (ia M_delayLate_8))), ((a 9), .inl (cI, 96, .inl (ia M_firstOf))), ((a 10), .inl (cI, 96, .inl (ia M_secondOf)))] := by rw [hv]; exact hD
        refine lv_aload_n hx hb d_M_clearNode_48 rfl (lv_at hl 0 rfl) ?_
        refine va_get (D := D) (ci := 10) (v := .ref (a 5)) (C := R_M) (T := F_M) (N := 53) hx hb hT in_M hown hK hP 0 rfl rfl 8 (by decide) (hT _ m1029) (fun _ h9 => h9) rfl d_M_clearNode_49 ?_
        refine zv_iconst hx hb d_M_clearNode_52 ?_
        refine lv_iload_n hx hb d_M_clearNode_53 rfl (lv_at hl 1 rfl) ?_
        refine zv_imul hx hb d_M_clearNode_54 ?_
        refine lv_iload hx hb d_M_clearNode_55 (lv_at hl 2 rfl) ?_
        refine zv_iadd hx hb d_M_clearNode_57 ?_
        refine zv_iconst hx hb d_M_clearNode_58 ?_
        obtain ⟨hin, h⟩ := gi_e h
        refine zv_iast hx hb hK hP hD hS 5 0 rfl rfl (Nat.le_of_ble_eq_true rfl) hin d_M_clearNode_59 (fun H locs hP hD hS => ?_)
        obtain ⟨M_wireLate_16, hv⟩ : ∃ z, z = (ui M_wireLate_5 ((3 * x1) + v4) 0) := ⟨_, rfl⟩
        replace h := bd_e hv h
        have hP : va_P D vwCl [(o_M a M_thrown M_period M_width M_nodes M_analysed M_gates M_startNode M_startChange M_startWay M_startBase M_startEarly M_startLate M_worstWith M_worstWithout M_all M_rowSize), ((a 1), .inl (cI, 48, .inl (ia M_kinds_1))), ((a 2), .inl (cI, 48, .inl (ia M_pins_2))), ((a 3), .inl (cI, 144, .inl (ia M_froms_14))), ((a 4), .inl (cI, 144, .inl (ia M_wireEarly_15))), ((a 5), .inl (cI, 144, .inl (ia M_wireLate_16))), ((a 6), .inl (cI, 144, .inl (ia M_senses_6))), ((a 7), .inl (cI, 288, .inl (ia M_delayEarly_7))), ((a 8), .inl (cI, 288, .inl (ia M_delayLate_8))), ((a 9), .inl (cI, 96, .inl (ia M_firstOf))), ((a 10), .inl (cI, 96, .inl (ia M_secondOf)))] H := by rw [hv]; exact hP
        have hD : va_D A [(o_M a M_thrown M_period M_width M_nodes M_analysed M_gates M_startNode M_startChange M_startWay M_startBase M_startEarly M_startLate M_worstWith M_worstWithout M_all M_rowSize), ((a 1), .inl (cI, 48, .inl (ia M_kinds_1))), ((a 2), .inl (cI, 48, .inl (ia M_pins_2))), ((a 3), .inl (cI, 144, .inl (ia M_froms_14))), ((a 4), .inl (cI, 144, .inl (ia M_wireEarly_15))), ((a 5), .inl (cI, 144, .inl (ia M_wireLate_16))), ((a 6), .inl (cI, 144, .inl (ia M_senses_6))), ((a 7), .inl (cI, 288, .inl (ia M_delayEarly_7))), ((a 8), .inl (cI, 288, .inl (ia M_delayLate_8))), ((a 9), .inl (cI, 96, .inl (ia M_firstOf))), ((a 10), .inl (cI, 96, .inl (ia M_secondOf)))] := by rw [hv]; exact hD
        refine lv_aload_n hx hb d_M_clearNode_60 rfl (lv_at hl 0 rfl) ?_
        refine va_get (D := D) (ci := 10) (v := .ref (a 6)) (C := R_M) (T := F_M) (N := 53) hx hb hT in_M hown hK hP 0 rfl rfl 9 (by decide) (hT _ m1030) (fun _ h9 => h9) rfl d_M_clearNode_61 ?_
        refine zv_iconst hx hb d_M_clearNode_64 ?_
        refine lv_iload_n hx hb d_M_clearNode_65 rfl (lv_at hl 1 rfl) ?_
        refine zv_imul hx hb d_M_clearNode_66 ?_
        refine lv_iload hx hb d_M_clearNode_67 (lv_at hl 2 rfl) ?_
        refine zv_iadd hx hb d_M_clearNode_69 ?_
        refine zv_iconst hx hb d_M_clearNode_70 ?_
        obtain ⟨hin, h⟩ := gi_e h
        refine zv_iast hx hb hK hP hD hS 6 0 rfl rfl (Nat.le_of_ble_eq_true rfl) hin d_M_clearNode_71 (fun H locs hP hD hS => ?_)
        obtain ⟨M_senses_17, hv⟩ : ∃ z, z = (ui M_senses_6 ((3 * x1) + v4) 0) := ⟨_, rfl⟩
        replace h := bd_e hv h
        have hP : va_P D vwCl [(o_M a M_thrown M_period M_width M_nodes M_analysed M_gates M_startNode M_startChange M_startWay M_startBase M_startEarly M_startLate M_worstWith M_worstWithout M_all M_rowSize), ((a 1), .inl (cI, 48, .inl (ia M_kinds_1))), ((a 2), .inl (cI, 48, .inl (ia M_pins_2))), ((a 3), .inl (cI, 144, .inl (ia M_froms_14))), ((a 4), .inl (cI, 144, .inl (ia M_wireEarly_15))), ((a 5), .inl (cI, 144, .inl (ia M_wireLate_16))), ((a 6), .inl (cI, 144, .inl (ia M_senses_17))), ((a 7), .inl (cI, 288, .inl (ia M_delayEarly_7))), ((a 8), .inl (cI, 288, .inl (ia M_delayLate_8))), ((a 9), .inl (cI, 96, .inl (ia M_firstOf))), ((a 10), .inl (cI, 96, .inl (ia M_secondOf)))] H := by rw [hv]; exact hP
        have hD : va_D A [(o_M a M_thrown M_period M_width M_nodes M_analysed M_gates M_startNode M_startChange M_startWay M_startBase M_startEarly M_startLate M_worstWith M_worstWithout M_all M_rowSize), ((a 1), .inl (cI, 48, .inl (ia M_kinds_1))), ((a 2), .inl (cI, 48, .inl (ia M_pins_2))), ((a 3), .inl (cI, 144, .inl (ia M_froms_14))), ((a 4), .inl (cI, 144, .inl (ia M_wireEarly_15))), ((a 5), .inl (cI, 144, .inl (ia M_wireLate_16))), ((a 6), .inl (cI, 144, .inl (ia M_senses_17))), ((a 7), .inl (cI, 288, .inl (ia M_delayEarly_7))), ((a 8), .inl (cI, 288, .inl (ia M_delayLate_8))), ((a 9), .inl (cI, 96, .inl (ia M_firstOf))), ((a 10), .inl (cI, 96, .inl (ia M_secondOf)))] := by rw [hv]; exact hD
        refine zv_iconst hx hb d_M_clearNode_72 ?_
        refine lv_istore (lv' := [(5, .int (iI 0)), (0, .ref (a 0)), (1, .int (iI x1)), (4, .int (iI v4))]) hx hb d_M_clearNode_73 hl (by decide) rfl (fun ls hl => ?_)
        have hl75 : ∀ (nf : Nat) (v5 : Int) (M_delayEarly_18 : Int → Int) (M_delayLate_19 : Int → Int) (H : Heap) (locs : List Loc) (ls : Array Slot), va_P D vwCl [(o_M a M_thrown M_period M_width M_nodes M_analysed M_gates M_startNode M_startChange M_startWay M_startBase M_startEarly M_startLate M_worstWith M_worstWithout M_all M_rowSize), ((a 1), .inl (cI, 48, .inl (ia M_kinds_1))), ((a 2), .inl (cI, 48, .inl (ia M_pins_2))), ((a 3), .inl (cI, 144, .inl (ia M_froms_14))), ((a 4), .inl (cI, 144, .inl (ia M_wireEarly_15))), ((a 5), .inl (cI, 144, .inl (ia M_wireLate_16))), ((a 6), .inl (cI, 144, .inl (ia M_senses_17))), ((a 7), .inl (cI, 288, .inl (ia M_delayEarly_18))), ((a 8), .inl (cI, 288, .inl (ia M_delayLate_19))), ((a 9), .inl (cI, 96, .inl (ia M_firstOf))), ((a 10), .inl (cI, 96, .inl (ia M_secondOf)))] H → va_D A [(o_M a M_thrown M_period M_width M_nodes M_analysed M_gates M_startNode M_startChange M_startWay M_startBase M_startEarly M_startLate M_worstWith M_worstWithout M_all M_rowSize), ((a 1), .inl (cI, 48, .inl (ia M_kinds_1))), ((a 2), .inl (cI, 48, .inl (ia M_pins_2))), ((a 3), .inl (cI, 144, .inl (ia M_froms_14))), ((a 4), .inl (cI, 144, .inl (ia M_wireEarly_15))), ((a 5), .inl (cI, 144, .inl (ia M_wireLate_16))), ((a 6), .inl (cI, 144, .inl (ia M_senses_17))), ((a 7), .inl (cI, 288, .inl (ia M_delayEarly_18))), ((a 8), .inl (cI, 288, .inl (ia M_delayLate_19))), ((a 9), .inl (cI, 96, .inl (ia M_firstOf))), ((a 10), .inl (cI, 96, .inl (ia M_secondOf)))] → va_S A s.heap H locs → lv_has ls 6 [(0, .ref (a 0)), (1, .int (iI x1)), (4, .int (iI v4)), (5, .int (iI v5))] → lq3 (f_M_clearNode_b75 F x1 v4 self17 M_froms_14 M_wireEarly_15 M_wireLate_16 M_senses_17) nf v5 M_delayEarly_18 M_delayLate_19 = some (z_M_kinds, z_M_pins, z_M_froms, z_M_wireEarly, z_M_wireLate, z_M_senses, z_M_delayEarly, z_M_delayLate, z_M_firstOf, z_M_secondOf) → W p l e (headSpec w_M_clearNode rm_M_clearNode).room s m args below meth c H locs 0 0 Q (F0 m 75 ls []) := by
          intro n75
          induction n75 with
          | zero => intro v5 M_delayEarly_18 M_delayLate_19 H locs ls hP hD hS hl h; exact no_some h
          | succ n75 ih75 =>
            intro v5 M_delayEarly_18 M_delayLate_19 H locs ls hP hD hS hl h
            replace h : f_M_clearNode_b75 F x1 v4 self17 M_froms_14 M_wireEarly_15 M_wireLate_16 M_senses_17 (lq3 (f_M_clearNode_b75 F x1 v4 self17 M_froms_14 M_wireEarly_15 M_wireLate_16 M_senses_17) n75) v5 M_delayEarly_18 M_delayLate_19 = some (z_M_kinds, z_M_pins, z_M_froms, z_M_wireEarly, z_M_wireLate, z_M_senses, z_M_delayEarly, z_M_delayLate, z_M_firstOf, z_M_secondOf) := h
            obtain ⟨self75, hs75⟩ : ∃ z, z = lq3 (f_M_clearNode_b75 F x1 v4 self17 M_froms_14 M_wireEarly_15 M_wireLate_16 M_senses_17) n75 := ⟨_, rfl⟩
            rw [← hs75] at h ih75
            rw [f_M_clearNode_b75] at h
            refine lv_iload hx hb d_M_clearNode_75 (lv_at hl 3 rfl) ?_
            refine zv_iconst hx hb d_M_clearNode_77 ?_
            obtain ⟨hg0, h⟩ := gr_e h
            refine zc_ge hx hb d_M_clearNode_78 rfl hg0 (by decide) (fun hc => ?_) (fun hc => ?_)
            · replace h := if_t hc h
              refine lv_iinc (v := iI (v4 + 1)) (k := 2) (lv' := [(4, .int (iI (v4 + 1))), (0, .ref (a 0)), (1, .int (iI x1)), (5, .int (iI v5))]) hx hb d_M_clearNode_123 hl rfl (iI_add _ _) (by decide) rfl (fun ls hl => ?_)
              refine lv_goto hx hb d_M_clearNode_126 rfl ?_
              exact ih17 (v4 + 1) M_froms_14 M_wireEarly_15 M_wireLate_16 M_senses_17 M_delayEarly_18 M_delayLate_19 H locs ls hP hD hS (lv_sub hl [1, 2, 0] rfl) h
            · replace h := if_f hc h
              refine lv_aload_n hx hb d_M_clearNode_81 rfl (lv_at hl 0 rfl) ?_
              refine va_get (D := D) (ci := 10) (v := .ref (a 7)) (C := R_M) (T := F_M) (N := 53) hx hb hT in_M hown hK hP 0 rfl rfl 10 (by decide) (hT _ m1031) (fun _ h9 => h9) rfl d_M_clearNode_82 ?_
              refine lv_bipush (v := iI 6) hx hb d_M_clearNode_85 (by decide) ?_
              refine lv_iload_n hx hb d_M_clearNode_87 rfl (lv_at hl 1 rfl) ?_
              refine zv_imul hx hb d_M_clearNode_88 ?_
              refine zv_iconst hx hb d_M_clearNode_89 ?_
              refine lv_iload hx hb d_M_clearNode_90 (lv_at hl 2 rfl) ?_
              refine zv_imul hx hb d_M_clearNode_92 ?_
              refine zv_iadd hx hb d_M_clearNode_93 ?_
              refine lv_iload hx hb d_M_clearNode_94 (lv_at hl 3 rfl) ?_
              refine zv_iadd hx hb d_M_clearNode_96 ?_
              refine zv_iconst hx hb d_M_clearNode_97 ?_
              obtain ⟨hin, h⟩ := gi_e h
              refine zv_iast hx hb hK hP hD hS 7 0 rfl rfl (Nat.le_of_ble_eq_true rfl) hin d_M_clearNode_98 (fun H locs hP hD hS => ?_)
              obtain ⟨M_delayEarly_20, hv⟩ : ∃ z, z = (ui M_delayEarly_18 (((6 * x1) + (2 * v4)) + v5) 0) := ⟨_, rfl⟩
              replace h := bd_e hv h
              have hP : va_P D vwCl [(o_M a M_thrown M_period M_width M_nodes M_analysed M_gates M_startNode M_startChange M_startWay M_startBase M_startEarly M_startLate M_worstWith M_worstWithout M_all M_rowSize), ((a 1), .inl (cI, 48, .inl (ia M_kinds_1))), ((a 2), .inl (cI, 48, .inl (ia M_pins_2))), ((a 3), .inl (cI, 144, .inl (ia M_froms_14))), ((a 4), .inl (cI, 144, .inl (ia M_wireEarly_15))), ((a 5), .inl (cI, 144, .inl (ia M_wireLate_16))), ((a 6), .inl (cI, 144, .inl (ia M_senses_17))), ((a 7), .inl (cI, 288, .inl (ia M_delayEarly_20))), ((a 8), .inl (cI, 288, .inl (ia M_delayLate_19))), ((a 9), .inl (cI, 96, .inl (ia M_firstOf))), ((a 10), .inl (cI, 96, .inl (ia M_secondOf)))] H := by rw [hv]; exact hP
              have hD : va_D A [(o_M a M_thrown M_period M_width M_nodes M_analysed M_gates M_startNode M_startChange M_startWay M_startBase M_startEarly M_startLate M_worstWith M_worstWithout M_all M_rowSize), ((a 1), .inl (cI, 48, .inl (ia M_kinds_1))), ((a 2), .inl (cI, 48, .inl (ia M_pins_2))), ((a 3), .inl (cI, 144, .inl (ia M_froms_14))), ((a 4), .inl (cI, 144, .inl (ia M_wireEarly_15))), ((a 5), .inl (cI, 144, .inl (ia M_wireLate_16))), ((a 6), .inl (cI, 144, .inl (ia M_senses_17))), ((a 7), .inl (cI, 288, .inl (ia M_delayEarly_20))), ((a 8), .inl (cI, 288, .inl (ia M_delayLate_19))), ((a 9), .inl (cI, 96, .inl (ia M_firstOf))), ((a 10), .inl (cI, 96, .inl (ia M_secondOf)))] := by rw [hv]; exact hD
              refine lv_aload_n hx hb d_M_clearNode_99 rfl (lv_at hl 0 rfl) ?_
              refine va_get (D := D) (ci := 10) (v := .ref (a 8)) (C := R_M) (T := F_M) (N := 53) hx hb hT in_M hown hK hP 0 rfl rfl 11 (by decide) (hT _ m1032) (fun _ h9 => h9) rfl d_M_clearNode_100 ?_
              refine lv_bipush (v := iI 6) hx hb d_M_clearNode_103 (by decide) ?_
              refine lv_iload_n hx hb d_M_clearNode_105 rfl (lv_at hl 1 rfl) ?_
              refine zv_imul hx hb d_M_clearNode_106 ?_
              refine zv_iconst hx hb d_M_clearNode_107 ?_
              refine lv_iload hx hb d_M_clearNode_108 (lv_at hl 2 rfl) ?_
              refine zv_imul hx hb d_M_clearNode_110 ?_
              refine zv_iadd hx hb d_M_clearNode_111 ?_
              refine lv_iload hx hb d_M_clearNode_112 (lv_at hl 3 rfl) ?_
              refine zv_iadd hx hb d_M_clearNode_114 ?_
              refine zv_iconst hx hb d_M_clearNode_115 ?_
              obtain ⟨hin, h⟩ := gi_e h
              refine zv_iast hx hb hK hP hD hS 8 0 rfl rfl (Nat.le_of_ble_eq_true rfl) hin d_M_clearNode_116 (fun H locs hP hD hS => ?_)
              obtain ⟨M_delayLate_21, hv⟩ : ∃ z, z = (ui M_delayLate_19 (((6 * x1) + (2 * v4)) + v5) 0) := ⟨_, rfl⟩
              replace h := bd_e hv h
              have hP : va_P D vwCl [(o_M a M_thrown M_period M_width M_nodes M_analysed M_gates M_startNode M_startChange M_startWay M_startBase M_startEarly M_startLate M_worstWith M_worstWithout M_all M_rowSize), ((a 1), .inl (cI, 48, .inl (ia M_kinds_1))), ((a 2), .inl (cI, 48, .inl (ia M_pins_2))), ((a 3), .inl (cI, 144, .inl (ia M_froms_14))), ((a 4), .inl (cI, 144, .inl (ia M_wireEarly_15))), ((a 5), .inl (cI, 144, .inl (ia M_wireLate_16))), ((a 6), .inl (cI, 144, .inl (ia M_senses_17))), ((a 7), .inl (cI, 288, .inl (ia M_delayEarly_20))), ((a 8), .inl (cI, 288, .inl (ia M_delayLate_21))), ((a 9), .inl (cI, 96, .inl (ia M_firstOf))), ((a 10), .inl (cI, 96, .inl (ia M_secondOf)))] H := by rw [hv]; exact hP
              have hD : va_D A [(o_M a M_thrown M_period M_width M_nodes M_analysed M_gates M_startNode M_startChange M_startWay M_startBase M_startEarly M_startLate M_worstWith M_worstWithout M_all M_rowSize), ((a 1), .inl (cI, 48, .inl (ia M_kinds_1))), ((a 2), .inl (cI, 48, .inl (ia M_pins_2))), ((a 3), .inl (cI, 144, .inl (ia M_froms_14))), ((a 4), .inl (cI, 144, .inl (ia M_wireEarly_15))), ((a 5), .inl (cI, 144, .inl (ia M_wireLate_16))), ((a 6), .inl (cI, 144, .inl (ia M_senses_17))), ((a 7), .inl (cI, 288, .inl (ia M_delayEarly_20))), ((a 8), .inl (cI, 288, .inl (ia M_delayLate_21))), ((a 9), .inl (cI, 96, .inl (ia M_firstOf))), ((a 10), .inl (cI, 96, .inl (ia M_secondOf)))] := by rw [hv]; exact hD
              refine lv_iinc (v := iI (v5 + 1)) (k := 3) (lv' := [(5, .int (iI (v5 + 1))), (0, .ref (a 0)), (1, .int (iI x1)), (4, .int (iI v4))]) hx hb d_M_clearNode_117 hl rfl (iI_add _ _) (by decide) rfl (fun ls hl => ?_)
              refine lv_goto hx hb d_M_clearNode_120 rfl ?_
              exact ih75 (v5 + 1) M_delayEarly_20 M_delayLate_21 H locs ls hP hD hS (lv_sub hl [1, 2, 3, 0] rfl) h
        exact hl75 F 0 M_delayEarly_7 M_delayLate_8 H locs ls hP hD hS (lv_sub hl [1, 2, 3, 0] rfl) h
  exact hl17 F 0 M_froms M_wireEarly M_wireLate M_senses M_delayEarly M_delayLate H locs ls hP hD hS (lv_sub hl [1, 2, 0] rfl) h
abbrev rm_M_add : Room := { frames := 1, cells := 0, slots := 0, locals := 25 }
set_option maxHeartbeats 4000000 in
set_option maxRecDepth 100000 in
theorem c_M_add (l : Launch) (D : va_G) (cI cJ cZ : ClassId) (F : Nat) (a : Nat → Nat) (M_thrown : Int) (M_period : Int) (M_width : Int) (M_nodes : Int) (M_analysed : Int) (M_gates : Int) (M_startNode : Int) (M_startChange : Int) (M_startWay : Int) (M_startBase : Int) (M_startEarly : Int) (M_startLate : Int) (M_worstWith : Int) (M_worstWithout : Int) (M_all : Int64) (M_rowSize : Int) (M_kinds : Int → Int) (M_pins : Int → Int) (M_froms : Int → Int) (M_wireEarly : Int → Int) (M_wireLate : Int → Int) (M_senses : Int → Int) (M_delayEarly : Int → Int) (M_delayLate : Int → Int) (M_firstOf : Int → Int) (M_secondOf : Int → Int) (x1 : Int) (x2 : Int) (r : Int) (z_M_nodes : Int) (z_M_kinds : Int → Int) (z_M_pins : Int → Int) (z_M_froms : Int → Int) (z_M_wireEarly : Int → Int) (z_M_wireLate : Int → Int) (z_M_senses : Int → Int) (z_M_delayEarly : Int → Int) (z_M_delayLate : Int → Int) (z_M_firstOf : Int → Int) (z_M_secondOf : Int → Int) (z_M_analysed : Int) (sz : Nat) (h : f_M_add F M_nodes M_analysed M_kinds M_pins M_froms M_wireEarly M_wireLate M_senses M_delayEarly M_delayLate M_firstOf M_secondOf x1 x2 = some (r, z_M_nodes, z_M_kinds, z_M_pins, z_M_froms, z_M_wireEarly, z_M_wireLate, z_M_senses, z_M_delayEarly, z_M_delayLate, z_M_firstOf, z_M_secondOf, z_M_analysed)) : Met l y_M_add w_M_add rm_M_add (PC D [(cI, .int), (cJ, .long), (cZ, .boolean)] [.ref (a 0), .int (iI x1), .int (iI x2)] ([(o_M a M_thrown M_period M_width M_nodes M_analysed M_gates M_startNode M_startChange M_startWay M_startBase M_startEarly M_startLate M_worstWith M_worstWithout M_all M_rowSize), ((a 1), .inl (cI, 48, .inl (ia M_kinds))), ((a 2), .inl (cI, 48, .inl (ia M_pins))), ((a 3), .inl (cI, 144, .inl (ia M_froms))), ((a 4), .inl (cI, 144, .inl (ia M_wireEarly))), ((a 5), .inl (cI, 144, .inl (ia M_wireLate))), ((a 6), .inl (cI, 144, .inl (ia M_senses))), ((a 7), .inl (cI, 288, .inl (ia M_delayEarly))), ((a 8), .inl (cI, 288, .inl (ia M_delayLate))), ((a 9), .inl (cI, 96, .inl (ia M_firstOf))), ((a 10), .inl (cI, 96, .inl (ia M_secondOf)))]) sz) (QI D [(cI, .int), (cJ, .long), (cZ, .boolean)] ([(o_M a M_thrown M_period M_width M_nodes M_analysed M_gates M_startNode M_startChange M_startWay M_startBase M_startEarly M_startLate M_worstWith M_worstWithout M_all M_rowSize), ((a 1), .inl (cI, 48, .inl (ia M_kinds))), ((a 2), .inl (cI, 48, .inl (ia M_pins))), ((a 3), .inl (cI, 144, .inl (ia M_froms))), ((a 4), .inl (cI, 144, .inl (ia M_wireEarly))), ((a 5), .inl (cI, 144, .inl (ia M_wireLate))), ((a 6), .inl (cI, 144, .inl (ia M_senses))), ((a 7), .inl (cI, 288, .inl (ia M_delayEarly))), ((a 8), .inl (cI, 288, .inl (ia M_delayLate))), ((a 9), .inl (cI, 96, .inl (ia M_firstOf))), ((a 10), .inl (cI, 96, .inl (ia M_secondOf)))]) sz r ([(o_M a M_thrown M_period M_width z_M_nodes z_M_analysed M_gates M_startNode M_startChange M_startWay M_startBase M_startEarly M_startLate M_worstWith M_worstWithout M_all M_rowSize), ((a 1), .inl (cI, 48, .inl (ia z_M_kinds))), ((a 2), .inl (cI, 48, .inl (ia z_M_pins))), ((a 3), .inl (cI, 144, .inl (ia z_M_froms))), ((a 4), .inl (cI, 144, .inl (ia z_M_wireEarly))), ((a 5), .inl (cI, 144, .inl (ia z_M_wireLate))), ((a 6), .inl (cI, 144, .inl (ia z_M_senses))), ((a 7), .inl (cI, 288, .inl (ia z_M_delayEarly))), ((a 8), .inl (cI, 288, .inl (ia z_M_delayLate))), ((a 9), .inl (cI, 96, .inl (ia z_M_firstOf))), ((a 10), .inl (cI, 96, .inl (ia z_M_secondOf)))])) 0 0 (va_A ([(o_M a M_thrown M_period M_width M_nodes M_analysed M_gates M_startNode M_startChange M_startWay M_startBase M_startEarly M_startLate M_worstWith M_worstWithout M_all M_rowSize), ((a 1), .inl (cI, 48, .inl (ia M_kinds))), ((a 2), .inl (cI, 48, .inl (ia M_pins))), ((a 3), .inl (cI, 144, .inl (ia M_froms))), ((a 4), .inl (cI, 144, .inl (ia M_wireEarly))), ((a 5), .inl (cI, 144, .inl (ia M_wireLate))), ((a 6), .inl (cI, 144, .inl (ia M_senses))), ((a 7), .inl (cI, 288, .inl (ia M_delayEarly))), ((a 8), .inl (cI, 288, .inl (ia M_delayLate))), ((a 9), .inl (cI, 96, .inl (ia M_firstOf))), ((a 10), .inl (cI, 96, .inl (ia M_secondOf)))]) sz) := by
  refine Met.ofW (cc := prog_12_method_4_code) (maxL := 3) (ret := (Option.some Jvm.ClassFile.FieldType.int)) (by decide) rfl ?_
  intro p e s m args below meth c s₁ B hml hv
  obtain ⟨rfl, hsz, hP, hK, hD0, hN⟩ := hv
  have hx := B.exec
  have hb := B.bytes
  have hr := B.returns
  have hts := atoms_spec (ws := w_M_add) B.pre
  have hown : s.vm.findClass R_M = some m.cls := findClass_of_methodNamed B.named
  have hlocks := B.notSynchronized
  subst hsz
  have hD := hD0.self (sz := s.heap.size)
  obtain ⟨A, hAe⟩ : ∃ A, A = va_A ([(o_M a M_thrown M_period M_width M_nodes M_analysed M_gates M_startNode M_startChange M_startWay M_startBase M_startEarly M_startLate M_worstWith M_worstWithout M_all M_rowSize), ((a 1), .inl (cI, 48, .inl (ia M_kinds))), ((a 2), .inl (cI, 48, .inl (ia M_pins))), ((a 3), .inl (cI, 144, .inl (ia M_froms))), ((a 4), .inl (cI, 144, .inl (ia M_wireEarly))), ((a 5), .inl (cI, 144, .inl (ia M_wireLate))), ((a 6), .inl (cI, 144, .inl (ia M_senses))), ((a 7), .inl (cI, 288, .inl (ia M_delayEarly))), ((a 8), .inl (cI, 288, .inl (ia M_delayLate))), ((a 9), .inl (cI, 96, .inl (ia M_firstOf))), ((a 10), .inl (cI, 96, .inl (ia M_secondOf)))]) s.heap.size := ⟨_, rfl⟩
  rw [← hAe] at hD
  have hA : ∀ q : Nat, s.heap.size ≤ q → A q := fun q h => by rw [hAe]; exact Or.inr h
  have hS : va_S A s.heap s.heap [] := va_S.rf
  have hl := lv_entry ([.ref (a 0), .int (iI x1), .int (iI x2)]) (n := 3) (Nat.le_of_ble_eq_true rfl)
  rw [lg_entry_eq]
  generalize (lg_sl ([.ref (a 0), .int (iI x1), .int (iI x2)]) ++ List.replicate (3 - (lg_sl ([.ref (a 0), .int (iI x1), .int (iI x2)])).length) Slot.unset).toArray = ls at hl ⊢
  have hl : lv_has ls 3 [(0, .ref (a 0)), (1, .int (iI x1)), (2, .int (iI x2))] := hl
  generalize (List.toArray ([.ref (a 0), .int (iI x1), .int (iI x2)] : List Value)) = args at hts ⊢
  have hT : ∀ w ∈ Tg, w.before args s = true := fun w h => hts w (List.mem_cons_of_mem _ h)
  obtain ⟨Q, hQ⟩ : ∃ Q, Q = MQ below (QI D [(cI, .int), (cJ, .long), (cZ, .boolean)] ([(o_M a M_thrown M_period M_width M_nodes M_analysed M_gates M_startNode M_startChange M_startWay M_startBase M_startEarly M_startLate M_worstWith M_worstWithout M_all M_rowSize), ((a 1), .inl (cI, 48, .inl (ia M_kinds))), ((a 2), .inl (cI, 48, .inl (ia M_pins))), ((a 3), .inl (cI, 144, .inl (ia M_froms))), ((a 4), .inl (cI, 144, .inl (ia M_wireEarly))), ((a 5), .inl (cI, 144, .inl (ia M_wireLate))), ((a 6), .inl (cI, 144, .inl (ia M_senses))), ((a 7), .inl (cI, 288, .inl (ia M_delayEarly))), ((a 8), .inl (cI, 288, .inl (ia M_delayLate))), ((a 9), .inl (cI, 96, .inl (ia M_firstOf))), ((a 10), .inl (cI, 96, .inl (ia M_secondOf)))]) s.heap.size r ([(o_M a M_thrown M_period M_width z_M_nodes z_M_analysed M_gates M_startNode M_startChange M_startWay M_startBase M_startEarly M_startLate M_worstWith M_worstWithout M_all M_rowSize), ((a 1), .inl (cI, 48, .inl (ia z_M_kinds))), ((a 2), .inl (cI, 48, .inl (ia z_M_pins))), ((a 3), .inl (cI, 144, .inl (ia z_M_froms))), ((a 4), .inl (cI, 144, .inl (ia z_M_wireEarly))), ((a 5), .inl (cI, 144, .inl (ia z_M_wireLate))), ((a 6), .inl (cI, 144, .inl (ia z_M_senses))), ((a 7), .inl (cI, 288, .inl (ia z_M_delayEarly))), ((a 8), .inl (cI, 288, .inl (ia z_M_delayLate))), ((a 9), .inl (cI, 96, .inl (ia z_M_firstOf))), ((a 10), .inl (cI, 96, .inl (ia z_M_secondOf)))])) args s 0 0 (va_A ([(o_M a M_thrown M_period M_width M_nodes M_analysed M_gates M_startNode M_startChange M_startWay M_startBase M_startEarly M_startLate M_worstWith M_worstWithout M_all M_rowSize), ((a 1), .inl (cI, 48, .inl (ia M_kinds))), ((a 2), .inl (cI, 48, .inl (ia M_pins))), ((a 3), .inl (cI, 144, .inl (ia M_froms))), ((a 4), .inl (cI, 144, .inl (ia M_wireEarly))), ((a 5), .inl (cI, 144, .inl (ia M_wireLate))), ((a 6), .inl (cI, 144, .inl (ia M_senses))), ((a 7), .inl (cI, 288, .inl (ia M_delayEarly))), ((a 8), .inl (cI, 288, .inl (ia M_delayLate))), ((a 9), .inl (cI, 96, .inl (ia M_firstOf))), ((a 10), .inl (cI, 96, .inl (ia M_secondOf)))]) s.heap.size) := ⟨_, rfl⟩
  rw [← hQ]
  suffices hW : ∀ (H : Heap) (locs : List Loc), va_P D vwCl ([(o_M a M_thrown M_period M_width M_nodes M_analysed M_gates M_startNode M_startChange M_startWay M_startBase M_startEarly M_startLate M_worstWith M_worstWithout M_all M_rowSize), ((a 1), .inl (cI, 48, .inl (ia M_kinds))), ((a 2), .inl (cI, 48, .inl (ia M_pins))), ((a 3), .inl (cI, 144, .inl (ia M_froms))), ((a 4), .inl (cI, 144, .inl (ia M_wireEarly))), ((a 5), .inl (cI, 144, .inl (ia M_wireLate))), ((a 6), .inl (cI, 144, .inl (ia M_senses))), ((a 7), .inl (cI, 288, .inl (ia M_delayEarly))), ((a 8), .inl (cI, 288, .inl (ia M_delayLate))), ((a 9), .inl (cI, 96, .inl (ia M_firstOf))), ((a 10), .inl (cI, 96, .inl (ia M_secondOf)))]) H → va_D A ([(o_M a M_thrown M_period M_width M_nodes M_analysed M_gates M_startNode M_startChange M_startWay M_startBase M_startEarly M_startLate M_worstWith M_worstWithout M_all M_rowSize), ((a 1), .inl (cI, 48, .inl (ia M_kinds))), ((a 2), .inl (cI, 48, .inl (ia M_pins))), ((a 3), .inl (cI, 144, .inl (ia M_froms))), ((a 4), .inl (cI, 144, .inl (ia M_wireEarly))), ((a 5), .inl (cI, 144, .inl (ia M_wireLate))), ((a 6), .inl (cI, 144, .inl (ia M_senses))), ((a 7), .inl (cI, 288, .inl (ia M_delayEarly))), ((a 8), .inl (cI, 288, .inl (ia M_delayLate))), ((a 9), .inl (cI, 96, .inl (ia M_firstOf))), ((a 10), .inl (cI, 96, .inl (ia M_secondOf)))]) → va_S A s.heap H locs → W p l e (headSpec w_M_add rm_M_add).room s m args below meth c H locs 0 0 Q (F0 m 0 ls []) from hW s.heap [] hP hD hS
  clear hP hD hS
  intro H locs hP hD hS
  have hk0 := (show (Cond.constant "PathTimingModel" 140 (iI (-2147483648))).before args s = true from by rw [show iI (-2147483648) = ((-2147483648) : Int32) from by decide]; exact hT _ m1020)
  rw [f_M_add] at h
  refine lv_aload_n hx hb d_M_add_0 rfl (lv_at hl 0 rfl) ?_
  refine va_get (D := D) (ci := 10) (v := .int (iI M_nodes)) (C := R_M) (T := F_M) (N := 53) hx hb hT in_M hown hK hP 0 rfl rfl 3 (by decide) (hT _ m1024) (fun _ h9 => h9) rfl d_M_add_1 ?_
  refine lv_bipush (v := iI 48) hx hb d_M_add_4 (by decide) ?_
  obtain ⟨hg0, h⟩ := gr_e h
  refine zc_ne hx hb d_M_add_6 rfl hg0 (by decide) (fun hc => ?_) (fun hc => ?_)
  · replace h := if_f hc h
    refine lv_aload_n hx hb d_M_add_12 rfl (lv_at hl 0 rfl) ?_
    refine lv_aload_n hx hb d_M_add_13 rfl (lv_at hl 0 rfl) ?_
    refine va_get (D := D) (ci := 10) (v := .int (iI M_nodes)) (C := R_M) (T := F_M) (N := 53) hx hb hT in_M hown hK hP 0 rfl rfl 3 (by decide) (hT _ m1024) (fun _ h9 => h9) rfl d_M_add_14 ?_
    refine lv_iload_n hx hb d_M_add_17 rfl (lv_at hl 1 rfl) ?_
    refine lv_iload_n hx hb d_M_add_18 rfl (lv_at hl 2 rfl) ?_
    obtain ⟨M_kinds_1, M_pins_2, M_froms_3, M_wireEarly_4, M_wireLate_5, M_senses_6, M_delayEarly_7, M_delayLate_8, M_firstOf_9, M_secondOf_10, hcall, h⟩ := ob10_e h
    refine ca_v (w2 := [(o_M a M_thrown M_period M_width M_nodes M_analysed M_gates M_startNode M_startChange M_startWay M_startBase M_startEarly M_startLate M_worstWith M_worstWithout M_all M_rowSize), ((a 1), .inl (cI, 48, .inl (ia M_kinds_1))), ((a 2), .inl (cI, 48, .inl (ia M_pins_2))), ((a 3), .inl (cI, 144, .inl (ia M_froms_3))), ((a 4), .inl (cI, 144, .inl (ia M_wireEarly_4))), ((a 5), .inl (cI, 144, .inl (ia M_wireLate_5))), ((a 6), .inl (cI, 144, .inl (ia M_senses_6))), ((a 7), .inl (cI, 288, .inl (ia M_delayEarly_7))), ((a 8), .inl (cI, 288, .inl (ia M_delayLate_8))), ((a 9), .inl (cI, 96, .inl (ia M_firstOf_9))), ((a 10), .inl (cI, 96, .inl (ia M_secondOf_10)))]) (va_runV (As := [.int (iI M_nodes), .int (iI x1), .int (iI x2)]) (rest := []) ⟨hx, hb, hml, hown, hts⟩ (c_M_clearNode l D cI cJ cZ F a M_thrown M_period M_width M_nodes M_analysed M_gates M_startNode M_startChange M_startWay M_startBase M_startEarly M_startLate M_worstWith M_worstWithout M_all M_rowSize M_kinds M_pins M_froms M_wireEarly M_wireLate M_senses M_delayEarly M_delayLate M_firstOf M_secondOf M_nodes x1 x2 M_kinds_1 M_pins_2 M_froms_3 M_wireEarly_4 M_wireLate_5 M_senses_6 M_delayEarly_7 M_delayLate_8 M_firstOf_9 M_secondOf_10 H.size hcall) (cwV 3 hts (gd_V m1019 m1016 m1018 sl_M_clearNode m12) rfl rfl rfl ⟨rfl, hc_M_clearNode⟩ ⟨Nat.le_of_ble_eq_true rfl, Nat.le_of_ble_eq_true rfl⟩) (pc_V 0 10 [.int (iI M_nodes), .int (iI x1), .int (iI x2)] hP hK hD hN [0, 1, 2, 3, 4, 5, 6, 7, 8, 9, 10] rfl rfl rfl rfl rfl) rfl rfl hl.1 rfl (lv_room (Nat.le_of_ble_eq_true rfl)) d_M_add_19 ⟨Nat.le_refl 0, Nat.le_refl 0⟩) hP hD hS hA [0, 1, 2, 3, 4, 5, 6, 7, 8, 9, 10] [] [0, 1, 2, 3, 4, 5, 6, 7, 8, 9, 10] rfl rfl rfl (by decide) rfl rfl rfl (fun H locs hP hD hS => ?_)
    refine lv_aload_n hx hb d_M_add_22 rfl (lv_at hl 0 rfl) ?_
    refine lv_dup hx hb d_M_add_23 rfl ?_
    refine va_get (D := D) (ci := 10) (v := .int (iI M_nodes)) (C := R_M) (T := F_M) (N := 53) hx hb hT in_M hown hK hP 0 rfl rfl 3 (by decide) (hT _ m1024) (fun _ h9 => h9) rfl d_M_add_24 ?_
    refine zv_iconst hx hb d_M_add_27 ?_
    refine zv_iadd hx hb d_M_add_28 ?_
    refine va_put (D := D) (ci := 10) (v := .int (iI (M_nodes + 1))) (ty := .int) (C := R_M) (T := F_M) (N := 53) hx hb hT in_M ty_M ty_M_ok n_M hown hK hP hD hS 0 rfl rfl 3 (by decide) (hT _ m1024) (fun _ h9 => h9) rfl (by decide +kernel) rfl rfl (Nat.le_of_ble_eq_true rfl) d_M_add_29 (fun H locs hP hD hS => ?_)
    have hP : va_P D vwCl [(o_M a M_thrown M_period M_width (M_nodes + 1) M_analysed M_gates M_startNode M_startChange M_startWay M_startBase M_startEarly M_startLate M_worstWith M_worstWithout M_all M_rowSize), ((a 1), .inl (cI, 48, .inl (ia M_kinds_1))), ((a 2), .inl (cI, 48, .inl (ia M_pins_2))), ((a 3), .inl (cI, 144, .inl (ia M_froms_3))), ((a 4), .inl (cI, 144, .inl (ia M_wireEarly_4))), ((a 5), .inl (cI, 144, .inl (ia M_wireLate_5))), ((a 6), .inl (cI, 144, .inl (ia M_senses_6))), ((a 7), .inl (cI, 288, .inl (ia M_delayEarly_7))), ((a 8), .inl (cI, 288, .inl (ia M_delayLate_8))), ((a 9), .inl (cI, 96, .inl (ia M_firstOf_9))), ((a 10), .inl (cI, 96, .inl (ia M_secondOf_10)))] H := hP
    have hD : va_D A [(o_M a M_thrown M_period M_width (M_nodes + 1) M_analysed M_gates M_startNode M_startChange M_startWay M_startBase M_startEarly M_startLate M_worstWith M_worstWithout M_all M_rowSize), ((a 1), .inl (cI, 48, .inl (ia M_kinds_1))), ((a 2), .inl (cI, 48, .inl (ia M_pins_2))), ((a 3), .inl (cI, 144, .inl (ia M_froms_3))), ((a 4), .inl (cI, 144, .inl (ia M_wireEarly_4))), ((a 5), .inl (cI, 144, .inl (ia M_wireLate_5))), ((a 6), .inl (cI, 144, .inl (ia M_senses_6))), ((a 7), .inl (cI, 288, .inl (ia M_delayEarly_7))), ((a 8), .inl (cI, 288, .inl (ia M_delayLate_8))), ((a 9), .inl (cI, 96, .inl (ia M_firstOf_9))), ((a 10), .inl (cI, 96, .inl (ia M_secondOf_10)))] := hD
    refine lv_aload_n hx hb d_M_add_32 rfl (lv_at hl 0 rfl) ?_
    refine zv_iconst hx hb d_M_add_33 ?_
    refine va_put (D := D) (ci := 10) (v := .int (iI 0)) (ty := .boolean) (C := R_M) (T := F_M) (N := 53) hx hb hT in_M ty_M ty_M_ok n_M hown hK hP hD hS 0 rfl rfl 14 (by decide) (hT _ m1035) (fun _ h9 => h9) rfl (by decide +kernel) rfl rfl (Nat.le_of_ble_eq_true rfl) d_M_add_34 (fun H locs hP hD hS => ?_)
    have hP : va_P D vwCl [(o_M a M_thrown M_period M_width (M_nodes + 1) 0 M_gates M_startNode M_startChange M_startWay M_startBase M_startEarly M_startLate M_worstWith M_worstWithout M_all M_rowSize), ((a 1), .inl (cI, 48, .inl (ia M_kinds_1))), ((a 2), .inl (cI, 48, .inl (ia M_pins_2))), ((a 3), .inl (cI, 144, .inl (ia M_froms_3))), ((a 4), .inl (cI, 144, .inl (ia M_wireEarly_4))), ((a 5), .inl (cI, 144, .inl (ia M_wireLate_5))), ((a 6), .inl (cI, 144, .inl (ia M_senses_6))), ((a 7), .inl (cI, 288, .inl (ia M_delayEarly_7))), ((a 8), .inl (cI, 288, .inl (ia M_delayLate_8))), ((a 9), .inl (cI, 96, .inl (ia M_firstOf_9))), ((a 10), .inl (cI, 96, .inl (ia M_secondOf_10)))] H := hP
    have hD : va_D A [(o_M a M_thrown M_period M_width (M_nodes + 1) 0 M_gates M_startNode M_startChange M_startWay M_startBase M_startEarly M_startLate M_worstWith M_worstWithout M_all M_rowSize), ((a 1), .inl (cI, 48, .inl (ia M_kinds_1))), ((a 2), .inl (cI, 48, .inl (ia M_pins_2))), ((a 3), .inl (cI, 144, .inl (ia M_froms_3))), ((a 4), .inl (cI, 144, .inl (ia M_wireEarly_4))), ((a 5), .inl (cI, 144, .inl (ia M_wireLate_5))), ((a 6), .inl (cI, 144, .inl (ia M_senses_6))), ((a 7), .inl (cI, 288, .inl (ia M_delayEarly_7))), ((a 8), .inl (cI, 288, .inl (ia M_delayLate_8))), ((a 9), .inl (cI, 96, .inl (ia M_firstOf_9))), ((a 10), .inl (cI, 96, .inl (ia M_secondOf_10)))] := hD
    refine lv_aload_n hx hb d_M_add_37 rfl (lv_at hl 0 rfl) ?_
    refine va_get (D := D) (ci := 10) (v := .int (iI (M_nodes + 1))) (C := R_M) (T := F_M) (N := 53) hx hb hT in_M hown hK hP 0 rfl rfl 3 (by decide) (hT _ m1024) (fun _ h9 => h9) rfl d_M_add_38 ?_
    refine zv_iconst hx hb d_M_add_41 ?_
    refine zv_isub hx hb d_M_add_42 ?_
    obtain ⟨e1, e2, e3, e4, e5, e6, e7, e8, e9, e10, e11, e12, e13⟩ := so13 h
    rw [hQ, e1, e2, e3, e4, e5, e6, e7, e8, e9, e10, e11, e12, e13]; rw [hAe] at hD hS; exact W.iret hx hb hr (fun t ht hW => ⟨⟨_, (), rfl, rfl, by rw [ht]; exact hP, va_K.moved hW.alike hK, hD⟩, hS.F ht⟩) hS.2.2 d_M_add_43
  · replace h := if_t hc h
    refine lv_ldc hx hb hown hk0 d_M_add_9 ?_
    obtain ⟨e1, e2, e3, e4, e5, e6, e7, e8, e9, e10, e11, e12, e13⟩ := so13 h
    rw [hQ, e1, e2, e3, e4, e5, e6, e7, e8, e9, e10, e11, e12, e13]; rw [hAe] at hD hS; exact W.iret hx hb hr (fun t ht hW => ⟨⟨_, (), rfl, rfl, by rw [ht]; exact hP, va_K.moved hW.alike hK, hD⟩, hS.F ht⟩) hS.2.2 d_M_add_11
abbrev rm_M_clock : Room := { frames := 0, cells := 0, slots := 0, locals := 0 }
set_option maxHeartbeats 4000000 in
set_option maxRecDepth 100000 in
theorem c_M_clock (l : Launch) (D : va_G) (cI cJ cZ : ClassId) (F : Nat) (a : Nat → Nat) (M_thrown : Int) (M_period : Int) (M_width : Int) (M_nodes : Int) (M_analysed : Int) (M_gates : Int) (M_startNode : Int) (M_startChange : Int) (M_startWay : Int) (M_startBase : Int) (M_startEarly : Int) (M_startLate : Int) (M_worstWith : Int) (M_worstWithout : Int) (M_all : Int64) (M_rowSize : Int) (x1 : Int) (x2 : Int) (z_M_thrown : Int) (z_M_period : Int) (z_M_width : Int) (z_M_analysed : Int) (sz : Nat) (h : f_M_clock F M_period M_width M_analysed x1 x2 = some (z_M_thrown, z_M_period, z_M_width, z_M_analysed)) : Met l y_M_clock w_M_clock rm_M_clock (PC D [(cI, .int), (cJ, .long), (cZ, .boolean)] [.ref (a 0), .int (iI x1), .int (iI x2)] ([(o_M a M_thrown M_period M_width M_nodes M_analysed M_gates M_startNode M_startChange M_startWay M_startBase M_startEarly M_startLate M_worstWith M_worstWithout M_all M_rowSize)]) sz) (QV D [(cI, .int), (cJ, .long), (cZ, .boolean)] ([(o_M a M_thrown M_period M_width M_nodes M_analysed M_gates M_startNode M_startChange M_startWay M_startBase M_startEarly M_startLate M_worstWith M_worstWithout M_all M_rowSize)]) sz ([(o_M a z_M_thrown z_M_period z_M_width M_nodes z_M_analysed M_gates M_startNode M_startChange M_startWay M_startBase M_startEarly M_startLate M_worstWith M_worstWithout M_all M_rowSize)])) 0 0 (va_A ([(o_M a M_thrown M_period M_width M_nodes M_analysed M_gates M_startNode M_startChange M_startWay M_startBase M_startEarly M_startLate M_worstWith M_worstWithout M_all M_rowSize)]) sz) := by
  refine Met.ofW (cc := prog_12_method_5_code) (maxL := 3) (ret := (Option.none : Option Jvm.ClassFile.FieldType)) (by decide) rfl ?_
  intro p e s m args below meth c s₁ B hml hv
  obtain ⟨rfl, hsz, hP, hK, hD0, hN⟩ := hv
  have hx := B.exec
  have hb := B.bytes
  have hr := B.returns
  have hts := atoms_spec (ws := w_M_clock) B.pre
  have hown : s.vm.findClass R_M = some m.cls := findClass_of_methodNamed B.named
  have hlocks := B.notSynchronized
  subst hsz
  have hD := hD0.self (sz := s.heap.size)
  obtain ⟨A, hAe⟩ : ∃ A, A = va_A ([(o_M a M_thrown M_period M_width M_nodes M_analysed M_gates M_startNode M_startChange M_startWay M_startBase M_startEarly M_startLate M_worstWith M_worstWithout M_all M_rowSize)]) s.heap.size := ⟨_, rfl⟩
  rw [← hAe] at hD
  have hA : ∀ q : Nat, s.heap.size ≤ q → A q := fun q h => by rw [hAe]; exact Or.inr h
  have hS : va_S A s.heap s.heap [] := va_S.rf
  have hl := lv_entry ([.ref (a 0), .int (iI x1), .int (iI x2)]) (n := 3) (Nat.le_of_ble_eq_true rfl)
  rw [lg_entry_eq]
  generalize (lg_sl ([.ref (a 0), .int (iI x1), .int (iI x2)]) ++ List.replicate (3 - (lg_sl ([.ref (a 0), .int (iI x1), .int (iI x2)])).length) Slot.unset).toArray = ls at hl ⊢
  have hl : lv_has ls 3 [(0, .ref (a 0)), (1, .int (iI x1)), (2, .int (iI x2))] := hl
  generalize (List.toArray ([.ref (a 0), .int (iI x1), .int (iI x2)] : List Value)) = args at hts ⊢
  have hT : ∀ w ∈ Tg, w.before args s = true := fun w h => hts w (List.mem_cons_of_mem _ h)
  obtain ⟨Q, hQ⟩ : ∃ Q, Q = MQ below (QV D [(cI, .int), (cJ, .long), (cZ, .boolean)] ([(o_M a M_thrown M_period M_width M_nodes M_analysed M_gates M_startNode M_startChange M_startWay M_startBase M_startEarly M_startLate M_worstWith M_worstWithout M_all M_rowSize)]) s.heap.size ([(o_M a z_M_thrown z_M_period z_M_width M_nodes z_M_analysed M_gates M_startNode M_startChange M_startWay M_startBase M_startEarly M_startLate M_worstWith M_worstWithout M_all M_rowSize)])) args s 0 0 (va_A ([(o_M a M_thrown M_period M_width M_nodes M_analysed M_gates M_startNode M_startChange M_startWay M_startBase M_startEarly M_startLate M_worstWith M_worstWithout M_all M_rowSize)]) s.heap.size) := ⟨_, rfl⟩
  rw [← hQ]
  suffices hW : ∀ (H : Heap) (locs : List Loc), va_P D vwCl ([(o_M a M_thrown M_period M_width M_nodes M_analysed M_gates M_startNode M_startChange M_startWay M_startBase M_startEarly M_startLate M_worstWith M_worstWithout M_all M_rowSize)]) H → va_D A ([(o_M a M_thrown M_period M_width M_nodes M_analysed M_gates M_startNode M_startChange M_startWay M_startBase M_startEarly M_startLate M_worstWith M_worstWithout M_all M_rowSize)]) → va_S A s.heap H locs → W p l e (headSpec w_M_clock rm_M_clock).room s m args below meth c H locs 0 0 Q (F0 m 0 ls []) from hW s.heap [] hP hD hS
  clear hP hD hS
  intro H locs hP hD hS
  have hk0 := (show (Cond.constant "PathTimingModel" 145 (iI 1000000)).before args s = true from by rw [show iI 1000000 = (1000000 : Int32) from by decide]; exact hT _ m1189)
  rw [f_M_clock] at h
  refine lv_aload_n hx hb d_M_clock_0 rfl (lv_at hl 0 rfl) ?_
  refine lv_iload_n hx hb d_M_clock_1 rfl (lv_at hl 1 rfl) ?_
  refine zv_iconst hx hb d_M_clock_2 ?_
  have hj27 : ∀ (q1 : Int) (H : Heap) (locs : List Loc) (ls : Array Slot), va_P D vwCl [(o_M a M_thrown M_period M_width M_nodes M_analysed M_gates M_startNode M_startChange M_startWay M_startBase M_startEarly M_startLate M_worstWith M_worstWithout M_all M_rowSize)] H → va_D A [(o_M a M_thrown M_period M_width M_nodes M_analysed M_gates M_startNode M_startChange M_startWay M_startBase M_startEarly M_startLate M_worstWith M_worstWithout M_all M_rowSize)] → va_S A s.heap H locs → lv_has ls 3 [(0, .ref (a 0)), (1, .int (iI x1)), (2, .int (iI x2))] → f_M_clock_j27 F M_period M_width M_analysed x1 x2 q1 = some (z_M_thrown, z_M_period, z_M_width, z_M_analysed) → W p l e (headSpec w_M_clock rm_M_clock).room s m args below meth c H locs 0 0 Q (F0 m 27 ls [.int (iI q1), .ref (a 0)]) := by
    intro q1 H locs ls hP hD hS hl h
    rw [f_M_clock_j27] at h
    refine va_put (D := D) (ci := 10) (v := .int (iI q1)) (ty := .int) (C := R_M) (T := F_M) (N := 53) hx hb hT in_M ty_M ty_M_ok n_M hown hK hP hD hS 0 rfl rfl 0 (by decide) (hT _ m1021) (fun _ h9 => h9) rfl (by decide +kernel) rfl rfl (Nat.le_of_ble_eq_true rfl) d_M_clock_27 (fun H locs hP hD hS => ?_)
    have hP : va_P D vwCl [(o_M a q1 M_period M_width M_nodes M_analysed M_gates M_startNode M_startChange M_startWay M_startBase M_startEarly M_startLate M_worstWith M_worstWithout M_all M_rowSize)] H := hP
    have hD : va_D A [(o_M a q1 M_period M_width M_nodes M_analysed M_gates M_startNode M_startChange M_startWay M_startBase M_startEarly M_startLate M_worstWith M_worstWithout M_all M_rowSize)] := hD
    refine lv_aload_n hx hb d_M_clock_30 rfl (lv_at hl 0 rfl) ?_
    refine va_get (D := D) (ci := 10) (v := .int (iI q1)) (C := R_M) (T := F_M) (N := 53) hx hb hT in_M hown hK hP 0 rfl rfl 0 (by decide) (hT _ m1021) (fun _ h9 => h9) rfl d_M_clock_31 ?_
    obtain ⟨hg0, h⟩ := gr_e h
    refine zi_ne hx hb d_M_clock_34 rfl hg0 (fun hc => ?_) (fun hc => ?_)
    · replace h := if_f hc h
      obtain ⟨e1, e2, e3, e4⟩ := so4 h
      rw [hQ, e1, e2, e3, e4]; rw [hAe] at hD hS; exact W.vret hx hb hr (fun t ht hW => ⟨⟨(), rfl, trivial, by rw [ht]; exact hP, va_K.moved hW.alike hK, hD⟩, hS.F ht⟩) hS.2.2 d_M_clock_52
    · replace h := if_t hc h
      refine lv_aload_n hx hb d_M_clock_37 rfl (lv_at hl 0 rfl) ?_
      refine lv_iload_n hx hb d_M_clock_38 rfl (lv_at hl 1 rfl) ?_
      refine va_put (D := D) (ci := 10) (v := .int (iI x1)) (ty := .int) (C := R_M) (T := F_M) (N := 53) hx hb hT in_M ty_M ty_M_ok n_M hown hK hP hD hS 0 rfl rfl 1 (by decide) (hT _ m1022) (fun _ h9 => h9) rfl (by decide +kernel) rfl rfl (Nat.le_of_ble_eq_true rfl) d_M_clock_39 (fun H locs hP hD hS => ?_)
      have hP : va_P D vwCl [(o_M a q1 x1 M_width M_nodes M_analysed M_gates M_startNode M_startChange M_startWay M_startBase M_startEarly M_startLate M_worstWith M_worstWithout M_all M_rowSize)] H := hP
      have hD : va_D A [(o_M a q1 x1 M_width M_nodes M_analysed M_gates M_startNode M_startChange M_startWay M_startBase M_startEarly M_startLate M_worstWith M_worstWithout M_all M_rowSize)] := hD
      refine lv_aload_n hx hb d_M_clock_42 rfl (lv_at hl 0 rfl) ?_
      refine lv_iload_n hx hb d_M_clock_43 rfl (lv_at hl 2 rfl) ?_
      refine va_put (D := D) (ci := 10) (v := .int (iI x2)) (ty := .int) (C := R_M) (T := F_M) (N := 53) hx hb hT in_M ty_M ty_M_ok n_M hown hK hP hD hS 0 rfl rfl 2 (by decide) (hT _ m1023) (fun _ h9 => h9) rfl (by decide +kernel) rfl rfl (Nat.le_of_ble_eq_true rfl) d_M_clock_44 (fun H locs hP hD hS => ?_)
      have hP : va_P D vwCl [(o_M a q1 x1 x2 M_nodes M_analysed M_gates M_startNode M_startChange M_startWay M_startBase M_startEarly M_startLate M_worstWith M_worstWithout M_all M_rowSize)] H := hP
      have hD : va_D A [(o_M a q1 x1 x2 M_nodes M_analysed M_gates M_startNode M_startChange M_startWay M_startBase M_startEarly M_startLate M_worstWith M_worstWithout M_all M_rowSize)] := hD
      refine lv_aload_n hx hb d_M_clock_47 rfl (lv_at hl 0 rfl) ?_
      refine zv_iconst hx hb d_M_clock_48 ?_
      refine va_put (D := D) (ci := 10) (v := .int (iI 0)) (ty := .boolean) (C := R_M) (T := F_M) (N := 53) hx hb hT in_M ty_M ty_M_ok n_M hown hK hP hD hS 0 rfl rfl 14 (by decide) (hT _ m1035) (fun _ h9 => h9) rfl (by decide +kernel) rfl rfl (Nat.le_of_ble_eq_true rfl) d_M_clock_49 (fun H locs hP hD hS => ?_)
      have hP : va_P D vwCl [(o_M a q1 x1 x2 M_nodes 0 M_gates M_startNode M_startChange M_startWay M_startBase M_startEarly M_startLate M_worstWith M_worstWithout M_all M_rowSize)] H := hP
      have hD : va_D A [(o_M a q1 x1 x2 M_nodes 0 M_gates M_startNode M_startChange M_startWay M_startBase M_startEarly M_startLate M_worstWith M_worstWithout M_all M_rowSize)] := hD
      obtain ⟨e1, e2, e3, e4⟩ := so4 h
      rw [hQ, e1, e2, e3, e4]; rw [hAe] at hD hS; exact W.vret hx hb hr (fun t ht hW => ⟨⟨(), rfl, trivial, by rw [ht]; exact hP, va_K.moved hW.alike hK, hD⟩, hS.F ht⟩) hS.2.2 d_M_clock_52
  have hj22 : ∀  (H : Heap) (locs : List Loc) (ls : Array Slot), va_P D vwCl [(o_M a M_thrown M_period M_width M_nodes M_analysed M_gates M_startNode M_startChange M_startWay M_startBase M_startEarly M_startLate M_worstWith M_worstWithout M_all M_rowSize)] H → va_D A [(o_M a M_thrown M_period M_width M_nodes M_analysed M_gates M_startNode M_startChange M_startWay M_startBase M_startEarly M_startLate M_worstWith M_worstWithout M_all M_rowSize)] → va_S A s.heap H locs → lv_has ls 3 [(0, .ref (a 0)), (1, .int (iI x1)), (2, .int (iI x2))] → f_M_clock_j22 F M_period M_width M_analysed x1 x2 = some (z_M_thrown, z_M_period, z_M_width, z_M_analysed) → W p l e (headSpec w_M_clock rm_M_clock).room s m args below meth c H locs 0 0 Q (F0 m 22 ls [.ref (a 0)]) := by
    intro  H locs ls hP hD hS hl h
    rw [f_M_clock_j22] at h
    refine zv_iconst hx hb d_M_clock_22 ?_
    refine lv_goto hx hb d_M_clock_23 rfl ?_
    exact hj27 1 H locs ls hP hD hS (lv_sub hl [0, 1, 2] rfl) h
  obtain ⟨hg0, h⟩ := gr_e h
  refine zc_lt hx hb d_M_clock_3 rfl hg0 (by decide) (fun hc => ?_) (fun hc => ?_)
  · replace h := if_t hc h
    exact hj22  H locs ls hP hD hS (lv_sub hl [0, 1, 2] rfl) h
  · replace h := if_f hc h
    refine lv_iload_n hx hb d_M_clock_6 rfl (lv_at hl 1 rfl) ?_
    refine lv_ldc hx hb hown hk0 d_M_clock_7 ?_
    obtain ⟨hg0, h⟩ := gr_e h
    refine zc_gt hx hb d_M_clock_9 rfl hg0 (by decide) (fun hc => ?_) (fun hc => ?_)
    · replace h := if_t hc h
      exact hj22  H locs ls hP hD hS (lv_sub hl [0, 1, 2] rfl) h
    · replace h := if_f hc h
      refine lv_iload_n hx hb d_M_clock_12 rfl (lv_at hl 2 rfl) ?_
      refine zv_iconst hx hb d_M_clock_13 ?_
      obtain ⟨hg0, h⟩ := gr_e h
      refine zc_lt hx hb d_M_clock_14 rfl hg0 (by decide) (fun hc => ?_) (fun hc => ?_)
      · replace h := if_t hc h
        exact hj22  H locs ls hP hD hS (lv_sub hl [0, 1, 2] rfl) h
      · replace h := if_f hc h
        refine lv_iload_n hx hb d_M_clock_17 rfl (lv_at hl 2 rfl) ?_
        refine lv_iload_n hx hb d_M_clock_18 rfl (lv_at hl 1 rfl) ?_
        obtain ⟨hg0, h⟩ := gr_e h
        obtain ⟨hg1, h⟩ := gr_e h
        refine zc_lt hx hb d_M_clock_19 rfl hg0 hg1 (fun hc => ?_) (fun hc => ?_)
        · replace h := if_t hc h
          refine zv_iconst hx hb d_M_clock_26 ?_
          exact hj27 0 H locs ls hP hD hS (lv_sub hl [0, 1, 2] rfl) h
        · replace h := if_f hc h
          exact hj22  H locs ls hP hD hS (lv_sub hl [0, 1, 2] rfl) h
abbrev rm_M_noTimes : Room := { frames := 0, cells := 0, slots := 0, locals := 0 }
set_option maxHeartbeats 4000000 in
set_option maxRecDepth 100000 in
theorem c_M_noTimes (l : Launch) (D : va_G) (cI cJ cZ : ClassId) (F : Nat) (a : Nat → Nat) (x0 : Int) (x1 : Int) (x2 : Int) (x3 : Int) (r : Int) (sz : Nat) (h : f_M_noTimes F x0 x1 x2 x3 = some (r)) : Met l y_M_noTimes w_M_noTimes rm_M_noTimes (PC D [(cI, .int), (cJ, .long), (cZ, .boolean)] [.int (iI x0), .int (iI x1), .int (iI x2), .int (iI x3)] ([]) sz) (QcRead (iI r)) 0 0 (fun _ => False) := by
  refine Met.ofW (cc := prog_12_method_6_code) (maxL := 4) (ret := (Option.some Jvm.ClassFile.FieldType.boolean)) (by decide) rfl ?_
  intro p e s m args below meth c s₁ B hml hv
  obtain ⟨rfl, hsz, hP, hK, hD0, hN⟩ := hv
  have hx := B.exec
  have hb := B.bytes
  have hr := B.returns
  have hts := atoms_spec (ws := w_M_noTimes) B.pre
  have hown : s.vm.findClass R_M = some m.cls := findClass_of_methodNamed B.named
  have hlocks := B.notSynchronized
  subst hsz
  have hl := lv_entry ([.int (iI x0), .int (iI x1), .int (iI x2), .int (iI x3)]) (n := 4) (Nat.le_of_ble_eq_true rfl)
  rw [lg_entry_eq]
  generalize (lg_sl ([.int (iI x0), .int (iI x1), .int (iI x2), .int (iI x3)]) ++ List.replicate (4 - (lg_sl ([.int (iI x0), .int (iI x1), .int (iI x2), .int (iI x3)])).length) Slot.unset).toArray = ls at hl ⊢
  have hl : lv_has ls 4 [(0, .int (iI x0)), (1, .int (iI x1)), (2, .int (iI x2)), (3, .int (iI x3))] := hl
  generalize (List.toArray ([.int (iI x0), .int (iI x1), .int (iI x2), .int (iI x3)] : List Value)) = args at hts ⊢
  have hT : ∀ w ∈ Tg, w.before args s = true := fun w h => hts w (List.mem_cons_of_mem _ h)
  obtain ⟨Q, hQ⟩ : ∃ Q, Q = MQ below (QcRead (iI r)) args s 0 0 (fun _ => False) := ⟨_, rfl⟩
  rw [← hQ]
  rw [f_M_noTimes] at h
  refine lv_iload_n hx hb d_M_noTimes_0 rfl (lv_at hl 0 rfl) ?_
  refine lv_iload_n hx hb d_M_noTimes_1 rfl (lv_at hl 3 rfl) ?_
  have hj15 : ∀  (ls : Array Slot), lv_has ls 4 [] → f_M_noTimes_j15 F = some (r) → W p l e (headSpec w_M_noTimes rm_M_noTimes).room s m args below meth c s.heap [] 0 0 Q (F0 m 15 ls []) := by
    intro  ls hl h
    rw [f_M_noTimes_j15] at h
    refine zv_iconst hx hb d_M_noTimes_15 ?_
    refine lv_goto hx hb d_M_noTimes_16 rfl ?_
    obtain ⟨hbo, h⟩ := gb_e h
    have e1 := so1 h
    rw [hQ, e1]; exact W.zret (ty := .boolean) hx hb hr (gb_n hbo) (fun t ht hW => ⟨rfl, ht⟩) (fun q h => nomatch h) d_M_noTimes_20
  obtain ⟨hg0, h⟩ := gr_e h
  obtain ⟨hg1, h⟩ := gr_e h
  refine zc_lt hx hb d_M_noTimes_2 rfl hg0 hg1 (fun hc => ?_) (fun hc => ?_)
  · replace h := if_t hc h
    exact hj15  ls (lv_sub hl [] rfl) h
  · replace h := if_f hc h
    refine lv_iload_n hx hb d_M_noTimes_5 rfl (lv_at hl 1 rfl) ?_
    refine lv_iload_n hx hb d_M_noTimes_6 rfl (lv_at hl 2 rfl) ?_
    obtain ⟨hg0, h⟩ := gr_e h
    obtain ⟨hg1, h⟩ := gr_e h
    refine zc_gt hx hb d_M_noTimes_7 rfl hg0 hg1 (fun hc => ?_) (fun hc => ?_)
    · replace h := if_t hc h
      exact hj15  ls (lv_sub hl [] rfl) h
    · replace h := if_f hc h
      refine lv_iload_n hx hb d_M_noTimes_10 rfl (lv_at hl 0 rfl) ?_
      refine lv_iload_n hx hb d_M_noTimes_11 rfl (lv_at hl 1 rfl) ?_
      obtain ⟨hg0, h⟩ := gr_e h
      obtain ⟨hg1, h⟩ := gr_e h
      refine zc_le hx hb d_M_noTimes_12 rfl hg0 hg1 (fun hc => ?_) (fun hc => ?_)
      · replace h := if_t hc h
        refine zv_iconst hx hb d_M_noTimes_19 ?_
        obtain ⟨hbo, h⟩ := gb_e h
        have e1 := so1 h
        rw [hQ, e1]; exact W.zret (ty := .boolean) hx hb hr (gb_n hbo) (fun t ht hW => ⟨rfl, ht⟩) (fun q h => nomatch h) d_M_noTimes_20
      · replace h := if_f hc h
        exact hj15  ls (lv_sub hl [] rfl) h
abbrev rm_M_input : Room := { frames := 2, cells := 0, slots := 0, locals := 47 }
set_option maxHeartbeats 4000000 in
set_option maxRecDepth 100000 in
theorem c_M_input (l : Launch) (D : va_G) (cI cJ cZ : ClassId) (F : Nat) (a : Nat → Nat) (M_thrown : Int) (M_period : Int) (M_width : Int) (M_nodes : Int) (M_analysed : Int) (M_gates : Int) (M_startNode : Int) (M_startChange : Int) (M_startWay : Int) (M_startBase : Int) (M_startEarly : Int) (M_startLate : Int) (M_worstWith : Int) (M_worstWithout : Int) (M_all : Int64) (M_rowSize : Int) (M_kinds : Int → Int) (M_pins : Int → Int) (M_froms : Int → Int) (M_wireEarly : Int → Int) (M_wireLate : Int → Int) (M_senses : Int → Int) (M_delayEarly : Int → Int) (M_delayLate : Int → Int) (M_firstOf : Int → Int) (M_secondOf : Int → Int) (x1 : Int) (x2 : Int) (x3 : Int) (x4 : Int) (r : Int) (z_M_thrown : Int) (z_M_nodes : Int) (z_M_kinds : Int → Int) (z_M_pins : Int → Int) (z_M_froms : Int → Int) (z_M_wireEarly : Int → Int) (z_M_wireLate : Int → Int) (z_M_senses : Int → Int) (z_M_delayEarly : Int → Int) (z_M_delayLate : Int → Int) (z_M_firstOf : Int → Int) (z_M_secondOf : Int → Int) (z_M_analysed : Int) (sz : Nat) (h : f_M_input F M_nodes M_analysed M_kinds M_pins M_froms M_wireEarly M_wireLate M_senses M_delayEarly M_delayLate M_firstOf M_secondOf x1 x2 x3 x4 = some (r, z_M_thrown, z_M_nodes, z_M_kinds, z_M_pins, z_M_froms, z_M_wireEarly, z_M_wireLate, z_M_senses, z_M_delayEarly, z_M_delayLate, z_M_firstOf, z_M_secondOf, z_M_analysed)) : Met l y_M_input w_M_input rm_M_input (PC D [(cI, .int), (cJ, .long), (cZ, .boolean)] [.ref (a 0), .int (iI x1), .int (iI x2), .int (iI x3), .int (iI x4)] ([(o_M a M_thrown M_period M_width M_nodes M_analysed M_gates M_startNode M_startChange M_startWay M_startBase M_startEarly M_startLate M_worstWith M_worstWithout M_all M_rowSize), ((a 1), .inl (cI, 48, .inl (ia M_kinds))), ((a 2), .inl (cI, 48, .inl (ia M_pins))), ((a 3), .inl (cI, 144, .inl (ia M_froms))), ((a 4), .inl (cI, 144, .inl (ia M_wireEarly))), ((a 5), .inl (cI, 144, .inl (ia M_wireLate))), ((a 6), .inl (cI, 144, .inl (ia M_senses))), ((a 7), .inl (cI, 288, .inl (ia M_delayEarly))), ((a 8), .inl (cI, 288, .inl (ia M_delayLate))), ((a 9), .inl (cI, 96, .inl (ia M_firstOf))), ((a 10), .inl (cI, 96, .inl (ia M_secondOf)))]) sz) (QI D [(cI, .int), (cJ, .long), (cZ, .boolean)] ([(o_M a M_thrown M_period M_width M_nodes M_analysed M_gates M_startNode M_startChange M_startWay M_startBase M_startEarly M_startLate M_worstWith M_worstWithout M_all M_rowSize), ((a 1), .inl (cI, 48, .inl (ia M_kinds))), ((a 2), .inl (cI, 48, .inl (ia M_pins))), ((a 3), .inl (cI, 144, .inl (ia M_froms))), ((a 4), .inl (cI, 144, .inl (ia M_wireEarly))), ((a 5), .inl (cI, 144, .inl (ia M_wireLate))), ((a 6), .inl (cI, 144, .inl (ia M_senses))), ((a 7), .inl (cI, 288, .inl (ia M_delayEarly))), ((a 8), .inl (cI, 288, .inl (ia M_delayLate))), ((a 9), .inl (cI, 96, .inl (ia M_firstOf))), ((a 10), .inl (cI, 96, .inl (ia M_secondOf)))]) sz r ([(o_M a z_M_thrown M_period M_width z_M_nodes z_M_analysed M_gates M_startNode M_startChange M_startWay M_startBase M_startEarly M_startLate M_worstWith M_worstWithout M_all M_rowSize), ((a 1), .inl (cI, 48, .inl (ia z_M_kinds))), ((a 2), .inl (cI, 48, .inl (ia z_M_pins))), ((a 3), .inl (cI, 144, .inl (ia z_M_froms))), ((a 4), .inl (cI, 144, .inl (ia z_M_wireEarly))), ((a 5), .inl (cI, 144, .inl (ia z_M_wireLate))), ((a 6), .inl (cI, 144, .inl (ia z_M_senses))), ((a 7), .inl (cI, 288, .inl (ia z_M_delayEarly))), ((a 8), .inl (cI, 288, .inl (ia z_M_delayLate))), ((a 9), .inl (cI, 96, .inl (ia z_M_firstOf))), ((a 10), .inl (cI, 96, .inl (ia z_M_secondOf)))])) 0 0 (va_A ([(o_M a M_thrown M_period M_width M_nodes M_analysed M_gates M_startNode M_startChange M_startWay M_startBase M_startEarly M_startLate M_worstWith M_worstWithout M_all M_rowSize), ((a 1), .inl (cI, 48, .inl (ia M_kinds))), ((a 2), .inl (cI, 48, .inl (ia M_pins))), ((a 3), .inl (cI, 144, .inl (ia M_froms))), ((a 4), .inl (cI, 144, .inl (ia M_wireEarly))), ((a 5), .inl (cI, 144, .inl (ia M_wireLate))), ((a 6), .inl (cI, 144, .inl (ia M_senses))), ((a 7), .inl (cI, 288, .inl (ia M_delayEarly))), ((a 8), .inl (cI, 288, .inl (ia M_delayLate))), ((a 9), .inl (cI, 96, .inl (ia M_firstOf))), ((a 10), .inl (cI, 96, .inl (ia M_secondOf)))]) sz) := by
  refine Met.ofW (cc := prog_12_method_7_code) (maxL := 6) (ret := (Option.some Jvm.ClassFile.FieldType.int)) (by decide) rfl ?_
  intro p e s m args below meth c s₁ B hml hv
  obtain ⟨rfl, hsz, hP, hK, hD0, hN⟩ := hv
  have hx := B.exec
  have hb := B.bytes
  have hr := B.returns
  have hts := atoms_spec (ws := w_M_input) B.pre
  have hown : s.vm.findClass R_M = some m.cls := findClass_of_methodNamed B.named
  have hlocks := B.notSynchronized
  subst hsz
  have hD := hD0.self (sz := s.heap.size)
  obtain ⟨A, hAe⟩ : ∃ A, A = va_A ([(o_M a M_thrown M_period M_width M_nodes M_analysed M_gates M_startNode M_startChange M_startWay M_startBase M_startEarly M_startLate M_worstWith M_worstWithout M_all M_rowSize), ((a 1), .inl (cI, 48, .inl (ia M_kinds))), ((a 2), .inl (cI, 48, .inl (ia M_pins))), ((a 3), .inl (cI, 144, .inl (ia M_froms))), ((a 4), .inl (cI, 144, .inl (ia M_wireEarly))), ((a 5), .inl (cI, 144, .inl (ia M_wireLate))), ((a 6), .inl (cI, 144, .inl (ia M_senses))), ((a 7), .inl (cI, 288, .inl (ia M_delayEarly))), ((a 8), .inl (cI, 288, .inl (ia M_delayLate))), ((a 9), .inl (cI, 96, .inl (ia M_firstOf))), ((a 10), .inl (cI, 96, .inl (ia M_secondOf)))]) s.heap.size := ⟨_, rfl⟩
  rw [← hAe] at hD
  have hA : ∀ q : Nat, s.heap.size ≤ q → A q := fun q h => by rw [hAe]; exact Or.inr h
  have hS : va_S A s.heap s.heap [] := va_S.rf
  have hl := lv_entry ([.ref (a 0), .int (iI x1), .int (iI x2), .int (iI x3), .int (iI x4)]) (n := 6) (Nat.le_of_ble_eq_true rfl)
  rw [lg_entry_eq]
  generalize (lg_sl ([.ref (a 0), .int (iI x1), .int (iI x2), .int (iI x3), .int (iI x4)]) ++ List.replicate (6 - (lg_sl ([.ref (a 0), .int (iI x1), .int (iI x2), .int (iI x3), .int (iI x4)])).length) Slot.unset).toArray = ls at hl ⊢
  have hl : lv_has ls 6 [(0, .ref (a 0)), (1, .int (iI x1)), (2, .int (iI x2)), (3, .int (iI x3)), (4, .int (iI x4))] := hl
  generalize (List.toArray ([.ref (a 0), .int (iI x1), .int (iI x2), .int (iI x3), .int (iI x4)] : List Value)) = args at hts ⊢
  have hT : ∀ w ∈ Tg, w.before args s = true := fun w h => hts w (List.mem_cons_of_mem _ h)
  obtain ⟨Q, hQ⟩ : ∃ Q, Q = MQ below (QI D [(cI, .int), (cJ, .long), (cZ, .boolean)] ([(o_M a M_thrown M_period M_width M_nodes M_analysed M_gates M_startNode M_startChange M_startWay M_startBase M_startEarly M_startLate M_worstWith M_worstWithout M_all M_rowSize), ((a 1), .inl (cI, 48, .inl (ia M_kinds))), ((a 2), .inl (cI, 48, .inl (ia M_pins))), ((a 3), .inl (cI, 144, .inl (ia M_froms))), ((a 4), .inl (cI, 144, .inl (ia M_wireEarly))), ((a 5), .inl (cI, 144, .inl (ia M_wireLate))), ((a 6), .inl (cI, 144, .inl (ia M_senses))), ((a 7), .inl (cI, 288, .inl (ia M_delayEarly))), ((a 8), .inl (cI, 288, .inl (ia M_delayLate))), ((a 9), .inl (cI, 96, .inl (ia M_firstOf))), ((a 10), .inl (cI, 96, .inl (ia M_secondOf)))]) s.heap.size r ([(o_M a z_M_thrown M_period M_width z_M_nodes z_M_analysed M_gates M_startNode M_startChange M_startWay M_startBase M_startEarly M_startLate M_worstWith M_worstWithout M_all M_rowSize), ((a 1), .inl (cI, 48, .inl (ia z_M_kinds))), ((a 2), .inl (cI, 48, .inl (ia z_M_pins))), ((a 3), .inl (cI, 144, .inl (ia z_M_froms))), ((a 4), .inl (cI, 144, .inl (ia z_M_wireEarly))), ((a 5), .inl (cI, 144, .inl (ia z_M_wireLate))), ((a 6), .inl (cI, 144, .inl (ia z_M_senses))), ((a 7), .inl (cI, 288, .inl (ia z_M_delayEarly))), ((a 8), .inl (cI, 288, .inl (ia z_M_delayLate))), ((a 9), .inl (cI, 96, .inl (ia z_M_firstOf))), ((a 10), .inl (cI, 96, .inl (ia z_M_secondOf)))])) args s 0 0 (va_A ([(o_M a M_thrown M_period M_width M_nodes M_analysed M_gates M_startNode M_startChange M_startWay M_startBase M_startEarly M_startLate M_worstWith M_worstWithout M_all M_rowSize), ((a 1), .inl (cI, 48, .inl (ia M_kinds))), ((a 2), .inl (cI, 48, .inl (ia M_pins))), ((a 3), .inl (cI, 144, .inl (ia M_froms))), ((a 4), .inl (cI, 144, .inl (ia M_wireEarly))), ((a 5), .inl (cI, 144, .inl (ia M_wireLate))), ((a 6), .inl (cI, 144, .inl (ia M_senses))), ((a 7), .inl (cI, 288, .inl (ia M_delayEarly))), ((a 8), .inl (cI, 288, .inl (ia M_delayLate))), ((a 9), .inl (cI, 96, .inl (ia M_firstOf))), ((a 10), .inl (cI, 96, .inl (ia M_secondOf)))]) s.heap.size) := ⟨_, rfl⟩
  rw [← hQ]
  suffices hW : ∀ (H : Heap) (locs : List Loc), va_P D vwCl ([(o_M a M_thrown M_period M_width M_nodes M_analysed M_gates M_startNode M_startChange M_startWay M_startBase M_startEarly M_startLate M_worstWith M_worstWithout M_all M_rowSize), ((a 1), .inl (cI, 48, .inl (ia M_kinds))), ((a 2), .inl (cI, 48, .inl (ia M_pins))), ((a 3), .inl (cI, 144, .inl (ia M_froms))), ((a 4), .inl (cI, 144, .inl (ia M_wireEarly))), ((a 5), .inl (cI, 144, .inl (ia M_wireLate))), ((a 6), .inl (cI, 144, .inl (ia M_senses))), ((a 7), .inl (cI, 288, .inl (ia M_delayEarly))), ((a 8), .inl (cI, 288, .inl (ia M_delayLate))), ((a 9), .inl (cI, 96, .inl (ia M_firstOf))), ((a 10), .inl (cI, 96, .inl (ia M_secondOf)))]) H → va_D A ([(o_M a M_thrown M_period M_width M_nodes M_analysed M_gates M_startNode M_startChange M_startWay M_startBase M_startEarly M_startLate M_worstWith M_worstWithout M_all M_rowSize), ((a 1), .inl (cI, 48, .inl (ia M_kinds))), ((a 2), .inl (cI, 48, .inl (ia M_pins))), ((a 3), .inl (cI, 144, .inl (ia M_froms))), ((a 4), .inl (cI, 144, .inl (ia M_wireEarly))), ((a 5), .inl (cI, 144, .inl (ia M_wireLate))), ((a 6), .inl (cI, 144, .inl (ia M_senses))), ((a 7), .inl (cI, 288, .inl (ia M_delayEarly))), ((a 8), .inl (cI, 288, .inl (ia M_delayLate))), ((a 9), .inl (cI, 96, .inl (ia M_firstOf))), ((a 10), .inl (cI, 96, .inl (ia M_secondOf)))]) → va_S A s.heap H locs → W p l e (headSpec w_M_input rm_M_input).room s m args below meth c H locs 0 0 Q (F0 m 0 ls []) from hW s.heap [] hP hD hS
  clear hP hD hS
  intro H locs hP hD hS
  have hk0 := (show (Cond.constant "PathTimingModel" 145 (iI 1000000)).before args s = true from by rw [show iI 1000000 = (1000000 : Int32) from by decide]; exact hT _ m1189)
  have hk1 := (show (Cond.constant "PathTimingModel" 146 (iI (-1000000))).before args s = true from by rw [show iI (-1000000) = ((-1000000) : Int32) from by decide]; exact hT _ m1194)
  rw [f_M_input] at h
  refine lv_aload_n hx hb d_M_input_0 rfl (lv_at hl 0 rfl) ?_
  refine lv_iload_n hx hb d_M_input_1 rfl (lv_at hl 1 rfl) ?_
  refine lv_iload_n hx hb d_M_input_2 rfl (lv_at hl 2 rfl) ?_
  refine lv_ldc hx hb hown hk0 d_M_input_3 ?_
  refine lv_ldc hx hb hown hk1 d_M_input_5 ?_
  obtain ⟨r7, hcall, h⟩ := ob1_e h
  refine ro_i (va_Run.run (va_runS (As := [.int (iI x1), .int (iI x2), .int (iI 1000000), .int (iI (-1000000))]) (rest := [.ref (a 0)]) ⟨hx, hb, hml, hown, hts⟩ (c_M_noTimes l D cI cJ cZ F a x1 x2 1000000 (-1000000) r7 H.size hcall) (cwS 4 hts (gd_S m1197 m1195 m1196 m12) rfl rfl rfl ⟨rfl, hc_M_noTimes⟩ ⟨Nat.le_of_ble_eq_true rfl, Nat.le_of_ble_eq_true rfl⟩) (pc_S [.int (iI x1), .int (iI x2), .int (iI 1000000), .int (iI (-1000000))] hP hK hD hN [] rfl rfl rfl) rfl rfl hl.1 rfl (lv_room (Nat.le_of_ble_eq_true rfl)) d_M_input_7 ⟨Nat.le_refl 0, Nat.le_refl 0⟩)) (W.eq (g2 := F0 m 10 ls [.int (iI r7), .ref (a 0)]) rfl ?_)
  have hj31 : ∀ (q1 : Int) (H : Heap) (locs : List Loc) (ls : Array Slot), va_P D vwCl [(o_M a M_thrown M_period M_width M_nodes M_analysed M_gates M_startNode M_startChange M_startWay M_startBase M_startEarly M_startLate M_worstWith M_worstWithout M_all M_rowSize), ((a 1), .inl (cI, 48, .inl (ia M_kinds))), ((a 2), .inl (cI, 48, .inl (ia M_pins))), ((a 3), .inl (cI, 144, .inl (ia M_froms))), ((a 4), .inl (cI, 144, .inl (ia M_wireEarly))), ((a 5), .inl (cI, 144, .inl (ia M_wireLate))), ((a 6), .inl (cI, 144, .inl (ia M_senses))), ((a 7), .inl (cI, 288, .inl (ia M_delayEarly))), ((a 8), .inl (cI, 288, .inl (ia M_delayLate))), ((a 9), .inl (cI, 96, .inl (ia M_firstOf))), ((a 10), .inl (cI, 96, .inl (ia M_secondOf)))] H → va_D A [(o_M a M_thrown M_period M_width M_nodes M_analysed M_gates M_startNode M_startChange M_startWay M_startBase M_startEarly M_startLate M_worstWith M_worstWithout M_all M_rowSize), ((a 1), .inl (cI, 48, .inl (ia M_kinds))), ((a 2), .inl (cI, 48, .inl (ia M_pins))), ((a 3), .inl (cI, 144, .inl (ia M_froms))), ((a 4), .inl (cI, 144, .inl (ia M_wireEarly))), ((a 5), .inl (cI, 144, .inl (ia M_wireLate))), ((a 6), .inl (cI, 144, .inl (ia M_senses))), ((a 7), .inl (cI, 288, .inl (ia M_delayEarly))), ((a 8), .inl (cI, 288, .inl (ia M_delayLate))), ((a 9), .inl (cI, 96, .inl (ia M_firstOf))), ((a 10), .inl (cI, 96, .inl (ia M_secondOf)))] → va_S A s.heap H locs → lv_has ls 6 [(0, .ref (a 0)), (1, .int (iI x1)), (2, .int (iI x2)), (3, .int (iI x3)), (4, .int (iI x4))] → f_M_input_j31 F M_nodes M_analysed M_kinds M_pins M_froms M_wireEarly M_wireLate M_senses M_delayEarly M_delayLate M_firstOf M_secondOf x1 x2 x3 x4 q1 = some (r, z_M_thrown, z_M_nodes, z_M_kinds, z_M_pins, z_M_froms, z_M_wireEarly, z_M_wireLate, z_M_senses, z_M_delayEarly, z_M_delayLate, z_M_firstOf, z_M_secondOf, z_M_analysed) → W p l e (headSpec w_M_input rm_M_input).room s m args below meth c H locs 0 0 Q (F0 m 31 ls [.int (iI q1), .ref (a 0)]) := by
    intro q1 H locs ls hP hD hS hl h
    rw [f_M_input_j31] at h
    refine va_put (D := D) (ci := 10) (v := .int (iI q1)) (ty := .int) (C := R_M) (T := F_M) (N := 53) hx hb hT in_M ty_M ty_M_ok n_M hown hK hP hD hS 0 rfl rfl 0 (by decide) (hT _ m1021) (fun _ h9 => h9) rfl (by decide +kernel) rfl rfl (Nat.le_of_ble_eq_true rfl) d_M_input_31 (fun H locs hP hD hS => ?_)
    have hP : va_P D vwCl [(o_M a q1 M_period M_width M_nodes M_analysed M_gates M_startNode M_startChange M_startWay M_startBase M_startEarly M_startLate M_worstWith M_worstWithout M_all M_rowSize), ((a 1), .inl (cI, 48, .inl (ia M_kinds))), ((a 2), .inl (cI, 48, .inl (ia M_pins))), ((a 3), .inl (cI, 144, .inl (ia M_froms))), ((a 4), .inl (cI, 144, .inl (ia M_wireEarly))), ((a 5), .inl (cI, 144, .inl (ia M_wireLate))), ((a 6), .inl (cI, 144, .inl (ia M_senses))), ((a 7), .inl (cI, 288, .inl (ia M_delayEarly))), ((a 8), .inl (cI, 288, .inl (ia M_delayLate))), ((a 9), .inl (cI, 96, .inl (ia M_firstOf))), ((a 10), .inl (cI, 96, .inl (ia M_secondOf)))] H := hP
    have hD : va_D A [(o_M a q1 M_period M_width M_nodes M_analysed M_gates M_startNode M_startChange M_startWay M_startBase M_startEarly M_startLate M_worstWith M_worstWithout M_all M_rowSize), ((a 1), .inl (cI, 48, .inl (ia M_kinds))), ((a 2), .inl (cI, 48, .inl (ia M_pins))), ((a 3), .inl (cI, 144, .inl (ia M_froms))), ((a 4), .inl (cI, 144, .inl (ia M_wireEarly))), ((a 5), .inl (cI, 144, .inl (ia M_wireLate))), ((a 6), .inl (cI, 144, .inl (ia M_senses))), ((a 7), .inl (cI, 288, .inl (ia M_delayEarly))), ((a 8), .inl (cI, 288, .inl (ia M_delayLate))), ((a 9), .inl (cI, 96, .inl (ia M_firstOf))), ((a 10), .inl (cI, 96, .inl (ia M_secondOf)))] := hD
    refine lv_aload_n hx hb d_M_input_34 rfl (lv_at hl 0 rfl) ?_
    refine va_get (D := D) (ci := 10) (v := .int (iI q1)) (C := R_M) (T := F_M) (N := 53) hx hb hT in_M hown hK hP 0 rfl rfl 0 (by decide) (hT _ m1021) (fun _ h9 => h9) rfl d_M_input_35 ?_
    obtain ⟨hg0, h⟩ := gr_e h
    refine zi_le hx hb d_M_input_38 rfl hg0 (fun hc => ?_) (fun hc => ?_)
    · replace h := if_t hc h
      refine lv_aload_n hx hb d_M_input_43 rfl (lv_at hl 0 rfl) ?_
      refine zv_iconst hx hb d_M_input_44 ?_
      refine zv_iconst hx hb d_M_input_45 ?_
      obtain ⟨r46, M_nodes_1, M_kinds_2, M_pins_3, M_froms_4, M_wireEarly_5, M_wireLate_6, M_senses_7, M_delayEarly_8, M_delayLate_9, M_firstOf_10, M_secondOf_11, M_analysed_12, hcall, h⟩ := ob13_e h
      refine ca_i (w2 := [(o_M a q1 M_period M_width M_nodes_1 M_analysed_12 M_gates M_startNode M_startChange M_startWay M_startBase M_startEarly M_startLate M_worstWith M_worstWithout M_all M_rowSize), ((a 1), .inl (cI, 48, .inl (ia M_kinds_2))), ((a 2), .inl (cI, 48, .inl (ia M_pins_3))), ((a 3), .inl (cI, 144, .inl (ia M_froms_4))), ((a 4), .inl (cI, 144, .inl (ia M_wireEarly_5))), ((a 5), .inl (cI, 144, .inl (ia M_wireLate_6))), ((a 6), .inl (cI, 144, .inl (ia M_senses_7))), ((a 7), .inl (cI, 288, .inl (ia M_delayEarly_8))), ((a 8), .inl (cI, 288, .inl (ia M_delayLate_9))), ((a 9), .inl (cI, 96, .inl (ia M_firstOf_10))), ((a 10), .inl (cI, 96, .inl (ia M_secondOf_11)))]) (va_runV (As := [.int (iI 1), .int (iI 0)]) (rest := []) ⟨hx, hb, hml, hown, hts⟩ (c_M_add l D cI cJ cZ F a q1 M_period M_width M_nodes M_analysed M_gates M_startNode M_startChange M_startWay M_startBase M_startEarly M_startLate M_worstWith M_worstWithout M_all M_rowSize M_kinds M_pins M_froms M_wireEarly M_wireLate M_senses M_delayEarly M_delayLate M_firstOf M_secondOf 1 0 r46 M_nodes_1 M_kinds_2 M_pins_3 M_froms_4 M_wireEarly_5 M_wireLate_6 M_senses_7 M_delayEarly_8 M_delayLate_9 M_firstOf_10 M_secondOf_11 M_analysed_12 H.size hcall) (cwV 2 hts (gd_V m1201 m1198 m1200 sl_M_add m12) rfl rfl rfl ⟨rfl, hc_M_add⟩ ⟨Nat.le_of_ble_eq_true rfl, Nat.le_of_ble_eq_true rfl⟩) (pc_V 0 10 [.int (iI 1), .int (iI 0)] hP hK hD hN [0, 1, 2, 3, 4, 5, 6, 7, 8, 9, 10] rfl rfl rfl rfl rfl) rfl rfl hl.1 rfl (lv_room (Nat.le_of_ble_eq_true rfl)) d_M_input_46 ⟨Nat.le_refl 0, Nat.le_refl 0⟩) hP hD hS hA [0, 1, 2, 3, 4, 5, 6, 7, 8, 9, 10] [] [0, 1, 2, 3, 4, 5, 6, 7, 8, 9, 10] rfl rfl rfl (by decide) rfl rfl rfl (fun H locs hP hD hS => ?_)
      refine lv_istore (lv' := [(5, .int (iI r46)), (0, .ref (a 0)), (1, .int (iI x1)), (2, .int (iI x2)), (3, .int (iI x3)), (4, .int (iI x4))]) hx hb d_M_input_49 hl (by decide) rfl (fun ls hl => ?_)
      refine lv_iload hx hb d_M_input_51 (lv_at hl 0 rfl) ?_
      have hj101 : ∀ (M_firstOf_13 : Int → Int) (M_secondOf_14 : Int → Int) (H : Heap) (locs : List Loc) (ls : Array Slot), va_P D vwCl [(o_M a q1 M_period M_width M_nodes_1 M_analysed_12 M_gates M_startNode M_startChange M_startWay M_startBase M_startEarly M_startLate M_worstWith M_worstWithout M_all M_rowSize), ((a 1), .inl (cI, 48, .inl (ia M_kinds_2))), ((a 2), .inl (cI, 48, .inl (ia M_pins_3))), ((a 3), .inl (cI, 144, .inl (ia M_froms_4))), ((a 4), .inl (cI, 144, .inl (ia M_wireEarly_5))), ((a 5), .inl (cI, 144, .inl (ia M_wireLate_6))), ((a 6), .inl (cI, 144, .inl (ia M_senses_7))), ((a 7), .inl (cI, 288, .inl (ia M_delayEarly_8))), ((a 8), .inl (cI, 288, .inl (ia M_delayLate_9))), ((a 9), .inl (cI, 96, .inl (ia M_firstOf_13))), ((a 10), .inl (cI, 96, .inl (ia M_secondOf_14)))] H → va_D A [(o_M a q1 M_period M_width M_nodes_1 M_analysed_12 M_gates M_startNode M_startChange M_startWay M_startBase M_startEarly M_startLate M_worstWith M_worstWithout M_all M_rowSize), ((a 1), .inl (cI, 48, .inl (ia M_kinds_2))), ((a 2), .inl (cI, 48, .inl (ia M_pins_3))), ((a 3), .inl (cI, 144, .inl (ia M_froms_4))), ((a 4), .inl (cI, 144, .inl (ia M_wireEarly_5))), ((a 5), .inl (cI, 144, .inl (ia M_wireLate_6))), ((a 6), .inl (cI, 144, .inl (ia M_senses_7))), ((a 7), .inl (cI, 288, .inl (ia M_delayEarly_8))), ((a 8), .inl (cI, 288, .inl (ia M_delayLate_9))), ((a 9), .inl (cI, 96, .inl (ia M_firstOf_13))), ((a 10), .inl (cI, 96, .inl (ia M_secondOf_14)))] → va_S A s.heap H locs → lv_has ls 6 [(5, .int (iI r46))] → f_M_input_j101 F q1 r46 M_nodes_1 M_kinds_2 M_pins_3 M_froms_4 M_wireEarly_5 M_wireLate_6 M_senses_7 M_delayEarly_8 M_delayLate_9 M_analysed_12 M_firstOf_13 M_secondOf_14 = some (r, z_M_thrown, z_M_nodes, z_M_kinds, z_M_pins, z_M_froms, z_M_wireEarly, z_M_wireLate, z_M_senses, z_M_delayEarly, z_M_delayLate, z_M_firstOf, z_M_secondOf, z_M_analysed) → W p l e (headSpec w_M_input rm_M_input).room s m args below meth c H locs 0 0 Q (F0 m 101 ls []) := by
        intro M_firstOf_13 M_secondOf_14 H locs ls hP hD hS hl h
        rw [f_M_input_j101] at h
        refine lv_iload hx hb d_M_input_101 (lv_at hl 0 rfl) ?_
        obtain ⟨e1, e2, e3, e4, e5, e6, e7, e8, e9, e10, e11, e12, e13, e14⟩ := so14 h
        rw [hQ, e1, e2, e3, e4, e5, e6, e7, e8, e9, e10, e11, e12, e13, e14]; rw [hAe] at hD hS; exact W.iret hx hb hr (fun t ht hW => ⟨⟨_, (), rfl, rfl, by rw [ht]; exact hP, va_K.moved hW.alike hK, hD⟩, hS.F ht⟩) hS.2.2 d_M_input_103
      obtain ⟨hg0, h⟩ := gr_e h
      refine zi_lt hx hb d_M_input_53 rfl hg0 (fun hc => ?_) (fun hc => ?_)
      · replace h := if_t hc h
        exact hj101 M_firstOf_10 M_secondOf_11 H locs ls hP hD hS (lv_sub hl [0] rfl) h
      · replace h := if_f hc h
        refine lv_aload_n hx hb d_M_input_56 rfl (lv_at hl 1 rfl) ?_
        refine va_get (D := D) (ci := 10) (v := .ref (a 9)) (C := R_M) (T := F_M) (N := 53) hx hb hT in_M hown hK hP 0 rfl rfl 12 (by decide) (hT _ m1033) (fun _ h9 => h9) rfl d_M_input_57 ?_
        refine zv_iconst hx hb d_M_input_60 ?_
        refine lv_iload hx hb d_M_input_61 (lv_at hl 0 rfl) ?_
        refine zv_imul hx hb d_M_input_63 ?_
        refine lv_iload_n hx hb d_M_input_64 rfl (lv_at hl 2 rfl) ?_
        obtain ⟨hin, h⟩ := gi_e h
        refine zv_iast hx hb hK hP hD hS 9 0 rfl rfl (Nat.le_of_ble_eq_true rfl) hin d_M_input_65 (fun H locs hP hD hS => ?_)
        obtain ⟨M_firstOf_15, hv⟩ : ∃ z, z = (ui M_firstOf_10 (2 * r46) x1) := ⟨_, rfl⟩
        replace h := bd_e hv h
        have hP : va_P D vwCl [(o_M a q1 M_period M_width M_nodes_1 M_analysed_12 M_gates M_startNode M_startChange M_startWay M_startBase M_startEarly M_startLate M_worstWith M_worstWithout M_all M_rowSize), ((a 1), .inl (cI, 48, .inl (ia M_kinds_2))), ((a 2), .inl (cI, 48, .inl (ia M_pins_3))), ((a 3), .inl (cI, 144, .inl (ia M_froms_4))), ((a 4), .inl (cI, 144, .inl (ia M_wireEarly_5))), ((a 5), .inl (cI, 144, .inl (ia M_wireLate_6))), ((a 6), .inl (cI, 144, .inl (ia M_senses_7))), ((a 7), .inl (cI, 288, .inl (ia M_delayEarly_8))), ((a 8), .inl (cI, 288, .inl (ia M_delayLate_9))), ((a 9), .inl (cI, 96, .inl (ia M_firstOf_15))), ((a 10), .inl (cI, 96, .inl (ia M_secondOf_11)))] H := by rw [hv]; exact hP
        have hD : va_D A [(o_M a q1 M_period M_width M_nodes_1 M_analysed_12 M_gates M_startNode M_startChange M_startWay M_startBase M_startEarly M_startLate M_worstWith M_worstWithout M_all M_rowSize), ((a 1), .inl (cI, 48, .inl (ia M_kinds_2))), ((a 2), .inl (cI, 48, .inl (ia M_pins_3))), ((a 3), .inl (cI, 144, .inl (ia M_froms_4))), ((a 4), .inl (cI, 144, .inl (ia M_wireEarly_5))), ((a 5), .inl (cI, 144, .inl (ia M_wireLate_6))), ((a 6), .inl (cI, 144, .inl (ia M_senses_7))), ((a 7), .inl (cI, 288, .inl (ia M_delayEarly_8))), ((a 8), .inl (cI, 288, .inl (ia M_delayLate_9))), ((a 9), .inl (cI, 96, .inl (ia M_firstOf_15))), ((a 10), .inl (cI, 96, .inl (ia M_secondOf_11)))] := by rw [hv]; exact hD
        refine lv_aload_n hx hb d_M_input_66 rfl (lv_at hl 1 rfl) ?_
        refine va_get (D := D) (ci := 10) (v := .ref (a 10)) (C := R_M) (T := F_M) (N := 53) hx hb hT in_M hown hK hP 0 rfl rfl 13 (by decide) (hT _ m1034) (fun _ h9 => h9) rfl d_M_input_67 ?_
        refine zv_iconst hx hb d_M_input_70 ?_
        refine lv_iload hx hb d_M_input_71 (lv_at hl 0 rfl) ?_
        refine zv_imul hx hb d_M_input_73 ?_
        refine lv_iload_n hx hb d_M_input_74 rfl (lv_at hl 3 rfl) ?_
        obtain ⟨hin, h⟩ := gi_e h
        refine zv_iast hx hb hK hP hD hS 10 0 rfl rfl (Nat.le_of_ble_eq_true rfl) hin d_M_input_75 (fun H locs hP hD hS => ?_)
        obtain ⟨M_secondOf_16, hv⟩ : ∃ z, z = (ui M_secondOf_11 (2 * r46) x2) := ⟨_, rfl⟩
        replace h := bd_e hv h
        have hP : va_P D vwCl [(o_M a q1 M_period M_width M_nodes_1 M_analysed_12 M_gates M_startNode M_startChange M_startWay M_startBase M_startEarly M_startLate M_worstWith M_worstWithout M_all M_rowSize), ((a 1), .inl (cI, 48, .inl (ia M_kinds_2))), ((a 2), .inl (cI, 48, .inl (ia M_pins_3))), ((a 3), .inl (cI, 144, .inl (ia M_froms_4))), ((a 4), .inl (cI, 144, .inl (ia M_wireEarly_5))), ((a 5), .inl (cI, 144, .inl (ia M_wireLate_6))), ((a 6), .inl (cI, 144, .inl (ia M_senses_7))), ((a 7), .inl (cI, 288, .inl (ia M_delayEarly_8))), ((a 8), .inl (cI, 288, .inl (ia M_delayLate_9))), ((a 9), .inl (cI, 96, .inl (ia M_firstOf_15))), ((a 10), .inl (cI, 96, .inl (ia M_secondOf_16)))] H := by rw [hv]; exact hP
        have hD : va_D A [(o_M a q1 M_period M_width M_nodes_1 M_analysed_12 M_gates M_startNode M_startChange M_startWay M_startBase M_startEarly M_startLate M_worstWith M_worstWithout M_all M_rowSize), ((a 1), .inl (cI, 48, .inl (ia M_kinds_2))), ((a 2), .inl (cI, 48, .inl (ia M_pins_3))), ((a 3), .inl (cI, 144, .inl (ia M_froms_4))), ((a 4), .inl (cI, 144, .inl (ia M_wireEarly_5))), ((a 5), .inl (cI, 144, .inl (ia M_wireLate_6))), ((a 6), .inl (cI, 144, .inl (ia M_senses_7))), ((a 7), .inl (cI, 288, .inl (ia M_delayEarly_8))), ((a 8), .inl (cI, 288, .inl (ia M_delayLate_9))), ((a 9), .inl (cI, 96, .inl (ia M_firstOf_15))), ((a 10), .inl (cI, 96, .inl (ia M_secondOf_16)))] := by rw [hv]; exact hD
        refine lv_aload_n hx hb d_M_input_76 rfl (lv_at hl 1 rfl) ?_
        refine va_get (D := D) (ci := 10) (v := .ref (a 9)) (C := R_M) (T := F_M) (N := 53) hx hb hT in_M hown hK hP 0 rfl rfl 12 (by decide) (hT _ m1033) (fun _ h9 => h9) rfl d_M_input_77 ?_
        refine zv_iconst hx hb d_M_input_80 ?_
        refine lv_iload hx hb d_M_input_81 (lv_at hl 0 rfl) ?_
        refine zv_imul hx hb d_M_input_83 ?_
        refine zv_iconst hx hb d_M_input_84 ?_
        refine zv_iadd hx hb d_M_input_85 ?_
        refine lv_iload_n hx hb d_M_input_86 rfl (lv_at hl 4 rfl) ?_
        obtain ⟨hin, h⟩ := gi_e h
        refine zv_iast hx hb hK hP hD hS 9 0 rfl rfl (Nat.le_of_ble_eq_true rfl) hin d_M_input_87 (fun H locs hP hD hS => ?_)
        obtain ⟨M_firstOf_17, hv⟩ : ∃ z, z = (ui M_firstOf_15 ((2 * r46) + 1) x3) := ⟨_, rfl⟩
        replace h := bd_e hv h
        have hP : va_P D vwCl [(o_M a q1 M_period M_width M_nodes_1 M_analysed_12 M_gates M_startNode M_startChange M_startWay M_startBase M_startEarly M_startLate M_worstWith M_worstWithout M_all M_rowSize), ((a 1), .inl (cI, 48, .inl (ia M_kinds_2))), ((a 2), .inl (cI, 48, .inl (ia M_pins_3))), ((a 3), .inl (cI, 144, .inl (ia M_froms_4))), ((a 4), .inl (cI, 144, .inl (ia M_wireEarly_5))), ((a 5), .inl (cI, 144, .inl (ia M_wireLate_6))), ((a 6), .inl (cI, 144, .inl (ia M_senses_7))), ((a 7), .inl (cI, 288, .inl (ia M_delayEarly_8))), ((a 8), .inl (cI, 288, .inl (ia M_delayLate_9))), ((a 9), .inl (cI, 96, .inl (ia M_firstOf_17))), ((a 10), .inl (cI, 96, .inl (ia M_secondOf_16)))] H := by rw [hv]; exact hP
        have hD : va_D A [(o_M a q1 M_period M_width M_nodes_1 M_analysed_12 M_gates M_startNode M_startChange M_startWay M_startBase M_startEarly M_startLate M_worstWith M_worstWithout M_all M_rowSize), ((a 1), .inl (cI, 48, .inl (ia M_kinds_2))), ((a 2), .inl (cI, 48, .inl (ia M_pins_3))), ((a 3), .inl (cI, 144, .inl (ia M_froms_4))), ((a 4), .inl (cI, 144, .inl (ia M_wireEarly_5))), ((a 5), .inl (cI, 144, .inl (ia M_wireLate_6))), ((a 6), .inl (cI, 144, .inl (ia M_senses_7))), ((a 7), .inl (cI, 288, .inl (ia M_delayEarly_8))), ((a 8), .inl (cI, 288, .inl (ia M_delayLate_9))), ((a 9), .inl (cI, 96, .inl (ia M_firstOf_17))), ((a 10), .inl (cI, 96, .inl (ia M_secondOf_16)))] := by rw [hv]; exact hD
        refine lv_aload_n hx hb d_M_input_88 rfl (lv_at hl 1 rfl) ?_
        refine va_get (D := D) (ci := 10) (v := .ref (a 10)) (C := R_M) (T := F_M) (N := 53) hx hb hT in_M hown hK hP 0 rfl rfl 13 (by decide) (hT _ m1034) (fun _ h9 => h9) rfl d_M_input_89 ?_
        refine zv_iconst hx hb d_M_input_92 ?_
        refine lv_iload hx hb d_M_input_93 (lv_at hl 0 rfl) ?_
        refine zv_imul hx hb d_M_input_95 ?_
        refine zv_iconst hx hb d_M_input_96 ?_
        refine zv_iadd hx hb d_M_input_97 ?_
        refine lv_iload hx hb d_M_input_98 (lv_at hl 5 rfl) ?_
        obtain ⟨hin, h⟩ := gi_e h
        refine zv_iast hx hb hK hP hD hS 10 0 rfl rfl (Nat.le_of_ble_eq_true rfl) hin d_M_input_100 (fun H locs hP hD hS => ?_)
        obtain ⟨M_secondOf_18, hv⟩ : ∃ z, z = (ui M_secondOf_16 ((2 * r46) + 1) x4) := ⟨_, rfl⟩
        replace h := bd_e hv h
        have hP : va_P D vwCl [(o_M a q1 M_period M_width M_nodes_1 M_analysed_12 M_gates M_startNode M_startChange M_startWay M_startBase M_startEarly M_startLate M_worstWith M_worstWithout M_all M_rowSize), ((a 1), .inl (cI, 48, .inl (ia M_kinds_2))), ((a 2), .inl (cI, 48, .inl (ia M_pins_3))), ((a 3), .inl (cI, 144, .inl (ia M_froms_4))), ((a 4), .inl (cI, 144, .inl (ia M_wireEarly_5))), ((a 5), .inl (cI, 144, .inl (ia M_wireLate_6))), ((a 6), .inl (cI, 144, .inl (ia M_senses_7))), ((a 7), .inl (cI, 288, .inl (ia M_delayEarly_8))), ((a 8), .inl (cI, 288, .inl (ia M_delayLate_9))), ((a 9), .inl (cI, 96, .inl (ia M_firstOf_17))), ((a 10), .inl (cI, 96, .inl (ia M_secondOf_18)))] H := by rw [hv]; exact hP
        have hD : va_D A [(o_M a q1 M_period M_width M_nodes_1 M_analysed_12 M_gates M_startNode M_startChange M_startWay M_startBase M_startEarly M_startLate M_worstWith M_worstWithout M_all M_rowSize), ((a 1), .inl (cI, 48, .inl (ia M_kinds_2))), ((a 2), .inl (cI, 48, .inl (ia M_pins_3))), ((a 3), .inl (cI, 144, .inl (ia M_froms_4))), ((a 4), .inl (cI, 144, .inl (ia M_wireEarly_5))), ((a 5), .inl (cI, 144, .inl (ia M_wireLate_6))), ((a 6), .inl (cI, 144, .inl (ia M_senses_7))), ((a 7), .inl (cI, 288, .inl (ia M_delayEarly_8))), ((a 8), .inl (cI, 288, .inl (ia M_delayLate_9))), ((a 9), .inl (cI, 96, .inl (ia M_firstOf_17))), ((a 10), .inl (cI, 96, .inl (ia M_secondOf_18)))] := by rw [hv]; exact hD
        exact hj101 M_firstOf_17 M_secondOf_18 H locs ls hP hD hS (lv_sub hl [0] rfl) h
    · replace h := if_f hc h
      refine zv_iconst hx hb d_M_input_41 ?_
      obtain ⟨e1, e2, e3, e4, e5, e6, e7, e8, e9, e10, e11, e12, e13, e14⟩ := so14 h
      rw [hQ, e1, e2, e3, e4, e5, e6, e7, e8, e9, e10, e11, e12, e13, e14]; rw [hAe] at hD hS; exact W.iret hx hb hr (fun t ht hW => ⟨⟨_, (), rfl, rfl, by rw [ht]; exact hP, va_K.moved hW.alike hK, hD⟩, hS.F ht⟩) hS.2.2 d_M_input_42
  have hj26 : ∀  (H : Heap) (locs : List Loc) (ls : Array Slot), va_P D vwCl [(o_M a M_thrown M_period M_width M_nodes M_analysed M_gates M_startNode M_startChange M_startWay M_startBase M_startEarly M_startLate M_worstWith M_worstWithout M_all M_rowSize), ((a 1), .inl (cI, 48, .inl (ia M_kinds))), ((a 2), .inl (cI, 48, .inl (ia M_pins))), ((a 3), .inl (cI, 144, .inl (ia M_froms))), ((a 4), .inl (cI, 144, .inl (ia M_wireEarly))), ((a 5), .inl (cI, 144, .inl (ia M_wireLate))), ((a 6), .inl (cI, 144, .inl (ia M_senses))), ((a 7), .inl (cI, 288, .inl (ia M_delayEarly))), ((a 8), .inl (cI, 288, .inl (ia M_delayLate))), ((a 9), .inl (cI, 96, .inl (ia M_firstOf))), ((a 10), .inl (cI, 96, .inl (ia M_secondOf)))] H → va_D A [(o_M a M_thrown M_period M_width M_nodes M_analysed M_gates M_startNode M_startChange M_startWay M_startBase M_startEarly M_startLate M_worstWith M_worstWithout M_all M_rowSize), ((a 1), .inl (cI, 48, .inl (ia M_kinds))), ((a 2), .inl (cI, 48, .inl (ia M_pins))), ((a 3), .inl (cI, 144, .inl (ia M_froms))), ((a 4), .inl (cI, 144, .inl (ia M_wireEarly))), ((a 5), .inl (cI, 144, .inl (ia M_wireLate))), ((a 6), .inl (cI, 144, .inl (ia M_senses))), ((a 7), .inl (cI, 288, .inl (ia M_delayEarly))), ((a 8), .inl (cI, 288, .inl (ia M_delayLate))), ((a 9), .inl (cI, 96, .inl (ia M_firstOf))), ((a 10), .inl (cI, 96, .inl (ia M_secondOf)))] → va_S A s.heap H locs → lv_has ls 6 [(0, .ref (a 0)), (1, .int (iI x1)), (2, .int (iI x2)), (3, .int (iI x3)), (4, .int (iI x4))] → f_M_input_j26 F M_nodes M_analysed M_kinds M_pins M_froms M_wireEarly M_wireLate M_senses M_delayEarly M_delayLate M_firstOf M_secondOf x1 x2 x3 x4 = some (r, z_M_thrown, z_M_nodes, z_M_kinds, z_M_pins, z_M_froms, z_M_wireEarly, z_M_wireLate, z_M_senses, z_M_delayEarly, z_M_delayLate, z_M_firstOf, z_M_secondOf, z_M_analysed) → W p l e (headSpec w_M_input rm_M_input).room s m args below meth c H locs 0 0 Q (F0 m 26 ls [.ref (a 0)]) := by
    intro  H locs ls hP hD hS hl h
    rw [f_M_input_j26] at h
    refine zv_iconst hx hb d_M_input_26 ?_
    refine lv_goto hx hb d_M_input_27 rfl ?_
    exact hj31 1 H locs ls hP hD hS (lv_sub hl [0, 1, 2, 3, 4] rfl) h
  obtain ⟨hg0, h⟩ := gr_e h
  refine zi_ne hx hb d_M_input_10 rfl hg0 (fun hc => ?_) (fun hc => ?_)
  · replace h := if_f hc h
    exact hj26  H locs ls hP hD hS (lv_sub hl [0, 1, 2, 3, 4] rfl) h
  · replace h := if_t hc h
    refine lv_iload_n hx hb d_M_input_13 rfl (lv_at hl 3 rfl) ?_
    refine lv_iload hx hb d_M_input_14 (lv_at hl 4 rfl) ?_
    refine lv_ldc hx hb hown hk0 d_M_input_16 ?_
    refine lv_ldc hx hb hown hk1 d_M_input_18 ?_
    obtain ⟨r20, hcall, h⟩ := ob1_e h
    refine ro_i (va_Run.run (va_runS (As := [.int (iI x3), .int (iI x4), .int (iI 1000000), .int (iI (-1000000))]) (rest := [.ref (a 0)]) ⟨hx, hb, hml, hown, hts⟩ (c_M_noTimes l D cI cJ cZ F a x3 x4 1000000 (-1000000) r20 H.size hcall) (cwS 4 hts (gd_S m1197 m1195 m1196 m12) rfl rfl rfl ⟨rfl, hc_M_noTimes⟩ ⟨Nat.le_of_ble_eq_true rfl, Nat.le_of_ble_eq_true rfl⟩) (pc_S [.int (iI x3), .int (iI x4), .int (iI 1000000), .int (iI (-1000000))] hP hK hD hN [] rfl rfl rfl) rfl rfl hl.1 rfl (lv_room (Nat.le_of_ble_eq_true rfl)) d_M_input_20 ⟨Nat.le_refl 0, Nat.le_refl 0⟩)) (W.eq (g2 := F0 m 23 ls [.int (iI r20), .ref (a 0)]) rfl ?_)
    obtain ⟨hg0, h⟩ := gr_e h
    refine zi_eq hx hb d_M_input_23 rfl hg0 (fun hc => ?_) (fun hc => ?_)
    · replace h := if_t hc h
      refine zv_iconst hx hb d_M_input_30 ?_
      exact hj31 0 H locs ls hP hD hS (lv_sub hl [0, 1, 2, 3, 4] rfl) h
    · replace h := if_f hc h
      exact hj26  H locs ls hP hD hS (lv_sub hl [0, 1, 2, 3, 4] rfl) h
abbrev rm_M_gate : Room := { frames := 2, cells := 0, slots := 0, locals := 47 }
set_option maxHeartbeats 4000000 in
set_option maxRecDepth 100000 in
theorem c_M_gate (l : Launch) (D : va_G) (cI cJ cZ : ClassId) (F : Nat) (a : Nat → Nat) (M_thrown : Int) (M_period : Int) (M_width : Int) (M_nodes : Int) (M_analysed : Int) (M_gates : Int) (M_startNode : Int) (M_startChange : Int) (M_startWay : Int) (M_startBase : Int) (M_startEarly : Int) (M_startLate : Int) (M_worstWith : Int) (M_worstWithout : Int) (M_all : Int64) (M_rowSize : Int) (M_kinds : Int → Int) (M_pins : Int → Int) (M_froms : Int → Int) (M_wireEarly : Int → Int) (M_wireLate : Int → Int) (M_senses : Int → Int) (M_delayEarly : Int → Int) (M_delayLate : Int → Int) (M_firstOf : Int → Int) (M_secondOf : Int → Int) (x1 : Int) (r : Int) (z_M_thrown : Int) (z_M_nodes : Int) (z_M_kinds : Int → Int) (z_M_pins : Int → Int) (z_M_froms : Int → Int) (z_M_wireEarly : Int → Int) (z_M_wireLate : Int → Int) (z_M_senses : Int → Int) (z_M_delayEarly : Int → Int) (z_M_delayLate : Int → Int) (z_M_firstOf : Int → Int) (z_M_secondOf : Int → Int) (z_M_analysed : Int) (sz : Nat) (h : f_M_gate F M_nodes M_analysed M_kinds M_pins M_froms M_wireEarly M_wireLate M_senses M_delayEarly M_delayLate M_firstOf M_secondOf x1 = some (r, z_M_thrown, z_M_nodes, z_M_kinds, z_M_pins, z_M_froms, z_M_wireEarly, z_M_wireLate, z_M_senses, z_M_delayEarly, z_M_delayLate, z_M_firstOf, z_M_secondOf, z_M_analysed)) : Met l y_M_gate w_M_gate rm_M_gate (PC D [(cI, .int), (cJ, .long), (cZ, .boolean)] [.ref (a 0), .int (iI x1)] ([(o_M a M_thrown M_period M_width M_nodes M_analysed M_gates M_startNode M_startChange M_startWay M_startBase M_startEarly M_startLate M_worstWith M_worstWithout M_all M_rowSize), ((a 1), .inl (cI, 48, .inl (ia M_kinds))), ((a 2), .inl (cI, 48, .inl (ia M_pins))), ((a 3), .inl (cI, 144, .inl (ia M_froms))), ((a 4), .inl (cI, 144, .inl (ia M_wireEarly))), ((a 5), .inl (cI, 144, .inl (ia M_wireLate))), ((a 6), .inl (cI, 144, .inl (ia M_senses))), ((a 7), .inl (cI, 288, .inl (ia M_delayEarly))), ((a 8), .inl (cI, 288, .inl (ia M_delayLate))), ((a 9), .inl (cI, 96, .inl (ia M_firstOf))), ((a 10), .inl (cI, 96, .inl (ia M_secondOf)))]) sz) (QI D [(cI, .int), (cJ, .long), (cZ, .boolean)] ([(o_M a M_thrown M_period M_width M_nodes M_analysed M_gates M_startNode M_startChange M_startWay M_startBase M_startEarly M_startLate M_worstWith M_worstWithout M_all M_rowSize), ((a 1), .inl (cI, 48, .inl (ia M_kinds))), ((a 2), .inl (cI, 48, .inl (ia M_pins))), ((a 3), .inl (cI, 144, .inl (ia M_froms))), ((a 4), .inl (cI, 144, .inl (ia M_wireEarly))), ((a 5), .inl (cI, 144, .inl (ia M_wireLate))), ((a 6), .inl (cI, 144, .inl (ia M_senses))), ((a 7), .inl (cI, 288, .inl (ia M_delayEarly))), ((a 8), .inl (cI, 288, .inl (ia M_delayLate))), ((a 9), .inl (cI, 96, .inl (ia M_firstOf))), ((a 10), .inl (cI, 96, .inl (ia M_secondOf)))]) sz r ([(o_M a z_M_thrown M_period M_width z_M_nodes z_M_analysed M_gates M_startNode M_startChange M_startWay M_startBase M_startEarly M_startLate M_worstWith M_worstWithout M_all M_rowSize), ((a 1), .inl (cI, 48, .inl (ia z_M_kinds))), ((a 2), .inl (cI, 48, .inl (ia z_M_pins))), ((a 3), .inl (cI, 144, .inl (ia z_M_froms))), ((a 4), .inl (cI, 144, .inl (ia z_M_wireEarly))), ((a 5), .inl (cI, 144, .inl (ia z_M_wireLate))), ((a 6), .inl (cI, 144, .inl (ia z_M_senses))), ((a 7), .inl (cI, 288, .inl (ia z_M_delayEarly))), ((a 8), .inl (cI, 288, .inl (ia z_M_delayLate))), ((a 9), .inl (cI, 96, .inl (ia z_M_firstOf))), ((a 10), .inl (cI, 96, .inl (ia z_M_secondOf)))])) 0 0 (va_A ([(o_M a M_thrown M_period M_width M_nodes M_analysed M_gates M_startNode M_startChange M_startWay M_startBase M_startEarly M_startLate M_worstWith M_worstWithout M_all M_rowSize), ((a 1), .inl (cI, 48, .inl (ia M_kinds))), ((a 2), .inl (cI, 48, .inl (ia M_pins))), ((a 3), .inl (cI, 144, .inl (ia M_froms))), ((a 4), .inl (cI, 144, .inl (ia M_wireEarly))), ((a 5), .inl (cI, 144, .inl (ia M_wireLate))), ((a 6), .inl (cI, 144, .inl (ia M_senses))), ((a 7), .inl (cI, 288, .inl (ia M_delayEarly))), ((a 8), .inl (cI, 288, .inl (ia M_delayLate))), ((a 9), .inl (cI, 96, .inl (ia M_firstOf))), ((a 10), .inl (cI, 96, .inl (ia M_secondOf)))]) sz) := by
  refine Met.ofW (cc := prog_12_method_8_code) (maxL := 2) (ret := (Option.some Jvm.ClassFile.FieldType.int)) (by decide) rfl ?_
  intro p e s m args below meth c s₁ B hml hv
  obtain ⟨rfl, hsz, hP, hK, hD0, hN⟩ := hv
  have hx := B.exec
  have hb := B.bytes
  have hr := B.returns
  have hts := atoms_spec (ws := w_M_gate) B.pre
  have hown : s.vm.findClass R_M = some m.cls := findClass_of_methodNamed B.named
  have hlocks := B.notSynchronized
  subst hsz
  have hD := hD0.self (sz := s.heap.size)
  obtain ⟨A, hAe⟩ : ∃ A, A = va_A ([(o_M a M_thrown M_period M_width M_nodes M_analysed M_gates M_startNode M_startChange M_startWay M_startBase M_startEarly M_startLate M_worstWith M_worstWithout M_all M_rowSize), ((a 1), .inl (cI, 48, .inl (ia M_kinds))), ((a 2), .inl (cI, 48, .inl (ia M_pins))), ((a 3), .inl (cI, 144, .inl (ia M_froms))), ((a 4), .inl (cI, 144, .inl (ia M_wireEarly))), ((a 5), .inl (cI, 144, .inl (ia M_wireLate))), ((a 6), .inl (cI, 144, .inl (ia M_senses))), ((a 7), .inl (cI, 288, .inl (ia M_delayEarly))), ((a 8), .inl (cI, 288, .inl (ia M_delayLate))), ((a 9), .inl (cI, 96, .inl (ia M_firstOf))), ((a 10), .inl (cI, 96, .inl (ia M_secondOf)))]) s.heap.size := ⟨_, rfl⟩
  rw [← hAe] at hD
  have hA : ∀ q : Nat, s.heap.size ≤ q → A q := fun q h => by rw [hAe]; exact Or.inr h
  have hS : va_S A s.heap s.heap [] := va_S.rf
  have hl := lv_entry ([.ref (a 0), .int (iI x1)]) (n := 2) (Nat.le_of_ble_eq_true rfl)
  rw [lg_entry_eq]
  generalize (lg_sl ([.ref (a 0), .int (iI x1)]) ++ List.replicate (2 - (lg_sl ([.ref (a 0), .int (iI x1)])).length) Slot.unset).toArray = ls at hl ⊢
  have hl : lv_has ls 2 [(0, .ref (a 0)), (1, .int (iI x1))] := hl
  generalize (List.toArray ([.ref (a 0), .int (iI x1)] : List Value)) = args at hts ⊢
  have hT : ∀ w ∈ Tg, w.before args s = true := fun w h => hts w (List.mem_cons_of_mem _ h)
  obtain ⟨Q, hQ⟩ : ∃ Q, Q = MQ below (QI D [(cI, .int), (cJ, .long), (cZ, .boolean)] ([(o_M a M_thrown M_period M_width M_nodes M_analysed M_gates M_startNode M_startChange M_startWay M_startBase M_startEarly M_startLate M_worstWith M_worstWithout M_all M_rowSize), ((a 1), .inl (cI, 48, .inl (ia M_kinds))), ((a 2), .inl (cI, 48, .inl (ia M_pins))), ((a 3), .inl (cI, 144, .inl (ia M_froms))), ((a 4), .inl (cI, 144, .inl (ia M_wireEarly))), ((a 5), .inl (cI, 144, .inl (ia M_wireLate))), ((a 6), .inl (cI, 144, .inl (ia M_senses))), ((a 7), .inl (cI, 288, .inl (ia M_delayEarly))), ((a 8), .inl (cI, 288, .inl (ia M_delayLate))), ((a 9), .inl (cI, 96, .inl (ia M_firstOf))), ((a 10), .inl (cI, 96, .inl (ia M_secondOf)))]) s.heap.size r ([(o_M a z_M_thrown M_period M_width z_M_nodes z_M_analysed M_gates M_startNode M_startChange M_startWay M_startBase M_startEarly M_startLate M_worstWith M_worstWithout M_all M_rowSize), ((a 1), .inl (cI, 48, .inl (ia z_M_kinds))), ((a 2), .inl (cI, 48, .inl (ia z_M_pins))), ((a 3), .inl (cI, 144, .inl (ia z_M_froms))), ((a 4), .inl (cI, 144, .inl (ia z_M_wireEarly))), ((a 5), .inl (cI, 144, .inl (ia z_M_wireLate))), ((a 6), .inl (cI, 144, .inl (ia z_M_senses))), ((a 7), .inl (cI, 288, .inl (ia z_M_delayEarly))), ((a 8), .inl (cI, 288, .inl (ia z_M_delayLate))), ((a 9), .inl (cI, 96, .inl (ia z_M_firstOf))), ((a 10), .inl (cI, 96, .inl (ia z_M_secondOf)))])) args s 0 0 (va_A ([(o_M a M_thrown M_period M_width M_nodes M_analysed M_gates M_startNode M_startChange M_startWay M_startBase M_startEarly M_startLate M_worstWith M_worstWithout M_all M_rowSize), ((a 1), .inl (cI, 48, .inl (ia M_kinds))), ((a 2), .inl (cI, 48, .inl (ia M_pins))), ((a 3), .inl (cI, 144, .inl (ia M_froms))), ((a 4), .inl (cI, 144, .inl (ia M_wireEarly))), ((a 5), .inl (cI, 144, .inl (ia M_wireLate))), ((a 6), .inl (cI, 144, .inl (ia M_senses))), ((a 7), .inl (cI, 288, .inl (ia M_delayEarly))), ((a 8), .inl (cI, 288, .inl (ia M_delayLate))), ((a 9), .inl (cI, 96, .inl (ia M_firstOf))), ((a 10), .inl (cI, 96, .inl (ia M_secondOf)))]) s.heap.size) := ⟨_, rfl⟩
  rw [← hQ]
  suffices hW : ∀ (H : Heap) (locs : List Loc), va_P D vwCl ([(o_M a M_thrown M_period M_width M_nodes M_analysed M_gates M_startNode M_startChange M_startWay M_startBase M_startEarly M_startLate M_worstWith M_worstWithout M_all M_rowSize), ((a 1), .inl (cI, 48, .inl (ia M_kinds))), ((a 2), .inl (cI, 48, .inl (ia M_pins))), ((a 3), .inl (cI, 144, .inl (ia M_froms))), ((a 4), .inl (cI, 144, .inl (ia M_wireEarly))), ((a 5), .inl (cI, 144, .inl (ia M_wireLate))), ((a 6), .inl (cI, 144, .inl (ia M_senses))), ((a 7), .inl (cI, 288, .inl (ia M_delayEarly))), ((a 8), .inl (cI, 288, .inl (ia M_delayLate))), ((a 9), .inl (cI, 96, .inl (ia M_firstOf))), ((a 10), .inl (cI, 96, .inl (ia M_secondOf)))]) H → va_D A ([(o_M a M_thrown M_period M_width M_nodes M_analysed M_gates M_startNode M_startChange M_startWay M_startBase M_startEarly M_startLate M_worstWith M_worstWithout M_all M_rowSize), ((a 1), .inl (cI, 48, .inl (ia M_kinds))), ((a 2), .inl (cI, 48, .inl (ia M_pins))), ((a 3), .inl (cI, 144, .inl (ia M_froms))), ((a 4), .inl (cI, 144, .inl (ia M_wireEarly))), ((a 5), .inl (cI, 144, .inl (ia M_wireLate))), ((a 6), .inl (cI, 144, .inl (ia M_senses))), ((a 7), .inl (cI, 288, .inl (ia M_delayEarly))), ((a 8), .inl (cI, 288, .inl (ia M_delayLate))), ((a 9), .inl (cI, 96, .inl (ia M_firstOf))), ((a 10), .inl (cI, 96, .inl (ia M_secondOf)))]) → va_S A s.heap H locs → W p l e (headSpec w_M_gate rm_M_gate).room s m args below meth c H locs 0 0 Q (F0 m 0 ls []) from hW s.heap [] hP hD hS
  clear hP hD hS
  intro H locs hP hD hS
  rw [f_M_gate] at h
  refine lv_aload_n hx hb d_M_gate_0 rfl (lv_at hl 0 rfl) ?_
  refine lv_iload_n hx hb d_M_gate_1 rfl (lv_at hl 1 rfl) ?_
  refine zv_iconst hx hb d_M_gate_2 ?_
  have hj16 : ∀ (q1 : Int) (H : Heap) (locs : List Loc) (ls : Array Slot), va_P D vwCl [(o_M a M_thrown M_period M_width M_nodes M_analysed M_gates M_startNode M_startChange M_startWay M_startBase M_startEarly M_startLate M_worstWith M_worstWithout M_all M_rowSize), ((a 1), .inl (cI, 48, .inl (ia M_kinds))), ((a 2), .inl (cI, 48, .inl (ia M_pins))), ((a 3), .inl (cI, 144, .inl (ia M_froms))), ((a 4), .inl (cI, 144, .inl (ia M_wireEarly))), ((a 5), .inl (cI, 144, .inl (ia M_wireLate))), ((a 6), .inl (cI, 144, .inl (ia M_senses))), ((a 7), .inl (cI, 288, .inl (ia M_delayEarly))), ((a 8), .inl (cI, 288, .inl (ia M_delayLate))), ((a 9), .inl (cI, 96, .inl (ia M_firstOf))), ((a 10), .inl (cI, 96, .inl (ia M_secondOf)))] H → va_D A [(o_M a M_thrown M_period M_width M_nodes M_analysed M_gates M_startNode M_startChange M_startWay M_startBase M_startEarly M_startLate M_worstWith M_worstWithout M_all M_rowSize), ((a 1), .inl (cI, 48, .inl (ia M_kinds))), ((a 2), .inl (cI, 48, .inl (ia M_pins))), ((a 3), .inl (cI, 144, .inl (ia M_froms))), ((a 4), .inl (cI, 144, .inl (ia M_wireEarly))), ((a 5), .inl (cI, 144, .inl (ia M_wireLate))), ((a 6), .inl (cI, 144, .inl (ia M_senses))), ((a 7), .inl (cI, 288, .inl (ia M_delayEarly))), ((a 8), .inl (cI, 288, .inl (ia M_delayLate))), ((a 9), .inl (cI, 96, .inl (ia M_firstOf))), ((a 10), .inl (cI, 96, .inl (ia M_secondOf)))] → va_S A s.heap H locs → lv_has ls 2 [(0, .ref (a 0)), (1, .int (iI x1))] → f_M_gate_j16 F M_nodes M_analysed M_kinds M_pins M_froms M_wireEarly M_wireLate M_senses M_delayEarly M_delayLate M_firstOf M_secondOf x1 q1 = some (r, z_M_thrown, z_M_nodes, z_M_kinds, z_M_pins, z_M_froms, z_M_wireEarly, z_M_wireLate, z_M_senses, z_M_delayEarly, z_M_delayLate, z_M_firstOf, z_M_secondOf, z_M_analysed) → W p l e (headSpec w_M_gate rm_M_gate).room s m args below meth c H locs 0 0 Q (F0 m 16 ls [.int (iI q1), .ref (a 0)]) := by
    intro q1 H locs ls hP hD hS hl h
    rw [f_M_gate_j16] at h
    refine va_put (D := D) (ci := 10) (v := .int (iI q1)) (ty := .int) (C := R_M) (T := F_M) (N := 53) hx hb hT in_M ty_M ty_M_ok n_M hown hK hP hD hS 0 rfl rfl 0 (by decide) (hT _ m1021) (fun _ h9 => h9) rfl (by decide +kernel) rfl rfl (Nat.le_of_ble_eq_true rfl) d_M_gate_16 (fun H locs hP hD hS => ?_)
    have hP : va_P D vwCl [(o_M a q1 M_period M_width M_nodes M_analysed M_gates M_startNode M_startChange M_startWay M_startBase M_startEarly M_startLate M_worstWith M_worstWithout M_all M_rowSize), ((a 1), .inl (cI, 48, .inl (ia M_kinds))), ((a 2), .inl (cI, 48, .inl (ia M_pins))), ((a 3), .inl (cI, 144, .inl (ia M_froms))), ((a 4), .inl (cI, 144, .inl (ia M_wireEarly))), ((a 5), .inl (cI, 144, .inl (ia M_wireLate))), ((a 6), .inl (cI, 144, .inl (ia M_senses))), ((a 7), .inl (cI, 288, .inl (ia M_delayEarly))), ((a 8), .inl (cI, 288, .inl (ia M_delayLate))), ((a 9), .inl (cI, 96, .inl (ia M_firstOf))), ((a 10), .inl (cI, 96, .inl (ia M_secondOf)))] H := hP
    have hD : va_D A [(o_M a q1 M_period M_width M_nodes M_analysed M_gates M_startNode M_startChange M_startWay M_startBase M_startEarly M_startLate M_worstWith M_worstWithout M_all M_rowSize), ((a 1), .inl (cI, 48, .inl (ia M_kinds))), ((a 2), .inl (cI, 48, .inl (ia M_pins))), ((a 3), .inl (cI, 144, .inl (ia M_froms))), ((a 4), .inl (cI, 144, .inl (ia M_wireEarly))), ((a 5), .inl (cI, 144, .inl (ia M_wireLate))), ((a 6), .inl (cI, 144, .inl (ia M_senses))), ((a 7), .inl (cI, 288, .inl (ia M_delayEarly))), ((a 8), .inl (cI, 288, .inl (ia M_delayLate))), ((a 9), .inl (cI, 96, .inl (ia M_firstOf))), ((a 10), .inl (cI, 96, .inl (ia M_secondOf)))] := hD
    refine lv_aload_n hx hb d_M_gate_19 rfl (lv_at hl 0 rfl) ?_
    refine va_get (D := D) (ci := 10) (v := .int (iI q1)) (C := R_M) (T := F_M) (N := 53) hx hb hT in_M hown hK hP 0 rfl rfl 0 (by decide) (hT _ m1021) (fun _ h9 => h9) rfl d_M_gate_20 ?_
    obtain ⟨hg0, h⟩ := gr_e h
    refine zi_le hx hb d_M_gate_23 rfl hg0 (fun hc => ?_) (fun hc => ?_)
    · replace h := if_t hc h
      refine lv_aload_n hx hb d_M_gate_30 rfl (lv_at hl 0 rfl) ?_
      refine zv_iconst hx hb d_M_gate_31 ?_
      refine lv_iload_n hx hb d_M_gate_32 rfl (lv_at hl 1 rfl) ?_
      obtain ⟨r33, M_nodes_1, M_kinds_2, M_pins_3, M_froms_4, M_wireEarly_5, M_wireLate_6, M_senses_7, M_delayEarly_8, M_delayLate_9, M_firstOf_10, M_secondOf_11, M_analysed_12, hcall, h⟩ := ob13_e h
      refine ca_i (w2 := [(o_M a q1 M_period M_width M_nodes_1 M_analysed_12 M_gates M_startNode M_startChange M_startWay M_startBase M_startEarly M_startLate M_worstWith M_worstWithout M_all M_rowSize), ((a 1), .inl (cI, 48, .inl (ia M_kinds_2))), ((a 2), .inl (cI, 48, .inl (ia M_pins_3))), ((a 3), .inl (cI, 144, .inl (ia M_froms_4))), ((a 4), .inl (cI, 144, .inl (ia M_wireEarly_5))), ((a 5), .inl (cI, 144, .inl (ia M_wireLate_6))), ((a 6), .inl (cI, 144, .inl (ia M_senses_7))), ((a 7), .inl (cI, 288, .inl (ia M_delayEarly_8))), ((a 8), .inl (cI, 288, .inl (ia M_delayLate_9))), ((a 9), .inl (cI, 96, .inl (ia M_firstOf_10))), ((a 10), .inl (cI, 96, .inl (ia M_secondOf_11)))]) (va_runV (As := [.int (iI 2), .int (iI x1)]) (rest := []) ⟨hx, hb, hml, hown, hts⟩ (c_M_add l D cI cJ cZ F a q1 M_period M_width M_nodes M_analysed M_gates M_startNode M_startChange M_startWay M_startBase M_startEarly M_startLate M_worstWith M_worstWithout M_all M_rowSize M_kinds M_pins M_froms M_wireEarly M_wireLate M_senses M_delayEarly M_delayLate M_firstOf M_secondOf 2 x1 r33 M_nodes_1 M_kinds_2 M_pins_3 M_froms_4 M_wireEarly_5 M_wireLate_6 M_senses_7 M_delayEarly_8 M_delayLate_9 M_firstOf_10 M_secondOf_11 M_analysed_12 H.size hcall) (cwV 2 hts (gd_V m1201 m1198 m1200 sl_M_add m12) rfl rfl rfl ⟨rfl, hc_M_add⟩ ⟨Nat.le_of_ble_eq_true rfl, Nat.le_of_ble_eq_true rfl⟩) (pc_V 0 10 [.int (iI 2), .int (iI x1)] hP hK hD hN [0, 1, 2, 3, 4, 5, 6, 7, 8, 9, 10] rfl rfl rfl rfl rfl) rfl rfl hl.1 rfl (lv_room (Nat.le_of_ble_eq_true rfl)) d_M_gate_33 ⟨Nat.le_refl 0, Nat.le_refl 0⟩) hP hD hS hA [0, 1, 2, 3, 4, 5, 6, 7, 8, 9, 10] [] [0, 1, 2, 3, 4, 5, 6, 7, 8, 9, 10] rfl rfl rfl (by decide) rfl rfl rfl (fun H locs hP hD hS => ?_)
      obtain ⟨e1, e2, e3, e4, e5, e6, e7, e8, e9, e10, e11, e12, e13, e14⟩ := so14 h
      rw [hQ, e1, e2, e3, e4, e5, e6, e7, e8, e9, e10, e11, e12, e13, e14]; rw [hAe] at hD hS; exact W.iret hx hb hr (fun t ht hW => ⟨⟨_, (), rfl, rfl, by rw [ht]; exact hP, va_K.moved hW.alike hK, hD⟩, hS.F ht⟩) hS.2.2 d_M_gate_36
    · replace h := if_f hc h
      refine zv_iconst hx hb d_M_gate_26 ?_
      refine lv_goto hx hb d_M_gate_27 rfl ?_
      obtain ⟨e1, e2, e3, e4, e5, e6, e7, e8, e9, e10, e11, e12, e13, e14⟩ := so14 h
      rw [hQ, e1, e2, e3, e4, e5, e6, e7, e8, e9, e10, e11, e12, e13, e14]; rw [hAe] at hD hS; exact W.iret hx hb hr (fun t ht hW => ⟨⟨_, (), rfl, rfl, by rw [ht]; exact hP, va_K.moved hW.alike hK, hD⟩, hS.F ht⟩) hS.2.2 d_M_gate_36
  have hj11 : ∀  (H : Heap) (locs : List Loc) (ls : Array Slot), va_P D vwCl [(o_M a M_thrown M_period M_width M_nodes M_analysed M_gates M_startNode M_startChange M_startWay M_startBase M_startEarly M_startLate M_worstWith M_worstWithout M_all M_rowSize), ((a 1), .inl (cI, 48, .inl (ia M_kinds))), ((a 2), .inl (cI, 48, .inl (ia M_pins))), ((a 3), .inl (cI, 144, .inl (ia M_froms))), ((a 4), .inl (cI, 144, .inl (ia M_wireEarly))), ((a 5), .inl (cI, 144, .inl (ia M_wireLate))), ((a 6), .inl (cI, 144, .inl (ia M_senses))), ((a 7), .inl (cI, 288, .inl (ia M_delayEarly))), ((a 8), .inl (cI, 288, .inl (ia M_delayLate))), ((a 9), .inl (cI, 96, .inl (ia M_firstOf))), ((a 10), .inl (cI, 96, .inl (ia M_secondOf)))] H → va_D A [(o_M a M_thrown M_period M_width M_nodes M_analysed M_gates M_startNode M_startChange M_startWay M_startBase M_startEarly M_startLate M_worstWith M_worstWithout M_all M_rowSize), ((a 1), .inl (cI, 48, .inl (ia M_kinds))), ((a 2), .inl (cI, 48, .inl (ia M_pins))), ((a 3), .inl (cI, 144, .inl (ia M_froms))), ((a 4), .inl (cI, 144, .inl (ia M_wireEarly))), ((a 5), .inl (cI, 144, .inl (ia M_wireLate))), ((a 6), .inl (cI, 144, .inl (ia M_senses))), ((a 7), .inl (cI, 288, .inl (ia M_delayEarly))), ((a 8), .inl (cI, 288, .inl (ia M_delayLate))), ((a 9), .inl (cI, 96, .inl (ia M_firstOf))), ((a 10), .inl (cI, 96, .inl (ia M_secondOf)))] → va_S A s.heap H locs → lv_has ls 2 [(0, .ref (a 0)), (1, .int (iI x1))] → f_M_gate_j11 F M_nodes M_analysed M_kinds M_pins M_froms M_wireEarly M_wireLate M_senses M_delayEarly M_delayLate M_firstOf M_secondOf x1 = some (r, z_M_thrown, z_M_nodes, z_M_kinds, z_M_pins, z_M_froms, z_M_wireEarly, z_M_wireLate, z_M_senses, z_M_delayEarly, z_M_delayLate, z_M_firstOf, z_M_secondOf, z_M_analysed) → W p l e (headSpec w_M_gate rm_M_gate).room s m args below meth c H locs 0 0 Q (F0 m 11 ls [.ref (a 0)]) := by
    intro  H locs ls hP hD hS hl h
    rw [f_M_gate_j11] at h
    refine zv_iconst hx hb d_M_gate_11 ?_
    refine lv_goto hx hb d_M_gate_12 rfl ?_
    exact hj16 1 H locs ls hP hD hS (lv_sub hl [0, 1] rfl) h
  obtain ⟨hg0, h⟩ := gr_e h
  refine zc_lt hx hb d_M_gate_3 rfl hg0 (by decide) (fun hc => ?_) (fun hc => ?_)
  · replace h := if_t hc h
    exact hj11  H locs ls hP hD hS (lv_sub hl [0, 1] rfl) h
  · replace h := if_f hc h
    refine lv_iload_n hx hb d_M_gate_6 rfl (lv_at hl 1 rfl) ?_
    refine zv_iconst hx hb d_M_gate_7 ?_
    obtain ⟨hg0, h⟩ := gr_e h
    refine zc_le hx hb d_M_gate_8 rfl hg0 (by decide) (fun hc => ?_) (fun hc => ?_)
    · replace h := if_t hc h
      refine zv_iconst hx hb d_M_gate_15 ?_
      exact hj16 0 H locs ls hP hD hS (lv_sub hl [0, 1] rfl) h
    · replace h := if_f hc h
      exact hj11  H locs ls hP hD hS (lv_sub hl [0, 1] rfl) h
