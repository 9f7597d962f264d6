abbrev rm_ClockWays_growTree : Room := { frames := 2, cells := 0, slots := 0, locals := 54 }
set_option maxHeartbeats 4000000 in
set_option maxRecDepth 100000 in
theorem c_ClockWays_growTree (l : Launch) (D : va_G) (cI cJ cZ : ClassId) (F : Nat) (a : Nat → Nat) (C_size : Int) (C_needed : Int → Int) (C_elements : Int → Int) (C_parent : Int → Int) (C_length : Int → Int) (C_early : Int → Int) (C_late : Int → Int) (C_firstOf : Int → Int) (C_nextOf : Int → Int) (O_count : Int) (O_gates : Int → Int) (N_period : Int) (N_width : Int) (N_size : Int) (N_pins : Int → Int) (N_source : Int → Int) (N_wireEarly : Int → Int) (N_wireLate : Int → Int) (N_senses : Int → Int) (N_gateEarly : Int → Int) (N_gateLate : Int → Int) (z_C_size : Int) (z_C_elements : Int → Int) (z_C_parent : Int → Int) (z_C_length : Int → Int) (z_C_early : Int → Int) (z_C_late : Int → Int) (z_C_firstOf : Int → Int) (z_C_nextOf : Int → Int) (sz : Nat) (h : f_ClockWays_growTree F C_needed C_elements C_parent C_length C_early C_late C_firstOf C_nextOf O_count O_gates N_pins N_source N_wireEarly N_wireLate N_senses N_gateEarly N_gateLate = some (z_C_size, z_C_elements, z_C_parent, z_C_length, z_C_early, z_C_late, z_C_firstOf, z_C_nextOf)) : Met l y_ClockWays_growTree w_ClockWays_growTree rm_ClockWays_growTree (PC D [(cI, .int), (cJ, .long), (cZ, .boolean)] [.ref (a 10)] ([(o_C a C_size), ((a 11), .inl (cZ, 96, .inl (ia C_needed))), ((a 12), .inl (cI, 770, .inl (ia C_elements))), ((a 13), .inl (cI, 770, .inl (ia C_parent))), ((a 14), .inl (cI, 770, .inl (ia C_length))), ((a 15), .inl (cI, 770, .inl (ia C_early))), ((a 16), .inl (cI, 770, .inl (ia C_late))), ((a 17), .inl (cI, 96, .inl (ia C_firstOf))), ((a 18), .inl (cI, 770, .inl (ia C_nextOf))), (o_O a O_count), ((a 42), .inl (cI, 48, .inl (ia O_gates))), (o_N a N_period N_width N_size), ((a 45), .inl (cI, 48, .inl (ia N_pins))), ((a 46), .inl (cI, 144, .inl (ia N_source))), ((a 47), .inl (cI, 144, .inl (ia N_wireEarly))), ((a 48), .inl (cI, 144, .inl (ia N_wireLate))), ((a 49), .inl (cI, 144, .inl (ia N_senses))), ((a 50), .inl (cI, 288, .inl (ia N_gateEarly))), ((a 51), .inl (cI, 288, .inl (ia N_gateLate)))]) sz) (QV D [(cI, .int), (cJ, .long), (cZ, .boolean)] ([(o_C a C_size), ((a 11), .inl (cZ, 96, .inl (ia C_needed))), ((a 12), .inl (cI, 770, .inl (ia C_elements))), ((a 13), .inl (cI, 770, .inl (ia C_parent))), ((a 14), .inl (cI, 770, .inl (ia C_length))), ((a 15), .inl (cI, 770, .inl (ia C_early))), ((a 16), .inl (cI, 770, .inl (ia C_late))), ((a 17), .inl (cI, 96, .inl (ia C_firstOf))), ((a 18), .inl (cI, 770, .inl (ia C_nextOf))), (o_O a O_count), ((a 42), .inl (cI, 48, .inl (ia O_gates))), (o_N a N_period N_width N_size), ((a 45), .inl (cI, 48, .inl (ia N_pins))), ((a 46), .inl (cI, 144, .inl (ia N_source))), ((a 47), .inl (cI, 144, .inl (ia N_wireEarly))), ((a 48), .inl (cI, 144, .inl (ia N_wireLate))), ((a 49), .inl (cI, 144, .inl (ia N_senses))), ((a 50), .inl (cI, 288, .inl (ia N_gateEarly))), ((a 51), .inl (cI, 288, .inl (ia N_gateLate)))]) sz ([(o_C a z_C_size), ((a 11), .inl (cZ, 96, .inl (ia C_needed))), ((a 12), .inl (cI, 770, .inl (ia z_C_elements))), ((a 13), .inl (cI, 770, .inl (ia z_C_parent))), ((a 14), .inl (cI, 770, .inl (ia z_C_length))), ((a 15), .inl (cI, 770, .inl (ia z_C_early))), ((a 16), .inl (cI, 770, .inl (ia z_C_late))), ((a 17), .inl (cI, 96, .inl (ia z_C_firstOf))), ((a 18), .inl (cI, 770, .inl (ia z_C_nextOf))), (o_O a O_count), ((a 42), .inl (cI, 48, .inl (ia O_gates))), (o_N a N_period N_width N_size), ((a 45), .inl (cI, 48, .inl (ia N_pins))), ((a 46), .inl (cI, 144, .inl (ia N_source))), ((a 47), .inl (cI, 144, .inl (ia N_wireEarly))), ((a 48), .inl (cI, 144, .inl (ia N_wireLate))), ((a 49), .inl (cI, 144, .inl (ia N_senses))), ((a 50), .inl (cI, 288, .inl (ia N_gateEarly))), ((a 51), .inl (cI, 288, .inl (ia N_gateLate)))])) 0 0 (va_A ([(o_C a C_size), ((a 11), .inl (cZ, 96, .inl (ia C_needed))), ((a 12), .inl (cI, 770, .inl (ia C_elements))), ((a 13), .inl (cI, 770, .inl (ia C_parent))), ((a 14), .inl (cI, 770, .inl (ia C_length))), ((a 15), .inl (cI, 770, .inl (ia C_early))), ((a 16), .inl (cI, 770, .inl (ia C_late))), ((a 17), .inl (cI, 96, .inl (ia C_firstOf))), ((a 18), .inl (cI, 770, .inl (ia C_nextOf))), (o_O a O_count), ((a 42), .inl (cI, 48, .inl (ia O_gates))), (o_N a N_period N_width N_size), ((a 45), .inl (cI, 48, .inl (ia N_pins))), ((a 46), .inl (cI, 144, .inl (ia N_source))), ((a 47), .inl (cI, 144, .inl (ia N_wireEarly))), ((a 48), .inl (cI, 144, .inl (ia N_wireLate))), ((a 49), .inl (cI, 144, .inl (ia N_senses))), ((a 50), .inl (cI, 288, .inl (ia N_gateEarly))), ((a 51), .inl (cI, 288, .inl (ia N_gateLate)))]) sz) := by
  refine Met.ofW (cc := prog_3_method_10_code) (maxL := 4) (ret := (Option.none : Option Jvm.ClassFile.FieldType)) (by decide) rfl ?_
  intro p e s m args below meth c s₁ B hml hv
  obtain ⟨rfl, hsz, hP, hK, hD0, hN⟩ := hv
  have hx := B.exec
  have hb := B.bytes
  have hr := B.returns
  have hts := atoms_spec (ws := w_ClockWays_growTree) B.pre
  have hown : s.vm.findClass R_ClockWays = some m.cls := findClass_of_methodNamed B.named
  have hlocks := B.notSynchronized
  subst hsz
  have hD := hD0.self (sz := s.heap.size)
  obtain ⟨A, hAe⟩ : ∃ A, A = va_A ([(o_C a C_size), ((a 11), .inl (cZ, 96, .inl (ia C_needed))), ((a 12), .inl (cI, 770, .inl (ia C_elements))), ((a 13), .inl (cI, 770, .inl (ia C_parent))), ((a 14), .inl (cI, 770, .inl (ia C_length))), ((a 15), .inl (cI, 770, .inl (ia C_early))), ((a 16), .inl (cI, 770, .inl (ia C_late))), ((a 17), .inl (cI, 96, .inl (ia C_firstOf))), ((a 18), .inl (cI, 770, .inl (ia C_nextOf))), (o_O a O_count), ((a 42), .inl (cI, 48, .inl (ia O_gates))), (o_N a N_period N_width N_size), ((a 45), .inl (cI, 48, .inl (ia N_pins))), ((a 46), .inl (cI, 144, .inl (ia N_source))), ((a 47), .inl (cI, 144, .inl (ia N_wireEarly))), ((a 48), .inl (cI, 144, .inl (ia N_wireLate))), ((a 49), .inl (cI, 144, .inl (ia N_senses))), ((a 50), .inl (cI, 288, .inl (ia N_gateEarly))), ((a 51), .inl (cI, 288, .inl (ia N_gateLate)))]) s.heap.size := ⟨_, rfl⟩
  rw [← hAe] at hD
  have hA : ∀ q : Nat, s.heap.size ≤ q → A q := fun q h => by rw [hAe]; exact Or.inr h
  have hS : va_S A s.heap s.heap [] := va_S.rf
  have hl := lv_entry ([.ref (a 10)]) (n := 4) (Nat.le_of_ble_eq_true rfl)
  rw [lg_entry_eq]
  generalize (lg_sl ([.ref (a 10)]) ++ List.replicate (4 - (lg_sl ([.ref (a 10)])).length) Slot.unset).toArray = ls at hl ⊢
  have hl : lv_has ls 4 [(0, .ref (a 10))] := hl
  generalize (List.toArray ([.ref (a 10)] : List Value)) = args at hts ⊢
  have hT : ∀ w ∈ Tg, w.before args s = true := fun w h => hts w (List.mem_cons_of_mem _ h)
  obtain ⟨Q, hQ⟩ : ∃ Q, Q = MQ below (QV D [(cI, .int), (cJ, .long), (cZ, .boolean)] ([(o_C a C_size), ((a 11), .inl (cZ, 96, .inl (ia C_needed))), ((a 12), .inl (cI, 770, .inl (ia C_elements))), ((a 13), .inl (cI, 770, .inl (ia C_parent))), ((a 14), .inl (cI, 770, .inl (ia C_length))), ((a 15), .inl (cI, 770, .inl (ia C_early))), ((a 16), .inl (cI, 770, .inl (ia C_late))), ((a 17), .inl (cI, 96, .inl (ia C_firstOf))), ((a 18), .inl (cI, 770, .inl (ia C_nextOf))), (o_O a O_count), ((a 42), .inl (cI, 48, .inl (ia O_gates))), (o_N a N_period N_width N_size), ((a 45), .inl (cI, 48, .inl (ia N_pins))), ((a 46), .inl (cI, 144, .inl (ia N_source))), ((a 47), .inl (cI, 144, .inl (ia N_wireEarly))), ((a 48), .inl (cI, 144, .inl (ia N_wireLate))), ((a 49), .inl (cI, 144, .inl (ia N_senses))), ((a 50), .inl (cI, 288, .inl (ia N_gateEarly))), ((a 51), .inl (cI, 288, .inl (ia N_gateLate)))]) s.heap.size ([(o_C a z_C_size), ((a 11), .inl (cZ, 96, .inl (ia C_needed))), ((a 12), .inl (cI, 770, .inl (ia z_C_elements))), ((a 13), .inl (cI, 770, .inl (ia z_C_parent))), ((a 14), .inl (cI, 770, .inl (ia z_C_length))), ((a 15), .inl (cI, 770, .inl (ia z_C_early))), ((a 16), .inl (cI, 770, .inl (ia z_C_late))), ((a 17), .inl (cI, 96, .inl (ia z_C_firstOf))), ((a 18), .inl (cI, 770, .inl (ia z_C_nextOf))), (o_O a O_count), ((a 42), .inl (cI, 48, .inl (ia O_gates))), (o_N a N_period N_width N_size), ((a 45), .inl (cI, 48, .inl (ia N_pins))), ((a 46), .inl (cI, 144, .inl (ia N_source))), ((a 47), .inl (cI, 144, .inl (ia N_wireEarly))), ((a 48), .inl (cI, 144, .inl (ia N_wireLate))), ((a 49), .inl (cI, 144, .inl (ia N_senses))), ((a 50), .inl (cI, 288, .inl (ia N_gateEarly))), ((a 51), .inl (cI, 288, .inl (ia N_gateLate)))])) args s 0 0 (va_A ([(o_C a C_size), ((a 11), .inl (cZ, 96, .inl (ia C_needed))), ((a 12), .inl (cI, 770, .inl (ia C_elements))), ((a 13), .inl (cI, 770, .inl (ia C_parent))), ((a 14), .inl (cI, 770, .inl (ia C_length))), ((a 15), .inl (cI, 770, .inl (ia C_early))), ((a 16), .inl (cI, 770, .inl (ia C_late))), ((a 17), .inl (cI, 96, .inl (ia C_firstOf))), ((a 18), .inl (cI, 770, .inl (ia C_nextOf))), (o_O a O_count), ((a 42), .inl (cI, 48, .inl (ia O_gates))), (o_N a N_period N_width N_size), ((a 45), .inl (cI, 48, .inl (ia N_pins))), ((a 46), .inl (cI, 144, .inl (ia N_source))), ((a 47), .inl (cI, 144, .inl (ia N_wireEarly))), ((a 48), .inl (cI, 144, .inl (ia N_wireLate))), ((a 49), .inl (cI, 144, .inl (ia N_senses))), ((a 50), .inl (cI, 288, .inl (ia N_gateEarly))), ((a 51), .inl (cI, 288, .inl (ia N_gateLate)))]) s.heap.size) := ⟨_, rfl⟩
  rw [← hQ]
  suffices hW : ∀ (H : Heap) (locs : List Loc), va_P D vwCl ([(o_C a C_size), ((a 11), .inl (cZ, 96, .inl (ia C_needed))), ((a 12), .inl (cI, 770, .inl (ia C_elements))), ((a 13), .inl (cI, 770, .inl (ia C_parent))), ((a 14), .inl (cI, 770, .inl (ia C_length))), ((a 15), .inl (cI, 770, .inl (ia C_early))), ((a 16), .inl (cI, 770, .inl (ia C_late))), ((a 17), .inl (cI, 96, .inl (ia C_firstOf))), ((a 18), .inl (cI, 770, .inl (ia C_nextOf))), (o_O a O_count), ((a 42), .inl (cI, 48, .inl (ia O_gates))), (o_N a N_period N_width N_size), ((a 45), .inl (cI, 48, .inl (ia N_pins))), ((a 46), .inl (cI, 144, .inl (ia N_source))), ((a 47), .inl (cI, 144, .inl (ia N_wireEarly))), ((a 48), .inl (cI, 144, .inl (ia N_wireLate))), ((a 49), .inl (cI, 144, .inl (ia N_senses))), ((a 50), .inl (cI, 288, .inl (ia N_gateEarly))), ((a 51), .inl (cI, 288, .inl (ia N_gateLate)))]) H → va_D A ([(o_C a C_size), ((a 11), .inl (cZ, 96, .inl (ia C_needed))), ((a 12), .inl (cI, 770, .inl (ia C_elements))), ((a 13), .inl (cI, 770, .inl (ia C_parent))), ((a 14), .inl (cI, 770, .inl (ia C_length))), ((a 15), .inl (cI, 770, .inl (ia C_early))), ((a 16), .inl (cI, 770, .inl (ia C_late))), ((a 17), .inl (cI, 96, .inl (ia C_firstOf))), ((a 18), .inl (cI, 770, .inl (ia C_nextOf))), (o_O a O_count), ((a 42), .inl (cI, 48, .inl (ia O_gates))), (o_N a N_period N_width N_size), ((a 45), .inl (cI, 48, .inl (ia N_pins))), ((a 46), .inl (cI, 144, .inl (ia N_source))), ((a 47), .inl (cI, 144, .inl (ia N_wireEarly))), ((a 48), .inl (cI, 144, .inl (ia N_wireLate))), ((a 49), .inl (cI, 144, .inl (ia N_senses))), ((a 50), .inl (cI, 288, .inl (ia N_gateEarly))), ((a 51), .inl (cI, 288, .inl (ia N_gateLate)))]) → va_S A s.heap H locs → W p l e (headSpec w_ClockWays_growTree rm_ClockWays_growTree).room s m args below meth c H locs 0 0 Q (F0 m 0 ls []) from hW s.heap [] hP hD hS
  clear hP hD hS
  intro H locs hP hD hS
  rw [f_ClockWays_growTree] at h
  refine lv_aload_n hx hb d_ClockWays_growTree_0 rfl (lv_at hl 0 rfl) ?_
  refine zv_iconst hx hb d_ClockWays_growTree_1 ?_
  refine va_put (D := D) (ci := 4) (v := .int (iI 0)) (ty := .int) (C := R_ClockWays) (T := F_ClockWays) (N := 17) hx hb hT in_ClockWays ty_ClockWays ty_ClockWays_ok n_ClockWays hown hK hP hD hS 0 rfl rfl 4 (by decide) (hT _ m198) (fun _ h9 => h9) rfl (by decide +kernel) rfl rfl (Nat.le_of_ble_eq_true rfl) d_ClockWays_growTree_2 (fun H locs hP hD hS => ?_)
  have hP : va_P D vwCl [(o_C a 0), ((a 11), .inl (cZ, 96, .inl (ia C_needed))), ((a 12), .inl (cI, 770, .inl (ia C_elements))), ((a 13), .inl (cI, 770, .inl (ia C_parent))), ((a 14), .inl (cI, 770, .inl (ia C_length))), ((a 15), .inl (cI, 770, .inl (ia C_early))), ((a 16), .inl (cI, 770, .inl (ia C_late))), ((a 17), .inl (cI, 96, .inl (ia C_firstOf))), ((a 18), .inl (cI, 770, .inl (ia C_nextOf))), (o_O a O_count), ((a 42), .inl (cI, 48, .inl (ia O_gates))), (o_N a N_period N_width N_size), ((a 45), .inl (cI, 48, .inl (ia N_pins))), ((a 46), .inl (cI, 144, .inl (ia N_source))), ((a 47), .inl (cI, 144, .inl (ia N_wireEarly))), ((a 48), .inl (cI, 144, .inl (ia N_wireLate))), ((a 49), .inl (cI, 144, .inl (ia N_senses))), ((a 50), .inl (cI, 288, .inl (ia N_gateEarly))), ((a 51), .inl (cI, 288, .inl (ia N_gateLate)))] H := hP
  have hD : va_D A [(o_C a 0), ((a 11), .inl (cZ, 96, .inl (ia C_needed))), ((a 12), .inl (cI, 770, .inl (ia C_elements))), ((a 13), .inl (cI, 770, .inl (ia C_parent))), ((a 14), .inl (cI, 770, .inl (ia C_length))), ((a 15), .inl (cI, 770, .inl (ia C_early))), ((a 16), .inl (cI, 770, .inl (ia C_late))), ((a 17), .inl (cI, 96, .inl (ia C_firstOf))), ((a 18), .inl (cI, 770, .inl (ia C_nextOf))), (o_O a O_count), ((a 42), .inl (cI, 48, .inl (ia O_gates))), (o_N a N_period N_width N_size), ((a 45), .inl (cI, 48, .inl (ia N_pins))), ((a 46), .inl (cI, 144, .inl (ia N_source))), ((a 47), .inl (cI, 144, .inl (ia N_wireEarly))), ((a 48), .inl (cI, 144, .inl (ia N_wireLate))), ((a 49), .inl (cI, 144, .inl (ia N_senses))), ((a 50), .inl (cI, 288, .inl (ia N_gateEarly))), ((a 51), .inl (cI, 288, .inl (ia N_gateLate)))] := hD
  refine lv_aload_n hx hb d_ClockWays_growTree_5 rfl (lv_at hl 0 rfl) ?_
  refine va_get (D := D) (ci := 4) (v := .ref (a 17)) (C := R_ClockWays) (T := F_ClockWays) (N := 17) hx hb hT in_ClockWays hown hK hP 0 rfl rfl 10 (by decide) (hT _ m204) (fun _ h9 => h9) rfl d_ClockWays_growTree_6 ?_
  refine zv_iconst hx hb d_ClockWays_growTree_9 ?_
  obtain ⟨C_firstOf_1, hcall, h⟩ := ob1_e h
  refine ca_v (w2 := [(o_C a 0), ((a 11), .inl (cZ, 96, .inl (ia C_needed))), ((a 12), .inl (cI, 770, .inl (ia C_elements))), ((a 13), .inl (cI, 770, .inl (ia C_parent))), ((a 14), .inl (cI, 770, .inl (ia C_length))), ((a 15), .inl (cI, 770, .inl (ia C_early))), ((a 16), .inl (cI, 770, .inl (ia C_late))), ((a 17), .inl (cI, 96, .inl (ia C_firstOf_1))), ((a 18), .inl (cI, 770, .inl (ia C_nextOf))), (o_O a O_count), ((a 42), .inl (cI, 48, .inl (ia O_gates))), (o_N a N_period N_width N_size), ((a 45), .inl (cI, 48, .inl (ia N_pins))), ((a 46), .inl (cI, 144, .inl (ia N_source))), ((a 47), .inl (cI, 144, .inl (ia N_wireEarly))), ((a 48), .inl (cI, 144, .inl (ia N_wireLate))), ((a 49), .inl (cI, 144, .inl (ia N_senses))), ((a 50), .inl (cI, 288, .inl (ia N_gateEarly))), ((a 51), .inl (cI, 288, .inl (ia N_gateLate)))]) (va_runS (As := [.ref (a 17), .int (iI (-1))]) (rest := []) ⟨hx, hb, hml, hown, hts⟩ (c_Arrays_fill l D cI cJ cZ F a (a 17) C_firstOf 96 (-1) C_firstOf_1 H.size hcall) (va_cwS 2 hts (gd_O m38 m532 m37 m3) rfl rfl rfl hc_Arrays_fill ⟨Nat.le_of_ble_eq_true rfl, Nat.le_of_ble_eq_true rfl⟩) (pc_S [.ref (a 17), .int (iI (-1))] hP hK hD hN [7] rfl rfl rfl) rfl rfl hl.1 rfl (lv_room (Nat.le_of_ble_eq_true rfl)) d_ClockWays_growTree_10 ⟨Nat.le_refl 0, Nat.le_refl 0⟩) hP hD hS hA [7] [0, 1, 2, 3, 4, 5, 6, 8, 9, 10, 11, 12, 13, 14, 15, 16, 17, 18] [0, 1, 2, 3, 4, 5, 6, 18, 7, 8, 9, 10, 11, 12, 13, 14, 15, 16, 17] rfl rfl rfl (by decide) rfl rfl rfl (fun H locs hP hD hS => ?_)
  refine lv_aload_n hx hb d_ClockWays_growTree_13 rfl (lv_at hl 0 rfl) ?_
  refine zv_iconst hx hb d_ClockWays_growTree_14 ?_
  refine zv_iconst hx hb d_ClockWays_growTree_15 ?_
  refine zv_iconst hx hb d_ClockWays_growTree_16 ?_
  refine zv_iconst hx hb d_ClockWays_growTree_17 ?_
  obtain ⟨r18, hcall, h⟩ := ob1_e h
  refine ro_i (va_Run.run (va_runSN (As := [.int (iI 0), .int (iI 0), .int (iI 0)]) (rest := [.int (iI 0), .ref (a 10)]) ⟨hx, hb, hml, hown, hts⟩ (c_T_elementOf l D cI cJ cZ F a 0 0 0 r18 H.size hcall) ⟨va_cnB 3 hts (gd_in m535) rfl rfl rfl hN.2.1 (hT _ m1) hc_T_elementOf ⟨Nat.le_of_ble_eq_true rfl, Nat.le_of_ble_eq_true rfl⟩, hT _ m534, trivial⟩ (pc_S [.int (iI 0), .int (iI 0), .int (iI 0)] hP hK hD hN [] rfl rfl rfl) rfl rfl hl.1 rfl (lv_room (Nat.le_of_ble_eq_true rfl)) d_ClockWays_growTree_18 ⟨Nat.le_refl 0, Nat.le_refl 0⟩)) (W.eq (g2 := F0 m 21 ls [.int (iI r18), .int (iI 0), .ref (a 10)]) rfl ?_)
  refine zv_iconst hx hb d_ClockWays_growTree_21 ?_
  refine zv_iconst hx hb d_ClockWays_growTree_22 ?_
  refine zv_iconst hx hb d_ClockWays_growTree_23 ?_
  obtain ⟨C_size_2, C_elements_3, C_parent_4, C_length_5, C_early_6, C_late_7, C_firstOf_8, C_nextOf_9, hcall, h⟩ := ob8_e h
  refine ca_v (w2 := [(o_C a C_size_2), ((a 11), .inl (cZ, 96, .inl (ia C_needed))), ((a 12), .inl (cI, 770, .inl (ia C_elements_3))), ((a 13), .inl (cI, 770, .inl (ia C_parent_4))), ((a 14), .inl (cI, 770, .inl (ia C_length_5))), ((a 15), .inl (cI, 770, .inl (ia C_early_6))), ((a 16), .inl (cI, 770, .inl (ia C_late_7))), ((a 17), .inl (cI, 96, .inl (ia C_firstOf_8))), ((a 18), .inl (cI, 770, .inl (ia C_nextOf_9))), (o_O a O_count), ((a 42), .inl (cI, 48, .inl (ia O_gates))), (o_N a N_period N_width N_size), ((a 45), .inl (cI, 48, .inl (ia N_pins))), ((a 46), .inl (cI, 144, .inl (ia N_source))), ((a 47), .inl (cI, 144, .inl (ia N_wireEarly))), ((a 48), .inl (cI, 144, .inl (ia N_wireLate))), ((a 49), .inl (cI, 144, .inl (ia N_senses))), ((a 50), .inl (cI, 288, .inl (ia N_gateEarly))), ((a 51), .inl (cI, 288, .inl (ia N_gateLate)))]) (va_runV (As := [.int (iI 0), .int (iI r18), .int (iI (-1)), .int (iI 0), .int (iI 0)]) (rest := []) ⟨hx, hb, hml, hown, hts⟩ (c_ClockWays_grow l D cI cJ cZ F a 0 C_elements C_parent C_length C_early C_late C_firstOf_1 C_nextOf 0 r18 (-1) 0 0 C_size_2 C_elements_3 C_parent_4 C_length_5 C_early_6 C_late_7 C_firstOf_8 C_nextOf_9 H.size hcall) (cwV 5 hts (gd_V m539 m536 m538 sl_ClockWays_grow m5) rfl rfl rfl ⟨rfl, hc_ClockWays_grow⟩ ⟨Nat.le_of_ble_eq_true rfl, Nat.le_of_ble_eq_true rfl⟩) (pc_V 0 4 [.int (iI 0), .int (iI r18), .int (iI (-1)), .int (iI 0), .int (iI 0)] hP hK hD hN [0, 2, 3, 4, 5, 6, 7, 8] rfl rfl rfl rfl rfl) rfl rfl hl.1 rfl (lv_room (Nat.le_of_ble_eq_true rfl)) d_ClockWays_growTree_24 ⟨Nat.le_refl 0, Nat.le_refl 0⟩) hP hD hS hA [0, 2, 3, 4, 5, 6, 7, 8] [1, 9, 10, 11, 12, 13, 14, 15, 16, 17, 18] [11, 0, 12, 13, 14, 15, 16, 17, 18, 1, 2, 3, 4, 5, 6, 7, 8, 9, 10] rfl rfl rfl (by decide) rfl rfl rfl (fun H locs hP hD hS => ?_)
  refine lv_aload_n hx hb d_ClockWays_growTree_27 rfl (lv_at hl 0 rfl) ?_
  refine zv_iconst hx hb d_ClockWays_growTree_28 ?_
  refine zv_iconst hx hb d_ClockWays_growTree_29 ?_
  refine zv_iconst hx hb d_ClockWays_growTree_30 ?_
  refine zv_iconst hx hb d_ClockWays_growTree_31 ?_
  obtain ⟨r32, hcall, h⟩ := ob1_e h
  refine ro_i (va_Run.run (va_runSN (As := [.int (iI 0), .int (iI 0), .int (iI 1)]) (rest := [.int (iI 1), .ref (a 10)]) ⟨hx, hb, hml, hown, hts⟩ (c_T_elementOf l D cI cJ cZ F a 0 0 1 r32 H.size hcall) ⟨va_cnB 3 hts (gd_in m535) rfl rfl rfl hN.2.1 (hT _ m1) hc_T_elementOf ⟨Nat.le_of_ble_eq_true rfl, Nat.le_of_ble_eq_true rfl⟩, hT _ m534, trivial⟩ (pc_S [.int (iI 0), .int (iI 0), .int (iI 1)] hP hK hD hN [] rfl rfl rfl) rfl rfl hl.1 rfl (lv_room (Nat.le_of_ble_eq_true rfl)) d_ClockWays_growTree_32 ⟨Nat.le_refl 0, Nat.le_refl 0⟩)) (W.eq (g2 := F0 m 35 ls [.int (iI r32), .int (iI 1), .ref (a 10)]) rfl ?_)
  refine zv_iconst hx hb d_ClockWays_growTree_35 ?_
  refine zv_iconst hx hb d_ClockWays_growTree_36 ?_
  refine zv_iconst hx hb d_ClockWays_growTree_37 ?_
  obtain ⟨C_size_10, C_elements_11, C_parent_12, C_length_13, C_early_14, C_late_15, C_firstOf_16, C_nextOf_17, hcall, h⟩ := ob8_e h
  refine ca_v (w2 := [(o_C a C_size_10), ((a 11), .inl (cZ, 96, .inl (ia C_needed))), ((a 12), .inl (cI, 770, .inl (ia C_elements_11))), ((a 13), .inl (cI, 770, .inl (ia C_parent_12))), ((a 14), .inl (cI, 770, .inl (ia C_length_13))), ((a 15), .inl (cI, 770, .inl (ia C_early_14))), ((a 16), .inl (cI, 770, .inl (ia C_late_15))), ((a 17), .inl (cI, 96, .inl (ia C_firstOf_16))), ((a 18), .inl (cI, 770, .inl (ia C_nextOf_17))), (o_O a O_count), ((a 42), .inl (cI, 48, .inl (ia O_gates))), (o_N a N_period N_width N_size), ((a 45), .inl (cI, 48, .inl (ia N_pins))), ((a 46), .inl (cI, 144, .inl (ia N_source))), ((a 47), .inl (cI, 144, .inl (ia N_wireEarly))), ((a 48), .inl (cI, 144, .inl (ia N_wireLate))), ((a 49), .inl (cI, 144, .inl (ia N_senses))), ((a 50), .inl (cI, 288, .inl (ia N_gateEarly))), ((a 51), .inl (cI, 288, .inl (ia N_gateLate)))]) (va_runV (As := [.int (iI 1), .int (iI r32), .int (iI (-1)), .int (iI 0), .int (iI 0)]) (rest := []) ⟨hx, hb, hml, hown, hts⟩ (c_ClockWays_grow l D cI cJ cZ F a C_size_2 C_elements_3 C_parent_4 C_length_5 C_early_6 C_late_7 C_firstOf_8 C_nextOf_9 1 r32 (-1) 0 0 C_size_10 C_elements_11 C_parent_12 C_length_13 C_early_14 C_late_15 C_firstOf_16 C_nextOf_17 H.size hcall) (cwV 5 hts (gd_V m539 m536 m538 sl_ClockWays_grow m5) rfl rfl rfl ⟨rfl, hc_ClockWays_grow⟩ ⟨Nat.le_of_ble_eq_true rfl, Nat.le_of_ble_eq_true rfl⟩) (pc_V 0 4 [.int (iI 1), .int (iI r32), .int (iI (-1)), .int (iI 0), .int (iI 0)] hP hK hD hN [0, 2, 3, 4, 5, 6, 7, 8] rfl rfl rfl rfl rfl) rfl rfl hl.1 rfl (lv_room (Nat.le_of_ble_eq_true rfl)) d_ClockWays_growTree_38 ⟨Nat.le_refl 0, Nat.le_refl 0⟩) hP hD hS hA [0, 2, 3, 4, 5, 6, 7, 8] [1, 9, 10, 11, 12, 13, 14, 15, 16, 17, 18] [11, 0, 12, 13, 14, 15, 16, 17, 18, 1, 2, 3, 4, 5, 6, 7, 8, 9, 10] rfl rfl rfl (by decide) rfl rfl rfl (fun H locs hP hD hS => ?_)
  refine zv_iconst hx hb d_ClockWays_growTree_41 ?_
  refine lv_istore_n (lv' := [(1, .int (iI 0)), (0, .ref (a 10))]) hx hb d_ClockWays_growTree_42 rfl hl (by decide) rfl (fun ls hl => ?_)
  have hl43 : ∀ (nf : Nat) (v1 : Int) (C_size_18 : Int) (C_elements_19 : Int → Int) (C_parent_20 : Int → Int) (C_length_21 : Int → Int) (C_early_22 : Int → Int) (C_late_23 : Int → Int) (C_firstOf_24 : Int → Int) (C_nextOf_25 : Int → Int) (H : Heap) (locs : List Loc) (ls : Array Slot), va_P D vwCl [(o_C a C_size_18), ((a 11), .inl (cZ, 96, .inl (ia C_needed))), ((a 12), .inl (cI, 770, .inl (ia C_elements_19))), ((a 13), .inl (cI, 770, .inl (ia C_parent_20))), ((a 14), .inl (cI, 770, .inl (ia C_length_21))), ((a 15), .inl (cI, 770, .inl (ia C_early_22))), ((a 16), .inl (cI, 770, .inl (ia C_late_23))), ((a 17), .inl (cI, 96, .inl (ia C_firstOf_24))), ((a 18), .inl (cI, 770, .inl (ia C_nextOf_25))), (o_O a O_count), ((a 42), .inl (cI, 48, .inl (ia O_gates))), (o_N a N_period N_width N_size), ((a 45), .inl (cI, 48, .inl (ia N_pins))), ((a 46), .inl (cI, 144, .inl (ia N_source))), ((a 47), .inl (cI, 144, .inl (ia N_wireEarly))), ((a 48), .inl (cI, 144, .inl (ia N_wireLate))), ((a 49), .inl (cI, 144, .inl (ia N_senses))), ((a 50), .inl (cI, 288, .inl (ia N_gateEarly))), ((a 51), .inl (cI, 288, .inl (ia N_gateLate)))] H → va_D A [(o_C a C_size_18), ((a 11), .inl (cZ, 96, .inl (ia C_needed))), ((a 12), .inl (cI, 770, .inl (ia C_elements_19))), ((a 13), .inl (cI, 770, .inl (ia C_parent_20))), ((a 14), .inl (cI, 770, .inl (ia C_length_21))), ((a 15), .inl (cI, 770, .inl (ia C_early_22))), ((a 16), .inl (cI, 770, .inl (ia C_late_23))), ((a 17), .inl (cI, 96, .inl (ia C_firstOf_24))), ((a 18), .inl (cI, 770, .inl (ia C_nextOf_25))), (o_O a O_count), ((a 42), .inl (cI, 48, .inl (ia O_gates))), (o_N a N_period N_width N_size), ((a 45), .inl (cI, 48, .inl (ia N_pins))), ((a 46), .inl (cI, 144, .inl (ia N_source))), ((a 47), .inl (cI, 144, .inl (ia N_wireEarly))), ((a 48), .inl (cI, 144, .inl (ia N_wireLate))), ((a 49), .inl (cI, 144, .inl (ia N_senses))), ((a 50), .inl (cI, 288, .inl (ia N_gateEarly))), ((a 51), .inl (cI, 288, .inl (ia N_gateLate)))] → va_S A s.heap H locs → lv_has ls 4 [(0, .ref (a 10)), (1, .int (iI v1))] → lq9 (f_ClockWays_growTree_b43 F C_needed O_count O_gates N_pins N_source N_wireEarly N_wireLate N_senses N_gateEarly N_gateLate) nf v1 C_size_18 C_elements_19 C_parent_20 C_length_21 C_early_22 C_late_23 C_firstOf_24 C_nextOf_25 = some (z_C_size, z_C_elements, z_C_parent, z_C_length, z_C_early, z_C_late, z_C_firstOf, z_C_nextOf) → W p l e (headSpec w_ClockWays_growTree rm_ClockWays_growTree).room s m args below meth c H locs 0 0 Q (F0 m 43 ls []) := by
    intro n43
    induction n43 with
    | zero => intro v1 C_size_18 C_elements_19 C_parent_20 C_length_21 C_early_22 C_late_23 C_firstOf_24 C_nextOf_25 H locs ls hP hD hS hl h; exact no_some h
    | succ n43 ih43 =>
      intro v1 C_size_18 C_elements_19 C_parent_20 C_length_21 C_early_22 C_late_23 C_firstOf_24 C_nextOf_25 H locs ls hP hD hS hl h
      replace h : f_ClockWays_growTree_b43 F C_needed O_count O_gates N_pins N_source N_wireEarly N_wireLate N_senses N_gateEarly N_gateLate (lq9 (f_ClockWays_growTree_b43 F C_needed O_count O_gates N_pins N_source N_wireEarly N_wireLate N_senses N_gateEarly N_gateLate) n43) v1 C_size_18 C_elements_19 C_parent_20 C_length_21 C_early_22 C_late_23 C_firstOf_24 C_nextOf_25 = some (z_C_size, z_C_elements, z_C_parent, z_C_length, z_C_early, z_C_late, z_C_firstOf, z_C_nextOf) := h
      obtain ⟨self43, hs43⟩ : ∃ z, z = lq9 (f_ClockWays_growTree_b43 F C_needed O_count O_gates N_pins N_source N_wireEarly N_wireLate N_senses N_gateEarly N_gateLate) n43 := ⟨_, rfl⟩
      rw [← hs43] at h ih43
      rw [f_ClockWays_growTree_b43] at h
      refine lv_iload_n hx hb d_ClockWays_growTree_43 rfl (lv_at hl 1 rfl) ?_
      refine lv_aload_n hx hb d_ClockWays_growTree_44 rfl (lv_at hl 0 rfl) ?_
      refine va_get (D := D) (ci := 4) (v := .ref (a 40)) (C := R_ClockWays) (T := F_ClockWays) (N := 17) hx hb hT in_ClockWays hown hK hP 0 rfl rfl 1 (by decide) (hT _ m195) (fun _ h9 => h9) rfl d_ClockWays_growTree_45 ?_
      refine va_get (D := D) (ci := 2) (v := .int (iI O_count)) (C := R_GateOrder) (T := F_GateOrder) (N := 4) hx hb hT in_GateOrder hown hK hP 9 rfl rfl 3 (by decide) (hT _ m146) (fun _ h9 => h9) rfl d_ClockWays_growTree_48 ?_
      obtain ⟨hg0, h⟩ := gr_e h
      obtain ⟨hg1, h⟩ := gr_e h
      refine zc_ge hx hb d_ClockWays_growTree_51 rfl hg0 hg1 (fun hc => ?_) (fun hc => ?_)
      · replace h := if_t hc h
        obtain ⟨e1, e2, e3, e4, e5, e6, e7, e8⟩ := so8 h
        rw [hQ, e1, e2, e3, e4, e5, e6, e7, e8]; rw [hAe] at hD hS; exact W.vret hx hb hr (fun t ht hW => ⟨⟨(), rfl, trivial, by rw [ht]; exact hP, va_K.moved hW.alike hK, hD⟩, hS.F ht⟩) hS.2.2 d_ClockWays_growTree_105
      · replace h := if_f hc h
        refine lv_aload_n hx hb d_ClockWays_growTree_54 rfl (lv_at hl 0 rfl) ?_
        refine va_get (D := D) (ci := 4) (v := .ref (a 40)) (C := R_ClockWays) (T := F_ClockWays) (N := 17) hx hb hT in_ClockWays hown hK hP 0 rfl rfl 1 (by decide) (hT _ m195) (fun _ h9 => h9) rfl d_ClockWays_growTree_55 ?_
        refine va_get (D := D) (ci := 2) (v := .ref (a 42)) (C := R_GateOrder) (T := F_GateOrder) (N := 4) hx hb hT in_GateOrder hown hK hP 9 rfl rfl 2 (by decide) (hT _ m143) (fun _ h9 => h9) rfl d_ClockWays_growTree_58 ?_
        refine lv_iload_n hx hb d_ClockWays_growTree_61 rfl (lv_at hl 1 rfl) ?_
        obtain ⟨hin, h⟩ := gi_e h
        refine zv_iald hx hb hK hP 10 0 rfl rfl (Nat.le_of_ble_eq_true rfl) hin d_ClockWays_growTree_62 ?_
        refine zv_top (fun v2 hv => ?_)
        replace h := bd_e hv h
        refine lv_istore_n (lv' := [(2, .int (iI v2)), (0, .ref (a 10)), (1, .int (iI v1))]) hx hb d_ClockWays_growTree_63 rfl hl (by decide) rfl (fun ls hl => ?_)
        refine zv_iconst hx hb d_ClockWays_growTree_64 ?_
        refine lv_istore_n (lv' := [(3, .int (iI 0)), (2, .int (iI v2)), (0, .ref (a 10)), (1, .int (iI v1))]) hx hb d_ClockWays_growTree_65 rfl hl (by decide) rfl (fun ls hl => ?_)
        have hl66 : ∀ (nf : Nat) (v3 : Int) (C_size_26 : Int) (C_elements_27 : Int → Int) (C_parent_28 : Int → Int) (C_length_29 : Int → Int) (C_early_30 : Int → Int) (C_late_31 : Int → Int) (C_firstOf_32 : Int → Int) (C_nextOf_33 : Int → Int) (H : Heap) (locs : List Loc) (ls : Array Slot), va_P D vwCl [(o_C a C_size_26), ((a 11), .inl (cZ, 96, .inl (ia C_needed))), ((a 12), .inl (cI, 770, .inl (ia C_elements_27))), ((a 13), .inl (cI, 770, .inl (ia C_parent_28))), ((a 14), .inl (cI, 770, .inl (ia C_length_29))), ((a 15), .inl (cI, 770, .inl (ia C_early_30))), ((a 16), .inl (cI, 770, .inl (ia C_late_31))), ((a 17), .inl (cI, 96, .inl (ia C_firstOf_32))), ((a 18), .inl (cI, 770, .inl (ia C_nextOf_33))), (o_O a O_count), ((a 42), .inl (cI, 48, .inl (ia O_gates))), (o_N a N_period N_width N_size), ((a 45), .inl (cI, 48, .inl (ia N_pins))), ((a 46), .inl (cI, 144, .inl (ia N_source))), ((a 47), .inl (cI, 144, .inl (ia N_wireEarly))), ((a 48), .inl (cI, 144, .inl (ia N_wireLate))), ((a 49), .inl (cI, 144, .inl (ia N_senses))), ((a 50), .inl (cI, 288, .inl (ia N_gateEarly))), ((a 51), .inl (cI, 288, .inl (ia N_gateLate)))] H → va_D A [(o_C a C_size_26), ((a 11), .inl (cZ, 96, .inl (ia C_needed))), ((a 12), .inl (cI, 770, .inl (ia C_elements_27))), ((a 13), .inl (cI, 770, .inl (ia C_parent_28))), ((a 14), .inl (cI, 770, .inl (ia C_length_29))), ((a 15), .inl (cI, 770, .inl (ia C_early_30))), ((a 16), .inl (cI, 770, .inl (ia C_late_31))), ((a 17), .inl (cI, 96, .inl (ia C_firstOf_32))), ((a 18), .inl (cI, 770, .inl (ia C_nextOf_33))), (o_O a O_count), ((a 42), .inl (cI, 48, .inl (ia O_gates))), (o_N a N_period N_width N_size), ((a 45), .inl (cI, 48, .inl (ia N_pins))), ((a 46), .inl (cI, 144, .inl (ia N_source))), ((a 47), .inl (cI, 144, .inl (ia N_wireEarly))), ((a 48), .inl (cI, 144, .inl (ia N_wireLate))), ((a 49), .inl (cI, 144, .inl (ia N_senses))), ((a 50), .inl (cI, 288, .inl (ia N_gateEarly))), ((a 51), .inl (cI, 288, .inl (ia N_gateLate)))] → va_S A s.heap H locs → lv_has ls 4 [(0, .ref (a 10)), (1, .int (iI v1)), (2, .int (iI v2)), (3, .int (iI v3))] → lq9 (f_ClockWays_growTree_b66 F C_needed N_pins N_source N_wireEarly N_wireLate N_senses N_gateEarly N_gateLate v1 self43 v2) nf v3 C_size_26 C_elements_27 C_parent_28 C_length_29 C_early_30 C_late_31 C_firstOf_32 C_nextOf_33 = some (z_C_size, z_C_elements, z_C_parent, z_C_length, z_C_early, z_C_late, z_C_firstOf, z_C_nextOf) → W p l e (headSpec w_ClockWays_growTree rm_ClockWays_growTree).room s m args below meth c H locs 0 0 Q (F0 m 66 ls []) := by
          intro n66
          induction n66 with
          | zero => intro v3 C_size_26 C_elements_27 C_parent_28 C_length_29 C_early_30 C_late_31 C_firstOf_32 C_nextOf_33 H locs ls hP hD hS hl h; exact no_some h
          | succ n66 ih66 =>
            intro v3 C_size_26 C_elements_27 C_parent_28 C_length_29 C_early_30 C_late_31 C_firstOf_32 C_nextOf_33 H locs ls hP hD hS hl h
            replace h : f_ClockWays_growTree_b66 F C_needed N_pins N_source N_wireEarly N_wireLate N_senses N_gateEarly N_gateLate v1 self43 v2 (lq9 (f_ClockWays_growTree_b66 F C_needed N_pins N_source N_wireEarly N_wireLate N_senses N_gateEarly N_gateLate v1 self43 v2) n66) v3 C_size_26 C_elements_27 C_parent_28 C_length_29 C_early_30 C_late_31 C_firstOf_32 C_nextOf_33 = some (z_C_size, z_C_elements, z_C_parent, z_C_length, z_C_early, z_C_late, z_C_firstOf, z_C_nextOf) := h
            obtain ⟨self66, hs66⟩ : ∃ z, z = lq9 (f_ClockWays_growTree_b66 F C_needed N_pins N_source N_wireEarly N_wireLate N_senses N_gateEarly N_gateLate v1 self43 v2) n66 := ⟨_, rfl⟩
            rw [← hs66] at h ih66
            rw [f_ClockWays_growTree_b66] at h
            refine lv_iload_n hx hb d_ClockWays_growTree_66 rfl (lv_at hl 3 rfl) ?_
            refine lv_aload_n hx hb d_ClockWays_growTree_67 rfl (lv_at hl 0 rfl) ?_
            refine va_get (D := D) (ci := 4) (v := .ref (a 43)) (C := R_ClockWays) (T := F_ClockWays) (N := 17) hx hb hT in_ClockWays hown hK hP 0 rfl rfl 0 (by decide) (hT _ m194) (fun _ h9 => h9) rfl d_ClockWays_growTree_68 ?_
            refine va_get (D := D) (ci := 1) (v := .ref (a 45)) (C := R_Net) (T := F_Net) (N := 15) hx hb hT in_Net hown hK hP 11 rfl rfl 4 (by decide) (hT _ m63) (fun _ h9 => h9) rfl d_ClockWays_growTree_71 ?_
            refine lv_iload_n hx hb d_ClockWays_growTree_74 rfl (lv_at hl 2 rfl) ?_
            obtain ⟨hin, h⟩ := gi_e h
            refine zv_iald hx hb hK hP 12 0 rfl rfl (Nat.le_of_ble_eq_true rfl) hin d_ClockWays_growTree_75 ?_
            obtain ⟨hg0, h⟩ := gr_e h
            obtain ⟨hg1, h⟩ := gr_e h
            refine zc_ge hx hb d_ClockWays_growTree_76 rfl hg0 hg1 (fun hc => ?_) (fun hc => ?_)
            · replace h := if_t hc h
              refine lv_iinc (v := iI (v1 + 1)) (k := 1) (lv' := [(1, .int (iI (v1 + 1))), (0, .ref (a 10)), (2, .int (iI v2)), (3, .int (iI v3))]) hx hb d_ClockWays_growTree_99 hl rfl (iI_add _ _) (by decide) rfl (fun ls hl => ?_)
              refine lv_goto hx hb d_ClockWays_growTree_102 rfl ?_
              exact ih43 (v1 + 1) C_size_26 C_elements_27 C_parent_28 C_length_29 C_early_30 C_late_31 C_firstOf_32 C_nextOf_33 H locs ls hP hD hS (lv_sub hl [1, 0] rfl) h
            · replace h := if_f hc h
              refine lv_aload_n hx hb d_ClockWays_growTree_79 rfl (lv_at hl 0 rfl) ?_
              refine lv_iload_n hx hb d_ClockWays_growTree_80 rfl (lv_at hl 2 rfl) ?_
              refine lv_iload_n hx hb d_ClockWays_growTree_81 rfl (lv_at hl 3 rfl) ?_
              refine zv_iconst hx hb d_ClockWays_growTree_82 ?_
              obtain ⟨C_size_34, C_elements_35, C_parent_36, C_length_37, C_early_38, C_late_39, C_firstOf_40, C_nextOf_41, hcall, h⟩ := ob8_e h
              refine ca_v (w2 := [(o_C a C_size_34), ((a 11), .inl (cZ, 96, .inl (ia C_needed))), ((a 12), .inl (cI, 770, .inl (ia C_elements_35))), ((a 13), .inl (cI, 770, .inl (ia C_parent_36))), ((a 14), .inl (cI, 770, .inl (ia C_length_37))), ((a 15), .inl (cI, 770, .inl (ia C_early_38))), ((a 16), .inl (cI, 770, .inl (ia C_late_39))), ((a 17), .inl (cI, 96, .inl (ia C_firstOf_40))), ((a 18), .inl (cI, 770, .inl (ia C_nextOf_41))), (o_O a O_count), ((a 42), .inl (cI, 48, .inl (ia O_gates))), (o_N a N_period N_width N_size), ((a 45), .inl (cI, 48, .inl (ia N_pins))), ((a 46), .inl (cI, 144, .inl (ia N_source))), ((a 47), .inl (cI, 144, .inl (ia N_wireEarly))), ((a 48), .inl (cI, 144, .inl (ia N_wireLate))), ((a 49), .inl (cI, 144, .inl (ia N_senses))), ((a 50), .inl (cI, 288, .inl (ia N_gateEarly))), ((a 51), .inl (cI, 288, .inl (ia N_gateLate)))]) (va_runV (As := [.int (iI v2), .int (iI v3), .int (iI 0)]) (rest := []) ⟨hx, hb, hml, hown, hts⟩ (c_ClockWays_growBy l D cI cJ cZ F a C_size_26 C_needed C_elements_27 C_parent_28 C_length_29 C_early_30 C_late_31 C_firstOf_32 C_nextOf_33 N_period N_width N_size N_source N_wireEarly N_wireLate N_senses N_gateEarly N_gateLate v2 v3 0 C_size_34 C_elements_35 C_parent_36 C_length_37 C_early_38 C_late_39 C_firstOf_40 C_nextOf_41 H.size hcall) (cwV 3 hts (gd_V m543 m540 m542 sl_ClockWays_growBy m5) rfl rfl rfl ⟨rfl, hc_ClockWays_growBy⟩ ⟨Nat.le_of_ble_eq_true rfl, Nat.le_of_ble_eq_true rfl⟩) (pc_V 0 4 [.int (iI v2), .int (iI v3), .int (iI 0)] hP hK hD hN [0, 1, 2, 3, 4, 5, 6, 7, 8, 11, 13, 14, 15, 16, 17, 18] rfl rfl rfl rfl rfl) rfl rfl hl.1 rfl (lv_room (Nat.le_of_ble_eq_true rfl)) d_ClockWays_growTree_83 ⟨Nat.le_refl 0, Nat.le_refl 0⟩) hP hD hS hA [0, 1, 2, 3, 4, 5, 6, 7, 8, 11, 13, 14, 15, 16, 17, 18] [9, 10, 12] [3, 4, 5, 6, 7, 8, 9, 10, 11, 0, 1, 12, 2, 13, 14, 15, 16, 17, 18] rfl rfl rfl (by decide) rfl rfl rfl (fun H locs hP hD hS => ?_)
              refine lv_aload_n hx hb d_ClockWays_growTree_86 rfl (lv_at hl 0 rfl) ?_
              refine lv_iload_n hx hb d_ClockWays_growTree_87 rfl (lv_at hl 2 rfl) ?_
              refine lv_iload_n hx hb d_ClockWays_growTree_88 rfl (lv_at hl 3 rfl) ?_
              refine zv_iconst hx hb d_ClockWays_growTree_89 ?_
              obtain ⟨C_size_42, C_elements_43, C_parent_44, C_length_45, C_early_46, C_late_47, C_firstOf_48, C_nextOf_49, hcall, h⟩ := ob8_e h
              refine ca_v (w2 := [(o_C a C_size_42), ((a 11), .inl (cZ, 96, .inl (ia C_needed))), ((a 12), .inl (cI, 770, .inl (ia C_elements_43))), ((a 13), .inl (cI, 770, .inl (ia C_parent_44))), ((a 14), .inl (cI, 770, .inl (ia C_length_45))), ((a 15), .inl (cI, 770, .inl (ia C_early_46))), ((a 16), .inl (cI, 770, .inl (ia C_late_47))), ((a 17), .inl (cI, 96, .inl (ia C_firstOf_48))), ((a 18), .inl (cI, 770, .inl (ia C_nextOf_49))), (o_O a O_count), ((a 42), .inl (cI, 48, .inl (ia O_gates))), (o_N a N_period N_width N_size), ((a 45), .inl (cI, 48, .inl (ia N_pins))), ((a 46), .inl (cI, 144, .inl (ia N_source))), ((a 47), .inl (cI, 144, .inl (ia N_wireEarly))), ((a 48), .inl (cI, 144, .inl (ia N_wireLate))), ((a 49), .inl (cI, 144, .inl (ia N_senses))), ((a 50), .inl (cI, 288, .inl (ia N_gateEarly))), ((a 51), .inl (cI, 288, .inl (ia N_gateLate)))]) (va_runV (As := [.int (iI v2), .int (iI v3), .int (iI 1)]) (rest := []) ⟨hx, hb, hml, hown, hts⟩ (c_ClockWays_growBy l D cI cJ cZ F a C_size_34 C_needed C_elements_35 C_parent_36 C_length_37 C_early_38 C_late_39 C_firstOf_40 C_nextOf_41 N_period N_width N_size N_source N_wireEarly N_wireLate N_senses N_gateEarly N_gateLate v2 v3 1 C_size_42 C_elements_43 C_parent_44 C_length_45 C_early_46 C_late_47 C_firstOf_48 C_nextOf_49 H.size hcall) (cwV 3 hts (gd_V m543 m540 m542 sl_ClockWays_growBy m5) rfl rfl rfl ⟨rfl, hc_ClockWays_growBy⟩ ⟨Nat.le_of_ble_eq_true rfl, Nat.le_of_ble_eq_true rfl⟩) (pc_V 0 4 [.int (iI v2), .int (iI v3), .int (iI 1)] hP hK hD hN [0, 1, 2, 3, 4, 5, 6, 7, 8, 11, 13, 14, 15, 16, 17, 18] rfl rfl rfl rfl rfl) rfl rfl hl.1 rfl (lv_room (Nat.le_of_ble_eq_true rfl)) d_ClockWays_growTree_90 ⟨Nat.le_refl 0, Nat.le_refl 0⟩) hP hD hS hA [0, 1, 2, 3, 4, 5, 6, 7, 8, 11, 13, 14, 15, 16, 17, 18] [9, 10, 12] [3, 4, 5, 6, 7, 8, 9, 10, 11, 0, 1, 12, 2, 13, 14, 15, 16, 17, 18] rfl rfl rfl (by decide) rfl rfl rfl (fun H locs hP hD hS => ?_)
              refine lv_iinc (v := iI (v3 + 1)) (k := 3) (lv' := [(3, .int (iI (v3 + 1))), (0, .ref (a 10)), (1, .int (iI v1)), (2, .int (iI v2))]) hx hb d_ClockWays_growTree_93 hl rfl (iI_add _ _) (by decide) rfl (fun ls hl => ?_)
              refine lv_goto hx hb d_ClockWays_growTree_96 rfl ?_
              exact ih66 (v3 + 1) C_size_42 C_elements_43 C_parent_44 C_length_45 C_early_46 C_late_47 C_firstOf_48 C_nextOf_49 H locs ls hP hD hS (lv_sub hl [1, 2, 3, 0] rfl) h
        exact hl66 F 0 C_size_18 C_elements_19 C_parent_20 C_length_21 C_early_22 C_late_23 C_firstOf_24 C_nextOf_25 H locs ls hP hD hS (lv_sub hl [2, 3, 1, 0] rfl) h
  exact hl43 F 0 C_size_10 C_elements_11 C_parent_12 C_length_13 C_early_14 C_late_15 C_firstOf_16 C_nextOf_17 H locs ls hP hD hS (lv_sub hl [1, 0] rfl) h
abbrev rm_ClockWays_addWay : Room := { frames := 0, cells := 0, slots := 0, locals := 0 }
set_option maxHeartbeats 4000000 in
set_option maxRecDepth 100000 in
theorem c_ClockWays_addWay (l : Launch) (D : va_G) (cI cJ cZ : ClassId) (F : Nat) (a : Nat → Nat) (C_size : Int) (C_count : Int → Int) (C_last : Int → Int) (C_base : Int → Int) (C_wayEarly : Int → Int) (C_wayLate : Int → Int) (x1 : Int) (x2 : Int) (x3 : Int) (x4 : Int) (x5 : Int) (z_C_count : Int → Int) (z_C_last : Int → Int) (z_C_base : Int → Int) (z_C_wayEarly : Int → Int) (z_C_wayLate : Int → Int) (sz : Nat) (h : f_ClockWays_addWay F C_count C_last C_base C_wayEarly C_wayLate x1 x2 x3 x4 x5 = some (z_C_count, z_C_last, z_C_base, z_C_wayEarly, z_C_wayLate)) : Met l y_ClockWays_addWay w_ClockWays_addWay rm_ClockWays_addWay (PC D [(cI, .int), (cJ, .long), (cZ, .boolean)] [.ref (a 10), .int (iI x1), .int (iI x2), .int (iI x3), .int (iI x4), .int (iI x5)] ([(o_C a C_size), ((a 19), .inl (cI, 48, .inl (ia C_count))), ((a 20), .inl (cI, 384, .inl (ia C_last))), ((a 21), .inl (cI, 384, .inl (ia C_base))), ((a 22), .inl (cI, 384, .inl (ia C_wayEarly))), ((a 23), .inl (cI, 384, .inl (ia C_wayLate)))]) sz) (QV D [(cI, .int), (cJ, .long), (cZ, .boolean)] ([(o_C a C_size), ((a 19), .inl (cI, 48, .inl (ia C_count))), ((a 20), .inl (cI, 384, .inl (ia C_last))), ((a 21), .inl (cI, 384, .inl (ia C_base))), ((a 22), .inl (cI, 384, .inl (ia C_wayEarly))), ((a 23), .inl (cI, 384, .inl (ia C_wayLate)))]) sz ([(o_C a C_size), ((a 19), .inl (cI, 48, .inl (ia z_C_count))), ((a 20), .inl (cI, 384, .inl (ia z_C_last))), ((a 21), .inl (cI, 384, .inl (ia z_C_base))), ((a 22), .inl (cI, 384, .inl (ia z_C_wayEarly))), ((a 23), .inl (cI, 384, .inl (ia z_C_wayLate)))])) 0 0 (va_A ([(o_C a C_size), ((a 19), .inl (cI, 48, .inl (ia C_count))), ((a 20), .inl (cI, 384, .inl (ia C_last))), ((a 21), .inl (cI, 384, .inl (ia C_base))), ((a 22), .inl (cI, 384, .inl (ia C_wayEarly))), ((a 23), .inl (cI, 384, .inl (ia C_wayLate)))]) sz) := by
  refine Met.ofW (cc := prog_3_method_14_code) (maxL := 7) (ret := (Option.none : Option Jvm.ClassFile.FieldType)) (by decide) rfl ?_
  intro p e s m args below meth c s₁ B hml hv
  obtain ⟨rfl, hsz, hP, hK, hD0, hN⟩ := hv
  have hx := B.exec
  have hb := B.bytes
  have hr := B.returns
  have hts := atoms_spec (ws := w_ClockWays_addWay) B.pre
  have hown : s.vm.findClass R_ClockWays = some m.cls := findClass_of_methodNamed B.named
  have hlocks := B.notSynchronized
  subst hsz
  have hD := hD0.self (sz := s.heap.size)
  obtain ⟨A, hAe⟩ : ∃ A, A = va_A ([(o_C a C_size), ((a 19), .inl (cI, 48, .inl (ia C_count))), ((a 20), .inl (cI, 384, .inl (ia C_last))), ((a 21), .inl (cI, 384, .inl (ia C_base))), ((a 22), .inl (cI, 384, .inl (ia C_wayEarly))), ((a 23), .inl (cI, 384, .inl (ia C_wayLate)))]) s.heap.size := ⟨_, rfl⟩
  rw [← hAe] at hD
  have hA : ∀ q : Nat, s.heap.size ≤ q → A q := fun q h => by rw [hAe]; exact Or.inr h
  have hS : va_S A s.heap s.heap [] := va_S.rf
  have hl := lv_entry ([.ref (a 10), .int (iI x1), .int (iI x2), .int (iI x3), .int (iI x4), .int (iI x5)]) (n := 7) (Nat.le_of_ble_eq_true rfl)
  rw [lg_entry_eq]
  generalize (lg_sl ([.ref (a 10), .int (iI x1), .int (iI x2), .int (iI x3), .int (iI x4), .int (iI x5)]) ++ List.replicate (7 - (lg_sl ([.ref (a 10), .int (iI x1), .int (iI x2), .int (iI x3), .int (iI x4), .int (iI x5)])).length) Slot.unset).toArray = ls at hl ⊢
  have hl : lv_has ls 7 [(0, .ref (a 10)), (1, .int (iI x1)), (2, .int (iI x2)), (3, .int (iI x3)), (4, .int (iI x4)), (5, .int (iI x5))] := hl
  generalize (List.toArray ([.ref (a 10), .int (iI x1), .int (iI x2), .int (iI x3), .int (iI x4), .int (iI x5)] : List Value)) = args at hts ⊢
  have hT : ∀ w ∈ Tg, w.before args s = true := fun w h => hts w (List.mem_cons_of_mem _ h)
  obtain ⟨Q, hQ⟩ : ∃ Q, Q = MQ below (QV D [(cI, .int), (cJ, .long), (cZ, .boolean)] ([(o_C a C_size), ((a 19), .inl (cI, 48, .inl (ia C_count))), ((a 20), .inl (cI, 384, .inl (ia C_last))), ((a 21), .inl (cI, 384, .inl (ia C_base))), ((a 22), .inl (cI, 384, .inl (ia C_wayEarly))), ((a 23), .inl (cI, 384, .inl (ia C_wayLate)))]) s.heap.size ([(o_C a C_size), ((a 19), .inl (cI, 48, .inl (ia z_C_count))), ((a 20), .inl (cI, 384, .inl (ia z_C_last))), ((a 21), .inl (cI, 384, .inl (ia z_C_base))), ((a 22), .inl (cI, 384, .inl (ia z_C_wayEarly))), ((a 23), .inl (cI, 384, .inl (ia z_C_wayLate)))])) args s 0 0 (va_A ([(o_C a C_size), ((a 19), .inl (cI, 48, .inl (ia C_count))), ((a 20), .inl (cI, 384, .inl (ia C_last))), ((a 21), .inl (cI, 384, .inl (ia C_base))), ((a 22), .inl (cI, 384, .inl (ia C_wayEarly))), ((a 23), .inl (cI, 384, .inl (ia C_wayLate)))]) s.heap.size) := ⟨_, rfl⟩
  rw [← hQ]
  suffices hW : ∀ (H : Heap) (locs : List Loc), va_P D vwCl ([(o_C a C_size), ((a 19), .inl (cI, 48, .inl (ia C_count))), ((a 20), .inl (cI, 384, .inl (ia C_last))), ((a 21), .inl (cI, 384, .inl (ia C_base))), ((a 22), .inl (cI, 384, .inl (ia C_wayEarly))), ((a 23), .inl (cI, 384, .inl (ia C_wayLate)))]) H → va_D A ([(o_C a C_size), ((a 19), .inl (cI, 48, .inl (ia C_count))), ((a 20), .inl (cI, 384, .inl (ia C_last))), ((a 21), .inl (cI, 384, .inl (ia C_base))), ((a 22), .inl (cI, 384, .inl (ia C_wayEarly))), ((a 23), .inl (cI, 384, .inl (ia C_wayLate)))]) → va_S A s.heap H locs → W p l e (headSpec w_ClockWays_addWay rm_ClockWays_addWay).room s m args below meth c H locs 0 0 Q (F0 m 0 ls []) from hW s.heap [] hP hD hS
  clear hP hD hS
  intro H locs hP hD hS
  rw [f_ClockWays_addWay] at h
  refine lv_iload_n hx hb d_ClockWays_addWay_0 rfl (lv_at hl 1 rfl) ?_
  refine lv_bipush (v := iI 8) hx hb d_ClockWays_addWay_1 (by decide) ?_
  refine zv_imul hx hb d_ClockWays_addWay_3 ?_
  refine lv_aload_n hx hb d_ClockWays_addWay_4 rfl (lv_at hl 0 rfl) ?_
  refine va_get (D := D) (ci := 4) (v := .ref (a 19)) (C := R_ClockWays) (T := F_ClockWays) (N := 17) hx hb hT in_ClockWays hown hK hP 0 rfl rfl 12 (by decide) (hT _ m206) (fun _ h9 => h9) rfl d_ClockWays_addWay_5 ?_
  refine lv_iload_n hx hb d_ClockWays_addWay_8 rfl (lv_at hl 1 rfl) ?_
  obtain ⟨hin, h⟩ := gi_e h
  refine zv_iald hx hb hK hP 1 0 rfl rfl (Nat.le_of_ble_eq_true rfl) hin d_ClockWays_addWay_9 ?_
  refine zv_iadd hx hb d_ClockWays_addWay_10 ?_
  refine zv_top (fun v6 hv => ?_)
  replace h := bd_e hv h
  refine lv_istore (lv' := [(6, .int (iI v6)), (0, .ref (a 10)), (1, .int (iI x1)), (2, .int (iI x2)), (3, .int (iI x3)), (4, .int (iI x4)), (5, .int (iI x5))]) hx hb d_ClockWays_addWay_11 hl (by decide) rfl (fun ls hl => ?_)
  refine lv_aload_n hx hb d_ClockWays_addWay_13 rfl (lv_at hl 1 rfl) ?_
  refine va_get (D := D) (ci := 4) (v := .ref (a 20)) (C := R_ClockWays) (T := F_ClockWays) (N := 17) hx hb hT in_ClockWays hown hK hP 0 rfl rfl 13 (by decide) (hT _ m212) (fun _ h9 => h9) rfl d_ClockWays_addWay_14 ?_
  refine lv_iload hx hb d_ClockWays_addWay_17 (lv_at hl 0 rfl) ?_
  refine lv_iload_n hx hb d_ClockWays_addWay_19 rfl (lv_at hl 3 rfl) ?_
  obtain ⟨hin, h⟩ := gi_e h
  refine zv_iast hx hb hK hP hD hS 2 0 rfl rfl (Nat.le_of_ble_eq_true rfl) hin d_ClockWays_addWay_20 (fun H locs hP hD hS => ?_)
  obtain ⟨C_last_1, hv⟩ : ∃ z, z = (ui C_last v6 x2) := ⟨_, rfl⟩
  replace h := bd_e hv h
  have hP : va_P D vwCl [(o_C a C_size), ((a 19), .inl (cI, 48, .inl (ia C_count))), ((a 20), .inl (cI, 384, .inl (ia C_last_1))), ((a 21), .inl (cI, 384, .inl (ia C_base))), ((a 22), .inl (cI, 384, .inl (ia C_wayEarly))), ((a 23), .inl (cI, 384, .inl (ia C_wayLate)))] H := by rw [hv]; exact hP
  have hD : va_D A [(o_C a C_size), ((a 19), .inl (cI, 48, .inl (ia C_count))), ((a 20), .inl (cI, 384, .inl (ia C_last_1))), ((a 21), .inl (cI, 384, .inl (ia C_base))), ((a 22), .inl (cI, 384, .inl (ia C_wayEarly))), ((a 23), .inl (cI, 384, .inl (ia C_wayLate)))] := by rw [hv]; exact hD
  refine lv_aload_n hx hb d_ClockWays_addWay_21 rfl (lv_at hl 1 rfl) ?_
  refine va_get (D := D) (ci := 4) (v := .ref (a 21)) (C := R_ClockWays) (T := F_ClockWays) (N := 17) hx hb hT in_ClockWays hown hK hP 0 rfl rfl 14 (by decide) (hT _ m213) (fun _ h9 => h9) rfl d_ClockWays_addWay_22 ?_
  refine lv_iload hx hb d_ClockWays_addWay_25 (lv_at hl 0 rfl) ?_
  refine lv_iload_n hx hb d_ClockWays_addWay_27 rfl (lv_at hl 4 rfl) ?_
  obtain ⟨hin, h⟩ := gi_e h
  refine zv_iast hx hb hK hP hD hS 3 0 rfl rfl (Nat.le_of_ble_eq_true rfl) hin d_ClockWays_addWay_28 (fun H locs hP hD hS => ?_)
  obtain ⟨C_base_2, hv⟩ : ∃ z, z = (ui C_base v6 x3) := ⟨_, rfl⟩
  replace h := bd_e hv h
  have hP : va_P D vwCl [(o_C a C_size), ((a 19), .inl (cI, 48, .inl (ia C_count))), ((a 20), .inl (cI, 384, .inl (ia C_last_1))), ((a 21), .inl (cI, 384, .inl (ia C_base_2))), ((a 22), .inl (cI, 384, .inl (ia C_wayEarly))), ((a 23), .inl (cI, 384, .inl (ia C_wayLate)))] H := by rw [hv]; exact hP
  have hD : va_D A [(o_C a C_size), ((a 19), .inl (cI, 48, .inl (ia C_count))), ((a 20), .inl (cI, 384, .inl (ia C_last_1))), ((a 21), .inl (cI, 384, .inl (ia C_base_2))), ((a 22), .inl (cI, 384, .inl (ia C_wayEarly))), ((a 23), .inl (cI, 384, .inl (ia C_wayLate)))] := by rw [hv]; exact hD
  refine lv_aload_n hx hb d_ClockWays_addWay_29 rfl (lv_at hl 1 rfl) ?_
  refine va_get (D := D) (ci := 4) (v := .ref (a 22)) (C := R_ClockWays) (T := F_ClockWays) (N := 17) hx hb hT in_ClockWays hown hK hP 0 rfl rfl 15 (by decide) (hT _ m216) (fun _ h9 => h9) rfl d_ClockWays_addWay_30 ?_
  refine lv_iload hx hb d_ClockWays_addWay_33 (lv_at hl 0 rfl) ?_
  refine lv_iload hx hb d_ClockWays_addWay_35 (lv_at hl 5 rfl) ?_
  obtain ⟨hin, h⟩ := gi_e h
  refine zv_iast hx hb hK hP hD hS 4 0 rfl rfl (Nat.le_of_ble_eq_true rfl) hin d_ClockWays_addWay_37 (fun H locs hP hD hS => ?_)
  obtain ⟨C_wayEarly_3, hv⟩ : ∃ z, z = (ui C_wayEarly v6 x4) := ⟨_, rfl⟩
  replace h := bd_e hv h
  have hP : va_P D vwCl [(o_C a C_size), ((a 19), .inl (cI, 48, .inl (ia C_count))), ((a 20), .inl (cI, 384, .inl (ia C_last_1))), ((a 21), .inl (cI, 384, .inl (ia C_base_2))), ((a 22), .inl (cI, 384, .inl (ia C_wayEarly_3))), ((a 23), .inl (cI, 384, .inl (ia C_wayLate)))] H := by rw [hv]; exact hP
  have hD : va_D A [(o_C a C_size), ((a 19), .inl (cI, 48, .inl (ia C_count))), ((a 20), .inl (cI, 384, .inl (ia C_last_1))), ((a 21), .inl (cI, 384, .inl (ia C_base_2))), ((a 22), .inl (cI, 384, .inl (ia C_wayEarly_3))), ((a 23), .inl (cI, 384, .inl (ia C_wayLate)))] := by rw [hv]; exact hD
  refine lv_aload_n hx hb d_ClockWays_addWay_38 rfl (lv_at hl 1 rfl) ?_
  refine va_get (D := D) (ci := 4) (v := .ref (a 23)) (C := R_ClockWays) (T := F_ClockWays) (N := 17) hx hb hT in_ClockWays hown hK hP 0 rfl rfl 16 (by decide) (hT _ m219) (fun _ h9 => h9) rfl d_ClockWays_addWay_39 ?_
  refine lv_iload hx hb d_ClockWays_addWay_42 (lv_at hl 0 rfl) ?_
  refine lv_iload hx hb d_ClockWays_addWay_44 (lv_at hl 6 rfl) ?_
  obtain ⟨hin, h⟩ := gi_e h
  refine zv_iast hx hb hK hP hD hS 5 0 rfl rfl (Nat.le_of_ble_eq_true rfl) hin d_ClockWays_addWay_46 (fun H locs hP hD hS => ?_)
  obtain ⟨C_wayLate_4, hv⟩ : ∃ z, z = (ui C_wayLate v6 x5) := ⟨_, rfl⟩
  replace h := bd_e hv h
  have hP : va_P D vwCl [(o_C a C_size), ((a 19), .inl (cI, 48, .inl (ia C_count))), ((a 20), .inl (cI, 384, .inl (ia C_last_1))), ((a 21), .inl (cI, 384, .inl (ia C_base_2))), ((a 22), .inl (cI, 384, .inl (ia C_wayEarly_3))), ((a 23), .inl (cI, 384, .inl (ia C_wayLate_4)))] H := by rw [hv]; exact hP
  have hD : va_D A [(o_C a C_size), ((a 19), .inl (cI, 48, .inl (ia C_count))), ((a 20), .inl (cI, 384, .inl (ia C_last_1))), ((a 21), .inl (cI, 384, .inl (ia C_base_2))), ((a 22), .inl (cI, 384, .inl (ia C_wayEarly_3))), ((a 23), .inl (cI, 384, .inl (ia C_wayLate_4)))] := by rw [hv]; exact hD
  refine lv_aload_n hx hb d_ClockWays_addWay_47 rfl (lv_at hl 1 rfl) ?_
  refine va_get (D := D) (ci := 4) (v := .ref (a 19)) (C := R_ClockWays) (T := F_ClockWays) (N := 17) hx hb hT in_ClockWays hown hK hP 0 rfl rfl 12 (by decide) (hT _ m206) (fun _ h9 => h9) rfl d_ClockWays_addWay_48 ?_
  refine lv_iload_n hx hb d_ClockWays_addWay_51 rfl (lv_at hl 2 rfl) ?_
  refine lv_dup2_11 hx hb d_ClockWays_addWay_52 rfl rfl ?_
  obtain ⟨hin, h⟩ := gi_e h
  refine zv_iald hx hb hK hP 1 0 rfl rfl (Nat.le_of_ble_eq_true rfl) hin d_ClockWays_addWay_53 ?_
  refine zv_iconst hx hb d_ClockWays_addWay_54 ?_
  refine zv_iadd hx hb d_ClockWays_addWay_55 ?_
  obtain ⟨hin, h⟩ := gi_e h
  refine zv_iast hx hb hK hP hD hS 1 0 rfl rfl (Nat.le_of_ble_eq_true rfl) hin d_ClockWays_addWay_56 (fun H locs hP hD hS => ?_)
  obtain ⟨C_count_5, hv⟩ : ∃ z, z = (ui C_count x1 ((C_count x1) + 1)) := ⟨_, rfl⟩
  replace h := bd_e hv h
  have hP : va_P D vwCl [(o_C a C_size), ((a 19), .inl (cI, 48, .inl (ia C_count_5))), ((a 20), .inl (cI, 384, .inl (ia C_last_1))), ((a 21), .inl (cI, 384, .inl (ia C_base_2))), ((a 22), .inl (cI, 384, .inl (ia C_wayEarly_3))), ((a 23), .inl (cI, 384, .inl (ia C_wayLate_4)))] H := by rw [hv]; exact hP
  have hD : va_D A [(o_C a C_size), ((a 19), .inl (cI, 48, .inl (ia C_count_5))), ((a 20), .inl (cI, 384, .inl (ia C_last_1))), ((a 21), .inl (cI, 384, .inl (ia C_base_2))), ((a 22), .inl (cI, 384, .inl (ia C_wayEarly_3))), ((a 23), .inl (cI, 384, .inl (ia C_wayLate_4)))] := by rw [hv]; exact hD
  obtain ⟨e1, e2, e3, e4, e5⟩ := so5 h
  rw [hQ, e1, e2, e3, e4, e5]; rw [hAe] at hD hS; exact W.vret hx hb hr (fun t ht hW => ⟨⟨(), rfl, trivial, by rw [ht]; exact hP, va_K.moved hW.alike hK, hD⟩, hS.F ht⟩) hS.2.2 d_ClockWays_addWay_57
abbrev rm_ClockWays_baseOf : Room := { frames := 1, cells := 0, slots := 0, locals := 22 }
set_option maxHeartbeats 4000000 in
set_option maxRecDepth 100000 in
theorem c_ClockWays_baseOf (l : Launch) (D : va_G) (cI cJ cZ : ClassId) (F : Nat) (a : Nat → Nat) (C_size : Int) (C_elements : Int → Int) (C_parent : Int → Int) (N_period : Int) (N_width : Int) (N_size : Int) (x1 : Int) (r : Int) (sz : Nat) (h : f_ClockWays_baseOf F C_elements C_parent N_width x1 = some (r)) : Met l y_ClockWays_baseOf w_ClockWays_baseOf rm_ClockWays_baseOf (PC D [(cI, .int), (cJ, .long), (cZ, .boolean)] [.ref (a 10), .int (iI x1)] ([(o_C a C_size), ((a 12), .inl (cI, 770, .inl (ia C_elements))), ((a 13), .inl (cI, 770, .inl (ia C_parent))), (o_N a N_period N_width N_size)]) sz) (QcRead (iI r)) 0 0 (fun _ => False) := by
  refine Met.ofW (cc := prog_3_method_15_code) (maxL := 4) (ret := (Option.some Jvm.ClassFile.FieldType.int)) (by decide) rfl ?_
  intro p e s m args below meth c s₁ B hml hv
  obtain ⟨rfl, hsz, hP, hK, hD0, hN⟩ := hv
  have hx := B.exec
  have hb := B.bytes
  have hr := B.returns
  have hts := atoms_spec (ws := w_ClockWays_baseOf) B.pre
  have hown : s.vm.findClass R_ClockWays = some m.cls := findClass_of_methodNamed B.named
  have hlocks := B.notSynchronized
  subst hsz
  have hl := lv_entry ([.ref (a 10), .int (iI x1)]) (n := 4) (Nat.le_of_ble_eq_true rfl)
  rw [lg_entry_eq]
  generalize (lg_sl ([.ref (a 10), .int (iI x1)]) ++ List.replicate (4 - (lg_sl ([.ref (a 10), .int (iI x1)])).length) Slot.unset).toArray = ls at hl ⊢
  have hl : lv_has ls 4 [(0, .ref (a 10)), (1, .int (iI x1))] := hl
  generalize (List.toArray ([.ref (a 10), .int (iI x1)] : List Value)) = args at hts ⊢
  have hT : ∀ w ∈ Tg, w.before args s = true := fun w h => hts w (List.mem_cons_of_mem _ h)
  obtain ⟨Q, hQ⟩ : ∃ Q, Q = MQ below (QcRead (iI r)) args s 0 0 (fun _ => False) := ⟨_, rfl⟩
  rw [← hQ]
  rw [f_ClockWays_baseOf] at h
  refine lv_iload_n hx hb d_ClockWays_baseOf_0 rfl (lv_at hl 1 rfl) ?_
  refine lv_istore_n (lv' := [(2, .int (iI x1)), (0, .ref (a 10)), (1, .int (iI x1))]) hx hb d_ClockWays_baseOf_1 rfl hl (by decide) rfl (fun ls hl => ?_)
  refine zv_iconst hx hb d_ClockWays_baseOf_2 ?_
  refine lv_istore_n (lv' := [(3, .int (iI 0)), (2, .int (iI x1)), (0, .ref (a 10)), (1, .int (iI x1))]) hx hb d_ClockWays_baseOf_3 rfl hl (by decide) rfl (fun ls hl => ?_)
  have hl4 : ∀ (nf : Nat) (v2 : Int) (v3 : Int) (ls : Array Slot), lv_has ls 4 [(0, .ref (a 10)), (2, .int (iI v2)), (3, .int (iI v3))] → lq2 (f_ClockWays_baseOf_b4 F C_elements C_parent N_width) nf v2 v3 = some (r) → W p l e (headSpec w_ClockWays_baseOf rm_ClockWays_baseOf).room s m args below meth c s.heap [] 0 0 Q (F0 m 4 ls []) := by
    intro n4
    induction n4 with
    | zero => intro v2 v3 ls hl h; exact no_some h
    | succ n4 ih4 =>
      intro v2 v3 ls hl h
      replace h : f_ClockWays_baseOf_b4 F C_elements C_parent N_width (lq2 (f_ClockWays_baseOf_b4 F C_elements C_parent N_width) n4) v2 v3 = some (r) := h
      obtain ⟨self4, hs4⟩ : ∃ z, z = lq2 (f_ClockWays_baseOf_b4 F C_elements C_parent N_width) n4 := ⟨_, rfl⟩
      rw [← hs4] at h ih4
      rw [f_ClockWays_baseOf_b4] at h
      refine lv_iload_n hx hb d_ClockWays_baseOf_4 rfl (lv_at hl 2 rfl) ?_
      refine lv_bipush (v := iI 48) hx hb d_ClockWays_baseOf_5 (by decide) ?_
      have hj32 : ∀  (ls : Array Slot), lv_has ls 4 [(0, .ref (a 10)), (2, .int (iI v2))] → f_ClockWays_baseOf_j32 F C_elements N_width v2 = some (r) → W p l e (headSpec w_ClockWays_baseOf rm_ClockWays_baseOf).room s m args below meth c s.heap [] 0 0 Q (F0 m 32 ls []) := by
        intro  ls hl h
        rw [f_ClockWays_baseOf_j32] at h
        refine lv_aload_n hx hb d_ClockWays_baseOf_32 rfl (lv_at hl 0 rfl) ?_
        refine va_get (D := D) (ci := 4) (v := .ref (a 12)) (C := R_ClockWays) (T := F_ClockWays) (N := 17) hx hb hT in_ClockWays hown hK hP 0 rfl rfl 5 (by decide) (hT _ m199) (fun _ h9 => h9) rfl d_ClockWays_baseOf_33 ?_
        refine lv_iload_n hx hb d_ClockWays_baseOf_36 rfl (lv_at hl 1 rfl) ?_
        obtain ⟨hin, h⟩ := gi_e h
        refine zv_iald hx hb hK hP 1 0 rfl rfl (Nat.le_of_ble_eq_true rfl) hin d_ClockWays_baseOf_37 ?_
        refine zv_iconst hx hb d_ClockWays_baseOf_38 ?_
        refine zv_iconst hx hb d_ClockWays_baseOf_39 ?_
        refine zv_iconst hx hb d_ClockWays_baseOf_40 ?_
        obtain ⟨r41, hcall, h⟩ := ob1_e h
        refine ro_i (va_Run.run (va_runSN (As := [.int (iI 0), .int (iI 0), .int (iI 0)]) (rest := [.int (iI (C_elements v2))]) ⟨hx, hb, hml, hown, hts⟩ (c_T_elementOf l D cI cJ cZ F a 0 0 0 r41 s.heap.size hcall) ⟨va_cnB 3 hts (gd_in m535) rfl rfl rfl hN.2.1 (hT _ m1) hc_T_elementOf ⟨Nat.le_of_ble_eq_true rfl, Nat.le_of_ble_eq_true rfl⟩, hT _ m534, trivial⟩ (pc_S [.int (iI 0), .int (iI 0), .int (iI 0)] hP hK hD0 hN [] rfl rfl rfl) rfl rfl hl.1 rfl (lv_room (Nat.le_of_ble_eq_true rfl)) d_ClockWays_baseOf_41 ⟨Nat.le_refl 0, Nat.le_refl 0⟩)) (W.eq (g2 := F0 m 44 ls [.int (iI r41), .int (iI (C_elements v2))]) rfl ?_)
        obtain ⟨hg0, h⟩ := gr_e h
        obtain ⟨hg1, h⟩ := gr_e h
        refine zc_ne hx hb d_ClockWays_baseOf_44 rfl hg0 hg1 (fun hc => ?_) (fun hc => ?_)
        · replace h := if_f hc h
          refine lv_aload_n hx hb d_ClockWays_baseOf_51 rfl (lv_at hl 0 rfl) ?_
          refine va_get (D := D) (ci := 4) (v := .ref (a 43)) (C := R_ClockWays) (T := F_ClockWays) (N := 17) hx hb hT in_ClockWays hown hK hP 0 rfl rfl 0 (by decide) (hT _ m194) (fun _ h9 => h9) rfl d_ClockWays_baseOf_52 ?_
          refine va_get (D := D) (ci := 1) (v := .int (iI N_width)) (C := R_Net) (T := F_Net) (N := 15) hx hb hT in_Net hown hK hP 3 rfl rfl 1 (by decide) (hT _ m46) (fun _ h9 => h9) rfl d_ClockWays_baseOf_55 ?_
          have e1 := so1 h
          rw [hQ, e1]; exact W.iret hx hb hr (fun t ht hW => ⟨rfl, ht⟩) (fun q h => nomatch h) d_ClockWays_baseOf_58
        · replace h := if_t hc h
          refine zv_iconst hx hb d_ClockWays_baseOf_47 ?_
          refine lv_goto hx hb d_ClockWays_baseOf_48 rfl ?_
          have e1 := so1 h
          rw [hQ, e1]; exact W.iret hx hb hr (fun t ht hW => ⟨rfl, ht⟩) (fun q h => nomatch h) d_ClockWays_baseOf_58
      obtain ⟨hg0, h⟩ := gr_e h
      refine zc_ge hx hb d_ClockWays_baseOf_7 rfl hg0 (by decide) (fun hc => ?_) (fun hc => ?_)
      · replace h := if_t hc h
        exact hj32  ls (lv_sub hl [0, 1] rfl) h
      · replace h := if_f hc h
        refine lv_aload_n hx hb d_ClockWays_baseOf_10 rfl (lv_at hl 0 rfl) ?_
        refine va_get (D := D) (ci := 4) (v := .ref (a 13)) (C := R_ClockWays) (T := F_ClockWays) (N := 17) hx hb hT in_ClockWays hown hK hP 0 rfl rfl 6 (by decide) (hT _ m200) (fun _ h9 => h9) rfl d_ClockWays_baseOf_11 ?_
        refine lv_iload_n hx hb d_ClockWays_baseOf_14 rfl (lv_at hl 1 rfl) ?_
        obtain ⟨hin, h⟩ := gi_e h
        refine zv_iald hx hb hK hP 2 0 rfl rfl (Nat.le_of_ble_eq_true rfl) hin d_ClockWays_baseOf_15 ?_
        obtain ⟨hg0, h⟩ := gr_e h
        refine zi_lt hx hb d_ClockWays_baseOf_16 rfl hg0 (fun hc => ?_) (fun hc => ?_)
        · replace h := if_t hc h
          exact hj32  ls (lv_sub hl [0, 1] rfl) h
        · replace h := if_f hc h
          refine lv_aload_n hx hb d_ClockWays_baseOf_19 rfl (lv_at hl 0 rfl) ?_
          refine va_get (D := D) (ci := 4) (v := .ref (a 13)) (C := R_ClockWays) (T := F_ClockWays) (N := 17) hx hb hT in_ClockWays hown hK hP 0 rfl rfl 6 (by decide) (hT _ m200) (fun _ h9 => h9) rfl d_ClockWays_baseOf_20 ?_
          refine lv_iload_n hx hb d_ClockWays_baseOf_23 rfl (lv_at hl 1 rfl) ?_
          obtain ⟨hin, h⟩ := gi_e h
          refine zv_iald hx hb hK hP 2 0 rfl rfl (Nat.le_of_ble_eq_true rfl) hin d_ClockWays_baseOf_24 ?_
          refine zv_top (fun v2_1 hv => ?_)
          replace h := bd_e hv h
          refine lv_istore_n (lv' := [(2, .int (iI v2_1)), (0, .ref (a 10)), (3, .int (iI v3))]) hx hb d_ClockWays_baseOf_25 rfl hl (by decide) rfl (fun ls hl => ?_)
          refine lv_iinc (v := iI (v3 + 1)) (k := 2) (lv' := [(3, .int (iI (v3 + 1))), (2, .int (iI v2_1)), (0, .ref (a 10))]) hx hb d_ClockWays_baseOf_26 hl rfl (iI_add _ _) (by decide) rfl (fun ls hl => ?_)
          refine lv_goto hx hb d_ClockWays_baseOf_29 rfl ?_
          exact ih4 v2_1 (v3 + 1) ls (lv_sub hl [2, 1, 0] rfl) h
  exact hl4 F x1 0 ls (lv_sub hl [2, 1, 0] rfl) h
abbrev rm_ClockWays_gather : Room := { frames := 2, cells := 0, slots := 0, locals := 45 }
set_option maxHeartbeats 4000000 in
set_option maxRecDepth 100000 in
theorem c_ClockWays_gather (l : Launch) (D : va_G) (cI cJ cZ : ClassId) (F : Nat) (a : Nat → Nat) (C_size : Int) (C_elements : Int → Int) (C_parent : Int → Int) (C_early : Int → Int) (C_late : Int → Int) (C_firstOf : Int → Int) (C_nextOf : Int → Int) (C_count : Int → Int) (C_last : Int → Int) (C_base : Int → Int) (C_wayEarly : Int → Int) (C_wayLate : Int → Int) (N_period : Int) (N_width : Int) (N_size : Int) (N_source : Int → Int) (N_wireEarly : Int → Int) (N_wireLate : Int → Int) (x1 : Int) (z_C_count : Int → Int) (z_C_last : Int → Int) (z_C_base : Int → Int) (z_C_wayEarly : Int → Int) (z_C_wayLate : Int → Int) (sz : Nat) (h : f_ClockWays_gather F C_elements C_parent C_early C_late C_firstOf C_nextOf C_count C_last C_base C_wayEarly C_wayLate N_width N_source N_wireEarly N_wireLate x1 = some (z_C_count, z_C_last, z_C_base, z_C_wayEarly, z_C_wayLate)) : Met l y_ClockWays_gather w_ClockWays_gather rm_ClockWays_gather (PC D [(cI, .int), (cJ, .long), (cZ, .boolean)] [.ref (a 10), .int (iI x1)] ([(o_C a C_size), ((a 12), .inl (cI, 770, .inl (ia C_elements))), ((a 13), .inl (cI, 770, .inl (ia C_parent))), ((a 15), .inl (cI, 770, .inl (ia C_early))), ((a 16), .inl (cI, 770, .inl (ia C_late))), ((a 17), .inl (cI, 96, .inl (ia C_firstOf))), ((a 18), .inl (cI, 770, .inl (ia C_nextOf))), ((a 19), .inl (cI, 48, .inl (ia C_count))), ((a 20), .inl (cI, 384, .inl (ia C_last))), ((a 21), .inl (cI, 384, .inl (ia C_base))), ((a 22), .inl (cI, 384, .inl (ia C_wayEarly))), ((a 23), .inl (cI, 384, .inl (ia C_wayLate))), (o_N a N_period N_width N_size), ((a 46), .inl (cI, 144, .inl (ia N_source))), ((a 47), .inl (cI, 144, .inl (ia N_wireEarly))), ((a 48), .inl (cI, 144, .inl (ia N_wireLate)))]) sz) (QV D [(cI, .int), (cJ, .long), (cZ, .boolean)] ([(o_C a C_size), ((a 12), .inl (cI, 770, .inl (ia C_elements))), ((a 13), .inl (cI, 770, .inl (ia C_parent))), ((a 15), .inl (cI, 770, .inl (ia C_early))), ((a 16), .inl (cI, 770, .inl (ia C_late))), ((a 17), .inl (cI, 96, .inl (ia C_firstOf))), ((a 18), .inl (cI, 770, .inl (ia C_nextOf))), ((a 19), .inl (cI, 48, .inl (ia C_count))), ((a 20), .inl (cI, 384, .inl (ia C_last))), ((a 21), .inl (cI, 384, .inl (ia C_base))), ((a 22), .inl (cI, 384, .inl (ia C_wayEarly))), ((a 23), .inl (cI, 384, .inl (ia C_wayLate))), (o_N a N_period N_width N_size), ((a 46), .inl (cI, 144, .inl (ia N_source))), ((a 47), .inl (cI, 144, .inl (ia N_wireEarly))), ((a 48), .inl (cI, 144, .inl (ia N_wireLate)))]) sz ([(o_C a C_size), ((a 12), .inl (cI, 770, .inl (ia C_elements))), ((a 13), .inl (cI, 770, .inl (ia C_parent))), ((a 15), .inl (cI, 770, .inl (ia C_early))), ((a 16), .inl (cI, 770, .inl (ia C_late))), ((a 17), .inl (cI, 96, .inl (ia C_firstOf))), ((a 18), .inl (cI, 770, .inl (ia C_nextOf))), ((a 19), .inl (cI, 48, .inl (ia z_C_count))), ((a 20), .inl (cI, 384, .inl (ia z_C_last))), ((a 21), .inl (cI, 384, .inl (ia z_C_base))), ((a 22), .inl (cI, 384, .inl (ia z_C_wayEarly))), ((a 23), .inl (cI, 384, .inl (ia z_C_wayLate))), (o_N a N_period N_width N_size), ((a 46), .inl (cI, 144, .inl (ia N_source))), ((a 47), .inl (cI, 144, .inl (ia N_wireEarly))), ((a 48), .inl (cI, 144, .inl (ia N_wireLate)))])) 0 0 (va_A ([(o_C a C_size), ((a 12), .inl (cI, 770, .inl (ia C_elements))), ((a 13), .inl (cI, 770, .inl (ia C_parent))), ((a 15), .inl (cI, 770, .inl (ia C_early))), ((a 16), .inl (cI, 770, .inl (ia C_late))), ((a 17), .inl (cI, 96, .inl (ia C_firstOf))), ((a 18), .inl (cI, 770, .inl (ia C_nextOf))), ((a 19), .inl (cI, 48, .inl (ia C_count))), ((a 20), .inl (cI, 384, .inl (ia C_last))), ((a 21), .inl (cI, 384, .inl (ia C_base))), ((a 22), .inl (cI, 384, .inl (ia C_wayEarly))), ((a 23), .inl (cI, 384, .inl (ia C_wayLate))), (o_N a N_period N_width N_size), ((a 46), .inl (cI, 144, .inl (ia N_source))), ((a 47), .inl (cI, 144, .inl (ia N_wireEarly))), ((a 48), .inl (cI, 144, .inl (ia N_wireLate)))]) sz) := by
  refine Met.ofW (cc := prog_3_method_13_code) (maxL := 5) (ret := (Option.none : Option Jvm.ClassFile.FieldType)) (by decide) rfl ?_
  intro p e s m args below meth c s₁ B hml hv
  obtain ⟨rfl, hsz, hP, hK, hD0, hN⟩ := hv
  have hx := B.exec
  have hb := B.bytes
  have hr := B.returns
  have hts := atoms_spec (ws := w_ClockWays_gather) B.pre
  have hown : s.vm.findClass R_ClockWays = some m.cls := findClass_of_methodNamed B.named
  have hlocks := B.notSynchronized
  subst hsz
  have hD := hD0.self (sz := s.heap.size)
  obtain ⟨A, hAe⟩ : ∃ A, A = va_A ([(o_C a C_size), ((a 12), .inl (cI, 770, .inl (ia C_elements))), ((a 13), .inl (cI, 770, .inl (ia C_parent))), ((a 15), .inl (cI, 770, .inl (ia C_early))), ((a 16), .inl (cI, 770, .inl (ia C_late))), ((a 17), .inl (cI, 96, .inl (ia C_firstOf))), ((a 18), .inl (cI, 770, .inl (ia C_nextOf))), ((a 19), .inl (cI, 48, .inl (ia C_count))), ((a 20), .inl (cI, 384, .inl (ia C_last))), ((a 21), .inl (cI, 384, .inl (ia C_base))), ((a 22), .inl (cI, 384, .inl (ia C_wayEarly))), ((a 23), .inl (cI, 384, .inl (ia C_wayLate))), (o_N a N_period N_width N_size), ((a 46), .inl (cI, 144, .inl (ia N_source))), ((a 47), .inl (cI, 144, .inl (ia N_wireEarly))), ((a 48), .inl (cI, 144, .inl (ia N_wireLate)))]) s.heap.size := ⟨_, rfl⟩
  rw [← hAe] at hD
  have hA : ∀ q : Nat, s.heap.size ≤ q → A q := fun q h => by rw [hAe]; exact Or.inr h
  have hS : va_S A s.heap s.heap [] := va_S.rf
  have hl := lv_entry ([.ref (a 10), .int (iI x1)]) (n := 5) (Nat.le_of_ble_eq_true rfl)
  rw [lg_entry_eq]
  generalize (lg_sl ([.ref (a 10), .int (iI x1)]) ++ List.replicate (5 - (lg_sl ([.ref (a 10), .int (iI x1)])).length) Slot.unset).toArray = ls at hl ⊢
  have hl : lv_has ls 5 [(0, .ref (a 10)), (1, .int (iI x1))] := hl
  generalize (List.toArray ([.ref (a 10), .int (iI x1)] : List Value)) = args at hts ⊢
  have hT : ∀ w ∈ Tg, w.before args s = true := fun w h => hts w (List.mem_cons_of_mem _ h)
  obtain ⟨Q, hQ⟩ : ∃ Q, Q = MQ below (QV D [(cI, .int), (cJ, .long), (cZ, .boolean)] ([(o_C a C_size), ((a 12), .inl (cI, 770, .inl (ia C_elements))), ((a 13), .inl (cI, 770, .inl (ia C_parent))), ((a 15), .inl (cI, 770, .inl (ia C_early))), ((a 16), .inl (cI, 770, .inl (ia C_late))), ((a 17), .inl (cI, 96, .inl (ia C_firstOf))), ((a 18), .inl (cI, 770, .inl (ia C_nextOf))), ((a 19), .inl (cI, 48, .inl (ia C_count))), ((a 20), .inl (cI, 384, .inl (ia C_last))), ((a 21), .inl (cI, 384, .inl (ia C_base))), ((a 22), .inl (cI, 384, .inl (ia C_wayEarly))), ((a 23), .inl (cI, 384, .inl (ia C_wayLate))), (o_N a N_period N_width N_size), ((a 46), .inl (cI, 144, .inl (ia N_source))), ((a 47), .inl (cI, 144, .inl (ia N_wireEarly))), ((a 48), .inl (cI, 144, .inl (ia N_wireLate)))]) s.heap.size ([(o_C a C_size), ((a 12), .inl (cI, 770, .inl (ia C_elements))), ((a 13), .inl (cI, 770, .inl (ia C_parent))), ((a 15), .inl (cI, 770, .inl (ia C_early))), ((a 16), .inl (cI, 770, .inl (ia C_late))), ((a 17), .inl (cI, 96, .inl (ia C_firstOf))), ((a 18), .inl (cI, 770, .inl (ia C_nextOf))), ((a 19), .inl (cI, 48, .inl (ia z_C_count))), ((a 20), .inl (cI, 384, .inl (ia z_C_last))), ((a 21), .inl (cI, 384, .inl (ia z_C_base))), ((a 22), .inl (cI, 384, .inl (ia z_C_wayEarly))), ((a 23), .inl (cI, 384, .inl (ia z_C_wayLate))), (o_N a N_period N_width N_size), ((a 46), .inl (cI, 144, .inl (ia N_source))), ((a 47), .inl (cI, 144, .inl (ia N_wireEarly))), ((a 48), .inl (cI, 144, .inl (ia N_wireLate)))])) args s 0 0 (va_A ([(o_C a C_size), ((a 12), .inl (cI, 770, .inl (ia C_elements))), ((a 13), .inl (cI, 770, .inl (ia C_parent))), ((a 15), .inl (cI, 770, .inl (ia C_early))), ((a 16), .inl (cI, 770, .inl (ia C_late))), ((a 17), .inl (cI, 96, .inl (ia C_firstOf))), ((a 18), .inl (cI, 770, .inl (ia C_nextOf))), ((a 19), .inl (cI, 48, .inl (ia C_count))), ((a 20), .inl (cI, 384, .inl (ia C_last))), ((a 21), .inl (cI, 384, .inl (ia C_base))), ((a 22), .inl (cI, 384, .inl (ia C_wayEarly))), ((a 23), .inl (cI, 384, .inl (ia C_wayLate))), (o_N a N_period N_width N_size), ((a 46), .inl (cI, 144, .inl (ia N_source))), ((a 47), .inl (cI, 144, .inl (ia N_wireEarly))), ((a 48), .inl (cI, 144, .inl (ia N_wireLate)))]) s.heap.size) := ⟨_, rfl⟩
  rw [← hQ]
  suffices hW : ∀ (H : Heap) (locs : List Loc), va_P D vwCl ([(o_C a C_size), ((a 12), .inl (cI, 770, .inl (ia C_elements))), ((a 13), .inl (cI, 770, .inl (ia C_parent))), ((a 15), .inl (cI, 770, .inl (ia C_early))), ((a 16), .inl (cI, 770, .inl (ia C_late))), ((a 17), .inl (cI, 96, .inl (ia C_firstOf))), ((a 18), .inl (cI, 770, .inl (ia C_nextOf))), ((a 19), .inl (cI, 48, .inl (ia C_count))), ((a 20), .inl (cI, 384, .inl (ia C_last))), ((a 21), .inl (cI, 384, .inl (ia C_base))), ((a 22), .inl (cI, 384, .inl (ia C_wayEarly))), ((a 23), .inl (cI, 384, .inl (ia C_wayLate))), (o_N a N_period N_width N_size), ((a 46), .inl (cI, 144, .inl (ia N_source))), ((a 47), .inl (cI, 144, .inl (ia N_wireEarly))), ((a 48), .inl (cI, 144, .inl (ia N_wireLate)))]) H → va_D A ([(o_C a C_size), ((a 12), .inl (cI, 770, .inl (ia C_elements))), ((a 13), .inl (cI, 770, .inl (ia C_parent))), ((a 15), .inl (cI, 770, .inl (ia C_early))), ((a 16), .inl (cI, 770, .inl (ia C_late))), ((a 17), .inl (cI, 96, .inl (ia C_firstOf))), ((a 18), .inl (cI, 770, .inl (ia C_nextOf))), ((a 19), .inl (cI, 48, .inl (ia C_count))), ((a 20), .inl (cI, 384, .inl (ia C_last))), ((a 21), .inl (cI, 384, .inl (ia C_base))), ((a 22), .inl (cI, 384, .inl (ia C_wayEarly))), ((a 23), .inl (cI, 384, .inl (ia C_wayLate))), (o_N a N_period N_width N_size), ((a 46), .inl (cI, 144, .inl (ia N_source))), ((a 47), .inl (cI, 144, .inl (ia N_wireEarly))), ((a 48), .inl (cI, 144, .inl (ia N_wireLate)))]) → va_S A s.heap H locs → W p l e (headSpec w_ClockWays_gather rm_ClockWays_gather).room s m args below meth c H locs 0 0 Q (F0 m 0 ls []) from hW s.heap [] hP hD hS
  clear hP hD hS
  intro H locs hP hD hS
  rw [f_ClockWays_gather] at h
  refine lv_iload_n hx hb d_ClockWays_gather_0 rfl (lv_at hl 1 rfl) ?_
  refine zv_iconst hx hb d_ClockWays_gather_1 ?_
  refine zv_imul hx hb d_ClockWays_gather_2 ?_
  refine zv_iconst hx hb d_ClockWays_gather_3 ?_
  refine zv_iadd hx hb d_ClockWays_gather_4 ?_
  refine zv_top (fun v2 hv => ?_)
  replace h := bd_e hv h
  refine lv_istore_n (lv' := [(2, .int (iI v2)), (0, .ref (a 10)), (1, .int (iI x1))]) hx hb d_ClockWays_gather_5 rfl hl (by decide) rfl (fun ls hl => ?_)
  refine lv_aload_n hx hb d_ClockWays_gather_6 rfl (lv_at hl 1 rfl) ?_
  refine va_get (D := D) (ci := 4) (v := .ref (a 43)) (C := R_ClockWays) (T := F_ClockWays) (N := 17) hx hb hT in_ClockWays hown hK hP 0 rfl rfl 0 (by decide) (hT _ m194) (fun _ h9 => h9) rfl d_ClockWays_gather_7 ?_
  refine va_get (D := D) (ci := 1) (v := .ref (a 46)) (C := R_Net) (T := F_Net) (N := 15) hx hb hT in_Net hown hK hP 12 rfl rfl 5 (by decide) (hT _ m66) (fun _ h9 => h9) rfl d_ClockWays_gather_10 ?_
  refine lv_iload_n hx hb d_ClockWays_gather_13 rfl (lv_at hl 0 rfl) ?_
  obtain ⟨hin, h⟩ := gi_e h
  refine zv_iald hx hb hK hP 13 0 rfl rfl (Nat.le_of_ble_eq_true rfl) hin d_ClockWays_gather_14 ?_
  obtain ⟨hg0, h⟩ := gr_e h
  refine zi_ge hx hb d_ClockWays_gather_15 rfl hg0 (fun hc => ?_) (fun hc => ?_)
  · replace h := if_t hc h
    refine lv_aload_n hx hb d_ClockWays_gather_19 rfl (lv_at hl 1 rfl) ?_
    refine va_get (D := D) (ci := 4) (v := .ref (a 17)) (C := R_ClockWays) (T := F_ClockWays) (N := 17) hx hb hT in_ClockWays hown hK hP 0 rfl rfl 10 (by decide) (hT _ m204) (fun _ h9 => h9) rfl d_ClockWays_gather_20 ?_
    refine zv_iconst hx hb d_ClockWays_gather_23 ?_
    refine lv_aload_n hx hb d_ClockWays_gather_24 rfl (lv_at hl 1 rfl) ?_
    refine va_get (D := D) (ci := 4) (v := .ref (a 43)) (C := R_ClockWays) (T := F_ClockWays) (N := 17) hx hb hT in_ClockWays hown hK hP 0 rfl rfl 0 (by decide) (hT _ m194) (fun _ h9 => h9) rfl d_ClockWays_gather_25 ?_
    refine va_get (D := D) (ci := 1) (v := .ref (a 46)) (C := R_Net) (T := F_Net) (N := 15) hx hb hT in_Net hown hK hP 12 rfl rfl 5 (by decide) (hT _ m66) (fun _ h9 => h9) rfl d_ClockWays_gather_28 ?_
    refine lv_iload_n hx hb d_ClockWays_gather_31 rfl (lv_at hl 0 rfl) ?_
    obtain ⟨hin, h⟩ := gi_e h
    refine zv_iald hx hb hK hP 13 0 rfl rfl (Nat.le_of_ble_eq_true rfl) hin d_ClockWays_gather_32 ?_
    refine zv_imul hx hb d_ClockWays_gather_33 ?_
    refine zv_iconst hx hb d_ClockWays_gather_34 ?_
    refine zv_iadd hx hb d_ClockWays_gather_35 ?_
    obtain ⟨hin, h⟩ := gi_e h
    refine zv_iald hx hb hK hP 5 0 rfl rfl (Nat.le_of_ble_eq_true rfl) hin d_ClockWays_gather_36 ?_
    refine zv_top (fun v3 hv => ?_)
    replace h := bd_e hv h
    refine lv_istore_n (lv' := [(3, .int (iI v3)), (2, .int (iI v2)), (0, .ref (a 10)), (1, .int (iI x1))]) hx hb d_ClockWays_gather_37 rfl hl (by decide) rfl (fun ls hl => ?_)
    refine zv_iconst hx hb d_ClockWays_gather_38 ?_
    refine lv_istore (lv' := [(4, .int (iI 0)), (3, .int (iI v3)), (2, .int (iI v2)), (0, .ref (a 10)), (1, .int (iI x1))]) hx hb d_ClockWays_gather_39 hl (by decide) rfl (fun ls hl => ?_)
    have hl41 : ∀ (nf : Nat) (v3_1 : Int) (v4 : Int) (C_count_2 : Int → Int) (C_last_3 : Int → Int) (C_base_4 : Int → Int) (C_wayEarly_5 : Int → Int) (C_wayLate_6 : Int → Int) (H : Heap) (locs : List Loc) (ls : Array Slot), va_P D vwCl [(o_C a C_size), ((a 12), .inl (cI, 770, .inl (ia C_elements))), ((a 13), .inl (cI, 770, .inl (ia C_parent))), ((a 15), .inl (cI, 770, .inl (ia C_early))), ((a 16), .inl (cI, 770, .inl (ia C_late))), ((a 17), .inl (cI, 96, .inl (ia C_firstOf))), ((a 18), .inl (cI, 770, .inl (ia C_nextOf))), ((a 19), .inl (cI, 48, .inl (ia C_count_2))), ((a 20), .inl (cI, 384, .inl (ia C_last_3))), ((a 21), .inl (cI, 384, .inl (ia C_base_4))), ((a 22), .inl (cI, 384, .inl (ia C_wayEarly_5))), ((a 23), .inl (cI, 384, .inl (ia C_wayLate_6))), (o_N a N_period N_width N_size), ((a 46), .inl (cI, 144, .inl (ia N_source))), ((a 47), .inl (cI, 144, .inl (ia N_wireEarly))), ((a 48), .inl (cI, 144, .inl (ia N_wireLate)))] H → va_D A [(o_C a C_size), ((a 12), .inl (cI, 770, .inl (ia C_elements))), ((a 13), .inl (cI, 770, .inl (ia C_parent))), ((a 15), .inl (cI, 770, .inl (ia C_early))), ((a 16), .inl (cI, 770, .inl (ia C_late))), ((a 17), .inl (cI, 96, .inl (ia C_firstOf))), ((a 18), .inl (cI, 770, .inl (ia C_nextOf))), ((a 19), .inl (cI, 48, .inl (ia C_count_2))), ((a 20), .inl (cI, 384, .inl (ia C_last_3))), ((a 21), .inl (cI, 384, .inl (ia C_base_4))), ((a 22), .inl (cI, 384, .inl (ia C_wayEarly_5))), ((a 23), .inl (cI, 384, .inl (ia C_wayLate_6))), (o_N a N_period N_width N_size), ((a 46), .inl (cI, 144, .inl (ia N_source))), ((a 47), .inl (cI, 144, .inl (ia N_wireEarly))), ((a 48), .inl (cI, 144, .inl (ia N_wireLate)))] → va_S A s.heap H locs → lv_has ls 5 [(0, .ref (a 10)), (1, .int (iI x1)), (2, .int (iI v2)), (3, .int (iI v3_1)), (4, .int (iI v4))] → lq7 (f_ClockWays_gather_b41 F C_elements C_parent C_early C_late C_nextOf N_width N_wireEarly N_wireLate x1 v2) nf v3_1 v4 C_count_2 C_last_3 C_base_4 C_wayEarly_5 C_wayLate_6 = some (z_C_count, z_C_last, z_C_base, z_C_wayEarly, z_C_wayLate) → W p l e (headSpec w_ClockWays_gather rm_ClockWays_gather).room s m args below meth c H locs 0 0 Q (F0 m 41 ls []) := by
      intro n41
      induction n41 with
      | zero => intro v3_1 v4 C_count_2 C_last_3 C_base_4 C_wayEarly_5 C_wayLate_6 H locs ls hP hD hS hl h; exact no_some h
      | succ n41 ih41 =>
        intro v3_1 v4 C_count_2 C_last_3 C_base_4 C_wayEarly_5 C_wayLate_6 H locs ls hP hD hS hl h
        replace h : f_ClockWays_gather_b41 F C_elements C_parent C_early C_late C_nextOf N_width N_wireEarly N_wireLate x1 v2 (lq7 (f_ClockWays_gather_b41 F C_elements C_parent C_early C_late C_nextOf N_width N_wireEarly N_wireLate x1 v2) n41) v3_1 v4 C_count_2 C_last_3 C_base_4 C_wayEarly_5 C_wayLate_6 = some (z_C_count, z_C_last, z_C_base, z_C_wayEarly, z_C_wayLate) := h
        obtain ⟨self41, hs41⟩ : ∃ z, z = lq7 (f_ClockWays_gather_b41 F C_elements C_parent C_early C_late C_nextOf N_width N_wireEarly N_wireLate x1 v2) n41 := ⟨_, rfl⟩
        rw [← hs41] at h ih41
        rw [f_ClockWays_gather_b41] at h
        refine lv_iload hx hb d_ClockWays_gather_41 (lv_at hl 4 rfl) ?_
        refine lv_bipush (v := iI 8) hx hb d_ClockWays_gather_43 (by decide) ?_
        obtain ⟨hg0, h⟩ := gr_e h
        refine zc_ge hx hb d_ClockWays_gather_45 rfl hg0 (by decide) (fun hc => ?_) (fun hc => ?_)
        · replace h := if_t hc h
          obtain ⟨e1, e2, e3, e4, e5⟩ := so5 h
          rw [hQ, e1, e2, e3, e4, e5]; rw [hAe] at hD hS; exact W.vret hx hb hr (fun t ht hW => ⟨⟨(), rfl, trivial, by rw [ht]; exact hP, va_K.moved hW.alike hK, hD⟩, hS.F ht⟩) hS.2.2 d_ClockWays_gather_108
        · replace h := if_f hc h
          refine lv_iload_n hx hb d_ClockWays_gather_48 rfl (lv_at hl 3 rfl) ?_
          obtain ⟨hg0, h⟩ := gr_e h
          refine zi_lt hx hb d_ClockWays_gather_49 rfl hg0 (fun hc => ?_) (fun hc => ?_)
          · replace h := if_t hc h
            obtain ⟨e1, e2, e3, e4, e5⟩ := so5 h
            rw [hQ, e1, e2, e3, e4, e5]; rw [hAe] at hD hS; exact W.vret hx hb hr (fun t ht hW => ⟨⟨(), rfl, trivial, by rw [ht]; exact hP, va_K.moved hW.alike hK, hD⟩, hS.F ht⟩) hS.2.2 d_ClockWays_gather_108
          · replace h := if_f hc h
            refine lv_aload_n hx hb d_ClockWays_gather_52 rfl (lv_at hl 0 rfl) ?_
            refine lv_iload_n hx hb d_ClockWays_gather_53 rfl (lv_at hl 1 rfl) ?_
            refine lv_iload_n hx hb d_ClockWays_gather_54 rfl (lv_at hl 3 rfl) ?_
            refine lv_aload_n hx hb d_ClockWays_gather_55 rfl (lv_at hl 0 rfl) ?_
            refine lv_iload_n hx hb d_ClockWays_gather_56 rfl (lv_at hl 3 rfl) ?_
            obtain ⟨r57, hcall, h⟩ := ob1_e h
            refine ro_i (va_Run.run (va_runV (As := [.int (iI v3_1)]) (rest := [.int (iI v3_1), .int (iI x1), .ref (a 10)]) ⟨hx, hb, hml, hown, hts⟩ (c_ClockWays_baseOf l D cI cJ cZ F a C_size C_elements C_parent N_period N_width N_size v3_1 r57 H.size hcall) (cwV 1 hts (gd_V m553 m550 m552 sl_ClockWays_baseOf m5) rfl rfl rfl ⟨rfl, hc_ClockWays_baseOf⟩ ⟨Nat.le_of_ble_eq_true rfl, Nat.le_of_ble_eq_true rfl⟩) (pc_V 0 4 [.int (iI v3_1)] hP hK hD hN [0, 1, 2, 12] rfl rfl rfl rfl rfl) rfl rfl hl.1 rfl (lv_room (Nat.le_of_ble_eq_true rfl)) d_ClockWays_gather_57 ⟨Nat.le_refl 0, Nat.le_refl 0⟩)) (W.eq (g2 := F0 m 60 ls [.int (iI r57), .int (iI v3_1), .int (iI x1), .ref (a 10)]) rfl ?_)
            refine lv_aload_n hx hb d_ClockWays_gather_60 rfl (lv_at hl 0 rfl) ?_
            refine va_get (D := D) (ci := 4) (v := .ref (a 15)) (C := R_ClockWays) (T := F_ClockWays) (N := 17) hx hb hT in_ClockWays hown hK hP 0 rfl rfl 8 (by decide) (hT _ m202) (fun _ h9 => h9) rfl d_ClockWays_gather_61 ?_
            refine lv_iload_n hx hb d_ClockWays_gather_64 rfl (lv_at hl 3 rfl) ?_
            obtain ⟨hin, h⟩ := gi_e h
            refine zv_iald hx hb hK hP 3 0 rfl rfl (Nat.le_of_ble_eq_true rfl) hin d_ClockWays_gather_65 ?_
            refine lv_aload_n hx hb d_ClockWays_gather_66 rfl (lv_at hl 0 rfl) ?_
            refine va_get (D := D) (ci := 4) (v := .ref (a 43)) (C := R_ClockWays) (T := F_ClockWays) (N := 17) hx hb hT in_ClockWays hown hK hP 0 rfl rfl 0 (by decide) (hT _ m194) (fun _ h9 => h9) rfl d_ClockWays_gather_67 ?_
            refine va_get (D := D) (ci := 1) (v := .ref (a 47)) (C := R_Net) (T := F_Net) (N := 15) hx hb hT in_Net hown hK hP 12 rfl rfl 6 (by decide) (hT _ m73) (fun _ h9 => h9) rfl d_ClockWays_gather_70 ?_
            refine lv_iload_n hx hb d_ClockWays_gather_73 rfl (lv_at hl 2 rfl) ?_
            obtain ⟨hin, h⟩ := gi_e h
            refine zv_iald hx hb hK hP 14 0 rfl rfl (Nat.le_of_ble_eq_true rfl) hin d_ClockWays_gather_74 ?_
            refine zv_iadd hx hb d_ClockWays_gather_75 ?_
            refine lv_aload_n hx hb d_ClockWays_gather_76 rfl (lv_at hl 0 rfl) ?_
            refine va_get (D := D) (ci := 4) (v := .ref (a 16)) (C := R_ClockWays) (T := F_ClockWays) (N := 17) hx hb hT in_ClockWays hown hK hP 0 rfl rfl 9 (by decide) (hT _ m203) (fun _ h9 => h9) rfl d_ClockWays_gather_77 ?_
            refine lv_iload_n hx hb d_ClockWays_gather_80 rfl (lv_at hl 3 rfl) ?_
            obtain ⟨hin, h⟩ := gi_e h
            refine zv_iald hx hb hK hP 4 0 rfl rfl (Nat.le_of_ble_eq_true rfl) hin d_ClockWays_gather_81 ?_
            refine lv_aload_n hx hb d_ClockWays_gather_82 rfl (lv_at hl 0 rfl) ?_
            refine va_get (D := D) (ci := 4) (v := .ref (a 43)) (C := R_ClockWays) (T := F_ClockWays) (N := 17) hx hb hT in_ClockWays hown hK hP 0 rfl rfl 0 (by decide) (hT _ m194) (fun _ h9 => h9) rfl d_ClockWays_gather_83 ?_
            refine va_get (D := D) (ci := 1) (v := .ref (a 48)) (C := R_Net) (T := F_Net) (N := 15) hx hb hT in_Net hown hK hP 12 rfl rfl 7 (by decide) (hT _ m78) (fun _ h9 => h9) rfl d_ClockWays_gather_86 ?_
            refine lv_iload_n hx hb d_ClockWays_gather_89 rfl (lv_at hl 2 rfl) ?_
            obtain ⟨hin, h⟩ := gi_e h
            refine zv_iald hx hb hK hP 15 0 rfl rfl (Nat.le_of_ble_eq_true rfl) hin d_ClockWays_gather_90 ?_
            refine zv_iadd hx hb d_ClockWays_gather_91 ?_
            obtain ⟨C_count_7, C_last_8, C_base_9, C_wayEarly_10, C_wayLate_11, hcall, h⟩ := ob5_e h
            refine ca_v (w2 := [(o_C a C_size), ((a 12), .inl (cI, 770, .inl (ia C_elements))), ((a 13), .inl (cI, 770, .inl (ia C_parent))), ((a 15), .inl (cI, 770, .inl (ia C_early))), ((a 16), .inl (cI, 770, .inl (ia C_late))), ((a 17), .inl (cI, 96, .inl (ia C_firstOf))), ((a 18), .inl (cI, 770, .inl (ia C_nextOf))), ((a 19), .inl (cI, 48, .inl (ia C_count_7))), ((a 20), .inl (cI, 384, .inl (ia C_last_8))), ((a 21), .inl (cI, 384, .inl (ia C_base_9))), ((a 22), .inl (cI, 384, .inl (ia C_wayEarly_10))), ((a 23), .inl (cI, 384, .inl (ia C_wayLate_11))), (o_N a N_period N_width N_size), ((a 46), .inl (cI, 144, .inl (ia N_source))), ((a 47), .inl (cI, 144, .inl (ia N_wireEarly))), ((a 48), .inl (cI, 144, .inl (ia N_wireLate)))]) (va_runV (As := [.int (iI x1), .int (iI v3_1), .int (iI r57), .int (iI ((C_early v3_1) + (N_wireEarly v2))), .int (iI ((C_late v3_1) + (N_wireLate v2)))]) (rest := []) ⟨hx, hb, hml, hown, hts⟩ (c_ClockWays_addWay l D cI cJ cZ F a C_size C_count_2 C_last_3 C_base_4 C_wayEarly_5 C_wayLate_6 x1 v3_1 r57 ((C_early v3_1) + (N_wireEarly v2)) ((C_late v3_1) + (N_wireLate v2)) C_count_7 C_last_8 C_base_9 C_wayEarly_10 C_wayLate_11 H.size hcall) (cwV 5 hts (gd_V m557 m554 m556 sl_ClockWays_addWay m5) rfl rfl rfl ⟨rfl, hc_ClockWays_addWay⟩ ⟨Nat.le_of_ble_eq_true rfl, Nat.le_of_ble_eq_true rfl⟩) (pc_V 0 4 [.int (iI x1), .int (iI v3_1), .int (iI r57), .int (iI ((C_early v3_1) + (N_wireEarly v2))), .int (iI ((C_late v3_1) + (N_wireLate v2)))] hP hK hD hN [0, 7, 8, 9, 10, 11] rfl rfl rfl rfl rfl) rfl rfl hl.1 rfl (lv_room (Nat.le_of_ble_eq_true rfl)) d_ClockWays_gather_92 ⟨Nat.le_refl 0, Nat.le_refl 0⟩) hP hD hS hA [0, 7, 8, 9, 10, 11] [1, 2, 3, 4, 5, 6, 12, 13, 14, 15] [10, 0, 1, 2, 3, 4, 5, 11, 12, 13, 14, 15, 6, 7, 8, 9] rfl rfl rfl (by decide) rfl rfl rfl (fun H locs hP hD hS => ?_)
            refine lv_aload_n hx hb d_ClockWays_gather_95 rfl (lv_at hl 0 rfl) ?_
            refine va_get (D := D) (ci := 4) (v := .ref (a 18)) (C := R_ClockWays) (T := F_ClockWays) (N := 17) hx hb hT in_ClockWays hown hK hP 0 rfl rfl 11 (by decide) (hT _ m205) (fun _ h9 => h9) rfl d_ClockWays_gather_96 ?_
            refine lv_iload_n hx hb d_ClockWays_gather_99 rfl (lv_at hl 3 rfl) ?_
            obtain ⟨hin, h⟩ := gi_e h
            refine zv_iald hx hb hK hP 6 0 rfl rfl (Nat.le_of_ble_eq_true rfl) hin d_ClockWays_gather_100 ?_
            refine zv_top (fun v3_12 hv => ?_)
            replace h := bd_e hv h
            refine lv_istore_n (lv' := [(3, .int (iI v3_12)), (0, .ref (a 10)), (1, .int (iI x1)), (2, .int (iI v2)), (4, .int (iI v4))]) hx hb d_ClockWays_gather_101 rfl hl (by decide) rfl (fun ls hl => ?_)
            refine lv_iinc (v := iI (v4 + 1)) (k := 4) (lv' := [(4, .int (iI (v4 + 1))), (3, .int (iI v3_12)), (0, .ref (a 10)), (1, .int (iI x1)), (2, .int (iI v2))]) hx hb d_ClockWays_gather_102 hl rfl (iI_add _ _) (by decide) rfl (fun ls hl => ?_)
            refine lv_goto hx hb d_ClockWays_gather_105 rfl ?_
            exact ih41 v3_12 (v4 + 1) C_count_7 C_last_8 C_base_9 C_wayEarly_10 C_wayLate_11 H locs ls hP hD hS (lv_sub hl [2, 3, 4, 1, 0] rfl) h
    exact hl41 F v3 0 C_count C_last C_base C_wayEarly C_wayLate H locs ls hP hD hS (lv_sub hl [3, 4, 2, 1, 0] rfl) h
  · replace h := if_f hc h
    obtain ⟨e1, e2, e3, e4, e5⟩ := so5 h
    rw [hQ, e1, e2, e3, e4, e5]; rw [hAe] at hD hS; exact W.vret hx hb hr (fun t ht hW => ⟨⟨(), rfl, trivial, by rw [ht]; exact hP, va_K.moved hW.alike hK, hD⟩, hS.F ht⟩) hS.2.2 d_ClockWays_gather_18
abbrev rm_ClockWays_find : Room := { frames := 5, cells := 0, slots := 0, locals := 120 }
set_option maxHeartbeats 4000000 in
set_option maxRecDepth 100000 in
theorem c_ClockWays_find (l : Launch) (D : va_G) (cI cJ cZ : ClassId) (F : Nat) (a : Nat → Nat) (C_size : Int) (C_needed : Int → Int) (C_elements : Int → Int) (C_parent : Int → Int) (C_length : Int → Int) (C_early : Int → Int) (C_late : Int → Int) (C_firstOf : Int → Int) (C_nextOf : Int → Int) (C_count : Int → Int) (C_last : Int → Int) (C_base : Int → Int) (C_wayEarly : Int → Int) (C_wayLate : Int → Int) (K_count : Int → Int) (K_early : Int → Int) (K_late : Int → Int) (O_count : Int) (O_gates : Int → Int) (N_period : Int) (N_width : Int) (N_size : Int) (N_kind : Int → Int) (N_pins : Int → Int) (N_source : Int → Int) (N_wireEarly : Int → Int) (N_wireLate : Int → Int) (N_senses : Int → Int) (N_gateEarly : Int → Int) (N_gateLate : Int → Int) (r : Int) (z_C_needed : Int → Int) (z_C_size : Int) (z_C_elements : Int → Int) (z_C_parent : Int → Int) (z_C_length : Int → Int) (z_C_early : Int → Int) (z_C_late : Int → Int) (z_C_firstOf : Int → Int) (z_C_nextOf : Int → Int) (z_C_count : Int → Int) (z_C_last : Int → Int) (z_C_base : Int → Int) (z_C_wayEarly : Int → Int) (z_C_wayLate : Int → Int) (z_K_count : Int → Int) (z_K_early : Int → Int) (z_K_late : Int → Int) (sz : Nat) (h : f_ClockWays_find F C_size C_needed C_elements C_parent C_length C_early C_late C_firstOf C_nextOf C_count C_last C_base C_wayEarly C_wayLate K_count K_early K_late O_count O_gates N_width N_size N_kind N_pins N_source N_wireEarly N_wireLate N_senses N_gateEarly N_gateLate = some (r, z_C_needed, z_C_size, z_C_elements, z_C_parent, z_C_length, z_C_early, z_C_late, z_C_firstOf, z_C_nextOf, z_C_count, z_C_last, z_C_base, z_C_wayEarly, z_C_wayLate, z_K_count, z_K_early, z_K_late)) : Met l y_ClockWays_find w_ClockWays_find rm_ClockWays_find (PC D [(cI, .int), (cJ, .long), (cZ, .boolean)] [.ref (a 10)] ([(o_C a C_size), ((a 11), .inl (cZ, 96, .inl (ia C_needed))), ((a 12), .inl (cI, 770, .inl (ia C_elements))), ((a 13), .inl (cI, 770, .inl (ia C_parent))), ((a 14), .inl (cI, 770, .inl (ia C_length))), ((a 15), .inl (cI, 770, .inl (ia C_early))), ((a 16), .inl (cI, 770, .inl (ia C_late))), ((a 17), .inl (cI, 96, .inl (ia C_firstOf))), ((a 18), .inl (cI, 770, .inl (ia C_nextOf))), ((a 19), .inl (cI, 48, .inl (ia C_count))), ((a 20), .inl (cI, 384, .inl (ia C_last))), ((a 21), .inl (cI, 384, .inl (ia C_base))), ((a 22), .inl (cI, 384, .inl (ia C_wayEarly))), ((a 23), .inl (cI, 384, .inl (ia C_wayLate))), (o_K a), ((a 25), .inl (cI, 96, .inl (ia K_count))), ((a 26), .inl (cI, 96, .inl (ia K_early))), ((a 27), .inl (cI, 96, .inl (ia K_late))), (o_O a O_count), ((a 42), .inl (cI, 48, .inl (ia O_gates))), (o_N a N_period N_width N_size), ((a 44), .inl (cI, 48, .inl (ia N_kind))), ((a 45), .inl (cI, 48, .inl (ia N_pins))), ((a 46), .inl (cI, 144, .inl (ia N_source))), ((a 47), .inl (cI, 144, .inl (ia N_wireEarly))), ((a 48), .inl (cI, 144, .inl (ia N_wireLate))), ((a 49), .inl (cI, 144, .inl (ia N_senses))), ((a 50), .inl (cI, 288, .inl (ia N_gateEarly))), ((a 51), .inl (cI, 288, .inl (ia N_gateLate)))]) sz) (QI D [(cI, .int), (cJ, .long), (cZ, .boolean)] ([(o_C a C_size), ((a 11), .inl (cZ, 96, .inl (ia C_needed))), ((a 12), .inl (cI, 770, .inl (ia C_elements))), ((a 13), .inl (cI, 770, .inl (ia C_parent))), ((a 14), .inl (cI, 770, .inl (ia C_length))), ((a 15), .inl (cI, 770, .inl (ia C_early))), ((a 16), .inl (cI, 770, .inl (ia C_late))), ((a 17), .inl (cI, 96, .inl (ia C_firstOf))), ((a 18), .inl (cI, 770, .inl (ia C_nextOf))), ((a 19), .inl (cI, 48, .inl (ia C_count))), ((a 20), .inl (cI, 384, .inl (ia C_last))), ((a 21), .inl (cI, 384, .inl (ia C_base))), ((a 22), .inl (cI, 384, .inl (ia C_wayEarly))), ((a 23), .inl (cI, 384, .inl (ia C_wayLate))), (o_K a), ((a 25), .inl (cI, 96, .inl (ia K_count))), ((a 26), .inl (cI, 96, .inl (ia K_early))), ((a 27), .inl (cI, 96, .inl (ia K_late))), (o_O a O_count), ((a 42), .inl (cI, 48, .inl (ia O_gates))), (o_N a N_period N_width N_size), ((a 44), .inl (cI, 48, .inl (ia N_kind))), ((a 45), .inl (cI, 48, .inl (ia N_pins))), ((a 46), .inl (cI, 144, .inl (ia N_source))), ((a 47), .inl (cI, 144, .inl (ia N_wireEarly))), ((a 48), .inl (cI, 144, .inl (ia N_wireLate))), ((a 49), .inl (cI, 144, .inl (ia N_senses))), ((a 50), .inl (cI, 288, .inl (ia N_gateEarly))), ((a 51), .inl (cI, 288, .inl (ia N_gateLate)))]) sz r ([(o_C a z_C_size), ((a 11), .inl (cZ, 96, .inl (ia z_C_needed))), ((a 12), .inl (cI, 770, .inl (ia z_C_elements))), ((a 13), .inl (cI, 770, .inl (ia z_C_parent))), ((a 14), .inl (cI, 770, .inl (ia z_C_length))), ((a 15), .inl (cI, 770, .inl (ia z_C_early))), ((a 16), .inl (cI, 770, .inl (ia z_C_late))), ((a 17), .inl (cI, 96, .inl (ia z_C_firstOf))), ((a 18), .inl (cI, 770, .inl (ia z_C_nextOf))), ((a 19), .inl (cI, 48, .inl (ia z_C_count))), ((a 20), .inl (cI, 384, .inl (ia z_C_last))), ((a 21), .inl (cI, 384, .inl (ia z_C_base))), ((a 22), .inl (cI, 384, .inl (ia z_C_wayEarly))), ((a 23), .inl (cI, 384, .inl (ia z_C_wayLate))), (o_K a), ((a 25), .inl (cI, 96, .inl (ia z_K_count))), ((a 26), .inl (cI, 96, .inl (ia z_K_early))), ((a 27), .inl (cI, 96, .inl (ia z_K_late))), (o_O a O_count), ((a 42), .inl (cI, 48, .inl (ia O_gates))), (o_N a N_period N_width N_size), ((a 44), .inl (cI, 48, .inl (ia N_kind))), ((a 45), .inl (cI, 48, .inl (ia N_pins))), ((a 46), .inl (cI, 144, .inl (ia N_source))), ((a 47), .inl (cI, 144, .inl (ia N_wireEarly))), ((a 48), .inl (cI, 144, .inl (ia N_wireLate))), ((a 49), .inl (cI, 144, .inl (ia N_senses))), ((a 50), .inl (cI, 288, .inl (ia N_gateEarly))), ((a 51), .inl (cI, 288, .inl (ia N_gateLate)))])) 0 0 (va_A ([(o_C a C_size), ((a 11), .inl (cZ, 96, .inl (ia C_needed))), ((a 12), .inl (cI, 770, .inl (ia C_elements))), ((a 13), .inl (cI, 770, .inl (ia C_parent))), ((a 14), .inl (cI, 770, .inl (ia C_length))), ((a 15), .inl (cI, 770, .inl (ia C_early))), ((a 16), .inl (cI, 770, .inl (ia C_late))), ((a 17), .inl (cI, 96, .inl (ia C_firstOf))), ((a 18), .inl (cI, 770, .inl (ia C_nextOf))), ((a 19), .inl (cI, 48, .inl (ia C_count))), ((a 20), .inl (cI, 384, .inl (ia C_last))), ((a 21), .inl (cI, 384, .inl (ia C_base))), ((a 22), .inl (cI, 384, .inl (ia C_wayEarly))), ((a 23), .inl (cI, 384, .inl (ia C_wayLate))), (o_K a), ((a 25), .inl (cI, 96, .inl (ia K_count))), ((a 26), .inl (cI, 96, .inl (ia K_early))), ((a 27), .inl (cI, 96, .inl (ia K_late))), (o_O a O_count), ((a 42), .inl (cI, 48, .inl (ia O_gates))), (o_N a N_period N_width N_size), ((a 44), .inl (cI, 48, .inl (ia N_kind))), ((a 45), .inl (cI, 48, .inl (ia N_pins))), ((a 46), .inl (cI, 144, .inl (ia N_source))), ((a 47), .inl (cI, 144, .inl (ia N_wireEarly))), ((a 48), .inl (cI, 144, .inl (ia N_wireLate))), ((a 49), .inl (cI, 144, .inl (ia N_senses))), ((a 50), .inl (cI, 288, .inl (ia N_gateEarly))), ((a 51), .inl (cI, 288, .inl (ia N_gateLate)))]) sz) := by
  refine Met.ofW (cc := prog_3_method_2_code) (maxL := 2) (ret := (Option.some Jvm.ClassFile.FieldType.boolean)) (by decide) rfl ?_
  intro p e s m args below meth c s₁ B hml hv
  obtain ⟨rfl, hsz, hP, hK, hD0, hN⟩ := hv
  have hx := B.exec
  have hb := B.bytes
  have hr := B.returns
  have hts := atoms_spec (ws := w_ClockWays_find) B.pre
  have hown : s.vm.findClass R_ClockWays = some m.cls := findClass_of_methodNamed B.named
  have hlocks := B.notSynchronized
  subst hsz
  have hD := hD0.self (sz := s.heap.size)
  obtain ⟨A, hAe⟩ : ∃ A, A = va_A ([(o_C a C_size), ((a 11), .inl (cZ, 96, .inl (ia C_needed))), ((a 12), .inl (cI, 770, .inl (ia C_elements))), ((a 13), .inl (cI, 770, .inl (ia C_parent))), ((a 14), .inl (cI, 770, .inl (ia C_length))), ((a 15), .inl (cI, 770, .inl (ia C_early))), ((a 16), .inl (cI, 770, .inl (ia C_late))), ((a 17), .inl (cI, 96, .inl (ia C_firstOf))), ((a 18), .inl (cI, 770, .inl (ia C_nextOf))), ((a 19), .inl (cI, 48, .inl (ia C_count))), ((a 20), .inl (cI, 384, .inl (ia C_last))), ((a 21), .inl (cI, 384, .inl (ia C_base))), ((a 22), .inl (cI, 384, .inl (ia C_wayEarly))), ((a 23), .inl (cI, 384, .inl (ia C_wayLate))), (o_K a), ((a 25), .inl (cI, 96, .inl (ia K_count))), ((a 26), .inl (cI, 96, .inl (ia K_early))), ((a 27), .inl (cI, 96, .inl (ia K_late))), (o_O a O_count), ((a 42), .inl (cI, 48, .inl (ia O_gates))), (o_N a N_period N_width N_size), ((a 44), .inl (cI, 48, .inl (ia N_kind))), ((a 45), .inl (cI, 48, .inl (ia N_pins))), ((a 46), .inl (cI, 144, .inl (ia N_source))), ((a 47), .inl (cI, 144, .inl (ia N_wireEarly))), ((a 48), .inl (cI, 144, .inl (ia N_wireLate))), ((a 49), .inl (cI, 144, .inl (ia N_senses))), ((a 50), .inl (cI, 288, .inl (ia N_gateEarly))), ((a 51), .inl (cI, 288, .inl (ia N_gateLate)))]) s.heap.size := ⟨_, rfl⟩
  rw [← hAe] at hD
  have hA : ∀ q : Nat, s.heap.size ≤ q → A q := fun q h => by rw [hAe]; exact Or.inr h
  have hS : va_S A s.heap s.heap [] := va_S.rf
  have hl := lv_entry ([.ref (a 10)]) (n := 2) (Nat.le_of_ble_eq_true rfl)
  rw [lg_entry_eq]
  generalize (lg_sl ([.ref (a 10)]) ++ List.replicate (2 - (lg_sl ([.ref (a 10)])).length) Slot.unset).toArray = ls at hl ⊢
  have hl : lv_has ls 2 [(0, .ref (a 10))] := hl
  generalize (List.toArray ([.ref (a 10)] : List Value)) = args at hts ⊢
  have hT : ∀ w ∈ Tg, w.before args s = true := fun w h => hts w (List.mem_cons_of_mem _ h)
  obtain ⟨Q, hQ⟩ : ∃ Q, Q = MQ below (QI D [(cI, .int), (cJ, .long), (cZ, .boolean)] ([(o_C a C_size), ((a 11), .inl (cZ, 96, .inl (ia C_needed))), ((a 12), .inl (cI, 770, .inl (ia C_elements))), ((a 13), .inl (cI, 770, .inl (ia C_parent))), ((a 14), .inl (cI, 770, .inl (ia C_length))), ((a 15), .inl (cI, 770, .inl (ia C_early))), ((a 16), .inl (cI, 770, .inl (ia C_late))), ((a 17), .inl (cI, 96, .inl (ia C_firstOf))), ((a 18), .inl (cI, 770, .inl (ia C_nextOf))), ((a 19), .inl (cI, 48, .inl (ia C_count))), ((a 20), .inl (cI, 384, .inl (ia C_last))), ((a 21), .inl (cI, 384, .inl (ia C_base))), ((a 22), .inl (cI, 384, .inl (ia C_wayEarly))), ((a 23), .inl (cI, 384, .inl (ia C_wayLate))), (o_K a), ((a 25), .inl (cI, 96, .inl (ia K_count))), ((a 26), .inl (cI, 96, .inl (ia K_early))), ((a 27), .inl (cI, 96, .inl (ia K_late))), (o_O a O_count), ((a 42), .inl (cI, 48, .inl (ia O_gates))), (o_N a N_period N_width N_size), ((a 44), .inl (cI, 48, .inl (ia N_kind))), ((a 45), .inl (cI, 48, .inl (ia N_pins))), ((a 46), .inl (cI, 144, .inl (ia N_source))), ((a 47), .inl (cI, 144, .inl (ia N_wireEarly))), ((a 48), .inl (cI, 144, .inl (ia N_wireLate))), ((a 49), .inl (cI, 144, .inl (ia N_senses))), ((a 50), .inl (cI, 288, .inl (ia N_gateEarly))), ((a 51), .inl (cI, 288, .inl (ia N_gateLate)))]) s.heap.size r ([(o_C a z_C_size), ((a 11), .inl (cZ, 96, .inl (ia z_C_needed))), ((a 12), .inl (cI, 770, .inl (ia z_C_elements))), ((a 13), .inl (cI, 770, .inl (ia z_C_parent))), ((a 14), .inl (cI, 770, .inl (ia z_C_length))), ((a 15), .inl (cI, 770, .inl (ia z_C_early))), ((a 16), .inl (cI, 770, .inl (ia z_C_late))), ((a 17), .inl (cI, 96, .inl (ia z_C_firstOf))), ((a 18), .inl (cI, 770, .inl (ia z_C_nextOf))), ((a 19), .inl (cI, 48, .inl (ia z_C_count))), ((a 20), .inl (cI, 384, .inl (ia z_C_last))), ((a 21), .inl (cI, 384, .inl (ia z_C_base))), ((a 22), .inl (cI, 384, .inl (ia z_C_wayEarly))), ((a 23), .inl (cI, 384, .inl (ia z_C_wayLate))), (o_K a), ((a 25), .inl (cI, 96, .inl (ia z_K_count))), ((a 26), .inl (cI, 96, .inl (ia z_K_early))), ((a 27), .inl (cI, 96, .inl (ia z_K_late))), (o_O a O_count), ((a 42), .inl (cI, 48, .inl (ia O_gates))), (o_N a N_period N_width N_size), ((a 44), .inl (cI, 48, .inl (ia N_kind))), ((a 45), .inl (cI, 48, .inl (ia N_pins))), ((a 46), .inl (cI, 144, .inl (ia N_source))), ((a 47), .inl (cI, 144, .inl (ia N_wireEarly))), ((a 48), .inl (cI, 144, .inl (ia N_wireLate))), ((a 49), .inl (cI, 144, .inl (ia N_senses))), ((a 50), .inl (cI, 288, .inl (ia N_gateEarly))), ((a 51), .inl (cI, 288, .inl (ia N_gateLate)))])) args s 0 0 (va_A ([(o_C a C_size), ((a 11), .inl (cZ, 96, .inl (ia C_needed))), ((a 12), .inl (cI, 770, .inl (ia C_elements))), ((a 13), .inl (cI, 770, .inl (ia C_parent))), ((a 14), .inl (cI, 770, .inl (ia C_length))), ((a 15), .inl (cI, 770, .inl (ia C_early))), ((a 16), .inl (cI, 770, .inl (ia C_late))), ((a 17), .inl (cI, 96, .inl (ia C_firstOf))), ((a 18), .inl (cI, 770, .inl (ia C_nextOf))), ((a 19), .inl (cI, 48, .inl (ia C_count))), ((a 20), .inl (cI, 384, .inl (ia C_last))), ((a 21), .inl (cI, 384, .inl (ia C_base))), ((a 22), .inl (cI, 384, .inl (ia C_wayEarly))), ((a 23), .inl (cI, 384, .inl (ia C_wayLate))), (o_K a), ((a 25), .inl (cI, 96, .inl (ia K_count))), ((a 26), .inl (cI, 96, .inl (ia K_early))), ((a 27), .inl (cI, 96, .inl (ia K_late))), (o_O a O_count), ((a 42), .inl (cI, 48, .inl (ia O_gates))), (o_N a N_period N_width N_size), ((a 44), .inl (cI, 48, .inl (ia N_kind))), ((a 45), .inl (cI, 48, .inl (ia N_pins))), ((a 46), .inl (cI, 144, .inl (ia N_source))), ((a 47), .inl (cI, 144, .inl (ia N_wireEarly))), ((a 48), .inl (cI, 144, .inl (ia N_wireLate))), ((a 49), .inl (cI, 144, .inl (ia N_senses))), ((a 50), .inl (cI, 288, .inl (ia N_gateEarly))), ((a 51), .inl (cI, 288, .inl (ia N_gateLate)))]) s.heap.size) := ⟨_, rfl⟩
  rw [← hQ]
  suffices hW : ∀ (H : Heap) (locs : List Loc), va_P D vwCl ([(o_C a C_size), ((a 11), .inl (cZ, 96, .inl (ia C_needed))), ((a 12), .inl (cI, 770, .inl (ia C_elements))), ((a 13), .inl (cI, 770, .inl (ia C_parent))), ((a 14), .inl (cI, 770, .inl (ia C_length))), ((a 15), .inl (cI, 770, .inl (ia C_early))), ((a 16), .inl (cI, 770, .inl (ia C_late))), ((a 17), .inl (cI, 96, .inl (ia C_firstOf))), ((a 18), .inl (cI, 770, .inl (ia C_nextOf))), ((a 19), .inl (cI, 48, .inl (ia C_count))), ((a 20), .inl (cI, 384, .inl (ia C_last))), ((a 21), .inl (cI, 384, .inl (ia C_base))), ((a 22), .inl (cI, 384, .inl (ia C_wayEarly))), ((a 23), .inl (cI, 384, .inl (ia C_wayLate))), (o_K a), ((a 25), .inl (cI, 96, .inl (ia K_count))), ((a 26), .inl (cI, 96, .inl (ia K_early))), ((a 27), .inl (cI, 96, .inl (ia K_late))), (o_O a O_count), ((a 42), .inl (cI, 48, .inl (ia O_gates))), (o_N a N_period N_width N_size), ((a 44), .inl (cI, 48, .inl (ia N_kind))), ((a 45), .inl (cI, 48, .inl (ia N_pins))), ((a 46), .inl (cI, 144, .inl (ia N_source))), ((a 47), .inl (cI, 144, .inl (ia N_wireEarly))), ((a 48), .inl (cI, 144, .inl (ia N_wireLate))), ((a 49), .inl (cI, 144, .inl (ia N_senses))), ((a 50), .inl (cI, 288, .inl (ia N_gateEarly))), ((a 51), .inl (cI, 288, .inl (ia N_gateLate)))]) H → va_D A ([(o_C a C_size), ((a 11), .inl (cZ, 96, .inl (ia C_needed))), ((a 12), .inl (cI, 770, .inl (ia C_elements))), ((a 13), .inl (cI, 770, .inl (ia C_parent))), ((a 14), .inl (cI, 770, .inl (ia C_length))), ((a 15), .inl (cI, 770, .inl (ia C_early))), ((a 16), .inl (cI, 770, .inl (ia C_late))), ((a 17), .inl (cI, 96, .inl (ia C_firstOf))), ((a 18), .inl (cI, 770, .inl (ia C_nextOf))), ((a 19), .inl (cI, 48, .inl (ia C_count))), ((a 20), .inl (cI, 384, .inl (ia C_last))), ((a 21), .inl (cI, 384, .inl (ia C_base))), ((a 22), .inl (cI, 384, .inl (ia C_wayEarly))), ((a 23), .inl (cI, 384, .inl (ia C_wayLate))), (o_K a), ((a 25), .inl (cI, 96, .inl (ia K_count))), ((a 26), .inl (cI, 96, .inl (ia K_early))), ((a 27), .inl (cI, 96, .inl (ia K_late))), (o_O a O_count), ((a 42), .inl (cI, 48, .inl (ia O_gates))), (o_N a N_period N_width N_size), ((a 44), .inl (cI, 48, .inl (ia N_kind))), ((a 45), .inl (cI, 48, .inl (ia N_pins))), ((a 46), .inl (cI, 144, .inl (ia N_source))), ((a 47), .inl (cI, 144, .inl (ia N_wireEarly))), ((a 48), .inl (cI, 144, .inl (ia N_wireLate))), ((a 49), .inl (cI, 144, .inl (ia N_senses))), ((a 50), .inl (cI, 288, .inl (ia N_gateEarly))), ((a 51), .inl (cI, 288, .inl (ia N_gateLate)))]) → va_S A s.heap H locs → W p l e (headSpec w_ClockWays_find rm_ClockWays_find).room s m args below meth c H locs 0 0 Q (F0 m 0 ls []) from hW s.heap [] hP hD hS
  clear hP hD hS
  intro H locs hP hD hS
  rw [f_ClockWays_find] at h
  refine lv_aload_n hx hb d_ClockWays_find_0 rfl (lv_at hl 0 rfl) ?_
  obtain ⟨r1, K_count_1, K_early_2, K_late_3, hcall, h⟩ := ob4_e h
  refine ca_i (w2 := [(o_C a C_size), ((a 11), .inl (cZ, 96, .inl (ia C_needed))), ((a 12), .inl (cI, 770, .inl (ia C_elements))), ((a 13), .inl (cI, 770, .inl (ia C_parent))), ((a 14), .inl (cI, 770, .inl (ia C_length))), ((a 15), .inl (cI, 770, .inl (ia C_early))), ((a 16), .inl (cI, 770, .inl (ia C_late))), ((a 17), .inl (cI, 96, .inl (ia C_firstOf))), ((a 18), .inl (cI, 770, .inl (ia C_nextOf))), ((a 19), .inl (cI, 48, .inl (ia C_count))), ((a 20), .inl (cI, 384, .inl (ia C_last))), ((a 21), .inl (cI, 384, .inl (ia C_base))), ((a 22), .inl (cI, 384, .inl (ia C_wayEarly))), ((a 23), .inl (cI, 384, .inl (ia C_wayLate))), (o_K a), ((a 25), .inl (cI, 96, .inl (ia K_count_1))), ((a 26), .inl (cI, 96, .inl (ia K_early_2))), ((a 27), .inl (cI, 96, .inl (ia K_late_3))), (o_O a O_count), ((a 42), .inl (cI, 48, .inl (ia O_gates))), (o_N a N_period N_width N_size), ((a 44), .inl (cI, 48, .inl (ia N_kind))), ((a 45), .inl (cI, 48, .inl (ia N_pins))), ((a 46), .inl (cI, 144, .inl (ia N_source))), ((a 47), .inl (cI, 144, .inl (ia N_wireEarly))), ((a 48), .inl (cI, 144, .inl (ia N_wireLate))), ((a 49), .inl (cI, 144, .inl (ia N_senses))), ((a 50), .inl (cI, 288, .inl (ia N_gateEarly))), ((a 51), .inl (cI, 288, .inl (ia N_gateLate)))]) (va_runV (As := []) (rest := []) ⟨hx, hb, hml, hown, hts⟩ (c_ClockWays_isTangled l D cI cJ cZ F a C_size K_count K_early K_late O_count O_gates N_period N_width N_size N_kind N_pins N_source N_wireEarly N_wireLate N_senses N_gateEarly N_gateLate r1 K_count_1 K_early_2 K_late_3 H.size hcall) (cwV 0 hts (gd_V m485 m482 m484 sl_ClockWays_isTangled m5) rfl rfl rfl ⟨rfl, hc_ClockWays_isTangled⟩ ⟨Nat.le_of_ble_eq_true rfl, Nat.le_of_ble_eq_true rfl⟩) (pc_V 0 4 [] hP hK hD hN [0, 14, 15, 16, 17, 18, 19, 20, 21, 22, 23, 24, 25, 26, 27, 28] rfl rfl rfl rfl rfl) rfl rfl hl.1 rfl (lv_room (Nat.le_of_ble_eq_true rfl)) d_ClockWays_find_1 ⟨Nat.le_refl 0, Nat.le_refl 0⟩) hP hD hS hA [0, 14, 15, 16, 17, 18, 19, 20, 21, 22, 23, 24, 25, 26, 27, 28] [1, 2, 3, 4, 5, 6, 7, 8, 9, 10, 11, 12, 13] [13, 0, 1, 2, 3, 4, 5, 6, 7, 8, 9, 10, 11, 12, 14, 15, 16, 17, 18, 19, 20, 21, 22, 23, 24, 25, 26, 27, 28] rfl rfl rfl (by decide) rfl rfl rfl (fun H locs hP hD hS => ?_)
  obtain ⟨hg0, h⟩ := gr_e h
  refine zi_eq hx hb d_ClockWays_find_4 rfl hg0 (fun hc => ?_) (fun hc => ?_)
  · replace h := if_t hc h
    refine lv_aload_n hx hb d_ClockWays_find_9 rfl (lv_at hl 0 rfl) ?_
    obtain ⟨C_needed_4, hcall, h⟩ := ob1_e h
    refine ca_v (w2 := [(o_C a C_size), ((a 11), .inl (cZ, 96, .inl (ia C_needed_4))), ((a 12), .inl (cI, 770, .inl (ia C_elements))), ((a 13), .inl (cI, 770, .inl (ia C_parent))), ((a 14), .inl (cI, 770, .inl (ia C_length))), ((a 15), .inl (cI, 770, .inl (ia C_early))), ((a 16), .inl (cI, 770, .inl (ia C_late))), ((a 17), .inl (cI, 96, .inl (ia C_firstOf))), ((a 18), .inl (cI, 770, .inl (ia C_nextOf))), ((a 19), .inl (cI, 48, .inl (ia C_count))), ((a 20), .inl (cI, 384, .inl (ia C_last))), ((a 21), .inl (cI, 384, .inl (ia C_base))), ((a 22), .inl (cI, 384, .inl (ia C_wayEarly))), ((a 23), .inl (cI, 384, .inl (ia C_wayLate))), (o_K a), ((a 25), .inl (cI, 96, .inl (ia K_count_1))), ((a 26), .inl (cI, 96, .inl (ia K_early_2))), ((a 27), .inl (cI, 96, .inl (ia K_late_3))), (o_O a O_count), ((a 42), .inl (cI, 48, .inl (ia O_gates))), (o_N a N_period N_width N_size), ((a 44), .inl (cI, 48, .inl (ia N_kind))), ((a 45), .inl (cI, 48, .inl (ia N_pins))), ((a 46), .inl (cI, 144, .inl (ia N_source))), ((a 47), .inl (cI, 144, .inl (ia N_wireEarly))), ((a 48), .inl (cI, 144, .inl (ia N_wireLate))), ((a 49), .inl (cI, 144, .inl (ia N_senses))), ((a 50), .inl (cI, 288, .inl (ia N_gateEarly))), ((a 51), .inl (cI, 288, .inl (ia N_gateLate)))]) (va_runV (As := []) (rest := []) ⟨hx, hb, hml, hown, hts⟩ (c_ClockWays_markNeeded l D cI cJ cZ F a C_size C_needed O_count O_gates N_period N_width N_size N_kind N_pins N_source N_senses C_needed_4 H.size hcall) (cwV 0 hts (gd_V m522 m519 m521 sl_ClockWays_markNeeded m5) rfl rfl rfl ⟨rfl, hc_ClockWays_markNeeded⟩ ⟨Nat.le_of_ble_eq_true rfl, Nat.le_of_ble_eq_true rfl⟩) (pc_V 0 4 [] hP hK hD hN [0, 1, 18, 19, 20, 21, 22, 23, 26] rfl rfl rfl rfl rfl) rfl rfl hl.1 rfl (lv_room (Nat.le_of_ble_eq_true rfl)) d_ClockWays_find_10 ⟨Nat.le_refl 0, Nat.le_refl 0⟩) hP hD hS hA [0, 1, 18, 19, 20, 21, 22, 23, 26] [2, 3, 4, 5, 6, 7, 8, 9, 10, 11, 12, 13, 14, 15, 16, 17, 24, 25, 27, 28] [20, 21, 0, 1, 2, 3, 4, 5, 6, 7, 8, 9, 10, 11, 12, 13, 14, 15, 22, 23, 24, 25, 26, 27, 16, 17, 28, 18, 19] rfl rfl rfl (by decide) rfl rfl rfl (fun H locs hP hD hS => ?_)
    refine lv_aload_n hx hb d_ClockWays_find_13 rfl (lv_at hl 0 rfl) ?_
    obtain ⟨C_size_5, C_elements_6, C_parent_7, C_length_8, C_early_9, C_late_10, C_firstOf_11, C_nextOf_12, hcall, h⟩ := ob8_e h
    refine ca_v (w2 := [(o_C a C_size_5), ((a 11), .inl (cZ, 96, .inl (ia C_needed_4))), ((a 12), .inl (cI, 770, .inl (ia C_elements_6))), ((a 13), .inl (cI, 770, .inl (ia C_parent_7))), ((a 14), .inl (cI, 770, .inl (ia C_length_8))), ((a 15), .inl (cI, 770, .inl (ia C_early_9))), ((a 16), .inl (cI, 770, .inl (ia C_late_10))), ((a 17), .inl (cI, 96, .inl (ia C_firstOf_11))), ((a 18), .inl (cI, 770, .inl (ia C_nextOf_12))), ((a 19), .inl (cI, 48, .inl (ia C_count))), ((a 20), .inl (cI, 384, .inl (ia C_last))), ((a 21), .inl (cI, 384, .inl (ia C_base))), ((a 22), .inl (cI, 384, .inl (ia C_wayEarly))), ((a 23), .inl (cI, 384, .inl (ia C_wayLate))), (o_K a), ((a 25), .inl (cI, 96, .inl (ia K_count_1))), ((a 26), .inl (cI, 96, .inl (ia K_early_2))), ((a 27), .inl (cI, 96, .inl (ia K_late_3))), (o_O a O_count), ((a 42), .inl (cI, 48, .inl (ia O_gates))), (o_N a N_period N_width N_size), ((a 44), .inl (cI, 48, .inl (ia N_kind))), ((a 45), .inl (cI, 48, .inl (ia N_pins))), ((a 46), .inl (cI, 144, .inl (ia N_source))), ((a 47), .inl (cI, 144, .inl (ia N_wireEarly))), ((a 48), .inl (cI, 144, .inl (ia N_wireLate))), ((a 49), .inl (cI, 144, .inl (ia N_senses))), ((a 50), .inl (cI, 288, .inl (ia N_gateEarly))), ((a 51), .inl (cI, 288, .inl (ia N_gateLate)))]) (va_runV (As := []) (rest := []) ⟨hx, hb, hml, hown, hts⟩ (c_ClockWays_growTree l D cI cJ cZ F a C_size C_needed_4 C_elements C_parent C_length C_early C_late C_firstOf C_nextOf O_count O_gates N_period N_width N_size N_pins N_source N_wireEarly N_wireLate N_senses N_gateEarly N_gateLate C_size_5 C_elements_6 C_parent_7 C_length_8 C_early_9 C_late_10 C_firstOf_11 C_nextOf_12 H.size hcall) (cwV 0 hts (gd_V m531 m528 m530 sl_ClockWays_growTree m5) rfl rfl rfl ⟨rfl, hc_ClockWays_growTree⟩ ⟨Nat.le_of_ble_eq_true rfl, Nat.le_of_ble_eq_true rfl⟩) (pc_V 0 4 [] hP hK hD hN [0, 1, 2, 3, 4, 5, 6, 7, 8, 18, 19, 20, 22, 23, 24, 25, 26, 27, 28] rfl rfl rfl rfl rfl) rfl rfl hl.1 rfl (lv_room (Nat.le_of_ble_eq_true rfl)) d_ClockWays_find_14 ⟨Nat.le_refl 0, Nat.le_refl 0⟩) hP hD hS hA [0, 1, 2, 3, 4, 5, 6, 7, 8, 18, 19, 20, 22, 23, 24, 25, 26, 27, 28] [9, 10, 11, 12, 13, 14, 15, 16, 17, 21] [10, 11, 12, 13, 14, 15, 16, 17, 18, 0, 1, 2, 3, 4, 5, 6, 7, 8, 19, 20, 21, 9, 22, 23, 24, 25, 26, 27, 28] rfl rfl rfl (by decide) rfl rfl rfl (fun H locs hP hD hS => ?_)
    refine zv_iconst hx hb d_ClockWays_find_17 ?_
    refine lv_istore_n (lv' := [(1, .int (iI 0)), (0, .ref (a 10))]) hx hb d_ClockWays_find_18 rfl hl (by decide) rfl (fun ls hl => ?_)
    have hl19 : ∀ (nf : Nat) (v1 : Int) (C_count_13 : Int → Int) (C_last_14 : Int → Int) (C_base_15 : Int → Int) (C_wayEarly_16 : Int → Int) (C_wayLate_17 : Int → Int) (H : Heap) (locs : List Loc) (ls : Array Slot), va_P D vwCl [(o_C a C_size_5), ((a 11), .inl (cZ, 96, .inl (ia C_needed_4))), ((a 12), .inl (cI, 770, .inl (ia C_elements_6))), ((a 13), .inl (cI, 770, .inl (ia C_parent_7))), ((a 14), .inl (cI, 770, .inl (ia C_length_8))), ((a 15), .inl (cI, 770, .inl (ia C_early_9))), ((a 16), .inl (cI, 770, .inl (ia C_late_10))), ((a 17), .inl (cI, 96, .inl (ia C_firstOf_11))), ((a 18), .inl (cI, 770, .inl (ia C_nextOf_12))), ((a 19), .inl (cI, 48, .inl (ia C_count_13))), ((a 20), .inl (cI, 384, .inl (ia C_last_14))), ((a 21), .inl (cI, 384, .inl (ia C_base_15))), ((a 22), .inl (cI, 384, .inl (ia C_wayEarly_16))), ((a 23), .inl (cI, 384, .inl (ia C_wayLate_17))), (o_K a), ((a 25), .inl (cI, 96, .inl (ia K_count_1))), ((a 26), .inl (cI, 96, .inl (ia K_early_2))), ((a 27), .inl (cI, 96, .inl (ia K_late_3))), (o_O a O_count), ((a 42), .inl (cI, 48, .inl (ia O_gates))), (o_N a N_period N_width N_size), ((a 44), .inl (cI, 48, .inl (ia N_kind))), ((a 45), .inl (cI, 48, .inl (ia N_pins))), ((a 46), .inl (cI, 144, .inl (ia N_source))), ((a 47), .inl (cI, 144, .inl (ia N_wireEarly))), ((a 48), .inl (cI, 144, .inl (ia N_wireLate))), ((a 49), .inl (cI, 144, .inl (ia N_senses))), ((a 50), .inl (cI, 288, .inl (ia N_gateEarly))), ((a 51), .inl (cI, 288, .inl (ia N_gateLate)))] H → va_D A [(o_C a C_size_5), ((a 11), .inl (cZ, 96, .inl (ia C_needed_4))), ((a 12), .inl (cI, 770, .inl (ia C_elements_6))), ((a 13), .inl (cI, 770, .inl (ia C_parent_7))), ((a 14), .inl (cI, 770, .inl (ia C_length_8))), ((a 15), .inl (cI, 770, .inl (ia C_early_9))), ((a 16), .inl (cI, 770, .inl (ia C_late_10))), ((a 17), .inl (cI, 96, .inl (ia C_firstOf_11))), ((a 18), .inl (cI, 770, .inl (ia C_nextOf_12))), ((a 19), .inl (cI, 48, .inl (ia C_count_13))), ((a 20), .inl (cI, 384, .inl (ia C_last_14))), ((a 21), .inl (cI, 384, .inl (ia C_base_15))), ((a 22), .inl (cI, 384, .inl (ia C_wayEarly_16))), ((a 23), .inl (cI, 384, .inl (ia C_wayLate_17))), (o_K a), ((a 25), .inl (cI, 96, .inl (ia K_count_1))), ((a 26), .inl (cI, 96, .inl (ia K_early_2))), ((a 27), .inl (cI, 96, .inl (ia K_late_3))), (o_O a O_count), ((a 42), .inl (cI, 48, .inl (ia O_gates))), (o_N a N_period N_width N_size), ((a 44), .inl (cI, 48, .inl (ia N_kind))), ((a 45), .inl (cI, 48, .inl (ia N_pins))), ((a 46), .inl (cI, 144, .inl (ia N_source))), ((a 47), .inl (cI, 144, .inl (ia N_wireEarly))), ((a 48), .inl (cI, 144, .inl (ia N_wireLate))), ((a 49), .inl (cI, 144, .inl (ia N_senses))), ((a 50), .inl (cI, 288, .inl (ia N_gateEarly))), ((a 51), .inl (cI, 288, .inl (ia N_gateLate)))] → va_S A s.heap H locs → lv_has ls 2 [(0, .ref (a 10)), (1, .int (iI v1))] → lq6 (f_ClockWays_find_b19 F N_width N_size N_kind N_source N_wireEarly N_wireLate K_count_1 K_early_2 K_late_3 C_needed_4 C_size_5 C_elements_6 C_parent_7 C_length_8 C_early_9 C_late_10 C_firstOf_11 C_nextOf_12) nf v1 C_count_13 C_last_14 C_base_15 C_wayEarly_16 C_wayLate_17 = some (r, z_C_needed, z_C_size, z_C_elements, z_C_parent, z_C_length, z_C_early, z_C_late, z_C_firstOf, z_C_nextOf, z_C_count, z_C_last, z_C_base, z_C_wayEarly, z_C_wayLate, z_K_count, z_K_early, z_K_late) → W p l e (headSpec w_ClockWays_find rm_ClockWays_find).room s m args below meth c H locs 0 0 Q (F0 m 19 ls []) := by
      intro n19
      induction n19 with
      | zero => intro v1 C_count_13 C_last_14 C_base_15 C_wayEarly_16 C_wayLate_17 H locs ls hP hD hS hl h; exact no_some h
      | succ n19 ih19 =>
        intro v1 C_count_13 C_last_14 C_base_15 C_wayEarly_16 C_wayLate_17 H locs ls hP hD hS hl h
        replace h : f_ClockWays_find_b19 F N_width N_size N_kind N_source N_wireEarly N_wireLate K_count_1 K_early_2 K_late_3 C_needed_4 C_size_5 C_elements_6 C_parent_7 C_length_8 C_early_9 C_late_10 C_firstOf_11 C_nextOf_12 (lq6 (f_ClockWays_find_b19 F N_width N_size N_kind N_source N_wireEarly N_wireLate K_count_1 K_early_2 K_late_3 C_needed_4 C_size_5 C_elements_6 C_parent_7 C_length_8 C_early_9 C_late_10 C_firstOf_11 C_nextOf_12) n19) v1 C_count_13 C_last_14 C_base_15 C_wayEarly_16 C_wayLate_17 = some (r, z_C_needed, z_C_size, z_C_elements, z_C_parent, z_C_length, z_C_early, z_C_late, z_C_firstOf, z_C_nextOf, z_C_count, z_C_last, z_C_base, z_C_wayEarly, z_C_wayLate, z_K_count, z_K_early, z_K_late) := h
        obtain ⟨self19, hs19⟩ : ∃ z, z = lq6 (f_ClockWays_find_b19 F N_width N_size N_kind N_source N_wireEarly N_wireLate K_count_1 K_early_2 K_late_3 C_needed_4 C_size_5 C_elements_6 C_parent_7 C_length_8 C_early_9 C_late_10 C_firstOf_11 C_nextOf_12) n19 := ⟨_, rfl⟩
        rw [← hs19] at h ih19
        rw [f_ClockWays_find_b19] at h
        refine lv_iload_n hx hb d_ClockWays_find_19 rfl (lv_at hl 1 rfl) ?_
        refine lv_aload_n hx hb d_ClockWays_find_20 rfl (lv_at hl 0 rfl) ?_
        refine va_get (D := D) (ci := 4) (v := .ref (a 43)) (C := R_ClockWays) (T := F_ClockWays) (N := 17) hx hb hT in_ClockWays hown hK hP 0 rfl rfl 0 (by decide) (hT _ m194) (fun _ h9 => h9) rfl d_ClockWays_find_21 ?_
        refine va_get (D := D) (ci := 1) (v := .int (iI N_size)) (C := R_Net) (T := F_Net) (N := 15) hx hb hT in_Net hown hK hP 20 rfl rfl 2 (by decide) (hT _ m50) (fun _ h9 => h9) rfl d_ClockWays_find_24 ?_
        obtain ⟨hg0, h⟩ := gr_e h
        obtain ⟨hg1, h⟩ := gr_e h
        refine zc_ge hx hb d_ClockWays_find_27 rfl hg0 hg1 (fun hc => ?_) (fun hc => ?_)
        · replace h := if_t hc h
          refine zv_iconst hx hb d_ClockWays_find_99 ?_
          obtain ⟨hbo, h⟩ := gb_e h
          obtain ⟨e1, e2, e3, e4, e5, e6, e7, e8, e9, e10, e11, e12, e13, e14, e15, e16, e17, e18⟩ := so18 h
          rw [hQ, e1, e2, e3, e4, e5, e6, e7, e8, e9, e10, e11, e12, e13, e14, e15, e16, e17, e18]; rw [hAe] at hD hS; exact W.zret (ty := .boolean) hx hb hr (gb_n hbo) (fun t ht hW => ⟨⟨_, (), rfl, rfl, by rw [ht]; exact hP, va_K.moved hW.alike hK, hD⟩, hS.F ht⟩) hS.2.2 d_ClockWays_find_100
        · replace h := if_f hc h
          refine lv_aload_n hx hb d_ClockWays_find_30 rfl (lv_at hl 0 rfl) ?_
          refine va_get (D := D) (ci := 4) (v := .ref (a 19)) (C := R_ClockWays) (T := F_ClockWays) (N := 17) hx hb hT in_ClockWays hown hK hP 0 rfl rfl 12 (by decide) (hT _ m206) (fun _ h9 => h9) rfl d_ClockWays_find_31 ?_
          refine lv_iload_n hx hb d_ClockWays_find_34 rfl (lv_at hl 1 rfl) ?_
          refine zv_iconst hx hb d_ClockWays_find_35 ?_
          obtain ⟨hin, h⟩ := gi_e h
          refine zv_iast hx hb hK hP hD hS 9 0 rfl rfl (Nat.le_of_ble_eq_true rfl) hin d_ClockWays_find_36 (fun H locs hP hD hS => ?_)
          obtain ⟨C_count_18, hv⟩ : ∃ z, z = (ui C_count_13 v1 0) := ⟨_, rfl⟩
          replace h := bd_e hv h
          have hP : va_P D vwCl [(o_C a C_size_5), ((a 11), .inl (cZ, 96, .inl (ia C_needed_4))), ((a 12), .inl (cI, 770, .inl (ia C_elements_6))), ((a 13), .inl (cI, 770, .inl (ia C_parent_7))), ((a 14), .inl (cI, 770, .inl (ia C_length_8))), ((a 15), .inl (cI, 770, .inl (ia C_early_9))), ((a 16), .inl (cI, 770, .inl (ia C_late_10))), ((a 17), .inl (cI, 96, .inl (ia C_firstOf_11))), ((a 18), .inl (cI, 770, .inl (ia C_nextOf_12))), ((a 19), .inl (cI, 48, .inl (ia C_count_18))), ((a 20), .inl (cI, 384, .inl (ia C_last_14))), ((a 21), .inl (cI, 384, .inl (ia C_base_15))), ((a 22), .inl (cI, 384, .inl (ia C_wayEarly_16))), ((a 23), .inl (cI, 384, .inl (ia C_wayLate_17))), (o_K a), ((a 25), .inl (cI, 96, .inl (ia K_count_1))), ((a 26), .inl (cI, 96, .inl (ia K_early_2))), ((a 27), .inl (cI, 96, .inl (ia K_late_3))), (o_O a O_count), ((a 42), .inl (cI, 48, .inl (ia O_gates))), (o_N a N_period N_width N_size), ((a 44), .inl (cI, 48, .inl (ia N_kind))), ((a 45), .inl (cI, 48, .inl (ia N_pins))), ((a 46), .inl (cI, 144, .inl (ia N_source))), ((a 47), .inl (cI, 144, .inl (ia N_wireEarly))), ((a 48), .inl (cI, 144, .inl (ia N_wireLate))), ((a 49), .inl (cI, 144, .inl (ia N_senses))), ((a 50), .inl (cI, 288, .inl (ia N_gateEarly))), ((a 51), .inl (cI, 288, .inl (ia N_gateLate)))] H := by rw [hv]; exact hP
          have hD : va_D A [(o_C a C_size_5), ((a 11), .inl (cZ, 96, .inl (ia C_needed_4))), ((a 12), .inl (cI, 770, .inl (ia C_elements_6))), ((a 13), .inl (cI, 770, .inl (ia C_parent_7))), ((a 14), .inl (cI, 770, .inl (ia C_length_8))), ((a 15), .inl (cI, 770, .inl (ia C_early_9))), ((a 16), .inl (cI, 770, .inl (ia C_late_10))), ((a 17), .inl (cI, 96, .inl (ia C_firstOf_11))), ((a 18), .inl (cI, 770, .inl (ia C_nextOf_12))), ((a 19), .inl (cI, 48, .inl (ia C_count_18))), ((a 20), .inl (cI, 384, .inl (ia C_last_14))), ((a 21), .inl (cI, 384, .inl (ia C_base_15))), ((a 22), .inl (cI, 384, .inl (ia C_wayEarly_16))), ((a 23), .inl (cI, 384, .inl (ia C_wayLate_17))), (o_K a), ((a 25), .inl (cI, 96, .inl (ia K_count_1))), ((a 26), .inl (cI, 96, .inl (ia K_early_2))), ((a 27), .inl (cI, 96, .inl (ia K_late_3))), (o_O a O_count), ((a 42), .inl (cI, 48, .inl (ia O_gates))), (o_N a N_period N_width N_size), ((a 44), .inl (cI, 48, .inl (ia N_kind))), ((a 45), .inl (cI, 48, .inl (ia N_pins))), ((a 46), .inl (cI, 144, .inl (ia N_source))), ((a 47), .inl (cI, 144, .inl (ia N_wireEarly))), ((a 48), .inl (cI, 144, .inl (ia N_wireLate))), ((a 49), .inl (cI, 144, .inl (ia N_senses))), ((a 50), .inl (cI, 288, .inl (ia N_gateEarly))), ((a 51), .inl (cI, 288, .inl (ia N_gateLate)))] := by rw [hv]; exact hD
          refine lv_aload_n hx hb d_ClockWays_find_37 rfl (lv_at hl 0 rfl) ?_
          refine va_get (D := D) (ci := 4) (v := .ref (a 43)) (C := R_ClockWays) (T := F_ClockWays) (N := 17) hx hb hT in_ClockWays hown hK hP 0 rfl rfl 0 (by decide) (hT _ m194) (fun _ h9 => h9) rfl d_ClockWays_find_38 ?_
          refine va_get (D := D) (ci := 1) (v := .ref (a 44)) (C := R_Net) (T := F_Net) (N := 15) hx hb hT in_Net hown hK hP 20 rfl rfl 3 (by decide) (hT _ m55) (fun _ h9 => h9) rfl d_ClockWays_find_41 ?_
          refine lv_iload_n hx hb d_ClockWays_find_44 rfl (lv_at hl 1 rfl) ?_
          obtain ⟨hin, h⟩ := gi_e h
          refine zv_iald hx hb hK hP 21 0 rfl rfl (Nat.le_of_ble_eq_true rfl) hin d_ClockWays_find_45 ?_
          refine zv_iconst hx hb d_ClockWays_find_46 ?_
          have hj93 : ∀ (C_count_19 : Int → Int) (C_last_20 : Int → Int) (C_base_21 : Int → Int) (C_wayEarly_22 : Int → Int) (C_wayLate_23 : Int → Int) (H : Heap) (locs : List Loc) (ls : Array Slot), va_P D vwCl [(o_C a C_size_5), ((a 11), .inl (cZ, 96, .inl (ia C_needed_4))), ((a 12), .inl (cI, 770, .inl (ia C_elements_6))), ((a 13), .inl (cI, 770, .inl (ia C_parent_7))), ((a 14), .inl (cI, 770, .inl (ia C_length_8))), ((a 15), .inl (cI, 770, .inl (ia C_early_9))), ((a 16), .inl (cI, 770, .inl (ia C_late_10))), ((a 17), .inl (cI, 96, .inl (ia C_firstOf_11))), ((a 18), .inl (cI, 770, .inl (ia C_nextOf_12))), ((a 19), .inl (cI, 48, .inl (ia C_count_19))), ((a 20), .inl (cI, 384, .inl (ia C_last_20))), ((a 21), .inl (cI, 384, .inl (ia C_base_21))), ((a 22), .inl (cI, 384, .inl (ia C_wayEarly_22))), ((a 23), .inl (cI, 384, .inl (ia C_wayLate_23))), (o_K a), ((a 25), .inl (cI, 96, .inl (ia K_count_1))), ((a 26), .inl (cI, 96, .inl (ia K_early_2))), ((a 27), .inl (cI, 96, .inl (ia K_late_3))), (o_O a O_count), ((a 42), .inl (cI, 48, .inl (ia O_gates))), (o_N a N_period N_width N_size), ((a 44), .inl (cI, 48, .inl (ia N_kind))), ((a 45), .inl (cI, 48, .inl (ia N_pins))), ((a 46), .inl (cI, 144, .inl (ia N_source))), ((a 47), .inl (cI, 144, .inl (ia N_wireEarly))), ((a 48), .inl (cI, 144, .inl (ia N_wireLate))), ((a 49), .inl (cI, 144, .inl (ia N_senses))), ((a 50), .inl (cI, 288, .inl (ia N_gateEarly))), ((a 51), .inl (cI, 288, .inl (ia N_gateLate)))] H → va_D A [(o_C a C_size_5), ((a 11), .inl (cZ, 96, .inl (ia C_needed_4))), ((a 12), .inl (cI, 770, .inl (ia C_elements_6))), ((a 13), .inl (cI, 770, .inl (ia C_parent_7))), ((a 14), .inl (cI, 770, .inl (ia C_length_8))), ((a 15), .inl (cI, 770, .inl (ia C_early_9))), ((a 16), .inl (cI, 770, .inl (ia C_late_10))), ((a 17), .inl (cI, 96, .inl (ia C_firstOf_11))), ((a 18), .inl (cI, 770, .inl (ia C_nextOf_12))), ((a 19), .inl (cI, 48, .inl (ia C_count_19))), ((a 20), .inl (cI, 384, .inl (ia C_last_20))), ((a 21), .inl (cI, 384, .inl (ia C_base_21))), ((a 22), .inl (cI, 384, .inl (ia C_wayEarly_22))), ((a 23), .inl (cI, 384, .inl (ia C_wayLate_23))), (o_K a), ((a 25), .inl (cI, 96, .inl (ia K_count_1))), ((a 26), .inl (cI, 96, .inl (ia K_early_2))), ((a 27), .inl (cI, 96, .inl (ia K_late_3))), (o_O a O_count), ((a 42), .inl (cI, 48, .inl (ia O_gates))), (o_N a N_period N_width N_size), ((a 44), .inl (cI, 48, .inl (ia N_kind))), ((a 45), .inl (cI, 48, .inl (ia N_pins))), ((a 46), .inl (cI, 144, .inl (ia N_source))), ((a 47), .inl (cI, 144, .inl (ia N_wireEarly))), ((a 48), .inl (cI, 144, .inl (ia N_wireLate))), ((a 49), .inl (cI, 144, .inl (ia N_senses))), ((a 50), .inl (cI, 288, .inl (ia N_gateEarly))), ((a 51), .inl (cI, 288, .inl (ia N_gateLate)))] → va_S A s.heap H locs → lv_has ls 2 [(0, .ref (a 10)), (1, .int (iI v1))] → f_ClockWays_find_j93 F v1 self19 C_count_19 C_last_20 C_base_21 C_wayEarly_22 C_wayLate_23 = some (r, z_C_needed, z_C_size, z_C_elements, z_C_parent, z_C_length, z_C_early, z_C_late, z_C_firstOf, z_C_nextOf, z_C_count, z_C_last, z_C_base, z_C_wayEarly, z_C_wayLate, z_K_count, z_K_early, z_K_late) → W p l e (headSpec w_ClockWays_find rm_ClockWays_find).room s m args below meth c H locs 0 0 Q (F0 m 93 ls []) := by
            intro C_count_19 C_last_20 C_base_21 C_wayEarly_22 C_wayLate_23 H locs ls hP hD hS hl h
            rw [f_ClockWays_find_j93] at h
            refine lv_iinc (v := iI (v1 + 1)) (k := 1) (lv' := [(1, .int (iI (v1 + 1))), (0, .ref (a 10))]) hx hb d_ClockWays_find_93 hl rfl (iI_add _ _) (by decide) rfl (fun ls hl => ?_)
            refine lv_goto hx hb d_ClockWays_find_96 rfl ?_
            exact ih19 (v1 + 1) C_count_19 C_last_20 C_base_21 C_wayEarly_22 C_wayLate_23 H locs ls hP hD hS (lv_sub hl [1, 0] rfl) h
          obtain ⟨hg0, h⟩ := gr_e h
          refine zc_ne hx hb d_ClockWays_find_47 rfl hg0 (by decide) (fun hc => ?_) (fun hc => ?_)
          · replace h := if_f hc h
            refine lv_aload_n hx hb d_ClockWays_find_58 rfl (lv_at hl 0 rfl) ?_
            refine va_get (D := D) (ci := 4) (v := .ref (a 43)) (C := R_ClockWays) (T := F_ClockWays) (N := 17) hx hb hT in_ClockWays hown hK hP 0 rfl rfl 0 (by decide) (hT _ m194) (fun _ h9 => h9) rfl d_ClockWays_find_59 ?_
            refine va_get (D := D) (ci := 1) (v := .ref (a 44)) (C := R_Net) (T := F_Net) (N := 15) hx hb hT in_Net hown hK hP 20 rfl rfl 3 (by decide) (hT _ m55) (fun _ h9 => h9) rfl d_ClockWays_find_62 ?_
            refine lv_iload_n hx hb d_ClockWays_find_65 rfl (lv_at hl 1 rfl) ?_
            obtain ⟨hin, h⟩ := gi_e h
            refine zv_iald hx hb hK hP 21 0 rfl rfl (Nat.le_of_ble_eq_true rfl) hin d_ClockWays_find_66 ?_
            refine zv_iconst hx hb d_ClockWays_find_67 ?_
            have hj84 : ∀  (H : Heap) (locs : List Loc) (ls : Array Slot), va_P D vwCl [(o_C a C_size_5), ((a 11), .inl (cZ, 96, .inl (ia C_needed_4))), ((a 12), .inl (cI, 770, .inl (ia C_elements_6))), ((a 13), .inl (cI, 770, .inl (ia C_parent_7))), ((a 14), .inl (cI, 770, .inl (ia C_length_8))), ((a 15), .inl (cI, 770, .inl (ia C_early_9))), ((a 16), .inl (cI, 770, .inl (ia C_late_10))), ((a 17), .inl (cI, 96, .inl (ia C_firstOf_11))), ((a 18), .inl (cI, 770, .inl (ia C_nextOf_12))), ((a 19), .inl (cI, 48, .inl (ia C_count_18))), ((a 20), .inl (cI, 384, .inl (ia C_last_14))), ((a 21), .inl (cI, 384, .inl (ia C_base_15))), ((a 22), .inl (cI, 384, .inl (ia C_wayEarly_16))), ((a 23), .inl (cI, 384, .inl (ia C_wayLate_17))), (o_K a), ((a 25), .inl (cI, 96, .inl (ia K_count_1))), ((a 26), .inl (cI, 96, .inl (ia K_early_2))), ((a 27), .inl (cI, 96, .inl (ia K_late_3))), (o_O a O_count), ((a 42), .inl (cI, 48, .inl (ia O_gates))), (o_N a N_period N_width N_size), ((a 44), .inl (cI, 48, .inl (ia N_kind))), ((a 45), .inl (cI, 48, .inl (ia N_pins))), ((a 46), .inl (cI, 144, .inl (ia N_source))), ((a 47), .inl (cI, 144, .inl (ia N_wireEarly))), ((a 48), .inl (cI, 144, .inl (ia N_wireLate))), ((a 49), .inl (cI, 144, .inl (ia N_senses))), ((a 50), .inl (cI, 288, .inl (ia N_gateEarly))), ((a 51), .inl (cI, 288, .inl (ia N_gateLate)))] H → va_D A [(o_C a C_size_5), ((a 11), .inl (cZ, 96, .inl (ia C_needed_4))), ((a 12), .inl (cI, 770, .inl (ia C_elements_6))), ((a 13), .inl (cI, 770, .inl (ia C_parent_7))), ((a 14), .inl (cI, 770, .inl (ia C_length_8))), ((a 15), .inl (cI, 770, .inl (ia C_early_9))), ((a 16), .inl (cI, 770, .inl (ia C_late_10))), ((a 17), .inl (cI, 96, .inl (ia C_firstOf_11))), ((a 18), .inl (cI, 770, .inl (ia C_nextOf_12))), ((a 19), .inl (cI, 48, .inl (ia C_count_18))), ((a 20), .inl (cI, 384, .inl (ia C_last_14))), ((a 21), .inl (cI, 384, .inl (ia C_base_15))), ((a 22), .inl (cI, 384, .inl (ia C_wayEarly_16))), ((a 23), .inl (cI, 384, .inl (ia C_wayLate_17))), (o_K a), ((a 25), .inl (cI, 96, .inl (ia K_count_1))), ((a 26), .inl (cI, 96, .inl (ia K_early_2))), ((a 27), .inl (cI, 96, .inl (ia K_late_3))), (o_O a O_count), ((a 42), .inl (cI, 48, .inl (ia O_gates))), (o_N a N_period N_width N_size), ((a 44), .inl (cI, 48, .inl (ia N_kind))), ((a 45), .inl (cI, 48, .inl (ia N_pins))), ((a 46), .inl (cI, 144, .inl (ia N_source))), ((a 47), .inl (cI, 144, .inl (ia N_wireEarly))), ((a 48), .inl (cI, 144, .inl (ia N_wireLate))), ((a 49), .inl (cI, 144, .inl (ia N_senses))), ((a 50), .inl (cI, 288, .inl (ia N_gateEarly))), ((a 51), .inl (cI, 288, .inl (ia N_gateLate)))] → va_S A s.heap H locs → lv_has ls 2 [(0, .ref (a 10)), (1, .int (iI v1))] → f_ClockWays_find_j84 F v1 C_last_14 C_base_15 C_wayEarly_16 C_wayLate_17 self19 C_count_18 = some (r, z_C_needed, z_C_size, z_C_elements, z_C_parent, z_C_length, z_C_early, z_C_late, z_C_firstOf, z_C_nextOf, z_C_count, z_C_last, z_C_base, z_C_wayEarly, z_C_wayLate, z_K_count, z_K_early, z_K_late) → W p l e (headSpec w_ClockWays_find rm_ClockWays_find).room s m args below meth c H locs 0 0 Q (F0 m 84 ls []) := by
              intro  H locs ls hP hD hS hl h
              rw [f_ClockWays_find_j84] at h
              refine lv_aload_n hx hb d_ClockWays_find_84 rfl (lv_at hl 0 rfl) ?_
              refine lv_iload_n hx hb d_ClockWays_find_85 rfl (lv_at hl 1 rfl) ?_
              refine zv_iconst hx hb d_ClockWays_find_86 ?_
              refine zv_iconst hx hb d_ClockWays_find_87 ?_
              refine zv_iconst hx hb d_ClockWays_find_88 ?_
              refine zv_iconst hx hb d_ClockWays_find_89 ?_
              obtain ⟨C_count_24, C_last_25, C_base_26, C_wayEarly_27, C_wayLate_28, hcall, h⟩ := ob5_e h
              refine ca_v (w2 := [(o_C a C_size_5), ((a 11), .inl (cZ, 96, .inl (ia C_needed_4))), ((a 12), .inl (cI, 770, .inl (ia C_elements_6))), ((a 13), .inl (cI, 770, .inl (ia C_parent_7))), ((a 14), .inl (cI, 770, .inl (ia C_length_8))), ((a 15), .inl (cI, 770, .inl (ia C_early_9))), ((a 16), .inl (cI, 770, .inl (ia C_late_10))), ((a 17), .inl (cI, 96, .inl (ia C_firstOf_11))), ((a 18), .inl (cI, 770, .inl (ia C_nextOf_12))), ((a 19), .inl (cI, 48, .inl (ia C_count_24))), ((a 20), .inl (cI, 384, .inl (ia C_last_25))), ((a 21), .inl (cI, 384, .inl (ia C_base_26))), ((a 22), .inl (cI, 384, .inl (ia C_wayEarly_27))), ((a 23), .inl (cI, 384, .inl (ia C_wayLate_28))), (o_K a), ((a 25), .inl (cI, 96, .inl (ia K_count_1))), ((a 26), .inl (cI, 96, .inl (ia K_early_2))), ((a 27), .inl (cI, 96, .inl (ia K_late_3))), (o_O a O_count), ((a 42), .inl (cI, 48, .inl (ia O_gates))), (o_N a N_period N_width N_size), ((a 44), .inl (cI, 48, .inl (ia N_kind))), ((a 45), .inl (cI, 48, .inl (ia N_pins))), ((a 46), .inl (cI, 144, .inl (ia N_source))), ((a 47), .inl (cI, 144, .inl (ia N_wireEarly))), ((a 48), .inl (cI, 144, .inl (ia N_wireLate))), ((a 49), .inl (cI, 144, .inl (ia N_senses))), ((a 50), .inl (cI, 288, .inl (ia N_gateEarly))), ((a 51), .inl (cI, 288, .inl (ia N_gateLate)))]) (va_runV (As := [.int (iI v1), .int (iI (-1)), .int (iI 0), .int (iI 0), .int (iI 0)]) (rest := []) ⟨hx, hb, hml, hown, hts⟩ (c_ClockWays_addWay l D cI cJ cZ F a C_size_5 C_count_18 C_last_14 C_base_15 C_wayEarly_16 C_wayLate_17 v1 (-1) 0 0 0 C_count_24 C_last_25 C_base_26 C_wayEarly_27 C_wayLate_28 H.size hcall) (cwV 5 hts (gd_V m557 m554 m556 sl_ClockWays_addWay m5) rfl rfl rfl ⟨rfl, hc_ClockWays_addWay⟩ ⟨Nat.le_of_ble_eq_true rfl, Nat.le_of_ble_eq_true rfl⟩) (pc_V 0 4 [.int (iI v1), .int (iI (-1)), .int (iI 0), .int (iI 0), .int (iI 0)] hP hK hD hN [0, 9, 10, 11, 12, 13] rfl rfl rfl rfl rfl) rfl rfl hl.1 rfl (lv_room (Nat.le_of_ble_eq_true rfl)) d_ClockWays_find_90 ⟨Nat.le_refl 0, Nat.le_refl 0⟩) hP hD hS hA [0, 9, 10, 11, 12, 13] [1, 2, 3, 4, 5, 6, 7, 8, 14, 15, 16, 17, 18, 19, 20, 21, 22, 23, 24, 25, 26, 27, 28] [23, 0, 1, 2, 3, 4, 5, 6, 7, 24, 25, 26, 27, 28, 8, 9, 10, 11, 12, 13, 14, 15, 16, 17, 18, 19, 20, 21, 22] rfl rfl rfl (by decide) rfl rfl rfl (fun H locs hP hD hS => ?_)
              exact hj93 C_count_24 C_last_25 C_base_26 C_wayEarly_27 C_wayLate_28 H locs ls hP hD hS (lv_sub hl [0, 1] rfl) h
            obtain ⟨hg0, h⟩ := gr_e h
            refine zc_eq hx hb d_ClockWays_find_68 rfl hg0 (by decide) (fun hc => ?_) (fun hc => ?_)
            · replace h := if_t hc h
              exact hj84  H locs ls hP hD hS (lv_sub hl [0, 1] rfl) h
            · replace h := if_f hc h
              refine lv_aload_n hx hb d_ClockWays_find_71 rfl (lv_at hl 0 rfl) ?_
              refine va_get (D := D) (ci := 4) (v := .ref (a 43)) (C := R_ClockWays) (T := F_ClockWays) (N := 17) hx hb hT in_ClockWays hown hK hP 0 rfl rfl 0 (by decide) (hT _ m194) (fun _ h9 => h9) rfl d_ClockWays_find_72 ?_
              refine va_get (D := D) (ci := 1) (v := .ref (a 44)) (C := R_Net) (T := F_Net) (N := 15) hx hb hT in_Net hown hK hP 20 rfl rfl 3 (by decide) (hT _ m55) (fun _ h9 => h9) rfl d_ClockWays_find_75 ?_
              refine lv_iload_n hx hb d_ClockWays_find_78 rfl (lv_at hl 1 rfl) ?_
              obtain ⟨hin, h⟩ := gi_e h
              refine zv_iald hx hb hK hP 21 0 rfl rfl (Nat.le_of_ble_eq_true rfl) hin d_ClockWays_find_79 ?_
              refine zv_iconst hx hb d_ClockWays_find_80 ?_
              obtain ⟨hg0, h⟩ := gr_e h
              refine zc_ne hx hb d_ClockWays_find_81 rfl hg0 (by decide) (fun hc => ?_) (fun hc => ?_)
              · replace h := if_f hc h
                exact hj93 C_count_18 C_last_14 C_base_15 C_wayEarly_16 C_wayLate_17 H locs ls hP hD hS (lv_sub hl [0, 1] rfl) h
              · replace h := if_t hc h
                exact hj84  H locs ls hP hD hS (lv_sub hl [0, 1] rfl) h
          · replace h := if_t hc h
            refine lv_aload_n hx hb d_ClockWays_find_50 rfl (lv_at hl 0 rfl) ?_
            refine lv_iload_n hx hb d_ClockWays_find_51 rfl (lv_at hl 1 rfl) ?_
            obtain ⟨C_count_29, C_last_30, C_base_31, C_wayEarly_32, C_wayLate_33, hcall, h⟩ := ob5_e h
            refine ca_v (w2 := [(o_C a C_size_5), ((a 11), .inl (cZ, 96, .inl (ia C_needed_4))), ((a 12), .inl (cI, 770, .inl (ia C_elements_6))), ((a 13), .inl (cI, 770, .inl (ia C_parent_7))), ((a 14), .inl (cI, 770, .inl (ia C_length_8))), ((a 15), .inl (cI, 770, .inl (ia C_early_9))), ((a 16), .inl (cI, 770, .inl (ia C_late_10))), ((a 17), .inl (cI, 96, .inl (ia C_firstOf_11))), ((a 18), .inl (cI, 770, .inl (ia C_nextOf_12))), ((a 19), .inl (cI, 48, .inl (ia C_count_29))), ((a 20), .inl (cI, 384, .inl (ia C_last_30))), ((a 21), .inl (cI, 384, .inl (ia C_base_31))), ((a 22), .inl (cI, 384, .inl (ia C_wayEarly_32))), ((a 23), .inl (cI, 384, .inl (ia C_wayLate_33))), (o_K a), ((a 25), .inl (cI, 96, .inl (ia K_count_1))), ((a 26), .inl (cI, 96, .inl (ia K_early_2))), ((a 27), .inl (cI, 96, .inl (ia K_late_3))), (o_O a O_count), ((a 42), .inl (cI, 48, .inl (ia O_gates))), (o_N a N_period N_width N_size), ((a 44), .inl (cI, 48, .inl (ia N_kind))), ((a 45), .inl (cI, 48, .inl (ia N_pins))), ((a 46), .inl (cI, 144, .inl (ia N_source))), ((a 47), .inl (cI, 144, .inl (ia N_wireEarly))), ((a 48), .inl (cI, 144, .inl (ia N_wireLate))), ((a 49), .inl (cI, 144, .inl (ia N_senses))), ((a 50), .inl (cI, 288, .inl (ia N_gateEarly))), ((a 51), .inl (cI, 288, .inl (ia N_gateLate)))]) (va_runV (As := [.int (iI v1)]) (rest := []) ⟨hx, hb, hml, hown, hts⟩ (c_ClockWays_gather l D cI cJ cZ F a C_size_5 C_elements_6 C_parent_7 C_early_9 C_late_10 C_firstOf_11 C_nextOf_12 C_count_18 C_last_14 C_base_15 C_wayEarly_16 C_wayLate_17 N_period N_width N_size N_source N_wireEarly N_wireLate v1 C_count_29 C_last_30 C_base_31 C_wayEarly_32 C_wayLate_33 H.size hcall) (cwV 1 hts (gd_V m549 m546 m548 sl_ClockWays_gather m5) rfl rfl rfl ⟨rfl, hc_ClockWays_gather⟩ ⟨Nat.le_of_ble_eq_true rfl, Nat.le_of_ble_eq_true rfl⟩) (pc_V 0 4 [.int (iI v1)] hP hK hD hN [0, 2, 3, 5, 6, 7, 8, 9, 10, 11, 12, 13, 20, 23, 24, 25] rfl rfl rfl rfl rfl) rfl rfl hl.1 rfl (lv_room (Nat.le_of_ble_eq_true rfl)) d_ClockWays_find_52 ⟨Nat.le_refl 0, Nat.le_refl 0⟩) hP hD hS hA [0, 2, 3, 5, 6, 7, 8, 9, 10, 11, 12, 13, 20, 23, 24, 25] [1, 4, 14, 15, 16, 17, 18, 19, 21, 22, 26, 27, 28] [13, 0, 14, 15, 1, 16, 17, 18, 19, 20, 21, 22, 23, 24, 2, 3, 4, 5, 6, 7, 25, 8, 9, 26, 27, 28, 10, 11, 12] rfl rfl rfl (by decide) rfl rfl rfl (fun H locs hP hD hS => ?_)
            refine lv_goto hx hb d_ClockWays_find_55 rfl ?_
            exact hj93 C_count_29 C_last_30 C_base_31 C_wayEarly_32 C_wayLate_33 H locs ls hP hD hS (lv_sub hl [0, 1] rfl) h
    exact hl19 F 0 C_count C_last C_base C_wayEarly C_wayLate H locs ls hP hD hS (lv_sub hl [1, 0] rfl) h
  · replace h := if_f hc h
    refine zv_iconst hx hb d_ClockWays_find_7 ?_
    obtain ⟨hbo, h⟩ := gb_e h
    obtain ⟨e1, e2, e3, e4, e5, e6, e7, e8, e9, e10, e11, e12, e13, e14, e15, e16, e17, e18⟩ := so18 h
    rw [hQ, e1, e2, e3, e4, e5, e6, e7, e8, e9, e10, e11, e12, e13, e14, e15, e16, e17, e18]; rw [hAe] at hD hS; exact W.zret (ty := .boolean) hx hb hr (gb_n hbo) (fun t ht hW => ⟨⟨_, (), rfl, rfl, by rw [ht]; exact hP, va_K.moved hW.alike hK, hD⟩, hS.F ht⟩) hS.2.2 d_ClockWays_find_8
abbrev rm_Net_isStart : Room := { frames := 2, cells := 0, slots := 0, locals := 43 }
set_option maxHeartbeats 4000000 in
set_option maxRecDepth 100000 in
theorem c_Net_isStart (l : Launch) (D : va_G) (cI cJ cZ : ClassId) (F : Nat) (a : Nat → Nat) (N_period : Int) (N_width : Int) (N_size : Int) (N_kind : Int → Int) (x1 : Int) (r : Int) (sz : Nat) (h : f_Net_isStart F N_size N_kind x1 = some (r)) : Met l y_Net_isStart w_Net_isStart rm_Net_isStart (PC D [(cI, .int), (cJ, .long), (cZ, .boolean)] [.ref (a 43), .int (iI x1)] ([(o_N a N_period N_width N_size), ((a 44), .inl (cI, 48, .inl (ia N_kind)))]) sz) (QcRead (iI r)) 0 0 (fun _ => False) := by
  refine Met.ofW (cc := prog_5_method_7_code) (maxL := 2) (ret := (Option.some Jvm.ClassFile.FieldType.boolean)) (by decide) rfl ?_
  intro p e s m args below meth c s₁ B hml hv
  obtain ⟨rfl, hsz, hP, hK, hD0, hN⟩ := hv
  have hx := B.exec
  have hb := B.bytes
  have hr := B.returns
  have hts := atoms_spec (ws := w_Net_isStart) B.pre
  have hown : s.vm.findClass R_Net = some m.cls := findClass_of_methodNamed B.named
  have hlocks := B.notSynchronized
  subst hsz
  have hl := lv_entry ([.ref (a 43), .int (iI x1)]) (n := 2) (Nat.le_of_ble_eq_true rfl)
  rw [lg_entry_eq]
  generalize (lg_sl ([.ref (a 43), .int (iI x1)]) ++ List.replicate (2 - (lg_sl ([.ref (a 43), .int (iI x1)])).length) Slot.unset).toArray = ls at hl ⊢
  have hl : lv_has ls 2 [(0, .ref (a 43)), (1, .int (iI x1))] := hl
  generalize (List.toArray ([.ref (a 43), .int (iI x1)] : List Value)) = args at hts ⊢
  have hT : ∀ w ∈ Tg, w.before args s = true := fun w h => hts w (List.mem_cons_of_mem _ h)
  obtain ⟨Q, hQ⟩ : ∃ Q, Q = MQ below (QcRead (iI r)) args s 0 0 (fun _ => False) := ⟨_, rfl⟩
  rw [← hQ]
  rw [f_Net_isStart] at h
  refine lv_aload_n hx hb d_Net_isStart_0 rfl (lv_at hl 0 rfl) ?_
  refine lv_iload_n hx hb d_Net_isStart_1 rfl (lv_at hl 1 rfl) ?_
  obtain ⟨r2, hcall, h⟩ := ob1_e h
  refine ro_i (va_Run.run (va_runV (As := [.int (iI x1)]) (rest := []) ⟨hx, hb, hml, hown, hts⟩ (c_Net_isNode l D cI cJ cZ F a N_period N_width N_size x1 r2 s.heap.size hcall) (cwV 1 hts (gd_V m570 m567 m568 m569 m2) rfl rfl rfl ⟨rfl, hc_Net_isNode⟩ ⟨Nat.le_of_ble_eq_true rfl, Nat.le_of_ble_eq_true rfl⟩) (pc_V 0 1 [.int (iI x1)] hP hK hD0 hN [0] rfl rfl rfl rfl rfl) rfl rfl hl.1 rfl (lv_room (Nat.le_of_ble_eq_true rfl)) d_Net_isStart_2 ⟨Nat.le_refl 0, Nat.le_refl 0⟩)) (W.eq (g2 := F0 m 5 ls [.int (iI r2)]) rfl ?_)
  have hj32 : ∀  (ls : Array Slot), lv_has ls 2 [] → f_Net_isStart_j32 F = some (r) → W p l e (headSpec w_Net_isStart rm_Net_isStart).room s m args below meth c s.heap [] 0 0 Q (F0 m 32 ls []) := by
    intro  ls hl h
    rw [f_Net_isStart_j32] at h
    refine zv_iconst hx hb d_Net_isStart_32 ?_
    obtain ⟨hbo, h⟩ := gb_e h
    have e1 := so1 h
    rw [hQ, e1]; exact W.zret (ty := .boolean) hx hb hr (gb_n hbo) (fun t ht hW => ⟨rfl, ht⟩) (fun q h => nomatch h) d_Net_isStart_33
  obtain ⟨hg0, h⟩ := gr_e h
  refine zi_eq hx hb d_Net_isStart_5 rfl hg0 (fun hc => ?_) (fun hc => ?_)
  · replace h := if_t hc h
    exact hj32  ls (lv_sub hl [] rfl) h
  · replace h := if_f hc h
    refine lv_aload_n hx hb d_Net_isStart_8 rfl (lv_at hl 0 rfl) ?_
    refine va_get (D := D) (ci := 1) (v := .ref (a 44)) (C := R_Net) (T := F_Net) (N := 15) hx hb hT in_Net hown hK hP 0 rfl rfl 3 (by decide) (hT _ m54) (fun _ h9 => h9) rfl d_Net_isStart_9 ?_
    refine lv_iload_n hx hb d_Net_isStart_12 rfl (lv_at hl 1 rfl) ?_
    obtain ⟨hin, h⟩ := gi_e h
    refine zv_iald hx hb hK hP 1 0 rfl rfl (Nat.le_of_ble_eq_true rfl) hin d_Net_isStart_13 ?_
    refine zv_iconst hx hb d_Net_isStart_14 ?_
    have hj28 : ∀  (ls : Array Slot), lv_has ls 2 [] → f_Net_isStart_j28 F = some (r) → W p l e (headSpec w_Net_isStart rm_Net_isStart).room s m args below meth c s.heap [] 0 0 Q (F0 m 28 ls []) := by
      intro  ls hl h
      rw [f_Net_isStart_j28] at h
      refine zv_iconst hx hb d_Net_isStart_28 ?_
      refine lv_goto hx hb d_Net_isStart_29 rfl ?_
      obtain ⟨hbo, h⟩ := gb_e h
      have e1 := so1 h
      rw [hQ, e1]; exact W.zret (ty := .boolean) hx hb hr (gb_n hbo) (fun t ht hW => ⟨rfl, ht⟩) (fun q h => nomatch h) d_Net_isStart_33
    obtain ⟨hg0, h⟩ := gr_e h
    refine zc_eq hx hb d_Net_isStart_15 rfl hg0 (by decide) (fun hc => ?_) (fun hc => ?_)
    · replace h := if_t hc h
      exact hj28  ls (lv_sub hl [] rfl) h
    · replace h := if_f hc h
      refine lv_aload_n hx hb d_Net_isStart_18 rfl (lv_at hl 0 rfl) ?_
      refine va_get (D := D) (ci := 1) (v := .ref (a 44)) (C := R_Net) (T := F_Net) (N := 15) hx hb hT in_Net hown hK hP 0 rfl rfl 3 (by decide) (hT _ m54) (fun _ h9 => h9) rfl d_Net_isStart_19 ?_
      refine lv_iload_n hx hb d_Net_isStart_22 rfl (lv_at hl 1 rfl) ?_
      obtain ⟨hin, h⟩ := gi_e h
      refine zv_iald hx hb hK hP 1 0 rfl rfl (Nat.le_of_ble_eq_true rfl) hin d_Net_isStart_23 ?_
      refine zv_iconst hx hb d_Net_isStart_24 ?_
      obtain ⟨hg0, h⟩ := gr_e h
      refine zc_ne hx hb d_Net_isStart_25 rfl hg0 (by decide) (fun hc => ?_) (fun hc => ?_)
      · replace h := if_f hc h
        exact hj32  ls (lv_sub hl [] rfl) h
      · replace h := if_t hc h
        exact hj28  ls (lv_sub hl [] rfl) h
abbrev rm_Arrivals_begin : Room := { frames := 2, cells := 0, slots := 0, locals := 49 }
set_option maxHeartbeats 4000000 in
set_option maxRecDepth 100000 in
theorem c_Arrivals_begin (l : Launch) (D : va_G) (cI cJ cZ : ClassId) (F : Nat) (a : Nat → Nat) (C_size : Int) (C_base : Int → Int) (C_wayEarly : Int → Int) (C_wayLate : Int → Int) (Z_count : Int → Int) (Z_early : Int → Int) (Z_late : Int → Int) (V_count : Int → Int) (V_early : Int → Int) (V_late : Int → Int) (N_period : Int) (N_width : Int) (N_size : Int) (N_startEarly : Int → Int) (N_startLate : Int → Int) (x1 : Int) (x2 : Int) (z_Z_count : Int → Int) (z_Z_early : Int → Int) (z_Z_late : Int → Int) (z_V_count : Int → Int) (z_V_early : Int → Int) (z_V_late : Int → Int) (sz : Nat) (h : f_Arrivals_begin F C_base C_wayEarly C_wayLate Z_count Z_early Z_late V_count V_early V_late N_startEarly N_startLate x1 x2 = some (z_Z_count, z_Z_early, z_Z_late, z_V_count, z_V_early, z_V_late)) : Met l y_Arrivals_begin w_Arrivals_begin rm_Arrivals_begin (PC D [(cI, .int), (cJ, .long), (cZ, .boolean)] [.ref (a 1), .int (iI x1), .int (iI x2)] ([(o_A a), (o_C a C_size), ((a 21), .inl (cI, 384, .inl (ia C_base))), ((a 22), .inl (cI, 384, .inl (ia C_wayEarly))), ((a 23), .inl (cI, 384, .inl (ia C_wayLate))), (o_Z a), ((a 33), .inl (cI, 96, .inl (ia Z_count))), ((a 34), .inl (cI, 96, .inl (ia Z_early))), ((a 35), .inl (cI, 96, .inl (ia Z_late))), (o_V a), ((a 37), .inl (cI, 96, .inl (ia V_count))), ((a 38), .inl (cI, 96, .inl (ia V_early))), ((a 39), .inl (cI, 96, .inl (ia V_late))), (o_N a N_period N_width N_size), ((a 52), .inl (cI, 96, .inl (ia N_startEarly))), ((a 53), .inl (cI, 96, .inl (ia N_startLate)))]) sz) (QV D [(cI, .int), (cJ, .long), (cZ, .boolean)] ([(o_A a), (o_C a C_size), ((a 21), .inl (cI, 384, .inl (ia C_base))), ((a 22), .inl (cI, 384, .inl (ia C_wayEarly))), ((a 23), .inl (cI, 384, .inl (ia C_wayLate))), (o_Z a), ((a 33), .inl (cI, 96, .inl (ia Z_count))), ((a 34), .inl (cI, 96, .inl (ia Z_early))), ((a 35), .inl (cI, 96, .inl (ia Z_late))), (o_V a), ((a 37), .inl (cI, 96, .inl (ia V_count))), ((a 38), .inl (cI, 96, .inl (ia V_early))), ((a 39), .inl (cI, 96, .inl (ia V_late))), (o_N a N_period N_width N_size), ((a 52), .inl (cI, 96, .inl (ia N_startEarly))), ((a 53), .inl (cI, 96, .inl (ia N_startLate)))]) sz ([(o_A a), (o_C a C_size), ((a 21), .inl (cI, 384, .inl (ia C_base))), ((a 22), .inl (cI, 384, .inl (ia C_wayEarly))), ((a 23), .inl (cI, 384, .inl (ia C_wayLate))), (o_Z a), ((a 33), .inl (cI, 96, .inl (ia z_Z_count))), ((a 34), .inl (cI, 96, .inl (ia z_Z_early))), ((a 35), .inl (cI, 96, .inl (ia z_Z_late))), (o_V a), ((a 37), .inl (cI, 96, .inl (ia z_V_count))), ((a 38), .inl (cI, 96, .inl (ia z_V_early))), ((a 39), .inl (cI, 96, .inl (ia z_V_late))), (o_N a N_period N_width N_size), ((a 52), .inl (cI, 96, .inl (ia N_startEarly))), ((a 53), .inl (cI, 96, .inl (ia N_startLate)))])) 0 0 (va_A ([(o_A a), (o_C a C_size), ((a 21), .inl (cI, 384, .inl (ia C_base))), ((a 22), .inl (cI, 384, .inl (ia C_wayEarly))), ((a 23), .inl (cI, 384, .inl (ia C_wayLate))), (o_Z a), ((a 33), .inl (cI, 96, .inl (ia Z_count))), ((a 34), .inl (cI, 96, .inl (ia Z_early))), ((a 35), .inl (cI, 96, .inl (ia Z_late))), (o_V a), ((a 37), .inl (cI, 96, .inl (ia V_count))), ((a 38), .inl (cI, 96, .inl (ia V_early))), ((a 39), .inl (cI, 96, .inl (ia V_late))), (o_N a N_period N_width N_size), ((a 52), .inl (cI, 96, .inl (ia N_startEarly))), ((a 53), .inl (cI, 96, .inl (ia N_startLate)))]) sz) := by
  refine Met.ofW (cc := prog_2_method_4_code) (maxL := 6) (ret := (Option.none : Option Jvm.ClassFile.FieldType)) (by decide) rfl ?_
  intro p e s m args below meth c s₁ B hml hv
  obtain ⟨rfl, hsz, hP, hK, hD0, hN⟩ := hv
  have hx := B.exec
  have hb := B.bytes
  have hr := B.returns
  have hts := atoms_spec (ws := w_Arrivals_begin) B.pre
  have hown : s.vm.findClass R_Arrivals = some m.cls := findClass_of_methodNamed B.named
  have hlocks := B.notSynchronized
  subst hsz
  have hD := hD0.self (sz := s.heap.size)
  obtain ⟨A, hAe⟩ : ∃ A, A = va_A ([(o_A a), (o_C a C_size), ((a 21), .inl (cI, 384, .inl (ia C_base))), ((a 22), .inl (cI, 384, .inl (ia C_wayEarly))), ((a 23), .inl (cI, 384, .inl (ia C_wayLate))), (o_Z a), ((a 33), .inl (cI, 96, .inl (ia Z_count))), ((a 34), .inl (cI, 96, .inl (ia Z_early))), ((a 35), .inl (cI, 96, .inl (ia Z_late))), (o_V a), ((a 37), .inl (cI, 96, .inl (ia V_count))), ((a 38), .inl (cI, 96, .inl (ia V_early))), ((a 39), .inl (cI, 96, .inl (ia V_late))), (o_N a N_period N_width N_size), ((a 52), .inl (cI, 96, .inl (ia N_startEarly))), ((a 53), .inl (cI, 96, .inl (ia N_startLate)))]) s.heap.size := ⟨_, rfl⟩
  rw [← hAe] at hD
  have hA : ∀ q : Nat, s.heap.size ≤ q → A q := fun q h => by rw [hAe]; exact Or.inr h
  have hS : va_S A s.heap s.heap [] := va_S.rf
  have hl := lv_entry ([.ref (a 1), .int (iI x1), .int (iI x2)]) (n := 6) (Nat.le_of_ble_eq_true rfl)
  rw [lg_entry_eq]
  generalize (lg_sl ([.ref (a 1), .int (iI x1), .int (iI x2)]) ++ List.replicate (6 - (lg_sl ([.ref (a 1), .int (iI x1), .int (iI x2)])).length) Slot.unset).toArray = ls at hl ⊢
  have hl : lv_has ls 6 [(0, .ref (a 1)), (1, .int (iI x1)), (2, .int (iI x2))] := hl
  generalize (List.toArray ([.ref (a 1), .int (iI x1), .int (iI x2)] : List Value)) = args at hts ⊢
  have hT : ∀ w ∈ Tg, w.before args s = true := fun w h => hts w (List.mem_cons_of_mem _ h)
  obtain ⟨Q, hQ⟩ : ∃ Q, Q = MQ below (QV D [(cI, .int), (cJ, .long), (cZ, .boolean)] ([(o_A a), (o_C a C_size), ((a 21), .inl (cI, 384, .inl (ia C_base))), ((a 22), .inl (cI, 384, .inl (ia C_wayEarly))), ((a 23), .inl (cI, 384, .inl (ia C_wayLate))), (o_Z a), ((a 33), .inl (cI, 96, .inl (ia Z_count))), ((a 34), .inl (cI, 96, .inl (ia Z_early))), ((a 35), .inl (cI, 96, .inl (ia Z_late))), (o_V a), ((a 37), .inl (cI, 96, .inl (ia V_count))), ((a 38), .inl (cI, 96, .inl (ia V_early))), ((a 39), .inl (cI, 96, .inl (ia V_late))), (o_N a N_period N_width N_size), ((a 52), .inl (cI, 96, .inl (ia N_startEarly))), ((a 53), .inl (cI, 96, .inl (ia N_startLate)))]) s.heap.size ([(o_A a), (o_C a C_size), ((a 21), .inl (cI, 384, .inl (ia C_base))), ((a 22), .inl (cI, 384, .inl (ia C_wayEarly))), ((a 23), .inl (cI, 384, .inl (ia C_wayLate))), (o_Z a), ((a 33), .inl (cI, 96, .inl (ia z_Z_count))), ((a 34), .inl (cI, 96, .inl (ia z_Z_early))), ((a 35), .inl (cI, 96, .inl (ia z_Z_late))), (o_V a), ((a 37), .inl (cI, 96, .inl (ia z_V_count))), ((a 38), .inl (cI, 96, .inl (ia z_V_early))), ((a 39), .inl (cI, 96, .inl (ia z_V_late))), (o_N a N_period N_width N_size), ((a 52), .inl (cI, 96, .inl (ia N_startEarly))), ((a 53), .inl (cI, 96, .inl (ia N_startLate)))])) args s 0 0 (va_A ([(o_A a), (o_C a C_size), ((a 21), .inl (cI, 384, .inl (ia C_base))), ((a 22), .inl (cI, 384, .inl (ia C_wayEarly))), ((a 23), .inl (cI, 384, .inl (ia C_wayLate))), (o_Z a), ((a 33), .inl (cI, 96, .inl (ia Z_count))), ((a 34), .inl (cI, 96, .inl (ia Z_early))), ((a 35), .inl (cI, 96, .inl (ia Z_late))), (o_V a), ((a 37), .inl (cI, 96, .inl (ia V_count))), ((a 38), .inl (cI, 96, .inl (ia V_early))), ((a 39), .inl (cI, 96, .inl (ia V_late))), (o_N a N_period N_width N_size), ((a 52), .inl (cI, 96, .inl (ia N_startEarly))), ((a 53), .inl (cI, 96, .inl (ia N_startLate)))]) s.heap.size) := ⟨_, rfl⟩
  rw [← hQ]
  suffices hW : ∀ (H : Heap) (locs : List Loc), va_P D vwCl ([(o_A a), (o_C a C_size), ((a 21), .inl (cI, 384, .inl (ia C_base))), ((a 22), .inl (cI, 384, .inl (ia C_wayEarly))), ((a 23), .inl (cI, 384, .inl (ia C_wayLate))), (o_Z a), ((a 33), .inl (cI, 96, .inl (ia Z_count))), ((a 34), .inl (cI, 96, .inl (ia Z_early))), ((a 35), .inl (cI, 96, .inl (ia Z_late))), (o_V a), ((a 37), .inl (cI, 96, .inl (ia V_count))), ((a 38), .inl (cI, 96, .inl (ia V_early))), ((a 39), .inl (cI, 96, .inl (ia V_late))), (o_N a N_period N_width N_size), ((a 52), .inl (cI, 96, .inl (ia N_startEarly))), ((a 53), .inl (cI, 96, .inl (ia N_startLate)))]) H → va_D A ([(o_A a), (o_C a C_size), ((a 21), .inl (cI, 384, .inl (ia C_base))), ((a 22), .inl (cI, 384, .inl (ia C_wayEarly))), ((a 23), .inl (cI, 384, .inl (ia C_wayLate))), (o_Z a), ((a 33), .inl (cI, 96, .inl (ia Z_count))), ((a 34), .inl (cI, 96, .inl (ia Z_early))), ((a 35), .inl (cI, 96, .inl (ia Z_late))), (o_V a), ((a 37), .inl (cI, 96, .inl (ia V_count))), ((a 38), .inl (cI, 96, .inl (ia V_early))), ((a 39), .inl (cI, 96, .inl (ia V_late))), (o_N a N_period N_width N_size), ((a 52), .inl (cI, 96, .inl (ia N_startEarly))), ((a 53), .inl (cI, 96, .inl (ia N_startLate)))]) → va_S A s.heap H locs → W p l e (headSpec w_Arrivals_begin rm_Arrivals_begin).room s m args below meth c H locs 0 0 Q (F0 m 0 ls []) from hW s.heap [] hP hD hS
  clear hP hD hS
  intro H locs hP hD hS
  rw [f_Arrivals_begin] at h
  refine lv_aload_n hx hb d_Arrivals_begin_0 rfl (lv_at hl 0 rfl) ?_
  refine va_get (D := D) (ci := 5) (v := .ref (a 10)) (C := R_Arrivals) (T := F_Arrivals) (N := 4) hx hb hT in_Arrivals hown hK hP 0 rfl rfl 1 (by decide) (hT _ m299) (fun _ h9 => h9) rfl d_Arrivals_begin_1 ?_
  refine va_get (D := D) (ci := 4) (v := .ref (a 21)) (C := R_ClockWays) (T := F_ClockWays) (N := 17) hx hb hT in_ClockWays hown hK hP 1 rfl rfl 14 (by decide) (hT _ m215) (fun _ h9 => h9) rfl d_Arrivals_begin_4 ?_
  refine lv_iload_n hx hb d_Arrivals_begin_7 rfl (lv_at hl 2 rfl) ?_
  obtain ⟨hin, h⟩ := gi_e h
  refine zv_iald hx hb hK hP 2 0 rfl rfl (Nat.le_of_ble_eq_true rfl) hin d_Arrivals_begin_8 ?_
  refine zv_top (fun v3 hv => ?_)
  replace h := bd_e hv h
  refine lv_istore_n (lv' := [(3, .int (iI v3)), (0, .ref (a 1)), (1, .int (iI x1)), (2, .int (iI x2))]) hx hb d_Arrivals_begin_9 rfl hl (by decide) rfl (fun ls hl => ?_)
  refine lv_iload_n hx hb d_Arrivals_begin_10 rfl (lv_at hl 0 rfl) ?_
  obtain ⟨hg0, h⟩ := gr_e h
  refine zi_ne hx hb d_Arrivals_begin_11 rfl hg0 (fun hc => ?_) (fun hc => ?_)
  · replace h := if_f hc h
    refine lv_aload_n hx hb d_Arrivals_begin_21 rfl (lv_at hl 1 rfl) ?_
    refine va_get (D := D) (ci := 5) (v := .ref (a 36)) (C := R_Arrivals) (T := F_Arrivals) (N := 4) hx hb hT in_Arrivals hown hK hP 0 rfl rfl 3 (by decide) (hT _ m301) (fun _ h9 => h9) rfl d_Arrivals_begin_22 ?_
    refine lv_astore (lv' := [(4, .ref (a 36)), (3, .int (iI v3)), (0, .ref (a 1)), (1, .int (iI x1)), (2, .int (iI x2))]) hx hb d_Arrivals_begin_25 hl (by decide) rfl (fun ls hl => ?_)
    refine zv_iconst hx hb d_Arrivals_begin_27 ?_
    refine lv_iload_n hx hb d_Arrivals_begin_28 rfl (lv_at hl 3 rfl) ?_
    refine zv_imul hx hb d_Arrivals_begin_29 ?_
    refine zv_top (fun v5 hv => ?_)
    replace h := bd_e hv h
    refine lv_istore (lv' := [(5, .int (iI v5)), (4, .ref (a 36)), (3, .int (iI v3)), (0, .ref (a 1)), (1, .int (iI x1)), (2, .int (iI x2))]) hx hb d_Arrivals_begin_30 hl (by decide) rfl (fun ls hl => ?_)
    have hl32 : ∀ (nf : Nat) (v5_1 : Int) (Z_count_2 : Int → Int) (Z_early_3 : Int → Int) (Z_late_4 : Int → Int) (V_count_5 : Int → Int) (V_early_6 : Int → Int) (V_late_7 : Int → Int) (H : Heap) (locs : List Loc) (ls : Array Slot), va_P D vwCl [(o_A a), (o_C a C_size), ((a 21), .inl (cI, 384, .inl (ia C_base))), ((a 22), .inl (cI, 384, .inl (ia C_wayEarly))), ((a 23), .inl (cI, 384, .inl (ia C_wayLate))), (o_Z a), ((a 33), .inl (cI, 96, .inl (ia Z_count_2))), ((a 34), .inl (cI, 96, .inl (ia Z_early_3))), ((a 35), .inl (cI, 96, .inl (ia Z_late_4))), (o_V a), ((a 37), .inl (cI, 96, .inl (ia V_count_5))), ((a 38), .inl (cI, 96, .inl (ia V_early_6))), ((a 39), .inl (cI, 96, .inl (ia V_late_7))), (o_N a N_period N_width N_size), ((a 52), .inl (cI, 96, .inl (ia N_startEarly))), ((a 53), .inl (cI, 96, .inl (ia N_startLate)))] H → va_D A [(o_A a), (o_C a C_size), ((a 21), .inl (cI, 384, .inl (ia C_base))), ((a 22), .inl (cI, 384, .inl (ia C_wayEarly))), ((a 23), .inl (cI, 384, .inl (ia C_wayLate))), (o_Z a), ((a 33), .inl (cI, 96, .inl (ia Z_count_2))), ((a 34), .inl (cI, 96, .inl (ia Z_early_3))), ((a 35), .inl (cI, 96, .inl (ia Z_late_4))), (o_V a), ((a 37), .inl (cI, 96, .inl (ia V_count_5))), ((a 38), .inl (cI, 96, .inl (ia V_early_6))), ((a 39), .inl (cI, 96, .inl (ia V_late_7))), (o_N a N_period N_width N_size), ((a 52), .inl (cI, 96, .inl (ia N_startEarly))), ((a 53), .inl (cI, 96, .inl (ia N_startLate)))] → va_S A s.heap H locs → lv_has ls 6 [(0, .ref (a 1)), (1, .int (iI x1)), (2, .int (iI x2)), (3, .int (iI v3)), (4, .ref (a 36)), (5, .int (iI v5_1))] → lq7 (f_Arrivals_begin_b32 F C_wayEarly C_wayLate N_startEarly N_startLate x1 x2 v3) nf v5_1 Z_count_2 Z_early_3 Z_late_4 V_count_5 V_early_6 V_late_7 = some (z_Z_count, z_Z_early, z_Z_late, z_V_count, z_V_early, z_V_late) → W p l e (headSpec w_Arrivals_begin rm_Arrivals_begin).room s m args below meth c H locs 0 0 Q (F0 m 32 ls []) := by
      intro n32
      induction n32 with
      | zero => intro v5_1 Z_count_2 Z_early_3 Z_late_4 V_count_5 V_early_6 V_late_7 H locs ls hP hD hS hl h; exact no_some h
      | succ n32 ih32 =>
        intro v5_1 Z_count_2 Z_early_3 Z_late_4 V_count_5 V_early_6 V_late_7 H locs ls hP hD hS hl h
        replace h : f_Arrivals_begin_b32 F C_wayEarly C_wayLate N_startEarly N_startLate x1 x2 v3 (lq7 (f_Arrivals_begin_b32 F C_wayEarly C_wayLate N_startEarly N_startLate x1 x2 v3) n32) v5_1 Z_count_2 Z_early_3 Z_late_4 V_count_5 V_early_6 V_late_7 = some (z_Z_count, z_Z_early, z_Z_late, z_V_count, z_V_early, z_V_late) := h
        obtain ⟨self32, hs32⟩ : ∃ z, z = lq7 (f_Arrivals_begin_b32 F C_wayEarly C_wayLate N_startEarly N_startLate x1 x2 v3) n32 := ⟨_, rfl⟩
        rw [← hs32] at h ih32
        rw [f_Arrivals_begin_b32] at h
        refine lv_iload hx hb d_Arrivals_begin_32 (lv_at hl 5 rfl) ?_
        refine zv_iconst hx hb d_Arrivals_begin_34 ?_
        refine lv_iload_n hx hb d_Arrivals_begin_35 rfl (lv_at hl 1 rfl) ?_
        refine zv_imul hx hb d_Arrivals_begin_36 ?_
        refine zv_iconst hx hb d_Arrivals_begin_37 ?_
        refine zv_iadd hx hb d_Arrivals_begin_38 ?_
        obtain ⟨hg0, h⟩ := gr_e h
        obtain ⟨hg1, h⟩ := gr_e h
        refine zc_gt hx hb d_Arrivals_begin_39 rfl hg0 hg1 (fun hc => ?_) (fun hc => ?_)
        · replace h := if_t hc h
          obtain ⟨e1, e2, e3, e4, e5, e6⟩ := so6 h
          rw [hQ, e1, e2, e3, e4, e5, e6]; rw [hAe] at hD hS; exact W.vret hx hb hr (fun t ht hW => ⟨⟨(), rfl, trivial, by rw [ht]; exact hP, va_K.moved hW.alike hK, hD⟩, hS.F ht⟩) hS.2.2 d_Arrivals_begin_100
        · replace h := if_f hc h
          refine lv_aload hx hb d_Arrivals_begin_42 (lv_at hl 4 rfl) ?_
          refine lv_iload hx hb d_Arrivals_begin_44 (lv_at hl 5 rfl) ?_
          refine zv_iconst hx hb d_Arrivals_begin_46 ?_
          refine lv_iload_n hx hb d_Arrivals_begin_47 rfl (lv_at hl 3 rfl) ?_
          refine lv_aload_n hx hb d_Arrivals_begin_48 rfl (lv_at hl 0 rfl) ?_
          refine va_get (D := D) (ci := 5) (v := .ref (a 10)) (C := R_Arrivals) (T := F_Arrivals) (N := 4) hx hb hT in_Arrivals hown hK hP 0 rfl rfl 1 (by decide) (hT _ m299) (fun _ h9 => h9) rfl d_Arrivals_begin_49 ?_
          refine va_get (D := D) (ci := 4) (v := .ref (a 22)) (C := R_ClockWays) (T := F_ClockWays) (N := 17) hx hb hT in_ClockWays hown hK hP 1 rfl rfl 15 (by decide) (hT _ m218) (fun _ h9 => h9) rfl d_Arrivals_begin_52 ?_
          refine lv_iload_n hx hb d_Arrivals_begin_55 rfl (lv_at hl 2 rfl) ?_
          obtain ⟨hin, h⟩ := gi_e h
          refine zv_iald hx hb hK hP 3 0 rfl rfl (Nat.le_of_ble_eq_true rfl) hin d_Arrivals_begin_56 ?_
          refine zv_iadd hx hb d_Arrivals_begin_57 ?_
          refine lv_aload_n hx hb d_Arrivals_begin_58 rfl (lv_at hl 0 rfl) ?_
          refine va_get (D := D) (ci := 5) (v := .ref (a 43)) (C := R_Arrivals) (T := F_Arrivals) (N := 4) hx hb hT in_Arrivals hown hK hP 0 rfl rfl 0 (by decide) (hT _ m298) (fun _ h9 => h9) rfl d_Arrivals_begin_59 ?_
          refine va_get (D := D) (ci := 1) (v := .ref (a 52)) (C := R_Net) (T := F_Net) (N := 15) hx hb hT in_Net hown hK hP 13 rfl rfl 11 (by decide) (hT _ m86) (fun _ h9 => h9) rfl d_Arrivals_begin_62 ?_
          refine lv_iload hx hb d_Arrivals_begin_65 (lv_at hl 5 rfl) ?_
          obtain ⟨hin, h⟩ := gi_e h
          refine zv_iald hx hb hK hP 14 0 rfl rfl (Nat.le_of_ble_eq_true rfl) hin d_Arrivals_begin_67 ?_
          refine zv_iadd hx hb d_Arrivals_begin_68 ?_
          refine lv_iload_n hx hb d_Arrivals_begin_69 rfl (lv_at hl 3 rfl) ?_
          refine lv_aload_n hx hb d_Arrivals_begin_70 rfl (lv_at hl 0 rfl) ?_
          refine va_get (D := D) (ci := 5) (v := .ref (a 10)) (C := R_Arrivals) (T := F_Arrivals) (N := 4) hx hb hT in_Arrivals hown hK hP 0 rfl rfl 1 (by decide) (hT _ m299) (fun _ h9 => h9) rfl d_Arrivals_begin_71 ?_
          refine va_get (D := D) (ci := 4) (v := .ref (a 23)) (C := R_ClockWays) (T := F_ClockWays) (N := 17) hx hb hT in_ClockWays hown hK hP 1 rfl rfl 16 (by decide) (hT _ m221) (fun _ h9 => h9) rfl d_Arrivals_begin_74 ?_
          refine lv_iload_n hx hb d_Arrivals_begin_77 rfl (lv_at hl 2 rfl) ?_
          obtain ⟨hin, h⟩ := gi_e h
          refine zv_iald hx hb hK hP 4 0 rfl rfl (Nat.le_of_ble_eq_true rfl) hin d_Arrivals_begin_78 ?_
          refine zv_iadd hx hb d_Arrivals_begin_79 ?_
          refine lv_aload_n hx hb d_Arrivals_begin_80 rfl (lv_at hl 0 rfl) ?_
          refine va_get (D := D) (ci := 5) (v := .ref (a 43)) (C := R_Arrivals) (T := F_Arrivals) (N := 4) hx hb hT in_Arrivals hown hK hP 0 rfl rfl 0 (by decide) (hT _ m298) (fun _ h9 => h9) rfl d_Arrivals_begin_81 ?_
          refine va_get (D := D) (ci := 1) (v := .ref (a 53)) (C := R_Net) (T := F_Net) (N := 15) hx hb hT in_Net hown hK hP 13 rfl rfl 12 (by decide) (hT _ m90) (fun _ h9 => h9) rfl d_Arrivals_begin_84 ?_
          refine lv_iload hx hb d_Arrivals_begin_87 (lv_at hl 5 rfl) ?_
          obtain ⟨hin, h⟩ := gi_e h
          refine zv_iald hx hb hK hP 15 0 rfl rfl (Nat.le_of_ble_eq_true rfl) hin d_Arrivals_begin_89 ?_
          refine zv_iadd hx hb d_Arrivals_begin_90 ?_
          obtain ⟨V_count_8, V_early_9, V_late_10, hcall, h⟩ := ob3_e h
          refine ca_v (w2 := [(o_A a), (o_C a C_size), ((a 21), .inl (cI, 384, .inl (ia C_base))), ((a 22), .inl (cI, 384, .inl (ia C_wayEarly))), ((a 23), .inl (cI, 384, .inl (ia C_wayLate))), (o_Z a), ((a 33), .inl (cI, 96, .inl (ia Z_count_2))), ((a 34), .inl (cI, 96, .inl (ia Z_early_3))), ((a 35), .inl (cI, 96, .inl (ia Z_late_4))), (o_V a), ((a 37), .inl (cI, 96, .inl (ia V_count_8))), ((a 38), .inl (cI, 96, .inl (ia V_early_9))), ((a 39), .inl (cI, 96, .inl (ia V_late_10))), (o_N a N_period N_width N_size), ((a 52), .inl (cI, 96, .inl (ia N_startEarly))), ((a 53), .inl (cI, 96, .inl (ia N_startLate)))]) (va_runV (As := [.int (iI v5_1), .int (iI 1), .int (iI ((v3 + (C_wayEarly x2)) + (N_startEarly v5_1))), .int (iI ((v3 + (C_wayLate x2)) + (N_startLate v5_1)))]) (rest := []) ⟨hx, hb, hml, hown, hts⟩ (c_Spread_join l D cI cJ cZ F a (a 36) (a 37) (a 38) (a 39) V_count_5 V_early_6 V_late_7 v5_1 1 ((v3 + (C_wayEarly x2)) + (N_startEarly v5_1)) ((v3 + (C_wayLate x2)) + (N_startLate v5_1)) V_count_8 V_early_9 V_late_10 H.size hcall) (cwV 4 hts (gd_V m494 m578 m492 m493 m6) rfl rfl rfl ⟨rfl, hc_Spread_join⟩ ⟨Nat.le_of_ble_eq_true rfl, Nat.le_of_ble_eq_true rfl⟩) (pc_V 9 3 [.int (iI v5_1), .int (iI 1), .int (iI ((v3 + (C_wayEarly x2)) + (N_startEarly v5_1))), .int (iI ((v3 + (C_wayLate x2)) + (N_startLate v5_1)))] hP hK hD hN [9, 10, 11, 12] rfl rfl rfl rfl rfl) rfl rfl hl.1 rfl (lv_room (Nat.le_of_ble_eq_true rfl)) d_Arrivals_begin_91 ⟨Nat.le_refl 0, Nat.le_refl 0⟩) hP hD hS hA [9, 10, 11, 12] [0, 1, 2, 3, 4, 5, 6, 7, 8, 13, 14, 15] [0, 1, 2, 3, 4, 5, 6, 7, 8, 12, 13, 14, 15, 9, 10, 11] rfl rfl rfl (by decide) rfl rfl rfl (fun H locs hP hD hS => ?_)
          refine lv_iinc (v := iI (v5_1 + 1)) (k := 5) (lv' := [(5, .int (iI (v5_1 + 1))), (0, .ref (a 1)), (1, .int (iI x1)), (2, .int (iI x2)), (3, .int (iI v3)), (4, .ref (a 36))]) hx hb d_Arrivals_begin_94 hl rfl (iI_add _ _) (by decide) rfl (fun ls hl => ?_)
          refine lv_goto hx hb d_Arrivals_begin_97 rfl ?_
          exact ih32 (v5_1 + 1) Z_count_2 Z_early_3 Z_late_4 V_count_8 V_early_9 V_late_10 H locs ls hP hD hS (lv_sub hl [1, 2, 3, 4, 5, 0] rfl) h
    exact hl32 F v5 Z_count Z_early Z_late V_count V_early V_late H locs ls hP hD hS (lv_sub hl [3, 4, 5, 2, 1, 0] rfl) h
  · replace h := if_t hc h
    refine lv_aload_n hx hb d_Arrivals_begin_14 rfl (lv_at hl 1 rfl) ?_
    refine va_get (D := D) (ci := 5) (v := .ref (a 32)) (C := R_Arrivals) (T := F_Arrivals) (N := 4) hx hb hT in_Arrivals hown hK hP 0 rfl rfl 2 (by decide) (hT _ m300) (fun _ h9 => h9) rfl d_Arrivals_begin_15 ?_
    refine lv_goto hx hb d_Arrivals_begin_18 rfl ?_
    refine lv_astore (lv' := [(4, .ref (a 32)), (3, .int (iI v3)), (0, .ref (a 1)), (1, .int (iI x1)), (2, .int (iI x2))]) hx hb d_Arrivals_begin_25 hl (by decide) rfl (fun ls hl => ?_)
    refine zv_iconst hx hb d_Arrivals_begin_27 ?_
    refine lv_iload_n hx hb d_Arrivals_begin_28 rfl (lv_at hl 3 rfl) ?_
    refine zv_imul hx hb d_Arrivals_begin_29 ?_
    refine zv_top (fun v5_11 hv => ?_)
    replace h := bd_e hv h
    refine lv_istore (lv' := [(5, .int (iI v5_11)), (4, .ref (a 32)), (3, .int (iI v3)), (0, .ref (a 1)), (1, .int (iI x1)), (2, .int (iI x2))]) hx hb d_Arrivals_begin_30 hl (by decide) rfl (fun ls hl => ?_)
    have hl32 : ∀ (nf : Nat) (v5_12 : Int) (Z_count_13 : Int → Int) (Z_early_14 : Int → Int) (Z_late_15 : Int → Int) (V_count_16 : Int → Int) (V_early_17 : Int → Int) (V_late_18 : Int → Int) (H : Heap) (locs : List Loc) (ls : Array Slot), va_P D vwCl [(o_A a), (o_C a C_size), ((a 21), .inl (cI, 384, .inl (ia C_base))), ((a 22), .inl (cI, 384, .inl (ia C_wayEarly))), ((a 23), .inl (cI, 384, .inl (ia C_wayLate))), (o_Z a), ((a 33), .inl (cI, 96, .inl (ia Z_count_13))), ((a 34), .inl (cI, 96, .inl (ia Z_early_14))), ((a 35), .inl (cI, 96, .inl (ia Z_late_15))), (o_V a), ((a 37), .inl (cI, 96, .inl (ia V_count_16))), ((a 38), .inl (cI, 96, .inl (ia V_early_17))), ((a 39), .inl (cI, 96, .inl (ia V_late_18))), (o_N a N_period N_width N_size), ((a 52), .inl (cI, 96, .inl (ia N_startEarly))), ((a 53), .inl (cI, 96, .inl (ia N_startLate)))] H → va_D A [(o_A a), (o_C a C_size), ((a 21), .inl (cI, 384, .inl (ia C_base))), ((a 22), .inl (cI, 384, .inl (ia C_wayEarly))), ((a 23), .inl (cI, 384, .inl (ia C_wayLate))), (o_Z a), ((a 33), .inl (cI, 96, .inl (ia Z_count_13))), ((a 34), .inl (cI, 96, .inl (ia Z_early_14))), ((a 35), .inl (cI, 96, .inl (ia Z_late_15))), (o_V a), ((a 37), .inl (cI, 96, .inl (ia V_count_16))), ((a 38), .inl (cI, 96, .inl (ia V_early_17))), ((a 39), .inl (cI, 96, .inl (ia V_late_18))), (o_N a N_period N_width N_size), ((a 52), .inl (cI, 96, .inl (ia N_startEarly))), ((a 53), .inl (cI, 96, .inl (ia N_startLate)))] → va_S A s.heap H locs → lv_has ls 6 [(0, .ref (a 1)), (1, .int (iI x1)), (2, .int (iI x2)), (3, .int (iI v3)), (4, .ref (a 32)), (5, .int (iI v5_12))] → lq7 (f_Arrivals_begin_b32x F C_wayEarly C_wayLate N_startEarly N_startLate x1 x2 v3) nf v5_12 Z_count_13 Z_early_14 Z_late_15 V_count_16 V_early_17 V_late_18 = some (z_Z_count, z_Z_early, z_Z_late, z_V_count, z_V_early, z_V_late) → W p l e (headSpec w_Arrivals_begin rm_Arrivals_begin).room s m args below meth c H locs 0 0 Q (F0 m 32 ls []) := by
      intro n32
      induction n32 with
      | zero => intro v5_12 Z_count_13 Z_early_14 Z_late_15 V_count_16 V_early_17 V_late_18 H locs ls hP hD hS hl h; exact no_some h
      | succ n32 ih32 =>
        intro v5_12 Z_count_13 Z_early_14 Z_late_15 V_count_16 V_early_17 V_late_18 H locs ls hP hD hS hl h
        replace h : f_Arrivals_begin_b32x F C_wayEarly C_wayLate N_startEarly N_startLate x1 x2 v3 (lq7 (f_Arrivals_begin_b32x F C_wayEarly C_wayLate N_startEarly N_startLate x1 x2 v3) n32) v5_12 Z_count_13 Z_early_14 Z_late_15 V_count_16 V_early_17 V_late_18 = some (z_Z_count, z_Z_early, z_Z_late, z_V_count, z_V_early, z_V_late) := h
        obtain ⟨self32x, hs32⟩ : ∃ z, z = lq7 (f_Arrivals_begin_b32x F C_wayEarly C_wayLate N_startEarly N_startLate x1 x2 v3) n32 := ⟨_, rfl⟩
        rw [← hs32] at h ih32
        rw [f_Arrivals_begin_b32x] at h
        refine lv_iload hx hb d_Arrivals_begin_32 (lv_at hl 5 rfl) ?_
        refine zv_iconst hx hb d_Arrivals_begin_34 ?_
        refine lv_iload_n hx hb d_Arrivals_begin_35 rfl (lv_at hl 1 rfl) ?_
        refine zv_imul hx hb d_Arrivals_begin_36 ?_
        refine zv_iconst hx hb d_Arrivals_begin_37 ?_
        refine zv_iadd hx hb d_Arrivals_begin_38 ?_
        obtain ⟨hg0, h⟩ := gr_e h
        obtain ⟨hg1, h⟩ := gr_e h
        refine zc_gt hx hb d_Arrivals_begin_39 rfl hg0 hg1 (fun hc => ?_) (fun hc => ?_)
        · replace h := if_t hc h
          obtain ⟨e1, e2, e3, e4, e5, e6⟩ := so6 h
          rw [hQ, e1, e2, e3, e4, e5, e6]; rw [hAe] at hD hS; exact W.vret hx hb hr (fun t ht hW => ⟨⟨(), rfl, trivial, by rw [ht]; exact hP, va_K.moved hW.alike hK, hD⟩, hS.F ht⟩) hS.2.2 d_Arrivals_begin_100
        · replace h := if_f hc h
          refine lv_aload hx hb d_Arrivals_begin_42 (lv_at hl 4 rfl) ?_
          refine lv_iload hx hb d_Arrivals_begin_44 (lv_at hl 5 rfl) ?_
          refine zv_iconst hx hb d_Arrivals_begin_46 ?_
          refine lv_iload_n hx hb d_Arrivals_begin_47 rfl (lv_at hl 3 rfl) ?_
          refine lv_aload_n hx hb d_Arrivals_begin_48 rfl (lv_at hl 0 rfl) ?_
          refine va_get (D := D) (ci := 5) (v := .ref (a 10)) (C := R_Arrivals) (T := F_Arrivals) (N := 4) hx hb hT in_Arrivals hown hK hP 0 rfl rfl 1 (by decide) (hT _ m299) (fun _ h9 => h9) rfl d_Arrivals_begin_49 ?_
          refine va_get (D := D) (ci := 4) (v := .ref (a 22)) (C := R_ClockWays) (T := F_ClockWays) (N := 17) hx hb hT in_ClockWays hown hK hP 1 rfl rfl 15 (by decide) (hT _ m218) (fun _ h9 => h9) rfl d_Arrivals_begin_52 ?_
          refine lv_iload_n hx hb d_Arrivals_begin_55 rfl (lv_at hl 2 rfl) ?_
          obtain ⟨hin, h⟩ := gi_e h
          refine zv_iald hx hb hK hP 3 0 rfl rfl (Nat.le_of_ble_eq_true rfl) hin d_Arrivals_begin_56 ?_
          refine zv_iadd hx hb d_Arrivals_begin_57 ?_
          refine lv_aload_n hx hb d_Arrivals_begin_58 rfl (lv_at hl 0 rfl) ?_
          refine va_get (D := D) (ci := 5) (v := .ref (a 43)) (C := R_Arrivals) (T := F_Arrivals) (N := 4) hx hb hT in_Arrivals hown hK hP 0 rfl rfl 0 (by decide) (hT _ m298) (fun _ h9 => h9) rfl d_Arrivals_begin_59 ?_
          refine va_get (D := D) (ci := 1) (v := .ref (a 52)) (C := R_Net) (T := F_Net) (N := 15) hx hb hT in_Net hown hK hP 13 rfl rfl 11 (by decide) (hT _ m86) (fun _ h9 => h9) rfl d_Arrivals_begin_62 ?_
          refine lv_iload hx hb d_Arrivals_begin_65 (lv_at hl 5 rfl) ?_
          obtain ⟨hin, h⟩ := gi_e h
          refine zv_iald hx hb hK hP 14 0 rfl rfl (Nat.le_of_ble_eq_true rfl) hin d_Arrivals_begin_67 ?_
          refine zv_iadd hx hb d_Arrivals_begin_68 ?_
          refine lv_iload_n hx hb d_Arrivals_begin_69 rfl (lv_at hl 3 rfl) ?_
          refine lv_aload_n hx hb d_Arrivals_begin_70 rfl (lv_at hl 0 rfl) ?_
          refine va_get (D := D) (ci := 5) (v := .ref (a 10)) (C := R_Arrivals) (T := F_Arrivals) (N := 4) hx hb hT in_Arrivals hown hK hP 0 rfl rfl 1 (by decide) (hT _ m299) (fun _ h9 => h9) rfl d_Arrivals_begin_71 ?_
          refine va_get (D := D) (ci := 4) (v := .ref (a 23)) (C := R_ClockWays) (T := F_ClockWays) (N := 17) hx hb hT in_ClockWays hown hK hP 1 rfl rfl 16 (by decide) (hT _ m221) (fun _ h9 => h9) rfl d_Arrivals_begin_74 ?_
          refine lv_iload_n hx hb d_Arrivals_begin_77 rfl (lv_at hl 2 rfl) ?_
          obtain ⟨hin, h⟩ := gi_e h
          refine zv_iald hx hb hK hP 4 0 rfl rfl (Nat.le_of_ble_eq_true rfl) hin d_Arrivals_begin_78 ?_
          refine zv_iadd hx hb d_Arrivals_begin_79 ?_
          refine lv_aload_n hx hb d_Arrivals_begin_80 rfl (lv_at hl 0 rfl) ?_
          refine va_get (D := D) (ci := 5) (v := .ref (a 43)) (C := R_Arrivals) (T := F_Arrivals) (N := 4) hx hb hT in_Arrivals hown hK hP 0 rfl rfl 0 (by decide) (hT _ m298) (fun _ h9 => h9) rfl d_Arrivals_begin_81 ?_
          refine va_get (D := D) (ci := 1) (v := .ref (a 53)) (C := R_Net) (T := F_Net) (N := 15) hx hb hT in_Net hown hK hP 13 rfl rfl 12 (by decide) (hT _ m90) (fun _ h9 => h9) rfl d_Arrivals_begin_84 ?_
          refine lv_iload hx hb d_Arrivals_begin_87 (lv_at hl 5 rfl) ?_
          obtain ⟨hin, h⟩ := gi_e h
          refine zv_iald hx hb hK hP 15 0 rfl rfl (Nat.le_of_ble_eq_true rfl) hin d_Arrivals_begin_89 ?_
          refine zv_iadd hx hb d_Arrivals_begin_90 ?_
          obtain ⟨Z_count_19, Z_early_20, Z_late_21, hcall, h⟩ := ob3_e h
          refine ca_v (w2 := [(o_A a), (o_C a C_size), ((a 21), .inl (cI, 384, .inl (ia C_base))), ((a 22), .inl (cI, 384, .inl (ia C_wayEarly))), ((a 23), .inl (cI, 384, .inl (ia C_wayLate))), (o_Z a), ((a 33), .inl (cI, 96, .inl (ia Z_count_19))), ((a 34), .inl (cI, 96, .inl (ia Z_early_20))), ((a 35), .inl (cI, 96, .inl (ia Z_late_21))), (o_V a), ((a 37), .inl (cI, 96, .inl (ia V_count_16))), ((a 38), .inl (cI, 96, .inl (ia V_early_17))), ((a 39), .inl (cI, 96, .inl (ia V_late_18))), (o_N a N_period N_width N_size), ((a 52), .inl (cI, 96, .inl (ia N_startEarly))), ((a 53), .inl (cI, 96, .inl (ia N_startLate)))]) (va_runV (As := [.int (iI v5_12), .int (iI 1), .int (iI ((v3 + (C_wayEarly x2)) + (N_startEarly v5_12))), .int (iI ((v3 + (C_wayLate x2)) + (N_startLate v5_12)))]) (rest := []) ⟨hx, hb, hml, hown, hts⟩ (c_Spread_join l D cI cJ cZ F a (a 32) (a 33) (a 34) (a 35) Z_count_13 Z_early_14 Z_late_15 v5_12 1 ((v3 + (C_wayEarly x2)) + (N_startEarly v5_12)) ((v3 + (C_wayLate x2)) + (N_startLate v5_12)) Z_count_19 Z_early_20 Z_late_21 H.size hcall) (cwV 4 hts (gd_V m494 m578 m492 m493 m6) rfl rfl rfl ⟨rfl, hc_Spread_join⟩ ⟨Nat.le_of_ble_eq_true rfl, Nat.le_of_ble_eq_true rfl⟩) (pc_V 5 3 [.int (iI v5_12), .int (iI 1), .int (iI ((v3 + (C_wayEarly x2)) + (N_startEarly v5_12))), .int (iI ((v3 + (C_wayLate x2)) + (N_startLate v5_12)))] hP hK hD hN [5, 6, 7, 8] rfl rfl rfl rfl rfl) rfl rfl hl.1 rfl (lv_room (Nat.le_of_ble_eq_true rfl)) d_Arrivals_begin_91 ⟨Nat.le_refl 0, Nat.le_refl 0⟩) hP hD hS hA [5, 6, 7, 8] [0, 1, 2, 3, 4, 9, 10, 11, 12, 13, 14, 15] [0, 1, 2, 3, 4, 12, 13, 14, 15, 5, 6, 7, 8, 9, 10, 11] rfl rfl rfl (by decide) rfl rfl rfl (fun H locs hP hD hS => ?_)
          refine lv_iinc (v := iI (v5_12 + 1)) (k := 5) (lv' := [(5, .int (iI (v5_12 + 1))), (0, .ref (a 1)), (1, .int (iI x1)), (2, .int (iI x2)), (3, .int (iI v3)), (4, .ref (a 32))]) hx hb d_Arrivals_begin_94 hl rfl (iI_add _ _) (by decide) rfl (fun ls hl => ?_)
          refine lv_goto hx hb d_Arrivals_begin_97 rfl ?_
          exact ih32 (v5_12 + 1) Z_count_19 Z_early_20 Z_late_21 V_count_16 V_early_17 V_late_18 H locs ls hP hD hS (lv_sub hl [1, 2, 3, 4, 5, 0] rfl) h
    exact hl32 F v5_11 Z_count Z_early Z_late V_count V_early V_late H locs ls hP hD hS (lv_sub hl [3, 4, 5, 2, 1, 0] rfl) h
