abbrev rm_Arrivals_reckon : Room := { frames := 4, cells := 0, slots := 0, locals := 98 }
set_option maxHeartbeats 4000000 in
set_option maxRecDepth 100000 in
theorem c_Arrivals_reckon (l : Launch) (D : va_G) (cI cJ cZ : ClassId) (F : Nat) (a : Nat → Nat) (C_size : Int) (C_count : Int → Int) (C_base : Int → Int) (C_wayEarly : Int → Int) (C_wayLate : Int → Int) (Z_count : Int → Int) (Z_early : Int → Int) (Z_late : Int → Int) (V_count : Int → Int) (V_early : Int → Int) (V_late : Int → Int) (O_count : Int) (O_gates : Int → Int) (N_period : Int) (N_width : Int) (N_size : Int) (N_kind : Int → Int) (N_pins : Int → Int) (N_source : Int → Int) (N_wireEarly : Int → Int) (N_wireLate : Int → Int) (N_senses : Int → Int) (N_gateEarly : Int → Int) (N_gateLate : Int → Int) (N_startEarly : Int → Int) (N_startLate : Int → Int) (z_Z_count : Int → Int) (z_Z_early : Int → Int) (z_Z_late : Int → Int) (z_V_count : Int → Int) (z_V_early : Int → Int) (z_V_late : Int → Int) (sz : Nat) (h : f_Arrivals_reckon F C_count C_base C_wayEarly C_wayLate Z_count Z_early Z_late V_count V_early V_late O_count O_gates N_size N_kind N_pins N_source N_wireEarly N_wireLate N_senses N_gateEarly N_gateLate N_startEarly N_startLate = some (z_Z_count, z_Z_early, z_Z_late, z_V_count, z_V_early, z_V_late)) : Met l y_Arrivals_reckon w_Arrivals_reckon rm_Arrivals_reckon (PC D [(cI, .int), (cJ, .long), (cZ, .boolean)] [.ref (a 1)] ([(o_A a), (o_C a C_size), ((a 19), .inl (cI, 48, .inl (ia C_count))), ((a 21), .inl (cI, 384, .inl (ia C_base))), ((a 22), .inl (cI, 384, .inl (ia C_wayEarly))), ((a 23), .inl (cI, 384, .inl (ia C_wayLate))), (o_Z a), ((a 33), .inl (cI, 96, .inl (ia Z_count))), ((a 34), .inl (cI, 96, .inl (ia Z_early))), ((a 35), .inl (cI, 96, .inl (ia Z_late))), (o_V a), ((a 37), .inl (cI, 96, .inl (ia V_count))), ((a 38), .inl (cI, 96, .inl (ia V_early))), ((a 39), .inl (cI, 96, .inl (ia V_late))), (o_O a O_count), ((a 42), .inl (cI, 48, .inl (ia O_gates))), (o_N a N_period N_width N_size), ((a 44), .inl (cI, 48, .inl (ia N_kind))), ((a 45), .inl (cI, 48, .inl (ia N_pins))), ((a 46), .inl (cI, 144, .inl (ia N_source))), ((a 47), .inl (cI, 144, .inl (ia N_wireEarly))), ((a 48), .inl (cI, 144, .inl (ia N_wireLate))), ((a 49), .inl (cI, 144, .inl (ia N_senses))), ((a 50), .inl (cI, 288, .inl (ia N_gateEarly))), ((a 51), .inl (cI, 288, .inl (ia N_gateLate))), ((a 52), .inl (cI, 96, .inl (ia N_startEarly))), ((a 53), .inl (cI, 96, .inl (ia N_startLate)))]) sz) (QV D [(cI, .int), (cJ, .long), (cZ, .boolean)] ([(o_A a), (o_C a C_size), ((a 19), .inl (cI, 48, .inl (ia C_count))), ((a 21), .inl (cI, 384, .inl (ia C_base))), ((a 22), .inl (cI, 384, .inl (ia C_wayEarly))), ((a 23), .inl (cI, 384, .inl (ia C_wayLate))), (o_Z a), ((a 33), .inl (cI, 96, .inl (ia Z_count))), ((a 34), .inl (cI, 96, .inl (ia Z_early))), ((a 35), .inl (cI, 96, .inl (ia Z_late))), (o_V a), ((a 37), .inl (cI, 96, .inl (ia V_count))), ((a 38), .inl (cI, 96, .inl (ia V_early))), ((a 39), .inl (cI, 96, .inl (ia V_late))), (o_O a O_count), ((a 42), .inl (cI, 48, .inl (ia O_gates))), (o_N a N_period N_width N_size), ((a 44), .inl (cI, 48, .inl (ia N_kind))), ((a 45), .inl (cI, 48, .inl (ia N_pins))), ((a 46), .inl (cI, 144, .inl (ia N_source))), ((a 47), .inl (cI, 144, .inl (ia N_wireEarly))), ((a 48), .inl (cI, 144, .inl (ia N_wireLate))), ((a 49), .inl (cI, 144, .inl (ia N_senses))), ((a 50), .inl (cI, 288, .inl (ia N_gateEarly))), ((a 51), .inl (cI, 288, .inl (ia N_gateLate))), ((a 52), .inl (cI, 96, .inl (ia N_startEarly))), ((a 53), .inl (cI, 96, .inl (ia N_startLate)))]) sz ([(o_A a), (o_C a C_size), ((a 19), .inl (cI, 48, .inl (ia C_count))), ((a 21), .inl (cI, 384, .inl (ia C_base))), ((a 22), .inl (cI, 384, .inl (ia C_wayEarly))), ((a 23), .inl (cI, 384, .inl (ia C_wayLate))), (o_Z a), ((a 33), .inl (cI, 96, .inl (ia z_Z_count))), ((a 34), .inl (cI, 96, .inl (ia z_Z_early))), ((a 35), .inl (cI, 96, .inl (ia z_Z_late))), (o_V a), ((a 37), .inl (cI, 96, .inl (ia z_V_count))), ((a 38), .inl (cI, 96, .inl (ia z_V_early))), ((a 39), .inl (cI, 96, .inl (ia z_V_late))), (o_O a O_count), ((a 42), .inl (cI, 48, .inl (ia O_gates))), (o_N a N_period N_width N_size), ((a 44), .inl (cI, 48, .inl (ia N_kind))), ((a 45), .inl (cI, 48, .inl (ia N_pins))), ((a 46), .inl (cI, 144, .inl (ia N_source))), ((a 47), .inl (cI, 144, .inl (ia N_wireEarly))), ((a 48), .inl (cI, 144, .inl (ia N_wireLate))), ((a 49), .inl (cI, 144, .inl (ia N_senses))), ((a 50), .inl (cI, 288, .inl (ia N_gateEarly))), ((a 51), .inl (cI, 288, .inl (ia N_gateLate))), ((a 52), .inl (cI, 96, .inl (ia N_startEarly))), ((a 53), .inl (cI, 96, .inl (ia N_startLate)))])) 0 0 (va_A ([(o_A a), (o_C a C_size), ((a 19), .inl (cI, 48, .inl (ia C_count))), ((a 21), .inl (cI, 384, .inl (ia C_base))), ((a 22), .inl (cI, 384, .inl (ia C_wayEarly))), ((a 23), .inl (cI, 384, .inl (ia C_wayLate))), (o_Z a), ((a 33), .inl (cI, 96, .inl (ia Z_count))), ((a 34), .inl (cI, 96, .inl (ia Z_early))), ((a 35), .inl (cI, 96, .inl (ia Z_late))), (o_V a), ((a 37), .inl (cI, 96, .inl (ia V_count))), ((a 38), .inl (cI, 96, .inl (ia V_early))), ((a 39), .inl (cI, 96, .inl (ia V_late))), (o_O a O_count), ((a 42), .inl (cI, 48, .inl (ia O_gates))), (o_N a N_period N_width N_size), ((a 44), .inl (cI, 48, .inl (ia N_kind))), ((a 45), .inl (cI, 48, .inl (ia N_pins))), ((a 46), .inl (cI, 144, .inl (ia N_source))), ((a 47), .inl (cI, 144, .inl (ia N_wireEarly))), ((a 48), .inl (cI, 144, .inl (ia N_wireLate))), ((a 49), .inl (cI, 144, .inl (ia N_senses))), ((a 50), .inl (cI, 288, .inl (ia N_gateEarly))), ((a 51), .inl (cI, 288, .inl (ia N_gateLate))), ((a 52), .inl (cI, 96, .inl (ia N_startEarly))), ((a 53), .inl (cI, 96, .inl (ia N_startLate)))]) sz) := by
  refine Met.ofW (cc := prog_2_method_2_code) (maxL := 3) (ret := (Option.none : Option Jvm.ClassFile.FieldType)) (by decide) rfl ?_
  intro p e s m args below meth c s₁ B hml hv
  obtain ⟨rfl, hsz, hP, hK, hD0, hN⟩ := hv
  have hx := B.exec
  have hb := B.bytes
  have hr := B.returns
  have hts := atoms_spec (ws := w_Arrivals_reckon) B.pre
  have hown : s.vm.findClass R_Arrivals = some m.cls := findClass_of_methodNamed B.named
  have hlocks := B.notSynchronized
  subst hsz
  have hD := hD0.self (sz := s.heap.size)
  obtain ⟨A, hAe⟩ : ∃ A, A = va_A ([(o_A a), (o_C a C_size), ((a 19), .inl (cI, 48, .inl (ia C_count))), ((a 21), .inl (cI, 384, .inl (ia C_base))), ((a 22), .inl (cI, 384, .inl (ia C_wayEarly))), ((a 23), .inl (cI, 384, .inl (ia C_wayLate))), (o_Z a), ((a 33), .inl (cI, 96, .inl (ia Z_count))), ((a 34), .inl (cI, 96, .inl (ia Z_early))), ((a 35), .inl (cI, 96, .inl (ia Z_late))), (o_V a), ((a 37), .inl (cI, 96, .inl (ia V_count))), ((a 38), .inl (cI, 96, .inl (ia V_early))), ((a 39), .inl (cI, 96, .inl (ia V_late))), (o_O a O_count), ((a 42), .inl (cI, 48, .inl (ia O_gates))), (o_N a N_period N_width N_size), ((a 44), .inl (cI, 48, .inl (ia N_kind))), ((a 45), .inl (cI, 48, .inl (ia N_pins))), ((a 46), .inl (cI, 144, .inl (ia N_source))), ((a 47), .inl (cI, 144, .inl (ia N_wireEarly))), ((a 48), .inl (cI, 144, .inl (ia N_wireLate))), ((a 49), .inl (cI, 144, .inl (ia N_senses))), ((a 50), .inl (cI, 288, .inl (ia N_gateEarly))), ((a 51), .inl (cI, 288, .inl (ia N_gateLate))), ((a 52), .inl (cI, 96, .inl (ia N_startEarly))), ((a 53), .inl (cI, 96, .inl (ia N_startLate)))]) s.heap.size := ⟨_, rfl⟩
  rw [← hAe] at hD
  have hA : ∀ q : Nat, s.heap.size ≤ q → A q := fun q h => by rw [hAe]; exact Or.inr h
  have hS : va_S A s.heap s.heap [] := va_S.rf
  have hl := lv_entry ([.ref (a 1)]) (n := 3) (Nat.le_of_ble_eq_true rfl)
  rw [lg_entry_eq]
  generalize (lg_sl ([.ref (a 1)]) ++ List.replicate (3 - (lg_sl ([.ref (a 1)])).length) Slot.unset).toArray = ls at hl ⊢
  have hl : lv_has ls 3 [(0, .ref (a 1))] := hl
  generalize (List.toArray ([.ref (a 1)] : List Value)) = args at hts ⊢
  have hT : ∀ w ∈ Tg, w.before args s = true := fun w h => hts w (List.mem_cons_of_mem _ h)
  obtain ⟨Q, hQ⟩ : ∃ Q, Q = MQ below (QV D [(cI, .int), (cJ, .long), (cZ, .boolean)] ([(o_A a), (o_C a C_size), ((a 19), .inl (cI, 48, .inl (ia C_count))), ((a 21), .inl (cI, 384, .inl (ia C_base))), ((a 22), .inl (cI, 384, .inl (ia C_wayEarly))), ((a 23), .inl (cI, 384, .inl (ia C_wayLate))), (o_Z a), ((a 33), .inl (cI, 96, .inl (ia Z_count))), ((a 34), .inl (cI, 96, .inl (ia Z_early))), ((a 35), .inl (cI, 96, .inl (ia Z_late))), (o_V a), ((a 37), .inl (cI, 96, .inl (ia V_count))), ((a 38), .inl (cI, 96, .inl (ia V_early))), ((a 39), .inl (cI, 96, .inl (ia V_late))), (o_O a O_count), ((a 42), .inl (cI, 48, .inl (ia O_gates))), (o_N a N_period N_width N_size), ((a 44), .inl (cI, 48, .inl (ia N_kind))), ((a 45), .inl (cI, 48, .inl (ia N_pins))), ((a 46), .inl (cI, 144, .inl (ia N_source))), ((a 47), .inl (cI, 144, .inl (ia N_wireEarly))), ((a 48), .inl (cI, 144, .inl (ia N_wireLate))), ((a 49), .inl (cI, 144, .inl (ia N_senses))), ((a 50), .inl (cI, 288, .inl (ia N_gateEarly))), ((a 51), .inl (cI, 288, .inl (ia N_gateLate))), ((a 52), .inl (cI, 96, .inl (ia N_startEarly))), ((a 53), .inl (cI, 96, .inl (ia N_startLate)))]) s.heap.size ([(o_A a), (o_C a C_size), ((a 19), .inl (cI, 48, .inl (ia C_count))), ((a 21), .inl (cI, 384, .inl (ia C_base))), ((a 22), .inl (cI, 384, .inl (ia C_wayEarly))), ((a 23), .inl (cI, 384, .inl (ia C_wayLate))), (o_Z a), ((a 33), .inl (cI, 96, .inl (ia z_Z_count))), ((a 34), .inl (cI, 96, .inl (ia z_Z_early))), ((a 35), .inl (cI, 96, .inl (ia z_Z_late))), (o_V a), ((a 37), .inl (cI, 96, .inl (ia z_V_count))), ((a 38), .inl (cI, 96, .inl (ia z_V_early))), ((a 39), .inl (cI, 96, .inl (ia z_V_late))), (o_O a O_count), ((a 42), .inl (cI, 48, .inl (ia O_gates))), (o_N a N_period N_width N_size), ((a 44), .inl (cI, 48, .inl (ia N_kind))), ((a 45), .inl (cI, 48, .inl (ia N_pins))), ((a 46), .inl (cI, 144, .inl (ia N_source))), ((a 47), .inl (cI, 144, .inl (ia N_wireEarly))), ((a 48), .inl (cI, 144, .inl (ia N_wireLate))), ((a 49), .inl (cI, 144, .inl (ia N_senses))), ((a 50), .inl (cI, 288, .inl (ia N_gateEarly))), ((a 51), .inl (cI, 288, .inl (ia N_gateLate))), ((a 52), .inl (cI, 96, .inl (ia N_startEarly))), ((a 53), .inl (cI, 96, .inl (ia N_startLate)))])) args s 0 0 (va_A ([(o_A a), (o_C a C_size), ((a 19), .inl (cI, 48, .inl (ia C_count))), ((a 21), .inl (cI, 384, .inl (ia C_base))), ((a 22), .inl (cI, 384, .inl (ia C_wayEarly))), ((a 23), .inl (cI, 384, .inl (ia C_wayLate))), (o_Z a), ((a 33), .inl (cI, 96, .inl (ia Z_count))), ((a 34), .inl (cI, 96, .inl (ia Z_early))), ((a 35), .inl (cI, 96, .inl (ia Z_late))), (o_V a), ((a 37), .inl (cI, 96, .inl (ia V_count))), ((a 38), .inl (cI, 96, .inl (ia V_early))), ((a 39), .inl (cI, 96, .inl (ia V_late))), (o_O a O_count), ((a 42), .inl (cI, 48, .inl (ia O_gates))), (o_N a N_period N_width N_size), ((a 44), .inl (cI, 48, .inl (ia N_kind))), ((a 45), .inl (cI, 48, .inl (ia N_pins))), ((a 46), .inl (cI, 144, .inl (ia N_source))), ((a 47), .inl (cI, 144, .inl (ia N_wireEarly))), ((a 48), .inl (cI, 144, .inl (ia N_wireLate))), ((a 49), .inl (cI, 144, .inl (ia N_senses))), ((a 50), .inl (cI, 288, .inl (ia N_gateEarly))), ((a 51), .inl (cI, 288, .inl (ia N_gateLate))), ((a 52), .inl (cI, 96, .inl (ia N_startEarly))), ((a 53), .inl (cI, 96, .inl (ia N_startLate)))]) s.heap.size) := ⟨_, rfl⟩
  rw [← hQ]
  suffices hW : ∀ (H : Heap) (locs : List Loc), va_P D vwCl ([(o_A a), (o_C a C_size), ((a 19), .inl (cI, 48, .inl (ia C_count))), ((a 21), .inl (cI, 384, .inl (ia C_base))), ((a 22), .inl (cI, 384, .inl (ia C_wayEarly))), ((a 23), .inl (cI, 384, .inl (ia C_wayLate))), (o_Z a), ((a 33), .inl (cI, 96, .inl (ia Z_count))), ((a 34), .inl (cI, 96, .inl (ia Z_early))), ((a 35), .inl (cI, 96, .inl (ia Z_late))), (o_V a), ((a 37), .inl (cI, 96, .inl (ia V_count))), ((a 38), .inl (cI, 96, .inl (ia V_early))), ((a 39), .inl (cI, 96, .inl (ia V_late))), (o_O a O_count), ((a 42), .inl (cI, 48, .inl (ia O_gates))), (o_N a N_period N_width N_size), ((a 44), .inl (cI, 48, .inl (ia N_kind))), ((a 45), .inl (cI, 48, .inl (ia N_pins))), ((a 46), .inl (cI, 144, .inl (ia N_source))), ((a 47), .inl (cI, 144, .inl (ia N_wireEarly))), ((a 48), .inl (cI, 144, .inl (ia N_wireLate))), ((a 49), .inl (cI, 144, .inl (ia N_senses))), ((a 50), .inl (cI, 288, .inl (ia N_gateEarly))), ((a 51), .inl (cI, 288, .inl (ia N_gateLate))), ((a 52), .inl (cI, 96, .inl (ia N_startEarly))), ((a 53), .inl (cI, 96, .inl (ia N_startLate)))]) H → va_D A ([(o_A a), (o_C a C_size), ((a 19), .inl (cI, 48, .inl (ia C_count))), ((a 21), .inl (cI, 384, .inl (ia C_base))), ((a 22), .inl (cI, 384, .inl (ia C_wayEarly))), ((a 23), .inl (cI, 384, .inl (ia C_wayLate))), (o_Z a), ((a 33), .inl (cI, 96, .inl (ia Z_count))), ((a 34), .inl (cI, 96, .inl (ia Z_early))), ((a 35), .inl (cI, 96, .inl (ia Z_late))), (o_V a), ((a 37), .inl (cI, 96, .inl (ia V_count))), ((a 38), .inl (cI, 96, .inl (ia V_early))), ((a 39), .inl (cI, 96, .inl (ia V_late))), (o_O a O_count), ((a 42), .inl (cI, 48, .inl (ia O_gates))), (o_N a N_period N_width N_size), ((a 44), .inl (cI, 48, .inl (ia N_kind))), ((a 45), .inl (cI, 48, .inl (ia N_pins))), ((a 46), .inl (cI, 144, .inl (ia N_source))), ((a 47), .inl (cI, 144, .inl (ia N_wireEarly))), ((a 48), .inl (cI, 144, .inl (ia N_wireLate))), ((a 49), .inl (cI, 144, .inl (ia N_senses))), ((a 50), .inl (cI, 288, .inl (ia N_gateEarly))), ((a 51), .inl (cI, 288, .inl (ia N_gateLate))), ((a 52), .inl (cI, 96, .inl (ia N_startEarly))), ((a 53), .inl (cI, 96, .inl (ia N_startLate)))]) → va_S A s.heap H locs → W p l e (headSpec w_Arrivals_reckon rm_Arrivals_reckon).room s m args below meth c H locs 0 0 Q (F0 m 0 ls []) from hW s.heap [] hP hD hS
  clear hP hD hS
  intro H locs hP hD hS
  rw [f_Arrivals_reckon] at h
  refine lv_aload_n hx hb d_Arrivals_reckon_0 rfl (lv_at hl 0 rfl) ?_
  refine va_get (D := D) (ci := 5) (v := .ref (a 32)) (C := R_Arrivals) (T := F_Arrivals) (N := 4) hx hb hT in_Arrivals hown hK hP 0 rfl rfl 2 (by decide) (hT _ m300) (fun _ h9 => h9) rfl d_Arrivals_reckon_1 ?_
  obtain ⟨Z_count_1, hcall, h⟩ := ob1_e h
  refine ca_v (w2 := [(o_A a), (o_C a C_size), ((a 19), .inl (cI, 48, .inl (ia C_count))), ((a 21), .inl (cI, 384, .inl (ia C_base))), ((a 22), .inl (cI, 384, .inl (ia C_wayEarly))), ((a 23), .inl (cI, 384, .inl (ia C_wayLate))), (o_Z a), ((a 33), .inl (cI, 96, .inl (ia Z_count_1))), ((a 34), .inl (cI, 96, .inl (ia Z_early))), ((a 35), .inl (cI, 96, .inl (ia Z_late))), (o_V a), ((a 37), .inl (cI, 96, .inl (ia V_count))), ((a 38), .inl (cI, 96, .inl (ia V_early))), ((a 39), .inl (cI, 96, .inl (ia V_late))), (o_O a O_count), ((a 42), .inl (cI, 48, .inl (ia O_gates))), (o_N a N_period N_width N_size), ((a 44), .inl (cI, 48, .inl (ia N_kind))), ((a 45), .inl (cI, 48, .inl (ia N_pins))), ((a 46), .inl (cI, 144, .inl (ia N_source))), ((a 47), .inl (cI, 144, .inl (ia N_wireEarly))), ((a 48), .inl (cI, 144, .inl (ia N_wireLate))), ((a 49), .inl (cI, 144, .inl (ia N_senses))), ((a 50), .inl (cI, 288, .inl (ia N_gateEarly))), ((a 51), .inl (cI, 288, .inl (ia N_gateLate))), ((a 52), .inl (cI, 96, .inl (ia N_startEarly))), ((a 53), .inl (cI, 96, .inl (ia N_startLate)))]) (va_runV (As := []) (rest := []) ⟨hx, hb, hml, hown, hts⟩ (c_Spread_clear l D cI cJ cZ F a (a 32) (a 33) (a 34) (a 35) Z_count Z_count_1 H.size hcall) (cwV 0 hts (gd_V m489 m562 m487 m488 m6) rfl rfl rfl ⟨rfl, hc_Spread_clear⟩ ⟨Nat.le_of_ble_eq_true rfl, Nat.le_of_ble_eq_true rfl⟩) (pc_V 6 3 [] hP hK hD hN [6, 7] rfl rfl rfl rfl rfl) rfl rfl hl.1 rfl (lv_room (Nat.le_of_ble_eq_true rfl)) d_Arrivals_reckon_4 ⟨Nat.le_refl 0, Nat.le_refl 0⟩) hP hD hS hA [6, 7] [0, 1, 2, 3, 4, 5, 8, 9, 10, 11, 12, 13, 14, 15, 16, 17, 18, 19, 20, 21, 22, 23, 24, 25, 26] [0, 1, 2, 3, 4, 5, 25, 26, 6, 7, 8, 9, 10, 11, 12, 13, 14, 15, 16, 17, 18, 19, 20, 21, 22, 23, 24] rfl rfl rfl (by decide) rfl rfl rfl (fun H locs hP hD hS => ?_)
  refine lv_aload_n hx hb d_Arrivals_reckon_7 rfl (lv_at hl 0 rfl) ?_
  refine va_get (D := D) (ci := 5) (v := .ref (a 36)) (C := R_Arrivals) (T := F_Arrivals) (N := 4) hx hb hT in_Arrivals hown hK hP 0 rfl rfl 3 (by decide) (hT _ m301) (fun _ h9 => h9) rfl d_Arrivals_reckon_8 ?_
  obtain ⟨V_count_2, hcall, h⟩ := ob1_e h
  refine ca_v (w2 := [(o_A a), (o_C a C_size), ((a 19), .inl (cI, 48, .inl (ia C_count))), ((a 21), .inl (cI, 384, .inl (ia C_base))), ((a 22), .inl (cI, 384, .inl (ia C_wayEarly))), ((a 23), .inl (cI, 384, .inl (ia C_wayLate))), (o_Z a), ((a 33), .inl (cI, 96, .inl (ia Z_count_1))), ((a 34), .inl (cI, 96, .inl (ia Z_early))), ((a 35), .inl (cI, 96, .inl (ia Z_late))), (o_V a), ((a 37), .inl (cI, 96, .inl (ia V_count_2))), ((a 38), .inl (cI, 96, .inl (ia V_early))), ((a 39), .inl (cI, 96, .inl (ia V_late))), (o_O a O_count), ((a 42), .inl (cI, 48, .inl (ia O_gates))), (o_N a N_period N_width N_size), ((a 44), .inl (cI, 48, .inl (ia N_kind))), ((a 45), .inl (cI, 48, .inl (ia N_pins))), ((a 46), .inl (cI, 144, .inl (ia N_source))), ((a 47), .inl (cI, 144, .inl (ia N_wireEarly))), ((a 48), .inl (cI, 144, .inl (ia N_wireLate))), ((a 49), .inl (cI, 144, .inl (ia N_senses))), ((a 50), .inl (cI, 288, .inl (ia N_gateEarly))), ((a 51), .inl (cI, 288, .inl (ia N_gateLate))), ((a 52), .inl (cI, 96, .inl (ia N_startEarly))), ((a 53), .inl (cI, 96, .inl (ia N_startLate)))]) (va_runV (As := []) (rest := []) ⟨hx, hb, hml, hown, hts⟩ (c_Spread_clear l D cI cJ cZ F a (a 36) (a 37) (a 38) (a 39) V_count V_count_2 H.size hcall) (cwV 0 hts (gd_V m489 m562 m487 m488 m6) rfl rfl rfl ⟨rfl, hc_Spread_clear⟩ ⟨Nat.le_of_ble_eq_true rfl, Nat.le_of_ble_eq_true rfl⟩) (pc_V 10 3 [] hP hK hD hN [10, 11] rfl rfl rfl rfl rfl) rfl rfl hl.1 rfl (lv_room (Nat.le_of_ble_eq_true rfl)) d_Arrivals_reckon_11 ⟨Nat.le_refl 0, Nat.le_refl 0⟩) hP hD hS hA [10, 11] [0, 1, 2, 3, 4, 5, 6, 7, 8, 9, 12, 13, 14, 15, 16, 17, 18, 19, 20, 21, 22, 23, 24, 25, 26] [0, 1, 2, 3, 4, 5, 6, 7, 8, 9, 25, 26, 10, 11, 12, 13, 14, 15, 16, 17, 18, 19, 20, 21, 22, 23, 24] rfl rfl rfl (by decide) rfl rfl rfl (fun H locs hP hD hS => ?_)
  refine zv_iconst hx hb d_Arrivals_reckon_14 ?_
  refine lv_istore_n (lv' := [(1, .int (iI 0)), (0, .ref (a 1))]) hx hb d_Arrivals_reckon_15 rfl hl (by decide) rfl (fun ls hl => ?_)
  have hl16 : ∀ (nf : Nat) (v1 : Int) (Z_count_3 : Int → Int) (Z_early_4 : Int → Int) (Z_late_5 : Int → Int) (V_count_6 : Int → Int) (V_early_7 : Int → Int) (V_late_8 : Int → Int) (H : Heap) (locs : List Loc) (ls : Array Slot), va_P D vwCl [(o_A a), (o_C a C_size), ((a 19), .inl (cI, 48, .inl (ia C_count))), ((a 21), .inl (cI, 384, .inl (ia C_base))), ((a 22), .inl (cI, 384, .inl (ia C_wayEarly))), ((a 23), .inl (cI, 384, .inl (ia C_wayLate))), (o_Z a), ((a 33), .inl (cI, 96, .inl (ia Z_count_3))), ((a 34), .inl (cI, 96, .inl (ia Z_early_4))), ((a 35), .inl (cI, 96, .inl (ia Z_late_5))), (o_V a), ((a 37), .inl (cI, 96, .inl (ia V_count_6))), ((a 38), .inl (cI, 96, .inl (ia V_early_7))), ((a 39), .inl (cI, 96, .inl (ia V_late_8))), (o_O a O_count), ((a 42), .inl (cI, 48, .inl (ia O_gates))), (o_N a N_period N_width N_size), ((a 44), .inl (cI, 48, .inl (ia N_kind))), ((a 45), .inl (cI, 48, .inl (ia N_pins))), ((a 46), .inl (cI, 144, .inl (ia N_source))), ((a 47), .inl (cI, 144, .inl (ia N_wireEarly))), ((a 48), .inl (cI, 144, .inl (ia N_wireLate))), ((a 49), .inl (cI, 144, .inl (ia N_senses))), ((a 50), .inl (cI, 288, .inl (ia N_gateEarly))), ((a 51), .inl (cI, 288, .inl (ia N_gateLate))), ((a 52), .inl (cI, 96, .inl (ia N_startEarly))), ((a 53), .inl (cI, 96, .inl (ia N_startLate)))] H → va_D A [(o_A a), (o_C a C_size), ((a 19), .inl (cI, 48, .inl (ia C_count))), ((a 21), .inl (cI, 384, .inl (ia C_base))), ((a 22), .inl (cI, 384, .inl (ia C_wayEarly))), ((a 23), .inl (cI, 384, .inl (ia C_wayLate))), (o_Z a), ((a 33), .inl (cI, 96, .inl (ia Z_count_3))), ((a 34), .inl (cI, 96, .inl (ia Z_early_4))), ((a 35), .inl (cI, 96, .inl (ia Z_late_5))), (o_V a), ((a 37), .inl (cI, 96, .inl (ia V_count_6))), ((a 38), .inl (cI, 96, .inl (ia V_early_7))), ((a 39), .inl (cI, 96, .inl (ia V_late_8))), (o_O a O_count), ((a 42), .inl (cI, 48, .inl (ia O_gates))), (o_N a N_period N_width N_size), ((a 44), .inl (cI, 48, .inl (ia N_kind))), ((a 45), .inl (cI, 48, .inl (ia N_pins))), ((a 46), .inl (cI, 144, .inl (ia N_source))), ((a 47), .inl (cI, 144, .inl (ia N_wireEarly))), ((a 48), .inl (cI, 144, .inl (ia N_wireLate))), ((a 49), .inl (cI, 144, .inl (ia N_senses))), ((a 50), .inl (cI, 288, .inl (ia N_gateEarly))), ((a 51), .inl (cI, 288, .inl (ia N_gateLate))), ((a 52), .inl (cI, 96, .inl (ia N_startEarly))), ((a 53), .inl (cI, 96, .inl (ia N_startLate)))] → va_S A s.heap H locs → lv_has ls 3 [(0, .ref (a 1)), (1, .int (iI v1))] → lq7 (f_Arrivals_reckon_b16 F C_count C_base C_wayEarly C_wayLate O_count O_gates N_size N_kind N_pins N_source N_wireEarly N_wireLate N_senses N_gateEarly N_gateLate N_startEarly N_startLate) nf v1 Z_count_3 Z_early_4 Z_late_5 V_count_6 V_early_7 V_late_8 = some (z_Z_count, z_Z_early, z_Z_late, z_V_count, z_V_early, z_V_late) → W p l e (headSpec w_Arrivals_reckon rm_Arrivals_reckon).room s m args below meth c H locs 0 0 Q (F0 m 16 ls []) := by
    intro n16
    induction n16 with
    | zero => intro v1 Z_count_3 Z_early_4 Z_late_5 V_count_6 V_early_7 V_late_8 H locs ls hP hD hS hl h; exact no_some h
    | succ n16 ih16 =>
      intro v1 Z_count_3 Z_early_4 Z_late_5 V_count_6 V_early_7 V_late_8 H locs ls hP hD hS hl h
      replace h : f_Arrivals_reckon_b16 F C_count C_base C_wayEarly C_wayLate O_count O_gates N_size N_kind N_pins N_source N_wireEarly N_wireLate N_senses N_gateEarly N_gateLate N_startEarly N_startLate (lq7 (f_Arrivals_reckon_b16 F C_count C_base C_wayEarly C_wayLate O_count O_gates N_size N_kind N_pins N_source N_wireEarly N_wireLate N_senses N_gateEarly N_gateLate N_startEarly N_startLate) n16) v1 Z_count_3 Z_early_4 Z_late_5 V_count_6 V_early_7 V_late_8 = some (z_Z_count, z_Z_early, z_Z_late, z_V_count, z_V_early, z_V_late) := h
      obtain ⟨self16, hs16⟩ : ∃ z, z = lq7 (f_Arrivals_reckon_b16 F C_count C_base C_wayEarly C_wayLate O_count O_gates N_size N_kind N_pins N_source N_wireEarly N_wireLate N_senses N_gateEarly N_gateLate N_startEarly N_startLate) n16 := ⟨_, rfl⟩
      rw [← hs16] at h ih16
      rw [f_Arrivals_reckon_b16] at h
      refine lv_iload_n hx hb d_Arrivals_reckon_16 rfl (lv_at hl 1 rfl) ?_
      refine lv_aload_n hx hb d_Arrivals_reckon_17 rfl (lv_at hl 0 rfl) ?_
      refine va_get (D := D) (ci := 5) (v := .ref (a 43)) (C := R_Arrivals) (T := F_Arrivals) (N := 4) hx hb hT in_Arrivals hown hK hP 0 rfl rfl 0 (by decide) (hT _ m298) (fun _ h9 => h9) rfl d_Arrivals_reckon_18 ?_
      refine va_get (D := D) (ci := 1) (v := .int (iI N_size)) (C := R_Net) (T := F_Net) (N := 15) hx hb hT in_Net hown hK hP 16 rfl rfl 2 (by decide) (hT _ m49) (fun _ h9 => h9) rfl d_Arrivals_reckon_21 ?_
      obtain ⟨hg0, h⟩ := gr_e h
      obtain ⟨hg1, h⟩ := gr_e h
      refine zc_ge hx hb d_Arrivals_reckon_24 rfl hg0 hg1 (fun hc => ?_) (fun hc => ?_)
      · replace h := if_t hc h
        refine lv_aload_n hx hb d_Arrivals_reckon_76 rfl (lv_at hl 0 rfl) ?_
        refine va_get (D := D) (ci := 5) (v := .ref (a 32)) (C := R_Arrivals) (T := F_Arrivals) (N := 4) hx hb hT in_Arrivals hown hK hP 0 rfl rfl 2 (by decide) (hT _ m300) (fun _ h9 => h9) rfl d_Arrivals_reckon_77 ?_
        obtain ⟨Z_count_9, Z_early_10, Z_late_11, hcall, h⟩ := ob3_e h
        refine ca_v (w2 := [(o_A a), (o_C a C_size), ((a 19), .inl (cI, 48, .inl (ia C_count))), ((a 21), .inl (cI, 384, .inl (ia C_base))), ((a 22), .inl (cI, 384, .inl (ia C_wayEarly))), ((a 23), .inl (cI, 384, .inl (ia C_wayLate))), (o_Z a), ((a 33), .inl (cI, 96, .inl (ia Z_count_9))), ((a 34), .inl (cI, 96, .inl (ia Z_early_10))), ((a 35), .inl (cI, 96, .inl (ia Z_late_11))), (o_V a), ((a 37), .inl (cI, 96, .inl (ia V_count_6))), ((a 38), .inl (cI, 96, .inl (ia V_early_7))), ((a 39), .inl (cI, 96, .inl (ia V_late_8))), (o_O a O_count), ((a 42), .inl (cI, 48, .inl (ia O_gates))), (o_N a N_period N_width N_size), ((a 44), .inl (cI, 48, .inl (ia N_kind))), ((a 45), .inl (cI, 48, .inl (ia N_pins))), ((a 46), .inl (cI, 144, .inl (ia N_source))), ((a 47), .inl (cI, 144, .inl (ia N_wireEarly))), ((a 48), .inl (cI, 144, .inl (ia N_wireLate))), ((a 49), .inl (cI, 144, .inl (ia N_senses))), ((a 50), .inl (cI, 288, .inl (ia N_gateEarly))), ((a 51), .inl (cI, 288, .inl (ia N_gateLate))), ((a 52), .inl (cI, 96, .inl (ia N_startEarly))), ((a 53), .inl (cI, 96, .inl (ia N_startLate)))]) (va_runV (As := []) (rest := []) ⟨hx, hb, hml, hown, hts⟩ (c_Spread_spread l D cI cJ cZ F a (a 32) (a 33) (a 34) (a 35) Z_count_3 Z_early_4 Z_late_5 O_count O_gates N_period N_width N_size N_pins N_source N_wireEarly N_wireLate N_senses N_gateEarly N_gateLate Z_count_9 Z_early_10 Z_late_11 H.size hcall) (cwV 0 hts (gd_V m501 m579 m499 m500 m6) rfl rfl rfl ⟨rfl, hc_Spread_spread⟩ ⟨Nat.le_of_ble_eq_true rfl, Nat.le_of_ble_eq_true rfl⟩) (pc_V 6 3 [] hP hK hD hN [6, 7, 8, 9, 14, 15, 16, 18, 19, 20, 21, 22, 23, 24] rfl rfl rfl rfl rfl) rfl rfl hl.1 rfl (lv_room (Nat.le_of_ble_eq_true rfl)) d_Arrivals_reckon_80 ⟨Nat.le_refl 0, Nat.le_refl 0⟩) hP hD hS hA [6, 7, 8, 9, 14, 15, 16, 18, 19, 20, 21, 22, 23, 24] [0, 1, 2, 3, 4, 5, 10, 11, 12, 13, 17, 25, 26] [0, 1, 2, 3, 4, 5, 13, 14, 15, 16, 6, 7, 8, 9, 17, 18, 19, 10, 20, 21, 22, 23, 24, 25, 26, 11, 12] rfl rfl rfl (by decide) rfl rfl rfl (fun H locs hP hD hS => ?_)
        refine lv_aload_n hx hb d_Arrivals_reckon_83 rfl (lv_at hl 0 rfl) ?_
        refine va_get (D := D) (ci := 5) (v := .ref (a 36)) (C := R_Arrivals) (T := F_Arrivals) (N := 4) hx hb hT in_Arrivals hown hK hP 0 rfl rfl 3 (by decide) (hT _ m301) (fun _ h9 => h9) rfl d_Arrivals_reckon_84 ?_
        obtain ⟨V_count_12, V_early_13, V_late_14, hcall, h⟩ := ob3_e h
        refine ca_v (w2 := [(o_A a), (o_C a C_size), ((a 19), .inl (cI, 48, .inl (ia C_count))), ((a 21), .inl (cI, 384, .inl (ia C_base))), ((a 22), .inl (cI, 384, .inl (ia C_wayEarly))), ((a 23), .inl (cI, 384, .inl (ia C_wayLate))), (o_Z a), ((a 33), .inl (cI, 96, .inl (ia Z_count_9))), ((a 34), .inl (cI, 96, .inl (ia Z_early_10))), ((a 35), .inl (cI, 96, .inl (ia Z_late_11))), (o_V a), ((a 37), .inl (cI, 96, .inl (ia V_count_12))), ((a 38), .inl (cI, 96, .inl (ia V_early_13))), ((a 39), .inl (cI, 96, .inl (ia V_late_14))), (o_O a O_count), ((a 42), .inl (cI, 48, .inl (ia O_gates))), (o_N a N_period N_width N_size), ((a 44), .inl (cI, 48, .inl (ia N_kind))), ((a 45), .inl (cI, 48, .inl (ia N_pins))), ((a 46), .inl (cI, 144, .inl (ia N_source))), ((a 47), .inl (cI, 144, .inl (ia N_wireEarly))), ((a 48), .inl (cI, 144, .inl (ia N_wireLate))), ((a 49), .inl (cI, 144, .inl (ia N_senses))), ((a 50), .inl (cI, 288, .inl (ia N_gateEarly))), ((a 51), .inl (cI, 288, .inl (ia N_gateLate))), ((a 52), .inl (cI, 96, .inl (ia N_startEarly))), ((a 53), .inl (cI, 96, .inl (ia N_startLate)))]) (va_runV (As := []) (rest := []) ⟨hx, hb, hml, hown, hts⟩ (c_Spread_spread l D cI cJ cZ F a (a 36) (a 37) (a 38) (a 39) V_count_6 V_early_7 V_late_8 O_count O_gates N_period N_width N_size N_pins N_source N_wireEarly N_wireLate N_senses N_gateEarly N_gateLate V_count_12 V_early_13 V_late_14 H.size hcall) (cwV 0 hts (gd_V m501 m579 m499 m500 m6) rfl rfl rfl ⟨rfl, hc_Spread_spread⟩ ⟨Nat.le_of_ble_eq_true rfl, Nat.le_of_ble_eq_true rfl⟩) (pc_V 10 3 [] hP hK hD hN [10, 11, 12, 13, 14, 15, 16, 18, 19, 20, 21, 22, 23, 24] rfl rfl rfl rfl rfl) rfl rfl hl.1 rfl (lv_room (Nat.le_of_ble_eq_true rfl)) d_Arrivals_reckon_87 ⟨Nat.le_refl 0, Nat.le_refl 0⟩) hP hD hS hA [10, 11, 12, 13, 14, 15, 16, 18, 19, 20, 21, 22, 23, 24] [0, 1, 2, 3, 4, 5, 6, 7, 8, 9, 17, 25, 26] [0, 1, 2, 3, 4, 5, 6, 7, 8, 9, 13, 14, 15, 16, 17, 18, 19, 10, 20, 21, 22, 23, 24, 25, 26, 11, 12] rfl rfl rfl (by decide) rfl rfl rfl (fun H locs hP hD hS => ?_)
        obtain ⟨e1, e2, e3, e4, e5, e6⟩ := so6 h
        rw [hQ, e1, e2, e3, e4, e5, e6]; rw [hAe] at hD hS; exact W.vret hx hb hr (fun t ht hW => ⟨⟨(), rfl, trivial, by rw [ht]; exact hP, va_K.moved hW.alike hK, hD⟩, hS.F ht⟩) hS.2.2 d_Arrivals_reckon_90
      · replace h := if_f hc h
        refine zv_iconst hx hb d_Arrivals_reckon_27 ?_
        refine lv_istore_n (lv' := [(2, .int (iI 0)), (0, .ref (a 1)), (1, .int (iI v1))]) hx hb d_Arrivals_reckon_28 rfl hl (by decide) rfl (fun ls hl => ?_)
        have hl29 : ∀ (nf : Nat) (v2 : Int) (Z_count_15 : Int → Int) (Z_early_16 : Int → Int) (Z_late_17 : Int → Int) (V_count_18 : Int → Int) (V_early_19 : Int → Int) (V_late_20 : Int → Int) (H : Heap) (locs : List Loc) (ls : Array Slot), va_P D vwCl [(o_A a), (o_C a C_size), ((a 19), .inl (cI, 48, .inl (ia C_count))), ((a 21), .inl (cI, 384, .inl (ia C_base))), ((a 22), .inl (cI, 384, .inl (ia C_wayEarly))), ((a 23), .inl (cI, 384, .inl (ia C_wayLate))), (o_Z a), ((a 33), .inl (cI, 96, .inl (ia Z_count_15))), ((a 34), .inl (cI, 96, .inl (ia Z_early_16))), ((a 35), .inl (cI, 96, .inl (ia Z_late_17))), (o_V a), ((a 37), .inl (cI, 96, .inl (ia V_count_18))), ((a 38), .inl (cI, 96, .inl (ia V_early_19))), ((a 39), .inl (cI, 96, .inl (ia V_late_20))), (o_O a O_count), ((a 42), .inl (cI, 48, .inl (ia O_gates))), (o_N a N_period N_width N_size), ((a 44), .inl (cI, 48, .inl (ia N_kind))), ((a 45), .inl (cI, 48, .inl (ia N_pins))), ((a 46), .inl (cI, 144, .inl (ia N_source))), ((a 47), .inl (cI, 144, .inl (ia N_wireEarly))), ((a 48), .inl (cI, 144, .inl (ia N_wireLate))), ((a 49), .inl (cI, 144, .inl (ia N_senses))), ((a 50), .inl (cI, 288, .inl (ia N_gateEarly))), ((a 51), .inl (cI, 288, .inl (ia N_gateLate))), ((a 52), .inl (cI, 96, .inl (ia N_startEarly))), ((a 53), .inl (cI, 96, .inl (ia N_startLate)))] H → va_D A [(o_A a), (o_C a C_size), ((a 19), .inl (cI, 48, .inl (ia C_count))), ((a 21), .inl (cI, 384, .inl (ia C_base))), ((a 22), .inl (cI, 384, .inl (ia C_wayEarly))), ((a 23), .inl (cI, 384, .inl (ia C_wayLate))), (o_Z a), ((a 33), .inl (cI, 96, .inl (ia Z_count_15))), ((a 34), .inl (cI, 96, .inl (ia Z_early_16))), ((a 35), .inl (cI, 96, .inl (ia Z_late_17))), (o_V a), ((a 37), .inl (cI, 96, .inl (ia V_count_18))), ((a 38), .inl (cI, 96, .inl (ia V_early_19))), ((a 39), .inl (cI, 96, .inl (ia V_late_20))), (o_O a O_count), ((a 42), .inl (cI, 48, .inl (ia O_gates))), (o_N a N_period N_width N_size), ((a 44), .inl (cI, 48, .inl (ia N_kind))), ((a 45), .inl (cI, 48, .inl (ia N_pins))), ((a 46), .inl (cI, 144, .inl (ia N_source))), ((a 47), .inl (cI, 144, .inl (ia N_wireEarly))), ((a 48), .inl (cI, 144, .inl (ia N_wireLate))), ((a 49), .inl (cI, 144, .inl (ia N_senses))), ((a 50), .inl (cI, 288, .inl (ia N_gateEarly))), ((a 51), .inl (cI, 288, .inl (ia N_gateLate))), ((a 52), .inl (cI, 96, .inl (ia N_startEarly))), ((a 53), .inl (cI, 96, .inl (ia N_startLate)))] → va_S A s.heap H locs → lv_has ls 3 [(0, .ref (a 1)), (1, .int (iI v1)), (2, .int (iI v2))] → lq7 (f_Arrivals_reckon_b29 F C_count C_base C_wayEarly C_wayLate N_size N_kind N_startEarly N_startLate v1 self16) nf v2 Z_count_15 Z_early_16 Z_late_17 V_count_18 V_early_19 V_late_20 = some (z_Z_count, z_Z_early, z_Z_late, z_V_count, z_V_early, z_V_late) → W p l e (headSpec w_Arrivals_reckon rm_Arrivals_reckon).room s m args below meth c H locs 0 0 Q (F0 m 29 ls []) := by
          intro n29
          induction n29 with
          | zero => intro v2 Z_count_15 Z_early_16 Z_late_17 V_count_18 V_early_19 V_late_20 H locs ls hP hD hS hl h; exact no_some h
          | succ n29 ih29 =>
            intro v2 Z_count_15 Z_early_16 Z_late_17 V_count_18 V_early_19 V_late_20 H locs ls hP hD hS hl h
            replace h : f_Arrivals_reckon_b29 F C_count C_base C_wayEarly C_wayLate N_size N_kind N_startEarly N_startLate v1 self16 (lq7 (f_Arrivals_reckon_b29 F C_count C_base C_wayEarly C_wayLate N_size N_kind N_startEarly N_startLate v1 self16) n29) v2 Z_count_15 Z_early_16 Z_late_17 V_count_18 V_early_19 V_late_20 = some (z_Z_count, z_Z_early, z_Z_late, z_V_count, z_V_early, z_V_late) := h
            obtain ⟨self29, hs29⟩ : ∃ z, z = lq7 (f_Arrivals_reckon_b29 F C_count C_base C_wayEarly C_wayLate N_size N_kind N_startEarly N_startLate v1 self16) n29 := ⟨_, rfl⟩
            rw [← hs29] at h ih29
            rw [f_Arrivals_reckon_b29] at h
            refine lv_aload_n hx hb d_Arrivals_reckon_29 rfl (lv_at hl 0 rfl) ?_
            refine va_get (D := D) (ci := 5) (v := .ref (a 43)) (C := R_Arrivals) (T := F_Arrivals) (N := 4) hx hb hT in_Arrivals hown hK hP 0 rfl rfl 0 (by decide) (hT _ m298) (fun _ h9 => h9) rfl d_Arrivals_reckon_30 ?_
            refine lv_iload_n hx hb d_Arrivals_reckon_33 rfl (lv_at hl 1 rfl) ?_
            obtain ⟨r34, hcall, h⟩ := ob1_e h
            refine ro_i (va_Run.run (va_runV (As := [.int (iI v1)]) (rest := []) ⟨hx, hb, hml, hown, hts⟩ (c_Net_isStart l D cI cJ cZ F a N_period N_width N_size N_kind v1 r34 H.size hcall) (cwV 1 hts (gd_V m566 m563 m564 m565 m2) rfl rfl rfl ⟨rfl, hc_Net_isStart⟩ ⟨Nat.le_of_ble_eq_true rfl, Nat.le_of_ble_eq_true rfl⟩) (pc_V 16 1 [.int (iI v1)] hP hK hD hN [16, 17] rfl rfl rfl rfl rfl) rfl rfl hl.1 rfl (lv_room (Nat.le_of_ble_eq_true rfl)) d_Arrivals_reckon_34 ⟨Nat.le_refl 0, Nat.le_refl 0⟩)) (W.eq (g2 := F0 m 37 ls [.int (iI r34)]) rfl ?_)
            have hj70 : ∀  (H : Heap) (locs : List Loc) (ls : Array Slot), va_P D vwCl [(o_A a), (o_C a C_size), ((a 19), .inl (cI, 48, .inl (ia C_count))), ((a 21), .inl (cI, 384, .inl (ia C_base))), ((a 22), .inl (cI, 384, .inl (ia C_wayEarly))), ((a 23), .inl (cI, 384, .inl (ia C_wayLate))), (o_Z a), ((a 33), .inl (cI, 96, .inl (ia Z_count_15))), ((a 34), .inl (cI, 96, .inl (ia Z_early_16))), ((a 35), .inl (cI, 96, .inl (ia Z_late_17))), (o_V a), ((a 37), .inl (cI, 96, .inl (ia V_count_18))), ((a 38), .inl (cI, 96, .inl (ia V_early_19))), ((a 39), .inl (cI, 96, .inl (ia V_late_20))), (o_O a O_count), ((a 42), .inl (cI, 48, .inl (ia O_gates))), (o_N a N_period N_width N_size), ((a 44), .inl (cI, 48, .inl (ia N_kind))), ((a 45), .inl (cI, 48, .inl (ia N_pins))), ((a 46), .inl (cI, 144, .inl (ia N_source))), ((a 47), .inl (cI, 144, .inl (ia N_wireEarly))), ((a 48), .inl (cI, 144, .inl (ia N_wireLate))), ((a 49), .inl (cI, 144, .inl (ia N_senses))), ((a 50), .inl (cI, 288, .inl (ia N_gateEarly))), ((a 51), .inl (cI, 288, .inl (ia N_gateLate))), ((a 52), .inl (cI, 96, .inl (ia N_startEarly))), ((a 53), .inl (cI, 96, .inl (ia N_startLate)))] H → va_D A [(o_A a), (o_C a C_size), ((a 19), .inl (cI, 48, .inl (ia C_count))), ((a 21), .inl (cI, 384, .inl (ia C_base))), ((a 22), .inl (cI, 384, .inl (ia C_wayEarly))), ((a 23), .inl (cI, 384, .inl (ia C_wayLate))), (o_Z a), ((a 33), .inl (cI, 96, .inl (ia Z_count_15))), ((a 34), .inl (cI, 96, .inl (ia Z_early_16))), ((a 35), .inl (cI, 96, .inl (ia Z_late_17))), (o_V a), ((a 37), .inl (cI, 96, .inl (ia V_count_18))), ((a 38), .inl (cI, 96, .inl (ia V_early_19))), ((a 39), .inl (cI, 96, .inl (ia V_late_20))), (o_O a O_count), ((a 42), .inl (cI, 48, .inl (ia O_gates))), (o_N a N_period N_width N_size), ((a 44), .inl (cI, 48, .inl (ia N_kind))), ((a 45), .inl (cI, 48, .inl (ia N_pins))), ((a 46), .inl (cI, 144, .inl (ia N_source))), ((a 47), .inl (cI, 144, .inl (ia N_wireEarly))), ((a 48), .inl (cI, 144, .inl (ia N_wireLate))), ((a 49), .inl (cI, 144, .inl (ia N_senses))), ((a 50), .inl (cI, 288, .inl (ia N_gateEarly))), ((a 51), .inl (cI, 288, .inl (ia N_gateLate))), ((a 52), .inl (cI, 96, .inl (ia N_startEarly))), ((a 53), .inl (cI, 96, .inl (ia N_startLate)))] → va_S A s.heap H locs → lv_has ls 3 [(0, .ref (a 1)), (1, .int (iI v1))] → f_Arrivals_reckon_j70 F v1 self16 Z_count_15 Z_early_16 Z_late_17 V_count_18 V_early_19 V_late_20 = some (z_Z_count, z_Z_early, z_Z_late, z_V_count, z_V_early, z_V_late) → W p l e (headSpec w_Arrivals_reckon rm_Arrivals_reckon).room s m args below meth c H locs 0 0 Q (F0 m 70 ls []) := by
              intro  H locs ls hP hD hS hl h
              rw [f_Arrivals_reckon_j70] at h
              refine lv_iinc (v := iI (v1 + 1)) (k := 1) (lv' := [(1, .int (iI (v1 + 1))), (0, .ref (a 1))]) hx hb d_Arrivals_reckon_70 hl rfl (iI_add _ _) (by decide) rfl (fun ls hl => ?_)
              refine lv_goto hx hb d_Arrivals_reckon_73 rfl ?_
              exact ih16 (v1 + 1) Z_count_15 Z_early_16 Z_late_17 V_count_18 V_early_19 V_late_20 H locs ls hP hD hS (lv_sub hl [1, 0] rfl) h
            obtain ⟨hg0, h⟩ := gr_e h
            refine zi_eq hx hb d_Arrivals_reckon_37 rfl hg0 (fun hc => ?_) (fun hc => ?_)
            · replace h := if_t hc h
              exact hj70  H locs ls hP hD hS (lv_sub hl [0, 1] rfl) h
            · replace h := if_f hc h
              refine lv_iload_n hx hb d_Arrivals_reckon_40 rfl (lv_at hl 2 rfl) ?_
              refine lv_aload_n hx hb d_Arrivals_reckon_41 rfl (lv_at hl 0 rfl) ?_
              refine va_get (D := D) (ci := 5) (v := .ref (a 10)) (C := R_Arrivals) (T := F_Arrivals) (N := 4) hx hb hT in_Arrivals hown hK hP 0 rfl rfl 1 (by decide) (hT _ m299) (fun _ h9 => h9) rfl d_Arrivals_reckon_42 ?_
              refine va_get (D := D) (ci := 4) (v := .ref (a 19)) (C := R_ClockWays) (T := F_ClockWays) (N := 17) hx hb hT in_ClockWays hown hK hP 1 rfl rfl 12 (by decide) (hT _ m208) (fun _ h9 => h9) rfl d_Arrivals_reckon_45 ?_
              refine lv_iload_n hx hb d_Arrivals_reckon_48 rfl (lv_at hl 1 rfl) ?_
              obtain ⟨hin, h⟩ := gi_e h
              refine zv_iald hx hb hK hP 2 0 rfl rfl (Nat.le_of_ble_eq_true rfl) hin d_Arrivals_reckon_49 ?_
              obtain ⟨hg0, h⟩ := gr_e h
              obtain ⟨hg1, h⟩ := gr_e h
              refine zc_ge hx hb d_Arrivals_reckon_50 rfl hg0 hg1 (fun hc => ?_) (fun hc => ?_)
              · replace h := if_t hc h
                exact hj70  H locs ls hP hD hS (lv_sub hl [0, 1] rfl) h
              · replace h := if_f hc h
                refine lv_aload_n hx hb d_Arrivals_reckon_53 rfl (lv_at hl 0 rfl) ?_
                refine lv_iload_n hx hb d_Arrivals_reckon_54 rfl (lv_at hl 1 rfl) ?_
                refine lv_iload_n hx hb d_Arrivals_reckon_55 rfl (lv_at hl 1 rfl) ?_
                refine lv_bipush (v := iI 8) hx hb d_Arrivals_reckon_56 (by decide) ?_
                refine zv_imul hx hb d_Arrivals_reckon_58 ?_
                refine lv_iload_n hx hb d_Arrivals_reckon_59 rfl (lv_at hl 2 rfl) ?_
                refine zv_iadd hx hb d_Arrivals_reckon_60 ?_
                obtain ⟨Z_count_21, Z_early_22, Z_late_23, V_count_24, V_early_25, V_late_26, hcall, h⟩ := ob6_e h
                refine ca_v (w2 := [(o_A a), (o_C a C_size), ((a 19), .inl (cI, 48, .inl (ia C_count))), ((a 21), .inl (cI, 384, .inl (ia C_base))), ((a 22), .inl (cI, 384, .inl (ia C_wayEarly))), ((a 23), .inl (cI, 384, .inl (ia C_wayLate))), (o_Z a), ((a 33), .inl (cI, 96, .inl (ia Z_count_21))), ((a 34), .inl (cI, 96, .inl (ia Z_early_22))), ((a 35), .inl (cI, 96, .inl (ia Z_late_23))), (o_V a), ((a 37), .inl (cI, 96, .inl (ia V_count_24))), ((a 38), .inl (cI, 96, .inl (ia V_early_25))), ((a 39), .inl (cI, 96, .inl (ia V_late_26))), (o_O a O_count), ((a 42), .inl (cI, 48, .inl (ia O_gates))), (o_N a N_period N_width N_size), ((a 44), .inl (cI, 48, .inl (ia N_kind))), ((a 45), .inl (cI, 48, .inl (ia N_pins))), ((a 46), .inl (cI, 144, .inl (ia N_source))), ((a 47), .inl (cI, 144, .inl (ia N_wireEarly))), ((a 48), .inl (cI, 144, .inl (ia N_wireLate))), ((a 49), .inl (cI, 144, .inl (ia N_senses))), ((a 50), .inl (cI, 288, .inl (ia N_gateEarly))), ((a 51), .inl (cI, 288, .inl (ia N_gateLate))), ((a 52), .inl (cI, 96, .inl (ia N_startEarly))), ((a 53), .inl (cI, 96, .inl (ia N_startLate)))]) (va_runV (As := [.int (iI v1), .int (iI ((v1 * 8) + v2))]) (rest := []) ⟨hx, hb, hml, hown, hts⟩ (c_Arrivals_begin l D cI cJ cZ F a C_size C_base C_wayEarly C_wayLate Z_count_15 Z_early_16 Z_late_17 V_count_18 V_early_19 V_late_20 N_period N_width N_size N_startEarly N_startLate v1 ((v1 * 8) + v2) Z_count_21 Z_early_22 Z_late_23 V_count_24 V_early_25 V_late_26 H.size hcall) (cwV 2 hts (gd_V m577 m574 m576 sl_Arrivals_begin m8) rfl rfl rfl ⟨rfl, hc_Arrivals_begin⟩ ⟨Nat.le_of_ble_eq_true rfl, Nat.le_of_ble_eq_true rfl⟩) (pc_V 0 5 [.int (iI v1), .int (iI ((v1 * 8) + v2))] hP hK hD hN [0, 1, 3, 4, 5, 6, 7, 8, 9, 10, 11, 12, 13, 16, 25, 26] rfl rfl rfl rfl rfl) rfl rfl hl.1 rfl (lv_room (Nat.le_of_ble_eq_true rfl)) d_Arrivals_reckon_61 ⟨Nat.le_refl 0, Nat.le_refl 0⟩) hP hD hS hA [0, 1, 3, 4, 5, 6, 7, 8, 9, 10, 11, 12, 13, 16, 25, 26] [2, 14, 15, 17, 18, 19, 20, 21, 22, 23, 24] [11, 12, 0, 13, 14, 15, 16, 17, 18, 19, 20, 21, 22, 23, 1, 2, 24, 3, 4, 5, 6, 7, 8, 9, 10, 25, 26] rfl rfl rfl (by decide) rfl rfl rfl (fun H locs hP hD hS => ?_)
                refine lv_iinc (v := iI (v2 + 1)) (k := 2) (lv' := [(2, .int (iI (v2 + 1))), (0, .ref (a 1)), (1, .int (iI v1))]) hx hb d_Arrivals_reckon_64 hl rfl (iI_add _ _) (by decide) rfl (fun ls hl => ?_)
                refine lv_goto hx hb d_Arrivals_reckon_67 rfl ?_
                exact ih29 (v2 + 1) Z_count_21 Z_early_22 Z_late_23 V_count_24 V_early_25 V_late_26 H locs ls hP hD hS (lv_sub hl [1, 2, 0] rfl) h
        exact hl29 F 0 Z_count_3 Z_early_4 Z_late_5 V_count_6 V_early_7 V_late_8 H locs ls hP hD hS (lv_sub hl [1, 2, 0] rfl) h
  exact hl16 F 0 Z_count_1 Z_early Z_late V_count_2 V_early V_late H locs ls hP hD hS (lv_sub hl [1, 0] rfl) h
abbrev rm_ClockWays_begins : Room := { frames := 3, cells := 0, slots := 0, locals := 64 }
set_option maxHeartbeats 4000000 in
set_option maxRecDepth 100000 in
theorem c_ClockWays_begins (l : Launch) (D : va_G) (cI cJ cZ : ClassId) (F : Nat) (a : Nat → Nat) (C_size : Int) (C_count : Int → Int) (N_period : Int) (N_width : Int) (N_size : Int) (N_kind : Int → Int) (x1 : Int) (r : Int) (sz : Nat) (h : f_ClockWays_begins F C_count N_size N_kind x1 = some (r)) : Met l y_ClockWays_begins w_ClockWays_begins rm_ClockWays_begins (PC D [(cI, .int), (cJ, .long), (cZ, .boolean)] [.ref (a 10), .int (iI x1)] ([(o_C a C_size), ((a 19), .inl (cI, 48, .inl (ia C_count))), (o_N a N_period N_width N_size), ((a 44), .inl (cI, 48, .inl (ia N_kind)))]) sz) (QcRead (iI r)) 0 0 (fun _ => False) := by
  refine Met.ofW (cc := prog_3_method_3_code) (maxL := 2) (ret := (Option.some Jvm.ClassFile.FieldType.boolean)) (by decide) rfl ?_
  intro p e s m args below meth c s₁ B hml hv
  obtain ⟨rfl, hsz, hP, hK, hD0, hN⟩ := hv
  have hx := B.exec
  have hb := B.bytes
  have hr := B.returns
  have hts := atoms_spec (ws := w_ClockWays_begins) B.pre
  have hown : s.vm.findClass R_ClockWays = some m.cls := findClass_of_methodNamed B.named
  have hlocks := B.notSynchronized
  subst hsz
  have hl := lv_entry ([.ref (a 10), .int (iI x1)]) (n := 2) (Nat.le_of_ble_eq_true rfl)
  rw [lg_entry_eq]
  generalize (lg_sl ([.ref (a 10), .int (iI x1)]) ++ List.replicate (2 - (lg_sl ([.ref (a 10), .int (iI x1)])).length) Slot.unset).toArray = ls at hl ⊢
  have hl : lv_has ls 2 [(0, .ref (a 10)), (1, .int (iI x1))] := hl
  generalize (List.toArray ([.ref (a 10), .int (iI x1)] : List Value)) = args at hts ⊢
  have hT : ∀ w ∈ Tg, w.before args s = true := fun w h => hts w (List.mem_cons_of_mem _ h)
  obtain ⟨Q, hQ⟩ : ∃ Q, Q = MQ below (QcRead (iI r)) args s 0 0 (fun _ => False) := ⟨_, rfl⟩
  rw [← hQ]
  rw [f_ClockWays_begins] at h
  refine lv_aload_n hx hb d_ClockWays_begins_0 rfl (lv_at hl 0 rfl) ?_
  refine va_get (D := D) (ci := 4) (v := .ref (a 43)) (C := R_ClockWays) (T := F_ClockWays) (N := 17) hx hb hT in_ClockWays hown hK hP 0 rfl rfl 0 (by decide) (hT _ m194) (fun _ h9 => h9) rfl d_ClockWays_begins_1 ?_
  refine lv_iload_n hx hb d_ClockWays_begins_4 rfl (lv_at hl 1 rfl) ?_
  obtain ⟨r5, hcall, h⟩ := ob1_e h
  refine ro_i (va_Run.run (va_runV (As := [.int (iI x1)]) (rest := []) ⟨hx, hb, hml, hown, hts⟩ (c_Net_isStart l D cI cJ cZ F a N_period N_width N_size N_kind x1 r5 s.heap.size hcall) (cwV 1 hts (gd_V m566 m590 m564 m565 m2) rfl rfl rfl ⟨rfl, hc_Net_isStart⟩ ⟨Nat.le_of_ble_eq_true rfl, Nat.le_of_ble_eq_true rfl⟩) (pc_V 2 1 [.int (iI x1)] hP hK hD0 hN [2, 3] rfl rfl rfl rfl rfl) rfl rfl hl.1 rfl (lv_room (Nat.le_of_ble_eq_true rfl)) d_ClockWays_begins_5 ⟨Nat.le_refl 0, Nat.le_refl 0⟩)) (W.eq (g2 := F0 m 8 ls [.int (iI r5)]) rfl ?_)
  have hj24 : ∀  (ls : Array Slot), lv_has ls 2 [] → f_ClockWays_begins_j24 F = some (r) → W p l e (headSpec w_ClockWays_begins rm_ClockWays_begins).room s m args below meth c s.heap [] 0 0 Q (F0 m 24 ls []) := by
    intro  ls hl h
    rw [f_ClockWays_begins_j24] at h
    refine zv_iconst hx hb d_ClockWays_begins_24 ?_
    obtain ⟨hbo, h⟩ := gb_e h
    have e1 := so1 h
    rw [hQ, e1]; exact W.zret (ty := .boolean) hx hb hr (gb_n hbo) (fun t ht hW => ⟨rfl, ht⟩) (fun q h => nomatch h) d_ClockWays_begins_25
  obtain ⟨hg0, h⟩ := gr_e h
  refine zi_eq hx hb d_ClockWays_begins_8 rfl hg0 (fun hc => ?_) (fun hc => ?_)
  · replace h := if_t hc h
    exact hj24  ls (lv_sub hl [] rfl) h
  · replace h := if_f hc h
    refine lv_aload_n hx hb d_ClockWays_begins_11 rfl (lv_at hl 0 rfl) ?_
    refine va_get (D := D) (ci := 4) (v := .ref (a 19)) (C := R_ClockWays) (T := F_ClockWays) (N := 17) hx hb hT in_ClockWays hown hK hP 0 rfl rfl 12 (by decide) (hT _ m206) (fun _ h9 => h9) rfl d_ClockWays_begins_12 ?_
    refine lv_iload_n hx hb d_ClockWays_begins_15 rfl (lv_at hl 1 rfl) ?_
    obtain ⟨hin, h⟩ := gi_e h
    refine zv_iald hx hb hK hP 1 0 rfl rfl (Nat.le_of_ble_eq_true rfl) hin d_ClockWays_begins_16 ?_
    obtain ⟨hg0, h⟩ := gr_e h
    refine zi_le hx hb d_ClockWays_begins_17 rfl hg0 (fun hc => ?_) (fun hc => ?_)
    · replace h := if_t hc h
      exact hj24  ls (lv_sub hl [] rfl) h
    · replace h := if_f hc h
      refine zv_iconst hx hb d_ClockWays_begins_20 ?_
      refine lv_goto hx hb d_ClockWays_begins_21 rfl ?_
      obtain ⟨hbo, h⟩ := gb_e h
      have e1 := so1 h
      rw [hQ, e1]; exact W.zret (ty := .boolean) hx hb hr (gb_n hbo) (fun t ht hW => ⟨rfl, ht⟩) (fun q h => nomatch h) d_ClockWays_begins_25
abbrev rm_Spread_spreadFrom : Room := { frames := 4, cells := 0, slots := 0, locals := 98 }
set_option maxHeartbeats 4000000 in
set_option maxRecDepth 100000 in
theorem c_Spread_spreadFrom (l : Launch) (D : va_G) (cI cJ cZ : ClassId) (F : Nat) (a : Nat → Nat) (aX aX_count aX_early aX_late : Nat) (X_count : Int → Int) (X_early : Int → Int) (X_late : Int → Int) (O_count : Int) (O_gates : Int → Int) (N_period : Int) (N_width : Int) (N_size : Int) (N_pins : Int → Int) (N_source : Int → Int) (N_wireEarly : Int → Int) (N_wireLate : Int → Int) (N_senses : Int → Int) (N_gateEarly : Int → Int) (N_gateLate : Int → Int) (N_startEarly : Int → Int) (N_startLate : Int → Int) (x1 : Int) (x2 : Int) (z_X_count : Int → Int) (z_X_early : Int → Int) (z_X_late : Int → Int) (sz : Nat) (h : f_Spread_spreadFrom F X_count X_early X_late O_count O_gates N_pins N_source N_wireEarly N_wireLate N_senses N_gateEarly N_gateLate N_startEarly N_startLate x1 x2 = some (z_X_count, z_X_early, z_X_late)) : Met l y_Spread_spreadFrom w_Spread_spreadFrom rm_Spread_spreadFrom (PC D [(cI, .int), (cJ, .long), (cZ, .boolean)] [.ref aX, .int (iI x1), .int (iI x2)] ([(o_X aX aX_count aX_early aX_late (a 43) (a 40)), (aX_count, .inl (cI, 96, .inl (ia X_count))), (aX_early, .inl (cI, 96, .inl (ia X_early))), (aX_late, .inl (cI, 96, .inl (ia X_late))), (o_O a O_count), ((a 42), .inl (cI, 48, .inl (ia O_gates))), (o_N a N_period N_width N_size), ((a 45), .inl (cI, 48, .inl (ia N_pins))), ((a 46), .inl (cI, 144, .inl (ia N_source))), ((a 47), .inl (cI, 144, .inl (ia N_wireEarly))), ((a 48), .inl (cI, 144, .inl (ia N_wireLate))), ((a 49), .inl (cI, 144, .inl (ia N_senses))), ((a 50), .inl (cI, 288, .inl (ia N_gateEarly))), ((a 51), .inl (cI, 288, .inl (ia N_gateLate))), ((a 52), .inl (cI, 96, .inl (ia N_startEarly))), ((a 53), .inl (cI, 96, .inl (ia N_startLate)))]) sz) (QV D [(cI, .int), (cJ, .long), (cZ, .boolean)] ([(o_X aX aX_count aX_early aX_late (a 43) (a 40)), (aX_count, .inl (cI, 96, .inl (ia X_count))), (aX_early, .inl (cI, 96, .inl (ia X_early))), (aX_late, .inl (cI, 96, .inl (ia X_late))), (o_O a O_count), ((a 42), .inl (cI, 48, .inl (ia O_gates))), (o_N a N_period N_width N_size), ((a 45), .inl (cI, 48, .inl (ia N_pins))), ((a 46), .inl (cI, 144, .inl (ia N_source))), ((a 47), .inl (cI, 144, .inl (ia N_wireEarly))), ((a 48), .inl (cI, 144, .inl (ia N_wireLate))), ((a 49), .inl (cI, 144, .inl (ia N_senses))), ((a 50), .inl (cI, 288, .inl (ia N_gateEarly))), ((a 51), .inl (cI, 288, .inl (ia N_gateLate))), ((a 52), .inl (cI, 96, .inl (ia N_startEarly))), ((a 53), .inl (cI, 96, .inl (ia N_startLate)))]) sz ([(o_X aX aX_count aX_early aX_late (a 43) (a 40)), (aX_count, .inl (cI, 96, .inl (ia z_X_count))), (aX_early, .inl (cI, 96, .inl (ia z_X_early))), (aX_late, .inl (cI, 96, .inl (ia z_X_late))), (o_O a O_count), ((a 42), .inl (cI, 48, .inl (ia O_gates))), (o_N a N_period N_width N_size), ((a 45), .inl (cI, 48, .inl (ia N_pins))), ((a 46), .inl (cI, 144, .inl (ia N_source))), ((a 47), .inl (cI, 144, .inl (ia N_wireEarly))), ((a 48), .inl (cI, 144, .inl (ia N_wireLate))), ((a 49), .inl (cI, 144, .inl (ia N_senses))), ((a 50), .inl (cI, 288, .inl (ia N_gateEarly))), ((a 51), .inl (cI, 288, .inl (ia N_gateLate))), ((a 52), .inl (cI, 96, .inl (ia N_startEarly))), ((a 53), .inl (cI, 96, .inl (ia N_startLate)))])) 0 0 (va_A ([(o_X aX aX_count aX_early aX_late (a 43) (a 40)), (aX_count, .inl (cI, 96, .inl (ia X_count))), (aX_early, .inl (cI, 96, .inl (ia X_early))), (aX_late, .inl (cI, 96, .inl (ia X_late))), (o_O a O_count), ((a 42), .inl (cI, 48, .inl (ia O_gates))), (o_N a N_period N_width N_size), ((a 45), .inl (cI, 48, .inl (ia N_pins))), ((a 46), .inl (cI, 144, .inl (ia N_source))), ((a 47), .inl (cI, 144, .inl (ia N_wireEarly))), ((a 48), .inl (cI, 144, .inl (ia N_wireLate))), ((a 49), .inl (cI, 144, .inl (ia N_senses))), ((a 50), .inl (cI, 288, .inl (ia N_gateEarly))), ((a 51), .inl (cI, 288, .inl (ia N_gateLate))), ((a 52), .inl (cI, 96, .inl (ia N_startEarly))), ((a 53), .inl (cI, 96, .inl (ia N_startLate)))]) sz) := by
  refine Met.ofW (cc := prog_9_method_6_code) (maxL := 4) (ret := (Option.none : Option Jvm.ClassFile.FieldType)) (by decide) rfl ?_
  intro p e s m args below meth c s₁ B hml hv
  obtain ⟨rfl, hsz, hP, hK, hD0, hN⟩ := hv
  have hx := B.exec
  have hb := B.bytes
  have hr := B.returns
  have hts := atoms_spec (ws := w_Spread_spreadFrom) B.pre
  have hown : s.vm.findClass R_Spread = some m.cls := findClass_of_methodNamed B.named
  have hlocks := B.notSynchronized
  subst hsz
  have hD := hD0.self (sz := s.heap.size)
  obtain ⟨A, hAe⟩ : ∃ A, A = va_A ([(o_X aX aX_count aX_early aX_late (a 43) (a 40)), (aX_count, .inl (cI, 96, .inl (ia X_count))), (aX_early, .inl (cI, 96, .inl (ia X_early))), (aX_late, .inl (cI, 96, .inl (ia X_late))), (o_O a O_count), ((a 42), .inl (cI, 48, .inl (ia O_gates))), (o_N a N_period N_width N_size), ((a 45), .inl (cI, 48, .inl (ia N_pins))), ((a 46), .inl (cI, 144, .inl (ia N_source))), ((a 47), .inl (cI, 144, .inl (ia N_wireEarly))), ((a 48), .inl (cI, 144, .inl (ia N_wireLate))), ((a 49), .inl (cI, 144, .inl (ia N_senses))), ((a 50), .inl (cI, 288, .inl (ia N_gateEarly))), ((a 51), .inl (cI, 288, .inl (ia N_gateLate))), ((a 52), .inl (cI, 96, .inl (ia N_startEarly))), ((a 53), .inl (cI, 96, .inl (ia N_startLate)))]) s.heap.size := ⟨_, rfl⟩
  rw [← hAe] at hD
  have hA : ∀ q : Nat, s.heap.size ≤ q → A q := fun q h => by rw [hAe]; exact Or.inr h
  have hS : va_S A s.heap s.heap [] := va_S.rf
  have hl := lv_entry ([.ref aX, .int (iI x1), .int (iI x2)]) (n := 4) (Nat.le_of_ble_eq_true rfl)
  rw [lg_entry_eq]
  generalize (lg_sl ([.ref aX, .int (iI x1), .int (iI x2)]) ++ List.replicate (4 - (lg_sl ([.ref aX, .int (iI x1), .int (iI x2)])).length) Slot.unset).toArray = ls at hl ⊢
  have hl : lv_has ls 4 [(0, .ref aX), (1, .int (iI x1)), (2, .int (iI x2))] := hl
  generalize (List.toArray ([.ref aX, .int (iI x1), .int (iI x2)] : List Value)) = args at hts ⊢
  have hT : ∀ w ∈ Tg, w.before args s = true := fun w h => hts w (List.mem_cons_of_mem _ h)
  obtain ⟨Q, hQ⟩ : ∃ Q, Q = MQ below (QV D [(cI, .int), (cJ, .long), (cZ, .boolean)] ([(o_X aX aX_count aX_early aX_late (a 43) (a 40)), (aX_count, .inl (cI, 96, .inl (ia X_count))), (aX_early, .inl (cI, 96, .inl (ia X_early))), (aX_late, .inl (cI, 96, .inl (ia X_late))), (o_O a O_count), ((a 42), .inl (cI, 48, .inl (ia O_gates))), (o_N a N_period N_width N_size), ((a 45), .inl (cI, 48, .inl (ia N_pins))), ((a 46), .inl (cI, 144, .inl (ia N_source))), ((a 47), .inl (cI, 144, .inl (ia N_wireEarly))), ((a 48), .inl (cI, 144, .inl (ia N_wireLate))), ((a 49), .inl (cI, 144, .inl (ia N_senses))), ((a 50), .inl (cI, 288, .inl (ia N_gateEarly))), ((a 51), .inl (cI, 288, .inl (ia N_gateLate))), ((a 52), .inl (cI, 96, .inl (ia N_startEarly))), ((a 53), .inl (cI, 96, .inl (ia N_startLate)))]) s.heap.size ([(o_X aX aX_count aX_early aX_late (a 43) (a 40)), (aX_count, .inl (cI, 96, .inl (ia z_X_count))), (aX_early, .inl (cI, 96, .inl (ia z_X_early))), (aX_late, .inl (cI, 96, .inl (ia z_X_late))), (o_O a O_count), ((a 42), .inl (cI, 48, .inl (ia O_gates))), (o_N a N_period N_width N_size), ((a 45), .inl (cI, 48, .inl (ia N_pins))), ((a 46), .inl (cI, 144, .inl (ia N_source))), ((a 47), .inl (cI, 144, .inl (ia N_wireEarly))), ((a 48), .inl (cI, 144, .inl (ia N_wireLate))), ((a 49), .inl (cI, 144, .inl (ia N_senses))), ((a 50), .inl (cI, 288, .inl (ia N_gateEarly))), ((a 51), .inl (cI, 288, .inl (ia N_gateLate))), ((a 52), .inl (cI, 96, .inl (ia N_startEarly))), ((a 53), .inl (cI, 96, .inl (ia N_startLate)))])) args s 0 0 (va_A ([(o_X aX aX_count aX_early aX_late (a 43) (a 40)), (aX_count, .inl (cI, 96, .inl (ia X_count))), (aX_early, .inl (cI, 96, .inl (ia X_early))), (aX_late, .inl (cI, 96, .inl (ia X_late))), (o_O a O_count), ((a 42), .inl (cI, 48, .inl (ia O_gates))), (o_N a N_period N_width N_size), ((a 45), .inl (cI, 48, .inl (ia N_pins))), ((a 46), .inl (cI, 144, .inl (ia N_source))), ((a 47), .inl (cI, 144, .inl (ia N_wireEarly))), ((a 48), .inl (cI, 144, .inl (ia N_wireLate))), ((a 49), .inl (cI, 144, .inl (ia N_senses))), ((a 50), .inl (cI, 288, .inl (ia N_gateEarly))), ((a 51), .inl (cI, 288, .inl (ia N_gateLate))), ((a 52), .inl (cI, 96, .inl (ia N_startEarly))), ((a 53), .inl (cI, 96, .inl (ia N_startLate)))]) s.heap.size) := ⟨_, rfl⟩
  rw [← hQ]
  suffices hW : ∀ (H : Heap) (locs : List Loc), va_P D vwCl ([(o_X aX aX_count aX_early aX_late (a 43) (a 40)), (aX_count, .inl (cI, 96, .inl (ia X_count))), (aX_early, .inl (cI, 96, .inl (ia X_early))), (aX_late, .inl (cI, 96, .inl (ia X_late))), (o_O a O_count), ((a 42), .inl (cI, 48, .inl (ia O_gates))), (o_N a N_period N_width N_size), ((a 45), .inl (cI, 48, .inl (ia N_pins))), ((a 46), .inl (cI, 144, .inl (ia N_source))), ((a 47), .inl (cI, 144, .inl (ia N_wireEarly))), ((a 48), .inl (cI, 144, .inl (ia N_wireLate))), ((a 49), .inl (cI, 144, .inl (ia N_senses))), ((a 50), .inl (cI, 288, .inl (ia N_gateEarly))), ((a 51), .inl (cI, 288, .inl (ia N_gateLate))), ((a 52), .inl (cI, 96, .inl (ia N_startEarly))), ((a 53), .inl (cI, 96, .inl (ia N_startLate)))]) H → va_D A ([(o_X aX aX_count aX_early aX_late (a 43) (a 40)), (aX_count, .inl (cI, 96, .inl (ia X_count))), (aX_early, .inl (cI, 96, .inl (ia X_early))), (aX_late, .inl (cI, 96, .inl (ia X_late))), (o_O a O_count), ((a 42), .inl (cI, 48, .inl (ia O_gates))), (o_N a N_period N_width N_size), ((a 45), .inl (cI, 48, .inl (ia N_pins))), ((a 46), .inl (cI, 144, .inl (ia N_source))), ((a 47), .inl (cI, 144, .inl (ia N_wireEarly))), ((a 48), .inl (cI, 144, .inl (ia N_wireLate))), ((a 49), .inl (cI, 144, .inl (ia N_senses))), ((a 50), .inl (cI, 288, .inl (ia N_gateEarly))), ((a 51), .inl (cI, 288, .inl (ia N_gateLate))), ((a 52), .inl (cI, 96, .inl (ia N_startEarly))), ((a 53), .inl (cI, 96, .inl (ia N_startLate)))]) → va_S A s.heap H locs → W p l e (headSpec w_Spread_spreadFrom rm_Spread_spreadFrom).room s m args below meth c H locs 0 0 Q (F0 m 0 ls []) from hW s.heap [] hP hD hS
  clear hP hD hS
  intro H locs hP hD hS
  rw [f_Spread_spreadFrom] at h
  refine lv_aload_n hx hb d_Spread_spreadFrom_0 rfl (lv_at hl 0 rfl) ?_
  obtain ⟨X_count_1, hcall, h⟩ := ob1_e h
  refine ca_v (w2 := [(o_X aX aX_count aX_early aX_late (a 43) (a 40)), (aX_count, .inl (cI, 96, .inl (ia X_count_1))), (aX_early, .inl (cI, 96, .inl (ia X_early))), (aX_late, .inl (cI, 96, .inl (ia X_late))), (o_O a O_count), ((a 42), .inl (cI, 48, .inl (ia O_gates))), (o_N a N_period N_width N_size), ((a 45), .inl (cI, 48, .inl (ia N_pins))), ((a 46), .inl (cI, 144, .inl (ia N_source))), ((a 47), .inl (cI, 144, .inl (ia N_wireEarly))), ((a 48), .inl (cI, 144, .inl (ia N_wireLate))), ((a 49), .inl (cI, 144, .inl (ia N_senses))), ((a 50), .inl (cI, 288, .inl (ia N_gateEarly))), ((a 51), .inl (cI, 288, .inl (ia N_gateLate))), ((a 52), .inl (cI, 96, .inl (ia N_startEarly))), ((a 53), .inl (cI, 96, .inl (ia N_startLate)))]) (va_runV (As := []) (rest := []) ⟨hx, hb, hml, hown, hts⟩ (c_Spread_clear l D cI cJ cZ F a aX aX_count aX_early aX_late X_count X_count_1 H.size hcall) (cwV 0 hts (gd_V m489 m595 m487 m488 m6) rfl rfl rfl ⟨rfl, hc_Spread_clear⟩ ⟨Nat.le_of_ble_eq_true rfl, Nat.le_of_ble_eq_true rfl⟩) (pc_V 0 3 [] hP hK hD hN [0, 1] rfl rfl rfl rfl rfl) rfl rfl hl.1 rfl (lv_room (Nat.le_of_ble_eq_true rfl)) d_Spread_spreadFrom_1 ⟨Nat.le_refl 0, Nat.le_refl 0⟩) hP hD hS hA [0, 1] [2, 3, 4, 5, 6, 7, 8, 9, 10, 11, 12, 13, 14, 15] [14, 15, 0, 1, 2, 3, 4, 5, 6, 7, 8, 9, 10, 11, 12, 13] rfl rfl rfl (by decide) rfl rfl rfl (fun H locs hP hD hS => ?_)
  refine zv_iconst hx hb d_Spread_spreadFrom_4 ?_
  refine lv_iload_n hx hb d_Spread_spreadFrom_5 rfl (lv_at hl 1 rfl) ?_
  refine zv_imul hx hb d_Spread_spreadFrom_6 ?_
  refine zv_top (fun v3 hv => ?_)
  replace h := bd_e hv h
  refine lv_istore_n (lv' := [(3, .int (iI v3)), (0, .ref aX), (1, .int (iI x1)), (2, .int (iI x2))]) hx hb d_Spread_spreadFrom_7 rfl hl (by decide) rfl (fun ls hl => ?_)
  have hl8 : ∀ (nf : Nat) (v3_2 : Int) (X_count_3 : Int → Int) (X_early_4 : Int → Int) (X_late_5 : Int → Int) (H : Heap) (locs : List Loc) (ls : Array Slot), va_P D vwCl [(o_X aX aX_count aX_early aX_late (a 43) (a 40)), (aX_count, .inl (cI, 96, .inl (ia X_count_3))), (aX_early, .inl (cI, 96, .inl (ia X_early_4))), (aX_late, .inl (cI, 96, .inl (ia X_late_5))), (o_O a O_count), ((a 42), .inl (cI, 48, .inl (ia O_gates))), (o_N a N_period N_width N_size), ((a 45), .inl (cI, 48, .inl (ia N_pins))), ((a 46), .inl (cI, 144, .inl (ia N_source))), ((a 47), .inl (cI, 144, .inl (ia N_wireEarly))), ((a 48), .inl (cI, 144, .inl (ia N_wireLate))), ((a 49), .inl (cI, 144, .inl (ia N_senses))), ((a 50), .inl (cI, 288, .inl (ia N_gateEarly))), ((a 51), .inl (cI, 288, .inl (ia N_gateLate))), ((a 52), .inl (cI, 96, .inl (ia N_startEarly))), ((a 53), .inl (cI, 96, .inl (ia N_startLate)))] H → va_D A [(o_X aX aX_count aX_early aX_late (a 43) (a 40)), (aX_count, .inl (cI, 96, .inl (ia X_count_3))), (aX_early, .inl (cI, 96, .inl (ia X_early_4))), (aX_late, .inl (cI, 96, .inl (ia X_late_5))), (o_O a O_count), ((a 42), .inl (cI, 48, .inl (ia O_gates))), (o_N a N_period N_width N_size), ((a 45), .inl (cI, 48, .inl (ia N_pins))), ((a 46), .inl (cI, 144, .inl (ia N_source))), ((a 47), .inl (cI, 144, .inl (ia N_wireEarly))), ((a 48), .inl (cI, 144, .inl (ia N_wireLate))), ((a 49), .inl (cI, 144, .inl (ia N_senses))), ((a 50), .inl (cI, 288, .inl (ia N_gateEarly))), ((a 51), .inl (cI, 288, .inl (ia N_gateLate))), ((a 52), .inl (cI, 96, .inl (ia N_startEarly))), ((a 53), .inl (cI, 96, .inl (ia N_startLate)))] → va_S A s.heap H locs → lv_has ls 4 [(0, .ref aX), (1, .int (iI x1)), (2, .int (iI x2)), (3, .int (iI v3_2))] → lq4 (f_Spread_spreadFrom_b8 F O_count O_gates N_pins N_source N_wireEarly N_wireLate N_senses N_gateEarly N_gateLate N_startEarly N_startLate x1 x2) nf v3_2 X_count_3 X_early_4 X_late_5 = some (z_X_count, z_X_early, z_X_late) → W p l e (headSpec w_Spread_spreadFrom rm_Spread_spreadFrom).room s m args below meth c H locs 0 0 Q (F0 m 8 ls []) := by
    intro n8
    induction n8 with
    | zero => intro v3_2 X_count_3 X_early_4 X_late_5 H locs ls hP hD hS hl h; exact no_some h
    | succ n8 ih8 =>
      intro v3_2 X_count_3 X_early_4 X_late_5 H locs ls hP hD hS hl h
      replace h : f_Spread_spreadFrom_b8 F O_count O_gates N_pins N_source N_wireEarly N_wireLate N_senses N_gateEarly N_gateLate N_startEarly N_startLate x1 x2 (lq4 (f_Spread_spreadFrom_b8 F O_count O_gates N_pins N_source N_wireEarly N_wireLate N_senses N_gateEarly N_gateLate N_startEarly N_startLate x1 x2) n8) v3_2 X_count_3 X_early_4 X_late_5 = some (z_X_count, z_X_early, z_X_late) := h
      obtain ⟨self8, hs8⟩ : ∃ z, z = lq4 (f_Spread_spreadFrom_b8 F O_count O_gates N_pins N_source N_wireEarly N_wireLate N_senses N_gateEarly N_gateLate N_startEarly N_startLate x1 x2) n8 := ⟨_, rfl⟩
      rw [← hs8] at h ih8
      rw [f_Spread_spreadFrom_b8] at h
      refine lv_iload_n hx hb d_Spread_spreadFrom_8 rfl (lv_at hl 3 rfl) ?_
      refine zv_iconst hx hb d_Spread_spreadFrom_9 ?_
      refine lv_iload_n hx hb d_Spread_spreadFrom_10 rfl (lv_at hl 1 rfl) ?_
      refine zv_imul hx hb d_Spread_spreadFrom_11 ?_
      refine zv_iconst hx hb d_Spread_spreadFrom_12 ?_
      refine zv_iadd hx hb d_Spread_spreadFrom_13 ?_
      obtain ⟨hg0, h⟩ := gr_e h
      obtain ⟨hg1, h⟩ := gr_e h
      refine zc_gt hx hb d_Spread_spreadFrom_14 rfl hg0 hg1 (fun hc => ?_) (fun hc => ?_)
      · replace h := if_t hc h
        refine lv_aload_n hx hb d_Spread_spreadFrom_47 rfl (lv_at hl 0 rfl) ?_
        obtain ⟨X_count_6, X_early_7, X_late_8, hcall, h⟩ := ob3_e h
        refine ca_v (w2 := [(o_X aX aX_count aX_early aX_late (a 43) (a 40)), (aX_count, .inl (cI, 96, .inl (ia X_count_6))), (aX_early, .inl (cI, 96, .inl (ia X_early_7))), (aX_late, .inl (cI, 96, .inl (ia X_late_8))), (o_O a O_count), ((a 42), .inl (cI, 48, .inl (ia O_gates))), (o_N a N_period N_width N_size), ((a 45), .inl (cI, 48, .inl (ia N_pins))), ((a 46), .inl (cI, 144, .inl (ia N_source))), ((a 47), .inl (cI, 144, .inl (ia N_wireEarly))), ((a 48), .inl (cI, 144, .inl (ia N_wireLate))), ((a 49), .inl (cI, 144, .inl (ia N_senses))), ((a 50), .inl (cI, 288, .inl (ia N_gateEarly))), ((a 51), .inl (cI, 288, .inl (ia N_gateLate))), ((a 52), .inl (cI, 96, .inl (ia N_startEarly))), ((a 53), .inl (cI, 96, .inl (ia N_startLate)))]) (va_runV (As := []) (rest := []) ⟨hx, hb, hml, hown, hts⟩ (c_Spread_spread l D cI cJ cZ F a aX aX_count aX_early aX_late X_count_3 X_early_4 X_late_5 O_count O_gates N_period N_width N_size N_pins N_source N_wireEarly N_wireLate N_senses N_gateEarly N_gateLate X_count_6 X_early_7 X_late_8 H.size hcall) (cwV 0 hts (gd_V m501 m596 m499 m500 m6) rfl rfl rfl ⟨rfl, hc_Spread_spread⟩ ⟨Nat.le_of_ble_eq_true rfl, Nat.le_of_ble_eq_true rfl⟩) (pc_V 0 3 [] hP hK hD hN [0, 1, 2, 3, 4, 5, 6, 7, 8, 9, 10, 11, 12, 13] rfl rfl rfl rfl rfl) rfl rfl hl.1 rfl (lv_room (Nat.le_of_ble_eq_true rfl)) d_Spread_spreadFrom_48 ⟨Nat.le_refl 0, Nat.le_refl 0⟩) hP hD hS hA [0, 1, 2, 3, 4, 5, 6, 7, 8, 9, 10, 11, 12, 13] [14, 15] [2, 3, 4, 5, 6, 7, 8, 9, 10, 11, 12, 13, 14, 15, 0, 1] rfl rfl rfl (by decide) rfl rfl rfl (fun H locs hP hD hS => ?_)
        obtain ⟨e1, e2, e3⟩ := so3 h
        rw [hQ, e1, e2, e3]; rw [hAe] at hD hS; exact W.vret hx hb hr (fun t ht hW => ⟨⟨(), rfl, trivial, by rw [ht]; exact hP, va_K.moved hW.alike hK, hD⟩, hS.F ht⟩) hS.2.2 d_Spread_spreadFrom_51
      · replace h := if_f hc h
        refine lv_aload_n hx hb d_Spread_spreadFrom_17 rfl (lv_at hl 0 rfl) ?_
        refine lv_iload_n hx hb d_Spread_spreadFrom_18 rfl (lv_at hl 3 rfl) ?_
        refine lv_iload_n hx hb d_Spread_spreadFrom_19 rfl (lv_at hl 2 rfl) ?_
        refine lv_aload_n hx hb d_Spread_spreadFrom_20 rfl (lv_at hl 0 rfl) ?_
        refine va_get (D := D) (ci := 3) (v := .ref (a 43)) (C := R_Spread) (T := F_Spread) (N := 5) hx hb hT in_Spread hown hK hP 0 rfl rfl 0 (by decide) (hT _ m169) (fun _ h9 => h9) rfl d_Spread_spreadFrom_21 ?_
        refine va_get (D := D) (ci := 1) (v := .ref (a 52)) (C := R_Net) (T := F_Net) (N := 15) hx hb hT in_Net hown hK hP 6 rfl rfl 11 (by decide) (hT _ m87) (fun _ h9 => h9) rfl d_Spread_spreadFrom_24 ?_
        refine lv_iload_n hx hb d_Spread_spreadFrom_27 rfl (lv_at hl 3 rfl) ?_
        obtain ⟨hin, h⟩ := gi_e h
        refine zv_iald hx hb hK hP 14 0 rfl rfl (Nat.le_of_ble_eq_true rfl) hin d_Spread_spreadFrom_28 ?_
        refine lv_aload_n hx hb d_Spread_spreadFrom_29 rfl (lv_at hl 0 rfl) ?_
        refine va_get (D := D) (ci := 3) (v := .ref (a 43)) (C := R_Spread) (T := F_Spread) (N := 5) hx hb hT in_Spread hown hK hP 0 rfl rfl 0 (by decide) (hT _ m169) (fun _ h9 => h9) rfl d_Spread_spreadFrom_30 ?_
        refine va_get (D := D) (ci := 1) (v := .ref (a 53)) (C := R_Net) (T := F_Net) (N := 15) hx hb hT in_Net hown hK hP 6 rfl rfl 12 (by decide) (hT _ m91) (fun _ h9 => h9) rfl d_Spread_spreadFrom_33 ?_
        refine lv_iload_n hx hb d_Spread_spreadFrom_36 rfl (lv_at hl 3 rfl) ?_
        obtain ⟨hin, h⟩ := gi_e h
        refine zv_iald hx hb hK hP 15 0 rfl rfl (Nat.le_of_ble_eq_true rfl) hin d_Spread_spreadFrom_37 ?_
        obtain ⟨X_count_9, X_early_10, X_late_11, hcall, h⟩ := ob3_e h
        refine ca_v (w2 := [(o_X aX aX_count aX_early aX_late (a 43) (a 40)), (aX_count, .inl (cI, 96, .inl (ia X_count_9))), (aX_early, .inl (cI, 96, .inl (ia X_early_10))), (aX_late, .inl (cI, 96, .inl (ia X_late_11))), (o_O a O_count), ((a 42), .inl (cI, 48, .inl (ia O_gates))), (o_N a N_period N_width N_size), ((a 45), .inl (cI, 48, .inl (ia N_pins))), ((a 46), .inl (cI, 144, .inl (ia N_source))), ((a 47), .inl (cI, 144, .inl (ia N_wireEarly))), ((a 48), .inl (cI, 144, .inl (ia N_wireLate))), ((a 49), .inl (cI, 144, .inl (ia N_senses))), ((a 50), .inl (cI, 288, .inl (ia N_gateEarly))), ((a 51), .inl (cI, 288, .inl (ia N_gateLate))), ((a 52), .inl (cI, 96, .inl (ia N_startEarly))), ((a 53), .inl (cI, 96, .inl (ia N_startLate)))]) (va_runV (As := [.int (iI v3_2), .int (iI x2), .int (iI (N_startEarly v3_2)), .int (iI (N_startLate v3_2))]) (rest := []) ⟨hx, hb, hml, hown, hts⟩ (c_Spread_join l D cI cJ cZ F a aX aX_count aX_early aX_late X_count_3 X_early_4 X_late_5 v3_2 x2 (N_startEarly v3_2) (N_startLate v3_2) X_count_9 X_early_10 X_late_11 H.size hcall) (cwV 4 hts (gd_V m494 m518 m492 m493 m6) rfl rfl rfl ⟨rfl, hc_Spread_join⟩ ⟨Nat.le_of_ble_eq_true rfl, Nat.le_of_ble_eq_true rfl⟩) (pc_V 0 3 [.int (iI v3_2), .int (iI x2), .int (iI (N_startEarly v3_2)), .int (iI (N_startLate v3_2))] hP hK hD hN [0, 1, 2, 3] rfl rfl rfl rfl rfl) rfl rfl hl.1 rfl (lv_room (Nat.le_of_ble_eq_true rfl)) d_Spread_spreadFrom_38 ⟨Nat.le_refl 0, Nat.le_refl 0⟩) hP hD hS hA [0, 1, 2, 3] [4, 5, 6, 7, 8, 9, 10, 11, 12, 13, 14, 15] [12, 13, 14, 15, 0, 1, 2, 3, 4, 5, 6, 7, 8, 9, 10, 11] rfl rfl rfl (by decide) rfl rfl rfl (fun H locs hP hD hS => ?_)
        refine lv_iinc (v := iI (v3_2 + 1)) (k := 3) (lv' := [(3, .int (iI (v3_2 + 1))), (0, .ref aX), (1, .int (iI x1)), (2, .int (iI x2))]) hx hb d_Spread_spreadFrom_41 hl rfl (iI_add _ _) (by decide) rfl (fun ls hl => ?_)
        refine lv_goto hx hb d_Spread_spreadFrom_44 rfl ?_
        exact ih8 (v3_2 + 1) X_count_9 X_early_10 X_late_11 H locs ls hP hD hS (lv_sub hl [1, 2, 3, 0] rfl) h
  exact hl8 F v3 X_count_1 X_early X_late H locs ls hP hD hS (lv_sub hl [1, 2, 3, 0] rfl) h
abbrev rm_ClockWays_ends : Room := { frames := 3, cells := 0, slots := 0, locals := 64 }
set_option maxHeartbeats 4000000 in
set_option maxRecDepth 100000 in
theorem c_ClockWays_ends (l : Launch) (D : va_G) (cI cJ cZ : ClassId) (F : Nat) (a : Nat → Nat) (C_size : Int) (C_count : Int → Int) (N_period : Int) (N_width : Int) (N_size : Int) (N_kind : Int → Int) (N_source : Int → Int) (x1 : Int) (r : Int) (sz : Nat) (h : f_ClockWays_ends F C_count N_size N_kind N_source x1 = some (r)) : Met l y_ClockWays_ends w_ClockWays_ends rm_ClockWays_ends (PC D [(cI, .int), (cJ, .long), (cZ, .boolean)] [.ref (a 10), .int (iI x1)] ([(o_C a C_size), ((a 19), .inl (cI, 48, .inl (ia C_count))), (o_N a N_period N_width N_size), ((a 44), .inl (cI, 48, .inl (ia N_kind))), ((a 46), .inl (cI, 144, .inl (ia N_source)))]) sz) (QcRead (iI r)) 0 0 (fun _ => False) := by
  refine Met.ofW (cc := prog_3_method_4_code) (maxL := 2) (ret := (Option.some Jvm.ClassFile.FieldType.boolean)) (by decide) rfl ?_
  intro p e s m args below meth c s₁ B hml hv
  obtain ⟨rfl, hsz, hP, hK, hD0, hN⟩ := hv
  have hx := B.exec
  have hb := B.bytes
  have hr := B.returns
  have hts := atoms_spec (ws := w_ClockWays_ends) B.pre
  have hown : s.vm.findClass R_ClockWays = some m.cls := findClass_of_methodNamed B.named
  have hlocks := B.notSynchronized
  subst hsz
  have hl := lv_entry ([.ref (a 10), .int (iI x1)]) (n := 2) (Nat.le_of_ble_eq_true rfl)
  rw [lg_entry_eq]
  generalize (lg_sl ([.ref (a 10), .int (iI x1)]) ++ List.replicate (2 - (lg_sl ([.ref (a 10), .int (iI x1)])).length) Slot.unset).toArray = ls at hl ⊢
  have hl : lv_has ls 2 [(0, .ref (a 10)), (1, .int (iI x1))] := hl
  generalize (List.toArray ([.ref (a 10), .int (iI x1)] : List Value)) = args at hts ⊢
  have hT : ∀ w ∈ Tg, w.before args s = true := fun w h => hts w (List.mem_cons_of_mem _ h)
  obtain ⟨Q, hQ⟩ : ∃ Q, Q = MQ below (QcRead (iI r)) args s 0 0 (fun _ => False) := ⟨_, rfl⟩
  rw [← hQ]
  rw [f_ClockWays_ends] at h
  refine lv_aload_n hx hb d_ClockWays_ends_0 rfl (lv_at hl 0 rfl) ?_
  refine va_get (D := D) (ci := 4) (v := .ref (a 43)) (C := R_ClockWays) (T := F_ClockWays) (N := 17) hx hb hT in_ClockWays hown hK hP 0 rfl rfl 0 (by decide) (hT _ m194) (fun _ h9 => h9) rfl d_ClockWays_ends_1 ?_
  refine lv_iload_n hx hb d_ClockWays_ends_4 rfl (lv_at hl 1 rfl) ?_
  obtain ⟨r5, hcall, h⟩ := ob1_e h
  refine ro_i (va_Run.run (va_runV (As := [.int (iI x1)]) (rest := []) ⟨hx, hb, hml, hown, hts⟩ (c_Net_isEnd l D cI cJ cZ F a N_period N_width N_size N_kind x1 r5 s.heap.size hcall) (cwV 1 hts (gd_V m608 m605 m606 m607 m2) rfl rfl rfl ⟨rfl, hc_Net_isEnd⟩ ⟨Nat.le_of_ble_eq_true rfl, Nat.le_of_ble_eq_true rfl⟩) (pc_V 2 1 [.int (iI x1)] hP hK hD0 hN [2, 3] rfl rfl rfl rfl rfl) rfl rfl hl.1 rfl (lv_room (Nat.le_of_ble_eq_true rfl)) d_ClockWays_ends_5 ⟨Nat.le_refl 0, Nat.le_refl 0⟩)) (W.eq (g2 := F0 m 8 ls [.int (iI r5)]) rfl ?_)
  have hj40 : ∀  (ls : Array Slot), lv_has ls 2 [] → f_ClockWays_ends_j40 F = some (r) → W p l e (headSpec w_ClockWays_ends rm_ClockWays_ends).room s m args below meth c s.heap [] 0 0 Q (F0 m 40 ls []) := by
    intro  ls hl h
    rw [f_ClockWays_ends_j40] at h
    refine zv_iconst hx hb d_ClockWays_ends_40 ?_
    obtain ⟨hbo, h⟩ := gb_e h
    have e1 := so1 h
    rw [hQ, e1]; exact W.zret (ty := .boolean) hx hb hr (gb_n hbo) (fun t ht hW => ⟨rfl, ht⟩) (fun q h => nomatch h) d_ClockWays_ends_41
  obtain ⟨hg0, h⟩ := gr_e h
  refine zi_eq hx hb d_ClockWays_ends_8 rfl hg0 (fun hc => ?_) (fun hc => ?_)
  · replace h := if_t hc h
    exact hj40  ls (lv_sub hl [] rfl) h
  · replace h := if_f hc h
    refine lv_aload_n hx hb d_ClockWays_ends_11 rfl (lv_at hl 0 rfl) ?_
    refine va_get (D := D) (ci := 4) (v := .ref (a 19)) (C := R_ClockWays) (T := F_ClockWays) (N := 17) hx hb hT in_ClockWays hown hK hP 0 rfl rfl 12 (by decide) (hT _ m206) (fun _ h9 => h9) rfl d_ClockWays_ends_12 ?_
    refine lv_iload_n hx hb d_ClockWays_ends_15 rfl (lv_at hl 1 rfl) ?_
    obtain ⟨hin, h⟩ := gi_e h
    refine zv_iald hx hb hK hP 1 0 rfl rfl (Nat.le_of_ble_eq_true rfl) hin d_ClockWays_ends_16 ?_
    obtain ⟨hg0, h⟩ := gr_e h
    refine zi_le hx hb d_ClockWays_ends_17 rfl hg0 (fun hc => ?_) (fun hc => ?_)
    · replace h := if_t hc h
      exact hj40  ls (lv_sub hl [] rfl) h
    · replace h := if_f hc h
      refine lv_aload_n hx hb d_ClockWays_ends_20 rfl (lv_at hl 0 rfl) ?_
      refine va_get (D := D) (ci := 4) (v := .ref (a 43)) (C := R_ClockWays) (T := F_ClockWays) (N := 17) hx hb hT in_ClockWays hown hK hP 0 rfl rfl 0 (by decide) (hT _ m194) (fun _ h9 => h9) rfl d_ClockWays_ends_21 ?_
      refine va_get (D := D) (ci := 1) (v := .ref (a 46)) (C := R_Net) (T := F_Net) (N := 15) hx hb hT in_Net hown hK hP 2 rfl rfl 5 (by decide) (hT _ m66) (fun _ h9 => h9) rfl d_ClockWays_ends_24 ?_
      refine lv_iload_n hx hb d_ClockWays_ends_27 rfl (lv_at hl 1 rfl) ?_
      refine zv_iconst hx hb d_ClockWays_ends_28 ?_
      refine zv_imul hx hb d_ClockWays_ends_29 ?_
      refine zv_iconst hx hb d_ClockWays_ends_30 ?_
      refine zv_iadd hx hb d_ClockWays_ends_31 ?_
      obtain ⟨hin, h⟩ := gi_e h
      refine zv_iald hx hb hK hP 4 0 rfl rfl (Nat.le_of_ble_eq_true rfl) hin d_ClockWays_ends_32 ?_
      obtain ⟨hg0, h⟩ := gr_e h
      refine zi_lt hx hb d_ClockWays_ends_33 rfl hg0 (fun hc => ?_) (fun hc => ?_)
      · replace h := if_t hc h
        exact hj40  ls (lv_sub hl [] rfl) h
      · replace h := if_f hc h
        refine zv_iconst hx hb d_ClockWays_ends_36 ?_
        refine lv_goto hx hb d_ClockWays_ends_37 rfl ?_
        obtain ⟨hbo, h⟩ := gb_e h
        have e1 := so1 h
        rw [hQ, e1]; exact W.zret (ty := .boolean) hx hb hr (gb_n hbo) (fun t ht hW => ⟨rfl, ht⟩) (fun q h => nomatch h) d_ClockWays_ends_41
abbrev rm_ClockWays_sharedEnd : Room := { frames := 0, cells := 0, slots := 0, locals := 0 }
set_option maxHeartbeats 4000000 in
set_option maxRecDepth 100000 in
theorem c_ClockWays_sharedEnd (l : Launch) (D : va_G) (cI cJ cZ : ClassId) (F : Nat) (a : Nat → Nat) (C_size : Int) (C_parent : Int → Int) (C_length : Int → Int) (x1 : Int) (x2 : Int) (r : Int) (sz : Nat) (h : f_ClockWays_sharedEnd F C_parent C_length x1 x2 = some (r)) : Met l y_ClockWays_sharedEnd w_ClockWays_sharedEnd rm_ClockWays_sharedEnd (PC D [(cI, .int), (cJ, .long), (cZ, .boolean)] [.ref (a 10), .int (iI x1), .int (iI x2)] ([(o_C a C_size), ((a 13), .inl (cI, 770, .inl (ia C_parent))), ((a 14), .inl (cI, 770, .inl (ia C_length)))]) sz) (QcRead (iI r)) 0 0 (fun _ => False) := by
  refine Met.ofW (cc := prog_3_method_16_code) (maxL := 6) (ret := (Option.some Jvm.ClassFile.FieldType.int)) (by decide) rfl ?_
  intro p e s m args below meth c s₁ B hml hv
  obtain ⟨rfl, hsz, hP, hK, hD0, hN⟩ := hv
  have hx := B.exec
  have hb := B.bytes
  have hr := B.returns
  have hts := atoms_spec (ws := w_ClockWays_sharedEnd) B.pre
  have hown : s.vm.findClass R_ClockWays = some m.cls := findClass_of_methodNamed B.named
  have hlocks := B.notSynchronized
  subst hsz
  have hl := lv_entry ([.ref (a 10), .int (iI x1), .int (iI x2)]) (n := 6) (Nat.le_of_ble_eq_true rfl)
  rw [lg_entry_eq]
  generalize (lg_sl ([.ref (a 10), .int (iI x1), .int (iI x2)]) ++ List.replicate (6 - (lg_sl ([.ref (a 10), .int (iI x1), .int (iI x2)])).length) Slot.unset).toArray = ls at hl ⊢
  have hl : lv_has ls 6 [(0, .ref (a 10)), (1, .int (iI x1)), (2, .int (iI x2))] := hl
  generalize (List.toArray ([.ref (a 10), .int (iI x1), .int (iI x2)] : List Value)) = args at hts ⊢
  have hT : ∀ w ∈ Tg, w.before args s = true := fun w h => hts w (List.mem_cons_of_mem _ h)
  obtain ⟨Q, hQ⟩ : ∃ Q, Q = MQ below (QcRead (iI r)) args s 0 0 (fun _ => False) := ⟨_, rfl⟩
  rw [← hQ]
  rw [f_ClockWays_sharedEnd] at h
  refine lv_iload_n hx hb d_ClockWays_sharedEnd_0 rfl (lv_at hl 1 rfl) ?_
  refine lv_istore_n (lv' := [(3, .int (iI x1)), (0, .ref (a 10)), (1, .int (iI x1)), (2, .int (iI x2))]) hx hb d_ClockWays_sharedEnd_1 rfl hl (by decide) rfl (fun ls hl => ?_)
  refine lv_iload_n hx hb d_ClockWays_sharedEnd_2 rfl (lv_at hl 3 rfl) ?_
  refine lv_istore (lv' := [(4, .int (iI x2)), (3, .int (iI x1)), (0, .ref (a 10)), (1, .int (iI x1)), (2, .int (iI x2))]) hx hb d_ClockWays_sharedEnd_3 hl (by decide) rfl (fun ls hl => ?_)
  refine zv_iconst hx hb d_ClockWays_sharedEnd_5 ?_
  refine lv_istore (lv' := [(5, .int (iI 0)), (4, .int (iI x2)), (3, .int (iI x1)), (0, .ref (a 10)), (1, .int (iI x1)), (2, .int (iI x2))]) hx hb d_ClockWays_sharedEnd_6 hl (by decide) rfl (fun ls hl => ?_)
  have hl8 : ∀ (nf : Nat) (v3 : Int) (v4 : Int) (v5 : Int) (ls : Array Slot), lv_has ls 6 [(0, .ref (a 10)), (3, .int (iI v3)), (4, .int (iI v4)), (5, .int (iI v5))] → lq3 (f_ClockWays_sharedEnd_b8 F C_parent C_length) nf v3 v4 v5 = some (r) → W p l e (headSpec w_ClockWays_sharedEnd rm_ClockWays_sharedEnd).room s m args below meth c s.heap [] 0 0 Q (F0 m 8 ls []) := by
    intro n8
    induction n8 with
    | zero => intro v3 v4 v5 ls hl h; exact no_some h
    | succ n8 ih8 =>
      intro v3 v4 v5 ls hl h
      replace h : f_ClockWays_sharedEnd_b8 F C_parent C_length (lq3 (f_ClockWays_sharedEnd_b8 F C_parent C_length) n8) v3 v4 v5 = some (r) := h
      obtain ⟨self8, hs8⟩ : ∃ z, z = lq3 (f_ClockWays_sharedEnd_b8 F C_parent C_length) n8 := ⟨_, rfl⟩
      rw [← hs8] at h ih8
      rw [f_ClockWays_sharedEnd_b8] at h
      refine lv_iload hx hb d_ClockWays_sharedEnd_8 (lv_at hl 3 rfl) ?_
      refine lv_bipush (v := iI 96) hx hb d_ClockWays_sharedEnd_10 (by decide) ?_
      have hj71 : ∀  (ls : Array Slot), lv_has ls 6 [(3, .int (iI v3)), (4, .int (iI v4))] → f_ClockWays_sharedEnd_j71 F v3 v4 = some (r) → W p l e (headSpec w_ClockWays_sharedEnd rm_ClockWays_sharedEnd).room s m args below meth c s.heap [] 0 0 Q (F0 m 71 ls []) := by
        intro  ls hl h
        rw [f_ClockWays_sharedEnd_j71] at h
        refine lv_iload_n hx hb d_ClockWays_sharedEnd_71 rfl (lv_at hl 0 rfl) ?_
        refine lv_iload hx hb d_ClockWays_sharedEnd_72 (lv_at hl 1 rfl) ?_
        obtain ⟨hg0, h⟩ := gr_e h
        obtain ⟨hg1, h⟩ := gr_e h
        refine zc_ne hx hb d_ClockWays_sharedEnd_74 rfl hg0 hg1 (fun hc => ?_) (fun hc => ?_)
        · replace h := if_f hc h
          refine zv_iconst hx hb d_ClockWays_sharedEnd_81 ?_
          have e1 := so1 h
          rw [hQ, e1]; exact W.iret hx hb hr (fun t ht hW => ⟨rfl, ht⟩) (fun q h => nomatch h) d_ClockWays_sharedEnd_82
        · replace h := if_t hc h
          refine lv_iload_n hx hb d_ClockWays_sharedEnd_77 rfl (lv_at hl 0 rfl) ?_
          refine lv_goto hx hb d_ClockWays_sharedEnd_78 rfl ?_
          have e1 := so1 h
          rw [hQ, e1]; exact W.iret hx hb hr (fun t ht hW => ⟨rfl, ht⟩) (fun q h => nomatch h) d_ClockWays_sharedEnd_82
      obtain ⟨hg0, h⟩ := gr_e h
      refine zc_ge hx hb d_ClockWays_sharedEnd_12 rfl hg0 (by decide) (fun hc => ?_) (fun hc => ?_)
      · replace h := if_t hc h
        exact hj71  ls (lv_sub hl [1, 2] rfl) h
      · replace h := if_f hc h
        refine lv_iload_n hx hb d_ClockWays_sharedEnd_15 rfl (lv_at hl 1 rfl) ?_
        obtain ⟨hg0, h⟩ := gr_e h
        refine zi_lt hx hb d_ClockWays_sharedEnd_16 rfl hg0 (fun hc => ?_) (fun hc => ?_)
        · replace h := if_t hc h
          exact hj71  ls (lv_sub hl [1, 2] rfl) h
        · replace h := if_f hc h
          refine lv_iload hx hb d_ClockWays_sharedEnd_19 (lv_at hl 2 rfl) ?_
          obtain ⟨hg0, h⟩ := gr_e h
          refine zi_lt hx hb d_ClockWays_sharedEnd_21 rfl hg0 (fun hc => ?_) (fun hc => ?_)
          · replace h := if_t hc h
            exact hj71  ls (lv_sub hl [1, 2] rfl) h
          · replace h := if_f hc h
            refine lv_iload_n hx hb d_ClockWays_sharedEnd_24 rfl (lv_at hl 1 rfl) ?_
            refine lv_iload hx hb d_ClockWays_sharedEnd_25 (lv_at hl 2 rfl) ?_
            obtain ⟨hg0, h⟩ := gr_e h
            obtain ⟨hg1, h⟩ := gr_e h
            refine zc_eq hx hb d_ClockWays_sharedEnd_27 rfl hg0 hg1 (fun hc => ?_) (fun hc => ?_)
            · replace h := if_t hc h
              exact hj71  ls (lv_sub hl [1, 2] rfl) h
            · replace h := if_f hc h
              refine lv_aload_n hx hb d_ClockWays_sharedEnd_30 rfl (lv_at hl 0 rfl) ?_
              refine va_get (D := D) (ci := 4) (v := .ref (a 14)) (C := R_ClockWays) (T := F_ClockWays) (N := 17) hx hb hT in_ClockWays hown hK hP 0 rfl rfl 7 (by decide) (hT _ m201) (fun _ h9 => h9) rfl d_ClockWays_sharedEnd_31 ?_
              refine lv_iload_n hx hb d_ClockWays_sharedEnd_34 rfl (lv_at hl 1 rfl) ?_
              obtain ⟨hin, h⟩ := gi_e h
              refine zv_iald hx hb hK hP 2 0 rfl rfl (Nat.le_of_ble_eq_true rfl) hin d_ClockWays_sharedEnd_35 ?_
              refine lv_aload_n hx hb d_ClockWays_sharedEnd_36 rfl (lv_at hl 0 rfl) ?_
              refine va_get (D := D) (ci := 4) (v := .ref (a 14)) (C := R_ClockWays) (T := F_ClockWays) (N := 17) hx hb hT in_ClockWays hown hK hP 0 rfl rfl 7 (by decide) (hT _ m201) (fun _ h9 => h9) rfl d_ClockWays_sharedEnd_37 ?_
              refine lv_iload hx hb d_ClockWays_sharedEnd_40 (lv_at hl 2 rfl) ?_
              obtain ⟨hin, h⟩ := gi_e h
              refine zv_iald hx hb hK hP 2 0 rfl rfl (Nat.le_of_ble_eq_true rfl) hin d_ClockWays_sharedEnd_42 ?_
              have hj65 : ∀ (v3_1 : Int) (v4_2 : Int) (ls : Array Slot), lv_has ls 6 [(0, .ref (a 10)), (3, .int (iI v3_1)), (4, .int (iI v4_2)), (5, .int (iI v5))] → f_ClockWays_sharedEnd_j65 F v5 self8 v3_1 v4_2 = some (r) → W p l e (headSpec w_ClockWays_sharedEnd rm_ClockWays_sharedEnd).room s m args below meth c s.heap [] 0 0 Q (F0 m 65 ls []) := by
                intro v3_1 v4_2 ls hl h
                rw [f_ClockWays_sharedEnd_j65] at h
                refine lv_iinc (v := iI (v5 + 1)) (k := 3) (lv' := [(5, .int (iI (v5 + 1))), (0, .ref (a 10)), (3, .int (iI v3_1)), (4, .int (iI v4_2))]) hx hb d_ClockWays_sharedEnd_65 hl rfl (iI_add _ _) (by decide) rfl (fun ls hl => ?_)
                refine lv_goto hx hb d_ClockWays_sharedEnd_68 rfl ?_
                exact ih8 v3_1 v4_2 (v5 + 1) ls (lv_sub hl [1, 2, 3, 0] rfl) h
              obtain ⟨hg0, h⟩ := gr_e h
              obtain ⟨hg1, h⟩ := gr_e h
              refine zc_lt hx hb d_ClockWays_sharedEnd_43 rfl hg0 hg1 (fun hc => ?_) (fun hc => ?_)
              · replace h := if_t hc h
                refine lv_aload_n hx hb d_ClockWays_sharedEnd_56 rfl (lv_at hl 0 rfl) ?_
                refine va_get (D := D) (ci := 4) (v := .ref (a 13)) (C := R_ClockWays) (T := F_ClockWays) (N := 17) hx hb hT in_ClockWays hown hK hP 0 rfl rfl 6 (by decide) (hT _ m200) (fun _ h9 => h9) rfl d_ClockWays_sharedEnd_57 ?_
                refine lv_iload hx hb d_ClockWays_sharedEnd_60 (lv_at hl 2 rfl) ?_
                obtain ⟨hin, h⟩ := gi_e h
                refine zv_iald hx hb hK hP 1 0 rfl rfl (Nat.le_of_ble_eq_true rfl) hin d_ClockWays_sharedEnd_62 ?_
                refine zv_top (fun v4_3 hv => ?_)
                replace h := bd_e hv h
                refine lv_istore (lv' := [(4, .int (iI v4_3)), (0, .ref (a 10)), (3, .int (iI v3)), (5, .int (iI v5))]) hx hb d_ClockWays_sharedEnd_63 hl (by decide) rfl (fun ls hl => ?_)
                exact hj65 v3 v4_3 ls (lv_sub hl [1, 2, 0, 3] rfl) h
              · replace h := if_f hc h
                refine lv_aload_n hx hb d_ClockWays_sharedEnd_46 rfl (lv_at hl 0 rfl) ?_
                refine va_get (D := D) (ci := 4) (v := .ref (a 13)) (C := R_ClockWays) (T := F_ClockWays) (N := 17) hx hb hT in_ClockWays hown hK hP 0 rfl rfl 6 (by decide) (hT _ m200) (fun _ h9 => h9) rfl d_ClockWays_sharedEnd_47 ?_
                refine lv_iload_n hx hb d_ClockWays_sharedEnd_50 rfl (lv_at hl 1 rfl) ?_
                obtain ⟨hin, h⟩ := gi_e h
                refine zv_iald hx hb hK hP 1 0 rfl rfl (Nat.le_of_ble_eq_true rfl) hin d_ClockWays_sharedEnd_51 ?_
                refine zv_top (fun v3_4 hv => ?_)
                replace h := bd_e hv h
                refine lv_istore_n (lv' := [(3, .int (iI v3_4)), (0, .ref (a 10)), (4, .int (iI v4)), (5, .int (iI v5))]) hx hb d_ClockWays_sharedEnd_52 rfl hl (by decide) rfl (fun ls hl => ?_)
                refine lv_goto hx hb d_ClockWays_sharedEnd_53 rfl ?_
                exact hj65 v3_4 v4 ls (lv_sub hl [1, 0, 2, 3] rfl) h
  exact hl8 F x1 x2 0 ls (lv_sub hl [3, 2, 1, 0] rfl) h
abbrev rm_ClockWays_credit : Room := { frames := 1, cells := 0, slots := 0, locals := 25 }
set_option maxHeartbeats 4000000 in
set_option maxRecDepth 100000 in
theorem c_ClockWays_credit (l : Launch) (D : va_G) (cI cJ cZ : ClassId) (F : Nat) (a : Nat → Nat) (C_size : Int) (C_parent : Int → Int) (C_length : Int → Int) (C_early : Int → Int) (C_late : Int → Int) (C_last : Int → Int) (N_period : Int) (N_width : Int) (N_size : Int) (N_wireEarly : Int → Int) (N_wireLate : Int → Int) (x1 : Int) (x2 : Int) (x3 : Int) (x4 : Int) (r : Int) (sz : Nat) (h : f_ClockWays_credit F C_parent C_length C_early C_late C_last N_wireEarly N_wireLate x1 x2 x3 x4 = some (r)) : Met l y_ClockWays_credit w_ClockWays_credit rm_ClockWays_credit (PC D [(cI, .int), (cJ, .long), (cZ, .boolean)] [.ref (a 10), .int (iI x1), .int (iI x2), .int (iI x3), .int (iI x4)] ([(o_C a C_size), ((a 13), .inl (cI, 770, .inl (ia C_parent))), ((a 14), .inl (cI, 770, .inl (ia C_length))), ((a 15), .inl (cI, 770, .inl (ia C_early))), ((a 16), .inl (cI, 770, .inl (ia C_late))), ((a 20), .inl (cI, 384, .inl (ia C_last))), (o_N a N_period N_width N_size), ((a 47), .inl (cI, 144, .inl (ia N_wireEarly))), ((a 48), .inl (cI, 144, .inl (ia N_wireLate)))]) sz) (QcRead (iI r)) 0 0 (fun _ => False) := by
  refine Met.ofW (cc := prog_3_method_5_code) (maxL := 10) (ret := (Option.some Jvm.ClassFile.FieldType.int)) (by decide) rfl ?_
  intro p e s m args below meth c s₁ B hml hv
  obtain ⟨rfl, hsz, hP, hK, hD0, hN⟩ := hv
  have hx := B.exec
  have hb := B.bytes
  have hr := B.returns
  have hts := atoms_spec (ws := w_ClockWays_credit) B.pre
  have hown : s.vm.findClass R_ClockWays = some m.cls := findClass_of_methodNamed B.named
  have hlocks := B.notSynchronized
  subst hsz
  have hl := lv_entry ([.ref (a 10), .int (iI x1), .int (iI x2), .int (iI x3), .int (iI x4)]) (n := 10) (Nat.le_of_ble_eq_true rfl)
  rw [lg_entry_eq]
  generalize (lg_sl ([.ref (a 10), .int (iI x1), .int (iI x2), .int (iI x3), .int (iI x4)]) ++ List.replicate (10 - (lg_sl ([.ref (a 10), .int (iI x1), .int (iI x2), .int (iI x3), .int (iI x4)])).length) Slot.unset).toArray = ls at hl ⊢
  have hl : lv_has ls 10 [(0, .ref (a 10)), (1, .int (iI x1)), (2, .int (iI x2)), (3, .int (iI x3)), (4, .int (iI x4))] := hl
  generalize (List.toArray ([.ref (a 10), .int (iI x1), .int (iI x2), .int (iI x3), .int (iI x4)] : List Value)) = args at hts ⊢
  have hT : ∀ w ∈ Tg, w.before args s = true := fun w h => hts w (List.mem_cons_of_mem _ h)
  obtain ⟨Q, hQ⟩ : ∃ Q, Q = MQ below (QcRead (iI r)) args s 0 0 (fun _ => False) := ⟨_, rfl⟩
  rw [← hQ]
  rw [f_ClockWays_credit] at h
  refine lv_aload_n hx hb d_ClockWays_credit_0 rfl (lv_at hl 0 rfl) ?_
  refine va_get (D := D) (ci := 4) (v := .ref (a 20)) (C := R_ClockWays) (T := F_ClockWays) (N := 17) hx hb hT in_ClockWays hown hK hP 0 rfl rfl 13 (by decide) (hT _ m212) (fun _ h9 => h9) rfl d_ClockWays_credit_1 ?_
  refine lv_iload_n hx hb d_ClockWays_credit_4 rfl (lv_at hl 1 rfl) ?_
  refine lv_bipush (v := iI 8) hx hb d_ClockWays_credit_5 (by decide) ?_
  refine zv_imul hx hb d_ClockWays_credit_7 ?_
  refine lv_iload_n hx hb d_ClockWays_credit_8 rfl (lv_at hl 2 rfl) ?_
  refine zv_iadd hx hb d_ClockWays_credit_9 ?_
  obtain ⟨hin, h⟩ := gi_e h
  refine zv_iald hx hb hK hP 5 0 rfl rfl (Nat.le_of_ble_eq_true rfl) hin d_ClockWays_credit_10 ?_
  refine zv_top (fun v5 hv => ?_)
  replace h := bd_e hv h
  refine lv_istore (lv' := [(5, .int (iI v5)), (0, .ref (a 10)), (1, .int (iI x1)), (2, .int (iI x2)), (3, .int (iI x3)), (4, .int (iI x4))]) hx hb d_ClockWays_credit_11 hl (by decide) rfl (fun ls hl => ?_)
  refine lv_aload_n hx hb d_ClockWays_credit_13 rfl (lv_at hl 1 rfl) ?_
  refine va_get (D := D) (ci := 4) (v := .ref (a 20)) (C := R_ClockWays) (T := F_ClockWays) (N := 17) hx hb hT in_ClockWays hown hK hP 0 rfl rfl 13 (by decide) (hT _ m212) (fun _ h9 => h9) rfl d_ClockWays_credit_14 ?_
  refine lv_iload_n hx hb d_ClockWays_credit_17 rfl (lv_at hl 4 rfl) ?_
  refine lv_bipush (v := iI 8) hx hb d_ClockWays_credit_18 (by decide) ?_
  refine zv_imul hx hb d_ClockWays_credit_20 ?_
  refine lv_iload hx hb d_ClockWays_credit_21 (lv_at hl 5 rfl) ?_
  refine zv_iadd hx hb d_ClockWays_credit_23 ?_
  obtain ⟨hin, h⟩ := gi_e h
  refine zv_iald hx hb hK hP 5 0 rfl rfl (Nat.le_of_ble_eq_true rfl) hin d_ClockWays_credit_24 ?_
  refine zv_top (fun v6 hv => ?_)
  replace h := bd_e hv h
  refine lv_istore (lv' := [(6, .int (iI v6)), (5, .int (iI v5)), (0, .ref (a 10)), (1, .int (iI x1)), (2, .int (iI x2)), (3, .int (iI x3)), (4, .int (iI x4))]) hx hb d_ClockWays_credit_25 hl (by decide) rfl (fun ls hl => ?_)
  refine lv_aload_n hx hb d_ClockWays_credit_27 rfl (lv_at hl 2 rfl) ?_
  refine lv_iload hx hb d_ClockWays_credit_28 (lv_at hl 1 rfl) ?_
  refine lv_iload hx hb d_ClockWays_credit_30 (lv_at hl 0 rfl) ?_
  obtain ⟨r32, hcall, h⟩ := ob1_e h
  refine ro_i (va_Run.run (va_runV (As := [.int (iI v5), .int (iI v6)]) (rest := []) ⟨hx, hb, hml, hown, hts⟩ (c_ClockWays_sharedEnd l D cI cJ cZ F a C_size C_parent C_length v5 v6 r32 s.heap.size hcall) (cwV 2 hts (gd_V m630 m627 m629 sl_ClockWays_sharedEnd m5) rfl rfl rfl ⟨rfl, hc_ClockWays_sharedEnd⟩ ⟨Nat.le_of_ble_eq_true rfl, Nat.le_of_ble_eq_true rfl⟩) (pc_V 0 4 [.int (iI v5), .int (iI v6)] hP hK hD0 hN [0, 1, 2] rfl rfl rfl rfl rfl) rfl rfl hl.1 rfl (lv_room (Nat.le_of_ble_eq_true rfl)) d_ClockWays_credit_32 ⟨Nat.le_refl 0, Nat.le_refl 0⟩)) (W.eq (g2 := F0 m 35 ls [.int (iI r32)]) rfl ?_)
  refine lv_istore (lv' := [(7, .int (iI r32)), (6, .int (iI v6)), (5, .int (iI v5)), (0, .ref (a 10)), (1, .int (iI x1)), (2, .int (iI x2)), (3, .int (iI x3)), (4, .int (iI x4))]) hx hb d_ClockWays_credit_35 hl (by decide) rfl (fun ls hl => ?_)
  refine lv_iload hx hb d_ClockWays_credit_37 (lv_at hl 0 rfl) ?_
  obtain ⟨hg0, h⟩ := gr_e h
  refine zi_ge hx hb d_ClockWays_credit_39 rfl hg0 (fun hc => ?_) (fun hc => ?_)
  · replace h := if_t hc h
    refine lv_aload_n hx hb d_ClockWays_credit_44 rfl (lv_at hl 3 rfl) ?_
    refine va_get (D := D) (ci := 4) (v := .ref (a 16)) (C := R_ClockWays) (T := F_ClockWays) (N := 17) hx hb hT in_ClockWays hown hK hP 0 rfl rfl 9 (by decide) (hT _ m203) (fun _ h9 => h9) rfl d_ClockWays_credit_45 ?_
    refine lv_iload hx hb d_ClockWays_credit_48 (lv_at hl 0 rfl) ?_
    obtain ⟨hin, h⟩ := gi_e h
    refine zv_iald hx hb hK hP 4 0 rfl rfl (Nat.le_of_ble_eq_true rfl) hin d_ClockWays_credit_50 ?_
    refine lv_aload_n hx hb d_ClockWays_credit_51 rfl (lv_at hl 3 rfl) ?_
    refine va_get (D := D) (ci := 4) (v := .ref (a 15)) (C := R_ClockWays) (T := F_ClockWays) (N := 17) hx hb hT in_ClockWays hown hK hP 0 rfl rfl 8 (by decide) (hT _ m202) (fun _ h9 => h9) rfl d_ClockWays_credit_52 ?_
    refine lv_iload hx hb d_ClockWays_credit_55 (lv_at hl 0 rfl) ?_
    obtain ⟨hin, h⟩ := gi_e h
    refine zv_iald hx hb hK hP 3 0 rfl rfl (Nat.le_of_ble_eq_true rfl) hin d_ClockWays_credit_57 ?_
    refine zv_isub hx hb d_ClockWays_credit_58 ?_
    refine zv_top (fun v8 hv => ?_)
    replace h := bd_e hv h
    refine lv_istore (lv' := [(8, .int (iI v8)), (7, .int (iI r32)), (6, .int (iI v6)), (5, .int (iI v5)), (0, .ref (a 10)), (1, .int (iI x1)), (2, .int (iI x2)), (3, .int (iI x3)), (4, .int (iI x4))]) hx hb d_ClockWays_credit_59 hl (by decide) rfl (fun ls hl => ?_)
    refine lv_iload_n hx hb d_ClockWays_credit_61 rfl (lv_at hl 5 rfl) ?_
    refine lv_iload_n hx hb d_ClockWays_credit_62 rfl (lv_at hl 7 rfl) ?_
    have hj106 : ∀ (v8_1 : Int) (ls : Array Slot), lv_has ls 10 [(8, .int (iI v8_1))] → f_ClockWays_credit_j106 F v8_1 = some (r) → W p l e (headSpec w_ClockWays_credit rm_ClockWays_credit).room s m args below meth c s.heap [] 0 0 Q (F0 m 106 ls []) := by
      intro v8_1 ls hl h
      rw [f_ClockWays_credit_j106] at h
      refine lv_iload hx hb d_ClockWays_credit_106 (lv_at hl 0 rfl) ?_
      have e1 := so1 h
      rw [hQ, e1]; exact W.iret hx hb hr (fun t ht hW => ⟨rfl, ht⟩) (fun q h => nomatch h) d_ClockWays_credit_108
    obtain ⟨hg0, h⟩ := gr_e h
    obtain ⟨hg1, h⟩ := gr_e h
    refine zc_ne hx hb d_ClockWays_credit_63 rfl hg0 hg1 (fun hc => ?_) (fun hc => ?_)
    · replace h := if_f hc h
      exact hj106 v8 ls (lv_sub hl [0] rfl) h
    · replace h := if_t hc h
      refine lv_iload hx hb d_ClockWays_credit_66 (lv_at hl 3 rfl) ?_
      refine lv_iload hx hb d_ClockWays_credit_68 (lv_at hl 2 rfl) ?_
      obtain ⟨hg0, h⟩ := gr_e h
      obtain ⟨hg1, h⟩ := gr_e h
      refine zc_ne hx hb d_ClockWays_credit_70 rfl hg0 hg1 (fun hc => ?_) (fun hc => ?_)
      · replace h := if_f hc h
        exact hj106 v8 ls (lv_sub hl [0] rfl) h
      · replace h := if_t hc h
        refine lv_iload_n hx hb d_ClockWays_credit_73 rfl (lv_at hl 5 rfl) ?_
        refine zv_iconst hx hb d_ClockWays_credit_74 ?_
        refine zv_imul hx hb d_ClockWays_credit_75 ?_
        refine zv_iconst hx hb d_ClockWays_credit_76 ?_
        refine zv_iadd hx hb d_ClockWays_credit_77 ?_
        refine zv_top (fun v9 hv => ?_)
        replace h := bd_e hv h
        refine lv_istore (lv' := [(9, .int (iI v9)), (8, .int (iI v8)), (7, .int (iI r32)), (6, .int (iI v6)), (5, .int (iI v5)), (0, .ref (a 10)), (1, .int (iI x1)), (2, .int (iI x2)), (3, .int (iI x3)), (4, .int (iI x4))]) hx hb d_ClockWays_credit_78 hl (by decide) rfl (fun ls hl => ?_)
        refine lv_iload hx hb d_ClockWays_credit_80 (lv_at hl 1 rfl) ?_
        refine lv_aload_n hx hb d_ClockWays_credit_82 rfl (lv_at hl 5 rfl) ?_
        refine va_get (D := D) (ci := 4) (v := .ref (a 43)) (C := R_ClockWays) (T := F_ClockWays) (N := 17) hx hb hT in_ClockWays hown hK hP 0 rfl rfl 0 (by decide) (hT _ m194) (fun _ h9 => h9) rfl d_ClockWays_credit_83 ?_
        refine va_get (D := D) (ci := 1) (v := .ref (a 48)) (C := R_Net) (T := F_Net) (N := 15) hx hb hT in_Net hown hK hP 6 rfl rfl 7 (by decide) (hT _ m78) (fun _ h9 => h9) rfl d_ClockWays_credit_86 ?_
        refine lv_iload hx hb d_ClockWays_credit_89 (lv_at hl 0 rfl) ?_
        obtain ⟨hin, h⟩ := gi_e h
        refine zv_iald hx hb hK hP 8 0 rfl rfl (Nat.le_of_ble_eq_true rfl) hin d_ClockWays_credit_91 ?_
        refine lv_aload_n hx hb d_ClockWays_credit_92 rfl (lv_at hl 5 rfl) ?_
        refine va_get (D := D) (ci := 4) (v := .ref (a 43)) (C := R_ClockWays) (T := F_ClockWays) (N := 17) hx hb hT in_ClockWays hown hK hP 0 rfl rfl 0 (by decide) (hT _ m194) (fun _ h9 => h9) rfl d_ClockWays_credit_93 ?_
        refine va_get (D := D) (ci := 1) (v := .ref (a 47)) (C := R_Net) (T := F_Net) (N := 15) hx hb hT in_Net hown hK hP 6 rfl rfl 6 (by decide) (hT _ m73) (fun _ h9 => h9) rfl d_ClockWays_credit_96 ?_
        refine lv_iload hx hb d_ClockWays_credit_99 (lv_at hl 0 rfl) ?_
        obtain ⟨hin, h⟩ := gi_e h
        refine zv_iald hx hb hK hP 7 0 rfl rfl (Nat.le_of_ble_eq_true rfl) hin d_ClockWays_credit_101 ?_
        refine zv_isub hx hb d_ClockWays_credit_102 ?_
        refine zv_iadd hx hb d_ClockWays_credit_103 ?_
        refine zv_top (fun v8_2 hv => ?_)
        replace h := bd_e hv h
        refine lv_istore (lv' := [(8, .int (iI v8_2)), (9, .int (iI v9)), (7, .int (iI r32)), (6, .int (iI v6)), (5, .int (iI v5)), (0, .ref (a 10)), (1, .int (iI x1)), (2, .int (iI x2)), (3, .int (iI x3)), (4, .int (iI x4))]) hx hb d_ClockWays_credit_104 hl (by decide) rfl (fun ls hl => ?_)
        exact hj106 v8_2 ls (lv_sub hl [0] rfl) h
  · replace h := if_f hc h
    refine zv_iconst hx hb d_ClockWays_credit_42 ?_
    have e1 := so1 h
    rw [hQ, e1]; exact W.iret hx hb hr (fun t ht hW => ⟨rfl, ht⟩) (fun q h => nomatch h) d_ClockWays_credit_43
abbrev rm_Rooms_measurePair : Room := { frames := 2, cells := 0, slots := 0, locals := 54 }
set_option maxHeartbeats 4000000 in
set_option maxRecDepth 100000 in
theorem c_Rooms_measurePair (l : Launch) (D : va_G) (cI cJ cZ : ClassId) (F : Nat) (a : Nat → Nat) (R_leastMoving : Int) (R_leastFixed : Int) (R_leastHold : Int) (R_setup : Int → Int) (R_hold : Int → Int) (C_size : Int) (C_parent : Int → Int) (C_length : Int → Int) (C_early : Int → Int) (C_late : Int → Int) (C_last : Int → Int) (C_base : Int → Int) (C_wayEarly : Int → Int) (C_wayLate : Int → Int) (N_period : Int) (N_width : Int) (N_size : Int) (N_wireEarly : Int → Int) (N_wireLate : Int → Int) (x1 : Int) (x2 : Int) (x3 : Int) (x4 : Int) (z_R_setup : Int → Int) (z_R_hold : Int → Int) (z_R_leastMoving : Int) (z_R_leastFixed : Int) (z_R_leastHold : Int) (sz : Nat) (h : f_Rooms_measurePair F R_leastMoving R_leastFixed R_leastHold R_setup R_hold C_parent C_length C_early C_late C_last C_base C_wayEarly C_wayLate N_period N_wireEarly N_wireLate x1 x2 x3 x4 = some (z_R_setup, z_R_hold, z_R_leastMoving, z_R_leastFixed, z_R_leastHold)) : Met l y_Rooms_measurePair w_Rooms_measurePair rm_Rooms_measurePair (PC D [(cI, .int), (cJ, .long), (cZ, .boolean)] [.ref (a 7), .int (iI x1), .int (iI x2), .int (iI x3), .int (iI x4)] ([(o_R a R_leastMoving R_leastFixed R_leastHold), ((a 8), .inl (cI, 64, .inl (ia R_setup))), ((a 9), .inl (cI, 64, .inl (ia R_hold))), (o_C a C_size), ((a 13), .inl (cI, 770, .inl (ia C_parent))), ((a 14), .inl (cI, 770, .inl (ia C_length))), ((a 15), .inl (cI, 770, .inl (ia C_early))), ((a 16), .inl (cI, 770, .inl (ia C_late))), ((a 20), .inl (cI, 384, .inl (ia C_last))), ((a 21), .inl (cI, 384, .inl (ia C_base))), ((a 22), .inl (cI, 384, .inl (ia C_wayEarly))), ((a 23), .inl (cI, 384, .inl (ia C_wayLate))), (o_N a N_period N_width N_size), ((a 47), .inl (cI, 144, .inl (ia N_wireEarly))), ((a 48), .inl (cI, 144, .inl (ia N_wireLate)))]) sz) (QV D [(cI, .int), (cJ, .long), (cZ, .boolean)] ([(o_R a R_leastMoving R_leastFixed R_leastHold), ((a 8), .inl (cI, 64, .inl (ia R_setup))), ((a 9), .inl (cI, 64, .inl (ia R_hold))), (o_C a C_size), ((a 13), .inl (cI, 770, .inl (ia C_parent))), ((a 14), .inl (cI, 770, .inl (ia C_length))), ((a 15), .inl (cI, 770, .inl (ia C_early))), ((a 16), .inl (cI, 770, .inl (ia C_late))), ((a 20), .inl (cI, 384, .inl (ia C_last))), ((a 21), .inl (cI, 384, .inl (ia C_base))), ((a 22), .inl (cI, 384, .inl (ia C_wayEarly))), ((a 23), .inl (cI, 384, .inl (ia C_wayLate))), (o_N a N_period N_width N_size), ((a 47), .inl (cI, 144, .inl (ia N_wireEarly))), ((a 48), .inl (cI, 144, .inl (ia N_wireLate)))]) sz ([(o_R a z_R_leastMoving z_R_leastFixed z_R_leastHold), ((a 8), .inl (cI, 64, .inl (ia z_R_setup))), ((a 9), .inl (cI, 64, .inl (ia z_R_hold))), (o_C a C_size), ((a 13), .inl (cI, 770, .inl (ia C_parent))), ((a 14), .inl (cI, 770, .inl (ia C_length))), ((a 15), .inl (cI, 770, .inl (ia C_early))), ((a 16), .inl (cI, 770, .inl (ia C_late))), ((a 20), .inl (cI, 384, .inl (ia C_last))), ((a 21), .inl (cI, 384, .inl (ia C_base))), ((a 22), .inl (cI, 384, .inl (ia C_wayEarly))), ((a 23), .inl (cI, 384, .inl (ia C_wayLate))), (o_N a N_period N_width N_size), ((a 47), .inl (cI, 144, .inl (ia N_wireEarly))), ((a 48), .inl (cI, 144, .inl (ia N_wireLate)))])) 0 0 (va_A ([(o_R a R_leastMoving R_leastFixed R_leastHold), ((a 8), .inl (cI, 64, .inl (ia R_setup))), ((a 9), .inl (cI, 64, .inl (ia R_hold))), (o_C a C_size), ((a 13), .inl (cI, 770, .inl (ia C_parent))), ((a 14), .inl (cI, 770, .inl (ia C_length))), ((a 15), .inl (cI, 770, .inl (ia C_early))), ((a 16), .inl (cI, 770, .inl (ia C_late))), ((a 20), .inl (cI, 384, .inl (ia C_last))), ((a 21), .inl (cI, 384, .inl (ia C_base))), ((a 22), .inl (cI, 384, .inl (ia C_wayEarly))), ((a 23), .inl (cI, 384, .inl (ia C_wayLate))), (o_N a N_period N_width N_size), ((a 47), .inl (cI, 144, .inl (ia N_wireEarly))), ((a 48), .inl (cI, 144, .inl (ia N_wireLate)))]) sz) := by
  refine Met.ofW (cc := prog_7_method_3_code) (maxL := 11) (ret := (Option.none : Option Jvm.ClassFile.FieldType)) (by decide) rfl ?_
  intro p e s m args below meth c s₁ B hml hv
  obtain ⟨rfl, hsz, hP, hK, hD0, hN⟩ := hv
  have hx := B.exec
  have hb := B.bytes
  have hr := B.returns
  have hts := atoms_spec (ws := w_Rooms_measurePair) B.pre
  have hown : s.vm.findClass R_Rooms = some m.cls := findClass_of_methodNamed B.named
  have hlocks := B.notSynchronized
  subst hsz
  have hD := hD0.self (sz := s.heap.size)
  obtain ⟨A, hAe⟩ : ∃ A, A = va_A ([(o_R a R_leastMoving R_leastFixed R_leastHold), ((a 8), .inl (cI, 64, .inl (ia R_setup))), ((a 9), .inl (cI, 64, .inl (ia R_hold))), (o_C a C_size), ((a 13), .inl (cI, 770, .inl (ia C_parent))), ((a 14), .inl (cI, 770, .inl (ia C_length))), ((a 15), .inl (cI, 770, .inl (ia C_early))), ((a 16), .inl (cI, 770, .inl (ia C_late))), ((a 20), .inl (cI, 384, .inl (ia C_last))), ((a 21), .inl (cI, 384, .inl (ia C_base))), ((a 22), .inl (cI, 384, .inl (ia C_wayEarly))), ((a 23), .inl (cI, 384, .inl (ia C_wayLate))), (o_N a N_period N_width N_size), ((a 47), .inl (cI, 144, .inl (ia N_wireEarly))), ((a 48), .inl (cI, 144, .inl (ia N_wireLate)))]) s.heap.size := ⟨_, rfl⟩
  rw [← hAe] at hD
  have hA : ∀ q : Nat, s.heap.size ≤ q → A q := fun q h => by rw [hAe]; exact Or.inr h
  have hS : va_S A s.heap s.heap [] := va_S.rf
  have hl := lv_entry ([.ref (a 7), .int (iI x1), .int (iI x2), .int (iI x3), .int (iI x4)]) (n := 11) (Nat.le_of_ble_eq_true rfl)
  rw [lg_entry_eq]
  generalize (lg_sl ([.ref (a 7), .int (iI x1), .int (iI x2), .int (iI x3), .int (iI x4)]) ++ List.replicate (11 - (lg_sl ([.ref (a 7), .int (iI x1), .int (iI x2), .int (iI x3), .int (iI x4)])).length) Slot.unset).toArray = ls at hl ⊢
  have hl : lv_has ls 11 [(0, .ref (a 7)), (1, .int (iI x1)), (2, .int (iI x2)), (3, .int (iI x3)), (4, .int (iI x4))] := hl
  generalize (List.toArray ([.ref (a 7), .int (iI x1), .int (iI x2), .int (iI x3), .int (iI x4)] : List Value)) = args at hts ⊢
  have hT : ∀ w ∈ Tg, w.before args s = true := fun w h => hts w (List.mem_cons_of_mem _ h)
  obtain ⟨Q, hQ⟩ : ∃ Q, Q = MQ below (QV D [(cI, .int), (cJ, .long), (cZ, .boolean)] ([(o_R a R_leastMoving R_leastFixed R_leastHold), ((a 8), .inl (cI, 64, .inl (ia R_setup))), ((a 9), .inl (cI, 64, .inl (ia R_hold))), (o_C a C_size), ((a 13), .inl (cI, 770, .inl (ia C_parent))), ((a 14), .inl (cI, 770, .inl (ia C_length))), ((a 15), .inl (cI, 770, .inl (ia C_early))), ((a 16), .inl (cI, 770, .inl (ia C_late))), ((a 20), .inl (cI, 384, .inl (ia C_last))), ((a 21), .inl (cI, 384, .inl (ia C_base))), ((a 22), .inl (cI, 384, .inl (ia C_wayEarly))), ((a 23), .inl (cI, 384, .inl (ia C_wayLate))), (o_N a N_period N_width N_size), ((a 47), .inl (cI, 144, .inl (ia N_wireEarly))), ((a 48), .inl (cI, 144, .inl (ia N_wireLate)))]) s.heap.size ([(o_R a z_R_leastMoving z_R_leastFixed z_R_leastHold), ((a 8), .inl (cI, 64, .inl (ia z_R_setup))), ((a 9), .inl (cI, 64, .inl (ia z_R_hold))), (o_C a C_size), ((a 13), .inl (cI, 770, .inl (ia C_parent))), ((a 14), .inl (cI, 770, .inl (ia C_length))), ((a 15), .inl (cI, 770, .inl (ia C_early))), ((a 16), .inl (cI, 770, .inl (ia C_late))), ((a 20), .inl (cI, 384, .inl (ia C_last))), ((a 21), .inl (cI, 384, .inl (ia C_base))), ((a 22), .inl (cI, 384, .inl (ia C_wayEarly))), ((a 23), .inl (cI, 384, .inl (ia C_wayLate))), (o_N a N_period N_width N_size), ((a 47), .inl (cI, 144, .inl (ia N_wireEarly))), ((a 48), .inl (cI, 144, .inl (ia N_wireLate)))])) args s 0 0 (va_A ([(o_R a R_leastMoving R_leastFixed R_leastHold), ((a 8), .inl (cI, 64, .inl (ia R_setup))), ((a 9), .inl (cI, 64, .inl (ia R_hold))), (o_C a C_size), ((a 13), .inl (cI, 770, .inl (ia C_parent))), ((a 14), .inl (cI, 770, .inl (ia C_length))), ((a 15), .inl (cI, 770, .inl (ia C_early))), ((a 16), .inl (cI, 770, .inl (ia C_late))), ((a 20), .inl (cI, 384, .inl (ia C_last))), ((a 21), .inl (cI, 384, .inl (ia C_base))), ((a 22), .inl (cI, 384, .inl (ia C_wayEarly))), ((a 23), .inl (cI, 384, .inl (ia C_wayLate))), (o_N a N_period N_width N_size), ((a 47), .inl (cI, 144, .inl (ia N_wireEarly))), ((a 48), .inl (cI, 144, .inl (ia N_wireLate)))]) s.heap.size) := ⟨_, rfl⟩
  rw [← hQ]
  suffices hW : ∀ (H : Heap) (locs : List Loc), va_P D vwCl ([(o_R a R_leastMoving R_leastFixed R_leastHold), ((a 8), .inl (cI, 64, .inl (ia R_setup))), ((a 9), .inl (cI, 64, .inl (ia R_hold))), (o_C a C_size), ((a 13), .inl (cI, 770, .inl (ia C_parent))), ((a 14), .inl (cI, 770, .inl (ia C_length))), ((a 15), .inl (cI, 770, .inl (ia C_early))), ((a 16), .inl (cI, 770, .inl (ia C_late))), ((a 20), .inl (cI, 384, .inl (ia C_last))), ((a 21), .inl (cI, 384, .inl (ia C_base))), ((a 22), .inl (cI, 384, .inl (ia C_wayEarly))), ((a 23), .inl (cI, 384, .inl (ia C_wayLate))), (o_N a N_period N_width N_size), ((a 47), .inl (cI, 144, .inl (ia N_wireEarly))), ((a 48), .inl (cI, 144, .inl (ia N_wireLate)))]) H → va_D A ([(o_R a R_leastMoving R_leastFixed R_leastHold), ((a 8), .inl (cI, 64, .inl (ia R_setup))), ((a 9), .inl (cI, 64, .inl (ia R_hold))), (o_C a C_size), ((a 13), .inl (cI, 770, .inl (ia C_parent))), ((a 14), .inl (cI, 770, .inl (ia C_length))), ((a 15), .inl (cI, 770, .inl (ia C_early))), ((a 16), .inl (cI, 770, .inl (ia C_late))), ((a 20), .inl (cI, 384, .inl (ia C_last))), ((a 21), .inl (cI, 384, .inl (ia C_base))), ((a 22), .inl (cI, 384, .inl (ia C_wayEarly))), ((a 23), .inl (cI, 384, .inl (ia C_wayLate))), (o_N a N_period N_width N_size), ((a 47), .inl (cI, 144, .inl (ia N_wireEarly))), ((a 48), .inl (cI, 144, .inl (ia N_wireLate)))]) → va_S A s.heap H locs → W p l e (headSpec w_Rooms_measurePair rm_Rooms_measurePair).room s m args below meth c H locs 0 0 Q (F0 m 0 ls []) from hW s.heap [] hP hD hS
  clear hP hD hS
  intro H locs hP hD hS
  rw [f_Rooms_measurePair] at h
  refine lv_iload_n hx hb d_Rooms_measurePair_0 rfl (lv_at hl 1 rfl) ?_
  refine lv_bipush (v := iI 8) hx hb d_Rooms_measurePair_1 (by decide) ?_
  refine zv_imul hx hb d_Rooms_measurePair_3 ?_
  refine lv_iload_n hx hb d_Rooms_measurePair_4 rfl (lv_at hl 2 rfl) ?_
  refine zv_iadd hx hb d_Rooms_measurePair_5 ?_
  refine zv_top (fun v5 hv => ?_)
  replace h := bd_e hv h
  refine lv_istore (lv' := [(5, .int (iI v5)), (0, .ref (a 7)), (1, .int (iI x1)), (2, .int (iI x2)), (3, .int (iI x3)), (4, .int (iI x4))]) hx hb d_Rooms_measurePair_6 hl (by decide) rfl (fun ls hl => ?_)
  refine lv_iload_n hx hb d_Rooms_measurePair_8 rfl (lv_at hl 4 rfl) ?_
  refine lv_bipush (v := iI 8) hx hb d_Rooms_measurePair_9 (by decide) ?_
  refine zv_imul hx hb d_Rooms_measurePair_11 ?_
  refine lv_iload hx hb d_Rooms_measurePair_12 (lv_at hl 5 rfl) ?_
  refine zv_iadd hx hb d_Rooms_measurePair_14 ?_
  refine zv_top (fun v6 hv => ?_)
  replace h := bd_e hv h
  refine lv_istore (lv' := [(6, .int (iI v6)), (5, .int (iI v5)), (0, .ref (a 7)), (1, .int (iI x1)), (2, .int (iI x2)), (3, .int (iI x3)), (4, .int (iI x4))]) hx hb d_Rooms_measurePair_15 hl (by decide) rfl (fun ls hl => ?_)
  refine lv_iload_n hx hb d_Rooms_measurePair_17 rfl (lv_at hl 4 rfl) ?_
  refine lv_bipush (v := iI 8) hx hb d_Rooms_measurePair_18 (by decide) ?_
  refine zv_imul hx hb d_Rooms_measurePair_20 ?_
  refine lv_iload hx hb d_Rooms_measurePair_21 (lv_at hl 6 rfl) ?_
  refine zv_iadd hx hb d_Rooms_measurePair_23 ?_
  refine zv_top (fun v7 hv => ?_)
  replace h := bd_e hv h
  refine lv_istore (lv' := [(7, .int (iI v7)), (6, .int (iI v6)), (5, .int (iI v5)), (0, .ref (a 7)), (1, .int (iI x1)), (2, .int (iI x2)), (3, .int (iI x3)), (4, .int (iI x4))]) hx hb d_Rooms_measurePair_24 hl (by decide) rfl (fun ls hl => ?_)
  refine lv_aload_n hx hb d_Rooms_measurePair_26 rfl (lv_at hl 3 rfl) ?_
  refine va_get (D := D) (ci := 6) (v := .ref (a 10)) (C := R_Rooms) (T := F_Rooms) (N := 7) hx hb hT in_Rooms hown hK hP 0 rfl rfl 1 (by decide) (hT _ m266) (fun _ h9 => h9) rfl d_Rooms_measurePair_27 ?_
  refine va_get (D := D) (ci := 4) (v := .ref (a 21)) (C := R_ClockWays) (T := F_ClockWays) (N := 17) hx hb hT in_ClockWays hown hK hP 3 rfl rfl 14 (by decide) (hT _ m214) (fun _ h9 => h9) rfl d_Rooms_measurePair_30 ?_
  refine lv_iload hx hb d_Rooms_measurePair_33 (lv_at hl 1 rfl) ?_
  obtain ⟨hin, h⟩ := gi_e h
  refine zv_iald hx hb hK hP 9 0 rfl rfl (Nat.le_of_ble_eq_true rfl) hin d_Rooms_measurePair_35 ?_
  refine lv_aload_n hx hb d_Rooms_measurePair_36 rfl (lv_at hl 3 rfl) ?_
  refine va_get (D := D) (ci := 6) (v := .ref (a 10)) (C := R_Rooms) (T := F_Rooms) (N := 7) hx hb hT in_Rooms hown hK hP 0 rfl rfl 1 (by decide) (hT _ m266) (fun _ h9 => h9) rfl d_Rooms_measurePair_37 ?_
  refine va_get (D := D) (ci := 4) (v := .ref (a 21)) (C := R_ClockWays) (T := F_ClockWays) (N := 17) hx hb hT in_ClockWays hown hK hP 3 rfl rfl 14 (by decide) (hT _ m214) (fun _ h9 => h9) rfl d_Rooms_measurePair_40 ?_
  refine lv_iload hx hb d_Rooms_measurePair_43 (lv_at hl 2 rfl) ?_
  obtain ⟨hin, h⟩ := gi_e h
  refine zv_iald hx hb hK hP 9 0 rfl rfl (Nat.le_of_ble_eq_true rfl) hin d_Rooms_measurePair_45 ?_
  have hj54 : ∀ (q0 : Int) (H : Heap) (locs : List Loc) (ls : Array Slot), va_P D vwCl [(o_R a R_leastMoving R_leastFixed R_leastHold), ((a 8), .inl (cI, 64, .inl (ia R_setup))), ((a 9), .inl (cI, 64, .inl (ia R_hold))), (o_C a C_size), ((a 13), .inl (cI, 770, .inl (ia C_parent))), ((a 14), .inl (cI, 770, .inl (ia C_length))), ((a 15), .inl (cI, 770, .inl (ia C_early))), ((a 16), .inl (cI, 770, .inl (ia C_late))), ((a 20), .inl (cI, 384, .inl (ia C_last))), ((a 21), .inl (cI, 384, .inl (ia C_base))), ((a 22), .inl (cI, 384, .inl (ia C_wayEarly))), ((a 23), .inl (cI, 384, .inl (ia C_wayLate))), (o_N a N_period N_width N_size), ((a 47), .inl (cI, 144, .inl (ia N_wireEarly))), ((a 48), .inl (cI, 144, .inl (ia N_wireLate)))] H → va_D A [(o_R a R_leastMoving R_leastFixed R_leastHold), ((a 8), .inl (cI, 64, .inl (ia R_setup))), ((a 9), .inl (cI, 64, .inl (ia R_hold))), (o_C a C_size), ((a 13), .inl (cI, 770, .inl (ia C_parent))), ((a 14), .inl (cI, 770, .inl (ia C_length))), ((a 15), .inl (cI, 770, .inl (ia C_early))), ((a 16), .inl (cI, 770, .inl (ia C_late))), ((a 20), .inl (cI, 384, .inl (ia C_last))), ((a 21), .inl (cI, 384, .inl (ia C_base))), ((a 22), .inl (cI, 384, .inl (ia C_wayEarly))), ((a 23), .inl (cI, 384, .inl (ia C_wayLate))), (o_N a N_period N_width N_size), ((a 47), .inl (cI, 144, .inl (ia N_wireEarly))), ((a 48), .inl (cI, 144, .inl (ia N_wireLate)))] → va_S A s.heap H locs → lv_has ls 11 [(0, .ref (a 7)), (1, .int (iI x1)), (2, .int (iI x2)), (3, .int (iI x3)), (4, .int (iI x4)), (5, .int (iI v5)), (6, .int (iI v6)), (7, .int (iI v7))] → f_Rooms_measurePair_j54 F R_leastMoving R_leastFixed R_leastHold R_setup R_hold C_parent C_length C_early C_late C_last C_base C_wayEarly C_wayLate N_period N_wireEarly N_wireLate x1 x2 x3 x4 v5 v6 v7 q0 = some (z_R_setup, z_R_hold, z_R_leastMoving, z_R_leastFixed, z_R_leastHold) → W p l e (headSpec w_Rooms_measurePair rm_Rooms_measurePair).room s m args below meth c H locs 0 0 Q (F0 m 54 ls [.int (iI q0)]) := by
    intro q0 H locs ls hP hD hS hl h
    rw [f_Rooms_measurePair_j54] at h
    refine lv_istore (lv' := [(8, .int (iI q0)), (0, .ref (a 7)), (1, .int (iI x1)), (2, .int (iI x2)), (3, .int (iI x3)), (4, .int (iI x4)), (5, .int (iI v5)), (6, .int (iI v6)), (7, .int (iI v7))]) hx hb d_Rooms_measurePair_54 hl (by decide) rfl (fun ls hl => ?_)
    refine lv_aload_n hx hb d_Rooms_measurePair_56 rfl (lv_at hl 1 rfl) ?_
    refine va_get (D := D) (ci := 6) (v := .ref (a 10)) (C := R_Rooms) (T := F_Rooms) (N := 7) hx hb hT in_Rooms hown hK hP 0 rfl rfl 1 (by decide) (hT _ m266) (fun _ h9 => h9) rfl d_Rooms_measurePair_57 ?_
    refine va_get (D := D) (ci := 4) (v := .ref (a 21)) (C := R_ClockWays) (T := F_ClockWays) (N := 17) hx hb hT in_ClockWays hown hK hP 3 rfl rfl 14 (by decide) (hT _ m214) (fun _ h9 => h9) rfl d_Rooms_measurePair_60 ?_
    refine lv_iload hx hb d_Rooms_measurePair_63 (lv_at hl 7 rfl) ?_
    obtain ⟨hin, h⟩ := gi_e h
    refine zv_iald hx hb hK hP 9 0 rfl rfl (Nat.le_of_ble_eq_true rfl) hin d_Rooms_measurePair_65 ?_
    refine lv_iload hx hb d_Rooms_measurePair_66 (lv_at hl 0 rfl) ?_
    have hj82 : ∀ (q1 : Int) (H : Heap) (locs : List Loc) (ls : Array Slot), va_P D vwCl [(o_R a R_leastMoving R_leastFixed R_leastHold), ((a 8), .inl (cI, 64, .inl (ia R_setup))), ((a 9), .inl (cI, 64, .inl (ia R_hold))), (o_C a C_size), ((a 13), .inl (cI, 770, .inl (ia C_parent))), ((a 14), .inl (cI, 770, .inl (ia C_length))), ((a 15), .inl (cI, 770, .inl (ia C_early))), ((a 16), .inl (cI, 770, .inl (ia C_late))), ((a 20), .inl (cI, 384, .inl (ia C_last))), ((a 21), .inl (cI, 384, .inl (ia C_base))), ((a 22), .inl (cI, 384, .inl (ia C_wayEarly))), ((a 23), .inl (cI, 384, .inl (ia C_wayLate))), (o_N a N_period N_width N_size), ((a 47), .inl (cI, 144, .inl (ia N_wireEarly))), ((a 48), .inl (cI, 144, .inl (ia N_wireLate)))] H → va_D A [(o_R a R_leastMoving R_leastFixed R_leastHold), ((a 8), .inl (cI, 64, .inl (ia R_setup))), ((a 9), .inl (cI, 64, .inl (ia R_hold))), (o_C a C_size), ((a 13), .inl (cI, 770, .inl (ia C_parent))), ((a 14), .inl (cI, 770, .inl (ia C_length))), ((a 15), .inl (cI, 770, .inl (ia C_early))), ((a 16), .inl (cI, 770, .inl (ia C_late))), ((a 20), .inl (cI, 384, .inl (ia C_last))), ((a 21), .inl (cI, 384, .inl (ia C_base))), ((a 22), .inl (cI, 384, .inl (ia C_wayEarly))), ((a 23), .inl (cI, 384, .inl (ia C_wayLate))), (o_N a N_period N_width N_size), ((a 47), .inl (cI, 144, .inl (ia N_wireEarly))), ((a 48), .inl (cI, 144, .inl (ia N_wireLate)))] → va_S A s.heap H locs → lv_has ls 11 [(0, .ref (a 7)), (1, .int (iI x1)), (2, .int (iI x2)), (3, .int (iI x3)), (4, .int (iI x4)), (5, .int (iI v5)), (6, .int (iI v6)), (7, .int (iI v7)), (8, .int (iI q0))] → f_Rooms_measurePair_j82 F R_leastMoving R_leastFixed R_leastHold R_setup R_hold C_parent C_length C_early C_late C_last C_base C_wayEarly C_wayLate N_period N_wireEarly N_wireLate x1 x2 x3 x4 v5 v6 v7 q0 q1 = some (z_R_setup, z_R_hold, z_R_leastMoving, z_R_leastFixed, z_R_leastHold) → W p l e (headSpec w_Rooms_measurePair rm_Rooms_measurePair).room s m args below meth c H locs 0 0 Q (F0 m 82 ls [.int (iI q1), .int (iI (C_base v6))]) := by
      intro q1 H locs ls hP hD hS hl h
      rw [f_Rooms_measurePair_j82] at h
      refine zv_iadd hx hb d_Rooms_measurePair_82 ?_
      refine zv_top (fun v9 hv => ?_)
      replace h := bd_e hv h
      refine lv_istore (lv' := [(9, .int (iI v9)), (0, .ref (a 7)), (1, .int (iI x1)), (2, .int (iI x2)), (3, .int (iI x3)), (4, .int (iI x4)), (5, .int (iI v5)), (6, .int (iI v6)), (7, .int (iI v7)), (8, .int (iI q0))]) hx hb d_Rooms_measurePair_83 hl (by decide) rfl (fun ls hl => ?_)
      refine lv_aload_n hx hb d_Rooms_measurePair_85 rfl (lv_at hl 1 rfl) ?_
      refine va_get (D := D) (ci := 6) (v := .ref (a 10)) (C := R_Rooms) (T := F_Rooms) (N := 7) hx hb hT in_Rooms hown hK hP 0 rfl rfl 1 (by decide) (hT _ m266) (fun _ h9 => h9) rfl d_Rooms_measurePair_86 ?_
      refine lv_iload_n hx hb d_Rooms_measurePair_89 rfl (lv_at hl 2 rfl) ?_
      refine lv_iload_n hx hb d_Rooms_measurePair_90 rfl (lv_at hl 3 rfl) ?_
      refine lv_iload_n hx hb d_Rooms_measurePair_91 rfl (lv_at hl 4 rfl) ?_
      refine lv_iload hx hb d_Rooms_measurePair_92 (lv_at hl 5 rfl) ?_
      obtain ⟨r94, hcall, h⟩ := ob1_e h
      refine ro_i (va_Run.run (va_runV (As := [.int (iI x1), .int (iI x2), .int (iI x3), .int (iI x4)]) (rest := []) ⟨hx, hb, hml, hown, hts⟩ (c_ClockWays_credit l D cI cJ cZ F a C_size C_parent C_length C_early C_late C_last N_period N_width N_size N_wireEarly N_wireLate x1 x2 x3 x4 r94 H.size hcall) (cwV 4 hts (gd_V m626 m623 m624 m625 m5) rfl rfl rfl ⟨rfl, hc_ClockWays_credit⟩ ⟨Nat.le_of_ble_eq_true rfl, Nat.le_of_ble_eq_true rfl⟩) (pc_V 3 4 [.int (iI x1), .int (iI x2), .int (iI x3), .int (iI x4)] hP hK hD hN [3, 4, 5, 6, 7, 8, 12, 13, 14] rfl rfl rfl rfl rfl) rfl rfl hl.1 rfl (lv_room (Nat.le_of_ble_eq_true rfl)) d_Rooms_measurePair_94 ⟨Nat.le_refl 0, Nat.le_refl 0⟩)) (W.eq (g2 := F0 m 97 ls [.int (iI r94)]) rfl ?_)
      refine lv_istore (lv' := [(10, .int (iI r94)), (9, .int (iI v9)), (0, .ref (a 7)), (1, .int (iI x1)), (2, .int (iI x2)), (3, .int (iI x3)), (4, .int (iI x4)), (5, .int (iI v5)), (6, .int (iI v6)), (7, .int (iI v7)), (8, .int (iI q0))]) hx hb d_Rooms_measurePair_97 hl (by decide) rfl (fun ls hl => ?_)
      refine lv_aload_n hx hb d_Rooms_measurePair_99 rfl (lv_at hl 2 rfl) ?_
      refine va_get (D := D) (ci := 6) (v := .ref (a 8)) (C := R_Rooms) (T := F_Rooms) (N := 7) hx hb hT in_Rooms hown hK hP 0 rfl rfl 2 (by decide) (hT _ m267) (fun _ h9 => h9) rfl d_Rooms_measurePair_100 ?_
      refine lv_iload hx hb d_Rooms_measurePair_103 (lv_at hl 9 rfl) ?_
      refine lv_iload hx hb d_Rooms_measurePair_105 (lv_at hl 1 rfl) ?_
      refine lv_aload_n hx hb d_Rooms_measurePair_107 rfl (lv_at hl 2 rfl) ?_
      refine va_get (D := D) (ci := 6) (v := .ref (a 10)) (C := R_Rooms) (T := F_Rooms) (N := 7) hx hb hT in_Rooms hown hK hP 0 rfl rfl 1 (by decide) (hT _ m266) (fun _ h9 => h9) rfl d_Rooms_measurePair_108 ?_
      refine va_get (D := D) (ci := 4) (v := .ref (a 22)) (C := R_ClockWays) (T := F_ClockWays) (N := 17) hx hb hT in_ClockWays hown hK hP 3 rfl rfl 15 (by decide) (hT _ m217) (fun _ h9 => h9) rfl d_Rooms_measurePair_111 ?_
      refine lv_iload hx hb d_Rooms_measurePair_114 (lv_at hl 8 rfl) ?_
      obtain ⟨hin, h⟩ := gi_e h
      refine zv_iald hx hb hK hP 10 0 rfl rfl (Nat.le_of_ble_eq_true rfl) hin d_Rooms_measurePair_116 ?_
      refine zv_iadd hx hb d_Rooms_measurePair_117 ?_
      refine lv_iload hx hb d_Rooms_measurePair_118 (lv_at hl 0 rfl) ?_
      refine zv_iadd hx hb d_Rooms_measurePair_120 ?_
      refine lv_aload_n hx hb d_Rooms_measurePair_121 rfl (lv_at hl 2 rfl) ?_
      refine va_get (D := D) (ci := 6) (v := .ref (a 10)) (C := R_Rooms) (T := F_Rooms) (N := 7) hx hb hT in_Rooms hown hK hP 0 rfl rfl 1 (by decide) (hT _ m266) (fun _ h9 => h9) rfl d_Rooms_measurePair_122 ?_
      refine va_get (D := D) (ci := 4) (v := .ref (a 21)) (C := R_ClockWays) (T := F_ClockWays) (N := 17) hx hb hT in_ClockWays hown hK hP 3 rfl rfl 14 (by decide) (hT _ m214) (fun _ h9 => h9) rfl d_Rooms_measurePair_125 ?_
      refine lv_iload hx hb d_Rooms_measurePair_128 (lv_at hl 7 rfl) ?_
      obtain ⟨hin, h⟩ := gi_e h
      refine zv_iald hx hb hK hP 9 0 rfl rfl (Nat.le_of_ble_eq_true rfl) hin d_Rooms_measurePair_130 ?_
      refine zv_isub hx hb d_Rooms_measurePair_131 ?_
      refine lv_aload_n hx hb d_Rooms_measurePair_132 rfl (lv_at hl 2 rfl) ?_
      refine va_get (D := D) (ci := 6) (v := .ref (a 10)) (C := R_Rooms) (T := F_Rooms) (N := 7) hx hb hT in_Rooms hown hK hP 0 rfl rfl 1 (by decide) (hT _ m266) (fun _ h9 => h9) rfl d_Rooms_measurePair_133 ?_
      refine va_get (D := D) (ci := 4) (v := .ref (a 23)) (C := R_ClockWays) (T := F_ClockWays) (N := 17) hx hb hT in_ClockWays hown hK hP 3 rfl rfl 16 (by decide) (hT _ m220) (fun _ h9 => h9) rfl d_Rooms_measurePair_136 ?_
      refine lv_iload hx hb d_Rooms_measurePair_139 (lv_at hl 7 rfl) ?_
      obtain ⟨hin, h⟩ := gi_e h
      refine zv_iald hx hb hK hP 11 0 rfl rfl (Nat.le_of_ble_eq_true rfl) hin d_Rooms_measurePair_141 ?_
      refine zv_isub hx hb d_Rooms_measurePair_142 ?_
      obtain ⟨hin, h⟩ := gi_e h
      refine zv_iast hx hb hK hP hD hS 1 0 rfl rfl (Nat.le_of_ble_eq_true rfl) hin d_Rooms_measurePair_143 (fun H locs hP hD hS => ?_)
      obtain ⟨R_setup_1, hv⟩ : ∃ z, z = (ui R_setup v7 ((((v9 + (C_wayEarly v6)) + r94) - (C_base v5)) - (C_wayLate v5))) := ⟨_, rfl⟩
      replace h := bd_e hv h
      have hP : va_P D vwCl [(o_R a R_leastMoving R_leastFixed R_leastHold), ((a 8), .inl (cI, 64, .inl (ia R_setup_1))), ((a 9), .inl (cI, 64, .inl (ia R_hold))), (o_C a C_size), ((a 13), .inl (cI, 770, .inl (ia C_parent))), ((a 14), .inl (cI, 770, .inl (ia C_length))), ((a 15), .inl (cI, 770, .inl (ia C_early))), ((a 16), .inl (cI, 770, .inl (ia C_late))), ((a 20), .inl (cI, 384, .inl (ia C_last))), ((a 21), .inl (cI, 384, .inl (ia C_base))), ((a 22), .inl (cI, 384, .inl (ia C_wayEarly))), ((a 23), .inl (cI, 384, .inl (ia C_wayLate))), (o_N a N_period N_width N_size), ((a 47), .inl (cI, 144, .inl (ia N_wireEarly))), ((a 48), .inl (cI, 144, .inl (ia N_wireLate)))] H := by rw [hv]; exact hP
      have hD : va_D A [(o_R a R_leastMoving R_leastFixed R_leastHold), ((a 8), .inl (cI, 64, .inl (ia R_setup_1))), ((a 9), .inl (cI, 64, .inl (ia R_hold))), (o_C a C_size), ((a 13), .inl (cI, 770, .inl (ia C_parent))), ((a 14), .inl (cI, 770, .inl (ia C_length))), ((a 15), .inl (cI, 770, .inl (ia C_early))), ((a 16), .inl (cI, 770, .inl (ia C_late))), ((a 20), .inl (cI, 384, .inl (ia C_last))), ((a 21), .inl (cI, 384, .inl (ia C_base))), ((a 22), .inl (cI, 384, .inl (ia C_wayEarly))), ((a 23), .inl (cI, 384, .inl (ia C_wayLate))), (o_N a N_period N_width N_size), ((a 47), .inl (cI, 144, .inl (ia N_wireEarly))), ((a 48), .inl (cI, 144, .inl (ia N_wireLate)))] := by rw [hv]; exact hD
      refine lv_aload_n hx hb d_Rooms_measurePair_144 rfl (lv_at hl 2 rfl) ?_
      refine va_get (D := D) (ci := 6) (v := .ref (a 9)) (C := R_Rooms) (T := F_Rooms) (N := 7) hx hb hT in_Rooms hown hK hP 0 rfl rfl 3 (by decide) (hT _ m269) (fun _ h9 => h9) rfl d_Rooms_measurePair_145 ?_
      refine lv_iload hx hb d_Rooms_measurePair_148 (lv_at hl 9 rfl) ?_
      refine lv_aload_n hx hb d_Rooms_measurePair_150 rfl (lv_at hl 2 rfl) ?_
      refine va_get (D := D) (ci := 6) (v := .ref (a 10)) (C := R_Rooms) (T := F_Rooms) (N := 7) hx hb hT in_Rooms hown hK hP 0 rfl rfl 1 (by decide) (hT _ m266) (fun _ h9 => h9) rfl d_Rooms_measurePair_151 ?_
      refine va_get (D := D) (ci := 4) (v := .ref (a 21)) (C := R_ClockWays) (T := F_ClockWays) (N := 17) hx hb hT in_ClockWays hown hK hP 3 rfl rfl 14 (by decide) (hT _ m214) (fun _ h9 => h9) rfl d_Rooms_measurePair_154 ?_
      refine lv_iload hx hb d_Rooms_measurePair_157 (lv_at hl 7 rfl) ?_
      obtain ⟨hin, h⟩ := gi_e h
      refine zv_iald hx hb hK hP 9 0 rfl rfl (Nat.le_of_ble_eq_true rfl) hin d_Rooms_measurePair_159 ?_
      refine lv_aload_n hx hb d_Rooms_measurePair_160 rfl (lv_at hl 2 rfl) ?_
      refine va_get (D := D) (ci := 6) (v := .ref (a 10)) (C := R_Rooms) (T := F_Rooms) (N := 7) hx hb hT in_Rooms hown hK hP 0 rfl rfl 1 (by decide) (hT _ m266) (fun _ h9 => h9) rfl d_Rooms_measurePair_161 ?_
      refine va_get (D := D) (ci := 4) (v := .ref (a 22)) (C := R_ClockWays) (T := F_ClockWays) (N := 17) hx hb hT in_ClockWays hown hK hP 3 rfl rfl 15 (by decide) (hT _ m217) (fun _ h9 => h9) rfl d_Rooms_measurePair_164 ?_
      refine lv_iload hx hb d_Rooms_measurePair_167 (lv_at hl 7 rfl) ?_
      obtain ⟨hin, h⟩ := gi_e h
      refine zv_iald hx hb hK hP 10 0 rfl rfl (Nat.le_of_ble_eq_true rfl) hin d_Rooms_measurePair_169 ?_
      refine zv_iadd hx hb d_Rooms_measurePair_170 ?_
      refine lv_iload hx hb d_Rooms_measurePair_171 (lv_at hl 0 rfl) ?_
      refine zv_iadd hx hb d_Rooms_measurePair_173 ?_
      refine lv_iload hx hb d_Rooms_measurePair_174 (lv_at hl 1 rfl) ?_
      refine zv_isub hx hb d_Rooms_measurePair_176 ?_
      refine lv_aload_n hx hb d_Rooms_measurePair_177 rfl (lv_at hl 2 rfl) ?_
      refine va_get (D := D) (ci := 6) (v := .ref (a 10)) (C := R_Rooms) (T := F_Rooms) (N := 7) hx hb hT in_Rooms hown hK hP 0 rfl rfl 1 (by decide) (hT _ m266) (fun _ h9 => h9) rfl d_Rooms_measurePair_178 ?_
      refine va_get (D := D) (ci := 4) (v := .ref (a 23)) (C := R_ClockWays) (T := F_ClockWays) (N := 17) hx hb hT in_ClockWays hown hK hP 3 rfl rfl 16 (by decide) (hT _ m220) (fun _ h9 => h9) rfl d_Rooms_measurePair_181 ?_
      refine lv_iload hx hb d_Rooms_measurePair_184 (lv_at hl 8 rfl) ?_
      obtain ⟨hin, h⟩ := gi_e h
      refine zv_iald hx hb hK hP 11 0 rfl rfl (Nat.le_of_ble_eq_true rfl) hin d_Rooms_measurePair_186 ?_
      refine zv_isub hx hb d_Rooms_measurePair_187 ?_
      refine lv_aload_n hx hb d_Rooms_measurePair_188 rfl (lv_at hl 2 rfl) ?_
      refine va_get (D := D) (ci := 6) (v := .ref (a 43)) (C := R_Rooms) (T := F_Rooms) (N := 7) hx hb hT in_Rooms hown hK hP 0 rfl rfl 0 (by decide) (hT _ m265) (fun _ h9 => h9) rfl d_Rooms_measurePair_189 ?_
      refine va_get (D := D) (ci := 1) (v := .int (iI N_period)) (C := R_Net) (T := F_Net) (N := 15) hx hb hT in_Net hown hK hP 12 rfl rfl 0 (by decide) (hT _ m41) (fun _ h9 => h9) rfl d_Rooms_measurePair_192 ?_
      refine zv_iadd hx hb d_Rooms_measurePair_195 ?_
      obtain ⟨hin, h⟩ := gi_e h
      refine zv_iast hx hb hK hP hD hS 2 0 rfl rfl (Nat.le_of_ble_eq_true rfl) hin d_Rooms_measurePair_196 (fun H locs hP hD hS => ?_)
      obtain ⟨R_hold_2, hv⟩ : ∃ z, z = (ui R_hold v7 ((((((C_base v5) + (C_wayEarly v5)) + r94) - v9) - (C_wayLate v6)) + N_period)) := ⟨_, rfl⟩
      replace h := bd_e hv h
      have hP : va_P D vwCl [(o_R a R_leastMoving R_leastFixed R_leastHold), ((a 8), .inl (cI, 64, .inl (ia R_setup_1))), ((a 9), .inl (cI, 64, .inl (ia R_hold_2))), (o_C a C_size), ((a 13), .inl (cI, 770, .inl (ia C_parent))), ((a 14), .inl (cI, 770, .inl (ia C_length))), ((a 15), .inl (cI, 770, .inl (ia C_early))), ((a 16), .inl (cI, 770, .inl (ia C_late))), ((a 20), .inl (cI, 384, .inl (ia C_last))), ((a 21), .inl (cI, 384, .inl (ia C_base))), ((a 22), .inl (cI, 384, .inl (ia C_wayEarly))), ((a 23), .inl (cI, 384, .inl (ia C_wayLate))), (o_N a N_period N_width N_size), ((a 47), .inl (cI, 144, .inl (ia N_wireEarly))), ((a 48), .inl (cI, 144, .inl (ia N_wireLate)))] H := by rw [hv]; exact hP
      have hD : va_D A [(o_R a R_leastMoving R_leastFixed R_leastHold), ((a 8), .inl (cI, 64, .inl (ia R_setup_1))), ((a 9), .inl (cI, 64, .inl (ia R_hold_2))), (o_C a C_size), ((a 13), .inl (cI, 770, .inl (ia C_parent))), ((a 14), .inl (cI, 770, .inl (ia C_length))), ((a 15), .inl (cI, 770, .inl (ia C_early))), ((a 16), .inl (cI, 770, .inl (ia C_late))), ((a 20), .inl (cI, 384, .inl (ia C_last))), ((a 21), .inl (cI, 384, .inl (ia C_base))), ((a 22), .inl (cI, 384, .inl (ia C_wayEarly))), ((a 23), .inl (cI, 384, .inl (ia C_wayLate))), (o_N a N_period N_width N_size), ((a 47), .inl (cI, 144, .inl (ia N_wireEarly))), ((a 48), .inl (cI, 144, .inl (ia N_wireLate)))] := by rw [hv]; exact hD
      refine lv_iload hx hb d_Rooms_measurePair_197 (lv_at hl 10 rfl) ?_
      have hj241 : ∀ (R_leastMoving_3 : Int) (R_leastFixed_4 : Int) (H : Heap) (locs : List Loc) (ls : Array Slot), va_P D vwCl [(o_R a R_leastMoving_3 R_leastFixed_4 R_leastHold), ((a 8), .inl (cI, 64, .inl (ia R_setup_1))), ((a 9), .inl (cI, 64, .inl (ia R_hold_2))), (o_C a C_size), ((a 13), .inl (cI, 770, .inl (ia C_parent))), ((a 14), .inl (cI, 770, .inl (ia C_length))), ((a 15), .inl (cI, 770, .inl (ia C_early))), ((a 16), .inl (cI, 770, .inl (ia C_late))), ((a 20), .inl (cI, 384, .inl (ia C_last))), ((a 21), .inl (cI, 384, .inl (ia C_base))), ((a 22), .inl (cI, 384, .inl (ia C_wayEarly))), ((a 23), .inl (cI, 384, .inl (ia C_wayLate))), (o_N a N_period N_width N_size), ((a 47), .inl (cI, 144, .inl (ia N_wireEarly))), ((a 48), .inl (cI, 144, .inl (ia N_wireLate)))] H → va_D A [(o_R a R_leastMoving_3 R_leastFixed_4 R_leastHold), ((a 8), .inl (cI, 64, .inl (ia R_setup_1))), ((a 9), .inl (cI, 64, .inl (ia R_hold_2))), (o_C a C_size), ((a 13), .inl (cI, 770, .inl (ia C_parent))), ((a 14), .inl (cI, 770, .inl (ia C_length))), ((a 15), .inl (cI, 770, .inl (ia C_early))), ((a 16), .inl (cI, 770, .inl (ia C_late))), ((a 20), .inl (cI, 384, .inl (ia C_last))), ((a 21), .inl (cI, 384, .inl (ia C_base))), ((a 22), .inl (cI, 384, .inl (ia C_wayEarly))), ((a 23), .inl (cI, 384, .inl (ia C_wayLate))), (o_N a N_period N_width N_size), ((a 47), .inl (cI, 144, .inl (ia N_wireEarly))), ((a 48), .inl (cI, 144, .inl (ia N_wireLate)))] → va_S A s.heap H locs → lv_has ls 11 [(0, .ref (a 7)), (7, .int (iI v7))] → f_Rooms_measurePair_j241 F R_leastHold v7 R_setup_1 R_hold_2 R_leastMoving_3 R_leastFixed_4 = some (z_R_setup, z_R_hold, z_R_leastMoving, z_R_leastFixed, z_R_leastHold) → W p l e (headSpec w_Rooms_measurePair rm_Rooms_measurePair).room s m args below meth c H locs 0 0 Q (F0 m 241 ls []) := by
        intro R_leastMoving_3 R_leastFixed_4 H locs ls hP hD hS hl h
        rw [f_Rooms_measurePair_j241] at h
        refine lv_aload_n hx hb d_Rooms_measurePair_241 rfl (lv_at hl 0 rfl) ?_
        refine lv_aload_n hx hb d_Rooms_measurePair_242 rfl (lv_at hl 0 rfl) ?_
        refine va_get (D := D) (ci := 6) (v := .int (iI R_leastHold)) (C := R_Rooms) (T := F_Rooms) (N := 7) hx hb hT in_Rooms hown hK hP 0 rfl rfl 6 (by decide) (hT _ m275) (fun _ h9 => h9) rfl d_Rooms_measurePair_243 ?_
        refine lv_aload_n hx hb d_Rooms_measurePair_246 rfl (lv_at hl 0 rfl) ?_
        refine va_get (D := D) (ci := 6) (v := .ref (a 9)) (C := R_Rooms) (T := F_Rooms) (N := 7) hx hb hT in_Rooms hown hK hP 0 rfl rfl 3 (by decide) (hT _ m269) (fun _ h9 => h9) rfl d_Rooms_measurePair_247 ?_
        refine lv_iload hx hb d_Rooms_measurePair_250 (lv_at hl 1 rfl) ?_
        obtain ⟨hin, h⟩ := gi_e h
        refine zv_iald hx hb hK hP 2 0 rfl rfl (Nat.le_of_ble_eq_true rfl) hin d_Rooms_measurePair_252 ?_
        obtain ⟨hg0, h⟩ := gr_e h
        obtain ⟨hg1, h⟩ := gr_e h
        refine zv_mmin hx hb (hml.trans hl.1.symm) hown (hT _ m631) (hT _ m496) (hT _ m18) (hT _ m_code_Math_min) (Nat.le_of_ble_eq_true rfl) (Nat.le_of_ble_eq_true rfl) (Nat.zero_le _) (Nat.zero_le _) hg0 hg1 d_Rooms_measurePair_253 ?_
        refine va_put (D := D) (ci := 6) (v := .int (iI (min R_leastHold (R_hold_2 v7)))) (ty := .int) (C := R_Rooms) (T := F_Rooms) (N := 7) hx hb hT in_Rooms ty_Rooms ty_Rooms_ok n_Rooms hown hK hP hD hS 0 rfl rfl 6 (by decide) (hT _ m275) (fun _ h9 => h9) rfl (by decide +kernel) rfl rfl (Nat.le_of_ble_eq_true rfl) d_Rooms_measurePair_256 (fun H locs hP hD hS => ?_)
        have hP : va_P D vwCl [(o_R a R_leastMoving_3 R_leastFixed_4 (min R_leastHold (R_hold_2 v7))), ((a 8), .inl (cI, 64, .inl (ia R_setup_1))), ((a 9), .inl (cI, 64, .inl (ia R_hold_2))), (o_C a C_size), ((a 13), .inl (cI, 770, .inl (ia C_parent))), ((a 14), .inl (cI, 770, .inl (ia C_length))), ((a 15), .inl (cI, 770, .inl (ia C_early))), ((a 16), .inl (cI, 770, .inl (ia C_late))), ((a 20), .inl (cI, 384, .inl (ia C_last))), ((a 21), .inl (cI, 384, .inl (ia C_base))), ((a 22), .inl (cI, 384, .inl (ia C_wayEarly))), ((a 23), .inl (cI, 384, .inl (ia C_wayLate))), (o_N a N_period N_width N_size), ((a 47), .inl (cI, 144, .inl (ia N_wireEarly))), ((a 48), .inl (cI, 144, .inl (ia N_wireLate)))] H := hP
        have hD : va_D A [(o_R a R_leastMoving_3 R_leastFixed_4 (min R_leastHold (R_hold_2 v7))), ((a 8), .inl (cI, 64, .inl (ia R_setup_1))), ((a 9), .inl (cI, 64, .inl (ia R_hold_2))), (o_C a C_size), ((a 13), .inl (cI, 770, .inl (ia C_parent))), ((a 14), .inl (cI, 770, .inl (ia C_length))), ((a 15), .inl (cI, 770, .inl (ia C_early))), ((a 16), .inl (cI, 770, .inl (ia C_late))), ((a 20), .inl (cI, 384, .inl (ia C_last))), ((a 21), .inl (cI, 384, .inl (ia C_base))), ((a 22), .inl (cI, 384, .inl (ia C_wayEarly))), ((a 23), .inl (cI, 384, .inl (ia C_wayLate))), (o_N a N_period N_width N_size), ((a 47), .inl (cI, 144, .inl (ia N_wireEarly))), ((a 48), .inl (cI, 144, .inl (ia N_wireLate)))] := hD
        obtain ⟨e1, e2, e3, e4, e5⟩ := so5 h
        rw [hQ, e1, e2, e3, e4, e5]; rw [hAe] at hD hS; exact W.vret hx hb hr (fun t ht hW => ⟨⟨(), rfl, trivial, by rw [ht]; exact hP, va_K.moved hW.alike hK, hD⟩, hS.F ht⟩) hS.2.2 d_Rooms_measurePair_259
      obtain ⟨hg0, h⟩ := gr_e h
      refine zi_eq hx hb d_Rooms_measurePair_199 rfl hg0 (fun hc => ?_) (fun hc => ?_)
      · replace h := if_t hc h
        refine lv_aload_n hx hb d_Rooms_measurePair_223 rfl (lv_at hl 2 rfl) ?_
        refine lv_aload_n hx hb d_Rooms_measurePair_224 rfl (lv_at hl 2 rfl) ?_
        refine va_get (D := D) (ci := 6) (v := .int (iI R_leastFixed)) (C := R_Rooms) (T := F_Rooms) (N := 7) hx hb hT in_Rooms hown hK hP 0 rfl rfl 5 (by decide) (hT _ m273) (fun _ h9 => h9) rfl d_Rooms_measurePair_225 ?_
        refine lv_aload_n hx hb d_Rooms_measurePair_228 rfl (lv_at hl 2 rfl) ?_
        refine va_get (D := D) (ci := 6) (v := .ref (a 8)) (C := R_Rooms) (T := F_Rooms) (N := 7) hx hb hT in_Rooms hown hK hP 0 rfl rfl 2 (by decide) (hT _ m267) (fun _ h9 => h9) rfl d_Rooms_measurePair_229 ?_
        refine lv_iload hx hb d_Rooms_measurePair_232 (lv_at hl 9 rfl) ?_
        obtain ⟨hin, h⟩ := gi_e h
        refine zv_iald hx hb hK hP 1 0 rfl rfl (Nat.le_of_ble_eq_true rfl) hin d_Rooms_measurePair_234 ?_
        obtain ⟨hg0, h⟩ := gr_e h
        obtain ⟨hg1, h⟩ := gr_e h
        refine zv_mmin hx hb (hml.trans hl.1.symm) hown (hT _ m631) (hT _ m496) (hT _ m18) (hT _ m_code_Math_min) (Nat.le_of_ble_eq_true rfl) (Nat.le_of_ble_eq_true rfl) (Nat.zero_le _) (Nat.zero_le _) hg0 hg1 d_Rooms_measurePair_235 ?_
        refine va_put (D := D) (ci := 6) (v := .int (iI (min R_leastFixed (R_setup_1 v7)))) (ty := .int) (C := R_Rooms) (T := F_Rooms) (N := 7) hx hb hT in_Rooms ty_Rooms ty_Rooms_ok n_Rooms hown hK hP hD hS 0 rfl rfl 5 (by decide) (hT _ m273) (fun _ h9 => h9) rfl (by decide +kernel) rfl rfl (Nat.le_of_ble_eq_true rfl) d_Rooms_measurePair_238 (fun H locs hP hD hS => ?_)
        have hP : va_P D vwCl [(o_R a R_leastMoving (min R_leastFixed (R_setup_1 v7)) R_leastHold), ((a 8), .inl (cI, 64, .inl (ia R_setup_1))), ((a 9), .inl (cI, 64, .inl (ia R_hold_2))), (o_C a C_size), ((a 13), .inl (cI, 770, .inl (ia C_parent))), ((a 14), .inl (cI, 770, .inl (ia C_length))), ((a 15), .inl (cI, 770, .inl (ia C_early))), ((a 16), .inl (cI, 770, .inl (ia C_late))), ((a 20), .inl (cI, 384, .inl (ia C_last))), ((a 21), .inl (cI, 384, .inl (ia C_base))), ((a 22), .inl (cI, 384, .inl (ia C_wayEarly))), ((a 23), .inl (cI, 384, .inl (ia C_wayLate))), (o_N a N_period N_width N_size), ((a 47), .inl (cI, 144, .inl (ia N_wireEarly))), ((a 48), .inl (cI, 144, .inl (ia N_wireLate)))] H := hP
        have hD : va_D A [(o_R a R_leastMoving (min R_leastFixed (R_setup_1 v7)) R_leastHold), ((a 8), .inl (cI, 64, .inl (ia R_setup_1))), ((a 9), .inl (cI, 64, .inl (ia R_hold_2))), (o_C a C_size), ((a 13), .inl (cI, 770, .inl (ia C_parent))), ((a 14), .inl (cI, 770, .inl (ia C_length))), ((a 15), .inl (cI, 770, .inl (ia C_early))), ((a 16), .inl (cI, 770, .inl (ia C_late))), ((a 20), .inl (cI, 384, .inl (ia C_last))), ((a 21), .inl (cI, 384, .inl (ia C_base))), ((a 22), .inl (cI, 384, .inl (ia C_wayEarly))), ((a 23), .inl (cI, 384, .inl (ia C_wayLate))), (o_N a N_period N_width N_size), ((a 47), .inl (cI, 144, .inl (ia N_wireEarly))), ((a 48), .inl (cI, 144, .inl (ia N_wireLate)))] := hD
        exact hj241 R_leastMoving (min R_leastFixed (R_setup_1 v7)) H locs ls hP hD hS (lv_sub hl [2, 9] rfl) h
      · replace h := if_f hc h
        refine lv_aload_n hx hb d_Rooms_measurePair_202 rfl (lv_at hl 2 rfl) ?_
        refine lv_aload_n hx hb d_Rooms_measurePair_203 rfl (lv_at hl 2 rfl) ?_
        refine va_get (D := D) (ci := 6) (v := .int (iI R_leastMoving)) (C := R_Rooms) (T := F_Rooms) (N := 7) hx hb hT in_Rooms hown hK hP 0 rfl rfl 4 (by decide) (hT _ m271) (fun _ h9 => h9) rfl d_Rooms_measurePair_204 ?_
        refine lv_aload_n hx hb d_Rooms_measurePair_207 rfl (lv_at hl 2 rfl) ?_
        refine va_get (D := D) (ci := 6) (v := .ref (a 8)) (C := R_Rooms) (T := F_Rooms) (N := 7) hx hb hT in_Rooms hown hK hP 0 rfl rfl 2 (by decide) (hT _ m267) (fun _ h9 => h9) rfl d_Rooms_measurePair_208 ?_
        refine lv_iload hx hb d_Rooms_measurePair_211 (lv_at hl 9 rfl) ?_
        obtain ⟨hin, h⟩ := gi_e h
        refine zv_iald hx hb hK hP 1 0 rfl rfl (Nat.le_of_ble_eq_true rfl) hin d_Rooms_measurePair_213 ?_
        obtain ⟨hg0, h⟩ := gr_e h
        obtain ⟨hg1, h⟩ := gr_e h
        refine zv_mmin hx hb (hml.trans hl.1.symm) hown (hT _ m631) (hT _ m496) (hT _ m18) (hT _ m_code_Math_min) (Nat.le_of_ble_eq_true rfl) (Nat.le_of_ble_eq_true rfl) (Nat.zero_le _) (Nat.zero_le _) hg0 hg1 d_Rooms_measurePair_214 ?_
        refine va_put (D := D) (ci := 6) (v := .int (iI (min R_leastMoving (R_setup_1 v7)))) (ty := .int) (C := R_Rooms) (T := F_Rooms) (N := 7) hx hb hT in_Rooms ty_Rooms ty_Rooms_ok n_Rooms hown hK hP hD hS 0 rfl rfl 4 (by decide) (hT _ m271) (fun _ h9 => h9) rfl (by decide +kernel) rfl rfl (Nat.le_of_ble_eq_true rfl) d_Rooms_measurePair_217 (fun H locs hP hD hS => ?_)
        have hP : va_P D vwCl [(o_R a (min R_leastMoving (R_setup_1 v7)) R_leastFixed R_leastHold), ((a 8), .inl (cI, 64, .inl (ia R_setup_1))), ((a 9), .inl (cI, 64, .inl (ia R_hold_2))), (o_C a C_size), ((a 13), .inl (cI, 770, .inl (ia C_parent))), ((a 14), .inl (cI, 770, .inl (ia C_length))), ((a 15), .inl (cI, 770, .inl (ia C_early))), ((a 16), .inl (cI, 770, .inl (ia C_late))), ((a 20), .inl (cI, 384, .inl (ia C_last))), ((a 21), .inl (cI, 384, .inl (ia C_base))), ((a 22), .inl (cI, 384, .inl (ia C_wayEarly))), ((a 23), .inl (cI, 384, .inl (ia C_wayLate))), (o_N a N_period N_width N_size), ((a 47), .inl (cI, 144, .inl (ia N_wireEarly))), ((a 48), .inl (cI, 144, .inl (ia N_wireLate)))] H := hP
        have hD : va_D A [(o_R a (min R_leastMoving (R_setup_1 v7)) R_leastFixed R_leastHold), ((a 8), .inl (cI, 64, .inl (ia R_setup_1))), ((a 9), .inl (cI, 64, .inl (ia R_hold_2))), (o_C a C_size), ((a 13), .inl (cI, 770, .inl (ia C_parent))), ((a 14), .inl (cI, 770, .inl (ia C_length))), ((a 15), .inl (cI, 770, .inl (ia C_early))), ((a 16), .inl (cI, 770, .inl (ia C_late))), ((a 20), .inl (cI, 384, .inl (ia C_last))), ((a 21), .inl (cI, 384, .inl (ia C_base))), ((a 22), .inl (cI, 384, .inl (ia C_wayEarly))), ((a 23), .inl (cI, 384, .inl (ia C_wayLate))), (o_N a N_period N_width N_size), ((a 47), .inl (cI, 144, .inl (ia N_wireEarly))), ((a 48), .inl (cI, 144, .inl (ia N_wireLate)))] := hD
        refine lv_goto hx hb d_Rooms_measurePair_220 rfl ?_
        exact hj241 (min R_leastMoving (R_setup_1 v7)) R_leastFixed H locs ls hP hD hS (lv_sub hl [2, 9] rfl) h
    obtain ⟨hg0, h⟩ := gr_e h
    refine zi_eq hx hb d_Rooms_measurePair_68 rfl hg0 (fun hc => ?_) (fun hc => ?_)
    · replace h := if_t hc h
      refine zv_iconst hx hb d_Rooms_measurePair_81 ?_
      exact hj82 0 H locs ls hP hD hS (lv_sub hl [1, 2, 3, 4, 5, 6, 7, 8, 0] rfl) h
    · replace h := if_f hc h
      refine lv_aload_n hx hb d_Rooms_measurePair_71 rfl (lv_at hl 1 rfl) ?_
      refine va_get (D := D) (ci := 6) (v := .ref (a 43)) (C := R_Rooms) (T := F_Rooms) (N := 7) hx hb hT in_Rooms hown hK hP 0 rfl rfl 0 (by decide) (hT _ m265) (fun _ h9 => h9) rfl d_Rooms_measurePair_72 ?_
      refine va_get (D := D) (ci := 1) (v := .int (iI N_period)) (C := R_Net) (T := F_Net) (N := 15) hx hb hT in_Net hown hK hP 12 rfl rfl 0 (by decide) (hT _ m41) (fun _ h9 => h9) rfl d_Rooms_measurePair_75 ?_
      refine lv_goto hx hb d_Rooms_measurePair_78 rfl ?_
      exact hj82 N_period H locs ls hP hD hS (lv_sub hl [1, 2, 3, 4, 5, 6, 7, 8, 0] rfl) h
  obtain ⟨hg0, h⟩ := gr_e h
  obtain ⟨hg1, h⟩ := gr_e h
  refine zc_gt hx hb d_Rooms_measurePair_46 rfl hg0 hg1 (fun hc => ?_) (fun hc => ?_)
  · replace h := if_t hc h
    refine zv_iconst hx hb d_Rooms_measurePair_53 ?_
    exact hj54 0 H locs ls hP hD hS (lv_sub hl [3, 4, 5, 6, 7, 2, 1, 0] rfl) h
  · replace h := if_f hc h
    refine zv_iconst hx hb d_Rooms_measurePair_49 ?_
    refine lv_goto hx hb d_Rooms_measurePair_50 rfl ?_
    exact hj54 1 H locs ls hP hD hS (lv_sub hl [3, 4, 5, 6, 7, 2, 1, 0] rfl) h
