abbrev rm_T_analyse : Room := { frames := 6, cells := 0, slots := 0, locals := 159 }
set_option maxHeartbeats 4000000 in
set_option maxRecDepth 100000 in
theorem c_T_analyse (l : Launch) (D : va_G) (cI cJ cZ : ClassId) (F : Nat) (a : Nat → Nat) (T_analysed : Int) (L_leastMoving : Int) (L_leastFixed : Int) (L_pathCount : Int) (L_least : Int → Int) (P_start : Int) (P_end : Int) (P_endChange : Int) (P_isCollected : Int) (R_leastMoving : Int) (R_leastFixed : Int) (R_leastHold : Int) (R_setup : Int → Int) (R_hold : Int → Int) (C_size : Int) (C_needed : Int → Int) (C_elements : Int → Int) (C_parent : Int → Int) (C_length : Int → Int) (C_early : Int → Int) (C_late : Int → Int) (C_firstOf : Int → Int) (C_nextOf : Int → Int) (C_count : Int → Int) (C_last : Int → Int) (C_base : Int → Int) (C_wayEarly : Int → Int) (C_wayLate : Int → Int) (K_count : Int → Int) (K_early : Int → Int) (K_late : Int → Int) (S_count : Int → Int) (S_early : Int → Int) (S_late : Int → Int) (Z_count : Int → Int) (Z_early : Int → Int) (Z_late : Int → Int) (V_count : Int → Int) (V_early : Int → Int) (V_late : Int → Int) (O_count : Int) (O_leading : Int → Int64) (O_gates : Int → Int) (N_period : Int) (N_width : Int) (N_size : Int) (N_kind : Int → Int) (N_pins : Int → Int) (N_source : Int → Int) (N_wireEarly : Int → Int) (N_wireLate : Int → Int) (N_senses : Int → Int) (N_gateEarly : Int → Int) (N_gateLate : Int → Int) (N_startEarly : Int → Int) (N_startLate : Int → Int) (N_setups : Int → Int) (N_holds : Int → Int) (r : Int) (z_T_analysed : Int) (z_L_least : Int → Int) (z_L_leastMoving : Int) (z_L_leastFixed : Int) (z_L_pathCount : Int) (z_P_isCollected : Int) (z_R_setup : Int → Int) (z_R_hold : Int → Int) (z_R_leastMoving : Int) (z_R_leastFixed : Int) (z_R_leastHold : Int) (z_C_needed : Int → Int) (z_C_size : Int) (z_C_elements : Int → Int) (z_C_parent : Int → Int) (z_C_length : Int → Int) (z_C_early : Int → Int) (z_C_late : Int → Int) (z_C_firstOf : Int → Int) (z_C_nextOf : Int → Int) (z_C_count : Int → Int) (z_C_last : Int → Int) (z_C_base : Int → Int) (z_C_wayEarly : Int → Int) (z_C_wayLate : Int → Int) (z_K_count : Int → Int) (z_K_early : Int → Int) (z_K_late : Int → Int) (z_S_count : Int → Int) (z_S_early : Int → Int) (z_S_late : Int → Int) (z_Z_count : Int → Int) (z_Z_early : Int → Int) (z_Z_late : Int → Int) (z_V_count : Int → Int) (z_V_early : Int → Int) (z_V_late : Int → Int) (z_O_leading : Int → Int64) (z_O_gates : Int → Int) (z_O_count : Int) (sz : Nat) (h : f_T_analyse F L_leastMoving L_leastFixed L_pathCount L_least P_isCollected R_leastMoving R_leastFixed R_leastHold R_setup R_hold C_size C_needed C_elements C_parent C_length C_early C_late C_firstOf C_nextOf C_count C_last C_base C_wayEarly C_wayLate K_count K_early K_late S_count S_early S_late Z_count Z_early Z_late V_count V_early V_late O_count O_leading O_gates N_period N_width N_size N_kind N_pins N_source N_wireEarly N_wireLate N_senses N_gateEarly N_gateLate N_startEarly N_startLate N_setups N_holds = some (r, z_T_analysed, z_L_least, z_L_leastMoving, z_L_leastFixed, z_L_pathCount, z_P_isCollected, z_R_setup, z_R_hold, z_R_leastMoving, z_R_leastFixed, z_R_leastHold, z_C_needed, z_C_size, z_C_elements, z_C_parent, z_C_length, z_C_early, z_C_late, z_C_firstOf, z_C_nextOf, z_C_count, z_C_last, z_C_base, z_C_wayEarly, z_C_wayLate, z_K_count, z_K_early, z_K_late, z_S_count, z_S_early, z_S_late, z_Z_count, z_Z_early, z_Z_late, z_V_count, z_V_early, z_V_late, z_O_leading, z_O_gates, z_O_count)) : Met l y_T_analyse w_T_analyse rm_T_analyse (PC D [(cI, .int), (cJ, .long), (cZ, .boolean)] [.ref (a 0)] ([(o_T a T_analysed), (o_A a), (o_L a L_leastMoving L_leastFixed L_pathCount), ((a 3), .inl (cI, 96, .inl (ia L_least))), (o_P a P_start P_end P_endChange P_isCollected), (o_R a R_leastMoving R_leastFixed R_leastHold), ((a 8), .inl (cI, 64, .inl (ia R_setup))), ((a 9), .inl (cI, 64, .inl (ia R_hold))), (o_C a C_size), ((a 11), .inl (cZ, 96, .inl (ia C_needed))), ((a 12), .inl (cI, 770, .inl (ia C_elements))), ((a 13), .inl (cI, 770, .inl (ia C_parent))), ((a 14), .inl (cI, 770, .inl (ia C_length))), ((a 15), .inl (cI, 770, .inl (ia C_early))), ((a 16), .inl (cI, 770, .inl (ia C_late))), ((a 17), .inl (cI, 96, .inl (ia C_firstOf))), ((a 18), .inl (cI, 770, .inl (ia C_nextOf))), ((a 19), .inl (cI, 48, .inl (ia C_count))), ((a 20), .inl (cI, 384, .inl (ia C_last))), ((a 21), .inl (cI, 384, .inl (ia C_base))), ((a 22), .inl (cI, 384, .inl (ia C_wayEarly))), ((a 23), .inl (cI, 384, .inl (ia C_wayLate))), (o_K a), ((a 25), .inl (cI, 96, .inl (ia K_count))), ((a 26), .inl (cI, 96, .inl (ia K_early))), ((a 27), .inl (cI, 96, .inl (ia K_late))), (o_S a), ((a 29), .inl (cI, 96, .inl (ia S_count))), ((a 30), .inl (cI, 96, .inl (ia S_early))), ((a 31), .inl (cI, 96, .inl (ia S_late))), (o_Z a), ((a 33), .inl (cI, 96, .inl (ia Z_count))), ((a 34), .inl (cI, 96, .inl (ia Z_early))), ((a 35), .inl (cI, 96, .inl (ia Z_late))), (o_V a), ((a 37), .inl (cI, 96, .inl (ia V_count))), ((a 38), .inl (cI, 96, .inl (ia V_early))), ((a 39), .inl (cI, 96, .inl (ia V_late))), (o_O a O_count), ((a 41), .inl (cJ, 48, .inr (.inl (la O_leading)))), ((a 42), .inl (cI, 48, .inl (ia O_gates))), (o_N a N_period N_width N_size), ((a 44), .inl (cI, 48, .inl (ia N_kind))), ((a 45), .inl (cI, 48, .inl (ia N_pins))), ((a 46), .inl (cI, 144, .inl (ia N_source))), ((a 47), .inl (cI, 144, .inl (ia N_wireEarly))), ((a 48), .inl (cI, 144, .inl (ia N_wireLate))), ((a 49), .inl (cI, 144, .inl (ia N_senses))), ((a 50), .inl (cI, 288, .inl (ia N_gateEarly))), ((a 51), .inl (cI, 288, .inl (ia N_gateLate))), ((a 52), .inl (cI, 96, .inl (ia N_startEarly))), ((a 53), .inl (cI, 96, .inl (ia N_startLate))), ((a 54), .inl (cI, 96, .inl (ia N_setups))), ((a 55), .inl (cI, 96, .inl (ia N_holds)))]) sz) (QI D [(cI, .int), (cJ, .long), (cZ, .boolean)] ([(o_T a T_analysed), (o_A a), (o_L a L_leastMoving L_leastFixed L_pathCount), ((a 3), .inl (cI, 96, .inl (ia L_least))), (o_P a P_start P_end P_endChange P_isCollected), (o_R a R_leastMoving R_leastFixed R_leastHold), ((a 8), .inl (cI, 64, .inl (ia R_setup))), ((a 9), .inl (cI, 64, .inl (ia R_hold))), (o_C a C_size), ((a 11), .inl (cZ, 96, .inl (ia C_needed))), ((a 12), .inl (cI, 770, .inl (ia C_elements))), ((a 13), .inl (cI, 770, .inl (ia C_parent))), ((a 14), .inl (cI, 770, .inl (ia C_length))), ((a 15), .inl (cI, 770, .inl (ia C_early))), ((a 16), .inl (cI, 770, .inl (ia C_late))), ((a 17), .inl (cI, 96, .inl (ia C_firstOf))), ((a 18), .inl (cI, 770, .inl (ia C_nextOf))), ((a 19), .inl (cI, 48, .inl (ia C_count))), ((a 20), .inl (cI, 384, .inl (ia C_last))), ((a 21), .inl (cI, 384, .inl (ia C_base))), ((a 22), .inl (cI, 384, .inl (ia C_wayEarly))), ((a 23), .inl (cI, 384, .inl (ia C_wayLate))), (o_K a), ((a 25), .inl (cI, 96, .inl (ia K_count))), ((a 26), .inl (cI, 96, .inl (ia K_early))), ((a 27), .inl (cI, 96, .inl (ia K_late))), (o_S a), ((a 29), .inl (cI, 96, .inl (ia S_count))), ((a 30), .inl (cI, 96, .inl (ia S_early))), ((a 31), .inl (cI, 96, .inl (ia S_late))), (o_Z a), ((a 33), .inl (cI, 96, .inl (ia Z_count))), ((a 34), .inl (cI, 96, .inl (ia Z_early))), ((a 35), .inl (cI, 96, .inl (ia Z_late))), (o_V a), ((a 37), .inl (cI, 96, .inl (ia V_count))), ((a 38), .inl (cI, 96, .inl (ia V_early))), ((a 39), .inl (cI, 96, .inl (ia V_late))), (o_O a O_count), ((a 41), .inl (cJ, 48, .inr (.inl (la O_leading)))), ((a 42), .inl (cI, 48, .inl (ia O_gates))), (o_N a N_period N_width N_size), ((a 44), .inl (cI, 48, .inl (ia N_kind))), ((a 45), .inl (cI, 48, .inl (ia N_pins))), ((a 46), .inl (cI, 144, .inl (ia N_source))), ((a 47), .inl (cI, 144, .inl (ia N_wireEarly))), ((a 48), .inl (cI, 144, .inl (ia N_wireLate))), ((a 49), .inl (cI, 144, .inl (ia N_senses))), ((a 50), .inl (cI, 288, .inl (ia N_gateEarly))), ((a 51), .inl (cI, 288, .inl (ia N_gateLate))), ((a 52), .inl (cI, 96, .inl (ia N_startEarly))), ((a 53), .inl (cI, 96, .inl (ia N_startLate))), ((a 54), .inl (cI, 96, .inl (ia N_setups))), ((a 55), .inl (cI, 96, .inl (ia N_holds)))]) sz r ([(o_T a z_T_analysed), (o_A a), (o_L a z_L_leastMoving z_L_leastFixed z_L_pathCount), ((a 3), .inl (cI, 96, .inl (ia z_L_least))), (o_P a P_start P_end P_endChange z_P_isCollected), (o_R a z_R_leastMoving z_R_leastFixed z_R_leastHold), ((a 8), .inl (cI, 64, .inl (ia z_R_setup))), ((a 9), .inl (cI, 64, .inl (ia z_R_hold))), (o_C a z_C_size), ((a 11), .inl (cZ, 96, .inl (ia z_C_needed))), ((a 12), .inl (cI, 770, .inl (ia z_C_elements))), ((a 13), .inl (cI, 770, .inl (ia z_C_parent))), ((a 14), .inl (cI, 770, .inl (ia z_C_length))), ((a 15), .inl (cI, 770, .inl (ia z_C_early))), ((a 16), .inl (cI, 770, .inl (ia z_C_late))), ((a 17), .inl (cI, 96, .inl (ia z_C_firstOf))), ((a 18), .inl (cI, 770, .inl (ia z_C_nextOf))), ((a 19), .inl (cI, 48, .inl (ia z_C_count))), ((a 20), .inl (cI, 384, .inl (ia z_C_last))), ((a 21), .inl (cI, 384, .inl (ia z_C_base))), ((a 22), .inl (cI, 384, .inl (ia z_C_wayEarly))), ((a 23), .inl (cI, 384, .inl (ia z_C_wayLate))), (o_K a), ((a 25), .inl (cI, 96, .inl (ia z_K_count))), ((a 26), .inl (cI, 96, .inl (ia z_K_early))), ((a 27), .inl (cI, 96, .inl (ia z_K_late))), (o_S a), ((a 29), .inl (cI, 96, .inl (ia z_S_count))), ((a 30), .inl (cI, 96, .inl (ia z_S_early))), ((a 31), .inl (cI, 96, .inl (ia z_S_late))), (o_Z a), ((a 33), .inl (cI, 96, .inl (ia z_Z_count))), ((a 34), .inl (cI, 96, .inl (ia z_Z_early))), ((a 35), .inl (cI, 96, .inl (ia z_Z_late))), (o_V a), ((a 37), .inl (cI, 96, .inl (ia z_V_count))), ((a 38), .inl (cI, 96, .inl (ia z_V_early))), ((a 39), .inl (cI, 96, .inl (ia z_V_late))), (o_O a z_O_count), ((a 41), .inl (cJ, 48, .inr (.inl (la z_O_leading)))), ((a 42), .inl (cI, 48, .inl (ia z_O_gates))), (o_N a N_period N_width N_size), ((a 44), .inl (cI, 48, .inl (ia N_kind))), ((a 45), .inl (cI, 48, .inl (ia N_pins))), ((a 46), .inl (cI, 144, .inl (ia N_source))), ((a 47), .inl (cI, 144, .inl (ia N_wireEarly))), ((a 48), .inl (cI, 144, .inl (ia N_wireLate))), ((a 49), .inl (cI, 144, .inl (ia N_senses))), ((a 50), .inl (cI, 288, .inl (ia N_gateEarly))), ((a 51), .inl (cI, 288, .inl (ia N_gateLate))), ((a 52), .inl (cI, 96, .inl (ia N_startEarly))), ((a 53), .inl (cI, 96, .inl (ia N_startLate))), ((a 54), .inl (cI, 96, .inl (ia N_setups))), ((a 55), .inl (cI, 96, .inl (ia N_holds)))])) 0 0 (va_A ([(o_T a T_analysed), (o_A a), (o_L a L_leastMoving L_leastFixed L_pathCount), ((a 3), .inl (cI, 96, .inl (ia L_least))), (o_P a P_start P_end P_endChange P_isCollected), (o_R a R_leastMoving R_leastFixed R_leastHold), ((a 8), .inl (cI, 64, .inl (ia R_setup))), ((a 9), .inl (cI, 64, .inl (ia R_hold))), (o_C a C_size), ((a 11), .inl (cZ, 96, .inl (ia C_needed))), ((a 12), .inl (cI, 770, .inl (ia C_elements))), ((a 13), .inl (cI, 770, .inl (ia C_parent))), ((a 14), .inl (cI, 770, .inl (ia C_length))), ((a 15), .inl (cI, 770, .inl (ia C_early))), ((a 16), .inl (cI, 770, .inl (ia C_late))), ((a 17), .inl (cI, 96, .inl (ia C_firstOf))), ((a 18), .inl (cI, 770, .inl (ia C_nextOf))), ((a 19), .inl (cI, 48, .inl (ia C_count))), ((a 20), .inl (cI, 384, .inl (ia C_last))), ((a 21), .inl (cI, 384, .inl (ia C_base))), ((a 22), .inl (cI, 384, .inl (ia C_wayEarly))), ((a 23), .inl (cI, 384, .inl (ia C_wayLate))), (o_K a), ((a 25), .inl (cI, 96, .inl (ia K_count))), ((a 26), .inl (cI, 96, .inl (ia K_early))), ((a 27), .inl (cI, 96, .inl (ia K_late))), (o_S a), ((a 29), .inl (cI, 96, .inl (ia S_count))), ((a 30), .inl (cI, 96, .inl (ia S_early))), ((a 31), .inl (cI, 96, .inl (ia S_late))), (o_Z a), ((a 33), .inl (cI, 96, .inl (ia Z_count))), ((a 34), .inl (cI, 96, .inl (ia Z_early))), ((a 35), .inl (cI, 96, .inl (ia Z_late))), (o_V a), ((a 37), .inl (cI, 96, .inl (ia V_count))), ((a 38), .inl (cI, 96, .inl (ia V_early))), ((a 39), .inl (cI, 96, .inl (ia V_late))), (o_O a O_count), ((a 41), .inl (cJ, 48, .inr (.inl (la O_leading)))), ((a 42), .inl (cI, 48, .inl (ia O_gates))), (o_N a N_period N_width N_size), ((a 44), .inl (cI, 48, .inl (ia N_kind))), ((a 45), .inl (cI, 48, .inl (ia N_pins))), ((a 46), .inl (cI, 144, .inl (ia N_source))), ((a 47), .inl (cI, 144, .inl (ia N_wireEarly))), ((a 48), .inl (cI, 144, .inl (ia N_wireLate))), ((a 49), .inl (cI, 144, .inl (ia N_senses))), ((a 50), .inl (cI, 288, .inl (ia N_gateEarly))), ((a 51), .inl (cI, 288, .inl (ia N_gateLate))), ((a 52), .inl (cI, 96, .inl (ia N_startEarly))), ((a 53), .inl (cI, 96, .inl (ia N_startLate))), ((a 54), .inl (cI, 96, .inl (ia N_setups))), ((a 55), .inl (cI, 96, .inl (ia N_holds)))]) sz) := by
  refine Met.ofW (cc := prog_1_method_11_code) (maxL := 1) (ret := (Option.some Jvm.ClassFile.FieldType.int)) (by decide) rfl ?_
  intro p e s m args below meth c s₁ B hml hv
  obtain ⟨rfl, hsz, hP, hK, hD0, hN⟩ := hv
  have hx := B.exec
  have hb := B.bytes
  have hr := B.returns
  have hts := atoms_spec (ws := w_T_analyse) B.pre
  have hown : s.vm.findClass R_T = some m.cls := findClass_of_methodNamed B.named
  have hlocks := B.notSynchronized
  subst hsz
  have hD := hD0.self (sz := s.heap.size)
  obtain ⟨A, hAe⟩ : ∃ A, A = va_A ([(o_T a T_analysed), (o_A a), (o_L a L_leastMoving L_leastFixed L_pathCount), ((a 3), .inl (cI, 96, .inl (ia L_least))), (o_P a P_start P_end P_endChange P_isCollected), (o_R a R_leastMoving R_leastFixed R_leastHold), ((a 8), .inl (cI, 64, .inl (ia R_setup))), ((a 9), .inl (cI, 64, .inl (ia R_hold))), (o_C a C_size), ((a 11), .inl (cZ, 96, .inl (ia C_needed))), ((a 12), .inl (cI, 770, .inl (ia C_elements))), ((a 13), .inl (cI, 770, .inl (ia C_parent))), ((a 14), .inl (cI, 770, .inl (ia C_length))), ((a 15), .inl (cI, 770, .inl (ia C_early))), ((a 16), .inl (cI, 770, .inl (ia C_late))), ((a 17), .inl (cI, 96, .inl (ia C_firstOf))), ((a 18), .inl (cI, 770, .inl (ia C_nextOf))), ((a 19), .inl (cI, 48, .inl (ia C_count))), ((a 20), .inl (cI, 384, .inl (ia C_last))), ((a 21), .inl (cI, 384, .inl (ia C_base))), ((a 22), .inl (cI, 384, .inl (ia C_wayEarly))), ((a 23), .inl (cI, 384, .inl (ia C_wayLate))), (o_K a), ((a 25), .inl (cI, 96, .inl (ia K_count))), ((a 26), .inl (cI, 96, .inl (ia K_early))), ((a 27), .inl (cI, 96, .inl (ia K_late))), (o_S a), ((a 29), .inl (cI, 96, .inl (ia S_count))), ((a 30), .inl (cI, 96, .inl (ia S_early))), ((a 31), .inl (cI, 96, .inl (ia S_late))), (o_Z a), ((a 33), .inl (cI, 96, .inl (ia Z_count))), ((a 34), .inl (cI, 96, .inl (ia Z_early))), ((a 35), .inl (cI, 96, .inl (ia Z_late))), (o_V a), ((a 37), .inl (cI, 96, .inl (ia V_count))), ((a 38), .inl (cI, 96, .inl (ia V_early))), ((a 39), .inl (cI, 96, .inl (ia V_late))), (o_O a O_count), ((a 41), .inl (cJ, 48, .inr (.inl (la O_leading)))), ((a 42), .inl (cI, 48, .inl (ia O_gates))), (o_N a N_period N_width N_size), ((a 44), .inl (cI, 48, .inl (ia N_kind))), ((a 45), .inl (cI, 48, .inl (ia N_pins))), ((a 46), .inl (cI, 144, .inl (ia N_source))), ((a 47), .inl (cI, 144, .inl (ia N_wireEarly))), ((a 48), .inl (cI, 144, .inl (ia N_wireLate))), ((a 49), .inl (cI, 144, .inl (ia N_senses))), ((a 50), .inl (cI, 288, .inl (ia N_gateEarly))), ((a 51), .inl (cI, 288, .inl (ia N_gateLate))), ((a 52), .inl (cI, 96, .inl (ia N_startEarly))), ((a 53), .inl (cI, 96, .inl (ia N_startLate))), ((a 54), .inl (cI, 96, .inl (ia N_setups))), ((a 55), .inl (cI, 96, .inl (ia N_holds)))]) s.heap.size := ⟨_, rfl⟩
  rw [← hAe] at hD
  have hA : ∀ q : Nat, s.heap.size ≤ q → A q := fun q h => by rw [hAe]; exact Or.inr h
  have hS : va_S A s.heap s.heap [] := va_S.rf
  have hl := lv_entry ([.ref (a 0)]) (n := 1) (Nat.le_of_ble_eq_true rfl)
  rw [lg_entry_eq]
  generalize (lg_sl ([.ref (a 0)]) ++ List.replicate (1 - (lg_sl ([.ref (a 0)])).length) Slot.unset).toArray = ls at hl ⊢
  have hl : lv_has ls 1 [(0, .ref (a 0))] := hl
  generalize (List.toArray ([.ref (a 0)] : List Value)) = args at hts ⊢
  have hT : ∀ w ∈ Tg, w.before args s = true := fun w h => hts w (List.mem_cons_of_mem _ h)
  obtain ⟨Q, hQ⟩ : ∃ Q, Q = MQ below (QI D [(cI, .int), (cJ, .long), (cZ, .boolean)] ([(o_T a T_analysed), (o_A a), (o_L a L_leastMoving L_leastFixed L_pathCount), ((a 3), .inl (cI, 96, .inl (ia L_least))), (o_P a P_start P_end P_endChange P_isCollected), (o_R a R_leastMoving R_leastFixed R_leastHold), ((a 8), .inl (cI, 64, .inl (ia R_setup))), ((a 9), .inl (cI, 64, .inl (ia R_hold))), (o_C a C_size), ((a 11), .inl (cZ, 96, .inl (ia C_needed))), ((a 12), .inl (cI, 770, .inl (ia C_elements))), ((a 13), .inl (cI, 770, .inl (ia C_parent))), ((a 14), .inl (cI, 770, .inl (ia C_length))), ((a 15), .inl (cI, 770, .inl (ia C_early))), ((a 16), .inl (cI, 770, .inl (ia C_late))), ((a 17), .inl (cI, 96, .inl (ia C_firstOf))), ((a 18), .inl (cI, 770, .inl (ia C_nextOf))), ((a 19), .inl (cI, 48, .inl (ia C_count))), ((a 20), .inl (cI, 384, .inl (ia C_last))), ((a 21), .inl (cI, 384, .inl (ia C_base))), ((a 22), .inl (cI, 384, .inl (ia C_wayEarly))), ((a 23), .inl (cI, 384, .inl (ia C_wayLate))), (o_K a), ((a 25), .inl (cI, 96, .inl (ia K_count))), ((a 26), .inl (cI, 96, .inl (ia K_early))), ((a 27), .inl (cI, 96, .inl (ia K_late))), (o_S a), ((a 29), .inl (cI, 96, .inl (ia S_count))), ((a 30), .inl (cI, 96, .inl (ia S_early))), ((a 31), .inl (cI, 96, .inl (ia S_late))), (o_Z a), ((a 33), .inl (cI, 96, .inl (ia Z_count))), ((a 34), .inl (cI, 96, .inl (ia Z_early))), ((a 35), .inl (cI, 96, .inl (ia Z_late))), (o_V a), ((a 37), .inl (cI, 96, .inl (ia V_count))), ((a 38), .inl (cI, 96, .inl (ia V_early))), ((a 39), .inl (cI, 96, .inl (ia V_late))), (o_O a O_count), ((a 41), .inl (cJ, 48, .inr (.inl (la O_leading)))), ((a 42), .inl (cI, 48, .inl (ia O_gates))), (o_N a N_period N_width N_size), ((a 44), .inl (cI, 48, .inl (ia N_kind))), ((a 45), .inl (cI, 48, .inl (ia N_pins))), ((a 46), .inl (cI, 144, .inl (ia N_source))), ((a 47), .inl (cI, 144, .inl (ia N_wireEarly))), ((a 48), .inl (cI, 144, .inl (ia N_wireLate))), ((a 49), .inl (cI, 144, .inl (ia N_senses))), ((a 50), .inl (cI, 288, .inl (ia N_gateEarly))), ((a 51), .inl (cI, 288, .inl (ia N_gateLate))), ((a 52), .inl (cI, 96, .inl (ia N_startEarly))), ((a 53), .inl (cI, 96, .inl (ia N_startLate))), ((a 54), .inl (cI, 96, .inl (ia N_setups))), ((a 55), .inl (cI, 96, .inl (ia N_holds)))]) s.heap.size r ([(o_T a z_T_analysed), (o_A a), (o_L a z_L_leastMoving z_L_leastFixed z_L_pathCount), ((a 3), .inl (cI, 96, .inl (ia z_L_least))), (o_P a P_start P_end P_endChange z_P_isCollected), (o_R a z_R_leastMoving z_R_leastFixed z_R_leastHold), ((a 8), .inl (cI, 64, .inl (ia z_R_setup))), ((a 9), .inl (cI, 64, .inl (ia z_R_hold))), (o_C a z_C_size), ((a 11), .inl (cZ, 96, .inl (ia z_C_needed))), ((a 12), .inl (cI, 770, .inl (ia z_C_elements))), ((a 13), .inl (cI, 770, .inl (ia z_C_parent))), ((a 14), .inl (cI, 770, .inl (ia z_C_length))), ((a 15), .inl (cI, 770, .inl (ia z_C_early))), ((a 16), .inl (cI, 770, .inl (ia z_C_late))), ((a 17), .inl (cI, 96, .inl (ia z_C_firstOf))), ((a 18), .inl (cI, 770, .inl (ia z_C_nextOf))), ((a 19), .inl (cI, 48, .inl (ia z_C_count))), ((a 20), .inl (cI, 384, .inl (ia z_C_last))), ((a 21), .inl (cI, 384, .inl (ia z_C_base))), ((a 22), .inl (cI, 384, .inl (ia z_C_wayEarly))), ((a 23), .inl (cI, 384, .inl (ia z_C_wayLate))), (o_K a), ((a 25), .inl (cI, 96, .inl (ia z_K_count))), ((a 26), .inl (cI, 96, .inl (ia z_K_early))), ((a 27), .inl (cI, 96, .inl (ia z_K_late))), (o_S a), ((a 29), .inl (cI, 96, .inl (ia z_S_count))), ((a 30), .inl (cI, 96, .inl (ia z_S_early))), ((a 31), .inl (cI, 96, .inl (ia z_S_late))), (o_Z a), ((a 33), .inl (cI, 96, .inl (ia z_Z_count))), ((a 34), .inl (cI, 96, .inl (ia z_Z_early))), ((a 35), .inl (cI, 96, .inl (ia z_Z_late))), (o_V a), ((a 37), .inl (cI, 96, .inl (ia z_V_count))), ((a 38), .inl (cI, 96, .inl (ia z_V_early))), ((a 39), .inl (cI, 96, .inl (ia z_V_late))), (o_O a z_O_count), ((a 41), .inl (cJ, 48, .inr (.inl (la z_O_leading)))), ((a 42), .inl (cI, 48, .inl (ia z_O_gates))), (o_N a N_period N_width N_size), ((a 44), .inl (cI, 48, .inl (ia N_kind))), ((a 45), .inl (cI, 48, .inl (ia N_pins))), ((a 46), .inl (cI, 144, .inl (ia N_source))), ((a 47), .inl (cI, 144, .inl (ia N_wireEarly))), ((a 48), .inl (cI, 144, .inl (ia N_wireLate))), ((a 49), .inl (cI, 144, .inl (ia N_senses))), ((a 50), .inl (cI, 288, .inl (ia N_gateEarly))), ((a 51), .inl (cI, 288, .inl (ia N_gateLate))), ((a 52), .inl (cI, 96, .inl (ia N_startEarly))), ((a 53), .inl (cI, 96, .inl (ia N_startLate))), ((a 54), .inl (cI, 96, .inl (ia N_setups))), ((a 55), .inl (cI, 96, .inl (ia N_holds)))])) args s 0 0 (va_A ([(o_T a T_analysed), (o_A a), (o_L a L_leastMoving L_leastFixed L_pathCount), ((a 3), .inl (cI, 96, .inl (ia L_least))), (o_P a P_start P_end P_endChange P_isCollected), (o_R a R_leastMoving R_leastFixed R_leastHold), ((a 8), .inl (cI, 64, .inl (ia R_setup))), ((a 9), .inl (cI, 64, .inl (ia R_hold))), (o_C a C_size), ((a 11), .inl (cZ, 96, .inl (ia C_needed))), ((a 12), .inl (cI, 770, .inl (ia C_elements))), ((a 13), .inl (cI, 770, .inl (ia C_parent))), ((a 14), .inl (cI, 770, .inl (ia C_length))), ((a 15), .inl (cI, 770, .inl (ia C_early))), ((a 16), .inl (cI, 770, .inl (ia C_late))), ((a 17), .inl (cI, 96, .inl (ia C_firstOf))), ((a 18), .inl (cI, 770, .inl (ia C_nextOf))), ((a 19), .inl (cI, 48, .inl (ia C_count))), ((a 20), .inl (cI, 384, .inl (ia C_last))), ((a 21), .inl (cI, 384, .inl (ia C_base))), ((a 22), .inl (cI, 384, .inl (ia C_wayEarly))), ((a 23), .inl (cI, 384, .inl (ia C_wayLate))), (o_K a), ((a 25), .inl (cI, 96, .inl (ia K_count))), ((a 26), .inl (cI, 96, .inl (ia K_early))), ((a 27), .inl (cI, 96, .inl (ia K_late))), (o_S a), ((a 29), .inl (cI, 96, .inl (ia S_count))), ((a 30), .inl (cI, 96, .inl (ia S_early))), ((a 31), .inl (cI, 96, .inl (ia S_late))), (o_Z a), ((a 33), .inl (cI, 96, .inl (ia Z_count))), ((a 34), .inl (cI, 96, .inl (ia Z_early))), ((a 35), .inl (cI, 96, .inl (ia Z_late))), (o_V a), ((a 37), .inl (cI, 96, .inl (ia V_count))), ((a 38), .inl (cI, 96, .inl (ia V_early))), ((a 39), .inl (cI, 96, .inl (ia V_late))), (o_O a O_count), ((a 41), .inl (cJ, 48, .inr (.inl (la O_leading)))), ((a 42), .inl (cI, 48, .inl (ia O_gates))), (o_N a N_period N_width N_size), ((a 44), .inl (cI, 48, .inl (ia N_kind))), ((a 45), .inl (cI, 48, .inl (ia N_pins))), ((a 46), .inl (cI, 144, .inl (ia N_source))), ((a 47), .inl (cI, 144, .inl (ia N_wireEarly))), ((a 48), .inl (cI, 144, .inl (ia N_wireLate))), ((a 49), .inl (cI, 144, .inl (ia N_senses))), ((a 50), .inl (cI, 288, .inl (ia N_gateEarly))), ((a 51), .inl (cI, 288, .inl (ia N_gateLate))), ((a 52), .inl (cI, 96, .inl (ia N_startEarly))), ((a 53), .inl (cI, 96, .inl (ia N_startLate))), ((a 54), .inl (cI, 96, .inl (ia N_setups))), ((a 55), .inl (cI, 96, .inl (ia N_holds)))]) s.heap.size) := ⟨_, rfl⟩
  rw [← hQ]
  suffices hW : ∀ (H : Heap) (locs : List Loc), va_P D vwCl ([(o_T a T_analysed), (o_A a), (o_L a L_leastMoving L_leastFixed L_pathCount), ((a 3), .inl (cI, 96, .inl (ia L_least))), (o_P a P_start P_end P_endChange P_isCollected), (o_R a R_leastMoving R_leastFixed R_leastHold), ((a 8), .inl (cI, 64, .inl (ia R_setup))), ((a 9), .inl (cI, 64, .inl (ia R_hold))), (o_C a C_size), ((a 11), .inl (cZ, 96, .inl (ia C_needed))), ((a 12), .inl (cI, 770, .inl (ia C_elements))), ((a 13), .inl (cI, 770, .inl (ia C_parent))), ((a 14), .inl (cI, 770, .inl (ia C_length))), ((a 15), .inl (cI, 770, .inl (ia C_early))), ((a 16), .inl (cI, 770, .inl (ia C_late))), ((a 17), .inl (cI, 96, .inl (ia C_firstOf))), ((a 18), .inl (cI, 770, .inl (ia C_nextOf))), ((a 19), .inl (cI, 48, .inl (ia C_count))), ((a 20), .inl (cI, 384, .inl (ia C_last))), ((a 21), .inl (cI, 384, .inl (ia C_base))), ((a 22), .inl (cI, 384, .inl (ia C_wayEarly))), ((a 23), .inl (cI, 384, .inl (ia C_wayLate))), (o_K a), ((a 25), .inl (cI, 96, .inl (ia K_count))), ((a 26), .inl (cI, 96, .inl (ia K_early))), ((a 27), .inl (cI, 96, .inl (ia K_late))), (o_S a), ((a 29), .inl (cI, 96, .inl (ia S_count))), ((a 30), .inl (cI, 96, .inl (ia S_early))), ((a 31), .inl (cI, 96, .inl (ia S_late))), (o_Z a), ((a 33), .inl (cI, 96, .inl (ia Z_count))), ((a 34), .inl (cI, 96, .inl (ia Z_early))), ((a 35), .inl (cI, 96, .inl (ia Z_late))), (o_V a), ((a 37), .inl (cI, 96, .inl (ia V_count))), ((a 38), .inl (cI, 96, .inl (ia V_early))), ((a 39), .inl (cI, 96, .inl (ia V_late))), (o_O a O_count), ((a 41), .inl (cJ, 48, .inr (.inl (la O_leading)))), ((a 42), .inl (cI, 48, .inl (ia O_gates))), (o_N a N_period N_width N_size), ((a 44), .inl (cI, 48, .inl (ia N_kind))), ((a 45), .inl (cI, 48, .inl (ia N_pins))), ((a 46), .inl (cI, 144, .inl (ia N_source))), ((a 47), .inl (cI, 144, .inl (ia N_wireEarly))), ((a 48), .inl (cI, 144, .inl (ia N_wireLate))), ((a 49), .inl (cI, 144, .inl (ia N_senses))), ((a 50), .inl (cI, 288, .inl (ia N_gateEarly))), ((a 51), .inl (cI, 288, .inl (ia N_gateLate))), ((a 52), .inl (cI, 96, .inl (ia N_startEarly))), ((a 53), .inl (cI, 96, .inl (ia N_startLate))), ((a 54), .inl (cI, 96, .inl (ia N_setups))), ((a 55), .inl (cI, 96, .inl (ia N_holds)))]) H → va_D A ([(o_T a T_analysed), (o_A a), (o_L a L_leastMoving L_leastFixed L_pathCount), ((a 3), .inl (cI, 96, .inl (ia L_least))), (o_P a P_start P_end P_endChange P_isCollected), (o_R a R_leastMoving R_leastFixed R_leastHold), ((a 8), .inl (cI, 64, .inl (ia R_setup))), ((a 9), .inl (cI, 64, .inl (ia R_hold))), (o_C a C_size), ((a 11), .inl (cZ, 96, .inl (ia C_needed))), ((a 12), .inl (cI, 770, .inl (ia C_elements))), ((a 13), .inl (cI, 770, .inl (ia C_parent))), ((a 14), .inl (cI, 770, .inl (ia C_length))), ((a 15), .inl (cI, 770, .inl (ia C_early))), ((a 16), .inl (cI, 770, .inl (ia C_late))), ((a 17), .inl (cI, 96, .inl (ia C_firstOf))), ((a 18), .inl (cI, 770, .inl (ia C_nextOf))), ((a 19), .inl (cI, 48, .inl (ia C_count))), ((a 20), .inl (cI, 384, .inl (ia C_last))), ((a 21), .inl (cI, 384, .inl (ia C_base))), ((a 22), .inl (cI, 384, .inl (ia C_wayEarly))), ((a 23), .inl (cI, 384, .inl (ia C_wayLate))), (o_K a), ((a 25), .inl (cI, 96, .inl (ia K_count))), ((a 26), .inl (cI, 96, .inl (ia K_early))), ((a 27), .inl (cI, 96, .inl (ia K_late))), (o_S a), ((a 29), .inl (cI, 96, .inl (ia S_count))), ((a 30), .inl (cI, 96, .inl (ia S_early))), ((a 31), .inl (cI, 96, .inl (ia S_late))), (o_Z a), ((a 33), .inl (cI, 96, .inl (ia Z_count))), ((a 34), .inl (cI, 96, .inl (ia Z_early))), ((a 35), .inl (cI, 96, .inl (ia Z_late))), (o_V a), ((a 37), .inl (cI, 96, .inl (ia V_count))), ((a 38), .inl (cI, 96, .inl (ia V_early))), ((a 39), .inl (cI, 96, .inl (ia V_late))), (o_O a O_count), ((a 41), .inl (cJ, 48, .inr (.inl (la O_leading)))), ((a 42), .inl (cI, 48, .inl (ia O_gates))), (o_N a N_period N_width N_size), ((a 44), .inl (cI, 48, .inl (ia N_kind))), ((a 45), .inl (cI, 48, .inl (ia N_pins))), ((a 46), .inl (cI, 144, .inl (ia N_source))), ((a 47), .inl (cI, 144, .inl (ia N_wireEarly))), ((a 48), .inl (cI, 144, .inl (ia N_wireLate))), ((a 49), .inl (cI, 144, .inl (ia N_senses))), ((a 50), .inl (cI, 288, .inl (ia N_gateEarly))), ((a 51), .inl (cI, 288, .inl (ia N_gateLate))), ((a 52), .inl (cI, 96, .inl (ia N_startEarly))), ((a 53), .inl (cI, 96, .inl (ia N_startLate))), ((a 54), .inl (cI, 96, .inl (ia N_setups))), ((a 55), .inl (cI, 96, .inl (ia N_holds)))]) → va_S A s.heap H locs → W p l e (headSpec w_T_analyse rm_T_analyse).room s m args below meth c H locs 0 0 Q (F0 m 0 ls []) from hW s.heap [] hP hD hS
  clear hP hD hS
  intro H locs hP hD hS
  have hk0 := (show (Cond.constant "PathTiming" 94 (iI (-2147483648))).before args s = true from by rw [show iI (-2147483648) = ((-2147483648) : Int32) from by decide]; exact hT _ m439)
  rw [f_T_analyse] at h
  refine lv_aload_n hx hb d_T_analyse_0 rfl (lv_at hl 0 rfl) ?_
  refine zv_iconst hx hb d_T_analyse_1 ?_
  refine va_put (D := D) (ci := 0) (v := .int (iI 0)) (ty := .boolean) (C := R_T) (T := F_T) (N := 7) hx hb hT in_T ty_T ty_T_ok n_T hown hK hP hD hS 0 rfl rfl 6 (by decide) (hT _ m415) (fun _ h9 => h9) rfl (by decide +kernel) rfl rfl (Nat.le_of_ble_eq_true rfl) d_T_analyse_2 (fun H locs hP hD hS => ?_)
  have hP : va_P D vwCl [(o_T a 0), (o_A a), (o_L a L_leastMoving L_leastFixed L_pathCount), ((a 3), .inl (cI, 96, .inl (ia L_least))), (o_P a P_start P_end P_endChange P_isCollected), (o_R a R_leastMoving R_leastFixed R_leastHold), ((a 8), .inl (cI, 64, .inl (ia R_setup))), ((a 9), .inl (cI, 64, .inl (ia R_hold))), (o_C a C_size), ((a 11), .inl (cZ, 96, .inl (ia C_needed))), ((a 12), .inl (cI, 770, .inl (ia C_elements))), ((a 13), .inl (cI, 770, .inl (ia C_parent))), ((a 14), .inl (cI, 770, .inl (ia C_length))), ((a 15), .inl (cI, 770, .inl (ia C_early))), ((a 16), .inl (cI, 770, .inl (ia C_late))), ((a 17), .inl (cI, 96, .inl (ia C_firstOf))), ((a 18), .inl (cI, 770, .inl (ia C_nextOf))), ((a 19), .inl (cI, 48, .inl (ia C_count))), ((a 20), .inl (cI, 384, .inl (ia C_last))), ((a 21), .inl (cI, 384, .inl (ia C_base))), ((a 22), .inl (cI, 384, .inl (ia C_wayEarly))), ((a 23), .inl (cI, 384, .inl (ia C_wayLate))), (o_K a), ((a 25), .inl (cI, 96, .inl (ia K_count))), ((a 26), .inl (cI, 96, .inl (ia K_early))), ((a 27), .inl (cI, 96, .inl (ia K_late))), (o_S a), ((a 29), .inl (cI, 96, .inl (ia S_count))), ((a 30), .inl (cI, 96, .inl (ia S_early))), ((a 31), .inl (cI, 96, .inl (ia S_late))), (o_Z a), ((a 33), .inl (cI, 96, .inl (ia Z_count))), ((a 34), .inl (cI, 96, .inl (ia Z_early))), ((a 35), .inl (cI, 96, .inl (ia Z_late))), (o_V a), ((a 37), .inl (cI, 96, .inl (ia V_count))), ((a 38), .inl (cI, 96, .inl (ia V_early))), ((a 39), .inl (cI, 96, .inl (ia V_late))), (o_O a O_count), ((a 41), .inl (cJ, 48, .inr (.inl (la O_leading)))), ((a 42), .inl (cI, 48, .inl (ia O_gates))), (o_N a N_period N_width N_size), ((a 44), .inl (cI, 48, .inl (ia N_kind))), ((a 45), .inl (cI, 48, .inl (ia N_pins))), ((a 46), .inl (cI, 144, .inl (ia N_source))), ((a 47), .inl (cI, 144, .inl (ia N_wireEarly))), ((a 48), .inl (cI, 144, .inl (ia N_wireLate))), ((a 49), .inl (cI, 144, .inl (ia N_senses))), ((a 50), .inl (cI, 288, .inl (ia N_gateEarly))), ((a 51), .inl (cI, 288, .inl (ia N_gateLate))), ((a 52), .inl (cI, 96, .inl (ia N_startEarly))), ((a 53), .inl (cI, 96, .inl (ia N_startLate))), ((a 54), .inl (cI, 96, .inl (ia N_setups))), ((a 55), .inl (cI, 96, .inl (ia N_holds)))] H := hP
  have hD : va_D A [(o_T a 0), (o_A a), (o_L a L_leastMoving L_leastFixed L_pathCount), ((a 3), .inl (cI, 96, .inl (ia L_least))), (o_P a P_start P_end P_endChange P_isCollected), (o_R a R_leastMoving R_leastFixed R_leastHold), ((a 8), .inl (cI, 64, .inl (ia R_setup))), ((a 9), .inl (cI, 64, .inl (ia R_hold))), (o_C a C_size), ((a 11), .inl (cZ, 96, .inl (ia C_needed))), ((a 12), .inl (cI, 770, .inl (ia C_elements))), ((a 13), .inl (cI, 770, .inl (ia C_parent))), ((a 14), .inl (cI, 770, .inl (ia C_length))), ((a 15), .inl (cI, 770, .inl (ia C_early))), ((a 16), .inl (cI, 770, .inl (ia C_late))), ((a 17), .inl (cI, 96, .inl (ia C_firstOf))), ((a 18), .inl (cI, 770, .inl (ia C_nextOf))), ((a 19), .inl (cI, 48, .inl (ia C_count))), ((a 20), .inl (cI, 384, .inl (ia C_last))), ((a 21), .inl (cI, 384, .inl (ia C_base))), ((a 22), .inl (cI, 384, .inl (ia C_wayEarly))), ((a 23), .inl (cI, 384, .inl (ia C_wayLate))), (o_K a), ((a 25), .inl (cI, 96, .inl (ia K_count))), ((a 26), .inl (cI, 96, .inl (ia K_early))), ((a 27), .inl (cI, 96, .inl (ia K_late))), (o_S a), ((a 29), .inl (cI, 96, .inl (ia S_count))), ((a 30), .inl (cI, 96, .inl (ia S_early))), ((a 31), .inl (cI, 96, .inl (ia S_late))), (o_Z a), ((a 33), .inl (cI, 96, .inl (ia Z_count))), ((a 34), .inl (cI, 96, .inl (ia Z_early))), ((a 35), .inl (cI, 96, .inl (ia Z_late))), (o_V a), ((a 37), .inl (cI, 96, .inl (ia V_count))), ((a 38), .inl (cI, 96, .inl (ia V_early))), ((a 39), .inl (cI, 96, .inl (ia V_late))), (o_O a O_count), ((a 41), .inl (cJ, 48, .inr (.inl (la O_leading)))), ((a 42), .inl (cI, 48, .inl (ia O_gates))), (o_N a N_period N_width N_size), ((a 44), .inl (cI, 48, .inl (ia N_kind))), ((a 45), .inl (cI, 48, .inl (ia N_pins))), ((a 46), .inl (cI, 144, .inl (ia N_source))), ((a 47), .inl (cI, 144, .inl (ia N_wireEarly))), ((a 48), .inl (cI, 144, .inl (ia N_wireLate))), ((a 49), .inl (cI, 144, .inl (ia N_senses))), ((a 50), .inl (cI, 288, .inl (ia N_gateEarly))), ((a 51), .inl (cI, 288, .inl (ia N_gateLate))), ((a 52), .inl (cI, 96, .inl (ia N_startEarly))), ((a 53), .inl (cI, 96, .inl (ia N_startLate))), ((a 54), .inl (cI, 96, .inl (ia N_setups))), ((a 55), .inl (cI, 96, .inl (ia N_holds)))] := hD
  refine lv_aload_n hx hb d_T_analyse_5 rfl (lv_at hl 0 rfl) ?_
  refine va_get (D := D) (ci := 0) (v := .ref (a 40)) (C := R_T) (T := F_T) (N := 7) hx hb hT in_T hown hK hP 0 rfl rfl 1 (by decide) (hT _ m410) (fun _ h9 => h9) rfl d_T_analyse_6 ?_
  obtain ⟨r9, O_leading_1, hcall, h⟩ := ob2_e h
  refine ca_i (w2 := [(o_T a 0), (o_A a), (o_L a L_leastMoving L_leastFixed L_pathCount), ((a 3), .inl (cI, 96, .inl (ia L_least))), (o_P a P_start P_end P_endChange P_isCollected), (o_R a R_leastMoving R_leastFixed R_leastHold), ((a 8), .inl (cI, 64, .inl (ia R_setup))), ((a 9), .inl (cI, 64, .inl (ia R_hold))), (o_C a C_size), ((a 11), .inl (cZ, 96, .inl (ia C_needed))), ((a 12), .inl (cI, 770, .inl (ia C_elements))), ((a 13), .inl (cI, 770, .inl (ia C_parent))), ((a 14), .inl (cI, 770, .inl (ia C_length))), ((a 15), .inl (cI, 770, .inl (ia C_early))), ((a 16), .inl (cI, 770, .inl (ia C_late))), ((a 17), .inl (cI, 96, .inl (ia C_firstOf))), ((a 18), .inl (cI, 770, .inl (ia C_nextOf))), ((a 19), .inl (cI, 48, .inl (ia C_count))), ((a 20), .inl (cI, 384, .inl (ia C_last))), ((a 21), .inl (cI, 384, .inl (ia C_base))), ((a 22), .inl (cI, 384, .inl (ia C_wayEarly))), ((a 23), .inl (cI, 384, .inl (ia C_wayLate))), (o_K a), ((a 25), .inl (cI, 96, .inl (ia K_count))), ((a 26), .inl (cI, 96, .inl (ia K_early))), ((a 27), .inl (cI, 96, .inl (ia K_late))), (o_S a), ((a 29), .inl (cI, 96, .inl (ia S_count))), ((a 30), .inl (cI, 96, .inl (ia S_early))), ((a 31), .inl (cI, 96, .inl (ia S_late))), (o_Z a), ((a 33), .inl (cI, 96, .inl (ia Z_count))), ((a 34), .inl (cI, 96, .inl (ia Z_early))), ((a 35), .inl (cI, 96, .inl (ia Z_late))), (o_V a), ((a 37), .inl (cI, 96, .inl (ia V_count))), ((a 38), .inl (cI, 96, .inl (ia V_early))), ((a 39), .inl (cI, 96, .inl (ia V_late))), (o_O a O_count), ((a 41), .inl (cJ, 48, .inr (.inl (la O_leading_1)))), ((a 42), .inl (cI, 48, .inl (ia O_gates))), (o_N a N_period N_width N_size), ((a 44), .inl (cI, 48, .inl (ia N_kind))), ((a 45), .inl (cI, 48, .inl (ia N_pins))), ((a 46), .inl (cI, 144, .inl (ia N_source))), ((a 47), .inl (cI, 144, .inl (ia N_wireEarly))), ((a 48), .inl (cI, 144, .inl (ia N_wireLate))), ((a 49), .inl (cI, 144, .inl (ia N_senses))), ((a 50), .inl (cI, 288, .inl (ia N_gateEarly))), ((a 51), .inl (cI, 288, .inl (ia N_gateLate))), ((a 52), .inl (cI, 96, .inl (ia N_startEarly))), ((a 53), .inl (cI, 96, .inl (ia N_startLate))), ((a 54), .inl (cI, 96, .inl (ia N_setups))), ((a 55), .inl (cI, 96, .inl (ia N_holds)))]) (va_runV (As := []) (rest := []) ⟨hx, hb, hml, hown, hts⟩ (c_GateOrder_leastOnCycle l D cI cJ cZ F a O_count O_leading N_period N_width N_size N_kind N_pins N_source r9 O_leading_1 H.size hcall) (cwV 0 hts (gd_V m455 m452 m453 m454 m4) rfl rfl rfl ⟨rfl, hc_GateOrder_leastOnCycle⟩ ⟨Nat.le_of_ble_eq_true rfl, Nat.le_of_ble_eq_true rfl⟩) (pc_V 38 2 [] hP hK hD hN [38, 39, 41, 42, 43, 44] rfl rfl rfl rfl rfl) rfl rfl hl.1 rfl (lv_room (Nat.le_of_ble_eq_true rfl)) d_T_analyse_9 ⟨Nat.le_refl 0, Nat.le_refl 0⟩) hP hD hS hA [38, 39, 41, 42, 43, 44] [0, 1, 2, 3, 4, 5, 6, 7, 8, 9, 10, 11, 12, 13, 14, 15, 16, 17, 18, 19, 20, 21, 22, 23, 24, 25, 26, 27, 28, 29, 30, 31, 32, 33, 34, 35, 36, 37, 40, 45, 46, 47, 48, 49, 50, 51, 52, 53] [0, 1, 2, 3, 4, 5, 6, 7, 8, 9, 10, 11, 12, 13, 14, 15, 16, 17, 18, 19, 20, 21, 22, 23, 24, 25, 26, 27, 28, 29, 30, 31, 32, 33, 34, 35, 36, 37, 48, 49, 38, 50, 51, 52, 53, 39, 40, 41, 42, 43, 44, 45, 46, 47] rfl rfl rfl (by decide) rfl rfl rfl (fun H locs hP hD hS => ?_)
  refine lv_ldc hx hb hown hk0 d_T_analyse_12 ?_
  obtain ⟨hg0, h⟩ := gr_e h
  refine zc_eq hx hb d_T_analyse_14 rfl hg0 (by decide) (fun hc => ?_) (fun hc => ?_)
  · replace h := if_t hc h
    refine lv_aload_n hx hb d_T_analyse_19 rfl (lv_at hl 0 rfl) ?_
    refine va_get (D := D) (ci := 0) (v := .ref (a 40)) (C := R_T) (T := F_T) (N := 7) hx hb hT in_T hown hK hP 0 rfl rfl 1 (by decide) (hT _ m410) (fun _ h9 => h9) rfl d_T_analyse_20 ?_
    obtain ⟨O_gates_2, O_count_3, hcall, h⟩ := ob2_e h
    refine ca_v (w2 := [(o_T a 0), (o_A a), (o_L a L_leastMoving L_leastFixed L_pathCount), ((a 3), .inl (cI, 96, .inl (ia L_least))), (o_P a P_start P_end P_endChange P_isCollected), (o_R a R_leastMoving R_leastFixed R_leastHold), ((a 8), .inl (cI, 64, .inl (ia R_setup))), ((a 9), .inl (cI, 64, .inl (ia R_hold))), (o_C a C_size), ((a 11), .inl (cZ, 96, .inl (ia C_needed))), ((a 12), .inl (cI, 770, .inl (ia C_elements))), ((a 13), .inl (cI, 770, .inl (ia C_parent))), ((a 14), .inl (cI, 770, .inl (ia C_length))), ((a 15), .inl (cI, 770, .inl (ia C_early))), ((a 16), .inl (cI, 770, .inl (ia C_late))), ((a 17), .inl (cI, 96, .inl (ia C_firstOf))), ((a 18), .inl (cI, 770, .inl (ia C_nextOf))), ((a 19), .inl (cI, 48, .inl (ia C_count))), ((a 20), .inl (cI, 384, .inl (ia C_last))), ((a 21), .inl (cI, 384, .inl (ia C_base))), ((a 22), .inl (cI, 384, .inl (ia C_wayEarly))), ((a 23), .inl (cI, 384, .inl (ia C_wayLate))), (o_K a), ((a 25), .inl (cI, 96, .inl (ia K_count))), ((a 26), .inl (cI, 96, .inl (ia K_early))), ((a 27), .inl (cI, 96, .inl (ia K_late))), (o_S a), ((a 29), .inl (cI, 96, .inl (ia S_count))), ((a 30), .inl (cI, 96, .inl (ia S_early))), ((a 31), .inl (cI, 96, .inl (ia S_late))), (o_Z a), ((a 33), .inl (cI, 96, .inl (ia Z_count))), ((a 34), .inl (cI, 96, .inl (ia Z_early))), ((a 35), .inl (cI, 96, .inl (ia Z_late))), (o_V a), ((a 37), .inl (cI, 96, .inl (ia V_count))), ((a 38), .inl (cI, 96, .inl (ia V_early))), ((a 39), .inl (cI, 96, .inl (ia V_late))), (o_O a O_count_3), ((a 41), .inl (cJ, 48, .inr (.inl (la O_leading_1)))), ((a 42), .inl (cI, 48, .inl (ia O_gates_2))), (o_N a N_period N_width N_size), ((a 44), .inl (cI, 48, .inl (ia N_kind))), ((a 45), .inl (cI, 48, .inl (ia N_pins))), ((a 46), .inl (cI, 144, .inl (ia N_source))), ((a 47), .inl (cI, 144, .inl (ia N_wireEarly))), ((a 48), .inl (cI, 144, .inl (ia N_wireLate))), ((a 49), .inl (cI, 144, .inl (ia N_senses))), ((a 50), .inl (cI, 288, .inl (ia N_gateEarly))), ((a 51), .inl (cI, 288, .inl (ia N_gateLate))), ((a 52), .inl (cI, 96, .inl (ia N_startEarly))), ((a 53), .inl (cI, 96, .inl (ia N_startLate))), ((a 54), .inl (cI, 96, .inl (ia N_setups))), ((a 55), .inl (cI, 96, .inl (ia N_holds)))]) (va_runV (As := []) (rest := []) ⟨hx, hb, hml, hown, hts⟩ (c_GateOrder_sort l D cI cJ cZ F a O_count O_leading_1 O_gates N_period N_width N_size N_kind O_gates_2 O_count_3 H.size hcall) (cwV 0 hts (gd_V m471 m468 m469 m470 m4) rfl rfl rfl ⟨rfl, hc_GateOrder_sort⟩ ⟨Nat.le_of_ble_eq_true rfl, Nat.le_of_ble_eq_true rfl⟩) (pc_V 38 2 [] hP hK hD hN [38, 39, 40, 41, 42] rfl rfl rfl rfl rfl) rfl rfl hl.1 rfl (lv_room (Nat.le_of_ble_eq_true rfl)) d_T_analyse_23 ⟨Nat.le_refl 0, Nat.le_refl 0⟩) hP hD hS hA [38, 39, 40, 41, 42] [0, 1, 2, 3, 4, 5, 6, 7, 8, 9, 10, 11, 12, 13, 14, 15, 16, 17, 18, 19, 20, 21, 22, 23, 24, 25, 26, 27, 28, 29, 30, 31, 32, 33, 34, 35, 36, 37, 43, 44, 45, 46, 47, 48, 49, 50, 51, 52, 53] [0, 1, 2, 3, 4, 5, 6, 7, 8, 9, 10, 11, 12, 13, 14, 15, 16, 17, 18, 19, 20, 21, 22, 23, 24, 25, 26, 27, 28, 29, 30, 31, 32, 33, 34, 35, 36, 37, 49, 50, 51, 52, 53, 38, 39, 40, 41, 42, 43, 44, 45, 46, 47, 48] rfl rfl rfl (by decide) rfl rfl rfl (fun H locs hP hD hS => ?_)
    refine lv_aload_n hx hb d_T_analyse_26 rfl (lv_at hl 0 rfl) ?_
    refine va_get (D := D) (ci := 0) (v := .ref (a 10)) (C := R_T) (T := F_T) (N := 7) hx hb hT in_T hown hK hP 0 rfl rfl 2 (by decide) (hT _ m411) (fun _ h9 => h9) rfl d_T_analyse_27 ?_
    obtain ⟨r30, C_needed_4, C_size_5, C_elements_6, C_parent_7, C_length_8, C_early_9, C_late_10, C_firstOf_11, C_nextOf_12, C_count_13, C_last_14, C_base_15, C_wayEarly_16, C_wayLate_17, K_count_18, K_early_19, K_late_20, hcall, h⟩ := ob18_e h
    refine ca_i (w2 := [(o_T a 0), (o_A a), (o_L a L_leastMoving L_leastFixed L_pathCount), ((a 3), .inl (cI, 96, .inl (ia L_least))), (o_P a P_start P_end P_endChange P_isCollected), (o_R a R_leastMoving R_leastFixed R_leastHold), ((a 8), .inl (cI, 64, .inl (ia R_setup))), ((a 9), .inl (cI, 64, .inl (ia R_hold))), (o_C a C_size_5), ((a 11), .inl (cZ, 96, .inl (ia C_needed_4))), ((a 12), .inl (cI, 770, .inl (ia C_elements_6))), ((a 13), .inl (cI, 770, .inl (ia C_parent_7))), ((a 14), .inl (cI, 770, .inl (ia C_length_8))), ((a 15), .inl (cI, 770, .inl (ia C_early_9))), ((a 16), .inl (cI, 770, .inl (ia C_late_10))), ((a 17), .inl (cI, 96, .inl (ia C_firstOf_11))), ((a 18), .inl (cI, 770, .inl (ia C_nextOf_12))), ((a 19), .inl (cI, 48, .inl (ia C_count_13))), ((a 20), .inl (cI, 384, .inl (ia C_last_14))), ((a 21), .inl (cI, 384, .inl (ia C_base_15))), ((a 22), .inl (cI, 384, .inl (ia C_wayEarly_16))), ((a 23), .inl (cI, 384, .inl (ia C_wayLate_17))), (o_K a), ((a 25), .inl (cI, 96, .inl (ia K_count_18))), ((a 26), .inl (cI, 96, .inl (ia K_early_19))), ((a 27), .inl (cI, 96, .inl (ia K_late_20))), (o_S a), ((a 29), .inl (cI, 96, .inl (ia S_count))), ((a 30), .inl (cI, 96, .inl (ia S_early))), ((a 31), .inl (cI, 96, .inl (ia S_late))), (o_Z a), ((a 33), .inl (cI, 96, .inl (ia Z_count))), ((a 34), .inl (cI, 96, .inl (ia Z_early))), ((a 35), .inl (cI, 96, .inl (ia Z_late))), (o_V a), ((a 37), .inl (cI, 96, .inl (ia V_count))), ((a 38), .inl (cI, 96, .inl (ia V_early))), ((a 39), .inl (cI, 96, .inl (ia V_late))), (o_O a O_count_3), ((a 41), .inl (cJ, 48, .inr (.inl (la O_leading_1)))), ((a 42), .inl (cI, 48, .inl (ia O_gates_2))), (o_N a N_period N_width N_size), ((a 44), .inl (cI, 48, .inl (ia N_kind))), ((a 45), .inl (cI, 48, .inl (ia N_pins))), ((a 46), .inl (cI, 144, .inl (ia N_source))), ((a 47), .inl (cI, 144, .inl (ia N_wireEarly))), ((a 48), .inl (cI, 144, .inl (ia N_wireLate))), ((a 49), .inl (cI, 144, .inl (ia N_senses))), ((a 50), .inl (cI, 288, .inl (ia N_gateEarly))), ((a 51), .inl (cI, 288, .inl (ia N_gateLate))), ((a 52), .inl (cI, 96, .inl (ia N_startEarly))), ((a 53), .inl (cI, 96, .inl (ia N_startLate))), ((a 54), .inl (cI, 96, .inl (ia N_setups))), ((a 55), .inl (cI, 96, .inl (ia N_holds)))]) (va_runV (As := []) (rest := []) ⟨hx, hb, hml, hown, hts⟩ (c_ClockWays_find l D cI cJ cZ F a C_size C_needed C_elements C_parent C_length C_early C_late C_firstOf C_nextOf C_count C_last C_base C_wayEarly C_wayLate K_count K_early K_late O_count_3 O_gates_2 N_period N_width N_size N_kind N_pins N_source N_wireEarly N_wireLate N_senses N_gateEarly N_gateLate r30 C_needed_4 C_size_5 C_elements_6 C_parent_7 C_length_8 C_early_9 C_late_10 C_firstOf_11 C_nextOf_12 C_count_13 C_last_14 C_base_15 C_wayEarly_16 C_wayLate_17 K_count_18 K_early_19 K_late_20 H.size hcall) (cwV 0 hts (gd_V m481 m478 m479 m480 m5) rfl rfl rfl ⟨rfl, hc_ClockWays_find⟩ ⟨Nat.le_of_ble_eq_true rfl, Nat.le_of_ble_eq_true rfl⟩) (pc_V 8 4 [] hP hK hD hN [8, 9, 10, 11, 12, 13, 14, 15, 16, 17, 18, 19, 20, 21, 22, 23, 24, 25, 38, 40, 41, 42, 43, 44, 45, 46, 47, 48, 49] rfl rfl rfl rfl rfl) rfl rfl hl.1 rfl (lv_room (Nat.le_of_ble_eq_true rfl)) d_T_analyse_30 ⟨Nat.le_refl 0, Nat.le_refl 0⟩) hP hD hS hA [8, 9, 10, 11, 12, 13, 14, 15, 16, 17, 18, 19, 20, 21, 22, 23, 24, 25, 38, 40, 41, 42, 43, 44, 45, 46, 47, 48, 49] [0, 1, 2, 3, 4, 5, 6, 7, 26, 27, 28, 29, 30, 31, 32, 33, 34, 35, 36, 37, 39, 50, 51, 52, 53] [0, 1, 2, 3, 4, 5, 6, 7, 25, 26, 27, 28, 29, 30, 31, 32, 33, 34, 35, 36, 37, 38, 39, 40, 41, 42, 8, 9, 10, 11, 12, 13, 14, 15, 16, 17, 18, 19, 43, 20, 44, 45, 46, 47, 48, 49, 50, 51, 52, 53, 21, 22, 23, 24] rfl rfl rfl (by decide) rfl rfl rfl (fun H locs hP hD hS => ?_)
    obtain ⟨hg0, h⟩ := gr_e h
    refine zi_ne hx hb d_T_analyse_33 rfl hg0 (fun hc => ?_) (fun hc => ?_)
    · replace h := if_f hc h
      refine lv_aload_n hx hb d_T_analyse_39 rfl (lv_at hl 0 rfl) ?_
      refine va_get (D := D) (ci := 0) (v := .ref (a 1)) (C := R_T) (T := F_T) (N := 7) hx hb hT in_T hown hK hP 0 rfl rfl 3 (by decide) (hT _ m412) (fun _ h9 => h9) rfl d_T_analyse_40 ?_
      obtain ⟨Z_count_21, Z_early_22, Z_late_23, V_count_24, V_early_25, V_late_26, hcall, h⟩ := ob6_e h
      refine ca_v (w2 := [(o_T a 0), (o_A a), (o_L a L_leastMoving L_leastFixed L_pathCount), ((a 3), .inl (cI, 96, .inl (ia L_least))), (o_P a P_start P_end P_endChange P_isCollected), (o_R a R_leastMoving R_leastFixed R_leastHold), ((a 8), .inl (cI, 64, .inl (ia R_setup))), ((a 9), .inl (cI, 64, .inl (ia R_hold))), (o_C a C_size_5), ((a 11), .inl (cZ, 96, .inl (ia C_needed_4))), ((a 12), .inl (cI, 770, .inl (ia C_elements_6))), ((a 13), .inl (cI, 770, .inl (ia C_parent_7))), ((a 14), .inl (cI, 770, .inl (ia C_length_8))), ((a 15), .inl (cI, 770, .inl (ia C_early_9))), ((a 16), .inl (cI, 770, .inl (ia C_late_10))), ((a 17), .inl (cI, 96, .inl (ia C_firstOf_11))), ((a 18), .inl (cI, 770, .inl (ia C_nextOf_12))), ((a 19), .inl (cI, 48, .inl (ia C_count_13))), ((a 20), .inl (cI, 384, .inl (ia C_last_14))), ((a 21), .inl (cI, 384, .inl (ia C_base_15))), ((a 22), .inl (cI, 384, .inl (ia C_wayEarly_16))), ((a 23), .inl (cI, 384, .inl (ia C_wayLate_17))), (o_K a), ((a 25), .inl (cI, 96, .inl (ia K_count_18))), ((a 26), .inl (cI, 96, .inl (ia K_early_19))), ((a 27), .inl (cI, 96, .inl (ia K_late_20))), (o_S a), ((a 29), .inl (cI, 96, .inl (ia S_count))), ((a 30), .inl (cI, 96, .inl (ia S_early))), ((a 31), .inl (cI, 96, .inl (ia S_late))), (o_Z a), ((a 33), .inl (cI, 96, .inl (ia Z_count_21))), ((a 34), .inl (cI, 96, .inl (ia Z_early_22))), ((a 35), .inl (cI, 96, .inl (ia Z_late_23))), (o_V a), ((a 37), .inl (cI, 96, .inl (ia V_count_24))), ((a 38), .inl (cI, 96, .inl (ia V_early_25))), ((a 39), .inl (cI, 96, .inl (ia V_late_26))), (o_O a O_count_3), ((a 41), .inl (cJ, 48, .inr (.inl (la O_leading_1)))), ((a 42), .inl (cI, 48, .inl (ia O_gates_2))), (o_N a N_period N_width N_size), ((a 44), .inl (cI, 48, .inl (ia N_kind))), ((a 45), .inl (cI, 48, .inl (ia N_pins))), ((a 46), .inl (cI, 144, .inl (ia N_source))), ((a 47), .inl (cI, 144, .inl (ia N_wireEarly))), ((a 48), .inl (cI, 144, .inl (ia N_wireLate))), ((a 49), .inl (cI, 144, .inl (ia N_senses))), ((a 50), .inl (cI, 288, .inl (ia N_gateEarly))), ((a 51), .inl (cI, 288, .inl (ia N_gateLate))), ((a 52), .inl (cI, 96, .inl (ia N_startEarly))), ((a 53), .inl (cI, 96, .inl (ia N_startLate))), ((a 54), .inl (cI, 96, .inl (ia N_setups))), ((a 55), .inl (cI, 96, .inl (ia N_holds)))]) (va_runV (As := []) (rest := []) ⟨hx, hb, hml, hown, hts⟩ (c_Arrivals_reckon l D cI cJ cZ F a C_size_5 C_count_13 C_base_15 C_wayEarly_16 C_wayLate_17 Z_count Z_early Z_late V_count V_early V_late O_count_3 O_gates_2 N_period N_width N_size N_kind N_pins N_source N_wireEarly N_wireLate N_senses N_gateEarly N_gateLate N_startEarly N_startLate Z_count_21 Z_early_22 Z_late_23 V_count_24 V_early_25 V_late_26 H.size hcall) (cwV 0 hts (gd_V m561 m558 m559 m560 m8) rfl rfl rfl ⟨rfl, hc_Arrivals_reckon⟩ ⟨Nat.le_of_ble_eq_true rfl, Nat.le_of_ble_eq_true rfl⟩) (pc_V 1 5 [] hP hK hD hN [1, 8, 17, 19, 20, 21, 30, 31, 32, 33, 34, 35, 36, 37, 38, 40, 41, 42, 43, 44, 45, 46, 47, 48, 49, 50, 51] rfl rfl rfl rfl rfl) rfl rfl hl.1 rfl (lv_room (Nat.le_of_ble_eq_true rfl)) d_T_analyse_43 ⟨Nat.le_refl 0, Nat.le_refl 0⟩) hP hD hS hA [1, 8, 17, 19, 20, 21, 30, 31, 32, 33, 34, 35, 36, 37, 38, 40, 41, 42, 43, 44, 45, 46, 47, 48, 49, 50, 51] [0, 2, 3, 4, 5, 6, 7, 9, 10, 11, 12, 13, 14, 15, 16, 18, 22, 23, 24, 25, 26, 27, 28, 29, 39, 52, 53] [0, 27, 1, 2, 3, 4, 5, 6, 28, 7, 8, 9, 10, 11, 12, 13, 14, 29, 15, 30, 31, 32, 16, 17, 18, 19, 20, 21, 22, 23, 33, 34, 35, 36, 37, 38, 39, 40, 41, 24, 42, 43, 44, 45, 46, 47, 48, 49, 50, 51, 52, 53, 25, 26] rfl rfl rfl (by decide) rfl rfl rfl (fun H locs hP hD hS => ?_)
      refine lv_aload_n hx hb d_T_analyse_46 rfl (lv_at hl 0 rfl) ?_
      refine va_get (D := D) (ci := 0) (v := .ref (a 2)) (C := R_T) (T := F_T) (N := 7) hx hb hT in_T hown hK hP 0 rfl rfl 4 (by decide) (hT _ m413) (fun _ h9 => h9) rfl d_T_analyse_47 ?_
      obtain ⟨L_least_27, L_leastMoving_28, L_leastFixed_29, L_pathCount_30, R_setup_31, R_hold_32, R_leastMoving_33, R_leastFixed_34, R_leastHold_35, S_count_36, S_early_37, S_late_38, hcall, h⟩ := ob12_e h
      refine ca_v (w2 := [(o_T a 0), (o_A a), (o_L a L_leastMoving_28 L_leastFixed_29 L_pathCount_30), ((a 3), .inl (cI, 96, .inl (ia L_least_27))), (o_P a P_start P_end P_endChange P_isCollected), (o_R a R_leastMoving_33 R_leastFixed_34 R_leastHold_35), ((a 8), .inl (cI, 64, .inl (ia R_setup_31))), ((a 9), .inl (cI, 64, .inl (ia R_hold_32))), (o_C a C_size_5), ((a 11), .inl (cZ, 96, .inl (ia C_needed_4))), ((a 12), .inl (cI, 770, .inl (ia C_elements_6))), ((a 13), .inl (cI, 770, .inl (ia C_parent_7))), ((a 14), .inl (cI, 770, .inl (ia C_length_8))), ((a 15), .inl (cI, 770, .inl (ia C_early_9))), ((a 16), .inl (cI, 770, .inl (ia C_late_10))), ((a 17), .inl (cI, 96, .inl (ia C_firstOf_11))), ((a 18), .inl (cI, 770, .inl (ia C_nextOf_12))), ((a 19), .inl (cI, 48, .inl (ia C_count_13))), ((a 20), .inl (cI, 384, .inl (ia C_last_14))), ((a 21), .inl (cI, 384, .inl (ia C_base_15))), ((a 22), .inl (cI, 384, .inl (ia C_wayEarly_16))), ((a 23), .inl (cI, 384, .inl (ia C_wayLate_17))), (o_K a), ((a 25), .inl (cI, 96, .inl (ia K_count_18))), ((a 26), .inl (cI, 96, .inl (ia K_early_19))), ((a 27), .inl (cI, 96, .inl (ia K_late_20))), (o_S a), ((a 29), .inl (cI, 96, .inl (ia S_count_36))), ((a 30), .inl (cI, 96, .inl (ia S_early_37))), ((a 31), .inl (cI, 96, .inl (ia S_late_38))), (o_Z a), ((a 33), .inl (cI, 96, .inl (ia Z_count_21))), ((a 34), .inl (cI, 96, .inl (ia Z_early_22))), ((a 35), .inl (cI, 96, .inl (ia Z_late_23))), (o_V a), ((a 37), .inl (cI, 96, .inl (ia V_count_24))), ((a 38), .inl (cI, 96, .inl (ia V_early_25))), ((a 39), .inl (cI, 96, .inl (ia V_late_26))), (o_O a O_count_3), ((a 41), .inl (cJ, 48, .inr (.inl (la O_leading_1)))), ((a 42), .inl (cI, 48, .inl (ia O_gates_2))), (o_N a N_period N_width N_size), ((a 44), .inl (cI, 48, .inl (ia N_kind))), ((a 45), .inl (cI, 48, .inl (ia N_pins))), ((a 46), .inl (cI, 144, .inl (ia N_source))), ((a 47), .inl (cI, 144, .inl (ia N_wireEarly))), ((a 48), .inl (cI, 144, .inl (ia N_wireLate))), ((a 49), .inl (cI, 144, .inl (ia N_senses))), ((a 50), .inl (cI, 288, .inl (ia N_gateEarly))), ((a 51), .inl (cI, 288, .inl (ia N_gateLate))), ((a 52), .inl (cI, 96, .inl (ia N_startEarly))), ((a 53), .inl (cI, 96, .inl (ia N_startLate))), ((a 54), .inl (cI, 96, .inl (ia N_setups))), ((a 55), .inl (cI, 96, .inl (ia N_holds)))]) (va_runV (As := []) (rest := []) ⟨hx, hb, hml, hown, hts⟩ (c_Slacks_reckon l D cI cJ cZ F a L_leastMoving L_leastFixed L_pathCount L_least R_leastMoving R_leastFixed R_leastHold R_setup R_hold C_size_5 C_parent_7 C_length_8 C_early_9 C_late_10 C_count_13 C_last_14 C_base_15 C_wayEarly_16 C_wayLate_17 S_count S_early S_late O_count_3 O_gates_2 N_period N_width N_size N_kind N_pins N_source N_wireEarly N_wireLate N_senses N_gateEarly N_gateLate N_startEarly N_startLate N_setups N_holds L_least_27 L_leastMoving_28 L_leastFixed_29 L_pathCount_30 R_setup_31 R_hold_32 R_leastMoving_33 R_leastFixed_34 R_leastHold_35 S_count_36 S_early_37 S_late_38 H.size hcall) (cwV 0 hts (gd_V m583 m580 m581 m582 m9) rfl rfl rfl ⟨rfl, hc_Slacks_reckon⟩ ⟨Nat.le_of_ble_eq_true rfl, Nat.le_of_ble_eq_true rfl⟩) (pc_V 2 7 [] hP hK hD hN [2, 3, 5, 6, 7, 8, 11, 12, 13, 14, 17, 18, 19, 20, 21, 26, 27, 28, 29, 38, 40, 41, 42, 43, 44, 45, 46, 47, 48, 49, 50, 51, 52, 53] rfl rfl rfl rfl rfl) rfl rfl hl.1 rfl (lv_room (Nat.le_of_ble_eq_true rfl)) d_T_analyse_50 ⟨Nat.le_refl 0, Nat.le_refl 0⟩) hP hD hS hA [2, 3, 5, 6, 7, 8, 11, 12, 13, 14, 17, 18, 19, 20, 21, 26, 27, 28, 29, 38, 40, 41, 42, 43, 44, 45, 46, 47, 48, 49, 50, 51, 52, 53] [0, 1, 4, 9, 10, 15, 16, 22, 23, 24, 25, 30, 31, 32, 33, 34, 35, 36, 37, 39] [0, 1, 20, 21, 2, 22, 23, 24, 25, 3, 4, 26, 27, 28, 29, 5, 6, 30, 31, 32, 33, 34, 7, 8, 9, 10, 35, 36, 37, 38, 11, 12, 13, 14, 15, 16, 17, 18, 39, 19, 40, 41, 42, 43, 44, 45, 46, 47, 48, 49, 50, 51, 52, 53] rfl rfl rfl (by decide) rfl rfl rfl (fun H locs hP hD hS => ?_)
      refine lv_aload_n hx hb d_T_analyse_53 rfl (lv_at hl 0 rfl) ?_
      refine va_get (D := D) (ci := 0) (v := .ref (a 4)) (C := R_T) (T := F_T) (N := 7) hx hb hT in_T hown hK hP 0 rfl rfl 5 (by decide) (hT _ m414) (fun _ h9 => h9) rfl d_T_analyse_54 ?_
      obtain ⟨P_isCollected_39, hcall, h⟩ := ob1_e h
      refine ca_v (w2 := [(o_T a 0), (o_A a), (o_L a L_leastMoving_28 L_leastFixed_29 L_pathCount_30), ((a 3), .inl (cI, 96, .inl (ia L_least_27))), (o_P a P_start P_end P_endChange P_isCollected_39), (o_R a R_leastMoving_33 R_leastFixed_34 R_leastHold_35), ((a 8), .inl (cI, 64, .inl (ia R_setup_31))), ((a 9), .inl (cI, 64, .inl (ia R_hold_32))), (o_C a C_size_5), ((a 11), .inl (cZ, 96, .inl (ia C_needed_4))), ((a 12), .inl (cI, 770, .inl (ia C_elements_6))), ((a 13), .inl (cI, 770, .inl (ia C_parent_7))), ((a 14), .inl (cI, 770, .inl (ia C_length_8))), ((a 15), .inl (cI, 770, .inl (ia C_early_9))), ((a 16), .inl (cI, 770, .inl (ia C_late_10))), ((a 17), .inl (cI, 96, .inl (ia C_firstOf_11))), ((a 18), .inl (cI, 770, .inl (ia C_nextOf_12))), ((a 19), .inl (cI, 48, .inl (ia C_count_13))), ((a 20), .inl (cI, 384, .inl (ia C_last_14))), ((a 21), .inl (cI, 384, .inl (ia C_base_15))), ((a 22), .inl (cI, 384, .inl (ia C_wayEarly_16))), ((a 23), .inl (cI, 384, .inl (ia C_wayLate_17))), (o_K a), ((a 25), .inl (cI, 96, .inl (ia K_count_18))), ((a 26), .inl (cI, 96, .inl (ia K_early_19))), ((a 27), .inl (cI, 96, .inl (ia K_late_20))), (o_S a), ((a 29), .inl (cI, 96, .inl (ia S_count_36))), ((a 30), .inl (cI, 96, .inl (ia S_early_37))), ((a 31), .inl (cI, 96, .inl (ia S_late_38))), (o_Z a), ((a 33), .inl (cI, 96, .inl (ia Z_count_21))), ((a 34), .inl (cI, 96, .inl (ia Z_early_22))), ((a 35), .inl (cI, 96, .inl (ia Z_late_23))), (o_V a), ((a 37), .inl (cI, 96, .inl (ia V_count_24))), ((a 38), .inl (cI, 96, .inl (ia V_early_25))), ((a 39), .inl (cI, 96, .inl (ia V_late_26))), (o_O a O_count_3), ((a 41), .inl (cJ, 48, .inr (.inl (la O_leading_1)))), ((a 42), .inl (cI, 48, .inl (ia O_gates_2))), (o_N a N_period N_width N_size), ((a 44), .inl (cI, 48, .inl (ia N_kind))), ((a 45), .inl (cI, 48, .inl (ia N_pins))), ((a 46), .inl (cI, 144, .inl (ia N_source))), ((a 47), .inl (cI, 144, .inl (ia N_wireEarly))), ((a 48), .inl (cI, 144, .inl (ia N_wireLate))), ((a 49), .inl (cI, 144, .inl (ia N_senses))), ((a 50), .inl (cI, 288, .inl (ia N_gateEarly))), ((a 51), .inl (cI, 288, .inl (ia N_gateLate))), ((a 52), .inl (cI, 96, .inl (ia N_startEarly))), ((a 53), .inl (cI, 96, .inl (ia N_startLate))), ((a 54), .inl (cI, 96, .inl (ia N_setups))), ((a 55), .inl (cI, 96, .inl (ia N_holds)))]) (va_runV (As := []) (rest := []) ⟨hx, hb, hml, hown, hts⟩ (c_WorstPaths_forget l D cI cJ cZ F a P_start P_end P_endChange P_isCollected P_isCollected_39 H.size hcall) (cwV 0 hts (gd_V m639 m636 m637 m638 m10) rfl rfl rfl ⟨rfl, hc_WorstPaths_forget⟩ ⟨Nat.le_of_ble_eq_true rfl, Nat.le_of_ble_eq_true rfl⟩) (pc_V 4 8 [] hP hK hD hN [4] rfl rfl rfl rfl rfl) rfl rfl hl.1 rfl (lv_room (Nat.le_of_ble_eq_true rfl)) d_T_analyse_57 ⟨Nat.le_refl 0, Nat.le_refl 0⟩) hP hD hS hA [4] [0, 1, 2, 3, 5, 6, 7, 8, 9, 10, 11, 12, 13, 14, 15, 16, 17, 18, 19, 20, 21, 22, 23, 24, 25, 26, 27, 28, 29, 30, 31, 32, 33, 34, 35, 36, 37, 38, 39, 40, 41, 42, 43, 44, 45, 46, 47, 48, 49, 50, 51, 52, 53] [0, 1, 2, 3, 53, 4, 5, 6, 7, 8, 9, 10, 11, 12, 13, 14, 15, 16, 17, 18, 19, 20, 21, 22, 23, 24, 25, 26, 27, 28, 29, 30, 31, 32, 33, 34, 35, 36, 37, 38, 39, 40, 41, 42, 43, 44, 45, 46, 47, 48, 49, 50, 51, 52] rfl rfl rfl (by decide) rfl rfl rfl (fun H locs hP hD hS => ?_)
      refine lv_aload_n hx hb d_T_analyse_60 rfl (lv_at hl 0 rfl) ?_
      refine zv_iconst hx hb d_T_analyse_61 ?_
      refine va_put (D := D) (ci := 0) (v := .int (iI 1)) (ty := .boolean) (C := R_T) (T := F_T) (N := 7) hx hb hT in_T ty_T ty_T_ok n_T hown hK hP hD hS 0 rfl rfl 6 (by decide) (hT _ m415) (fun _ h9 => h9) rfl (by decide +kernel) rfl rfl (Nat.le_of_ble_eq_true rfl) d_T_analyse_62 (fun H locs hP hD hS => ?_)
      have hP : va_P D vwCl [(o_T a 1), (o_A a), (o_L a L_leastMoving_28 L_leastFixed_29 L_pathCount_30), ((a 3), .inl (cI, 96, .inl (ia L_least_27))), (o_P a P_start P_end P_endChange P_isCollected_39), (o_R a R_leastMoving_33 R_leastFixed_34 R_leastHold_35), ((a 8), .inl (cI, 64, .inl (ia R_setup_31))), ((a 9), .inl (cI, 64, .inl (ia R_hold_32))), (o_C a C_size_5), ((a 11), .inl (cZ, 96, .inl (ia C_needed_4))), ((a 12), .inl (cI, 770, .inl (ia C_elements_6))), ((a 13), .inl (cI, 770, .inl (ia C_parent_7))), ((a 14), .inl (cI, 770, .inl (ia C_length_8))), ((a 15), .inl (cI, 770, .inl (ia C_early_9))), ((a 16), .inl (cI, 770, .inl (ia C_late_10))), ((a 17), .inl (cI, 96, .inl (ia C_firstOf_11))), ((a 18), .inl (cI, 770, .inl (ia C_nextOf_12))), ((a 19), .inl (cI, 48, .inl (ia C_count_13))), ((a 20), .inl (cI, 384, .inl (ia C_last_14))), ((a 21), .inl (cI, 384, .inl (ia C_base_15))), ((a 22), .inl (cI, 384, .inl (ia C_wayEarly_16))), ((a 23), .inl (cI, 384, .inl (ia C_wayLate_17))), (o_K a), ((a 25), .inl (cI, 96, .inl (ia K_count_18))), ((a 26), .inl (cI, 96, .inl (ia K_early_19))), ((a 27), .inl (cI, 96, .inl (ia K_late_20))), (o_S a), ((a 29), .inl (cI, 96, .inl (ia S_count_36))), ((a 30), .inl (cI, 96, .inl (ia S_early_37))), ((a 31), .inl (cI, 96, .inl (ia S_late_38))), (o_Z a), ((a 33), .inl (cI, 96, .inl (ia Z_count_21))), ((a 34), .inl (cI, 96, .inl (ia Z_early_22))), ((a 35), .inl (cI, 96, .inl (ia Z_late_23))), (o_V a), ((a 37), .inl (cI, 96, .inl (ia V_count_24))), ((a 38), .inl (cI, 96, .inl (ia V_early_25))), ((a 39), .inl (cI, 96, .inl (ia V_late_26))), (o_O a O_count_3), ((a 41), .inl (cJ, 48, .inr (.inl (la O_leading_1)))), ((a 42), .inl (cI, 48, .inl (ia O_gates_2))), (o_N a N_period N_width N_size), ((a 44), .inl (cI, 48, .inl (ia N_kind))), ((a 45), .inl (cI, 48, .inl (ia N_pins))), ((a 46), .inl (cI, 144, .inl (ia N_source))), ((a 47), .inl (cI, 144, .inl (ia N_wireEarly))), ((a 48), .inl (cI, 144, .inl (ia N_wireLate))), ((a 49), .inl (cI, 144, .inl (ia N_senses))), ((a 50), .inl (cI, 288, .inl (ia N_gateEarly))), ((a 51), .inl (cI, 288, .inl (ia N_gateLate))), ((a 52), .inl (cI, 96, .inl (ia N_startEarly))), ((a 53), .inl (cI, 96, .inl (ia N_startLate))), ((a 54), .inl (cI, 96, .inl (ia N_setups))), ((a 55), .inl (cI, 96, .inl (ia N_holds)))] H := hP
      have hD : va_D A [(o_T a 1), (o_A a), (o_L a L_leastMoving_28 L_leastFixed_29 L_pathCount_30), ((a 3), .inl (cI, 96, .inl (ia L_least_27))), (o_P a P_start P_end P_endChange P_isCollected_39), (o_R a R_leastMoving_33 R_leastFixed_34 R_leastHold_35), ((a 8), .inl (cI, 64, .inl (ia R_setup_31))), ((a 9), .inl (cI, 64, .inl (ia R_hold_32))), (o_C a C_size_5), ((a 11), .inl (cZ, 96, .inl (ia C_needed_4))), ((a 12), .inl (cI, 770, .inl (ia C_elements_6))), ((a 13), .inl (cI, 770, .inl (ia C_parent_7))), ((a 14), .inl (cI, 770, .inl (ia C_length_8))), ((a 15), .inl (cI, 770, .inl (ia C_early_9))), ((a 16), .inl (cI, 770, .inl (ia C_late_10))), ((a 17), .inl (cI, 96, .inl (ia C_firstOf_11))), ((a 18), .inl (cI, 770, .inl (ia C_nextOf_12))), ((a 19), .inl (cI, 48, .inl (ia C_count_13))), ((a 20), .inl (cI, 384, .inl (ia C_last_14))), ((a 21), .inl (cI, 384, .inl (ia C_base_15))), ((a 22), .inl (cI, 384, .inl (ia C_wayEarly_16))), ((a 23), .inl (cI, 384, .inl (ia C_wayLate_17))), (o_K a), ((a 25), .inl (cI, 96, .inl (ia K_count_18))), ((a 26), .inl (cI, 96, .inl (ia K_early_19))), ((a 27), .inl (cI, 96, .inl (ia K_late_20))), (o_S a), ((a 29), .inl (cI, 96, .inl (ia S_count_36))), ((a 30), .inl (cI, 96, .inl (ia S_early_37))), ((a 31), .inl (cI, 96, .inl (ia S_late_38))), (o_Z a), ((a 33), .inl (cI, 96, .inl (ia Z_count_21))), ((a 34), .inl (cI, 96, .inl (ia Z_early_22))), ((a 35), .inl (cI, 96, .inl (ia Z_late_23))), (o_V a), ((a 37), .inl (cI, 96, .inl (ia V_count_24))), ((a 38), .inl (cI, 96, .inl (ia V_early_25))), ((a 39), .inl (cI, 96, .inl (ia V_late_26))), (o_O a O_count_3), ((a 41), .inl (cJ, 48, .inr (.inl (la O_leading_1)))), ((a 42), .inl (cI, 48, .inl (ia O_gates_2))), (o_N a N_period N_width N_size), ((a 44), .inl (cI, 48, .inl (ia N_kind))), ((a 45), .inl (cI, 48, .inl (ia N_pins))), ((a 46), .inl (cI, 144, .inl (ia N_source))), ((a 47), .inl (cI, 144, .inl (ia N_wireEarly))), ((a 48), .inl (cI, 144, .inl (ia N_wireLate))), ((a 49), .inl (cI, 144, .inl (ia N_senses))), ((a 50), .inl (cI, 288, .inl (ia N_gateEarly))), ((a 51), .inl (cI, 288, .inl (ia N_gateLate))), ((a 52), .inl (cI, 96, .inl (ia N_startEarly))), ((a 53), .inl (cI, 96, .inl (ia N_startLate))), ((a 54), .inl (cI, 96, .inl (ia N_setups))), ((a 55), .inl (cI, 96, .inl (ia N_holds)))] := hD
      refine lv_aload_n hx hb d_T_analyse_65 rfl (lv_at hl 0 rfl) ?_
      refine va_get (D := D) (ci := 0) (v := .ref (a 2)) (C := R_T) (T := F_T) (N := 7) hx hb hT in_T hown hK hP 0 rfl rfl 4 (by decide) (hT _ m413) (fun _ h9 => h9) rfl d_T_analyse_66 ?_
      obtain ⟨r69, hcall, h⟩ := ob1_e h
      refine ro_i (va_Run.run (va_runV (As := []) (rest := []) ⟨hx, hb, hml, hown, hts⟩ (c_Slacks_countEnds l D cI cJ cZ F a L_leastMoving_28 L_leastFixed_29 L_pathCount_30 L_least_27 N_period N_width N_size r69 H.size hcall) (cwV 0 hts (gd_V m643 m640 m641 m642 m9) rfl rfl rfl ⟨rfl, hc_Slacks_countEnds⟩ ⟨Nat.le_of_ble_eq_true rfl, Nat.le_of_ble_eq_true rfl⟩) (pc_V 2 7 [] hP hK hD hN [2, 3, 41] rfl rfl rfl rfl rfl) rfl rfl hl.1 rfl (lv_room (Nat.le_of_ble_eq_true rfl)) d_T_analyse_69 ⟨Nat.le_refl 0, Nat.le_refl 0⟩)) (W.eq (g2 := F0 m 72 ls [.int (iI r69)]) rfl ?_)
      obtain ⟨e1, e2, e3, e4, e5, e6, e7, e8, e9, e10, e11, e12, e13, e14, e15, e16, e17, e18, e19, e20, e21, e22, e23, e24, e25, e26, e27, e28, e29, e30, e31, e32, e33, e34, e35, e36, e37, e38, e39, e40, e41⟩ := so41 h
      rw [hQ, e1, e2, e3, e4, e5, e6, e7, e8, e9, e10, e11, e12, e13, e14, e15, e16, e17, e18, e19, e20, e21, e22, e23, e24, e25, e26, e27, e28, e29, e30, e31, e32, e33, e34, e35, e36, e37, e38, e39, e40, e41]; rw [hAe] at hD hS; exact W.iret hx hb hr (fun t ht hW => ⟨⟨_, (), rfl, rfl, by rw [ht]; exact hP, va_K.moved hW.alike hK, hD⟩, hS.F ht⟩) hS.2.2 d_T_analyse_72
    · replace h := if_t hc h
      refine lv_bipush (v := iI (-2)) hx hb d_T_analyse_36 (by decide) ?_
      obtain ⟨e1, e2, e3, e4, e5, e6, e7, e8, e9, e10, e11, e12, e13, e14, e15, e16, e17, e18, e19, e20, e21, e22, e23, e24, e25, e26, e27, e28, e29, e30, e31, e32, e33, e34, e35, e36, e37, e38, e39, e40, e41⟩ := so41 h
      rw [hQ, e1, e2, e3, e4, e5, e6, e7, e8, e9, e10, e11, e12, e13, e14, e15, e16, e17, e18, e19, e20, e21, e22, e23, e24, e25, e26, e27, e28, e29, e30, e31, e32, e33, e34, e35, e36, e37, e38, e39, e40, e41]; rw [hAe] at hD hS; exact W.iret hx hb hr (fun t ht hW => ⟨⟨_, (), rfl, rfl, by rw [ht]; exact hP, va_K.moved hW.alike hK, hD⟩, hS.F ht⟩) hS.2.2 d_T_analyse_38
  · replace h := if_f hc h
    refine zv_iconst hx hb d_T_analyse_17 ?_
    obtain ⟨e1, e2, e3, e4, e5, e6, e7, e8, e9, e10, e11, e12, e13, e14, e15, e16, e17, e18, e19, e20, e21, e22, e23, e24, e25, e26, e27, e28, e29, e30, e31, e32, e33, e34, e35, e36, e37, e38, e39, e40, e41⟩ := so41 h
    rw [hQ, e1, e2, e3, e4, e5, e6, e7, e8, e9, e10, e11, e12, e13, e14, e15, e16, e17, e18, e19, e20, e21, e22, e23, e24, e25, e26, e27, e28, e29, e30, e31, e32, e33, e34, e35, e36, e37, e38, e39, e40, e41]; rw [hAe] at hD hS; exact W.iret hx hb hr (fun t ht hW => ⟨⟨_, (), rfl, rfl, by rw [ht]; exact hP, va_K.moved hW.alike hK, hD⟩, hS.F ht⟩) hS.2.2 d_T_analyse_18
abbrev rm_T_cycle : Room := { frames := 3, cells := 0, slots := 0, locals := 68 }
set_option maxHeartbeats 4000000 in
set_option maxRecDepth 100000 in
theorem c_T_cycle (l : Launch) (D : va_G) (cI cJ cZ : ClassId) (F : Nat) (a : Nat → Nat) (T_analysed : Int) (O_count : Int) (O_leading : Int → Int64) (N_period : Int) (N_width : Int) (N_size : Int) (N_kind : Int → Int) (N_pins : Int → Int) (N_source : Int → Int) (r : Int) (z_O_leading : Int → Int64) (sz : Nat) (h : f_T_cycle F O_leading N_size N_kind N_pins N_source = some (r, z_O_leading)) : Met l y_T_cycle w_T_cycle rm_T_cycle (PC D [(cI, .int), (cJ, .long), (cZ, .boolean)] [.ref (a 0)] ([(o_T a T_analysed), (o_O a O_count), ((a 41), .inl (cJ, 48, .inr (.inl (la O_leading)))), (o_N a N_period N_width N_size), ((a 44), .inl (cI, 48, .inl (ia N_kind))), ((a 45), .inl (cI, 48, .inl (ia N_pins))), ((a 46), .inl (cI, 144, .inl (ia N_source)))]) sz) (QI D [(cI, .int), (cJ, .long), (cZ, .boolean)] ([(o_T a T_analysed), (o_O a O_count), ((a 41), .inl (cJ, 48, .inr (.inl (la O_leading)))), (o_N a N_period N_width N_size), ((a 44), .inl (cI, 48, .inl (ia N_kind))), ((a 45), .inl (cI, 48, .inl (ia N_pins))), ((a 46), .inl (cI, 144, .inl (ia N_source)))]) sz r ([(o_T a T_analysed), (o_O a O_count), ((a 41), .inl (cJ, 48, .inr (.inl (la z_O_leading)))), (o_N a N_period N_width N_size), ((a 44), .inl (cI, 48, .inl (ia N_kind))), ((a 45), .inl (cI, 48, .inl (ia N_pins))), ((a 46), .inl (cI, 144, .inl (ia N_source)))])) 0 0 (va_A ([(o_T a T_analysed), (o_O a O_count), ((a 41), .inl (cJ, 48, .inr (.inl (la O_leading)))), (o_N a N_period N_width N_size), ((a 44), .inl (cI, 48, .inl (ia N_kind))), ((a 45), .inl (cI, 48, .inl (ia N_pins))), ((a 46), .inl (cI, 144, .inl (ia N_source)))]) sz) := by
  refine Met.ofW (cc := prog_1_method_12_code) (maxL := 1) (ret := (Option.some Jvm.ClassFile.FieldType.int)) (by decide) rfl ?_
  intro p e s m args below meth c s₁ B hml hv
  obtain ⟨rfl, hsz, hP, hK, hD0, hN⟩ := hv
  have hx := B.exec
  have hb := B.bytes
  have hr := B.returns
  have hts := atoms_spec (ws := w_T_cycle) B.pre
  have hown : s.vm.findClass R_T = some m.cls := findClass_of_methodNamed B.named
  have hlocks := B.notSynchronized
  subst hsz
  have hD := hD0.self (sz := s.heap.size)
  obtain ⟨A, hAe⟩ : ∃ A, A = va_A ([(o_T a T_analysed), (o_O a O_count), ((a 41), .inl (cJ, 48, .inr (.inl (la O_leading)))), (o_N a N_period N_width N_size), ((a 44), .inl (cI, 48, .inl (ia N_kind))), ((a 45), .inl (cI, 48, .inl (ia N_pins))), ((a 46), .inl (cI, 144, .inl (ia N_source)))]) s.heap.size := ⟨_, rfl⟩
  rw [← hAe] at hD
  have hA : ∀ q : Nat, s.heap.size ≤ q → A q := fun q h => by rw [hAe]; exact Or.inr h
  have hS : va_S A s.heap s.heap [] := va_S.rf
  have hl := lv_entry ([.ref (a 0)]) (n := 1) (Nat.le_of_ble_eq_true rfl)
  rw [lg_entry_eq]
  generalize (lg_sl ([.ref (a 0)]) ++ List.replicate (1 - (lg_sl ([.ref (a 0)])).length) Slot.unset).toArray = ls at hl ⊢
  have hl : lv_has ls 1 [(0, .ref (a 0))] := hl
  generalize (List.toArray ([.ref (a 0)] : List Value)) = args at hts ⊢
  have hT : ∀ w ∈ Tg, w.before args s = true := fun w h => hts w (List.mem_cons_of_mem _ h)
  obtain ⟨Q, hQ⟩ : ∃ Q, Q = MQ below (QI D [(cI, .int), (cJ, .long), (cZ, .boolean)] ([(o_T a T_analysed), (o_O a O_count), ((a 41), .inl (cJ, 48, .inr (.inl (la O_leading)))), (o_N a N_period N_width N_size), ((a 44), .inl (cI, 48, .inl (ia N_kind))), ((a 45), .inl (cI, 48, .inl (ia N_pins))), ((a 46), .inl (cI, 144, .inl (ia N_source)))]) s.heap.size r ([(o_T a T_analysed), (o_O a O_count), ((a 41), .inl (cJ, 48, .inr (.inl (la z_O_leading)))), (o_N a N_period N_width N_size), ((a 44), .inl (cI, 48, .inl (ia N_kind))), ((a 45), .inl (cI, 48, .inl (ia N_pins))), ((a 46), .inl (cI, 144, .inl (ia N_source)))])) args s 0 0 (va_A ([(o_T a T_analysed), (o_O a O_count), ((a 41), .inl (cJ, 48, .inr (.inl (la O_leading)))), (o_N a N_period N_width N_size), ((a 44), .inl (cI, 48, .inl (ia N_kind))), ((a 45), .inl (cI, 48, .inl (ia N_pins))), ((a 46), .inl (cI, 144, .inl (ia N_source)))]) s.heap.size) := ⟨_, rfl⟩
  rw [← hQ]
  suffices hW : ∀ (H : Heap) (locs : List Loc), va_P D vwCl ([(o_T a T_analysed), (o_O a O_count), ((a 41), .inl (cJ, 48, .inr (.inl (la O_leading)))), (o_N a N_period N_width N_size), ((a 44), .inl (cI, 48, .inl (ia N_kind))), ((a 45), .inl (cI, 48, .inl (ia N_pins))), ((a 46), .inl (cI, 144, .inl (ia N_source)))]) H → va_D A ([(o_T a T_analysed), (o_O a O_count), ((a 41), .inl (cJ, 48, .inr (.inl (la O_leading)))), (o_N a N_period N_width N_size), ((a 44), .inl (cI, 48, .inl (ia N_kind))), ((a 45), .inl (cI, 48, .inl (ia N_pins))), ((a 46), .inl (cI, 144, .inl (ia N_source)))]) → va_S A s.heap H locs → W p l e (headSpec w_T_cycle rm_T_cycle).room s m args below meth c H locs 0 0 Q (F0 m 0 ls []) from hW s.heap [] hP hD hS
  clear hP hD hS
  intro H locs hP hD hS
  rw [f_T_cycle] at h
  refine lv_aload_n hx hb d_T_cycle_0 rfl (lv_at hl 0 rfl) ?_
  refine va_get (D := D) (ci := 0) (v := .ref (a 40)) (C := R_T) (T := F_T) (N := 7) hx hb hT in_T hown hK hP 0 rfl rfl 1 (by decide) (hT _ m410) (fun _ h9 => h9) rfl d_T_cycle_1 ?_
  obtain ⟨r4, O_leading_1, hcall, h⟩ := ob2_e h
  refine ca_i (w2 := [(o_T a T_analysed), (o_O a O_count), ((a 41), .inl (cJ, 48, .inr (.inl (la O_leading_1)))), (o_N a N_period N_width N_size), ((a 44), .inl (cI, 48, .inl (ia N_kind))), ((a 45), .inl (cI, 48, .inl (ia N_pins))), ((a 46), .inl (cI, 144, .inl (ia N_source)))]) (va_runV (As := []) (rest := []) ⟨hx, hb, hml, hown, hts⟩ (c_GateOrder_leastOnCycle l D cI cJ cZ F a O_count O_leading N_period N_width N_size N_kind N_pins N_source r4 O_leading_1 H.size hcall) (cwV 0 hts (gd_V m455 m452 m453 m454 m4) rfl rfl rfl ⟨rfl, hc_GateOrder_leastOnCycle⟩ ⟨Nat.le_of_ble_eq_true rfl, Nat.le_of_ble_eq_true rfl⟩) (pc_V 1 2 [] hP hK hD hN [1, 2, 3, 4, 5, 6] rfl rfl rfl rfl rfl) rfl rfl hl.1 rfl (lv_room (Nat.le_of_ble_eq_true rfl)) d_T_cycle_4 ⟨Nat.le_refl 0, Nat.le_refl 0⟩) hP hD hS hA [1, 2, 3, 4, 5, 6] [0] [0, 1, 2, 3, 4, 5, 6] rfl rfl rfl (by decide) rfl rfl rfl (fun H locs hP hD hS => ?_)
  obtain ⟨e1, e2⟩ := so2 h
  rw [hQ, e1, e2]; rw [hAe] at hD hS; exact W.iret hx hb hr (fun t ht hW => ⟨⟨_, (), rfl, rfl, by rw [ht]; exact hP, va_K.moved hW.alike hK, hD⟩, hS.F ht⟩) hS.2.2 d_T_cycle_7
abbrev rm_T_needAnalysis : Room := { frames := 6, cells := 0, slots := 0, locals := 110 }
set_option maxHeartbeats 4000000 in
set_option maxRecDepth 100000 in
theorem c_T_needAnalysis (l : Launch) (D : va_G) (cI cJ cZ : ClassId) (F : Nat) (a : Nat → Nat) (T_analysed : Int) (sz : Nat) (h : f_T_needAnalysis F T_analysed = some ()) : Met l y_T_needAnalysis w_T_needAnalysis rm_T_needAnalysis (PC D [(cI, .int), (cJ, .long), (cZ, .boolean)] [.ref (a 0)] ([(o_T a T_analysed)]) sz) (QcReadV) 0 0 (fun _ => False) := by
  refine Met.ofW (cc := prog_1_method_23_code) (maxL := 1) (ret := (Option.none : Option Jvm.ClassFile.FieldType)) (by decide) rfl ?_
  intro p e s m args below meth c s₁ B hml hv
  obtain ⟨rfl, hsz, hP, hK, hD0, hN⟩ := hv
  have hx := B.exec
  have hb := B.bytes
  have hr := B.returns
  have hts := atoms_spec (ws := w_T_needAnalysis) B.pre
  have hown : s.vm.findClass R_T = some m.cls := findClass_of_methodNamed B.named
  have hlocks := B.notSynchronized
  subst hsz
  have hl := lv_entry ([.ref (a 0)]) (n := 1) (Nat.le_of_ble_eq_true rfl)
  rw [lg_entry_eq]
  generalize (lg_sl ([.ref (a 0)]) ++ List.replicate (1 - (lg_sl ([.ref (a 0)])).length) Slot.unset).toArray = ls at hl ⊢
  have hl : lv_has ls 1 [(0, .ref (a 0))] := hl
  generalize (List.toArray ([.ref (a 0)] : List Value)) = args at hts ⊢
  have hT : ∀ w ∈ Tg, w.before args s = true := fun w h => hts w (List.mem_cons_of_mem _ h)
  obtain ⟨Q, hQ⟩ : ∃ Q, Q = MQ below (QcReadV) args s 0 0 (fun _ => False) := ⟨_, rfl⟩
  rw [← hQ]
  rw [f_T_needAnalysis] at h
  refine lv_aload_n hx hb d_T_needAnalysis_0 rfl (lv_at hl 0 rfl) ?_
  refine va_get (D := D) (ci := 0) (v := .int (iI T_analysed)) (C := R_T) (T := F_T) (N := 7) hx hb hT in_T hown hK hP 0 rfl rfl 6 (by decide) (hT _ m415) (fun _ h9 => h9) rfl d_T_needAnalysis_1 ?_
  obtain ⟨hg0, h⟩ := gr_e h
  refine zi_ne hx hb d_T_needAnalysis_4 rfl hg0 (fun hc => ?_) (fun hc => ?_)
  · replace h := if_f hc h
    rw [hQ]; exact W.vret hx hb hr (fun t ht hW => ⟨rfl, ht⟩) (fun q h => nomatch h) d_T_needAnalysis_15
  · replace h := if_t hc h
    exact no_some h
abbrev rm_T_ways : Room := { frames := 7, cells := 0, slots := 0, locals := 130 }
set_option maxHeartbeats 4000000 in
set_option maxRecDepth 100000 in
theorem c_T_ways (l : Launch) (D : va_G) (cI cJ cZ : ClassId) (F : Nat) (a : Nat → Nat) (T_analysed : Int) (C_size : Int) (C_count : Int → Int) (N_period : Int) (N_width : Int) (N_size : Int) (N_kind : Int → Int) (x1 : Int) (r : Int) (sz : Nat) (h : f_T_ways F T_analysed C_count N_size N_kind x1 = some (r)) : Met l y_T_ways w_T_ways rm_T_ways (PC D [(cI, .int), (cJ, .long), (cZ, .boolean)] [.ref (a 0), .int (iI x1)] ([(o_T a T_analysed), (o_C a C_size), ((a 19), .inl (cI, 48, .inl (ia C_count))), (o_N a N_period N_width N_size), ((a 44), .inl (cI, 48, .inl (ia N_kind)))]) sz) (QcRead (iI r)) 0 0 (fun _ => False) := by
  refine Met.ofW (cc := prog_1_method_13_code) (maxL := 2) (ret := (Option.some Jvm.ClassFile.FieldType.int)) (by decide) rfl ?_
  intro p e s m args below meth c s₁ B hml hv
  obtain ⟨rfl, hsz, hP, hK, hD0, hN⟩ := hv
  have hx := B.exec
  have hb := B.bytes
  have hr := B.returns
  have hts := atoms_spec (ws := w_T_ways) B.pre
  have hown : s.vm.findClass R_T = some m.cls := findClass_of_methodNamed B.named
  have hlocks := B.notSynchronized
  subst hsz
  have hl := lv_entry ([.ref (a 0), .int (iI x1)]) (n := 2) (Nat.le_of_ble_eq_true rfl)
  rw [lg_entry_eq]
  generalize (lg_sl ([.ref (a 0), .int (iI x1)]) ++ List.replicate (2 - (lg_sl ([.ref (a 0), .int (iI x1)])).length) Slot.unset).toArray = ls at hl ⊢
  have hl : lv_has ls 2 [(0, .ref (a 0)), (1, .int (iI x1))] := hl
  generalize (List.toArray ([.ref (a 0), .int (iI x1)] : List Value)) = args at hts ⊢
  have hT : ∀ w ∈ Tg, w.before args s = true := fun w h => hts w (List.mem_cons_of_mem _ h)
  obtain ⟨Q, hQ⟩ : ∃ Q, Q = MQ below (QcRead (iI r)) args s 0 0 (fun _ => False) := ⟨_, rfl⟩
  rw [← hQ]
  rw [f_T_ways] at h
  refine lv_aload_n hx hb d_T_ways_0 rfl (lv_at hl 0 rfl) ?_
  obtain ⟨hcall, h⟩ := ob0_e h
  refine ro_v (va_Run.run (va_runV (As := []) (rest := []) ⟨hx, hb, hml, hown, hts⟩ (c_T_needAnalysis l D cI cJ cZ F a T_analysed s.heap.size hcall) (cwV 0 hts (gd_V m813 m810 m812 sl_T_needAnalysis m1) rfl rfl rfl ⟨rfl, hc_T_needAnalysis⟩ ⟨Nat.le_of_ble_eq_true rfl, Nat.le_of_ble_eq_true rfl⟩) (pc_V 0 0 [] hP hK hD0 hN [0] rfl rfl rfl rfl rfl) rfl rfl hl.1 rfl (lv_room (Nat.le_of_ble_eq_true rfl)) d_T_ways_1 ⟨Nat.le_refl 0, Nat.le_refl 0⟩)) (W.eq (g2 := F0 m 4 ls []) rfl ?_)
  refine lv_aload_n hx hb d_T_ways_4 rfl (lv_at hl 0 rfl) ?_
  refine va_get (D := D) (ci := 0) (v := .ref (a 43)) (C := R_T) (T := F_T) (N := 7) hx hb hT in_T hown hK hP 0 rfl rfl 0 (by decide) (hT _ m409) (fun _ h9 => h9) rfl d_T_ways_5 ?_
  refine lv_iload_n hx hb d_T_ways_8 rfl (lv_at hl 1 rfl) ?_
  obtain ⟨r9, hcall, h⟩ := ob1_e h
  refine ro_i (va_Run.run (va_runV (As := [.int (iI x1)]) (rest := []) ⟨hx, hb, hml, hown, hts⟩ (c_Net_isNode l D cI cJ cZ F a N_period N_width N_size x1 r9 s.heap.size hcall) (cwV 1 hts (gd_V m570 m829 m568 m569 m2) rfl rfl rfl ⟨rfl, hc_Net_isNode⟩ ⟨Nat.le_of_ble_eq_true rfl, Nat.le_of_ble_eq_true rfl⟩) (pc_V 3 1 [.int (iI x1)] hP hK hD0 hN [3] rfl rfl rfl rfl rfl) rfl rfl hl.1 rfl (lv_room (Nat.le_of_ble_eq_true rfl)) d_T_ways_9 ⟨Nat.le_refl 0, Nat.le_refl 0⟩)) (W.eq (g2 := F0 m 12 ls [.int (iI r9)]) rfl ?_)
  have hj28 : ∀  (ls : Array Slot), lv_has ls 2 [] → f_T_ways_j28 F = some (r) → W p l e (headSpec w_T_ways rm_T_ways).room s m args below meth c s.heap [] 0 0 Q (F0 m 28 ls []) := by
    intro  ls hl h
    rw [f_T_ways_j28] at h
    exact no_some h
  obtain ⟨hg0, h⟩ := gr_e h
  refine zi_eq hx hb d_T_ways_12 rfl hg0 (fun hc => ?_) (fun hc => ?_)
  · replace h := if_t hc h
    exact hj28  ls (lv_sub hl [] rfl) h
  · replace h := if_f hc h
    refine lv_aload_n hx hb d_T_ways_15 rfl (lv_at hl 0 rfl) ?_
    refine va_get (D := D) (ci := 0) (v := .ref (a 43)) (C := R_T) (T := F_T) (N := 7) hx hb hT in_T hown hK hP 0 rfl rfl 0 (by decide) (hT _ m409) (fun _ h9 => h9) rfl d_T_ways_16 ?_
    refine va_get (D := D) (ci := 1) (v := .ref (a 44)) (C := R_Net) (T := F_Net) (N := 15) hx hb hT in_Net hown hK hP 3 rfl rfl 3 (by decide) (hT _ m57) (fun _ h9 => h9) rfl d_T_ways_19 ?_
    refine lv_iload_n hx hb d_T_ways_22 rfl (lv_at hl 1 rfl) ?_
    obtain ⟨hin, h⟩ := gi_e h
    refine zv_iald hx hb hK hP 4 0 rfl rfl (Nat.le_of_ble_eq_true rfl) hin d_T_ways_23 ?_
    refine zv_iconst hx hb d_T_ways_24 ?_
    obtain ⟨hg0, h⟩ := gr_e h
    refine zc_eq hx hb d_T_ways_25 rfl hg0 (by decide) (fun hc => ?_) (fun hc => ?_)
    · replace h := if_t hc h
      refine lv_aload_n hx hb d_T_ways_36 rfl (lv_at hl 0 rfl) ?_
      refine va_get (D := D) (ci := 0) (v := .ref (a 10)) (C := R_T) (T := F_T) (N := 7) hx hb hT in_T hown hK hP 0 rfl rfl 2 (by decide) (hT _ m411) (fun _ h9 => h9) rfl d_T_ways_37 ?_
      refine va_get (D := D) (ci := 4) (v := .ref (a 19)) (C := R_ClockWays) (T := F_ClockWays) (N := 17) hx hb hT in_ClockWays hown hK hP 1 rfl rfl 12 (by decide) (hT _ m211) (fun _ h9 => h9) rfl d_T_ways_40 ?_
      refine lv_iload_n hx hb d_T_ways_43 rfl (lv_at hl 1 rfl) ?_
      obtain ⟨hin, h⟩ := gi_e h
      refine zv_iald hx hb hK hP 2 0 rfl rfl (Nat.le_of_ble_eq_true rfl) hin d_T_ways_44 ?_
      have e1 := so1 h
      rw [hQ, e1]; exact W.iret hx hb hr (fun t ht hW => ⟨rfl, ht⟩) (fun q h => nomatch h) d_T_ways_45
    · replace h := if_f hc h
      exact hj28  ls (lv_sub hl [] rfl) h
abbrev rm_Arrivals_timeOf : Room := { frames := 0, cells := 0, slots := 0, locals := 0 }
set_option maxHeartbeats 4000000 in
set_option maxRecDepth 100000 in
theorem c_Arrivals_timeOf (l : Launch) (D : va_G) (cI cJ cZ : ClassId) (F : Nat) (a : Nat → Nat) (aX aX_count aX_early aX_late : Nat) (X_count : Int → Int) (X_early : Int → Int) (X_late : Int → Int) (x1 : Int) (x2 : Int) (r : Int) (sz : Nat) (h : f_Arrivals_timeOf F X_count X_early X_late x1 x2 = some (r)) : Met l y_Arrivals_timeOf w_Arrivals_timeOf rm_Arrivals_timeOf (PC D [(cI, .int), (cJ, .long), (cZ, .boolean)] [.ref aX, .int (iI x1), .int (iI x2)] ([(o_X aX aX_count aX_early aX_late (a 43) (a 40)), (aX_count, .inl (cI, 96, .inl (ia X_count))), (aX_early, .inl (cI, 96, .inl (ia X_early))), (aX_late, .inl (cI, 96, .inl (ia X_late)))]) sz) (QcRead (iI r)) 0 0 (fun _ => False) := by
  refine Met.ofW (cc := prog_2_method_5_code) (maxL := 3) (ret := (Option.some Jvm.ClassFile.FieldType.int)) (by decide) rfl ?_
  intro p e s m args below meth c s₁ B hml hv
  obtain ⟨rfl, hsz, hP, hK, hD0, hN⟩ := hv
  have hx := B.exec
  have hb := B.bytes
  have hr := B.returns
  have hts := atoms_spec (ws := w_Arrivals_timeOf) B.pre
  have hown : s.vm.findClass R_Arrivals = some m.cls := findClass_of_methodNamed B.named
  have hlocks := B.notSynchronized
  subst hsz
  have hl := lv_entry ([.ref aX, .int (iI x1), .int (iI x2)]) (n := 3) (Nat.le_of_ble_eq_true rfl)
  rw [lg_entry_eq]
  generalize (lg_sl ([.ref aX, .int (iI x1), .int (iI x2)]) ++ List.replicate (3 - (lg_sl ([.ref aX, .int (iI x1), .int (iI x2)])).length) Slot.unset).toArray = ls at hl ⊢
  have hl : lv_has ls 3 [(0, .ref aX), (1, .int (iI x1)), (2, .int (iI x2))] := hl
  generalize (List.toArray ([.ref aX, .int (iI x1), .int (iI x2)] : List Value)) = args at hts ⊢
  have hT : ∀ w ∈ Tg, w.before args s = true := fun w h => hts w (List.mem_cons_of_mem _ h)
  obtain ⟨Q, hQ⟩ : ∃ Q, Q = MQ below (QcRead (iI r)) args s 0 0 (fun _ => False) := ⟨_, rfl⟩
  rw [← hQ]
  have hk0 := (show (Cond.constant "PathTiming$Arrivals" 64 (iI (-2147483648))).before args s = true from by rw [show iI (-2147483648) = ((-2147483648) : Int32) from by decide]; exact hT _ m845)
  rw [f_Arrivals_timeOf] at h
  refine lv_aload_n hx hb d_Arrivals_timeOf_0 rfl (lv_at hl 0 rfl) ?_
  refine va_get (D := D) (ci := 3) (v := .ref aX_count) (C := R_Spread) (T := F_Spread) (N := 5) hx hb hT in_Spread hown hK hP 0 rfl rfl 2 (by decide) (hT _ m172) (fun _ h9 => h9) rfl d_Arrivals_timeOf_1 ?_
  refine lv_iload_n hx hb d_Arrivals_timeOf_4 rfl (lv_at hl 1 rfl) ?_
  obtain ⟨hin, h⟩ := gi_e h
  refine zv_iald hx hb hK hP 1 0 rfl rfl (Nat.le_of_ble_eq_true rfl) hin d_Arrivals_timeOf_5 ?_
  obtain ⟨hg0, h⟩ := gr_e h
  refine zi_ne hx hb d_Arrivals_timeOf_6 rfl hg0 (fun hc => ?_) (fun hc => ?_)
  · replace h := if_f hc h
    refine lv_iload_n hx hb d_Arrivals_timeOf_12 rfl (lv_at hl 2 rfl) ?_
    obtain ⟨hg0, h⟩ := gr_e h
    refine zi_eq hx hb d_Arrivals_timeOf_13 rfl hg0 (fun hc => ?_) (fun hc => ?_)
    · replace h := if_t hc h
      refine lv_aload_n hx hb d_Arrivals_timeOf_25 rfl (lv_at hl 0 rfl) ?_
      refine va_get (D := D) (ci := 3) (v := .ref aX_early) (C := R_Spread) (T := F_Spread) (N := 5) hx hb hT in_Spread hown hK hP 0 rfl rfl 3 (by decide) (hT _ m177) (fun _ h9 => h9) rfl d_Arrivals_timeOf_26 ?_
      refine lv_iload_n hx hb d_Arrivals_timeOf_29 rfl (lv_at hl 1 rfl) ?_
      obtain ⟨hin, h⟩ := gi_e h
      refine zv_iald hx hb hK hP 2 0 rfl rfl (Nat.le_of_ble_eq_true rfl) hin d_Arrivals_timeOf_30 ?_
      have e1 := so1 h
      rw [hQ, e1]; exact W.iret hx hb hr (fun t ht hW => ⟨rfl, ht⟩) (fun q h => nomatch h) d_Arrivals_timeOf_31
    · replace h := if_f hc h
      refine lv_aload_n hx hb d_Arrivals_timeOf_16 rfl (lv_at hl 0 rfl) ?_
      refine va_get (D := D) (ci := 3) (v := .ref aX_late) (C := R_Spread) (T := F_Spread) (N := 5) hx hb hT in_Spread hown hK hP 0 rfl rfl 4 (by decide) (hT _ m180) (fun _ h9 => h9) rfl d_Arrivals_timeOf_17 ?_
      refine lv_iload_n hx hb d_Arrivals_timeOf_20 rfl (lv_at hl 1 rfl) ?_
      obtain ⟨hin, h⟩ := gi_e h
      refine zv_iald hx hb hK hP 3 0 rfl rfl (Nat.le_of_ble_eq_true rfl) hin d_Arrivals_timeOf_21 ?_
      refine lv_goto hx hb d_Arrivals_timeOf_22 rfl ?_
      have e1 := so1 h
      rw [hQ, e1]; exact W.iret hx hb hr (fun t ht hW => ⟨rfl, ht⟩) (fun q h => nomatch h) d_Arrivals_timeOf_31
  · replace h := if_t hc h
    refine lv_ldc hx hb hown hk0 d_Arrivals_timeOf_9 ?_
    have e1 := so1 h
    rw [hQ, e1]; exact W.iret hx hb hr (fun t ht hW => ⟨rfl, ht⟩) (fun q h => nomatch h) d_Arrivals_timeOf_11
abbrev rm_Arrivals_timeAt : Room := { frames := 3, cells := 0, slots := 0, locals := 64 }
set_option maxHeartbeats 4000000 in
set_option maxRecDepth 100000 in
theorem c_Arrivals_timeAt (l : Launch) (D : va_G) (cI cJ cZ : ClassId) (F : Nat) (a : Nat → Nat) (Z_count : Int → Int) (Z_early : Int → Int) (Z_late : Int → Int) (V_count : Int → Int) (V_early : Int → Int) (V_late : Int → Int) (N_period : Int) (N_width : Int) (N_size : Int) (N_kind : Int → Int) (N_source : Int → Int) (N_wireEarly : Int → Int) (N_wireLate : Int → Int) (x1 : Int) (x2 : Int) (x3 : Int) (x4 : Int) (r : Int) (sz : Nat) (h : f_Arrivals_timeAt F Z_count Z_early Z_late V_count V_early V_late N_size N_kind N_source N_wireEarly N_wireLate x1 x2 x3 x4 = some (r)) : Met l y_Arrivals_timeAt w_Arrivals_timeAt rm_Arrivals_timeAt (PC D [(cI, .int), (cJ, .long), (cZ, .boolean)] [.ref (a 1), .int (iI x1), .int (iI x2), .int (iI x3), .int (iI x4)] ([(o_A a), (o_Z a), ((a 33), .inl (cI, 96, .inl (ia Z_count))), ((a 34), .inl (cI, 96, .inl (ia Z_early))), ((a 35), .inl (cI, 96, .inl (ia Z_late))), (o_V a), ((a 37), .inl (cI, 96, .inl (ia V_count))), ((a 38), .inl (cI, 96, .inl (ia V_early))), ((a 39), .inl (cI, 96, .inl (ia V_late))), (o_N a N_period N_width N_size), ((a 44), .inl (cI, 48, .inl (ia N_kind))), ((a 46), .inl (cI, 144, .inl (ia N_source))), ((a 47), .inl (cI, 144, .inl (ia N_wireEarly))), ((a 48), .inl (cI, 144, .inl (ia N_wireLate)))]) sz) (QcRead (iI r)) 0 0 (fun _ => False) := by
  refine Met.ofW (cc := prog_2_method_3_code) (maxL := 8) (ret := (Option.some Jvm.ClassFile.FieldType.int)) (by decide) rfl ?_
  intro p e s m args below meth c s₁ B hml hv
  obtain ⟨rfl, hsz, hP, hK, hD0, hN⟩ := hv
  have hx := B.exec
  have hb := B.bytes
  have hr := B.returns
  have hts := atoms_spec (ws := w_Arrivals_timeAt) B.pre
  have hown : s.vm.findClass R_Arrivals = some m.cls := findClass_of_methodNamed B.named
  have hlocks := B.notSynchronized
  subst hsz
  have hl := lv_entry ([.ref (a 1), .int (iI x1), .int (iI x2), .int (iI x3), .int (iI x4)]) (n := 8) (Nat.le_of_ble_eq_true rfl)
  rw [lg_entry_eq]
  generalize (lg_sl ([.ref (a 1), .int (iI x1), .int (iI x2), .int (iI x3), .int (iI x4)]) ++ List.replicate (8 - (lg_sl ([.ref (a 1), .int (iI x1), .int (iI x2), .int (iI x3), .int (iI x4)])).length) Slot.unset).toArray = ls at hl ⊢
  have hl : lv_has ls 8 [(0, .ref (a 1)), (1, .int (iI x1)), (2, .int (iI x2)), (3, .int (iI x3)), (4, .int (iI x4))] := hl
  generalize (List.toArray ([.ref (a 1), .int (iI x1), .int (iI x2), .int (iI x3), .int (iI x4)] : List Value)) = args at hts ⊢
  have hT : ∀ w ∈ Tg, w.before args s = true := fun w h => hts w (List.mem_cons_of_mem _ h)
  obtain ⟨Q, hQ⟩ : ∃ Q, Q = MQ below (QcRead (iI r)) args s 0 0 (fun _ => False) := ⟨_, rfl⟩
  rw [← hQ]
  have hk0 := (show (Cond.constant "PathTiming$Arrivals" 64 (iI (-2147483648))).before args s = true from by rw [show iI (-2147483648) = ((-2147483648) : Int32) from by decide]; exact hT _ m845)
  rw [f_Arrivals_timeAt] at h
  refine lv_iload_n hx hb d_Arrivals_timeAt_0 rfl (lv_at hl 3 rfl) ?_
  obtain ⟨hg0, h⟩ := gr_e h
  refine zi_ne hx hb d_Arrivals_timeAt_1 rfl hg0 (fun hc => ?_) (fun hc => ?_)
  · replace h := if_f hc h
    refine lv_aload_n hx hb d_Arrivals_timeAt_11 rfl (lv_at hl 0 rfl) ?_
    refine va_get (D := D) (ci := 5) (v := .ref (a 36)) (C := R_Arrivals) (T := F_Arrivals) (N := 4) hx hb hT in_Arrivals hown hK hP 0 rfl rfl 3 (by decide) (hT _ m301) (fun _ h9 => h9) rfl d_Arrivals_timeAt_12 ?_
    refine lv_astore (lv' := [(5, .ref (a 36)), (0, .ref (a 1)), (1, .int (iI x1)), (2, .int (iI x2)), (3, .int (iI x3)), (4, .int (iI x4))]) hx hb d_Arrivals_timeAt_15 hl (by decide) rfl (fun ls hl => ?_)
    refine lv_aload_n hx hb d_Arrivals_timeAt_17 rfl (lv_at hl 1 rfl) ?_
    refine va_get (D := D) (ci := 5) (v := .ref (a 43)) (C := R_Arrivals) (T := F_Arrivals) (N := 4) hx hb hT in_Arrivals hown hK hP 0 rfl rfl 0 (by decide) (hT _ m298) (fun _ h9 => h9) rfl d_Arrivals_timeAt_18 ?_
    refine lv_iload_n hx hb d_Arrivals_timeAt_21 rfl (lv_at hl 2 rfl) ?_
    obtain ⟨r22, hcall, h⟩ := ob1_e h
    refine ro_i (va_Run.run (va_runV (As := [.int (iI x1)]) (rest := []) ⟨hx, hb, hml, hown, hts⟩ (c_Net_isEnd l D cI cJ cZ F a N_period N_width N_size N_kind x1 r22 s.heap.size hcall) (cwV 1 hts (gd_V m608 m841 m606 m607 m2) rfl rfl rfl ⟨rfl, hc_Net_isEnd⟩ ⟨Nat.le_of_ble_eq_true rfl, Nat.le_of_ble_eq_true rfl⟩) (pc_V 9 1 [.int (iI x1)] hP hK hD0 hN [9, 10] rfl rfl rfl rfl rfl) rfl rfl hl.1 rfl (lv_room (Nat.le_of_ble_eq_true rfl)) d_Arrivals_timeAt_22 ⟨Nat.le_refl 0, Nat.le_refl 0⟩)) (W.eq (g2 := F0 m 25 ls [.int (iI r22)]) rfl ?_)
    obtain ⟨hg0, h⟩ := gr_e h
    refine zi_ne hx hb d_Arrivals_timeAt_25 rfl hg0 (fun hc => ?_) (fun hc => ?_)
    · replace h := if_f hc h
      refine lv_iload_n hx hb d_Arrivals_timeAt_41 rfl (lv_at hl 2 rfl) ?_
      refine zv_iconst hx hb d_Arrivals_timeAt_42 ?_
      refine zv_imul hx hb d_Arrivals_timeAt_43 ?_
      refine zv_iconst hx hb d_Arrivals_timeAt_44 ?_
      refine zv_iadd hx hb d_Arrivals_timeAt_45 ?_
      refine zv_top (fun v6 hv => ?_)
      replace h := bd_e hv h
      refine lv_istore (lv' := [(6, .int (iI v6)), (5, .ref (a 36)), (0, .ref (a 1)), (1, .int (iI x1)), (2, .int (iI x2)), (3, .int (iI x3)), (4, .int (iI x4))]) hx hb d_Arrivals_timeAt_46 hl (by decide) rfl (fun ls hl => ?_)
      refine lv_aload_n hx hb d_Arrivals_timeAt_48 rfl (lv_at hl 2 rfl) ?_
      refine va_get (D := D) (ci := 5) (v := .ref (a 43)) (C := R_Arrivals) (T := F_Arrivals) (N := 4) hx hb hT in_Arrivals hown hK hP 0 rfl rfl 0 (by decide) (hT _ m298) (fun _ h9 => h9) rfl d_Arrivals_timeAt_49 ?_
      refine va_get (D := D) (ci := 1) (v := .ref (a 46)) (C := R_Net) (T := F_Net) (N := 15) hx hb hT in_Net hown hK hP 9 rfl rfl 5 (by decide) (hT _ m65) (fun _ h9 => h9) rfl d_Arrivals_timeAt_52 ?_
      refine lv_iload hx hb d_Arrivals_timeAt_55 (lv_at hl 0 rfl) ?_
      obtain ⟨hin, h⟩ := gi_e h
      refine zv_iald hx hb hK hP 11 0 rfl rfl (Nat.le_of_ble_eq_true rfl) hin d_Arrivals_timeAt_57 ?_
      obtain ⟨hg0, h⟩ := gr_e h
      refine zi_ge hx hb d_Arrivals_timeAt_58 rfl hg0 (fun hc => ?_) (fun hc => ?_)
      · replace h := if_t hc h
        refine lv_aload hx hb d_Arrivals_timeAt_64 (lv_at hl 1 rfl) ?_
        refine zv_iconst hx hb d_Arrivals_timeAt_66 ?_
        refine lv_aload_n hx hb d_Arrivals_timeAt_67 rfl (lv_at hl 2 rfl) ?_
        refine va_get (D := D) (ci := 5) (v := .ref (a 43)) (C := R_Arrivals) (T := F_Arrivals) (N := 4) hx hb hT in_Arrivals hown hK hP 0 rfl rfl 0 (by decide) (hT _ m298) (fun _ h9 => h9) rfl d_Arrivals_timeAt_68 ?_
        refine va_get (D := D) (ci := 1) (v := .ref (a 46)) (C := R_Net) (T := F_Net) (N := 15) hx hb hT in_Net hown hK hP 9 rfl rfl 5 (by decide) (hT _ m65) (fun _ h9 => h9) rfl d_Arrivals_timeAt_71 ?_
        refine lv_iload hx hb d_Arrivals_timeAt_74 (lv_at hl 0 rfl) ?_
        obtain ⟨hin, h⟩ := gi_e h
        refine zv_iald hx hb hK hP 11 0 rfl rfl (Nat.le_of_ble_eq_true rfl) hin d_Arrivals_timeAt_76 ?_
        refine zv_imul hx hb d_Arrivals_timeAt_77 ?_
        refine lv_iload_n hx hb d_Arrivals_timeAt_78 rfl (lv_at hl 4 rfl) ?_
        refine zv_iadd hx hb d_Arrivals_timeAt_79 ?_
        refine lv_iload hx hb d_Arrivals_timeAt_80 (lv_at hl 6 rfl) ?_
        obtain ⟨r82, hcall, h⟩ := ob1_e h
        refine ro_i (va_Run.run (va_runS (As := [.ref (a 36), .int (iI ((2 * (N_source v6)) + x2)), .int (iI x4)]) (rest := []) ⟨hx, hb, hml, hown, hts⟩ (c_Arrivals_timeOf l D cI cJ cZ F a (a 36) (a 37) (a 38) (a 39) V_count V_early V_late ((2 * (N_source v6)) + x2) x4 r82 s.heap.size hcall) (cwS 3 hts (gd_S m844 m842 m843 m8) rfl rfl rfl ⟨rfl, hc_Arrivals_timeOf⟩ ⟨Nat.le_of_ble_eq_true rfl, Nat.le_of_ble_eq_true rfl⟩) (pc_S [.ref (a 36), .int (iI ((2 * (N_source v6)) + x2)), .int (iI x4)] hP hK hD0 hN [5, 6, 7, 8] rfl rfl rfl) rfl rfl hl.1 rfl (lv_room (Nat.le_of_ble_eq_true rfl)) d_Arrivals_timeAt_82 ⟨Nat.le_refl 0, Nat.le_refl 0⟩)) (W.eq (g2 := F0 m 85 ls [.int (iI r82)]) rfl ?_)
        refine lv_istore (lv' := [(7, .int (iI r82)), (6, .int (iI v6)), (5, .ref (a 36)), (0, .ref (a 1)), (1, .int (iI x1)), (2, .int (iI x2)), (3, .int (iI x3)), (4, .int (iI x4))]) hx hb d_Arrivals_timeAt_85 hl (by decide) rfl (fun ls hl => ?_)
        refine lv_iload hx hb d_Arrivals_timeAt_87 (lv_at hl 0 rfl) ?_
        refine lv_ldc hx hb hown hk0 d_Arrivals_timeAt_89 ?_
        obtain ⟨hg0, h⟩ := gr_e h
        refine zc_ne hx hb d_Arrivals_timeAt_91 rfl hg0 (by decide) (fun hc => ?_) (fun hc => ?_)
        · replace h := if_f hc h
          refine lv_iload hx hb d_Arrivals_timeAt_97 (lv_at hl 0 rfl) ?_
          refine lv_iload hx hb d_Arrivals_timeAt_99 (lv_at hl 7 rfl) ?_
          have hj127 : ∀ (q1 : Int) (ls : Array Slot), lv_has ls 8 [] → f_Arrivals_timeAt_j127 F r82 q1 = some (r) → W p l e (headSpec w_Arrivals_timeAt rm_Arrivals_timeAt).room s m args below meth c s.heap [] 0 0 Q (F0 m 127 ls [.int (iI q1), .int (iI r82)]) := by
            intro q1 ls hl h
            rw [f_Arrivals_timeAt_j127] at h
            refine zv_iadd hx hb d_Arrivals_timeAt_127 ?_
            have e1 := so1 h
            rw [hQ, e1]; exact W.iret hx hb hr (fun t ht hW => ⟨rfl, ht⟩) (fun q h => nomatch h) d_Arrivals_timeAt_128
          obtain ⟨hg0, h⟩ := gr_e h
          refine zi_eq hx hb d_Arrivals_timeAt_101 rfl hg0 (fun hc => ?_) (fun hc => ?_)
          · replace h := if_t hc h
            refine lv_aload_n hx hb d_Arrivals_timeAt_117 rfl (lv_at hl 3 rfl) ?_
            refine va_get (D := D) (ci := 5) (v := .ref (a 43)) (C := R_Arrivals) (T := F_Arrivals) (N := 4) hx hb hT in_Arrivals hown hK hP 0 rfl rfl 0 (by decide) (hT _ m298) (fun _ h9 => h9) rfl d_Arrivals_timeAt_118 ?_
            refine va_get (D := D) (ci := 1) (v := .ref (a 47)) (C := R_Net) (T := F_Net) (N := 15) hx hb hT in_Net hown hK hP 9 rfl rfl 6 (by decide) (hT _ m72) (fun _ h9 => h9) rfl d_Arrivals_timeAt_121 ?_
            refine lv_iload hx hb d_Arrivals_timeAt_124 (lv_at hl 1 rfl) ?_
            obtain ⟨hin, h⟩ := gi_e h
            refine zv_iald hx hb hK hP 12 0 rfl rfl (Nat.le_of_ble_eq_true rfl) hin d_Arrivals_timeAt_126 ?_
            exact hj127 (N_wireEarly v6) ls (lv_sub hl [] rfl) h
          · replace h := if_f hc h
            refine lv_aload_n hx hb d_Arrivals_timeAt_104 rfl (lv_at hl 3 rfl) ?_
            refine va_get (D := D) (ci := 5) (v := .ref (a 43)) (C := R_Arrivals) (T := F_Arrivals) (N := 4) hx hb hT in_Arrivals hown hK hP 0 rfl rfl 0 (by decide) (hT _ m298) (fun _ h9 => h9) rfl d_Arrivals_timeAt_105 ?_
            refine va_get (D := D) (ci := 1) (v := .ref (a 48)) (C := R_Net) (T := F_Net) (N := 15) hx hb hT in_Net hown hK hP 9 rfl rfl 7 (by decide) (hT _ m77) (fun _ h9 => h9) rfl d_Arrivals_timeAt_108 ?_
            refine lv_iload hx hb d_Arrivals_timeAt_111 (lv_at hl 1 rfl) ?_
            obtain ⟨hin, h⟩ := gi_e h
            refine zv_iald hx hb hK hP 13 0 rfl rfl (Nat.le_of_ble_eq_true rfl) hin d_Arrivals_timeAt_113 ?_
            refine lv_goto hx hb d_Arrivals_timeAt_114 rfl ?_
            exact hj127 (N_wireLate v6) ls (lv_sub hl [] rfl) h
        · replace h := if_t hc h
          refine lv_ldc hx hb hown hk0 d_Arrivals_timeAt_94 ?_
          have e1 := so1 h
          rw [hQ, e1]; exact W.iret hx hb hr (fun t ht hW => ⟨rfl, ht⟩) (fun q h => nomatch h) d_Arrivals_timeAt_96
      · replace h := if_f hc h
        refine lv_ldc hx hb hown hk0 d_Arrivals_timeAt_61 ?_
        have e1 := so1 h
        rw [hQ, e1]; exact W.iret hx hb hr (fun t ht hW => ⟨rfl, ht⟩) (fun q h => nomatch h) d_Arrivals_timeAt_63
    · replace h := if_t hc h
      refine lv_aload hx hb d_Arrivals_timeAt_28 (lv_at hl 0 rfl) ?_
      refine zv_iconst hx hb d_Arrivals_timeAt_30 ?_
      refine lv_iload_n hx hb d_Arrivals_timeAt_31 rfl (lv_at hl 2 rfl) ?_
      refine zv_imul hx hb d_Arrivals_timeAt_32 ?_
      refine lv_iload_n hx hb d_Arrivals_timeAt_33 rfl (lv_at hl 3 rfl) ?_
      refine zv_iadd hx hb d_Arrivals_timeAt_34 ?_
      refine lv_iload hx hb d_Arrivals_timeAt_35 (lv_at hl 5 rfl) ?_
      obtain ⟨r37, hcall, h⟩ := ob1_e h
      refine ro_i (va_Run.run (va_runS (As := [.ref (a 36), .int (iI ((2 * x1) + x2)), .int (iI x4)]) (rest := []) ⟨hx, hb, hml, hown, hts⟩ (c_Arrivals_timeOf l D cI cJ cZ F a (a 36) (a 37) (a 38) (a 39) V_count V_early V_late ((2 * x1) + x2) x4 r37 s.heap.size hcall) (cwS 3 hts (gd_S m844 m842 m843 m8) rfl rfl rfl ⟨rfl, hc_Arrivals_timeOf⟩ ⟨Nat.le_of_ble_eq_true rfl, Nat.le_of_ble_eq_true rfl⟩) (pc_S [.ref (a 36), .int (iI ((2 * x1) + x2)), .int (iI x4)] hP hK hD0 hN [5, 6, 7, 8] rfl rfl rfl) rfl rfl hl.1 rfl (lv_room (Nat.le_of_ble_eq_true rfl)) d_Arrivals_timeAt_37 ⟨Nat.le_refl 0, Nat.le_refl 0⟩)) (W.eq (g2 := F0 m 40 ls [.int (iI r37)]) rfl ?_)
      have e1 := so1 h
      rw [hQ, e1]; exact W.iret hx hb hr (fun t ht hW => ⟨rfl, ht⟩) (fun q h => nomatch h) d_Arrivals_timeAt_40
  · replace h := if_t hc h
    refine lv_aload_n hx hb d_Arrivals_timeAt_4 rfl (lv_at hl 0 rfl) ?_
    refine va_get (D := D) (ci := 5) (v := .ref (a 32)) (C := R_Arrivals) (T := F_Arrivals) (N := 4) hx hb hT in_Arrivals hown hK hP 0 rfl rfl 2 (by decide) (hT _ m300) (fun _ h9 => h9) rfl d_Arrivals_timeAt_5 ?_
    refine lv_goto hx hb d_Arrivals_timeAt_8 rfl ?_
    refine lv_astore (lv' := [(5, .ref (a 32)), (0, .ref (a 1)), (1, .int (iI x1)), (2, .int (iI x2)), (3, .int (iI x3)), (4, .int (iI x4))]) hx hb d_Arrivals_timeAt_15 hl (by decide) rfl (fun ls hl => ?_)
    refine lv_aload_n hx hb d_Arrivals_timeAt_17 rfl (lv_at hl 1 rfl) ?_
    refine va_get (D := D) (ci := 5) (v := .ref (a 43)) (C := R_Arrivals) (T := F_Arrivals) (N := 4) hx hb hT in_Arrivals hown hK hP 0 rfl rfl 0 (by decide) (hT _ m298) (fun _ h9 => h9) rfl d_Arrivals_timeAt_18 ?_
    refine lv_iload_n hx hb d_Arrivals_timeAt_21 rfl (lv_at hl 2 rfl) ?_
    obtain ⟨r22_1, hcall, h⟩ := ob1_e h
    refine ro_i (va_Run.run (va_runV (As := [.int (iI x1)]) (rest := []) ⟨hx, hb, hml, hown, hts⟩ (c_Net_isEnd l D cI cJ cZ F a N_period N_width N_size N_kind x1 r22_1 s.heap.size hcall) (cwV 1 hts (gd_V m608 m841 m606 m607 m2) rfl rfl rfl ⟨rfl, hc_Net_isEnd⟩ ⟨Nat.le_of_ble_eq_true rfl, Nat.le_of_ble_eq_true rfl⟩) (pc_V 9 1 [.int (iI x1)] hP hK hD0 hN [9, 10] rfl rfl rfl rfl rfl) rfl rfl hl.1 rfl (lv_room (Nat.le_of_ble_eq_true rfl)) d_Arrivals_timeAt_22 ⟨Nat.le_refl 0, Nat.le_refl 0⟩)) (W.eq (g2 := F0 m 25 ls [.int (iI r22_1)]) rfl ?_)
    obtain ⟨hg0, h⟩ := gr_e h
    refine zi_ne hx hb d_Arrivals_timeAt_25 rfl hg0 (fun hc => ?_) (fun hc => ?_)
    · replace h := if_f hc h
      refine lv_iload_n hx hb d_Arrivals_timeAt_41 rfl (lv_at hl 2 rfl) ?_
      refine zv_iconst hx hb d_Arrivals_timeAt_42 ?_
      refine zv_imul hx hb d_Arrivals_timeAt_43 ?_
      refine zv_iconst hx hb d_Arrivals_timeAt_44 ?_
      refine zv_iadd hx hb d_Arrivals_timeAt_45 ?_
      refine zv_top (fun v6_2 hv => ?_)
      replace h := bd_e hv h
      refine lv_istore (lv' := [(6, .int (iI v6_2)), (5, .ref (a 32)), (0, .ref (a 1)), (1, .int (iI x1)), (2, .int (iI x2)), (3, .int (iI x3)), (4, .int (iI x4))]) hx hb d_Arrivals_timeAt_46 hl (by decide) rfl (fun ls hl => ?_)
      refine lv_aload_n hx hb d_Arrivals_timeAt_48 rfl (lv_at hl 2 rfl) ?_
      refine va_get (D := D) (ci := 5) (v := .ref (a 43)) (C := R_Arrivals) (T := F_Arrivals) (N := 4) hx hb hT in_Arrivals hown hK hP 0 rfl rfl 0 (by decide) (hT _ m298) (fun _ h9 => h9) rfl d_Arrivals_timeAt_49 ?_
      refine va_get (D := D) (ci := 1) (v := .ref (a 46)) (C := R_Net) (T := F_Net) (N := 15) hx hb hT in_Net hown hK hP 9 rfl rfl 5 (by decide) (hT _ m65) (fun _ h9 => h9) rfl d_Arrivals_timeAt_52 ?_
      refine lv_iload hx hb d_Arrivals_timeAt_55 (lv_at hl 0 rfl) ?_
      obtain ⟨hin, h⟩ := gi_e h
      refine zv_iald hx hb hK hP 11 0 rfl rfl (Nat.le_of_ble_eq_true rfl) hin d_Arrivals_timeAt_57 ?_
      obtain ⟨hg0, h⟩ := gr_e h
      refine zi_ge hx hb d_Arrivals_timeAt_58 rfl hg0 (fun hc => ?_) (fun hc => ?_)
      · replace h := if_t hc h
        refine lv_aload hx hb d_Arrivals_timeAt_64 (lv_at hl 1 rfl) ?_
        refine zv_iconst hx hb d_Arrivals_timeAt_66 ?_
        refine lv_aload_n hx hb d_Arrivals_timeAt_67 rfl (lv_at hl 2 rfl) ?_
        refine va_get (D := D) (ci := 5) (v := .ref (a 43)) (C := R_Arrivals) (T := F_Arrivals) (N := 4) hx hb hT in_Arrivals hown hK hP 0 rfl rfl 0 (by decide) (hT _ m298) (fun _ h9 => h9) rfl d_Arrivals_timeAt_68 ?_
        refine va_get (D := D) (ci := 1) (v := .ref (a 46)) (C := R_Net) (T := F_Net) (N := 15) hx hb hT in_Net hown hK hP 9 rfl rfl 5 (by decide) (hT _ m65) (fun _ h9 => h9) rfl d_Arrivals_timeAt_71 ?_
        refine lv_iload hx hb d_Arrivals_timeAt_74 (lv_at hl 0 rfl) ?_
        obtain ⟨hin, h⟩ := gi_e h
        refine zv_iald hx hb hK hP 11 0 rfl rfl (Nat.le_of_ble_eq_true rfl) hin d_Arrivals_timeAt_76 ?_
        refine zv_imul hx hb d_Arrivals_timeAt_77 ?_
        refine lv_iload_n hx hb d_Arrivals_timeAt_78 rfl (lv_at hl 4 rfl) ?_
        refine zv_iadd hx hb d_Arrivals_timeAt_79 ?_
        refine lv_iload hx hb d_Arrivals_timeAt_80 (lv_at hl 6 rfl) ?_
        obtain ⟨r82_3, hcall, h⟩ := ob1_e h
        refine ro_i (va_Run.run (va_runS (As := [.ref (a 32), .int (iI ((2 * (N_source v6_2)) + x2)), .int (iI x4)]) (rest := []) ⟨hx, hb, hml, hown, hts⟩ (c_Arrivals_timeOf l D cI cJ cZ F a (a 32) (a 33) (a 34) (a 35) Z_count Z_early Z_late ((2 * (N_source v6_2)) + x2) x4 r82_3 s.heap.size hcall) (cwS 3 hts (gd_S m844 m842 m843 m8) rfl rfl rfl ⟨rfl, hc_Arrivals_timeOf⟩ ⟨Nat.le_of_ble_eq_true rfl, Nat.le_of_ble_eq_true rfl⟩) (pc_S [.ref (a 32), .int (iI ((2 * (N_source v6_2)) + x2)), .int (iI x4)] hP hK hD0 hN [1, 2, 3, 4] rfl rfl rfl) rfl rfl hl.1 rfl (lv_room (Nat.le_of_ble_eq_true rfl)) d_Arrivals_timeAt_82 ⟨Nat.le_refl 0, Nat.le_refl 0⟩)) (W.eq (g2 := F0 m 85 ls [.int (iI r82_3)]) rfl ?_)
        refine lv_istore (lv' := [(7, .int (iI r82_3)), (6, .int (iI v6_2)), (5, .ref (a 32)), (0, .ref (a 1)), (1, .int (iI x1)), (2, .int (iI x2)), (3, .int (iI x3)), (4, .int (iI x4))]) hx hb d_Arrivals_timeAt_85 hl (by decide) rfl (fun ls hl => ?_)
        refine lv_iload hx hb d_Arrivals_timeAt_87 (lv_at hl 0 rfl) ?_
        refine lv_ldc hx hb hown hk0 d_Arrivals_timeAt_89 ?_
        obtain ⟨hg0, h⟩ := gr_e h
        refine zc_ne hx hb d_Arrivals_timeAt_91 rfl hg0 (by decide) (fun hc => ?_) (fun hc => ?_)
        · replace h := if_f hc h
          refine lv_iload hx hb d_Arrivals_timeAt_97 (lv_at hl 0 rfl) ?_
          refine lv_iload hx hb d_Arrivals_timeAt_99 (lv_at hl 7 rfl) ?_
          have hj127 : ∀ (q1_4 : Int) (ls : Array Slot), lv_has ls 8 [] → f_Arrivals_timeAt_j127x F r82_3 q1_4 = some (r) → W p l e (headSpec w_Arrivals_timeAt rm_Arrivals_timeAt).room s m args below meth c s.heap [] 0 0 Q (F0 m 127 ls [.int (iI q1_4), .int (iI r82_3)]) := by
            intro q1_4 ls hl h
            rw [f_Arrivals_timeAt_j127x] at h
            refine zv_iadd hx hb d_Arrivals_timeAt_127 ?_
            have e1 := so1 h
            rw [hQ, e1]; exact W.iret hx hb hr (fun t ht hW => ⟨rfl, ht⟩) (fun q h => nomatch h) d_Arrivals_timeAt_128
          obtain ⟨hg0, h⟩ := gr_e h
          refine zi_eq hx hb d_Arrivals_timeAt_101 rfl hg0 (fun hc => ?_) (fun hc => ?_)
          · replace h := if_t hc h
            refine lv_aload_n hx hb d_Arrivals_timeAt_117 rfl (lv_at hl 3 rfl) ?_
            refine va_get (D := D) (ci := 5) (v := .ref (a 43)) (C := R_Arrivals) (T := F_Arrivals) (N := 4) hx hb hT in_Arrivals hown hK hP 0 rfl rfl 0 (by decide) (hT _ m298) (fun _ h9 => h9) rfl d_Arrivals_timeAt_118 ?_
            refine va_get (D := D) (ci := 1) (v := .ref (a 47)) (C := R_Net) (T := F_Net) (N := 15) hx hb hT in_Net hown hK hP 9 rfl rfl 6 (by decide) (hT _ m72) (fun _ h9 => h9) rfl d_Arrivals_timeAt_121 ?_
            refine lv_iload hx hb d_Arrivals_timeAt_124 (lv_at hl 1 rfl) ?_
            obtain ⟨hin, h⟩ := gi_e h
            refine zv_iald hx hb hK hP 12 0 rfl rfl (Nat.le_of_ble_eq_true rfl) hin d_Arrivals_timeAt_126 ?_
            exact hj127 (N_wireEarly v6_2) ls (lv_sub hl [] rfl) h
          · replace h := if_f hc h
            refine lv_aload_n hx hb d_Arrivals_timeAt_104 rfl (lv_at hl 3 rfl) ?_
            refine va_get (D := D) (ci := 5) (v := .ref (a 43)) (C := R_Arrivals) (T := F_Arrivals) (N := 4) hx hb hT in_Arrivals hown hK hP 0 rfl rfl 0 (by decide) (hT _ m298) (fun _ h9 => h9) rfl d_Arrivals_timeAt_105 ?_
            refine va_get (D := D) (ci := 1) (v := .ref (a 48)) (C := R_Net) (T := F_Net) (N := 15) hx hb hT in_Net hown hK hP 9 rfl rfl 7 (by decide) (hT _ m77) (fun _ h9 => h9) rfl d_Arrivals_timeAt_108 ?_
            refine lv_iload hx hb d_Arrivals_timeAt_111 (lv_at hl 1 rfl) ?_
            obtain ⟨hin, h⟩ := gi_e h
            refine zv_iald hx hb hK hP 13 0 rfl rfl (Nat.le_of_ble_eq_true rfl) hin d_Arrivals_timeAt_113 ?_
            refine lv_goto hx hb d_Arrivals_timeAt_114 rfl ?_
            exact hj127 (N_wireLate v6_2) ls (lv_sub hl [] rfl) h
        · replace h := if_t hc h
          refine lv_ldc hx hb hown hk0 d_Arrivals_timeAt_94 ?_
          have e1 := so1 h
          rw [hQ, e1]; exact W.iret hx hb hr (fun t ht hW => ⟨rfl, ht⟩) (fun q h => nomatch h) d_Arrivals_timeAt_96
      · replace h := if_f hc h
        refine lv_ldc hx hb hown hk0 d_Arrivals_timeAt_61 ?_
        have e1 := so1 h
        rw [hQ, e1]; exact W.iret hx hb hr (fun t ht hW => ⟨rfl, ht⟩) (fun q h => nomatch h) d_Arrivals_timeAt_63
    · replace h := if_t hc h
      refine lv_aload hx hb d_Arrivals_timeAt_28 (lv_at hl 0 rfl) ?_
      refine zv_iconst hx hb d_Arrivals_timeAt_30 ?_
      refine lv_iload_n hx hb d_Arrivals_timeAt_31 rfl (lv_at hl 2 rfl) ?_
      refine zv_imul hx hb d_Arrivals_timeAt_32 ?_
      refine lv_iload_n hx hb d_Arrivals_timeAt_33 rfl (lv_at hl 3 rfl) ?_
      refine zv_iadd hx hb d_Arrivals_timeAt_34 ?_
      refine lv_iload hx hb d_Arrivals_timeAt_35 (lv_at hl 5 rfl) ?_
      obtain ⟨r37_5, hcall, h⟩ := ob1_e h
      refine ro_i (va_Run.run (va_runS (As := [.ref (a 32), .int (iI ((2 * x1) + x2)), .int (iI x4)]) (rest := []) ⟨hx, hb, hml, hown, hts⟩ (c_Arrivals_timeOf l D cI cJ cZ F a (a 32) (a 33) (a 34) (a 35) Z_count Z_early Z_late ((2 * x1) + x2) x4 r37_5 s.heap.size hcall) (cwS 3 hts (gd_S m844 m842 m843 m8) rfl rfl rfl ⟨rfl, hc_Arrivals_timeOf⟩ ⟨Nat.le_of_ble_eq_true rfl, Nat.le_of_ble_eq_true rfl⟩) (pc_S [.ref (a 32), .int (iI ((2 * x1) + x2)), .int (iI x4)] hP hK hD0 hN [1, 2, 3, 4] rfl rfl rfl) rfl rfl hl.1 rfl (lv_room (Nat.le_of_ble_eq_true rfl)) d_Arrivals_timeAt_37 ⟨Nat.le_refl 0, Nat.le_refl 0⟩)) (W.eq (g2 := F0 m 40 ls [.int (iI r37_5)]) rfl ?_)
      have e1 := so1 h
      rw [hQ, e1]; exact W.iret hx hb hr (fun t ht hW => ⟨rfl, ht⟩) (fun q h => nomatch h) d_Arrivals_timeAt_40
abbrev rm_T_arrival : Room := { frames := 7, cells := 0, slots := 0, locals := 130 }
set_option maxHeartbeats 4000000 in
set_option maxRecDepth 100000 in
theorem c_T_arrival (l : Launch) (D : va_G) (cI cJ cZ : ClassId) (F : Nat) (a : Nat → Nat) (T_analysed : Int) (Z_count : Int → Int) (Z_early : Int → Int) (Z_late : Int → Int) (V_count : Int → Int) (V_early : Int → Int) (V_late : Int → Int) (N_period : Int) (N_width : Int) (N_size : Int) (N_kind : Int → Int) (N_source : Int → Int) (N_wireEarly : Int → Int) (N_wireLate : Int → Int) (x1 : Int) (x2 : Int) (x3 : Int) (x4 : Int) (r : Int) (sz : Nat) (h : f_T_arrival F T_analysed Z_count Z_early Z_late V_count V_early V_late N_size N_kind N_source N_wireEarly N_wireLate x1 x2 x3 x4 = some (r)) : Met l y_T_arrival w_T_arrival rm_T_arrival (PC D [(cI, .int), (cJ, .long), (cZ, .boolean)] [.ref (a 0), .int (iI x1), .int (iI x2), .int (iI x3), .int (iI x4)] ([(o_T a T_analysed), (o_A a), (o_Z a), ((a 33), .inl (cI, 96, .inl (ia Z_count))), ((a 34), .inl (cI, 96, .inl (ia Z_early))), ((a 35), .inl (cI, 96, .inl (ia Z_late))), (o_V a), ((a 37), .inl (cI, 96, .inl (ia V_count))), ((a 38), .inl (cI, 96, .inl (ia V_early))), ((a 39), .inl (cI, 96, .inl (ia V_late))), (o_N a N_period N_width N_size), ((a 44), .inl (cI, 48, .inl (ia N_kind))), ((a 46), .inl (cI, 144, .inl (ia N_source))), ((a 47), .inl (cI, 144, .inl (ia N_wireEarly))), ((a 48), .inl (cI, 144, .inl (ia N_wireLate)))]) sz) (QcRead (iI r)) 0 0 (fun _ => False) := by
  refine Met.ofW (cc := prog_1_method_14_code) (maxL := 5) (ret := (Option.some Jvm.ClassFile.FieldType.int)) (by decide) rfl ?_
  intro p e s m args below meth c s₁ B hml hv
  obtain ⟨rfl, hsz, hP, hK, hD0, hN⟩ := hv
  have hx := B.exec
  have hb := B.bytes
  have hr := B.returns
  have hts := atoms_spec (ws := w_T_arrival) B.pre
  have hown : s.vm.findClass R_T = some m.cls := findClass_of_methodNamed B.named
  have hlocks := B.notSynchronized
  subst hsz
  have hl := lv_entry ([.ref (a 0), .int (iI x1), .int (iI x2), .int (iI x3), .int (iI x4)]) (n := 5) (Nat.le_of_ble_eq_true rfl)
  rw [lg_entry_eq]
  generalize (lg_sl ([.ref (a 0), .int (iI x1), .int (iI x2), .int (iI x3), .int (iI x4)]) ++ List.replicate (5 - (lg_sl ([.ref (a 0), .int (iI x1), .int (iI x2), .int (iI x3), .int (iI x4)])).length) Slot.unset).toArray = ls at hl ⊢
  have hl : lv_has ls 5 [(0, .ref (a 0)), (1, .int (iI x1)), (2, .int (iI x2)), (3, .int (iI x3)), (4, .int (iI x4))] := hl
  generalize (List.toArray ([.ref (a 0), .int (iI x1), .int (iI x2), .int (iI x3), .int (iI x4)] : List Value)) = args at hts ⊢
  have hT : ∀ w ∈ Tg, w.before args s = true := fun w h => hts w (List.mem_cons_of_mem _ h)
  obtain ⟨Q, hQ⟩ : ∃ Q, Q = MQ below (QcRead (iI r)) args s 0 0 (fun _ => False) := ⟨_, rfl⟩
  rw [← hQ]
  rw [f_T_arrival] at h
  refine lv_aload_n hx hb d_T_arrival_0 rfl (lv_at hl 0 rfl) ?_
  obtain ⟨hcall, h⟩ := ob0_e h
  refine ro_v (va_Run.run (va_runV (As := []) (rest := []) ⟨hx, hb, hml, hown, hts⟩ (c_T_needAnalysis l D cI cJ cZ F a T_analysed s.heap.size hcall) (cwV 0 hts (gd_V m813 m810 m812 sl_T_needAnalysis m1) rfl rfl rfl ⟨rfl, hc_T_needAnalysis⟩ ⟨Nat.le_of_ble_eq_true rfl, Nat.le_of_ble_eq_true rfl⟩) (pc_V 0 0 [] hP hK hD0 hN [0] rfl rfl rfl rfl rfl) rfl rfl hl.1 rfl (lv_room (Nat.le_of_ble_eq_true rfl)) d_T_arrival_1 ⟨Nat.le_refl 0, Nat.le_refl 0⟩)) (W.eq (g2 := F0 m 4 ls []) rfl ?_)
  refine lv_aload_n hx hb d_T_arrival_4 rfl (lv_at hl 0 rfl) ?_
  refine va_get (D := D) (ci := 0) (v := .ref (a 43)) (C := R_T) (T := F_T) (N := 7) hx hb hT in_T hown hK hP 0 rfl rfl 0 (by decide) (hT _ m409) (fun _ h9 => h9) rfl d_T_arrival_5 ?_
  refine lv_iload_n hx hb d_T_arrival_8 rfl (lv_at hl 1 rfl) ?_
  obtain ⟨r9, hcall, h⟩ := ob1_e h
  refine ro_i (va_Run.run (va_runV (As := [.int (iI x1)]) (rest := []) ⟨hx, hb, hml, hown, hts⟩ (c_Net_isNode l D cI cJ cZ F a N_period N_width N_size x1 r9 s.heap.size hcall) (cwV 1 hts (gd_V m570 m829 m568 m569 m2) rfl rfl rfl ⟨rfl, hc_Net_isNode⟩ ⟨Nat.le_of_ble_eq_true rfl, Nat.le_of_ble_eq_true rfl⟩) (pc_V 10 1 [.int (iI x1)] hP hK hD0 hN [10] rfl rfl rfl rfl rfl) rfl rfl hl.1 rfl (lv_room (Nat.le_of_ble_eq_true rfl)) d_T_arrival_9 ⟨Nat.le_refl 0, Nat.le_refl 0⟩)) (W.eq (g2 := F0 m 12 ls [.int (iI r9)]) rfl ?_)
  have hj29 : ∀  (ls : Array Slot), lv_has ls 5 [] → f_T_arrival_j29 F = some (r) → W p l e (headSpec w_T_arrival rm_T_arrival).room s m args below meth c s.heap [] 0 0 Q (F0 m 29 ls []) := by
    intro  ls hl h
    rw [f_T_arrival_j29] at h
    exact no_some h
  obtain ⟨hg0, h⟩ := gr_e h
  refine zi_eq hx hb d_T_arrival_12 rfl hg0 (fun hc => ?_) (fun hc => ?_)
  · replace h := if_t hc h
    exact hj29  ls (lv_sub hl [] rfl) h
  · replace h := if_f hc h
    refine lv_iload_n hx hb d_T_arrival_15 rfl (lv_at hl 2 rfl) ?_
    obtain ⟨r16, hcall, h⟩ := ob1_e h
    refine ro_i (va_Run.run (va_runS (As := [.int (iI x2)]) (rest := []) ⟨hx, hb, hml, hown, hts⟩ (c_T_isBit l D cI cJ cZ F a x2 r16 s.heap.size hcall) (cwS 1 hts (gd_S m786 m784 m785 m1) rfl rfl rfl ⟨rfl, hc_T_isBit⟩ ⟨Nat.le_of_ble_eq_true rfl, Nat.le_of_ble_eq_true rfl⟩) (pc_S [.int (iI x2)] hP hK hD0 hN [] rfl rfl rfl) rfl rfl hl.1 rfl (lv_room (Nat.le_of_ble_eq_true rfl)) d_T_arrival_16 ⟨Nat.le_refl 0, Nat.le_refl 0⟩)) (W.eq (g2 := F0 m 19 ls [.int (iI r16)]) rfl ?_)
    obtain ⟨hg0, h⟩ := gr_e h
    refine zi_eq hx hb d_T_arrival_19 rfl hg0 (fun hc => ?_) (fun hc => ?_)
    · replace h := if_t hc h
      exact hj29  ls (lv_sub hl [] rfl) h
    · replace h := if_f hc h
      refine lv_iload_n hx hb d_T_arrival_22 rfl (lv_at hl 3 rfl) ?_
      obtain ⟨r23, hcall, h⟩ := ob1_e h
      refine ro_i (va_Run.run (va_runS (As := [.int (iI x3)]) (rest := []) ⟨hx, hb, hml, hown, hts⟩ (c_T_isBit l D cI cJ cZ F a x3 r23 s.heap.size hcall) (cwS 1 hts (gd_S m786 m784 m785 m1) rfl rfl rfl ⟨rfl, hc_T_isBit⟩ ⟨Nat.le_of_ble_eq_true rfl, Nat.le_of_ble_eq_true rfl⟩) (pc_S [.int (iI x3)] hP hK hD0 hN [] rfl rfl rfl) rfl rfl hl.1 rfl (lv_room (Nat.le_of_ble_eq_true rfl)) d_T_arrival_23 ⟨Nat.le_refl 0, Nat.le_refl 0⟩)) (W.eq (g2 := F0 m 26 ls [.int (iI r23)]) rfl ?_)
      obtain ⟨hg0, h⟩ := gr_e h
      refine zi_ne hx hb d_T_arrival_26 rfl hg0 (fun hc => ?_) (fun hc => ?_)
      · replace h := if_f hc h
        refine lv_aload_n hx hb d_T_arrival_37 rfl (lv_at hl 0 rfl) ?_
        refine va_get (D := D) (ci := 0) (v := .ref (a 1)) (C := R_T) (T := F_T) (N := 7) hx hb hT in_T hown hK hP 0 rfl rfl 3 (by decide) (hT _ m412) (fun _ h9 => h9) rfl d_T_arrival_38 ?_
        refine lv_iload_n hx hb d_T_arrival_41 rfl (lv_at hl 1 rfl) ?_
        refine lv_iload_n hx hb d_T_arrival_42 rfl (lv_at hl 2 rfl) ?_
        refine lv_iload_n hx hb d_T_arrival_43 rfl (lv_at hl 3 rfl) ?_
        refine lv_iload hx hb d_T_arrival_44 (lv_at hl 4 rfl) ?_
        obtain ⟨r46, hcall, h⟩ := ob1_e h
        refine ro_i (va_Run.run (va_runV (As := [.int (iI x1), .int (iI x2), .int (iI x3), .int (iI x4)]) (rest := []) ⟨hx, hb, hml, hown, hts⟩ (c_Arrivals_timeAt l D cI cJ cZ F a Z_count Z_early Z_late V_count V_early V_late N_period N_width N_size N_kind N_source N_wireEarly N_wireLate x1 x2 x3 x4 r46 s.heap.size hcall) (cwV 4 hts (gd_V m840 m837 m838 m839 m8) rfl rfl rfl ⟨rfl, hc_Arrivals_timeAt⟩ ⟨Nat.le_of_ble_eq_true rfl, Nat.le_of_ble_eq_true rfl⟩) (pc_V 1 5 [.int (iI x1), .int (iI x2), .int (iI x3), .int (iI x4)] hP hK hD0 hN [1, 2, 3, 4, 5, 6, 7, 8, 9, 10, 11, 12, 13, 14] rfl rfl rfl rfl rfl) rfl rfl hl.1 rfl (lv_room (Nat.le_of_ble_eq_true rfl)) d_T_arrival_46 ⟨Nat.le_refl 0, Nat.le_refl 0⟩)) (W.eq (g2 := F0 m 49 ls [.int (iI r46)]) rfl ?_)
        have e1 := so1 h
        rw [hQ, e1]; exact W.iret hx hb hr (fun t ht hW => ⟨rfl, ht⟩) (fun q h => nomatch h) d_T_arrival_49
      · replace h := if_t hc h
        exact hj29  ls (lv_sub hl [] rfl) h
abbrev rm_Slacks_leastAt : Room := { frames := 0, cells := 0, slots := 0, locals := 0 }
set_option maxHeartbeats 4000000 in
set_option maxRecDepth 100000 in
theorem c_Slacks_leastAt (l : Launch) (D : va_G) (cI cJ cZ : ClassId) (F : Nat) (a : Nat → Nat) (L_leastMoving : Int) (L_leastFixed : Int) (L_pathCount : Int) (L_least : Int → Int) (x1 : Int) (x2 : Int) (r : Int) (sz : Nat) (h : f_Slacks_leastAt F L_least x1 x2 = some (r)) : Met l y_Slacks_leastAt w_Slacks_leastAt rm_Slacks_leastAt (PC D [(cI, .int), (cJ, .long), (cZ, .boolean)] [.ref (a 2), .int (iI x1), .int (iI x2)] ([(o_L a L_leastMoving L_leastFixed L_pathCount), ((a 3), .inl (cI, 96, .inl (ia L_least)))]) sz) (QcRead (iI r)) 0 0 (fun _ => False) := by
  refine Met.ofW (cc := prog_8_method_4_code) (maxL := 4) (ret := (Option.some Jvm.ClassFile.FieldType.int)) (by decide) rfl ?_
  intro p e s m args below meth c s₁ B hml hv
  obtain ⟨rfl, hsz, hP, hK, hD0, hN⟩ := hv
  have hx := B.exec
  have hb := B.bytes
  have hr := B.returns
  have hts := atoms_spec (ws := w_Slacks_leastAt) B.pre
  have hown : s.vm.findClass R_Slacks = some m.cls := findClass_of_methodNamed B.named
  have hlocks := B.notSynchronized
  subst hsz
  have hl := lv_entry ([.ref (a 2), .int (iI x1), .int (iI x2)]) (n := 4) (Nat.le_of_ble_eq_true rfl)
  rw [lg_entry_eq]
  generalize (lg_sl ([.ref (a 2), .int (iI x1), .int (iI x2)]) ++ List.replicate (4 - (lg_sl ([.ref (a 2), .int (iI x1), .int (iI x2)])).length) Slot.unset).toArray = ls at hl ⊢
  have hl : lv_has ls 4 [(0, .ref (a 2)), (1, .int (iI x1)), (2, .int (iI x2))] := hl
  generalize (List.toArray ([.ref (a 2), .int (iI x1), .int (iI x2)] : List Value)) = args at hts ⊢
  have hT : ∀ w ∈ Tg, w.before args s = true := fun w h => hts w (List.mem_cons_of_mem _ h)
  obtain ⟨Q, hQ⟩ : ∃ Q, Q = MQ below (QcRead (iI r)) args s 0 0 (fun _ => False) := ⟨_, rfl⟩
  rw [← hQ]
  have hk0 := (show (Cond.constant "PathTiming$Slacks" 31 (iI 1000000000)).before args s = true from by rw [show iI 1000000000 = (1000000000 : Int32) from by decide]; exact hT _ m584)
  have hk1 := (show (Cond.constant "PathTiming$Slacks" 71 (iI (-2147483648))).before args s = true from by rw [show iI (-2147483648) = ((-2147483648) : Int32) from by decide]; exact hT _ m857)
  rw [f_Slacks_leastAt] at h
  refine lv_aload_n hx hb d_Slacks_leastAt_0 rfl (lv_at hl 0 rfl) ?_
  refine va_get (D := D) (ci := 7) (v := .ref (a 3)) (C := R_Slacks) (T := F_Slacks) (N := 8) hx hb hT in_Slacks hown hK hP 0 rfl rfl 4 (by decide) (hT _ m321) (fun _ h9 => h9) rfl d_Slacks_leastAt_1 ?_
  refine zv_iconst hx hb d_Slacks_leastAt_4 ?_
  refine lv_iload_n hx hb d_Slacks_leastAt_5 rfl (lv_at hl 1 rfl) ?_
  refine zv_imul hx hb d_Slacks_leastAt_6 ?_
  refine lv_iload_n hx hb d_Slacks_leastAt_7 rfl (lv_at hl 2 rfl) ?_
  refine zv_iadd hx hb d_Slacks_leastAt_8 ?_
  obtain ⟨hin, h⟩ := gi_e h
  refine zv_iald hx hb hK hP 1 0 rfl rfl (Nat.le_of_ble_eq_true rfl) hin d_Slacks_leastAt_9 ?_
  refine zv_top (fun v3 hv => ?_)
  replace h := bd_e hv h
  refine lv_istore_n (lv' := [(3, .int (iI v3)), (0, .ref (a 2)), (1, .int (iI x1)), (2, .int (iI x2))]) hx hb d_Slacks_leastAt_10 rfl hl (by decide) rfl (fun ls hl => ?_)
  refine lv_iload_n hx hb d_Slacks_leastAt_11 rfl (lv_at hl 0 rfl) ?_
  refine lv_ldc hx hb hown hk0 d_Slacks_leastAt_12 ?_
  obtain ⟨hg0, h⟩ := gr_e h
  refine zc_ne hx hb d_Slacks_leastAt_14 rfl hg0 (by decide) (fun hc => ?_) (fun hc => ?_)
  · replace h := if_f hc h
    refine lv_iload_n hx hb d_Slacks_leastAt_22 rfl (lv_at hl 0 rfl) ?_
    have e1 := so1 h
    rw [hQ, e1]; exact W.iret hx hb hr (fun t ht hW => ⟨rfl, ht⟩) (fun q h => nomatch h) d_Slacks_leastAt_23
  · replace h := if_t hc h
    refine lv_ldc hx hb hown hk1 d_Slacks_leastAt_17 ?_
    refine lv_goto hx hb d_Slacks_leastAt_19 rfl ?_
    have e1 := so1 h
    rw [hQ, e1]; exact W.iret hx hb hr (fun t ht hW => ⟨rfl, ht⟩) (fun q h => nomatch h) d_Slacks_leastAt_23
abbrev rm_T_slack : Room := { frames := 7, cells := 0, slots := 0, locals := 130 }
set_option maxHeartbeats 4000000 in
set_option maxRecDepth 100000 in
theorem c_T_slack (l : Launch) (D : va_G) (cI cJ cZ : ClassId) (F : Nat) (a : Nat → Nat) (T_analysed : Int) (L_leastMoving : Int) (L_leastFixed : Int) (L_pathCount : Int) (L_least : Int → Int) (N_period : Int) (N_width : Int) (N_size : Int) (N_kind : Int → Int) (x1 : Int) (x2 : Int) (r : Int) (sz : Nat) (h : f_T_slack F T_analysed L_least N_size N_kind x1 x2 = some (r)) : Met l y_T_slack w_T_slack rm_T_slack (PC D [(cI, .int), (cJ, .long), (cZ, .boolean)] [.ref (a 0), .int (iI x1), .int (iI x2)] ([(o_T a T_analysed), (o_L a L_leastMoving L_leastFixed L_pathCount), ((a 3), .inl (cI, 96, .inl (ia L_least))), (o_N a N_period N_width N_size), ((a 44), .inl (cI, 48, .inl (ia N_kind)))]) sz) (QcRead (iI r)) 0 0 (fun _ => False) := by
  refine Met.ofW (cc := prog_1_method_15_code) (maxL := 3) (ret := (Option.some Jvm.ClassFile.FieldType.int)) (by decide) rfl ?_
  intro p e s m args below meth c s₁ B hml hv
  obtain ⟨rfl, hsz, hP, hK, hD0, hN⟩ := hv
  have hx := B.exec
  have hb := B.bytes
  have hr := B.returns
  have hts := atoms_spec (ws := w_T_slack) B.pre
  have hown : s.vm.findClass R_T = some m.cls := findClass_of_methodNamed B.named
  have hlocks := B.notSynchronized
  subst hsz
  have hl := lv_entry ([.ref (a 0), .int (iI x1), .int (iI x2)]) (n := 3) (Nat.le_of_ble_eq_true rfl)
  rw [lg_entry_eq]
  generalize (lg_sl ([.ref (a 0), .int (iI x1), .int (iI x2)]) ++ List.replicate (3 - (lg_sl ([.ref (a 0), .int (iI x1), .int (iI x2)])).length) Slot.unset).toArray = ls at hl ⊢
  have hl : lv_has ls 3 [(0, .ref (a 0)), (1, .int (iI x1)), (2, .int (iI x2))] := hl
  generalize (List.toArray ([.ref (a 0), .int (iI x1), .int (iI x2)] : List Value)) = args at hts ⊢
  have hT : ∀ w ∈ Tg, w.before args s = true := fun w h => hts w (List.mem_cons_of_mem _ h)
  obtain ⟨Q, hQ⟩ : ∃ Q, Q = MQ below (QcRead (iI r)) args s 0 0 (fun _ => False) := ⟨_, rfl⟩
  rw [← hQ]
  rw [f_T_slack] at h
  refine lv_aload_n hx hb d_T_slack_0 rfl (lv_at hl 0 rfl) ?_
  obtain ⟨hcall, h⟩ := ob0_e h
  refine ro_v (va_Run.run (va_runV (As := []) (rest := []) ⟨hx, hb, hml, hown, hts⟩ (c_T_needAnalysis l D cI cJ cZ F a T_analysed s.heap.size hcall) (cwV 0 hts (gd_V m813 m810 m812 sl_T_needAnalysis m1) rfl rfl rfl ⟨rfl, hc_T_needAnalysis⟩ ⟨Nat.le_of_ble_eq_true rfl, Nat.le_of_ble_eq_true rfl⟩) (pc_V 0 0 [] hP hK hD0 hN [0] rfl rfl rfl rfl rfl) rfl rfl hl.1 rfl (lv_room (Nat.le_of_ble_eq_true rfl)) d_T_slack_1 ⟨Nat.le_refl 0, Nat.le_refl 0⟩)) (W.eq (g2 := F0 m 4 ls []) rfl ?_)
  refine lv_aload_n hx hb d_T_slack_4 rfl (lv_at hl 0 rfl) ?_
  refine va_get (D := D) (ci := 0) (v := .ref (a 43)) (C := R_T) (T := F_T) (N := 7) hx hb hT in_T hown hK hP 0 rfl rfl 0 (by decide) (hT _ m409) (fun _ h9 => h9) rfl d_T_slack_5 ?_
  refine lv_iload_n hx hb d_T_slack_8 rfl (lv_at hl 1 rfl) ?_
  obtain ⟨r9, hcall, h⟩ := ob1_e h
  refine ro_i (va_Run.run (va_runV (As := [.int (iI x1)]) (rest := []) ⟨hx, hb, hml, hown, hts⟩ (c_Net_isEnd l D cI cJ cZ F a N_period N_width N_size N_kind x1 r9 s.heap.size hcall) (cwV 1 hts (gd_V m608 m798 m606 m607 m2) rfl rfl rfl ⟨rfl, hc_Net_isEnd⟩ ⟨Nat.le_of_ble_eq_true rfl, Nat.le_of_ble_eq_true rfl⟩) (pc_V 3 1 [.int (iI x1)] hP hK hD0 hN [3, 4] rfl rfl rfl rfl rfl) rfl rfl hl.1 rfl (lv_room (Nat.le_of_ble_eq_true rfl)) d_T_slack_9 ⟨Nat.le_refl 0, Nat.le_refl 0⟩)) (W.eq (g2 := F0 m 12 ls [.int (iI r9)]) rfl ?_)
  have hj22 : ∀  (ls : Array Slot), lv_has ls 3 [] → f_T_slack_j22 F = some (r) → W p l e (headSpec w_T_slack rm_T_slack).room s m args below meth c s.heap [] 0 0 Q (F0 m 22 ls []) := by
    intro  ls hl h
    rw [f_T_slack_j22] at h
    exact no_some h
  obtain ⟨hg0, h⟩ := gr_e h
  refine zi_eq hx hb d_T_slack_12 rfl hg0 (fun hc => ?_) (fun hc => ?_)
  · replace h := if_t hc h
    exact hj22  ls (lv_sub hl [] rfl) h
  · replace h := if_f hc h
    refine lv_iload_n hx hb d_T_slack_15 rfl (lv_at hl 2 rfl) ?_
    obtain ⟨r16, hcall, h⟩ := ob1_e h
    refine ro_i (va_Run.run (va_runS (As := [.int (iI x2)]) (rest := []) ⟨hx, hb, hml, hown, hts⟩ (c_T_isBit l D cI cJ cZ F a x2 r16 s.heap.size hcall) (cwS 1 hts (gd_S m786 m784 m785 m1) rfl rfl rfl ⟨rfl, hc_T_isBit⟩ ⟨Nat.le_of_ble_eq_true rfl, Nat.le_of_ble_eq_true rfl⟩) (pc_S [.int (iI x2)] hP hK hD0 hN [] rfl rfl rfl) rfl rfl hl.1 rfl (lv_room (Nat.le_of_ble_eq_true rfl)) d_T_slack_16 ⟨Nat.le_refl 0, Nat.le_refl 0⟩)) (W.eq (g2 := F0 m 19 ls [.int (iI r16)]) rfl ?_)
    obtain ⟨hg0, h⟩ := gr_e h
    refine zi_ne hx hb d_T_slack_19 rfl hg0 (fun hc => ?_) (fun hc => ?_)
    · replace h := if_f hc h
      refine lv_aload_n hx hb d_T_slack_30 rfl (lv_at hl 0 rfl) ?_
      refine va_get (D := D) (ci := 0) (v := .ref (a 2)) (C := R_T) (T := F_T) (N := 7) hx hb hT in_T hown hK hP 0 rfl rfl 4 (by decide) (hT _ m413) (fun _ h9 => h9) rfl d_T_slack_31 ?_
      refine lv_iload_n hx hb d_T_slack_34 rfl (lv_at hl 1 rfl) ?_
      refine lv_iload_n hx hb d_T_slack_35 rfl (lv_at hl 2 rfl) ?_
      obtain ⟨r36, hcall, h⟩ := ob1_e h
      refine ro_i (va_Run.run (va_runV (As := [.int (iI x1), .int (iI x2)]) (rest := []) ⟨hx, hb, hml, hown, hts⟩ (c_Slacks_leastAt l D cI cJ cZ F a L_leastMoving L_leastFixed L_pathCount L_least x1 x2 r36 s.heap.size hcall) (cwV 2 hts (gd_V m856 m853 m854 m855 m9) rfl rfl rfl ⟨rfl, hc_Slacks_leastAt⟩ ⟨Nat.le_of_ble_eq_true rfl, Nat.le_of_ble_eq_true rfl⟩) (pc_V 1 7 [.int (iI x1), .int (iI x2)] hP hK hD0 hN [1, 2] rfl rfl rfl rfl rfl) rfl rfl hl.1 rfl (lv_room (Nat.le_of_ble_eq_true rfl)) d_T_slack_36 ⟨Nat.le_refl 0, Nat.le_refl 0⟩)) (W.eq (g2 := F0 m 39 ls [.int (iI r36)]) rfl ?_)
      have e1 := so1 h
      rw [hQ, e1]; exact W.iret hx hb hr (fun t ht hW => ⟨rfl, ht⟩) (fun q h => nomatch h) d_T_slack_39
    · replace h := if_t hc h
      exact hj22  ls (lv_sub hl [] rfl) h
abbrev rm_T_needBit : Room := { frames := 6, cells := 0, slots := 0, locals := 110 }
set_option maxHeartbeats 4000000 in
set_option maxRecDepth 100000 in
theorem c_T_needBit (l : Launch) (D : va_G) (cI cJ cZ : ClassId) (F : Nat) (a : Nat → Nat) (x0 : Int) (sz : Nat) (h : f_T_needBit F x0 = some ()) : Met l y_T_needBit w_T_needBit rm_T_needBit (PC D [(cI, .int), (cJ, .long), (cZ, .boolean)] [.int (iI x0)] ([]) sz) (QcReadV) 0 0 (fun _ => False) := by
  refine Met.ofW (cc := prog_1_method_25_code) (maxL := 1) (ret := (Option.none : Option Jvm.ClassFile.FieldType)) (by decide) rfl ?_
  intro p e s m args below meth c s₁ B hml hv
  obtain ⟨rfl, hsz, hP, hK, hD0, hN⟩ := hv
  have hx := B.exec
  have hb := B.bytes
  have hr := B.returns
  have hts := atoms_spec (ws := w_T_needBit) B.pre
  have hown : s.vm.findClass R_T = some m.cls := findClass_of_methodNamed B.named
  have hlocks := B.notSynchronized
  subst hsz
  have hl := lv_entry ([.int (iI x0)]) (n := 1) (Nat.le_of_ble_eq_true rfl)
  rw [lg_entry_eq]
  generalize (lg_sl ([.int (iI x0)]) ++ List.replicate (1 - (lg_sl ([.int (iI x0)])).length) Slot.unset).toArray = ls at hl ⊢
  have hl : lv_has ls 1 [(0, .int (iI x0))] := hl
  generalize (List.toArray ([.int (iI x0)] : List Value)) = args at hts ⊢
  have hT : ∀ w ∈ Tg, w.before args s = true := fun w h => hts w (List.mem_cons_of_mem _ h)
  obtain ⟨Q, hQ⟩ : ∃ Q, Q = MQ below (QcReadV) args s 0 0 (fun _ => False) := ⟨_, rfl⟩
  rw [← hQ]
  rw [f_T_needBit] at h
  refine lv_iload_n hx hb d_T_needBit_0 rfl (lv_at hl 0 rfl) ?_
  obtain ⟨r1, hcall, h⟩ := ob1_e h
  refine ro_i (va_Run.run (va_runS (As := [.int (iI x0)]) (rest := []) ⟨hx, hb, hml, hown, hts⟩ (c_T_isBit l D cI cJ cZ F a x0 r1 s.heap.size hcall) (cwS 1 hts (gd_S m786 m784 m785 m1) rfl rfl rfl ⟨rfl, hc_T_isBit⟩ ⟨Nat.le_of_ble_eq_true rfl, Nat.le_of_ble_eq_true rfl⟩) (pc_S [.int (iI x0)] hP hK hD0 hN [] rfl rfl rfl) rfl rfl hl.1 rfl (lv_room (Nat.le_of_ble_eq_true rfl)) d_T_needBit_1 ⟨Nat.le_refl 0, Nat.le_refl 0⟩)) (W.eq (g2 := F0 m 4 ls [.int (iI r1)]) rfl ?_)
  obtain ⟨hg0, h⟩ := gr_e h
  refine zi_ne hx hb d_T_needBit_4 rfl hg0 (fun hc => ?_) (fun hc => ?_)
  · replace h := if_f hc h
    rw [hQ]; exact W.vret hx hb hr (fun t ht hW => ⟨rfl, ht⟩) (fun q h => nomatch h) d_T_needBit_15
  · replace h := if_t hc h
    exact no_some h
abbrev rm_Slacks_leastOfAll : Room := { frames := 1, cells := 0, slots := 0, locals := 24 }
set_option maxHeartbeats 4000000 in
set_option maxRecDepth 100000 in
theorem c_Slacks_leastOfAll (l : Launch) (D : va_G) (cI cJ cZ : ClassId) (F : Nat) (a : Nat → Nat) (L_leastMoving : Int) (L_leastFixed : Int) (L_pathCount : Int) (L_least : Int → Int) (N_period : Int) (N_width : Int) (N_size : Int) (x1 : Int) (r : Int) (sz : Nat) (h : f_Slacks_leastOfAll F L_least N_size x1 = some (r)) : Met l y_Slacks_leastOfAll w_Slacks_leastOfAll rm_Slacks_leastOfAll (PC D [(cI, .int), (cJ, .long), (cZ, .boolean)] [.ref (a 2), .int (iI x1)] ([(o_L a L_leastMoving L_leastFixed L_pathCount), ((a 3), .inl (cI, 96, .inl (ia L_least))), (o_N a N_period N_width N_size)]) sz) (QcRead (iI r)) 0 0 (fun _ => False) := by
  refine Met.ofW (cc := prog_8_method_5_code) (maxL := 4) (ret := (Option.some Jvm.ClassFile.FieldType.int)) (by decide) rfl ?_
  intro p e s m args below meth c s₁ B hml hv
  obtain ⟨rfl, hsz, hP, hK, hD0, hN⟩ := hv
  have hx := B.exec
  have hb := B.bytes
  have hr := B.returns
  have hts := atoms_spec (ws := w_Slacks_leastOfAll) B.pre
  have hown : s.vm.findClass R_Slacks = some m.cls := findClass_of_methodNamed B.named
  have hlocks := B.notSynchronized
  subst hsz
  have hl := lv_entry ([.ref (a 2), .int (iI x1)]) (n := 4) (Nat.le_of_ble_eq_true rfl)
  rw [lg_entry_eq]
  generalize (lg_sl ([.ref (a 2), .int (iI x1)]) ++ List.replicate (4 - (lg_sl ([.ref (a 2), .int (iI x1)])).length) Slot.unset).toArray = ls at hl ⊢
  have hl : lv_has ls 4 [(0, .ref (a 2)), (1, .int (iI x1))] := hl
  generalize (List.toArray ([.ref (a 2), .int (iI x1)] : List Value)) = args at hts ⊢
  have hT : ∀ w ∈ Tg, w.before args s = true := fun w h => hts w (List.mem_cons_of_mem _ h)
  obtain ⟨Q, hQ⟩ : ∃ Q, Q = MQ below (QcRead (iI r)) args s 0 0 (fun _ => False) := ⟨_, rfl⟩
  rw [← hQ]
  have hk0 := (show (Cond.constant "PathTiming$Slacks" 31 (iI 1000000000)).before args s = true from by rw [show iI 1000000000 = (1000000000 : Int32) from by decide]; exact hT _ m584)
  have hk1 := (show (Cond.constant "PathTiming$Slacks" 71 (iI (-2147483648))).before args s = true from by rw [show iI (-2147483648) = ((-2147483648) : Int32) from by decide]; exact hT _ m857)
  rw [f_Slacks_leastOfAll] at h
  refine lv_ldc hx hb hown hk0 d_Slacks_leastOfAll_0 ?_
  refine lv_istore_n (lv' := [(2, .int (iI 1000000000)), (0, .ref (a 2)), (1, .int (iI x1))]) hx hb d_Slacks_leastOfAll_2 rfl hl (by decide) rfl (fun ls hl => ?_)
  refine zv_iconst hx hb d_Slacks_leastOfAll_3 ?_
  refine lv_istore_n (lv' := [(3, .int (iI 0)), (2, .int (iI 1000000000)), (0, .ref (a 2)), (1, .int (iI x1))]) hx hb d_Slacks_leastOfAll_4 rfl hl (by decide) rfl (fun ls hl => ?_)
  have hl5 : ∀ (nf : Nat) (v2 : Int) (v3 : Int) (ls : Array Slot), lv_has ls 4 [(0, .ref (a 2)), (1, .int (iI x1)), (2, .int (iI v2)), (3, .int (iI v3))] → lq2 (f_Slacks_leastOfAll_b5 F L_least N_size x1) nf v2 v3 = some (r) → W p l e (headSpec w_Slacks_leastOfAll rm_Slacks_leastOfAll).room s m args below meth c s.heap [] 0 0 Q (F0 m 5 ls []) := by
    intro n5
    induction n5 with
    | zero => intro v2 v3 ls hl h; exact no_some h
    | succ n5 ih5 =>
      intro v2 v3 ls hl h
      replace h : f_Slacks_leastOfAll_b5 F L_least N_size x1 (lq2 (f_Slacks_leastOfAll_b5 F L_least N_size x1) n5) v2 v3 = some (r) := h
      obtain ⟨self5, hs5⟩ : ∃ z, z = lq2 (f_Slacks_leastOfAll_b5 F L_least N_size x1) n5 := ⟨_, rfl⟩
      rw [← hs5] at h ih5
      rw [f_Slacks_leastOfAll_b5] at h
      refine lv_iload_n hx hb d_Slacks_leastOfAll_5 rfl (lv_at hl 3 rfl) ?_
      refine lv_aload_n hx hb d_Slacks_leastOfAll_6 rfl (lv_at hl 0 rfl) ?_
      refine va_get (D := D) (ci := 7) (v := .ref (a 43)) (C := R_Slacks) (T := F_Slacks) (N := 8) hx hb hT in_Slacks hown hK hP 0 rfl rfl 0 (by decide) (hT _ m317) (fun _ h9 => h9) rfl d_Slacks_leastOfAll_7 ?_
      refine va_get (D := D) (ci := 1) (v := .int (iI N_size)) (C := R_Net) (T := F_Net) (N := 15) hx hb hT in_Net hown hK hP 2 rfl rfl 2 (by decide) (hT _ m51) (fun _ h9 => h9) rfl d_Slacks_leastOfAll_10 ?_
      obtain ⟨hg0, h⟩ := gr_e h
      obtain ⟨hg1, h⟩ := gr_e h
      refine zc_ge hx hb d_Slacks_leastOfAll_13 rfl hg0 hg1 (fun hc => ?_) (fun hc => ?_)
      · replace h := if_t hc h
        refine lv_iload_n hx hb d_Slacks_leastOfAll_37 rfl (lv_at hl 2 rfl) ?_
        refine lv_ldc hx hb hown hk0 d_Slacks_leastOfAll_38 ?_
        obtain ⟨hg0, h⟩ := gr_e h
        refine zc_ne hx hb d_Slacks_leastOfAll_40 rfl hg0 (by decide) (fun hc => ?_) (fun hc => ?_)
        · replace h := if_f hc h
          refine lv_iload_n hx hb d_Slacks_leastOfAll_48 rfl (lv_at hl 2 rfl) ?_
          have e1 := so1 h
          rw [hQ, e1]; exact W.iret hx hb hr (fun t ht hW => ⟨rfl, ht⟩) (fun q h => nomatch h) d_Slacks_leastOfAll_49
        · replace h := if_t hc h
          refine lv_ldc hx hb hown hk1 d_Slacks_leastOfAll_43 ?_
          refine lv_goto hx hb d_Slacks_leastOfAll_45 rfl ?_
          have e1 := so1 h
          rw [hQ, e1]; exact W.iret hx hb hr (fun t ht hW => ⟨rfl, ht⟩) (fun q h => nomatch h) d_Slacks_leastOfAll_49
      · replace h := if_f hc h
        refine lv_iload_n hx hb d_Slacks_leastOfAll_16 rfl (lv_at hl 2 rfl) ?_
        refine lv_aload_n hx hb d_Slacks_leastOfAll_17 rfl (lv_at hl 0 rfl) ?_
        refine va_get (D := D) (ci := 7) (v := .ref (a 3)) (C := R_Slacks) (T := F_Slacks) (N := 8) hx hb hT in_Slacks hown hK hP 0 rfl rfl 4 (by decide) (hT _ m321) (fun _ h9 => h9) rfl d_Slacks_leastOfAll_18 ?_
        refine zv_iconst hx hb d_Slacks_leastOfAll_21 ?_
        refine lv_iload_n hx hb d_Slacks_leastOfAll_22 rfl (lv_at hl 3 rfl) ?_
        refine zv_imul hx hb d_Slacks_leastOfAll_23 ?_
        refine lv_iload_n hx hb d_Slacks_leastOfAll_24 rfl (lv_at hl 1 rfl) ?_
        refine zv_iadd hx hb d_Slacks_leastOfAll_25 ?_
        obtain ⟨hin, h⟩ := gi_e h
        refine zv_iald hx hb hK hP 1 0 rfl rfl (Nat.le_of_ble_eq_true rfl) hin d_Slacks_leastOfAll_26 ?_
        obtain ⟨hg0, h⟩ := gr_e h
        obtain ⟨hg1, h⟩ := gr_e h
        refine zv_mmin hx hb (hml.trans hl.1.symm) hown (hT _ m613) (hT _ m496) (hT _ m18) (hT _ m_code_Math_min) (Nat.le_of_ble_eq_true rfl) (Nat.le_of_ble_eq_true rfl) (Nat.zero_le _) (Nat.zero_le _) hg0 hg1 d_Slacks_leastOfAll_27 ?_
        refine zv_top (fun v2_1 hv => ?_)
        replace h := bd_e hv h
        refine lv_istore_n (lv' := [(2, .int (iI v2_1)), (0, .ref (a 2)), (1, .int (iI x1)), (3, .int (iI v3))]) hx hb d_Slacks_leastOfAll_30 rfl hl (by decide) rfl (fun ls hl => ?_)
        refine lv_iinc (v := iI (v3 + 1)) (k := 3) (lv' := [(3, .int (iI (v3 + 1))), (2, .int (iI v2_1)), (0, .ref (a 2)), (1, .int (iI x1))]) hx hb d_Slacks_leastOfAll_31 hl rfl (iI_add _ _) (by decide) rfl (fun ls hl => ?_)
        refine lv_goto hx hb d_Slacks_leastOfAll_34 rfl ?_
        exact ih5 v2_1 (v3 + 1) ls (lv_sub hl [2, 3, 1, 0] rfl) h
  exact hl5 F 1000000000 0 ls (lv_sub hl [2, 3, 1, 0] rfl) h
