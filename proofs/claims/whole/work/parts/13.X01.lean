abbrev rt_T_worst : Room := { frames := 7, cells := 1, slots := 6, locals := 130 }
set_option maxHeartbeats 4000000 in
set_option maxRecDepth 100000 in
theorem t_T_worst {l : Launch} (hfl : l.flags = flags0) (D : va_G) (cI cJ cZ : ClassId) (F : Nat) (a : Nat → Nat) (T_analysed : Int) (L_leastMoving : Int) (L_leastFixed : Int) (L_pathCount : Int) (L_least : Int → Int) (N_period : Int) (N_width : Int) (N_size : Int) (x1 : Int) (k : Nat) (sz : Nat) (h : g_T_worst F T_analysed L_least N_size x1 = some k) : MetT l y_T_worst w_T_worst rt_T_worst (PX D [(cI, .int), (cJ, .long), (cZ, .boolean)] [.ref (a 0), .int (iI x1)] ([(o_T a T_analysed), (o_L a L_leastMoving L_leastFixed L_pathCount), ((a 3), .inl (cI, 96, .inl (ia L_least))), (o_N a N_period N_width N_size)]) sz) k := by
  refine MetT.ofW (cc := prog_1_method_16_code) (maxL := 2) (ret := (Option.some Jvm.ClassFile.FieldType.int)) (by decide) rfl ?_
  intro p e s m args below meth c s₁ B hml hv
  obtain ⟨⟨rfl, hsz, hP, hK, hD0, hN⟩, hXW⟩ := hv
  have hx := B.exec
  have hb := B.bytes
  have hr := B.returns
  have hts := atoms_spec (ws := w_T_worst) B.pre
  have hown : s.vm.findClass R_T = some m.cls := findClass_of_methodNamed B.named
  have hlocks := B.notSynchronized
  subst hsz
  have hno := B.noHandlers (hts _ List.mem_cons_self)
  have hl := lv_entry ([.ref (a 0), .int (iI x1)]) (n := 2) (Nat.le_of_ble_eq_true rfl)
  rw [lg_entry_eq]
  generalize (lg_sl ([.ref (a 0), .int (iI x1)]) ++ List.replicate (2 - (lg_sl ([.ref (a 0), .int (iI x1)])).length) Slot.unset).toArray = ls at hl ⊢
  have hl : lv_has ls 2 [(0, .ref (a 0)), (1, .int (iI x1))] := hl
  generalize (List.toArray ([.ref (a 0), .int (iI x1)] : List Value)) = args at hts ⊢
  have hT : ∀ w ∈ Tg, w.before args s = true := fun w h => hts w (List.mem_cons_of_mem _ h)
  obtain ⟨Q, hQ⟩ : ∃ Q, Q = QT below k s := ⟨_, rfl⟩
  rw [← hQ]
  rw [g_T_worst] at h
  refine lv_aload_n hx hb d_T_worst_0 rfl (lv_at hl 0 rfl) ?_
  rcases og_e h with hcall | ⟨hcallN, h⟩
  · subst hQ; exact wt_callV hno hlocks (As := []) (rest := []) ⟨hx, hb, hml, hown, hts⟩ (t_T_needAnalysis hfl D cI cJ cZ F a T_analysed k s.heap.size hcall) (cwV 0 hts (gd_V m813 m810 m812 sl_T_needAnalysis m1) rfl rfl rfl ⟨rfl, hc_T_needAnalysis⟩ ⟨Nat.le_of_ble_eq_true rfl, Nat.le_of_ble_eq_true rfl⟩) (px_V hXW 0 0 [] hP hK hD0 hN [0] rfl rfl rfl rfl rfl) rfl rfl hl.1 rfl (lv_room (Nat.le_of_ble_eq_true rfl)) rfl rfl d_T_worst_1 ⟨Nat.le_of_ble_eq_true rfl, Nat.le_of_ble_eq_true rfl⟩
  obtain ⟨hcall, h⟩ := ob0_e h
  refine ro_v (va_Run.run (va_runV (As := []) (rest := []) ⟨hx, hb, hml, hown, hts⟩ (c_T_needAnalysis l D cI cJ cZ F a T_analysed s.heap.size hcall) (cwV 0 hts (gd_V m813 m810 m812 sl_T_needAnalysis m1) rfl rfl rfl ⟨rfl, hc_T_needAnalysis⟩ ⟨Nat.le_of_ble_eq_true rfl, Nat.le_of_ble_eq_true rfl⟩) (pc_V 0 0 [] hP hK hD0 hN [0] rfl rfl rfl rfl rfl) rfl rfl hl.1 rfl (lv_room (Nat.le_of_ble_eq_true rfl)) d_T_worst_1 ⟨Nat.zero_le _, Nat.zero_le _⟩)) (W.eq (g2 := F0 m 4 ls []) rfl ?_)
  refine lv_iload_n hx hb d_T_worst_4 rfl (lv_at hl 1 rfl) ?_
  rcases og_e h with hcall | ⟨hcallN, h⟩
  · subst hQ; exact wt_callS hno hlocks (As := [.int (iI x1)]) (rest := []) ⟨hx, hb, hml, hown, hts⟩ (t_T_needBit hfl D cI cJ cZ F a x1 k s.heap.size hcall) (cwS 1 hts (gd_S m867 m865 m866 m1) rfl rfl rfl ⟨rfl, hc_T_needBit⟩ ⟨Nat.le_of_ble_eq_true rfl, Nat.le_of_ble_eq_true rfl⟩) (px_S hXW [.int (iI x1)] hP hK hD0 hN [] rfl rfl rfl) rfl rfl hl.1 rfl (lv_room (Nat.le_of_ble_eq_true rfl)) rfl rfl d_T_worst_5 ⟨Nat.le_of_ble_eq_true rfl, Nat.le_of_ble_eq_true rfl⟩
  obtain ⟨hcall, h⟩ := ob0_e h
  refine ro_v (va_Run.run (va_runS (As := [.int (iI x1)]) (rest := []) ⟨hx, hb, hml, hown, hts⟩ (c_T_needBit l D cI cJ cZ F a x1 s.heap.size hcall) (cwS 1 hts (gd_S m867 m865 m866 m1) rfl rfl rfl ⟨rfl, hc_T_needBit⟩ ⟨Nat.le_of_ble_eq_true rfl, Nat.le_of_ble_eq_true rfl⟩) (pc_S [.int (iI x1)] hP hK hD0 hN [] rfl rfl rfl) rfl rfl hl.1 rfl (lv_room (Nat.le_of_ble_eq_true rfl)) d_T_worst_5 ⟨Nat.zero_le _, Nat.zero_le _⟩)) (W.eq (g2 := F0 m 8 ls []) rfl ?_)
  refine lv_aload_n hx hb d_T_worst_8 rfl (lv_at hl 0 rfl) ?_
  refine va_get (D := D) (ci := 0) (v := .ref (a 2)) (C := R_T) (T := F_T) (N := 7) hx hb hT in_T hown hK hP 0 rfl rfl 4 (by decide) (hT _ m413) (fun _ h9 => h9) rfl d_T_worst_9 ?_
  refine lv_iload_n hx hb d_T_worst_12 rfl (lv_at hl 1 rfl) ?_
  obtain ⟨r13, hcall, h⟩ := ob1_e h
  refine ro_i (va_Run.run (va_runV (As := [.int (iI x1)]) (rest := []) ⟨hx, hb, hml, hown, hts⟩ (c_Slacks_leastOfAll l D cI cJ cZ F a L_leastMoving L_leastFixed L_pathCount L_least N_period N_width N_size x1 r13 s.heap.size hcall) (cwV 1 hts (gd_V m871 m868 m869 m870 m9) rfl rfl rfl ⟨rfl, hc_Slacks_leastOfAll⟩ ⟨Nat.le_of_ble_eq_true rfl, Nat.le_of_ble_eq_true rfl⟩) (pc_V 1 7 [.int (iI x1)] hP hK hD0 hN [1, 2, 3] rfl rfl rfl rfl rfl) rfl rfl hl.1 rfl (lv_room (Nat.le_of_ble_eq_true rfl)) d_T_worst_13 ⟨Nat.zero_le _, Nat.zero_le _⟩)) (W.eq (g2 := F0 m 16 ls [.int (iI r13)]) rfl ?_)
  exact no_some h
abbrev rt_T_total : Room := { frames := 7, cells := 1, slots := 6, locals := 130 }
set_option maxHeartbeats 4000000 in
set_option maxRecDepth 100000 in
theorem t_T_total {l : Launch} (hfl : l.flags = flags0) (D : va_G) (cI cJ cZ : ClassId) (F : Nat) (a : Nat → Nat) (T_analysed : Int) (L_leastMoving : Int) (L_leastFixed : Int) (L_pathCount : Int) (L_least : Int → Int) (N_period : Int) (N_width : Int) (N_size : Int) (x1 : Int) (k : Nat) (sz : Nat) (h : g_T_total F T_analysed L_least N_size x1 = some k) : MetT l y_T_total w_T_total rt_T_total (PX D [(cI, .int), (cJ, .long), (cZ, .boolean)] [.ref (a 0), .int (iI x1)] ([(o_T a T_analysed), (o_L a L_leastMoving L_leastFixed L_pathCount), ((a 3), .inl (cI, 96, .inl (ia L_least))), (o_N a N_period N_width N_size)]) sz) k := by
  refine MetT.ofW (cc := prog_1_method_17_code) (maxL := 2) (ret := (Option.some Jvm.ClassFile.FieldType.int)) (by decide) rfl ?_
  intro p e s m args below meth c s₁ B hml hv
  obtain ⟨⟨rfl, hsz, hP, hK, hD0, hN⟩, hXW⟩ := hv
  have hx := B.exec
  have hb := B.bytes
  have hr := B.returns
  have hts := atoms_spec (ws := w_T_total) B.pre
  have hown : s.vm.findClass R_T = some m.cls := findClass_of_methodNamed B.named
  have hlocks := B.notSynchronized
  subst hsz
  have hno := B.noHandlers (hts _ List.mem_cons_self)
  have hl := lv_entry ([.ref (a 0), .int (iI x1)]) (n := 2) (Nat.le_of_ble_eq_true rfl)
  rw [lg_entry_eq]
  generalize (lg_sl ([.ref (a 0), .int (iI x1)]) ++ List.replicate (2 - (lg_sl ([.ref (a 0), .int (iI x1)])).length) Slot.unset).toArray = ls at hl ⊢
  have hl : lv_has ls 2 [(0, .ref (a 0)), (1, .int (iI x1))] := hl
  generalize (List.toArray ([.ref (a 0), .int (iI x1)] : List Value)) = args at hts ⊢
  have hT : ∀ w ∈ Tg, w.before args s = true := fun w h => hts w (List.mem_cons_of_mem _ h)
  obtain ⟨Q, hQ⟩ : ∃ Q, Q = QT below k s := ⟨_, rfl⟩
  rw [← hQ]
  rw [g_T_total] at h
  refine lv_aload_n hx hb d_T_total_0 rfl (lv_at hl 0 rfl) ?_
  rcases og_e h with hcall | ⟨hcallN, h⟩
  · subst hQ; exact wt_callV hno hlocks (As := []) (rest := []) ⟨hx, hb, hml, hown, hts⟩ (t_T_needAnalysis hfl D cI cJ cZ F a T_analysed k s.heap.size hcall) (cwV 0 hts (gd_V m813 m810 m812 sl_T_needAnalysis m1) rfl rfl rfl ⟨rfl, hc_T_needAnalysis⟩ ⟨Nat.le_of_ble_eq_true rfl, Nat.le_of_ble_eq_true rfl⟩) (px_V hXW 0 0 [] hP hK hD0 hN [0] rfl rfl rfl rfl rfl) rfl rfl hl.1 rfl (lv_room (Nat.le_of_ble_eq_true rfl)) rfl rfl d_T_total_1 ⟨Nat.le_of_ble_eq_true rfl, Nat.le_of_ble_eq_true rfl⟩
  obtain ⟨hcall, h⟩ := ob0_e h
  refine ro_v (va_Run.run (va_runV (As := []) (rest := []) ⟨hx, hb, hml, hown, hts⟩ (c_T_needAnalysis l D cI cJ cZ F a T_analysed s.heap.size hcall) (cwV 0 hts (gd_V m813 m810 m812 sl_T_needAnalysis m1) rfl rfl rfl ⟨rfl, hc_T_needAnalysis⟩ ⟨Nat.le_of_ble_eq_true rfl, Nat.le_of_ble_eq_true rfl⟩) (pc_V 0 0 [] hP hK hD0 hN [0] rfl rfl rfl rfl rfl) rfl rfl hl.1 rfl (lv_room (Nat.le_of_ble_eq_true rfl)) d_T_total_1 ⟨Nat.zero_le _, Nat.zero_le _⟩)) (W.eq (g2 := F0 m 4 ls []) rfl ?_)
  refine lv_iload_n hx hb d_T_total_4 rfl (lv_at hl 1 rfl) ?_
  rcases og_e h with hcall | ⟨hcallN, h⟩
  · subst hQ; exact wt_callS hno hlocks (As := [.int (iI x1)]) (rest := []) ⟨hx, hb, hml, hown, hts⟩ (t_T_needBit hfl D cI cJ cZ F a x1 k s.heap.size hcall) (cwS 1 hts (gd_S m867 m865 m866 m1) rfl rfl rfl ⟨rfl, hc_T_needBit⟩ ⟨Nat.le_of_ble_eq_true rfl, Nat.le_of_ble_eq_true rfl⟩) (px_S hXW [.int (iI x1)] hP hK hD0 hN [] rfl rfl rfl) rfl rfl hl.1 rfl (lv_room (Nat.le_of_ble_eq_true rfl)) rfl rfl d_T_total_5 ⟨Nat.le_of_ble_eq_true rfl, Nat.le_of_ble_eq_true rfl⟩
  obtain ⟨hcall, h⟩ := ob0_e h
  refine ro_v (va_Run.run (va_runS (As := [.int (iI x1)]) (rest := []) ⟨hx, hb, hml, hown, hts⟩ (c_T_needBit l D cI cJ cZ F a x1 s.heap.size hcall) (cwS 1 hts (gd_S m867 m865 m866 m1) rfl rfl rfl ⟨rfl, hc_T_needBit⟩ ⟨Nat.le_of_ble_eq_true rfl, Nat.le_of_ble_eq_true rfl⟩) (pc_S [.int (iI x1)] hP hK hD0 hN [] rfl rfl rfl) rfl rfl hl.1 rfl (lv_room (Nat.le_of_ble_eq_true rfl)) d_T_total_5 ⟨Nat.zero_le _, Nat.zero_le _⟩)) (W.eq (g2 := F0 m 8 ls []) rfl ?_)
  refine lv_aload_n hx hb d_T_total_8 rfl (lv_at hl 0 rfl) ?_
  refine va_get (D := D) (ci := 0) (v := .ref (a 2)) (C := R_T) (T := F_T) (N := 7) hx hb hT in_T hown hK hP 0 rfl rfl 4 (by decide) (hT _ m413) (fun _ h9 => h9) rfl d_T_total_9 ?_
  refine lv_iload_n hx hb d_T_total_12 rfl (lv_at hl 1 rfl) ?_
  obtain ⟨r13, hcall, h⟩ := ob1_e h
  refine ro_i (va_Run.run (va_runV (As := [.int (iI x1)]) (rest := []) ⟨hx, hb, hml, hown, hts⟩ (c_Slacks_sumBelowZero l D cI cJ cZ F a L_leastMoving L_leastFixed L_pathCount L_least N_period N_width N_size x1 r13 s.heap.size hcall) (cwV 1 hts (gd_V m882 m879 m880 m881 m9) rfl rfl rfl ⟨rfl, hc_Slacks_sumBelowZero⟩ ⟨Nat.le_of_ble_eq_true rfl, Nat.le_of_ble_eq_true rfl⟩) (pc_V 1 7 [.int (iI x1)] hP hK hD0 hN [1, 2, 3] rfl rfl rfl rfl rfl) rfl rfl hl.1 rfl (lv_room (Nat.le_of_ble_eq_true rfl)) d_T_total_13 ⟨Nat.zero_le _, Nat.zero_le _⟩)) (W.eq (g2 := F0 m 16 ls [.int (iI r13)]) rfl ?_)
  exact no_some h
abbrev rt_T_leastPeriod : Room := { frames := 7, cells := 1, slots := 6, locals := 130 }
set_option maxHeartbeats 4000000 in
set_option maxRecDepth 100000 in
theorem t_T_leastPeriod {l : Launch} (hfl : l.flags = flags0) (D : va_G) (cI cJ cZ : ClassId) (F : Nat) (a : Nat → Nat) (T_analysed : Int) (L_leastMoving : Int) (L_leastFixed : Int) (L_pathCount : Int) (N_period : Int) (N_width : Int) (N_size : Int) (k : Nat) (sz : Nat) (h : g_T_leastPeriod F T_analysed L_leastMoving L_leastFixed N_period N_width = some k) : MetT l y_T_leastPeriod w_T_leastPeriod rt_T_leastPeriod (PX D [(cI, .int), (cJ, .long), (cZ, .boolean)] [.ref (a 0)] ([(o_T a T_analysed), (o_L a L_leastMoving L_leastFixed L_pathCount), (o_N a N_period N_width N_size)]) sz) k := by
  refine MetT.ofW (cc := prog_1_method_18_code) (maxL := 1) (ret := (Option.some Jvm.ClassFile.FieldType.int)) (by decide) rfl ?_
  intro p e s m args below meth c s₁ B hml hv
  obtain ⟨⟨rfl, hsz, hP, hK, hD0, hN⟩, hXW⟩ := hv
  have hx := B.exec
  have hb := B.bytes
  have hr := B.returns
  have hts := atoms_spec (ws := w_T_leastPeriod) B.pre
  have hown : s.vm.findClass R_T = some m.cls := findClass_of_methodNamed B.named
  have hlocks := B.notSynchronized
  subst hsz
  have hno := B.noHandlers (hts _ List.mem_cons_self)
  have hl := lv_entry ([.ref (a 0)]) (n := 1) (Nat.le_of_ble_eq_true rfl)
  rw [lg_entry_eq]
  generalize (lg_sl ([.ref (a 0)]) ++ List.replicate (1 - (lg_sl ([.ref (a 0)])).length) Slot.unset).toArray = ls at hl ⊢
  have hl : lv_has ls 1 [(0, .ref (a 0))] := hl
  generalize (List.toArray ([.ref (a 0)] : List Value)) = args at hts ⊢
  have hT : ∀ w ∈ Tg, w.before args s = true := fun w h => hts w (List.mem_cons_of_mem _ h)
  obtain ⟨Q, hQ⟩ : ∃ Q, Q = QT below k s := ⟨_, rfl⟩
  rw [← hQ]
  rw [g_T_leastPeriod] at h
  refine lv_aload_n hx hb d_T_leastPeriod_0 rfl (lv_at hl 0 rfl) ?_
  rcases og_e h with hcall | ⟨hcallN, h⟩
  · subst hQ; exact wt_callV hno hlocks (As := []) (rest := []) ⟨hx, hb, hml, hown, hts⟩ (t_T_needAnalysis hfl D cI cJ cZ F a T_analysed k s.heap.size hcall) (cwV 0 hts (gd_V m813 m810 m812 sl_T_needAnalysis m1) rfl rfl rfl ⟨rfl, hc_T_needAnalysis⟩ ⟨Nat.le_of_ble_eq_true rfl, Nat.le_of_ble_eq_true rfl⟩) (px_V hXW 0 0 [] hP hK hD0 hN [0] rfl rfl rfl rfl rfl) rfl rfl hl.1 rfl (lv_room (Nat.le_of_ble_eq_true rfl)) rfl rfl d_T_leastPeriod_1 ⟨Nat.le_of_ble_eq_true rfl, Nat.le_of_ble_eq_true rfl⟩
  obtain ⟨hcall, h⟩ := ob0_e h
  refine ro_v (va_Run.run (va_runV (As := []) (rest := []) ⟨hx, hb, hml, hown, hts⟩ (c_T_needAnalysis l D cI cJ cZ F a T_analysed s.heap.size hcall) (cwV 0 hts (gd_V m813 m810 m812 sl_T_needAnalysis m1) rfl rfl rfl ⟨rfl, hc_T_needAnalysis⟩ ⟨Nat.le_of_ble_eq_true rfl, Nat.le_of_ble_eq_true rfl⟩) (pc_V 0 0 [] hP hK hD0 hN [0] rfl rfl rfl rfl rfl) rfl rfl hl.1 rfl (lv_room (Nat.le_of_ble_eq_true rfl)) d_T_leastPeriod_1 ⟨Nat.zero_le _, Nat.zero_le _⟩)) (W.eq (g2 := F0 m 4 ls []) rfl ?_)
  refine lv_aload_n hx hb d_T_leastPeriod_4 rfl (lv_at hl 0 rfl) ?_
  refine va_get (D := D) (ci := 0) (v := .ref (a 2)) (C := R_T) (T := F_T) (N := 7) hx hb hT in_T hown hK hP 0 rfl rfl 4 (by decide) (hT _ m413) (fun _ h9 => h9) rfl d_T_leastPeriod_5 ?_
  obtain ⟨r8, hcall, h⟩ := ob1_e h
  refine ro_i (va_Run.run (va_runV (As := []) (rest := []) ⟨hx, hb, hml, hown, hts⟩ (c_Slacks_leastPeriodKept l D cI cJ cZ F a L_leastMoving L_leastFixed L_pathCount N_period N_width N_size r8 s.heap.size hcall) (cwV 0 hts (gd_V m893 m890 m891 m892 m9) rfl rfl rfl ⟨rfl, hc_Slacks_leastPeriodKept⟩ ⟨Nat.le_of_ble_eq_true rfl, Nat.le_of_ble_eq_true rfl⟩) (pc_V 1 7 [] hP hK hD0 hN [1, 2] rfl rfl rfl rfl rfl) rfl rfl hl.1 rfl (lv_room (Nat.le_of_ble_eq_true rfl)) d_T_leastPeriod_8 ⟨Nat.zero_le _, Nat.zero_le _⟩)) (W.eq (g2 := F0 m 11 ls [.int (iI r8)]) rfl ?_)
  exact no_some h
abbrev rt_T_paths : Room := { frames := 7, cells := 1, slots := 6, locals := 130 }
set_option maxHeartbeats 4000000 in
set_option maxRecDepth 100000 in
theorem t_T_paths {l : Launch} (hfl : l.flags = flags0) (D : va_G) (cI cJ cZ : ClassId) (F : Nat) (a : Nat → Nat) (T_analysed : Int) (L_leastMoving : Int) (L_leastFixed : Int) (L_pathCount : Int) (k : Nat) (sz : Nat) (h : g_T_paths F T_analysed L_pathCount = some k) : MetT l y_T_paths w_T_paths rt_T_paths (PX D [(cI, .int), (cJ, .long), (cZ, .boolean)] [.ref (a 0)] ([(o_T a T_analysed), (o_L a L_leastMoving L_leastFixed L_pathCount)]) sz) k := by
  refine MetT.ofW (cc := prog_1_method_19_code) (maxL := 1) (ret := (Option.some Jvm.ClassFile.FieldType.int)) (by decide) rfl ?_
  intro p e s m args below meth c s₁ B hml hv
  obtain ⟨⟨rfl, hsz, hP, hK, hD0, hN⟩, hXW⟩ := hv
  have hx := B.exec
  have hb := B.bytes
  have hr := B.returns
  have hts := atoms_spec (ws := w_T_paths) B.pre
  have hown : s.vm.findClass R_T = some m.cls := findClass_of_methodNamed B.named
  have hlocks := B.notSynchronized
  subst hsz
  have hno := B.noHandlers (hts _ List.mem_cons_self)
  have hl := lv_entry ([.ref (a 0)]) (n := 1) (Nat.le_of_ble_eq_true rfl)
  rw [lg_entry_eq]
  generalize (lg_sl ([.ref (a 0)]) ++ List.replicate (1 - (lg_sl ([.ref (a 0)])).length) Slot.unset).toArray = ls at hl ⊢
  have hl : lv_has ls 1 [(0, .ref (a 0))] := hl
  generalize (List.toArray ([.ref (a 0)] : List Value)) = args at hts ⊢
  have hT : ∀ w ∈ Tg, w.before args s = true := fun w h => hts w (List.mem_cons_of_mem _ h)
  obtain ⟨Q, hQ⟩ : ∃ Q, Q = QT below k s := ⟨_, rfl⟩
  rw [← hQ]
  rw [g_T_paths] at h
  refine lv_aload_n hx hb d_T_paths_0 rfl (lv_at hl 0 rfl) ?_
  rcases og_e h with hcall | ⟨hcallN, h⟩
  · subst hQ; exact wt_callV hno hlocks (As := []) (rest := []) ⟨hx, hb, hml, hown, hts⟩ (t_T_needAnalysis hfl D cI cJ cZ F a T_analysed k s.heap.size hcall) (cwV 0 hts (gd_V m813 m810 m812 sl_T_needAnalysis m1) rfl rfl rfl ⟨rfl, hc_T_needAnalysis⟩ ⟨Nat.le_of_ble_eq_true rfl, Nat.le_of_ble_eq_true rfl⟩) (px_V hXW 0 0 [] hP hK hD0 hN [0] rfl rfl rfl rfl rfl) rfl rfl hl.1 rfl (lv_room (Nat.le_of_ble_eq_true rfl)) rfl rfl d_T_paths_1 ⟨Nat.le_of_ble_eq_true rfl, Nat.le_of_ble_eq_true rfl⟩
  obtain ⟨hcall, h⟩ := ob0_e h
  refine ro_v (va_Run.run (va_runV (As := []) (rest := []) ⟨hx, hb, hml, hown, hts⟩ (c_T_needAnalysis l D cI cJ cZ F a T_analysed s.heap.size hcall) (cwV 0 hts (gd_V m813 m810 m812 sl_T_needAnalysis m1) rfl rfl rfl ⟨rfl, hc_T_needAnalysis⟩ ⟨Nat.le_of_ble_eq_true rfl, Nat.le_of_ble_eq_true rfl⟩) (pc_V 0 0 [] hP hK hD0 hN [0] rfl rfl rfl rfl rfl) rfl rfl hl.1 rfl (lv_room (Nat.le_of_ble_eq_true rfl)) d_T_paths_1 ⟨Nat.zero_le _, Nat.zero_le _⟩)) (W.eq (g2 := F0 m 4 ls []) rfl ?_)
  refine lv_aload_n hx hb d_T_paths_4 rfl (lv_at hl 0 rfl) ?_
  refine va_get (D := D) (ci := 0) (v := .ref (a 2)) (C := R_T) (T := F_T) (N := 7) hx hb hT in_T hown hK hP 0 rfl rfl 4 (by decide) (hT _ m413) (fun _ h9 => h9) rfl d_T_paths_5 ?_
  refine va_get (D := D) (ci := 7) (v := .int (iI L_pathCount)) (C := R_Slacks) (T := F_Slacks) (N := 8) hx hb hT in_Slacks hown hK hP 1 rfl rfl 7 (by decide) (hT _ m325) (fun _ h9 => h9) rfl d_T_paths_8 ?_
  refine lv_sipush (v := iI 4000) hx hb d_T_paths_11 (by decide) ?_
  obtain ⟨hg0, h⟩ := gr_e h
  refine zc_le hx hb d_T_paths_14 rfl hg0 (by decide) (fun hc => ?_) (fun hc => ?_)
  · replace h := if_t hc h
    refine lv_aload_n hx hb d_T_paths_22 rfl (lv_at hl 0 rfl) ?_
    refine va_get (D := D) (ci := 0) (v := .ref (a 2)) (C := R_T) (T := F_T) (N := 7) hx hb hT in_T hown hK hP 0 rfl rfl 4 (by decide) (hT _ m413) (fun _ h9 => h9) rfl d_T_paths_23 ?_
    refine va_get (D := D) (ci := 7) (v := .int (iI L_pathCount)) (C := R_Slacks) (T := F_Slacks) (N := 8) hx hb hT in_Slacks hown hK hP 1 rfl rfl 7 (by decide) (hT _ m325) (fun _ h9 => h9) rfl d_T_paths_26 ?_
    exact no_some h
  · replace h := if_f hc h
    refine lv_bipush (v := iI (-3)) hx hb d_T_paths_17 (by decide) ?_
    refine lv_goto hx hb d_T_paths_19 rfl ?_
    exact no_some h
abbrev rt_T_needPath : Room := { frames := 7, cells := 1, slots := 6, locals := 130 }
set_option maxHeartbeats 4000000 in
set_option maxRecDepth 100000 in
theorem t_T_needPath {l : Launch} (hfl : l.flags = flags0) (D : va_G) (cI cJ cZ : ClassId) (F : Nat) (a : Nat → Nat) (T_analysed : Int) (L_leastMoving : Int) (L_leastFixed : Int) (L_pathCount : Int) (x1 : Int) (x2 : Int) (k : Nat) (sz : Nat) (h : g_T_needPath F T_analysed L_pathCount x1 x2 = some k) : MetT l y_T_needPath w_T_needPath rt_T_needPath (PX D [(cI, .int), (cJ, .long), (cZ, .boolean)] [.ref (a 0), .int (iI x1), .int (iI x2)] ([(o_T a T_analysed), (o_L a L_leastMoving L_leastFixed L_pathCount)]) sz) k := by
  refine MetT.ofW (cc := prog_1_method_24_code) (maxL := 3) (ret := (Option.none : Option Jvm.ClassFile.FieldType)) (by decide) rfl ?_
  intro p e s m args below meth c s₁ B hml hv
  obtain ⟨⟨rfl, hsz, hP, hK, hD0, hN⟩, hXW⟩ := hv
  have hx := B.exec
  have hb := B.bytes
  have hr := B.returns
  have hts := atoms_spec (ws := w_T_needPath) B.pre
  have hown : s.vm.findClass R_T = some m.cls := findClass_of_methodNamed B.named
  have hlocks := B.notSynchronized
  subst hsz
  have hno := B.noHandlers (hts _ List.mem_cons_self)
  have hl := lv_entry ([.ref (a 0), .int (iI x1), .int (iI x2)]) (n := 3) (Nat.le_of_ble_eq_true rfl)
  rw [lg_entry_eq]
  generalize (lg_sl ([.ref (a 0), .int (iI x1), .int (iI x2)]) ++ List.replicate (3 - (lg_sl ([.ref (a 0), .int (iI x1), .int (iI x2)])).length) Slot.unset).toArray = ls at hl ⊢
  have hl : lv_has ls 3 [(0, .ref (a 0)), (1, .int (iI x1)), (2, .int (iI x2))] := hl
  generalize (List.toArray ([.ref (a 0), .int (iI x1), .int (iI x2)] : List Value)) = args at hts ⊢
  have hT : ∀ w ∈ Tg, w.before args s = true := fun w h => hts w (List.mem_cons_of_mem _ h)
  obtain ⟨Q, hQ⟩ : ∃ Q, Q = QT below k s := ⟨_, rfl⟩
  rw [← hQ]
  rw [g_T_needPath] at h
  refine lv_aload_n hx hb d_T_needPath_0 rfl (lv_at hl 0 rfl) ?_
  rcases og_e h with hcall | ⟨hcallN, h⟩
  · subst hQ; exact wt_callV hno hlocks (As := []) (rest := []) ⟨hx, hb, hml, hown, hts⟩ (t_T_needAnalysis hfl D cI cJ cZ F a T_analysed k s.heap.size hcall) (cwV 0 hts (gd_V m813 m810 m812 sl_T_needAnalysis m1) rfl rfl rfl ⟨rfl, hc_T_needAnalysis⟩ ⟨Nat.le_of_ble_eq_true rfl, Nat.le_of_ble_eq_true rfl⟩) (px_V hXW 0 0 [] hP hK hD0 hN [0] rfl rfl rfl rfl rfl) rfl rfl hl.1 rfl (lv_room (Nat.le_of_ble_eq_true rfl)) rfl rfl d_T_needPath_1 ⟨Nat.le_of_ble_eq_true rfl, Nat.le_of_ble_eq_true rfl⟩
  obtain ⟨hcall, h⟩ := ob0_e h
  refine ro_v (va_Run.run (va_runV (As := []) (rest := []) ⟨hx, hb, hml, hown, hts⟩ (c_T_needAnalysis l D cI cJ cZ F a T_analysed s.heap.size hcall) (cwV 0 hts (gd_V m813 m810 m812 sl_T_needAnalysis m1) rfl rfl rfl ⟨rfl, hc_T_needAnalysis⟩ ⟨Nat.le_of_ble_eq_true rfl, Nat.le_of_ble_eq_true rfl⟩) (pc_V 0 0 [] hP hK hD0 hN [0] rfl rfl rfl rfl rfl) rfl rfl hl.1 rfl (lv_room (Nat.le_of_ble_eq_true rfl)) d_T_needPath_1 ⟨Nat.zero_le _, Nat.zero_le _⟩)) (W.eq (g2 := F0 m 4 ls []) rfl ?_)
  refine lv_aload_n hx hb d_T_needPath_4 rfl (lv_at hl 0 rfl) ?_
  refine va_get (D := D) (ci := 0) (v := .ref (a 2)) (C := R_T) (T := F_T) (N := 7) hx hb hT in_T hown hK hP 0 rfl rfl 4 (by decide) (hT _ m413) (fun _ h9 => h9) rfl d_T_needPath_5 ?_
  refine va_get (D := D) (ci := 7) (v := .int (iI L_pathCount)) (C := R_Slacks) (T := F_Slacks) (N := 8) hx hb hT in_Slacks hown hK hP 1 rfl rfl 7 (by decide) (hT _ m325) (fun _ h9 => h9) rfl d_T_needPath_8 ?_
  refine lv_sipush (v := iI 4000) hx hb d_T_needPath_11 (by decide) ?_
  obtain ⟨hg0, h⟩ := gr_e h
  refine zc_le hx hb d_T_needPath_14 rfl hg0 (by decide) (fun hc => ?_) (fun hc => ?_)
  · replace h := if_t hc h
    refine lv_iload_n hx hb d_T_needPath_25 rfl (lv_at hl 1 rfl) ?_
    rcases og_e h with hcall | ⟨hcallN, h⟩
    · subst hQ; exact wt_callS hno hlocks (As := [.int (iI x1)]) (rest := []) ⟨hx, hb, hml, hown, hts⟩ (t_T_needBit hfl D cI cJ cZ F a x1 k s.heap.size hcall) (cwS 1 hts (gd_S m867 m865 m866 m1) rfl rfl rfl ⟨rfl, hc_T_needBit⟩ ⟨Nat.le_of_ble_eq_true rfl, Nat.le_of_ble_eq_true rfl⟩) (px_S hXW [.int (iI x1)] hP hK hD0 hN [] rfl rfl rfl) rfl rfl hl.1 rfl (lv_room (Nat.le_of_ble_eq_true rfl)) rfl rfl d_T_needPath_26 ⟨Nat.le_of_ble_eq_true rfl, Nat.le_of_ble_eq_true rfl⟩
    obtain ⟨hcall, h⟩ := ob0_e h
    refine ro_v (va_Run.run (va_runS (As := [.int (iI x1)]) (rest := []) ⟨hx, hb, hml, hown, hts⟩ (c_T_needBit l D cI cJ cZ F a x1 s.heap.size hcall) (cwS 1 hts (gd_S m867 m865 m866 m1) rfl rfl rfl ⟨rfl, hc_T_needBit⟩ ⟨Nat.le_of_ble_eq_true rfl, Nat.le_of_ble_eq_true rfl⟩) (pc_S [.int (iI x1)] hP hK hD0 hN [] rfl rfl rfl) rfl rfl hl.1 rfl (lv_room (Nat.le_of_ble_eq_true rfl)) d_T_needPath_26 ⟨Nat.zero_le _, Nat.zero_le _⟩)) (W.eq (g2 := F0 m 29 ls []) rfl ?_)
    refine lv_iload_n hx hb d_T_needPath_29 rfl (lv_at hl 2 rfl) ?_
    refine zv_iconst hx hb d_T_needPath_30 ?_
    refine lv_bipush (v := iI 20) hx hb d_T_needPath_31 (by decide) ?_
    refine lv_aload_n hx hb d_T_needPath_33 rfl (lv_at hl 0 rfl) ?_
    refine va_get (D := D) (ci := 0) (v := .ref (a 2)) (C := R_T) (T := F_T) (N := 7) hx hb hT in_T hown hK hP 0 rfl rfl 4 (by decide) (hT _ m413) (fun _ h9 => h9) rfl d_T_needPath_34 ?_
    refine va_get (D := D) (ci := 7) (v := .int (iI L_pathCount)) (C := R_Slacks) (T := F_Slacks) (N := 8) hx hb hT in_Slacks hown hK hP 1 rfl rfl 7 (by decide) (hT _ m325) (fun _ h9 => h9) rfl d_T_needPath_37 ?_
    obtain ⟨hg1, h⟩ := gr_e h
    refine zv_mmin hx hb (hml.trans hl.1.symm) hown (hT _ m914) (hT _ m496) (hT _ m18) (hT _ m_code_Math_min) (Nat.le_of_ble_eq_true rfl) (Nat.le_of_ble_eq_true rfl) (Nat.zero_le _) (Nat.zero_le _) (by decide) hg1 d_T_needPath_40 ?_
    refine zv_iconst hx hb d_T_needPath_43 ?_
    refine zv_isub hx hb d_T_needPath_44 ?_
    obtain ⟨r45, hcall, h⟩ := ob1_e h
    refine ro_i (va_Run.run (va_runS (As := [.int (iI x2), .int (iI 0), .int (iI ((min 20 L_pathCount) - 1))]) (rest := []) ⟨hx, hb, hml, hown, hts⟩ (c_T_isWithin l D cI cJ cZ F a x2 0 ((min 20 L_pathCount) - 1) r45 s.heap.size hcall) (cwS 3 hts (gd_S m573 m657 m572 m1) rfl rfl rfl ⟨rfl, hc_T_isWithin⟩ ⟨Nat.le_of_ble_eq_true rfl, Nat.le_of_ble_eq_true rfl⟩) (pc_S [.int (iI x2), .int (iI 0), .int (iI ((min 20 L_pathCount) - 1))] hP hK hD0 hN [] rfl rfl rfl) rfl rfl hl.1 rfl (lv_room (Nat.le_of_ble_eq_true rfl)) d_T_needPath_45 ⟨Nat.zero_le _, Nat.zero_le _⟩)) (W.eq (g2 := F0 m 48 ls [.int (iI r45)]) rfl ?_)
    obtain ⟨hg0, h⟩ := gr_e h
    refine zi_ne hx hb d_T_needPath_48 rfl hg0 (fun hc => ?_) (fun hc => ?_)
    · replace h := if_f hc h
      exact no_some h
    · replace h := if_t hc h
      obtain rfl := so1 h
      subst hQ; exact wt_throw (k := 2) (cls := "java/lang/IndexOutOfBoundsException") hfl hno hlocks hx hb hml hl.1 rfl (by decide) (by decide) hown (hT _ m915) (hT _ m916) (hT _ m20) (oa_T_227_229 hT hXW) d_T_needPath_51 d_T_needPath_54 d_T_needPath_55 d_T_needPath_58 (Nat.le_of_ble_eq_true rfl) (Nat.le_of_ble_eq_true rfl) (Nat.le_of_ble_eq_true rfl) ⟨(Nat.le_of_ble_eq_true rfl), (Nat.le_of_ble_eq_true rfl)⟩
  · replace h := if_f hc h
    obtain rfl := so1 h
    subst hQ; exact wt_throw (k := 1) (cls := "java/lang/IllegalStateException") hfl hno hlocks hx hb hml hl.1 rfl (by decide) (by decide) hown (hT _ m814) (hT _ m815) (hT _ m19) (oa_T_219_221 hT hXW) d_T_needPath_17 d_T_needPath_20 d_T_needPath_21 d_T_needPath_24 (Nat.le_of_ble_eq_true rfl) (Nat.le_of_ble_eq_true rfl) (Nat.le_of_ble_eq_true rfl) ⟨(Nat.le_of_ble_eq_true rfl), (Nat.le_of_ble_eq_true rfl)⟩
abbrev rt_T_path : Room := { frames := 8, cells := 1, slots := 6, locals := 152 }
set_option maxHeartbeats 4000000 in
set_option maxRecDepth 100000 in
theorem t_T_path {l : Launch} (hfl : l.flags = flags0) (D : va_G) (cI cJ cZ : ClassId) (F : Nat) (a : Nat → Nat) (T_analysed : Int) (L_leastMoving : Int) (L_leastFixed : Int) (L_pathCount : Int) (P_start : Int) (P_end : Int) (P_endChange : Int) (P_isCollected : Int) (P_trail : Int → Int) (P_row : Int → Int) (R_leastMoving : Int) (R_leastFixed : Int) (R_leastHold : Int) (R_setup : Int → Int) (R_hold : Int → Int) (C_size : Int) (C_elements : Int → Int) (C_parent : Int → Int) (C_length : Int → Int) (C_early : Int → Int) (C_late : Int → Int) (C_count : Int → Int) (C_last : Int → Int) (C_base : Int → Int) (C_wayEarly : Int → Int) (C_wayLate : Int → Int) (S_count : Int → Int) (S_early : Int → Int) (S_late : Int → Int) (O_count : Int) (O_gates : Int → Int) (N_period : Int) (N_width : Int) (N_size : Int) (N_kind : Int → Int) (N_pins : Int → Int) (N_source : Int → Int) (N_wireEarly : Int → Int) (N_wireLate : Int → Int) (N_senses : Int → Int) (N_gateEarly : Int → Int) (N_gateLate : Int → Int) (N_startEarly : Int → Int) (N_startLate : Int → Int) (N_setups : Int → Int) (N_holds : Int → Int) (Y_size : Int) (Y_slotOf : Int → Int) (Y_slacks : Int → Int) (Y_lengths : Int → Int) (Y_rows : Int → Int) (B_size : Int) (B_slotOf : Int → Int) (B_slacks : Int → Int) (B_lengths : Int → Int) (B_rows : Int → Int) (x1 : Int) (x2 : Int) (k : Nat) (sz : Nat) (h : g_T_path F T_analysed L_pathCount x1 x2 = some k) : MetT l y_T_path w_T_path rt_T_path (PX D [(cI, .int), (cJ, .long), (cZ, .boolean)] [.ref (a 0), .int (iI x1), .int (iI x2)] ([(o_T a T_analysed), (o_L a L_leastMoving L_leastFixed L_pathCount), (o_P a P_start P_end P_endChange P_isCollected), ((a 5), .inl (cI, 48, .inl (ia P_trail))), ((a 6), .inl (cI, 144, .inl (ia P_row))), (o_R a R_leastMoving R_leastFixed R_leastHold), ((a 8), .inl (cI, 64, .inl (ia R_setup))), ((a 9), .inl (cI, 64, .inl (ia R_hold))), (o_C a C_size), ((a 12), .inl (cI, 770, .inl (ia C_elements))), ((a 13), .inl (cI, 770, .inl (ia C_parent))), ((a 14), .inl (cI, 770, .inl (ia C_length))), ((a 15), .inl (cI, 770, .inl (ia C_early))), ((a 16), .inl (cI, 770, .inl (ia C_late))), ((a 19), .inl (cI, 48, .inl (ia C_count))), ((a 20), .inl (cI, 384, .inl (ia C_last))), ((a 21), .inl (cI, 384, .inl (ia C_base))), ((a 22), .inl (cI, 384, .inl (ia C_wayEarly))), ((a 23), .inl (cI, 384, .inl (ia C_wayLate))), (o_S a), ((a 29), .inl (cI, 96, .inl (ia S_count))), ((a 30), .inl (cI, 96, .inl (ia S_early))), ((a 31), .inl (cI, 96, .inl (ia S_late))), (o_O a O_count), ((a 42), .inl (cI, 48, .inl (ia O_gates))), (o_N a N_period N_width N_size), ((a 44), .inl (cI, 48, .inl (ia N_kind))), ((a 45), .inl (cI, 48, .inl (ia N_pins))), ((a 46), .inl (cI, 144, .inl (ia N_source))), ((a 47), .inl (cI, 144, .inl (ia N_wireEarly))), ((a 48), .inl (cI, 144, .inl (ia N_wireLate))), ((a 49), .inl (cI, 144, .inl (ia N_senses))), ((a 50), .inl (cI, 288, .inl (ia N_gateEarly))), ((a 51), .inl (cI, 288, .inl (ia N_gateLate))), ((a 52), .inl (cI, 96, .inl (ia N_startEarly))), ((a 53), .inl (cI, 96, .inl (ia N_startLate))), ((a 54), .inl (cI, 96, .inl (ia N_setups))), ((a 55), .inl (cI, 96, .inl (ia N_holds))), (o_Y a Y_size), ((a 57), .inl (cI, 20, .inl (ia Y_slotOf))), ((a 58), .inl (cI, 20, .inl (ia Y_slacks))), ((a 59), .inl (cI, 20, .inl (ia Y_lengths))), ((a 60), .inl (cI, 2880, .inl (ia Y_rows))), (o_B a B_size), ((a 62), .inl (cI, 20, .inl (ia B_slotOf))), ((a 63), .inl (cI, 20, .inl (ia B_slacks))), ((a 64), .inl (cI, 20, .inl (ia B_lengths))), ((a 65), .inl (cI, 2880, .inl (ia B_rows)))]) sz) k := by
  refine MetT.ofW (cc := prog_1_method_20_code) (maxL := 3) (ret := (Option.some Jvm.ClassFile.FieldType.int)) (by decide) rfl ?_
  intro p e s m args below meth c s₁ B hml hv
  obtain ⟨⟨rfl, hsz, hP, hK, hD0, hN⟩, hXW⟩ := hv
  have hx := B.exec
  have hb := B.bytes
  have hr := B.returns
  have hts := atoms_spec (ws := w_T_path) B.pre
  have hown : s.vm.findClass R_T = some m.cls := findClass_of_methodNamed B.named
  have hlocks := B.notSynchronized
  subst hsz
  have hno := B.noHandlers (hts _ List.mem_cons_self)
  have hl := lv_entry ([.ref (a 0), .int (iI x1), .int (iI x2)]) (n := 3) (Nat.le_of_ble_eq_true rfl)
  rw [lg_entry_eq]
  generalize (lg_sl ([.ref (a 0), .int (iI x1), .int (iI x2)]) ++ List.replicate (3 - (lg_sl ([.ref (a 0), .int (iI x1), .int (iI x2)])).length) Slot.unset).toArray = ls at hl ⊢
  have hl : lv_has ls 3 [(0, .ref (a 0)), (1, .int (iI x1)), (2, .int (iI x2))] := hl
  generalize (List.toArray ([.ref (a 0), .int (iI x1), .int (iI x2)] : List Value)) = args at hts ⊢
  have hT : ∀ w ∈ Tg, w.before args s = true := fun w h => hts w (List.mem_cons_of_mem _ h)
  obtain ⟨Q, hQ⟩ : ∃ Q, Q = QT below k s := ⟨_, rfl⟩
  rw [← hQ]
  rw [g_T_path] at h
  refine lv_aload_n hx hb d_T_path_0 rfl (lv_at hl 0 rfl) ?_
  refine lv_iload_n hx hb d_T_path_1 rfl (lv_at hl 1 rfl) ?_
  refine lv_iload_n hx hb d_T_path_2 rfl (lv_at hl 2 rfl) ?_
  rcases og_e h with hcall | ⟨hcallN, h⟩
  · subst hQ; exact wt_callV hno hlocks (As := [.int (iI x1), .int (iI x2)]) (rest := []) ⟨hx, hb, hml, hown, hts⟩ (t_T_needPath hfl D cI cJ cZ F a T_analysed L_leastMoving L_leastFixed L_pathCount x1 x2 k s.heap.size hcall) (cwV 2 hts (gd_V m913 m910 m912 sl_T_needPath m1) rfl rfl rfl ⟨rfl, hc_T_needPath⟩ ⟨Nat.le_of_ble_eq_true rfl, Nat.le_of_ble_eq_true rfl⟩) (px_V hXW 0 0 [.int (iI x1), .int (iI x2)] hP hK hD0 hN [0, 1] rfl rfl rfl rfl rfl) rfl rfl hl.1 rfl (lv_room (Nat.le_of_ble_eq_true rfl)) rfl rfl d_T_path_3 ⟨Nat.le_of_ble_eq_true rfl, Nat.le_of_ble_eq_true rfl⟩
  obtain ⟨hcall, h⟩ := ob0_e h
  refine ro_v (va_Run.run (va_runV (As := [.int (iI x1), .int (iI x2)]) (rest := []) ⟨hx, hb, hml, hown, hts⟩ (c_T_needPath l D cI cJ cZ F a T_analysed L_leastMoving L_leastFixed L_pathCount x1 x2 s.heap.size hcall) (cwV 2 hts (gd_V m913 m910 m912 sl_T_needPath m1) rfl rfl rfl ⟨rfl, hc_T_needPath⟩ ⟨Nat.le_of_ble_eq_true rfl, Nat.le_of_ble_eq_true rfl⟩) (pc_V 0 0 [.int (iI x1), .int (iI x2)] hP hK hD0 hN [0, 1] rfl rfl rfl rfl rfl) rfl rfl hl.1 rfl (lv_room (Nat.le_of_ble_eq_true rfl)) d_T_path_3 ⟨Nat.zero_le _, Nat.zero_le _⟩)) (W.eq (g2 := F0 m 6 ls []) rfl ?_)
  refine lv_aload_n hx hb d_T_path_6 rfl (lv_at hl 0 rfl) ?_
  refine va_get (D := D) (ci := 0) (v := .ref (a 4)) (C := R_T) (T := F_T) (N := 7) hx hb hT in_T hown hK hP 0 rfl rfl 5 (by decide) (hT _ m414) (fun _ h9 => h9) rfl d_T_path_7 ?_
  exact no_some h
abbrev rt_T_element : Room := { frames := 8, cells := 1, slots := 6, locals := 152 }
set_option maxHeartbeats 4000000 in
set_option maxRecDepth 100000 in
theorem t_T_element {l : Launch} (hfl : l.flags = flags0) (D : va_G) (cI cJ cZ : ClassId) (F : Nat) (a : Nat → Nat) (T_analysed : Int) (L_leastMoving : Int) (L_leastFixed : Int) (L_pathCount : Int) (P_start : Int) (P_end : Int) (P_endChange : Int) (P_isCollected : Int) (P_trail : Int → Int) (P_row : Int → Int) (R_leastMoving : Int) (R_leastFixed : Int) (R_leastHold : Int) (R_setup : Int → Int) (R_hold : Int → Int) (C_size : Int) (C_elements : Int → Int) (C_parent : Int → Int) (C_length : Int → Int) (C_early : Int → Int) (C_late : Int → Int) (C_count : Int → Int) (C_last : Int → Int) (C_base : Int → Int) (C_wayEarly : Int → Int) (C_wayLate : Int → Int) (S_count : Int → Int) (S_early : Int → Int) (S_late : Int → Int) (O_count : Int) (O_gates : Int → Int) (N_period : Int) (N_width : Int) (N_size : Int) (N_kind : Int → Int) (N_pins : Int → Int) (N_source : Int → Int) (N_wireEarly : Int → Int) (N_wireLate : Int → Int) (N_senses : Int → Int) (N_gateEarly : Int → Int) (N_gateLate : Int → Int) (N_startEarly : Int → Int) (N_startLate : Int → Int) (N_setups : Int → Int) (N_holds : Int → Int) (Y_size : Int) (Y_slotOf : Int → Int) (Y_slacks : Int → Int) (Y_lengths : Int → Int) (Y_rows : Int → Int) (B_size : Int) (B_slotOf : Int → Int) (B_slacks : Int → Int) (B_lengths : Int → Int) (B_rows : Int → Int) (x1 : Int) (x2 : Int) (x3 : Int) (k : Nat) (sz : Nat) (h : g_T_element F T_analysed L_pathCount x1 x2 = some k) : MetT l y_T_element w_T_element rt_T_element (PX D [(cI, .int), (cJ, .long), (cZ, .boolean)] [.ref (a 0), .int (iI x1), .int (iI x2), .int (iI x3)] ([(o_T a T_analysed), (o_L a L_leastMoving L_leastFixed L_pathCount), (o_P a P_start P_end P_endChange P_isCollected), ((a 5), .inl (cI, 48, .inl (ia P_trail))), ((a 6), .inl (cI, 144, .inl (ia P_row))), (o_R a R_leastMoving R_leastFixed R_leastHold), ((a 8), .inl (cI, 64, .inl (ia R_setup))), ((a 9), .inl (cI, 64, .inl (ia R_hold))), (o_C a C_size), ((a 12), .inl (cI, 770, .inl (ia C_elements))), ((a 13), .inl (cI, 770, .inl (ia C_parent))), ((a 14), .inl (cI, 770, .inl (ia C_length))), ((a 15), .inl (cI, 770, .inl (ia C_early))), ((a 16), .inl (cI, 770, .inl (ia C_late))), ((a 19), .inl (cI, 48, .inl (ia C_count))), ((a 20), .inl (cI, 384, .inl (ia C_last))), ((a 21), .inl (cI, 384, .inl (ia C_base))), ((a 22), .inl (cI, 384, .inl (ia C_wayEarly))), ((a 23), .inl (cI, 384, .inl (ia C_wayLate))), (o_S a), ((a 29), .inl (cI, 96, .inl (ia S_count))), ((a 30), .inl (cI, 96, .inl (ia S_early))), ((a 31), .inl (cI, 96, .inl (ia S_late))), (o_O a O_count), ((a 42), .inl (cI, 48, .inl (ia O_gates))), (o_N a N_period N_width N_size), ((a 44), .inl (cI, 48, .inl (ia N_kind))), ((a 45), .inl (cI, 48, .inl (ia N_pins))), ((a 46), .inl (cI, 144, .inl (ia N_source))), ((a 47), .inl (cI, 144, .inl (ia N_wireEarly))), ((a 48), .inl (cI, 144, .inl (ia N_wireLate))), ((a 49), .inl (cI, 144, .inl (ia N_senses))), ((a 50), .inl (cI, 288, .inl (ia N_gateEarly))), ((a 51), .inl (cI, 288, .inl (ia N_gateLate))), ((a 52), .inl (cI, 96, .inl (ia N_startEarly))), ((a 53), .inl (cI, 96, .inl (ia N_startLate))), ((a 54), .inl (cI, 96, .inl (ia N_setups))), ((a 55), .inl (cI, 96, .inl (ia N_holds))), (o_Y a Y_size), ((a 57), .inl (cI, 20, .inl (ia Y_slotOf))), ((a 58), .inl (cI, 20, .inl (ia Y_slacks))), ((a 59), .inl (cI, 20, .inl (ia Y_lengths))), ((a 60), .inl (cI, 2880, .inl (ia Y_rows))), (o_B a B_size), ((a 62), .inl (cI, 20, .inl (ia B_slotOf))), ((a 63), .inl (cI, 20, .inl (ia B_slacks))), ((a 64), .inl (cI, 20, .inl (ia B_lengths))), ((a 65), .inl (cI, 2880, .inl (ia B_rows)))]) sz) k := by
  refine MetT.ofW (cc := prog_1_method_21_code) (maxL := 4) (ret := (Option.some Jvm.ClassFile.FieldType.int)) (by decide) rfl ?_
  intro p e s m args below meth c s₁ B hml hv
  obtain ⟨⟨rfl, hsz, hP, hK, hD0, hN⟩, hXW⟩ := hv
  have hx := B.exec
  have hb := B.bytes
  have hr := B.returns
  have hts := atoms_spec (ws := w_T_element) B.pre
  have hown : s.vm.findClass R_T = some m.cls := findClass_of_methodNamed B.named
  have hlocks := B.notSynchronized
  subst hsz
  have hno := B.noHandlers (hts _ List.mem_cons_self)
  have hl := lv_entry ([.ref (a 0), .int (iI x1), .int (iI x2), .int (iI x3)]) (n := 4) (Nat.le_of_ble_eq_true rfl)
  rw [lg_entry_eq]
  generalize (lg_sl ([.ref (a 0), .int (iI x1), .int (iI x2), .int (iI x3)]) ++ List.replicate (4 - (lg_sl ([.ref (a 0), .int (iI x1), .int (iI x2), .int (iI x3)])).length) Slot.unset).toArray = ls at hl ⊢
  have hl : lv_has ls 4 [(0, .ref (a 0)), (1, .int (iI x1)), (2, .int (iI x2)), (3, .int (iI x3))] := hl
  generalize (List.toArray ([.ref (a 0), .int (iI x1), .int (iI x2), .int (iI x3)] : List Value)) = args at hts ⊢
  have hT : ∀ w ∈ Tg, w.before args s = true := fun w h => hts w (List.mem_cons_of_mem _ h)
  obtain ⟨Q, hQ⟩ : ∃ Q, Q = QT below k s := ⟨_, rfl⟩
  rw [← hQ]
  rw [g_T_element] at h
  refine lv_aload_n hx hb d_T_element_0 rfl (lv_at hl 0 rfl) ?_
  refine lv_iload_n hx hb d_T_element_1 rfl (lv_at hl 1 rfl) ?_
  refine lv_iload_n hx hb d_T_element_2 rfl (lv_at hl 2 rfl) ?_
  rcases og_e h with hcall | ⟨hcallN, h⟩
  · subst hQ; exact wt_callV hno hlocks (As := [.int (iI x1), .int (iI x2)]) (rest := []) ⟨hx, hb, hml, hown, hts⟩ (t_T_needPath hfl D cI cJ cZ F a T_analysed L_leastMoving L_leastFixed L_pathCount x1 x2 k s.heap.size hcall) (cwV 2 hts (gd_V m913 m910 m912 sl_T_needPath m1) rfl rfl rfl ⟨rfl, hc_T_needPath⟩ ⟨Nat.le_of_ble_eq_true rfl, Nat.le_of_ble_eq_true rfl⟩) (px_V hXW 0 0 [.int (iI x1), .int (iI x2)] hP hK hD0 hN [0, 1] rfl rfl rfl rfl rfl) rfl rfl hl.1 rfl (lv_room (Nat.le_of_ble_eq_true rfl)) rfl rfl d_T_element_3 ⟨Nat.le_of_ble_eq_true rfl, Nat.le_of_ble_eq_true rfl⟩
  obtain ⟨hcall, h⟩ := ob0_e h
  refine ro_v (va_Run.run (va_runV (As := [.int (iI x1), .int (iI x2)]) (rest := []) ⟨hx, hb, hml, hown, hts⟩ (c_T_needPath l D cI cJ cZ F a T_analysed L_leastMoving L_leastFixed L_pathCount x1 x2 s.heap.size hcall) (cwV 2 hts (gd_V m913 m910 m912 sl_T_needPath m1) rfl rfl rfl ⟨rfl, hc_T_needPath⟩ ⟨Nat.le_of_ble_eq_true rfl, Nat.le_of_ble_eq_true rfl⟩) (pc_V 0 0 [.int (iI x1), .int (iI x2)] hP hK hD0 hN [0, 1] rfl rfl rfl rfl rfl) rfl rfl hl.1 rfl (lv_room (Nat.le_of_ble_eq_true rfl)) d_T_element_3 ⟨Nat.zero_le _, Nat.zero_le _⟩)) (W.eq (g2 := F0 m 6 ls []) rfl ?_)
  refine lv_aload_n hx hb d_T_element_6 rfl (lv_at hl 0 rfl) ?_
  refine va_get (D := D) (ci := 0) (v := .ref (a 4)) (C := R_T) (T := F_T) (N := 7) hx hb hT in_T hown hK hP 0 rfl rfl 5 (by decide) (hT _ m414) (fun _ h9 => h9) rfl d_T_element_7 ?_
  exact no_some h
