abbrev rt_T_clock : Room := { frames := 6, cells := 1, slots := 6, locals := 110 }
set_option maxHeartbeats 4000000 in
set_option maxRecDepth 100000 in
theorem t_T_clock {l : Launch} (hfl : l.flags = flags0) (D : va_G) (cI cJ cZ : ClassId) (F : Nat) (a : Nat → Nat) (T_analysed : Int) (N_period : Int) (N_width : Int) (N_size : Int) (x1 : Int) (x2 : Int) (k : Nat) (sz : Nat) (h : g_T_clock F x1 x2 = some k) : MetT l y_T_clock w_T_clock rt_T_clock (PX D [(cI, .int), (cJ, .long), (cZ, .boolean)] [.ref (a 0), .int (iI x1), .int (iI x2)] ([(o_T a T_analysed), (o_N a N_period N_width N_size)]) sz) k := by
  refine MetT.ofW (cc := prog_1_method_2_code) (maxL := 3) (ret := (Option.none : Option Jvm.ClassFile.FieldType)) (by decide) rfl ?_
  intro p e s m args below meth c s₁ B hml hv
  obtain ⟨⟨rfl, hsz, hP, hK, hD0, hN⟩, hXW⟩ := hv
  have hx := B.exec
  have hb := B.bytes
  have hr := B.returns
  have hts := atoms_spec (ws := w_T_clock) B.pre
  have hown : s.vm.findClass R_T = some m.cls := findClass_of_methodNamed B.named
  have hlocks := B.notSynchronized
  subst hsz
  have hno := B.noHandlers (hts _ List.mem_cons_self)
  have hl := lv_entry ([.ref (a 0), .int (iI x1), .int (iI x2)]) (n := 3) (Nat.le_of_ble_eq_true rfl)
  rw [lg_entry_eq]
  generalize (lg_sl ([.ref (a 0), .int (iI x1), .int (iI x2)]) ++ List.replicate (3 - (lg_sl ([.ref (a 0), .int (iI x1), .int (iI x2)])).length) Slot.unset).toArray = ls at hl ⊢
  have hl : lv_has ls 3 [(0, .ref (a 0)), (1, .int (iI x1)), (2, .int (iI x2))] := hl
  generalize (List.toArray ([.ref (a 0), .int (iI x1), .int (iI x2)] : List Value)) = args at hts ⊢
  have hT : ∀ w ∈ Tg, w.before args s = true := fun w h => hts w (List.mem_cons_of_mem _ h)
  obtain ⟨Q, hQ⟩ : ∃ Q, Q = QT below k s := ⟨_, rfl⟩
  rw [← hQ]
  have hk0 := (show (Cond.constant "PathTiming" 67 (iI 1000000)).before args s = true from by rw [show iI 1000000 = (1000000 : Int32) from by decide]; exact hT _ m656)
  rw [g_T_clock] at h
  refine lv_iload_n hx hb d_T_clock_0 rfl (lv_at hl 1 rfl) ?_
  refine zv_iconst hx hb d_T_clock_1 ?_
  refine lv_ldc hx hb hown hk0 d_T_clock_2 ?_
  obtain ⟨r4, hcall, h⟩ := ob1_e h
  refine ro_i (va_Run.run (va_runS (As := [.int (iI x1), .int (iI 2), .int (iI 1000000)]) (rest := []) ⟨hx, hb, hml, hown, hts⟩ (c_T_isWithin l D cI cJ cZ F a x1 2 1000000 r4 s.heap.size hcall) (cwS 3 hts (gd_S m573 m657 m572 m1) rfl rfl rfl ⟨rfl, hc_T_isWithin⟩ ⟨Nat.le_of_ble_eq_true rfl, Nat.le_of_ble_eq_true rfl⟩) (pc_S [.int (iI x1), .int (iI 2), .int (iI 1000000)] hP hK hD0 hN [] rfl rfl rfl) rfl rfl hl.1 rfl (lv_room (Nat.le_of_ble_eq_true rfl)) d_T_clock_4 ⟨Nat.zero_le _, Nat.zero_le _⟩)) (W.eq (g2 := F0 m 7 ls [.int (iI r4)]) rfl ?_)
  have hj21 : ∀  (ls : Array Slot), lv_has ls 3 [] → g_T_clock_j21 F = some k → W p l e (headSpec w_T_clock rt_T_clock).room s m args below meth c s.heap [] 0 0 Q (F0 m 21 ls []) := by
    intro  ls hl h
    rw [g_T_clock_j21] at h
    obtain rfl := so1 h
    subst hQ; exact wt_throw (k := 0) (cls := "java/lang/IllegalArgumentException") hfl hno hlocks hx hb hml hl.1 rfl (by decide) (by decide) hown (hT _ m658) (hT _ m659) (hT _ m16) (oa_T_72_74 hT hXW) d_T_clock_21 d_T_clock_24 d_T_clock_25 d_T_clock_28 (Nat.le_of_ble_eq_true rfl) (Nat.le_of_ble_eq_true rfl) (Nat.le_of_ble_eq_true rfl) ⟨(Nat.le_of_ble_eq_true rfl), (Nat.le_of_ble_eq_true rfl)⟩
  obtain ⟨hg0, h⟩ := gr_e h
  refine zi_eq hx hb d_T_clock_7 rfl hg0 (fun hc => ?_) (fun hc => ?_)
  · replace h := if_t hc h
    exact hj21  ls (lv_sub hl [] rfl) h
  · replace h := if_f hc h
    refine lv_iload_n hx hb d_T_clock_10 rfl (lv_at hl 2 rfl) ?_
    refine zv_iconst hx hb d_T_clock_11 ?_
    refine lv_iload_n hx hb d_T_clock_12 rfl (lv_at hl 1 rfl) ?_
    refine zv_iconst hx hb d_T_clock_13 ?_
    refine zv_isub hx hb d_T_clock_14 ?_
    obtain ⟨r15, hcall, h⟩ := ob1_e h
    refine ro_i (va_Run.run (va_runS (As := [.int (iI x2), .int (iI 1), .int (iI (x1 - 1))]) (rest := []) ⟨hx, hb, hml, hown, hts⟩ (c_T_isWithin l D cI cJ cZ F a x2 1 (x1 - 1) r15 s.heap.size hcall) (cwS 3 hts (gd_S m573 m657 m572 m1) rfl rfl rfl ⟨rfl, hc_T_isWithin⟩ ⟨Nat.le_of_ble_eq_true rfl, Nat.le_of_ble_eq_true rfl⟩) (pc_S [.int (iI x2), .int (iI 1), .int (iI (x1 - 1))] hP hK hD0 hN [] rfl rfl rfl) rfl rfl hl.1 rfl (lv_room (Nat.le_of_ble_eq_true rfl)) d_T_clock_15 ⟨Nat.zero_le _, Nat.zero_le _⟩)) (W.eq (g2 := F0 m 18 ls [.int (iI r15)]) rfl ?_)
    obtain ⟨hg0, h⟩ := gr_e h
    refine zi_ne hx hb d_T_clock_18 rfl hg0 (fun hc => ?_) (fun hc => ?_)
    · replace h := if_f hc h
      refine lv_aload_n hx hb d_T_clock_29 rfl (lv_at hl 0 rfl) ?_
      refine va_get (D := D) (ci := 0) (v := .ref (a 43)) (C := R_T) (T := F_T) (N := 7) hx hb hT in_T hown hK hP 0 rfl rfl 0 (by decide) (hT _ m409) (fun _ h9 => h9) rfl d_T_clock_30 ?_
      refine lv_iload_n hx hb d_T_clock_33 rfl (lv_at hl 1 rfl) ?_
      exact no_some h
    · replace h := if_t hc h
      exact hj21  ls (lv_sub hl [] rfl) h
abbrev rt_T_input : Room := { frames := 6, cells := 1, slots := 6, locals := 110 }
set_option maxHeartbeats 4000000 in
set_option maxRecDepth 100000 in
theorem t_T_input {l : Launch} (hfl : l.flags = flags0) (D : va_G) (cI cJ cZ : ClassId) (F : Nat) (a : Nat → Nat) (T_analysed : Int) (N_period : Int) (N_width : Int) (N_size : Int) (N_kind : Int → Int) (N_pins : Int → Int) (N_startEarly : Int → Int) (N_startLate : Int → Int) (x1 : Int) (x2 : Int) (x3 : Int) (x4 : Int) (k : Nat) (sz : Nat) (h : g_T_input F x1 x2 x3 x4 = some k) : MetT l y_T_input w_T_input rt_T_input (PX D [(cI, .int), (cJ, .long), (cZ, .boolean)] [.ref (a 0), .int (iI x1), .int (iI x2), .int (iI x3), .int (iI x4)] ([(o_T a T_analysed), (o_N a N_period N_width N_size), ((a 44), .inl (cI, 48, .inl (ia N_kind))), ((a 45), .inl (cI, 48, .inl (ia N_pins))), ((a 52), .inl (cI, 96, .inl (ia N_startEarly))), ((a 53), .inl (cI, 96, .inl (ia N_startLate)))]) sz) k := by
  refine MetT.ofW (cc := prog_1_method_3_code) (maxL := 6) (ret := (Option.some Jvm.ClassFile.FieldType.int)) (by decide) rfl ?_
  intro p e s m args below meth c s₁ B hml hv
  obtain ⟨⟨rfl, hsz, hP, hK, hD0, hN⟩, hXW⟩ := hv
  have hx := B.exec
  have hb := B.bytes
  have hr := B.returns
  have hts := atoms_spec (ws := w_T_input) B.pre
  have hown : s.vm.findClass R_T = some m.cls := findClass_of_methodNamed B.named
  have hlocks := B.notSynchronized
  subst hsz
  have hno := B.noHandlers (hts _ List.mem_cons_self)
  have hl := lv_entry ([.ref (a 0), .int (iI x1), .int (iI x2), .int (iI x3), .int (iI x4)]) (n := 6) (Nat.le_of_ble_eq_true rfl)
  rw [lg_entry_eq]
  generalize (lg_sl ([.ref (a 0), .int (iI x1), .int (iI x2), .int (iI x3), .int (iI x4)]) ++ List.replicate (6 - (lg_sl ([.ref (a 0), .int (iI x1), .int (iI x2), .int (iI x3), .int (iI x4)])).length) Slot.unset).toArray = ls at hl ⊢
  have hl : lv_has ls 6 [(0, .ref (a 0)), (1, .int (iI x1)), (2, .int (iI x2)), (3, .int (iI x3)), (4, .int (iI x4))] := hl
  generalize (List.toArray ([.ref (a 0), .int (iI x1), .int (iI x2), .int (iI x3), .int (iI x4)] : List Value)) = args at hts ⊢
  have hT : ∀ w ∈ Tg, w.before args s = true := fun w h => hts w (List.mem_cons_of_mem _ h)
  obtain ⟨Q, hQ⟩ : ∃ Q, Q = QT below k s := ⟨_, rfl⟩
  rw [← hQ]
  rw [g_T_input] at h
  refine lv_iload_n hx hb d_T_input_0 rfl (lv_at hl 1 rfl) ?_
  refine lv_iload_n hx hb d_T_input_1 rfl (lv_at hl 2 rfl) ?_
  obtain ⟨r2, hcall, h⟩ := ob1_e h
  refine ro_i (va_Run.run (va_runS (As := [.int (iI x1), .int (iI x2)]) (rest := []) ⟨hx, hb, hml, hown, hts⟩ (c_T_isInputTime l D cI cJ cZ F a x1 x2 r2 s.heap.size hcall) (cwS 2 hts (gd_S m730 m728 m729 m1) rfl rfl rfl ⟨rfl, hc_T_isInputTime⟩ ⟨Nat.le_of_ble_eq_true rfl, Nat.le_of_ble_eq_true rfl⟩) (pc_S [.int (iI x1), .int (iI x2)] hP hK hD0 hN [] rfl rfl rfl) rfl rfl hl.1 rfl (lv_room (Nat.le_of_ble_eq_true rfl)) d_T_input_2 ⟨Nat.zero_le _, Nat.zero_le _⟩)) (W.eq (g2 := F0 m 5 ls [.int (iI r2)]) rfl ?_)
  have hj17 : ∀  (ls : Array Slot), lv_has ls 6 [] → g_T_input_j17 F = some k → W p l e (headSpec w_T_input rt_T_input).room s m args below meth c s.heap [] 0 0 Q (F0 m 17 ls []) := by
    intro  ls hl h
    rw [g_T_input_j17] at h
    obtain rfl := so1 h
    subst hQ; exact wt_throw (k := 0) (cls := "java/lang/IllegalArgumentException") hfl hno hlocks hx hb hml hl.1 rfl (by decide) (by decide) hown (hT _ m658) (hT _ m659) (hT _ m16) (oa_T_72_74 hT hXW) d_T_input_17 d_T_input_20 d_T_input_21 d_T_input_24 (Nat.le_of_ble_eq_true rfl) (Nat.le_of_ble_eq_true rfl) (Nat.le_of_ble_eq_true rfl) ⟨(Nat.le_of_ble_eq_true rfl), (Nat.le_of_ble_eq_true rfl)⟩
  obtain ⟨hg0, h⟩ := gr_e h
  refine zi_eq hx hb d_T_input_5 rfl hg0 (fun hc => ?_) (fun hc => ?_)
  · replace h := if_t hc h
    exact hj17  ls (lv_sub hl [] rfl) h
  · replace h := if_f hc h
    refine lv_iload_n hx hb d_T_input_8 rfl (lv_at hl 3 rfl) ?_
    refine lv_iload hx hb d_T_input_9 (lv_at hl 4 rfl) ?_
    obtain ⟨r11, hcall, h⟩ := ob1_e h
    refine ro_i (va_Run.run (va_runS (As := [.int (iI x3), .int (iI x4)]) (rest := []) ⟨hx, hb, hml, hown, hts⟩ (c_T_isInputTime l D cI cJ cZ F a x3 x4 r11 s.heap.size hcall) (cwS 2 hts (gd_S m730 m728 m729 m1) rfl rfl rfl ⟨rfl, hc_T_isInputTime⟩ ⟨Nat.le_of_ble_eq_true rfl, Nat.le_of_ble_eq_true rfl⟩) (pc_S [.int (iI x3), .int (iI x4)] hP hK hD0 hN [] rfl rfl rfl) rfl rfl hl.1 rfl (lv_room (Nat.le_of_ble_eq_true rfl)) d_T_input_11 ⟨Nat.zero_le _, Nat.zero_le _⟩)) (W.eq (g2 := F0 m 14 ls [.int (iI r11)]) rfl ?_)
    obtain ⟨hg0, h⟩ := gr_e h
    refine zi_ne hx hb d_T_input_14 rfl hg0 (fun hc => ?_) (fun hc => ?_)
    · replace h := if_f hc h
      refine lv_aload_n hx hb d_T_input_25 rfl (lv_at hl 0 rfl) ?_
      refine zv_iconst hx hb d_T_input_26 ?_
      refine zv_iconst hx hb d_T_input_27 ?_
      exact no_some h
    · replace h := if_t hc h
      exact hj17  ls (lv_sub hl [] rfl) h
abbrev rt_T_gate : Room := { frames := 6, cells := 1, slots := 6, locals := 110 }
set_option maxHeartbeats 4000000 in
set_option maxRecDepth 100000 in
theorem t_T_gate {l : Launch} (hfl : l.flags = flags0) (D : va_G) (cI cJ cZ : ClassId) (F : Nat) (a : Nat → Nat) (T_analysed : Int) (N_period : Int) (N_width : Int) (N_size : Int) (N_kind : Int → Int) (N_pins : Int → Int) (x1 : Int) (k : Nat) (sz : Nat) (h : g_T_gate F x1 = some k) : MetT l y_T_gate w_T_gate rt_T_gate (PX D [(cI, .int), (cJ, .long), (cZ, .boolean)] [.ref (a 0), .int (iI x1)] ([(o_T a T_analysed), (o_N a N_period N_width N_size), ((a 44), .inl (cI, 48, .inl (ia N_kind))), ((a 45), .inl (cI, 48, .inl (ia N_pins)))]) sz) k := by
  refine MetT.ofW (cc := prog_1_method_4_code) (maxL := 2) (ret := (Option.some Jvm.ClassFile.FieldType.int)) (by decide) rfl ?_
  intro p e s m args below meth c s₁ B hml hv
  obtain ⟨⟨rfl, hsz, hP, hK, hD0, hN⟩, hXW⟩ := hv
  have hx := B.exec
  have hb := B.bytes
  have hr := B.returns
  have hts := atoms_spec (ws := w_T_gate) B.pre
  have hown : s.vm.findClass R_T = some m.cls := findClass_of_methodNamed B.named
  have hlocks := B.notSynchronized
  subst hsz
  have hno := B.noHandlers (hts _ List.mem_cons_self)
  have hl := lv_entry ([.ref (a 0), .int (iI x1)]) (n := 2) (Nat.le_of_ble_eq_true rfl)
  rw [lg_entry_eq]
  generalize (lg_sl ([.ref (a 0), .int (iI x1)]) ++ List.replicate (2 - (lg_sl ([.ref (a 0), .int (iI x1)])).length) Slot.unset).toArray = ls at hl ⊢
  have hl : lv_has ls 2 [(0, .ref (a 0)), (1, .int (iI x1))] := hl
  generalize (List.toArray ([.ref (a 0), .int (iI x1)] : List Value)) = args at hts ⊢
  have hT : ∀ w ∈ Tg, w.before args s = true := fun w h => hts w (List.mem_cons_of_mem _ h)
  obtain ⟨Q, hQ⟩ : ∃ Q, Q = QT below k s := ⟨_, rfl⟩
  rw [← hQ]
  rw [g_T_gate] at h
  refine lv_iload_n hx hb d_T_gate_0 rfl (lv_at hl 1 rfl) ?_
  refine zv_iconst hx hb d_T_gate_1 ?_
  refine zv_iconst hx hb d_T_gate_2 ?_
  obtain ⟨r3, hcall, h⟩ := ob1_e h
  refine ro_i (va_Run.run (va_runS (As := [.int (iI x1), .int (iI 1), .int (iI 3)]) (rest := []) ⟨hx, hb, hml, hown, hts⟩ (c_T_isWithin l D cI cJ cZ F a x1 1 3 r3 s.heap.size hcall) (cwS 3 hts (gd_S m573 m657 m572 m1) rfl rfl rfl ⟨rfl, hc_T_isWithin⟩ ⟨Nat.le_of_ble_eq_true rfl, Nat.le_of_ble_eq_true rfl⟩) (pc_S [.int (iI x1), .int (iI 1), .int (iI 3)] hP hK hD0 hN [] rfl rfl rfl) rfl rfl hl.1 rfl (lv_room (Nat.le_of_ble_eq_true rfl)) d_T_gate_3 ⟨Nat.zero_le _, Nat.zero_le _⟩)) (W.eq (g2 := F0 m 6 ls [.int (iI r3)]) rfl ?_)
  obtain ⟨hg0, h⟩ := gr_e h
  refine zi_ne hx hb d_T_gate_6 rfl hg0 (fun hc => ?_) (fun hc => ?_)
  · replace h := if_f hc h
    refine lv_aload_n hx hb d_T_gate_17 rfl (lv_at hl 0 rfl) ?_
    refine zv_iconst hx hb d_T_gate_18 ?_
    refine lv_iload_n hx hb d_T_gate_19 rfl (lv_at hl 1 rfl) ?_
    exact no_some h
  · replace h := if_t hc h
    obtain rfl := so1 h
    subst hQ; exact wt_throw (k := 0) (cls := "java/lang/IllegalArgumentException") hfl hno hlocks hx hb hml hl.1 rfl (by decide) (by decide) hown (hT _ m658) (hT _ m659) (hT _ m16) (oa_T_72_74 hT hXW) d_T_gate_9 d_T_gate_12 d_T_gate_13 d_T_gate_16 (Nat.le_of_ble_eq_true rfl) (Nat.le_of_ble_eq_true rfl) (Nat.le_of_ble_eq_true rfl) ⟨(Nat.le_of_ble_eq_true rfl), (Nat.le_of_ble_eq_true rfl)⟩
abbrev rt_T_wire : Room := { frames := 6, cells := 1, slots := 6, locals := 110 }
set_option maxHeartbeats 4000000 in
set_option maxRecDepth 100000 in
theorem t_T_wire {l : Launch} (hfl : l.flags = flags0) (D : va_G) (cI cJ cZ : ClassId) (F : Nat) (a : Nat → Nat) (T_analysed : Int) (N_period : Int) (N_width : Int) (N_size : Int) (N_kind : Int → Int) (N_pins : Int → Int) (N_source : Int → Int) (N_wireEarly : Int → Int) (N_wireLate : Int → Int) (x1 : Int) (x2 : Int) (x3 : Int) (x4 : Int) (x5 : Int) (k : Nat) (sz : Nat) (h : g_T_wire F N_size N_kind N_pins x1 x2 x3 x4 x5 = some k) : MetT l y_T_wire w_T_wire rt_T_wire (PX D [(cI, .int), (cJ, .long), (cZ, .boolean)] [.ref (a 0), .int (iI x1), .int (iI x2), .int (iI x3), .int (iI x4), .int (iI x5)] ([(o_T a T_analysed), (o_N a N_period N_width N_size), ((a 44), .inl (cI, 48, .inl (ia N_kind))), ((a 45), .inl (cI, 48, .inl (ia N_pins))), ((a 46), .inl (cI, 144, .inl (ia N_source))), ((a 47), .inl (cI, 144, .inl (ia N_wireEarly))), ((a 48), .inl (cI, 144, .inl (ia N_wireLate)))]) sz) k := by
  refine MetT.ofW (cc := prog_1_method_7_code) (maxL := 6) (ret := (Option.none : Option Jvm.ClassFile.FieldType)) (by decide) rfl ?_
  intro p e s m args below meth c s₁ B hml hv
  obtain ⟨⟨rfl, hsz, hP, hK, hD0, hN⟩, hXW⟩ := hv
  have hx := B.exec
  have hb := B.bytes
  have hr := B.returns
  have hts := atoms_spec (ws := w_T_wire) B.pre
  have hown : s.vm.findClass R_T = some m.cls := findClass_of_methodNamed B.named
  have hlocks := B.notSynchronized
  subst hsz
  have hno := B.noHandlers (hts _ List.mem_cons_self)
  have hl := lv_entry ([.ref (a 0), .int (iI x1), .int (iI x2), .int (iI x3), .int (iI x4), .int (iI x5)]) (n := 6) (Nat.le_of_ble_eq_true rfl)
  rw [lg_entry_eq]
  generalize (lg_sl ([.ref (a 0), .int (iI x1), .int (iI x2), .int (iI x3), .int (iI x4), .int (iI x5)]) ++ List.replicate (6 - (lg_sl ([.ref (a 0), .int (iI x1), .int (iI x2), .int (iI x3), .int (iI x4), .int (iI x5)])).length) Slot.unset).toArray = ls at hl ⊢
  have hl : lv_has ls 6 [(0, .ref (a 0)), (1, .int (iI x1)), (2, .int (iI x2)), (3, .int (iI x3)), (4, .int (iI x4)), (5, .int (iI x5))] := hl
  generalize (List.toArray ([.ref (a 0), .int (iI x1), .int (iI x2), .int (iI x3), .int (iI x4), .int (iI x5)] : List Value)) = args at hts ⊢
  have hT : ∀ w ∈ Tg, w.before args s = true := fun w h => hts w (List.mem_cons_of_mem _ h)
  obtain ⟨Q, hQ⟩ : ∃ Q, Q = QT below k s := ⟨_, rfl⟩
  rw [← hQ]
  rw [g_T_wire] at h
  refine lv_aload_n hx hb d_T_wire_0 rfl (lv_at hl 0 rfl) ?_
  refine va_get (D := D) (ci := 0) (v := .ref (a 43)) (C := R_T) (T := F_T) (N := 7) hx hb hT in_T hown hK hP 0 rfl rfl 0 (by decide) (hT _ m409) (fun _ h9 => h9) rfl d_T_wire_1 ?_
  refine lv_iload_n hx hb d_T_wire_4 rfl (lv_at hl 1 rfl) ?_
  refine lv_iload_n hx hb d_T_wire_5 rfl (lv_at hl 2 rfl) ?_
  obtain ⟨r6, hcall, h⟩ := ob1_e h
  refine ro_i (va_Run.run (va_runV (As := [.int (iI x1), .int (iI x2)]) (rest := []) ⟨hx, hb, hml, hown, hts⟩ (c_Net_hasPin l D cI cJ cZ F a N_period N_width N_size N_pins x1 x2 r6 s.heap.size hcall) (cwV 2 hts (gd_V m753 m750 m751 m752 m2) rfl rfl rfl ⟨rfl, hc_Net_hasPin⟩ ⟨Nat.le_of_ble_eq_true rfl, Nat.le_of_ble_eq_true rfl⟩) (pc_V 1 1 [.int (iI x1), .int (iI x2)] hP hK hD0 hN [1, 3] rfl rfl rfl rfl rfl) rfl rfl hl.1 rfl (lv_room (Nat.le_of_ble_eq_true rfl)) d_T_wire_6 ⟨Nat.zero_le _, Nat.zero_le _⟩)) (W.eq (g2 := F0 m 9 ls [.int (iI r6)]) rfl ?_)
  have hj33 : ∀  (ls : Array Slot), lv_has ls 6 [] → g_T_wire_j33 F = some k → W p l e (headSpec w_T_wire rt_T_wire).room s m args below meth c s.heap [] 0 0 Q (F0 m 33 ls []) := by
    intro  ls hl h
    rw [g_T_wire_j33] at h
    obtain rfl := so1 h
    subst hQ; exact wt_throw (k := 0) (cls := "java/lang/IllegalArgumentException") hfl hno hlocks hx hb hml hl.1 rfl (by decide) (by decide) hown (hT _ m658) (hT _ m659) (hT _ m16) (oa_T_72_74 hT hXW) d_T_wire_33 d_T_wire_36 d_T_wire_37 d_T_wire_40 (Nat.le_of_ble_eq_true rfl) (Nat.le_of_ble_eq_true rfl) (Nat.le_of_ble_eq_true rfl) ⟨(Nat.le_of_ble_eq_true rfl), (Nat.le_of_ble_eq_true rfl)⟩
  obtain ⟨hg0, h⟩ := gr_e h
  refine zi_eq hx hb d_T_wire_9 rfl hg0 (fun hc => ?_) (fun hc => ?_)
  · replace h := if_t hc h
    exact hj33  ls (lv_sub hl [] rfl) h
  · replace h := if_f hc h
    refine lv_aload_n hx hb d_T_wire_12 rfl (lv_at hl 0 rfl) ?_
    refine va_get (D := D) (ci := 0) (v := .ref (a 43)) (C := R_T) (T := F_T) (N := 7) hx hb hT in_T hown hK hP 0 rfl rfl 0 (by decide) (hT _ m409) (fun _ h9 => h9) rfl d_T_wire_13 ?_
    refine lv_iload_n hx hb d_T_wire_16 rfl (lv_at hl 3 rfl) ?_
    obtain ⟨r17, hcall, h⟩ := ob1_e h
    refine ro_i (va_Run.run (va_runV (As := [.int (iI x3)]) (rest := []) ⟨hx, hb, hml, hown, hts⟩ (c_Net_maySend l D cI cJ cZ F a N_period N_width N_size N_kind x3 r17 s.heap.size hcall) (cwV 1 hts (gd_V m757 m754 m755 m756 m2) rfl rfl rfl ⟨rfl, hc_Net_maySend⟩ ⟨Nat.le_of_ble_eq_true rfl, Nat.le_of_ble_eq_true rfl⟩) (pc_V 1 1 [.int (iI x3)] hP hK hD0 hN [1, 2] rfl rfl rfl rfl rfl) rfl rfl hl.1 rfl (lv_room (Nat.le_of_ble_eq_true rfl)) d_T_wire_17 ⟨Nat.zero_le _, Nat.zero_le _⟩)) (W.eq (g2 := F0 m 20 ls [.int (iI r17)]) rfl ?_)
    obtain ⟨hg0, h⟩ := gr_e h
    refine zi_eq hx hb d_T_wire_20 rfl hg0 (fun hc => ?_) (fun hc => ?_)
    · replace h := if_t hc h
      exact hj33  ls (lv_sub hl [] rfl) h
    · replace h := if_f hc h
      refine lv_iload hx hb d_T_wire_23 (lv_at hl 4 rfl) ?_
      refine lv_iload hx hb d_T_wire_25 (lv_at hl 5 rfl) ?_
      obtain ⟨r27, hcall, h⟩ := ob1_e h
      refine ro_i (va_Run.run (va_runS (As := [.int (iI x4), .int (iI x5)]) (rest := []) ⟨hx, hb, hml, hown, hts⟩ (c_T_isDelay l D cI cJ cZ F a x4 x5 r27 s.heap.size hcall) (cwS 2 hts (gd_S m760 m758 m759 m1) rfl rfl rfl ⟨rfl, hc_T_isDelay⟩ ⟨Nat.le_of_ble_eq_true rfl, Nat.le_of_ble_eq_true rfl⟩) (pc_S [.int (iI x4), .int (iI x5)] hP hK hD0 hN [] rfl rfl rfl) rfl rfl hl.1 rfl (lv_room (Nat.le_of_ble_eq_true rfl)) d_T_wire_27 ⟨Nat.zero_le _, Nat.zero_le _⟩)) (W.eq (g2 := F0 m 30 ls [.int (iI r27)]) rfl ?_)
      obtain ⟨hg0, h⟩ := gr_e h
      refine zi_ne hx hb d_T_wire_30 rfl hg0 (fun hc => ?_) (fun hc => ?_)
      · replace h := if_f hc h
        refine lv_aload_n hx hb d_T_wire_41 rfl (lv_at hl 0 rfl) ?_
        refine va_get (D := D) (ci := 0) (v := .ref (a 43)) (C := R_T) (T := F_T) (N := 7) hx hb hT in_T hown hK hP 0 rfl rfl 0 (by decide) (hT _ m409) (fun _ h9 => h9) rfl d_T_wire_42 ?_
        refine lv_iload_n hx hb d_T_wire_45 rfl (lv_at hl 1 rfl) ?_
        refine zv_iconst hx hb d_T_wire_46 ?_
        refine zv_imul hx hb d_T_wire_47 ?_
        refine lv_iload_n hx hb d_T_wire_48 rfl (lv_at hl 2 rfl) ?_
        refine zv_iadd hx hb d_T_wire_49 ?_
        refine lv_iload_n hx hb d_T_wire_50 rfl (lv_at hl 3 rfl) ?_
        refine lv_iload hx hb d_T_wire_51 (lv_at hl 4 rfl) ?_
        refine lv_iload hx hb d_T_wire_53 (lv_at hl 5 rfl) ?_
        exact no_some h
      · replace h := if_t hc h
        exact hj33  ls (lv_sub hl [] rfl) h
abbrev rt_T_sense : Room := { frames := 6, cells := 1, slots := 6, locals := 110 }
set_option maxHeartbeats 4000000 in
set_option maxRecDepth 100000 in
theorem t_T_sense {l : Launch} (hfl : l.flags = flags0) (D : va_G) (cI cJ cZ : ClassId) (F : Nat) (a : Nat → Nat) (T_analysed : Int) (N_period : Int) (N_width : Int) (N_size : Int) (N_kind : Int → Int) (N_pins : Int → Int) (N_senses : Int → Int) (x1 : Int) (x2 : Int) (x3 : Int) (k : Nat) (sz : Nat) (h : g_T_sense F N_size N_kind N_pins x1 x2 x3 = some k) : MetT l y_T_sense w_T_sense rt_T_sense (PX D [(cI, .int), (cJ, .long), (cZ, .boolean)] [.ref (a 0), .int (iI x1), .int (iI x2), .int (iI x3)] ([(o_T a T_analysed), (o_N a N_period N_width N_size), ((a 44), .inl (cI, 48, .inl (ia N_kind))), ((a 45), .inl (cI, 48, .inl (ia N_pins))), ((a 49), .inl (cI, 144, .inl (ia N_senses)))]) sz) k := by
  refine MetT.ofW (cc := prog_1_method_8_code) (maxL := 4) (ret := (Option.none : Option Jvm.ClassFile.FieldType)) (by decide) rfl ?_
  intro p e s m args below meth c s₁ B hml hv
  obtain ⟨⟨rfl, hsz, hP, hK, hD0, hN⟩, hXW⟩ := hv
  have hx := B.exec
  have hb := B.bytes
  have hr := B.returns
  have hts := atoms_spec (ws := w_T_sense) B.pre
  have hown : s.vm.findClass R_T = some m.cls := findClass_of_methodNamed B.named
  have hlocks := B.notSynchronized
  subst hsz
  have hno := B.noHandlers (hts _ List.mem_cons_self)
  have hl := lv_entry ([.ref (a 0), .int (iI x1), .int (iI x2), .int (iI x3)]) (n := 4) (Nat.le_of_ble_eq_true rfl)
  rw [lg_entry_eq]
  generalize (lg_sl ([.ref (a 0), .int (iI x1), .int (iI x2), .int (iI x3)]) ++ List.replicate (4 - (lg_sl ([.ref (a 0), .int (iI x1), .int (iI x2), .int (iI x3)])).length) Slot.unset).toArray = ls at hl ⊢
  have hl : lv_has ls 4 [(0, .ref (a 0)), (1, .int (iI x1)), (2, .int (iI x2)), (3, .int (iI x3))] := hl
  generalize (List.toArray ([.ref (a 0), .int (iI x1), .int (iI x2), .int (iI x3)] : List Value)) = args at hts ⊢
  have hT : ∀ w ∈ Tg, w.before args s = true := fun w h => hts w (List.mem_cons_of_mem _ h)
  obtain ⟨Q, hQ⟩ : ∃ Q, Q = QT below k s := ⟨_, rfl⟩
  rw [← hQ]
  rw [g_T_sense] at h
  refine lv_aload_n hx hb d_T_sense_0 rfl (lv_at hl 0 rfl) ?_
  refine va_get (D := D) (ci := 0) (v := .ref (a 43)) (C := R_T) (T := F_T) (N := 7) hx hb hT in_T hown hK hP 0 rfl rfl 0 (by decide) (hT _ m409) (fun _ h9 => h9) rfl d_T_sense_1 ?_
  refine lv_iload_n hx hb d_T_sense_4 rfl (lv_at hl 1 rfl) ?_
  refine lv_iload_n hx hb d_T_sense_5 rfl (lv_at hl 2 rfl) ?_
  obtain ⟨r6, hcall, h⟩ := ob1_e h
  refine ro_i (va_Run.run (va_runV (As := [.int (iI x1), .int (iI x2)]) (rest := []) ⟨hx, hb, hml, hown, hts⟩ (c_Net_hasPin l D cI cJ cZ F a N_period N_width N_size N_pins x1 x2 r6 s.heap.size hcall) (cwV 2 hts (gd_V m753 m750 m751 m752 m2) rfl rfl rfl ⟨rfl, hc_Net_hasPin⟩ ⟨Nat.le_of_ble_eq_true rfl, Nat.le_of_ble_eq_true rfl⟩) (pc_V 1 1 [.int (iI x1), .int (iI x2)] hP hK hD0 hN [1, 3] rfl rfl rfl rfl rfl) rfl rfl hl.1 rfl (lv_room (Nat.le_of_ble_eq_true rfl)) d_T_sense_6 ⟨Nat.zero_le _, Nat.zero_le _⟩)) (W.eq (g2 := F0 m 9 ls [.int (iI r6)]) rfl ?_)
  have hj34 : ∀  (ls : Array Slot), lv_has ls 4 [] → g_T_sense_j34 F = some k → W p l e (headSpec w_T_sense rt_T_sense).room s m args below meth c s.heap [] 0 0 Q (F0 m 34 ls []) := by
    intro  ls hl h
    rw [g_T_sense_j34] at h
    obtain rfl := so1 h
    subst hQ; exact wt_throw (k := 0) (cls := "java/lang/IllegalArgumentException") hfl hno hlocks hx hb hml hl.1 rfl (by decide) (by decide) hown (hT _ m658) (hT _ m659) (hT _ m16) (oa_T_72_74 hT hXW) d_T_sense_34 d_T_sense_37 d_T_sense_38 d_T_sense_41 (Nat.le_of_ble_eq_true rfl) (Nat.le_of_ble_eq_true rfl) (Nat.le_of_ble_eq_true rfl) ⟨(Nat.le_of_ble_eq_true rfl), (Nat.le_of_ble_eq_true rfl)⟩
  obtain ⟨hg0, h⟩ := gr_e h
  refine zi_eq hx hb d_T_sense_9 rfl hg0 (fun hc => ?_) (fun hc => ?_)
  · replace h := if_t hc h
    exact hj34  ls (lv_sub hl [] rfl) h
  · replace h := if_f hc h
    refine lv_aload_n hx hb d_T_sense_12 rfl (lv_at hl 0 rfl) ?_
    refine va_get (D := D) (ci := 0) (v := .ref (a 43)) (C := R_T) (T := F_T) (N := 7) hx hb hT in_T hown hK hP 0 rfl rfl 0 (by decide) (hT _ m409) (fun _ h9 => h9) rfl d_T_sense_13 ?_
    refine va_get (D := D) (ci := 1) (v := .ref (a 44)) (C := R_Net) (T := F_Net) (N := 15) hx hb hT in_Net hown hK hP 1 rfl rfl 3 (by decide) (hT _ m57) (fun _ h9 => h9) rfl d_T_sense_16 ?_
    refine lv_iload_n hx hb d_T_sense_19 rfl (lv_at hl 1 rfl) ?_
    obtain ⟨hin, h⟩ := gi_e h
    refine zv_iald hx hb hK hP 2 0 rfl rfl (Nat.le_of_ble_eq_true rfl) hin d_T_sense_20 ?_
    refine zv_iconst hx hb d_T_sense_21 ?_
    obtain ⟨hg0, h⟩ := gr_e h
    refine zc_ne hx hb d_T_sense_22 rfl hg0 (by decide) (fun hc => ?_) (fun hc => ?_)
    · replace h := if_f hc h
      exact hj34  ls (lv_sub hl [] rfl) h
    · replace h := if_t hc h
      refine lv_iload_n hx hb d_T_sense_25 rfl (lv_at hl 3 rfl) ?_
      refine zv_iconst hx hb d_T_sense_26 ?_
      refine zv_iconst hx hb d_T_sense_27 ?_
      obtain ⟨r28, hcall, h⟩ := ob1_e h
      refine ro_i (va_Run.run (va_runS (As := [.int (iI x3), .int (iI 0), .int (iI 2)]) (rest := []) ⟨hx, hb, hml, hown, hts⟩ (c_T_isWithin l D cI cJ cZ F a x3 0 2 r28 s.heap.size hcall) (cwS 3 hts (gd_S m573 m657 m572 m1) rfl rfl rfl ⟨rfl, hc_T_isWithin⟩ ⟨Nat.le_of_ble_eq_true rfl, Nat.le_of_ble_eq_true rfl⟩) (pc_S [.int (iI x3), .int (iI 0), .int (iI 2)] hP hK hD0 hN [] rfl rfl rfl) rfl rfl hl.1 rfl (lv_room (Nat.le_of_ble_eq_true rfl)) d_T_sense_28 ⟨Nat.zero_le _, Nat.zero_le _⟩)) (W.eq (g2 := F0 m 31 ls [.int (iI r28)]) rfl ?_)
      obtain ⟨hg0, h⟩ := gr_e h
      refine zi_ne hx hb d_T_sense_31 rfl hg0 (fun hc => ?_) (fun hc => ?_)
      · replace h := if_f hc h
        refine lv_aload_n hx hb d_T_sense_42 rfl (lv_at hl 0 rfl) ?_
        refine va_get (D := D) (ci := 0) (v := .ref (a 43)) (C := R_T) (T := F_T) (N := 7) hx hb hT in_T hown hK hP 0 rfl rfl 0 (by decide) (hT _ m409) (fun _ h9 => h9) rfl d_T_sense_43 ?_
        refine va_get (D := D) (ci := 1) (v := .ref (a 49)) (C := R_Net) (T := F_Net) (N := 15) hx hb hT in_Net hown hK hP 1 rfl rfl 8 (by decide) (hT _ m82) (fun _ h9 => h9) rfl d_T_sense_46 ?_
        refine lv_iload_n hx hb d_T_sense_49 rfl (lv_at hl 1 rfl) ?_
        refine zv_iconst hx hb d_T_sense_50 ?_
        refine zv_imul hx hb d_T_sense_51 ?_
        refine lv_iload_n hx hb d_T_sense_52 rfl (lv_at hl 2 rfl) ?_
        refine zv_iadd hx hb d_T_sense_53 ?_
        refine lv_iload_n hx hb d_T_sense_54 rfl (lv_at hl 3 rfl) ?_
        exact no_some h
      · replace h := if_t hc h
        exact hj34  ls (lv_sub hl [] rfl) h
abbrev rt_T_delay : Room := { frames := 6, cells := 1, slots := 6, locals := 110 }
set_option maxHeartbeats 4000000 in
set_option maxRecDepth 100000 in
theorem t_T_delay {l : Launch} (hfl : l.flags = flags0) (D : va_G) (cI cJ cZ : ClassId) (F : Nat) (a : Nat → Nat) (T_analysed : Int) (N_period : Int) (N_width : Int) (N_size : Int) (N_kind : Int → Int) (N_pins : Int → Int) (N_gateEarly : Int → Int) (N_gateLate : Int → Int) (N_startEarly : Int → Int) (N_startLate : Int → Int) (x1 : Int) (x2 : Int) (x3 : Int) (x4 : Int) (x5 : Int) (k : Nat) (sz : Nat) (h : g_T_delay F N_size N_kind N_pins x1 x2 x3 x4 x5 = some k) : MetT l y_T_delay w_T_delay rt_T_delay (PX D [(cI, .int), (cJ, .long), (cZ, .boolean)] [.ref (a 0), .int (iI x1), .int (iI x2), .int (iI x3), .int (iI x4), .int (iI x5)] ([(o_T a T_analysed), (o_N a N_period N_width N_size), ((a 44), .inl (cI, 48, .inl (ia N_kind))), ((a 45), .inl (cI, 48, .inl (ia N_pins))), ((a 50), .inl (cI, 288, .inl (ia N_gateEarly))), ((a 51), .inl (cI, 288, .inl (ia N_gateLate))), ((a 52), .inl (cI, 96, .inl (ia N_startEarly))), ((a 53), .inl (cI, 96, .inl (ia N_startLate)))]) sz) k := by
  refine MetT.ofW (cc := prog_1_method_9_code) (maxL := 6) (ret := (Option.none : Option Jvm.ClassFile.FieldType)) (by decide) rfl ?_
  intro p e s m args below meth c s₁ B hml hv
  obtain ⟨⟨rfl, hsz, hP, hK, hD0, hN⟩, hXW⟩ := hv
  have hx := B.exec
  have hb := B.bytes
  have hr := B.returns
  have hts := atoms_spec (ws := w_T_delay) B.pre
  have hown : s.vm.findClass R_T = some m.cls := findClass_of_methodNamed B.named
  have hlocks := B.notSynchronized
  subst hsz
  have hno := B.noHandlers (hts _ List.mem_cons_self)
  have hl := lv_entry ([.ref (a 0), .int (iI x1), .int (iI x2), .int (iI x3), .int (iI x4), .int (iI x5)]) (n := 6) (Nat.le_of_ble_eq_true rfl)
  rw [lg_entry_eq]
  generalize (lg_sl ([.ref (a 0), .int (iI x1), .int (iI x2), .int (iI x3), .int (iI x4), .int (iI x5)]) ++ List.replicate (6 - (lg_sl ([.ref (a 0), .int (iI x1), .int (iI x2), .int (iI x3), .int (iI x4), .int (iI x5)])).length) Slot.unset).toArray = ls at hl ⊢
  have hl : lv_has ls 6 [(0, .ref (a 0)), (1, .int (iI x1)), (2, .int (iI x2)), (3, .int (iI x3)), (4, .int (iI x4)), (5, .int (iI x5))] := hl
  generalize (List.toArray ([.ref (a 0), .int (iI x1), .int (iI x2), .int (iI x3), .int (iI x4), .int (iI x5)] : List Value)) = args at hts ⊢
  have hT : ∀ w ∈ Tg, w.before args s = true := fun w h => hts w (List.mem_cons_of_mem _ h)
  obtain ⟨Q, hQ⟩ : ∃ Q, Q = QT below k s := ⟨_, rfl⟩
  rw [← hQ]
  rw [g_T_delay] at h
  refine lv_aload_n hx hb d_T_delay_0 rfl (lv_at hl 0 rfl) ?_
  refine va_get (D := D) (ci := 0) (v := .ref (a 43)) (C := R_T) (T := F_T) (N := 7) hx hb hT in_T hown hK hP 0 rfl rfl 0 (by decide) (hT _ m409) (fun _ h9 => h9) rfl d_T_delay_1 ?_
  refine lv_iload_n hx hb d_T_delay_4 rfl (lv_at hl 1 rfl) ?_
  refine lv_iload_n hx hb d_T_delay_5 rfl (lv_at hl 2 rfl) ?_
  obtain ⟨r6, hcall, h⟩ := ob1_e h
  refine ro_i (va_Run.run (va_runV (As := [.int (iI x1), .int (iI x2)]) (rest := []) ⟨hx, hb, hml, hown, hts⟩ (c_Net_hasDelay l D cI cJ cZ F a N_period N_width N_size N_kind N_pins x1 x2 r6 s.heap.size hcall) (cwV 2 hts (gd_V m782 m779 m780 m781 m2) rfl rfl rfl ⟨rfl, hc_Net_hasDelay⟩ ⟨Nat.le_of_ble_eq_true rfl, Nat.le_of_ble_eq_true rfl⟩) (pc_V 1 1 [.int (iI x1), .int (iI x2)] hP hK hD0 hN [1, 2, 3] rfl rfl rfl rfl rfl) rfl rfl hl.1 rfl (lv_room (Nat.le_of_ble_eq_true rfl)) d_T_delay_6 ⟨Nat.zero_le _, Nat.zero_le _⟩)) (W.eq (g2 := F0 m 9 ls [.int (iI r6)]) rfl ?_)
  have hj29 : ∀  (ls : Array Slot), lv_has ls 6 [] → g_T_delay_j29 F = some k → W p l e (headSpec w_T_delay rt_T_delay).room s m args below meth c s.heap [] 0 0 Q (F0 m 29 ls []) := by
    intro  ls hl h
    rw [g_T_delay_j29] at h
    obtain rfl := so1 h
    subst hQ; exact wt_throw (k := 0) (cls := "java/lang/IllegalArgumentException") hfl hno hlocks hx hb hml hl.1 rfl (by decide) (by decide) hown (hT _ m658) (hT _ m659) (hT _ m16) (oa_T_72_74 hT hXW) d_T_delay_29 d_T_delay_32 d_T_delay_33 d_T_delay_36 (Nat.le_of_ble_eq_true rfl) (Nat.le_of_ble_eq_true rfl) (Nat.le_of_ble_eq_true rfl) ⟨(Nat.le_of_ble_eq_true rfl), (Nat.le_of_ble_eq_true rfl)⟩
  obtain ⟨hg0, h⟩ := gr_e h
  refine zi_eq hx hb d_T_delay_9 rfl hg0 (fun hc => ?_) (fun hc => ?_)
  · replace h := if_t hc h
    exact hj29  ls (lv_sub hl [] rfl) h
  · replace h := if_f hc h
    refine lv_iload_n hx hb d_T_delay_12 rfl (lv_at hl 3 rfl) ?_
    obtain ⟨r13, hcall, h⟩ := ob1_e h
    refine ro_i (va_Run.run (va_runS (As := [.int (iI x3)]) (rest := []) ⟨hx, hb, hml, hown, hts⟩ (c_T_isBit l D cI cJ cZ F a x3 r13 s.heap.size hcall) (cwS 1 hts (gd_S m786 m784 m785 m1) rfl rfl rfl ⟨rfl, hc_T_isBit⟩ ⟨Nat.le_of_ble_eq_true rfl, Nat.le_of_ble_eq_true rfl⟩) (pc_S [.int (iI x3)] hP hK hD0 hN [] rfl rfl rfl) rfl rfl hl.1 rfl (lv_room (Nat.le_of_ble_eq_true rfl)) d_T_delay_13 ⟨Nat.zero_le _, Nat.zero_le _⟩)) (W.eq (g2 := F0 m 16 ls [.int (iI r13)]) rfl ?_)
    obtain ⟨hg0, h⟩ := gr_e h
    refine zi_eq hx hb d_T_delay_16 rfl hg0 (fun hc => ?_) (fun hc => ?_)
    · replace h := if_t hc h
      exact hj29  ls (lv_sub hl [] rfl) h
    · replace h := if_f hc h
      refine lv_iload hx hb d_T_delay_19 (lv_at hl 4 rfl) ?_
      refine lv_iload hx hb d_T_delay_21 (lv_at hl 5 rfl) ?_
      obtain ⟨r23, hcall, h⟩ := ob1_e h
      refine ro_i (va_Run.run (va_runS (As := [.int (iI x4), .int (iI x5)]) (rest := []) ⟨hx, hb, hml, hown, hts⟩ (c_T_isDelay l D cI cJ cZ F a x4 x5 r23 s.heap.size hcall) (cwS 2 hts (gd_S m760 m758 m759 m1) rfl rfl rfl ⟨rfl, hc_T_isDelay⟩ ⟨Nat.le_of_ble_eq_true rfl, Nat.le_of_ble_eq_true rfl⟩) (pc_S [.int (iI x4), .int (iI x5)] hP hK hD0 hN [] rfl rfl rfl) rfl rfl hl.1 rfl (lv_room (Nat.le_of_ble_eq_true rfl)) d_T_delay_23 ⟨Nat.zero_le _, Nat.zero_le _⟩)) (W.eq (g2 := F0 m 26 ls [.int (iI r23)]) rfl ?_)
      obtain ⟨hg0, h⟩ := gr_e h
      refine zi_ne hx hb d_T_delay_26 rfl hg0 (fun hc => ?_) (fun hc => ?_)
      · replace h := if_f hc h
        refine lv_aload_n hx hb d_T_delay_37 rfl (lv_at hl 0 rfl) ?_
        refine va_get (D := D) (ci := 0) (v := .ref (a 43)) (C := R_T) (T := F_T) (N := 7) hx hb hT in_T hown hK hP 0 rfl rfl 0 (by decide) (hT _ m409) (fun _ h9 => h9) rfl d_T_delay_38 ?_
        refine va_get (D := D) (ci := 1) (v := .ref (a 44)) (C := R_Net) (T := F_Net) (N := 15) hx hb hT in_Net hown hK hP 1 rfl rfl 3 (by decide) (hT _ m57) (fun _ h9 => h9) rfl d_T_delay_41 ?_
        refine lv_iload_n hx hb d_T_delay_44 rfl (lv_at hl 1 rfl) ?_
        obtain ⟨hin, h⟩ := gi_e h
        refine zv_iald hx hb hK hP 2 0 rfl rfl (Nat.le_of_ble_eq_true rfl) hin d_T_delay_45 ?_
        refine zv_iconst hx hb d_T_delay_46 ?_
        have hj83 : ∀ (N_gateEarly_1 : Int → Int) (N_gateLate_2 : Int → Int) (N_startEarly_3 : Int → Int) (N_startLate_4 : Int → Int) (ls : Array Slot), lv_has ls 6 [(0, .ref (a 0))] → g_T_delay_j83 F N_gateEarly_1 N_gateLate_2 N_startEarly_3 N_startLate_4 = some k → W p l e (headSpec w_T_delay rt_T_delay).room s m args below meth c s.heap [] 0 0 Q (F0 m 83 ls []) := by
          intro N_gateEarly_1 N_gateLate_2 N_startEarly_3 N_startLate_4 ls hl h
          rw [g_T_delay_j83] at h
          refine lv_aload_n hx hb d_T_delay_83 rfl (lv_at hl 0 rfl) ?_
          refine zv_iconst hx hb d_T_delay_84 ?_
          exact no_some h
        obtain ⟨hg0, h⟩ := gr_e h
        refine zc_ne hx hb d_T_delay_47 rfl hg0 (by decide) (fun hc => ?_) (fun hc => ?_)
        · replace h := if_f hc h
          refine lv_aload_n hx hb d_T_delay_70 rfl (lv_at hl 0 rfl) ?_
          refine va_get (D := D) (ci := 0) (v := .ref (a 43)) (C := R_T) (T := F_T) (N := 7) hx hb hT in_T hown hK hP 0 rfl rfl 0 (by decide) (hT _ m409) (fun _ h9 => h9) rfl d_T_delay_71 ?_
          refine lv_iload_n hx hb d_T_delay_74 rfl (lv_at hl 1 rfl) ?_
          refine lv_iload_n hx hb d_T_delay_75 rfl (lv_at hl 3 rfl) ?_
          refine lv_iload hx hb d_T_delay_76 (lv_at hl 4 rfl) ?_
          refine lv_iload hx hb d_T_delay_78 (lv_at hl 5 rfl) ?_
          exact no_some h
        · replace h := if_t hc h
          refine lv_aload_n hx hb d_T_delay_50 rfl (lv_at hl 0 rfl) ?_
          refine va_get (D := D) (ci := 0) (v := .ref (a 43)) (C := R_T) (T := F_T) (N := 7) hx hb hT in_T hown hK hP 0 rfl rfl 0 (by decide) (hT _ m409) (fun _ h9 => h9) rfl d_T_delay_51 ?_
          refine lv_iload_n hx hb d_T_delay_54 rfl (lv_at hl 1 rfl) ?_
          refine zv_iconst hx hb d_T_delay_55 ?_
          refine zv_imul hx hb d_T_delay_56 ?_
          refine lv_iload_n hx hb d_T_delay_57 rfl (lv_at hl 2 rfl) ?_
          refine zv_iadd hx hb d_T_delay_58 ?_
          refine lv_iload_n hx hb d_T_delay_59 rfl (lv_at hl 3 rfl) ?_
          refine lv_iload hx hb d_T_delay_60 (lv_at hl 4 rfl) ?_
          refine lv_iload hx hb d_T_delay_62 (lv_at hl 5 rfl) ?_
          exact no_some h
      · replace h := if_t hc h
        exact hj29  ls (lv_sub hl [] rfl) h
abbrev rt_T_check : Room := { frames := 6, cells := 1, slots := 6, locals := 110 }
set_option maxHeartbeats 4000000 in
set_option maxRecDepth 100000 in
theorem t_T_check {l : Launch} (hfl : l.flags = flags0) (D : va_G) (cI cJ cZ : ClassId) (F : Nat) (a : Nat → Nat) (T_analysed : Int) (N_period : Int) (N_width : Int) (N_size : Int) (N_kind : Int → Int) (N_setups : Int → Int) (N_holds : Int → Int) (x1 : Int) (x2 : Int) (x3 : Int) (x4 : Int) (k : Nat) (sz : Nat) (h : g_T_check F N_size N_kind x1 x2 x3 x4 = some k) : MetT l y_T_check w_T_check rt_T_check (PX D [(cI, .int), (cJ, .long), (cZ, .boolean)] [.ref (a 0), .int (iI x1), .int (iI x2), .int (iI x3), .int (iI x4)] ([(o_T a T_analysed), (o_N a N_period N_width N_size), ((a 44), .inl (cI, 48, .inl (ia N_kind))), ((a 54), .inl (cI, 96, .inl (ia N_setups))), ((a 55), .inl (cI, 96, .inl (ia N_holds)))]) sz) k := by
  refine MetT.ofW (cc := prog_1_method_10_code) (maxL := 5) (ret := (Option.none : Option Jvm.ClassFile.FieldType)) (by decide) rfl ?_
  intro p e s m args below meth c s₁ B hml hv
  obtain ⟨⟨rfl, hsz, hP, hK, hD0, hN⟩, hXW⟩ := hv
  have hx := B.exec
  have hb := B.bytes
  have hr := B.returns
  have hts := atoms_spec (ws := w_T_check) B.pre
  have hown : s.vm.findClass R_T = some m.cls := findClass_of_methodNamed B.named
  have hlocks := B.notSynchronized
  subst hsz
  have hno := B.noHandlers (hts _ List.mem_cons_self)
  have hl := lv_entry ([.ref (a 0), .int (iI x1), .int (iI x2), .int (iI x3), .int (iI x4)]) (n := 5) (Nat.le_of_ble_eq_true rfl)
  rw [lg_entry_eq]
  generalize (lg_sl ([.ref (a 0), .int (iI x1), .int (iI x2), .int (iI x3), .int (iI x4)]) ++ List.replicate (5 - (lg_sl ([.ref (a 0), .int (iI x1), .int (iI x2), .int (iI x3), .int (iI x4)])).length) Slot.unset).toArray = ls at hl ⊢
  have hl : lv_has ls 5 [(0, .ref (a 0)), (1, .int (iI x1)), (2, .int (iI x2)), (3, .int (iI x3)), (4, .int (iI x4))] := hl
  generalize (List.toArray ([.ref (a 0), .int (iI x1), .int (iI x2), .int (iI x3), .int (iI x4)] : List Value)) = args at hts ⊢
  have hT : ∀ w ∈ Tg, w.before args s = true := fun w h => hts w (List.mem_cons_of_mem _ h)
  obtain ⟨Q, hQ⟩ : ∃ Q, Q = QT below k s := ⟨_, rfl⟩
  rw [← hQ]
  rw [g_T_check] at h
  refine lv_aload_n hx hb d_T_check_0 rfl (lv_at hl 0 rfl) ?_
  refine va_get (D := D) (ci := 0) (v := .ref (a 43)) (C := R_T) (T := F_T) (N := 7) hx hb hT in_T hown hK hP 0 rfl rfl 0 (by decide) (hT _ m409) (fun _ h9 => h9) rfl d_T_check_1 ?_
  refine lv_iload_n hx hb d_T_check_4 rfl (lv_at hl 1 rfl) ?_
  obtain ⟨r5, hcall, h⟩ := ob1_e h
  refine ro_i (va_Run.run (va_runV (As := [.int (iI x1)]) (rest := []) ⟨hx, hb, hml, hown, hts⟩ (c_Net_isEnd l D cI cJ cZ F a N_period N_width N_size N_kind x1 r5 s.heap.size hcall) (cwV 1 hts (gd_V m608 m798 m606 m607 m2) rfl rfl rfl ⟨rfl, hc_Net_isEnd⟩ ⟨Nat.le_of_ble_eq_true rfl, Nat.le_of_ble_eq_true rfl⟩) (pc_V 1 1 [.int (iI x1)] hP hK hD0 hN [1, 2] rfl rfl rfl rfl rfl) rfl rfl hl.1 rfl (lv_room (Nat.le_of_ble_eq_true rfl)) d_T_check_5 ⟨Nat.zero_le _, Nat.zero_le _⟩)) (W.eq (g2 := F0 m 8 ls [.int (iI r5)]) rfl ?_)
  have hj33 : ∀  (ls : Array Slot), lv_has ls 5 [] → g_T_check_j33 F = some k → W p l e (headSpec w_T_check rt_T_check).room s m args below meth c s.heap [] 0 0 Q (F0 m 33 ls []) := by
    intro  ls hl h
    rw [g_T_check_j33] at h
    obtain rfl := so1 h
    subst hQ; exact wt_throw (k := 0) (cls := "java/lang/IllegalArgumentException") hfl hno hlocks hx hb hml hl.1 rfl (by decide) (by decide) hown (hT _ m658) (hT _ m659) (hT _ m16) (oa_T_72_74 hT hXW) d_T_check_33 d_T_check_36 d_T_check_37 d_T_check_40 (Nat.le_of_ble_eq_true rfl) (Nat.le_of_ble_eq_true rfl) (Nat.le_of_ble_eq_true rfl) ⟨(Nat.le_of_ble_eq_true rfl), (Nat.le_of_ble_eq_true rfl)⟩
  obtain ⟨hg0, h⟩ := gr_e h
  refine zi_eq hx hb d_T_check_8 rfl hg0 (fun hc => ?_) (fun hc => ?_)
  · replace h := if_t hc h
    exact hj33  ls (lv_sub hl [] rfl) h
  · replace h := if_f hc h
    refine lv_iload_n hx hb d_T_check_11 rfl (lv_at hl 2 rfl) ?_
    obtain ⟨r12, hcall, h⟩ := ob1_e h
    refine ro_i (va_Run.run (va_runS (As := [.int (iI x2)]) (rest := []) ⟨hx, hb, hml, hown, hts⟩ (c_T_isBit l D cI cJ cZ F a x2 r12 s.heap.size hcall) (cwS 1 hts (gd_S m786 m784 m785 m1) rfl rfl rfl ⟨rfl, hc_T_isBit⟩ ⟨Nat.le_of_ble_eq_true rfl, Nat.le_of_ble_eq_true rfl⟩) (pc_S [.int (iI x2)] hP hK hD0 hN [] rfl rfl rfl) rfl rfl hl.1 rfl (lv_room (Nat.le_of_ble_eq_true rfl)) d_T_check_12 ⟨Nat.zero_le _, Nat.zero_le _⟩)) (W.eq (g2 := F0 m 15 ls [.int (iI r12)]) rfl ?_)
    obtain ⟨hg0, h⟩ := gr_e h
    refine zi_eq hx hb d_T_check_15 rfl hg0 (fun hc => ?_) (fun hc => ?_)
    · replace h := if_t hc h
      exact hj33  ls (lv_sub hl [] rfl) h
    · replace h := if_f hc h
      refine lv_iload_n hx hb d_T_check_18 rfl (lv_at hl 3 rfl) ?_
      obtain ⟨r19, hcall, h⟩ := ob1_e h
      refine ro_i (va_Run.run (va_runS (As := [.int (iI x3)]) (rest := []) ⟨hx, hb, hml, hown, hts⟩ (c_T_isCheckTime l D cI cJ cZ F a x3 r19 s.heap.size hcall) (cwS 1 hts (gd_S m801 m799 m800 m1) rfl rfl rfl ⟨rfl, hc_T_isCheckTime⟩ ⟨Nat.le_of_ble_eq_true rfl, Nat.le_of_ble_eq_true rfl⟩) (pc_S [.int (iI x3)] hP hK hD0 hN [] rfl rfl rfl) rfl rfl hl.1 rfl (lv_room (Nat.le_of_ble_eq_true rfl)) d_T_check_19 ⟨Nat.zero_le _, Nat.zero_le _⟩)) (W.eq (g2 := F0 m 22 ls [.int (iI r19)]) rfl ?_)
      obtain ⟨hg0, h⟩ := gr_e h
      refine zi_eq hx hb d_T_check_22 rfl hg0 (fun hc => ?_) (fun hc => ?_)
      · replace h := if_t hc h
        exact hj33  ls (lv_sub hl [] rfl) h
      · replace h := if_f hc h
        refine lv_iload hx hb d_T_check_25 (lv_at hl 4 rfl) ?_
        obtain ⟨r27, hcall, h⟩ := ob1_e h
        refine ro_i (va_Run.run (va_runS (As := [.int (iI x4)]) (rest := []) ⟨hx, hb, hml, hown, hts⟩ (c_T_isCheckTime l D cI cJ cZ F a x4 r27 s.heap.size hcall) (cwS 1 hts (gd_S m801 m799 m800 m1) rfl rfl rfl ⟨rfl, hc_T_isCheckTime⟩ ⟨Nat.le_of_ble_eq_true rfl, Nat.le_of_ble_eq_true rfl⟩) (pc_S [.int (iI x4)] hP hK hD0 hN [] rfl rfl rfl) rfl rfl hl.1 rfl (lv_room (Nat.le_of_ble_eq_true rfl)) d_T_check_27 ⟨Nat.zero_le _, Nat.zero_le _⟩)) (W.eq (g2 := F0 m 30 ls [.int (iI r27)]) rfl ?_)
        obtain ⟨hg0, h⟩ := gr_e h
        refine zi_ne hx hb d_T_check_30 rfl hg0 (fun hc => ?_) (fun hc => ?_)
        · replace h := if_f hc h
          refine lv_aload_n hx hb d_T_check_41 rfl (lv_at hl 0 rfl) ?_
          refine va_get (D := D) (ci := 0) (v := .ref (a 43)) (C := R_T) (T := F_T) (N := 7) hx hb hT in_T hown hK hP 0 rfl rfl 0 (by decide) (hT _ m409) (fun _ h9 => h9) rfl d_T_check_42 ?_
          refine va_get (D := D) (ci := 1) (v := .ref (a 54)) (C := R_Net) (T := F_Net) (N := 15) hx hb hT in_Net hown hK hP 1 rfl rfl 13 (by decide) (hT _ m96) (fun _ h9 => h9) rfl d_T_check_45 ?_
          refine zv_iconst hx hb d_T_check_48 ?_
          refine lv_iload_n hx hb d_T_check_49 rfl (lv_at hl 1 rfl) ?_
          refine zv_imul hx hb d_T_check_50 ?_
          refine lv_iload_n hx hb d_T_check_51 rfl (lv_at hl 2 rfl) ?_
          refine zv_iadd hx hb d_T_check_52 ?_
          refine lv_iload_n hx hb d_T_check_53 rfl (lv_at hl 3 rfl) ?_
          exact no_some h
        · replace h := if_t hc h
          exact hj33  ls (lv_sub hl [] rfl) h
abbrev rt_T_needAnalysis : Room := { frames := 6, cells := 1, slots := 6, locals := 110 }
set_option maxHeartbeats 4000000 in
set_option maxRecDepth 100000 in
theorem t_T_needAnalysis {l : Launch} (hfl : l.flags = flags0) (D : va_G) (cI cJ cZ : ClassId) (F : Nat) (a : Nat → Nat) (T_analysed : Int) (k : Nat) (sz : Nat) (h : g_T_needAnalysis F T_analysed = some k) : MetT l y_T_needAnalysis w_T_needAnalysis rt_T_needAnalysis (PX D [(cI, .int), (cJ, .long), (cZ, .boolean)] [.ref (a 0)] ([(o_T a T_analysed)]) sz) k := by
  refine MetT.ofW (cc := prog_1_method_23_code) (maxL := 1) (ret := (Option.none : Option Jvm.ClassFile.FieldType)) (by decide) rfl ?_
  intro p e s m args below meth c s₁ B hml hv
  obtain ⟨⟨rfl, hsz, hP, hK, hD0, hN⟩, hXW⟩ := hv
  have hx := B.exec
  have hb := B.bytes
  have hr := B.returns
  have hts := atoms_spec (ws := w_T_needAnalysis) B.pre
  have hown : s.vm.findClass R_T = some m.cls := findClass_of_methodNamed B.named
  have hlocks := B.notSynchronized
  subst hsz
  have hno := B.noHandlers (hts _ List.mem_cons_self)
  have hl := lv_entry ([.ref (a 0)]) (n := 1) (Nat.le_of_ble_eq_true rfl)
  rw [lg_entry_eq]
  generalize (lg_sl ([.ref (a 0)]) ++ List.replicate (1 - (lg_sl ([.ref (a 0)])).length) Slot.unset).toArray = ls at hl ⊢
  have hl : lv_has ls 1 [(0, .ref (a 0))] := hl
  generalize (List.toArray ([.ref (a 0)] : List Value)) = args at hts ⊢
  have hT : ∀ w ∈ Tg, w.before args s = true := fun w h => hts w (List.mem_cons_of_mem _ h)
  obtain ⟨Q, hQ⟩ : ∃ Q, Q = QT below k s := ⟨_, rfl⟩
  rw [← hQ]
  rw [g_T_needAnalysis] at h
  refine lv_aload_n hx hb d_T_needAnalysis_0 rfl (lv_at hl 0 rfl) ?_
  refine va_get (D := D) (ci := 0) (v := .int (iI T_analysed)) (C := R_T) (T := F_T) (N := 7) hx hb hT in_T hown hK hP 0 rfl rfl 6 (by decide) (hT _ m415) (fun _ h9 => h9) rfl d_T_needAnalysis_1 ?_
  obtain ⟨hg0, h⟩ := gr_e h
  refine zi_ne hx hb d_T_needAnalysis_4 rfl hg0 (fun hc => ?_) (fun hc => ?_)
  · replace h := if_f hc h
    exact no_some h
  · replace h := if_t hc h
    obtain rfl := so1 h
    subst hQ; exact wt_throw (k := 1) (cls := "java/lang/IllegalStateException") hfl hno hlocks hx hb hml hl.1 rfl (by decide) (by decide) hown (hT _ m814) (hT _ m815) (hT _ m19) (oa_T_219_221 hT hXW) d_T_needAnalysis_7 d_T_needAnalysis_10 d_T_needAnalysis_11 d_T_needAnalysis_14 (Nat.le_of_ble_eq_true rfl) (Nat.le_of_ble_eq_true rfl) (Nat.le_of_ble_eq_true rfl) ⟨(Nat.le_of_ble_eq_true rfl), (Nat.le_of_ble_eq_true rfl)⟩
abbrev rt_T_ways : Room := { frames := 7, cells := 1, slots := 6, locals := 130 }
set_option maxHeartbeats 4000000 in
set_option maxRecDepth 100000 in
theorem t_T_ways {l : Launch} (hfl : l.flags = flags0) (D : va_G) (cI cJ cZ : ClassId) (F : Nat) (a : Nat → Nat) (T_analysed : Int) (C_size : Int) (C_count : Int → Int) (N_period : Int) (N_width : Int) (N_size : Int) (N_kind : Int → Int) (x1 : Int) (k : Nat) (sz : Nat) (h : g_T_ways F T_analysed N_size N_kind x1 = some k) : MetT l y_T_ways w_T_ways rt_T_ways (PX D [(cI, .int), (cJ, .long), (cZ, .boolean)] [.ref (a 0), .int (iI x1)] ([(o_T a T_analysed), (o_C a C_size), ((a 19), .inl (cI, 48, .inl (ia C_count))), (o_N a N_period N_width N_size), ((a 44), .inl (cI, 48, .inl (ia N_kind)))]) sz) k := by
  refine MetT.ofW (cc := prog_1_method_13_code) (maxL := 2) (ret := (Option.some Jvm.ClassFile.FieldType.int)) (by decide) rfl ?_
  intro p e s m args below meth c s₁ B hml hv
  obtain ⟨⟨rfl, hsz, hP, hK, hD0, hN⟩, hXW⟩ := hv
  have hx := B.exec
  have hb := B.bytes
  have hr := B.returns
  have hts := atoms_spec (ws := w_T_ways) B.pre
  have hown : s.vm.findClass R_T = some m.cls := findClass_of_methodNamed B.named
  have hlocks := B.notSynchronized
  subst hsz
  have hno := B.noHandlers (hts _ List.mem_cons_self)
  have hl := lv_entry ([.ref (a 0), .int (iI x1)]) (n := 2) (Nat.le_of_ble_eq_true rfl)
  rw [lg_entry_eq]
  generalize (lg_sl ([.ref (a 0), .int (iI x1)]) ++ List.replicate (2 - (lg_sl ([.ref (a 0), .int (iI x1)])).length) Slot.unset).toArray = ls at hl ⊢
  have hl : lv_has ls 2 [(0, .ref (a 0)), (1, .int (iI x1))] := hl
  generalize (List.toArray ([.ref (a 0), .int (iI x1)] : List Value)) = args at hts ⊢
  have hT : ∀ w ∈ Tg, w.before args s = true := fun w h => hts w (List.mem_cons_of_mem _ h)
  obtain ⟨Q, hQ⟩ : ∃ Q, Q = QT below k s := ⟨_, rfl⟩
  rw [← hQ]
  rw [g_T_ways] at h
  refine lv_aload_n hx hb d_T_ways_0 rfl (lv_at hl 0 rfl) ?_
  rcases og_e h with hcall | ⟨hcallN, h⟩
  · subst hQ; exact wt_callV hno hlocks (As := []) (rest := []) ⟨hx, hb, hml, hown, hts⟩ (t_T_needAnalysis hfl D cI cJ cZ F a T_analysed k s.heap.size hcall) (cwV 0 hts (gd_V m813 m810 m812 sl_T_needAnalysis m1) rfl rfl rfl ⟨rfl, hc_T_needAnalysis⟩ ⟨Nat.le_of_ble_eq_true rfl, Nat.le_of_ble_eq_true rfl⟩) (px_V hXW 0 0 [] hP hK hD0 hN [0] rfl rfl rfl rfl rfl) rfl rfl hl.1 rfl (lv_room (Nat.le_of_ble_eq_true rfl)) rfl rfl d_T_ways_1 ⟨Nat.le_of_ble_eq_true rfl, Nat.le_of_ble_eq_true rfl⟩
  obtain ⟨hcall, h⟩ := ob0_e h
  refine ro_v (va_Run.run (va_runV (As := []) (rest := []) ⟨hx, hb, hml, hown, hts⟩ (c_T_needAnalysis l D cI cJ cZ F a T_analysed s.heap.size hcall) (cwV 0 hts (gd_V m813 m810 m812 sl_T_needAnalysis m1) rfl rfl rfl ⟨rfl, hc_T_needAnalysis⟩ ⟨Nat.le_of_ble_eq_true rfl, Nat.le_of_ble_eq_true rfl⟩) (pc_V 0 0 [] hP hK hD0 hN [0] rfl rfl rfl rfl rfl) rfl rfl hl.1 rfl (lv_room (Nat.le_of_ble_eq_true rfl)) d_T_ways_1 ⟨Nat.zero_le _, Nat.zero_le _⟩)) (W.eq (g2 := F0 m 4 ls []) rfl ?_)
  refine lv_aload_n hx hb d_T_ways_4 rfl (lv_at hl 0 rfl) ?_
  refine va_get (D := D) (ci := 0) (v := .ref (a 43)) (C := R_T) (T := F_T) (N := 7) hx hb hT in_T hown hK hP 0 rfl rfl 0 (by decide) (hT _ m409) (fun _ h9 => h9) rfl d_T_ways_5 ?_
  refine lv_iload_n hx hb d_T_ways_8 rfl (lv_at hl 1 rfl) ?_
  obtain ⟨r9, hcall, h⟩ := ob1_e h
  refine ro_i (va_Run.run (va_runV (As := [.int (iI x1)]) (rest := []) ⟨hx, hb, hml, hown, hts⟩ (c_Net_isNode l D cI cJ cZ F a N_period N_width N_size x1 r9 s.heap.size hcall) (cwV 1 hts (gd_V m570 m829 m568 m569 m2) rfl rfl rfl ⟨rfl, hc_Net_isNode⟩ ⟨Nat.le_of_ble_eq_true rfl, Nat.le_of_ble_eq_true rfl⟩) (pc_V 3 1 [.int (iI x1)] hP hK hD0 hN [3] rfl rfl rfl rfl rfl) rfl rfl hl.1 rfl (lv_room (Nat.le_of_ble_eq_true rfl)) d_T_ways_9 ⟨Nat.zero_le _, Nat.zero_le _⟩)) (W.eq (g2 := F0 m 12 ls [.int (iI r9)]) rfl ?_)
  have hj28 : ∀  (ls : Array Slot), lv_has ls 2 [] → g_T_ways_j28 F = some k → W p l e (headSpec w_T_ways rt_T_ways).room s m args below meth c s.heap [] 0 0 Q (F0 m 28 ls []) := by
    intro  ls hl h
    rw [g_T_ways_j28] at h
    obtain rfl := so1 h
    subst hQ; exact wt_throw (k := 0) (cls := "java/lang/IllegalArgumentException") hfl hno hlocks hx hb hml hl.1 rfl (by decide) (by decide) hown (hT _ m658) (hT _ m659) (hT _ m16) (oa_T_72_74 hT hXW) d_T_ways_28 d_T_ways_31 d_T_ways_32 d_T_ways_35 (Nat.le_of_ble_eq_true rfl) (Nat.le_of_ble_eq_true rfl) (Nat.le_of_ble_eq_true rfl) ⟨(Nat.le_of_ble_eq_true rfl), (Nat.le_of_ble_eq_true rfl)⟩
  obtain ⟨hg0, h⟩ := gr_e h
  refine zi_eq hx hb d_T_ways_12 rfl hg0 (fun hc => ?_) (fun hc => ?_)
  · replace h := if_t hc h
    exact hj28  ls (lv_sub hl [] rfl) h
  · replace h := if_f hc h
    refine lv_aload_n hx hb d_T_ways_15 rfl (lv_at hl 0 rfl) ?_
    refine va_get (D := D) (ci := 0) (v := .ref (a 43)) (C := R_T) (T := F_T) (N := 7) hx hb hT in_T hown hK hP 0 rfl rfl 0 (by decide) (hT _ m409) (fun _ h9 => h9) rfl d_T_ways_16 ?_
    refine va_get (D := D) (ci := 1) (v := .ref (a 44)) (C := R_Net) (T := F_Net) (N := 15) hx hb hT in_Net hown hK hP 3 rfl rfl 3 (by decide) (hT _ m57) (fun _ h9 => h9) rfl d_T_ways_19 ?_
    refine lv_iload_n hx hb d_T_ways_22 rfl (lv_at hl 1 rfl) ?_
    obtain ⟨hin, h⟩ := gi_e h
    refine zv_iald hx hb hK hP 4 0 rfl rfl (Nat.le_of_ble_eq_true rfl) hin d_T_ways_23 ?_
    refine zv_iconst hx hb d_T_ways_24 ?_
    obtain ⟨hg0, h⟩ := gr_e h
    refine zc_eq hx hb d_T_ways_25 rfl hg0 (by decide) (fun hc => ?_) (fun hc => ?_)
    · replace h := if_t hc h
      refine lv_aload_n hx hb d_T_ways_36 rfl (lv_at hl 0 rfl) ?_
      refine va_get (D := D) (ci := 0) (v := .ref (a 10)) (C := R_T) (T := F_T) (N := 7) hx hb hT in_T hown hK hP 0 rfl rfl 2 (by decide) (hT _ m411) (fun _ h9 => h9) rfl d_T_ways_37 ?_
      refine va_get (D := D) (ci := 4) (v := .ref (a 19)) (C := R_ClockWays) (T := F_ClockWays) (N := 17) hx hb hT in_ClockWays hown hK hP 1 rfl rfl 12 (by decide) (hT _ m211) (fun _ h9 => h9) rfl d_T_ways_40 ?_
      refine lv_iload_n hx hb d_T_ways_43 rfl (lv_at hl 1 rfl) ?_
      obtain ⟨hin, h⟩ := gi_e h
      refine zv_iald hx hb hK hP 2 0 rfl rfl (Nat.le_of_ble_eq_true rfl) hin d_T_ways_44 ?_
      exact no_some h
    · replace h := if_f hc h
      exact hj28  ls (lv_sub hl [] rfl) h
abbrev rt_T_arrival : Room := { frames := 7, cells := 1, slots := 6, locals := 130 }
set_option maxHeartbeats 4000000 in
set_option maxRecDepth 100000 in
theorem t_T_arrival {l : Launch} (hfl : l.flags = flags0) (D : va_G) (cI cJ cZ : ClassId) (F : Nat) (a : Nat → Nat) (T_analysed : Int) (Z_count : Int → Int) (Z_early : Int → Int) (Z_late : Int → Int) (V_count : Int → Int) (V_early : Int → Int) (V_late : Int → Int) (N_period : Int) (N_width : Int) (N_size : Int) (N_kind : Int → Int) (N_source : Int → Int) (N_wireEarly : Int → Int) (N_wireLate : Int → Int) (x1 : Int) (x2 : Int) (x3 : Int) (x4 : Int) (k : Nat) (sz : Nat) (h : g_T_arrival F T_analysed Z_count Z_early Z_late V_count V_early V_late N_size N_kind N_source N_wireEarly N_wireLate x1 x2 x3 x4 = some k) : MetT l y_T_arrival w_T_arrival rt_T_arrival (PX D [(cI, .int), (cJ, .long), (cZ, .boolean)] [.ref (a 0), .int (iI x1), .int (iI x2), .int (iI x3), .int (iI x4)] ([(o_T a T_analysed), (o_A a), (o_Z a), ((a 33), .inl (cI, 96, .inl (ia Z_count))), ((a 34), .inl (cI, 96, .inl (ia Z_early))), ((a 35), .inl (cI, 96, .inl (ia Z_late))), (o_V a), ((a 37), .inl (cI, 96, .inl (ia V_count))), ((a 38), .inl (cI, 96, .inl (ia V_early))), ((a 39), .inl (cI, 96, .inl (ia V_late))), (o_N a N_period N_width N_size), ((a 44), .inl (cI, 48, .inl (ia N_kind))), ((a 46), .inl (cI, 144, .inl (ia N_source))), ((a 47), .inl (cI, 144, .inl (ia N_wireEarly))), ((a 48), .inl (cI, 144, .inl (ia N_wireLate)))]) sz) k := by
  refine MetT.ofW (cc := prog_1_method_14_code) (maxL := 5) (ret := (Option.some Jvm.ClassFile.FieldType.int)) (by decide) rfl ?_
  intro p e s m args below meth c s₁ B hml hv
  obtain ⟨⟨rfl, hsz, hP, hK, hD0, hN⟩, hXW⟩ := hv
  have hx := B.exec
  have hb := B.bytes
  have hr := B.returns
  have hts := atoms_spec (ws := w_T_arrival) B.pre
  have hown : s.vm.findClass R_T = some m.cls := findClass_of_methodNamed B.named
  have hlocks := B.notSynchronized
  subst hsz
  have hno := B.noHandlers (hts _ List.mem_cons_self)
  have hl := lv_entry ([.ref (a 0), .int (iI x1), .int (iI x2), .int (iI x3), .int (iI x4)]) (n := 5) (Nat.le_of_ble_eq_true rfl)
  rw [lg_entry_eq]
  generalize (lg_sl ([.ref (a 0), .int (iI x1), .int (iI x2), .int (iI x3), .int (iI x4)]) ++ List.replicate (5 - (lg_sl ([.ref (a 0), .int (iI x1), .int (iI x2), .int (iI x3), .int (iI x4)])).length) Slot.unset).toArray = ls at hl ⊢
  have hl : lv_has ls 5 [(0, .ref (a 0)), (1, .int (iI x1)), (2, .int (iI x2)), (3, .int (iI x3)), (4, .int (iI x4))] := hl
  generalize (List.toArray ([.ref (a 0), .int (iI x1), .int (iI x2), .int (iI x3), .int (iI x4)] : List Value)) = args at hts ⊢
  have hT : ∀ w ∈ Tg, w.before args s = true := fun w h => hts w (List.mem_cons_of_mem _ h)
  obtain ⟨Q, hQ⟩ : ∃ Q, Q = QT below k s := ⟨_, rfl⟩
  rw [← hQ]
  rw [g_T_arrival] at h
  refine lv_aload_n hx hb d_T_arrival_0 rfl (lv_at hl 0 rfl) ?_
  rcases og_e h with hcall | ⟨hcallN, h⟩
  · subst hQ; exact wt_callV hno hlocks (As := []) (rest := []) ⟨hx, hb, hml, hown, hts⟩ (t_T_needAnalysis hfl D cI cJ cZ F a T_analysed k s.heap.size hcall) (cwV 0 hts (gd_V m813 m810 m812 sl_T_needAnalysis m1) rfl rfl rfl ⟨rfl, hc_T_needAnalysis⟩ ⟨Nat.le_of_ble_eq_true rfl, Nat.le_of_ble_eq_true rfl⟩) (px_V hXW 0 0 [] hP hK hD0 hN [0] rfl rfl rfl rfl rfl) rfl rfl hl.1 rfl (lv_room (Nat.le_of_ble_eq_true rfl)) rfl rfl d_T_arrival_1 ⟨Nat.le_of_ble_eq_true rfl, Nat.le_of_ble_eq_true rfl⟩
  obtain ⟨hcall, h⟩ := ob0_e h
  refine ro_v (va_Run.run (va_runV (As := []) (rest := []) ⟨hx, hb, hml, hown, hts⟩ (c_T_needAnalysis l D cI cJ cZ F a T_analysed s.heap.size hcall) (cwV 0 hts (gd_V m813 m810 m812 sl_T_needAnalysis m1) rfl rfl rfl ⟨rfl, hc_T_needAnalysis⟩ ⟨Nat.le_of_ble_eq_true rfl, Nat.le_of_ble_eq_true rfl⟩) (pc_V 0 0 [] hP hK hD0 hN [0] rfl rfl rfl rfl rfl) rfl rfl hl.1 rfl (lv_room (Nat.le_of_ble_eq_true rfl)) d_T_arrival_1 ⟨Nat.zero_le _, Nat.zero_le _⟩)) (W.eq (g2 := F0 m 4 ls []) rfl ?_)
  refine lv_aload_n hx hb d_T_arrival_4 rfl (lv_at hl 0 rfl) ?_
  refine va_get (D := D) (ci := 0) (v := .ref (a 43)) (C := R_T) (T := F_T) (N := 7) hx hb hT in_T hown hK hP 0 rfl rfl 0 (by decide) (hT _ m409) (fun _ h9 => h9) rfl d_T_arrival_5 ?_
  refine lv_iload_n hx hb d_T_arrival_8 rfl (lv_at hl 1 rfl) ?_
  obtain ⟨r9, hcall, h⟩ := ob1_e h
  refine ro_i (va_Run.run (va_runV (As := [.int (iI x1)]) (rest := []) ⟨hx, hb, hml, hown, hts⟩ (c_Net_isNode l D cI cJ cZ F a N_period N_width N_size x1 r9 s.heap.size hcall) (cwV 1 hts (gd_V m570 m829 m568 m569 m2) rfl rfl rfl ⟨rfl, hc_Net_isNode⟩ ⟨Nat.le_of_ble_eq_true rfl, Nat.le_of_ble_eq_true rfl⟩) (pc_V 10 1 [.int (iI x1)] hP hK hD0 hN [10] rfl rfl rfl rfl rfl) rfl rfl hl.1 rfl (lv_room (Nat.le_of_ble_eq_true rfl)) d_T_arrival_9 ⟨Nat.zero_le _, Nat.zero_le _⟩)) (W.eq (g2 := F0 m 12 ls [.int (iI r9)]) rfl ?_)
  have hj29 : ∀  (ls : Array Slot), lv_has ls 5 [] → g_T_arrival_j29 F = some k → W p l e (headSpec w_T_arrival rt_T_arrival).room s m args below meth c s.heap [] 0 0 Q (F0 m 29 ls []) := by
    intro  ls hl h
    rw [g_T_arrival_j29] at h
    obtain rfl := so1 h
    subst hQ; exact wt_throw (k := 0) (cls := "java/lang/IllegalArgumentException") hfl hno hlocks hx hb hml hl.1 rfl (by decide) (by decide) hown (hT _ m658) (hT _ m659) (hT _ m16) (oa_T_72_74 hT hXW) d_T_arrival_29 d_T_arrival_32 d_T_arrival_33 d_T_arrival_36 (Nat.le_of_ble_eq_true rfl) (Nat.le_of_ble_eq_true rfl) (Nat.le_of_ble_eq_true rfl) ⟨(Nat.le_of_ble_eq_true rfl), (Nat.le_of_ble_eq_true rfl)⟩
  obtain ⟨hg0, h⟩ := gr_e h
  refine zi_eq hx hb d_T_arrival_12 rfl hg0 (fun hc => ?_) (fun hc => ?_)
  · replace h := if_t hc h
    exact hj29  ls (lv_sub hl [] rfl) h
  · replace h := if_f hc h
    refine lv_iload_n hx hb d_T_arrival_15 rfl (lv_at hl 2 rfl) ?_
    obtain ⟨r16, hcall, h⟩ := ob1_e h
    refine ro_i (va_Run.run (va_runS (As := [.int (iI x2)]) (rest := []) ⟨hx, hb, hml, hown, hts⟩ (c_T_isBit l D cI cJ cZ F a x2 r16 s.heap.size hcall) (cwS 1 hts (gd_S m786 m784 m785 m1) rfl rfl rfl ⟨rfl, hc_T_isBit⟩ ⟨Nat.le_of_ble_eq_true rfl, Nat.le_of_ble_eq_true rfl⟩) (pc_S [.int (iI x2)] hP hK hD0 hN [] rfl rfl rfl) rfl rfl hl.1 rfl (lv_room (Nat.le_of_ble_eq_true rfl)) d_T_arrival_16 ⟨Nat.zero_le _, Nat.zero_le _⟩)) (W.eq (g2 := F0 m 19 ls [.int (iI r16)]) rfl ?_)
    obtain ⟨hg0, h⟩ := gr_e h
    refine zi_eq hx hb d_T_arrival_19 rfl hg0 (fun hc => ?_) (fun hc => ?_)
    · replace h := if_t hc h
      exact hj29  ls (lv_sub hl [] rfl) h
    · replace h := if_f hc h
      refine lv_iload_n hx hb d_T_arrival_22 rfl (lv_at hl 3 rfl) ?_
      obtain ⟨r23, hcall, h⟩ := ob1_e h
      refine ro_i (va_Run.run (va_runS (As := [.int (iI x3)]) (rest := []) ⟨hx, hb, hml, hown, hts⟩ (c_T_isBit l D cI cJ cZ F a x3 r23 s.heap.size hcall) (cwS 1 hts (gd_S m786 m784 m785 m1) rfl rfl rfl ⟨rfl, hc_T_isBit⟩ ⟨Nat.le_of_ble_eq_true rfl, Nat.le_of_ble_eq_true rfl⟩) (pc_S [.int (iI x3)] hP hK hD0 hN [] rfl rfl rfl) rfl rfl hl.1 rfl (lv_room (Nat.le_of_ble_eq_true rfl)) d_T_arrival_23 ⟨Nat.zero_le _, Nat.zero_le _⟩)) (W.eq (g2 := F0 m 26 ls [.int (iI r23)]) rfl ?_)
      obtain ⟨hg0, h⟩ := gr_e h
      refine zi_ne hx hb d_T_arrival_26 rfl hg0 (fun hc => ?_) (fun hc => ?_)
      · replace h := if_f hc h
        refine lv_aload_n hx hb d_T_arrival_37 rfl (lv_at hl 0 rfl) ?_
        refine va_get (D := D) (ci := 0) (v := .ref (a 1)) (C := R_T) (T := F_T) (N := 7) hx hb hT in_T hown hK hP 0 rfl rfl 3 (by decide) (hT _ m412) (fun _ h9 => h9) rfl d_T_arrival_38 ?_
        refine lv_iload_n hx hb d_T_arrival_41 rfl (lv_at hl 1 rfl) ?_
        refine lv_iload_n hx hb d_T_arrival_42 rfl (lv_at hl 2 rfl) ?_
        refine lv_iload_n hx hb d_T_arrival_43 rfl (lv_at hl 3 rfl) ?_
        refine lv_iload hx hb d_T_arrival_44 (lv_at hl 4 rfl) ?_
        obtain ⟨r46, hcall, h⟩ := ob1_e h
        refine ro_i (va_Run.run (va_runV (As := [.int (iI x1), .int (iI x2), .int (iI x3), .int (iI x4)]) (rest := []) ⟨hx, hb, hml, hown, hts⟩ (c_Arrivals_timeAt l D cI cJ cZ F a Z_count Z_early Z_late V_count V_early V_late N_period N_width N_size N_kind N_source N_wireEarly N_wireLate x1 x2 x3 x4 r46 s.heap.size hcall) (cwV 4 hts (gd_V m840 m837 m838 m839 m8) rfl rfl rfl ⟨rfl, hc_Arrivals_timeAt⟩ ⟨Nat.le_of_ble_eq_true rfl, Nat.le_of_ble_eq_true rfl⟩) (pc_V 1 5 [.int (iI x1), .int (iI x2), .int (iI x3), .int (iI x4)] hP hK hD0 hN [1, 2, 3, 4, 5, 6, 7, 8, 9, 10, 11, 12, 13, 14] rfl rfl rfl rfl rfl) rfl rfl hl.1 rfl (lv_room (Nat.le_of_ble_eq_true rfl)) d_T_arrival_46 ⟨Nat.zero_le _, Nat.zero_le _⟩)) (W.eq (g2 := F0 m 49 ls [.int (iI r46)]) rfl ?_)
        exact no_some h
      · replace h := if_t hc h
        exact hj29  ls (lv_sub hl [] rfl) h
abbrev rt_T_slack : Room := { frames := 7, cells := 1, slots := 6, locals := 130 }
set_option maxHeartbeats 4000000 in
set_option maxRecDepth 100000 in
theorem t_T_slack {l : Launch} (hfl : l.flags = flags0) (D : va_G) (cI cJ cZ : ClassId) (F : Nat) (a : Nat → Nat) (T_analysed : Int) (L_leastMoving : Int) (L_leastFixed : Int) (L_pathCount : Int) (L_least : Int → Int) (N_period : Int) (N_width : Int) (N_size : Int) (N_kind : Int → Int) (x1 : Int) (x2 : Int) (k : Nat) (sz : Nat) (h : g_T_slack F T_analysed L_least N_size N_kind x1 x2 = some k) : MetT l y_T_slack w_T_slack rt_T_slack (PX D [(cI, .int), (cJ, .long), (cZ, .boolean)] [.ref (a 0), .int (iI x1), .int (iI x2)] ([(o_T a T_analysed), (o_L a L_leastMoving L_leastFixed L_pathCount), ((a 3), .inl (cI, 96, .inl (ia L_least))), (o_N a N_period N_width N_size), ((a 44), .inl (cI, 48, .inl (ia N_kind)))]) sz) k := by
  refine MetT.ofW (cc := prog_1_method_15_code) (maxL := 3) (ret := (Option.some Jvm.ClassFile.FieldType.int)) (by decide) rfl ?_
  intro p e s m args below meth c s₁ B hml hv
  obtain ⟨⟨rfl, hsz, hP, hK, hD0, hN⟩, hXW⟩ := hv
  have hx := B.exec
  have hb := B.bytes
  have hr := B.returns
  have hts := atoms_spec (ws := w_T_slack) B.pre
  have hown : s.vm.findClass R_T = some m.cls := findClass_of_methodNamed B.named
  have hlocks := B.notSynchronized
  subst hsz
  have hno := B.noHandlers (hts _ List.mem_cons_self)
  have hl := lv_entry ([.ref (a 0), .int (iI x1), .int (iI x2)]) (n := 3) (Nat.le_of_ble_eq_true rfl)
  rw [lg_entry_eq]
  generalize (lg_sl ([.ref (a 0), .int (iI x1), .int (iI x2)]) ++ List.replicate (3 - (lg_sl ([.ref (a 0), .int (iI x1), .int (iI x2)])).length) Slot.unset).toArray = ls at hl ⊢
  have hl : lv_has ls 3 [(0, .ref (a 0)), (1, .int (iI x1)), (2, .int (iI x2))] := hl
  generalize (List.toArray ([.ref (a 0), .int (iI x1), .int (iI x2)] : List Value)) = args at hts ⊢
  have hT : ∀ w ∈ Tg, w.before args s = true := fun w h => hts w (List.mem_cons_of_mem _ h)
  obtain ⟨Q, hQ⟩ : ∃ Q, Q = QT below k s := ⟨_, rfl⟩
  rw [← hQ]
  rw [g_T_slack] at h
  refine lv_aload_n hx hb d_T_slack_0 rfl (lv_at hl 0 rfl) ?_
  rcases og_e h with hcall | ⟨hcallN, h⟩
  · subst hQ; exact wt_callV hno hlocks (As := []) (rest := []) ⟨hx, hb, hml, hown, hts⟩ (t_T_needAnalysis hfl D cI cJ cZ F a T_analysed k s.heap.size hcall) (cwV 0 hts (gd_V m813 m810 m812 sl_T_needAnalysis m1) rfl rfl rfl ⟨rfl, hc_T_needAnalysis⟩ ⟨Nat.le_of_ble_eq_true rfl, Nat.le_of_ble_eq_true rfl⟩) (px_V hXW 0 0 [] hP hK hD0 hN [0] rfl rfl rfl rfl rfl) rfl rfl hl.1 rfl (lv_room (Nat.le_of_ble_eq_true rfl)) rfl rfl d_T_slack_1 ⟨Nat.le_of_ble_eq_true rfl, Nat.le_of_ble_eq_true rfl⟩
  obtain ⟨hcall, h⟩ := ob0_e h
  refine ro_v (va_Run.run (va_runV (As := []) (rest := []) ⟨hx, hb, hml, hown, hts⟩ (c_T_needAnalysis l D cI cJ cZ F a T_analysed s.heap.size hcall) (cwV 0 hts (gd_V m813 m810 m812 sl_T_needAnalysis m1) rfl rfl rfl ⟨rfl, hc_T_needAnalysis⟩ ⟨Nat.le_of_ble_eq_true rfl, Nat.le_of_ble_eq_true rfl⟩) (pc_V 0 0 [] hP hK hD0 hN [0] rfl rfl rfl rfl rfl) rfl rfl hl.1 rfl (lv_room (Nat.le_of_ble_eq_true rfl)) d_T_slack_1 ⟨Nat.zero_le _, Nat.zero_le _⟩)) (W.eq (g2 := F0 m 4 ls []) rfl ?_)
  refine lv_aload_n hx hb d_T_slack_4 rfl (lv_at hl 0 rfl) ?_
  refine va_get (D := D) (ci := 0) (v := .ref (a 43)) (C := R_T) (T := F_T) (N := 7) hx hb hT in_T hown hK hP 0 rfl rfl 0 (by decide) (hT _ m409) (fun _ h9 => h9) rfl d_T_slack_5 ?_
  refine lv_iload_n hx hb d_T_slack_8 rfl (lv_at hl 1 rfl) ?_
  obtain ⟨r9, hcall, h⟩ := ob1_e h
  refine ro_i (va_Run.run (va_runV (As := [.int (iI x1)]) (rest := []) ⟨hx, hb, hml, hown, hts⟩ (c_Net_isEnd l D cI cJ cZ F a N_period N_width N_size N_kind x1 r9 s.heap.size hcall) (cwV 1 hts (gd_V m608 m798 m606 m607 m2) rfl rfl rfl ⟨rfl, hc_Net_isEnd⟩ ⟨Nat.le_of_ble_eq_true rfl, Nat.le_of_ble_eq_true rfl⟩) (pc_V 3 1 [.int (iI x1)] hP hK hD0 hN [3, 4] rfl rfl rfl rfl rfl) rfl rfl hl.1 rfl (lv_room (Nat.le_of_ble_eq_true rfl)) d_T_slack_9 ⟨Nat.zero_le _, Nat.zero_le _⟩)) (W.eq (g2 := F0 m 12 ls [.int (iI r9)]) rfl ?_)
  have hj22 : ∀  (ls : Array Slot), lv_has ls 3 [] → g_T_slack_j22 F = some k → W p l e (headSpec w_T_slack rt_T_slack).room s m args below meth c s.heap [] 0 0 Q (F0 m 22 ls []) := by
    intro  ls hl h
    rw [g_T_slack_j22] at h
    obtain rfl := so1 h
    subst hQ; exact wt_throw (k := 0) (cls := "java/lang/IllegalArgumentException") hfl hno hlocks hx hb hml hl.1 rfl (by decide) (by decide) hown (hT _ m658) (hT _ m659) (hT _ m16) (oa_T_72_74 hT hXW) d_T_slack_22 d_T_slack_25 d_T_slack_26 d_T_slack_29 (Nat.le_of_ble_eq_true rfl) (Nat.le_of_ble_eq_true rfl) (Nat.le_of_ble_eq_true rfl) ⟨(Nat.le_of_ble_eq_true rfl), (Nat.le_of_ble_eq_true rfl)⟩
  obtain ⟨hg0, h⟩ := gr_e h
  refine zi_eq hx hb d_T_slack_12 rfl hg0 (fun hc => ?_) (fun hc => ?_)
  · replace h := if_t hc h
    exact hj22  ls (lv_sub hl [] rfl) h
  · replace h := if_f hc h
    refine lv_iload_n hx hb d_T_slack_15 rfl (lv_at hl 2 rfl) ?_
    obtain ⟨r16, hcall, h⟩ := ob1_e h
    refine ro_i (va_Run.run (va_runS (As := [.int (iI x2)]) (rest := []) ⟨hx, hb, hml, hown, hts⟩ (c_T_isBit l D cI cJ cZ F a x2 r16 s.heap.size hcall) (cwS 1 hts (gd_S m786 m784 m785 m1) rfl rfl rfl ⟨rfl, hc_T_isBit⟩ ⟨Nat.le_of_ble_eq_true rfl, Nat.le_of_ble_eq_true rfl⟩) (pc_S [.int (iI x2)] hP hK hD0 hN [] rfl rfl rfl) rfl rfl hl.1 rfl (lv_room (Nat.le_of_ble_eq_true rfl)) d_T_slack_16 ⟨Nat.zero_le _, Nat.zero_le _⟩)) (W.eq (g2 := F0 m 19 ls [.int (iI r16)]) rfl ?_)
    obtain ⟨hg0, h⟩ := gr_e h
    refine zi_ne hx hb d_T_slack_19 rfl hg0 (fun hc => ?_) (fun hc => ?_)
    · replace h := if_f hc h
      refine lv_aload_n hx hb d_T_slack_30 rfl (lv_at hl 0 rfl) ?_
      refine va_get (D := D) (ci := 0) (v := .ref (a 2)) (C := R_T) (T := F_T) (N := 7) hx hb hT in_T hown hK hP 0 rfl rfl 4 (by decide) (hT _ m413) (fun _ h9 => h9) rfl d_T_slack_31 ?_
      refine lv_iload_n hx hb d_T_slack_34 rfl (lv_at hl 1 rfl) ?_
      refine lv_iload_n hx hb d_T_slack_35 rfl (lv_at hl 2 rfl) ?_
      obtain ⟨r36, hcall, h⟩ := ob1_e h
      refine ro_i (va_Run.run (va_runV (As := [.int (iI x1), .int (iI x2)]) (rest := []) ⟨hx, hb, hml, hown, hts⟩ (c_Slacks_leastAt l D cI cJ cZ F a L_leastMoving L_leastFixed L_pathCount L_least x1 x2 r36 s.heap.size hcall) (cwV 2 hts (gd_V m856 m853 m854 m855 m9) rfl rfl rfl ⟨rfl, hc_Slacks_leastAt⟩ ⟨Nat.le_of_ble_eq_true rfl, Nat.le_of_ble_eq_true rfl⟩) (pc_V 1 7 [.int (iI x1), .int (iI x2)] hP hK hD0 hN [1, 2] rfl rfl rfl rfl rfl) rfl rfl hl.1 rfl (lv_room (Nat.le_of_ble_eq_true rfl)) d_T_slack_36 ⟨Nat.zero_le _, Nat.zero_le _⟩)) (W.eq (g2 := F0 m 39 ls [.int (iI r36)]) rfl ?_)
      exact no_some h
    · replace h := if_t hc h
      exact hj22  ls (lv_sub hl [] rfl) h
abbrev rt_T_needBit : Room := { frames := 6, cells := 1, slots := 6, locals := 110 }
set_option maxHeartbeats 4000000 in
set_option maxRecDepth 100000 in
theorem t_T_needBit {l : Launch} (hfl : l.flags = flags0) (D : va_G) (cI cJ cZ : ClassId) (F : Nat) (a : Nat → Nat) (x0 : Int) (k : Nat) (sz : Nat) (h : g_T_needBit F x0 = some k) : MetT l y_T_needBit w_T_needBit rt_T_needBit (PX D [(cI, .int), (cJ, .long), (cZ, .boolean)] [.int (iI x0)] ([]) sz) k := by
  refine MetT.ofW (cc := prog_1_method_25_code) (maxL := 1) (ret := (Option.none : Option Jvm.ClassFile.FieldType)) (by decide) rfl ?_
  intro p e s m args below meth c s₁ B hml hv
  obtain ⟨⟨rfl, hsz, hP, hK, hD0, hN⟩, hXW⟩ := hv
  have hx := B.exec
  have hb := B.bytes
  have hr := B.returns
  have hts := atoms_spec (ws := w_T_needBit) B.pre
  have hown : s.vm.findClass R_T = some m.cls := findClass_of_methodNamed B.named
  have hlocks := B.notSynchronized
  subst hsz
  have hno := B.noHandlers (hts _ List.mem_cons_self)
  have hl := lv_entry ([.int (iI x0)]) (n := 1) (Nat.le_of_ble_eq_true rfl)
  rw [lg_entry_eq]
  generalize (lg_sl ([.int (iI x0)]) ++ List.replicate (1 - (lg_sl ([.int (iI x0)])).length) Slot.unset).toArray = ls at hl ⊢
  have hl : lv_has ls 1 [(0, .int (iI x0))] := hl
  generalize (List.toArray ([.int (iI x0)] : List Value)) = args at hts ⊢
  have hT : ∀ w ∈ Tg, w.before args s = true := fun w h => hts w (List.mem_cons_of_mem _ h)
  obtain ⟨Q, hQ⟩ : ∃ Q, Q = QT below k s := ⟨_, rfl⟩
  rw [← hQ]
  rw [g_T_needBit] at h
  refine lv_iload_n hx hb d_T_needBit_0 rfl (lv_at hl 0 rfl) ?_
  obtain ⟨r1, hcall, h⟩ := ob1_e h
  refine ro_i (va_Run.run (va_runS (As := [.int (iI x0)]) (rest := []) ⟨hx, hb, hml, hown, hts⟩ (c_T_isBit l D cI cJ cZ F a x0 r1 s.heap.size hcall) (cwS 1 hts (gd_S m786 m784 m785 m1) rfl rfl rfl ⟨rfl, hc_T_isBit⟩ ⟨Nat.le_of_ble_eq_true rfl, Nat.le_of_ble_eq_true rfl⟩) (pc_S [.int (iI x0)] hP hK hD0 hN [] rfl rfl rfl) rfl rfl hl.1 rfl (lv_room (Nat.le_of_ble_eq_true rfl)) d_T_needBit_1 ⟨Nat.zero_le _, Nat.zero_le _⟩)) (W.eq (g2 := F0 m 4 ls [.int (iI r1)]) rfl ?_)
  obtain ⟨hg0, h⟩ := gr_e h
  refine zi_ne hx hb d_T_needBit_4 rfl hg0 (fun hc => ?_) (fun hc => ?_)
  · replace h := if_f hc h
    exact no_some h
  · replace h := if_t hc h
    obtain rfl := so1 h
    subst hQ; exact wt_throw (k := 0) (cls := "java/lang/IllegalArgumentException") hfl hno hlocks hx hb hml hl.1 rfl (by decide) (by decide) hown (hT _ m658) (hT _ m659) (hT _ m16) (oa_T_72_74 hT hXW) d_T_needBit_7 d_T_needBit_10 d_T_needBit_11 d_T_needBit_14 (Nat.le_of_ble_eq_true rfl) (Nat.le_of_ble_eq_true rfl) (Nat.le_of_ble_eq_true rfl) ⟨(Nat.le_of_ble_eq_true rfl), (Nat.le_of_ble_eq_true rfl)⟩
