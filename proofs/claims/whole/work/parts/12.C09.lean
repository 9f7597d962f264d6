abbrev rm_T_worst : Room := { frames := 7, cells := 0, slots := 0, locals := 130 }
set_option maxHeartbeats 4000000 in
set_option maxRecDepth 100000 in
theorem c_T_worst (l : Launch) (D : va_G) (cI cJ cZ : ClassId) (F : Nat) (a : Nat → Nat) (T_analysed : Int) (L_leastMoving : Int) (L_leastFixed : Int) (L_pathCount : Int) (L_least : Int → Int) (N_period : Int) (N_width : Int) (N_size : Int) (x1 : Int) (r : Int) (sz : Nat) (h : f_T_worst F T_analysed L_least N_size x1 = some (r)) : Met l y_T_worst w_T_worst rm_T_worst (PC D [(cI, .int), (cJ, .long), (cZ, .boolean)] [.ref (a 0), .int (iI x1)] ([(o_T a T_analysed), (o_L a L_leastMoving L_leastFixed L_pathCount), ((a 3), .inl (cI, 96, .inl (ia L_least))), (o_N a N_period N_width N_size)]) sz) (QcRead (iI r)) 0 0 (fun _ => False) := by
  refine Met.ofW (cc := prog_1_method_16_code) (maxL := 2) (ret := (Option.some Jvm.ClassFile.FieldType.int)) (by decide) rfl ?_
  intro p e s m args below meth c s₁ B hml hv
  obtain ⟨rfl, hsz, hP, hK, hD0, hN⟩ := hv
  have hx := B.exec
  have hb := B.bytes
  have hr := B.returns
  have hts := atoms_spec (ws := w_T_worst) B.pre
  have hown : s.vm.findClass R_T = some m.cls := findClass_of_methodNamed B.named
  have hlocks := B.notSynchronized
  subst hsz
  have hl := lv_entry ([.ref (a 0), .int (iI x1)]) (n := 2) (Nat.le_of_ble_eq_true rfl)
  rw [lg_entry_eq]
  generalize (lg_sl ([.ref (a 0), .int (iI x1)]) ++ List.replicate (2 - (lg_sl ([.ref (a 0), .int (iI x1)])).length) Slot.unset).toArray = ls at hl ⊢
  have hl : lv_has ls 2 [(0, .ref (a 0)), (1, .int (iI x1))] := hl
  generalize (List.toArray ([.ref (a 0), .int (iI x1)] : List Value)) = args at hts ⊢
  have hT : ∀ w ∈ Tg, w.before args s = true := fun w h => hts w (List.mem_cons_of_mem _ h)
  obtain ⟨Q, hQ⟩ : ∃ Q, Q = MQ below (QcRead (iI r)) args s 0 0 (fun _ => False) := ⟨_, rfl⟩
  rw [← hQ]
  rw [f_T_worst] at h
  refine lv_aload_n hx hb d_T_worst_0 rfl (lv_at hl 0 rfl) ?_
  obtain ⟨hcall, h⟩ := ob0_e h
  refine ro_v (va_Run.run (va_runV (As := []) (rest := []) ⟨hx, hb, hml, hown, hts⟩ (c_T_needAnalysis l D cI cJ cZ F a T_analysed s.heap.size hcall) (cwV 0 hts (gd_V m813 m810 m812 sl_T_needAnalysis m1) rfl rfl rfl ⟨rfl, hc_T_needAnalysis⟩ ⟨Nat.le_of_ble_eq_true rfl, Nat.le_of_ble_eq_true rfl⟩) (pc_V 0 0 [] hP hK hD0 hN [0] rfl rfl rfl rfl rfl) rfl rfl hl.1 rfl (lv_room (Nat.le_of_ble_eq_true rfl)) d_T_worst_1 ⟨Nat.le_refl 0, Nat.le_refl 0⟩)) (W.eq (g2 := F0 m 4 ls []) rfl ?_)
  refine lv_iload_n hx hb d_T_worst_4 rfl (lv_at hl 1 rfl) ?_
  obtain ⟨hcall, h⟩ := ob0_e h
  refine ro_v (va_Run.run (va_runS (As := [.int (iI x1)]) (rest := []) ⟨hx, hb, hml, hown, hts⟩ (c_T_needBit l D cI cJ cZ F a x1 s.heap.size hcall) (cwS 1 hts (gd_S m867 m865 m866 m1) rfl rfl rfl ⟨rfl, hc_T_needBit⟩ ⟨Nat.le_of_ble_eq_true rfl, Nat.le_of_ble_eq_true rfl⟩) (pc_S [.int (iI x1)] hP hK hD0 hN [] rfl rfl rfl) rfl rfl hl.1 rfl (lv_room (Nat.le_of_ble_eq_true rfl)) d_T_worst_5 ⟨Nat.le_refl 0, Nat.le_refl 0⟩)) (W.eq (g2 := F0 m 8 ls []) rfl ?_)
  refine lv_aload_n hx hb d_T_worst_8 rfl (lv_at hl 0 rfl) ?_
  refine va_get (D := D) (ci := 0) (v := .ref (a 2)) (C := R_T) (T := F_T) (N := 7) hx hb hT in_T hown hK hP 0 rfl rfl 4 (by decide) (hT _ m413) (fun _ h9 => h9) rfl d_T_worst_9 ?_
  refine lv_iload_n hx hb d_T_worst_12 rfl (lv_at hl 1 rfl) ?_
  obtain ⟨r13, hcall, h⟩ := ob1_e h
  refine ro_i (va_Run.run (va_runV (As := [.int (iI x1)]) (rest := []) ⟨hx, hb, hml, hown, hts⟩ (c_Slacks_leastOfAll l D cI cJ cZ F a L_leastMoving L_leastFixed L_pathCount L_least N_period N_width N_size x1 r13 s.heap.size hcall) (cwV 1 hts (gd_V m871 m868 m869 m870 m9) rfl rfl rfl ⟨rfl, hc_Slacks_leastOfAll⟩ ⟨Nat.le_of_ble_eq_true rfl, Nat.le_of_ble_eq_true rfl⟩) (pc_V 1 7 [.int (iI x1)] hP hK hD0 hN [1, 2, 3] rfl rfl rfl rfl rfl) rfl rfl hl.1 rfl (lv_room (Nat.le_of_ble_eq_true rfl)) d_T_worst_13 ⟨Nat.le_refl 0, Nat.le_refl 0⟩)) (W.eq (g2 := F0 m 16 ls [.int (iI r13)]) rfl ?_)
  have e1 := so1 h
  rw [hQ, e1]; exact W.iret hx hb hr (fun t ht hW => ⟨rfl, ht⟩) (fun q h => nomatch h) d_T_worst_16
abbrev rm_Slacks_sumBelowZero : Room := { frames := 1, cells := 0, slots := 0, locals := 24 }
set_option maxHeartbeats 4000000 in
set_option maxRecDepth 100000 in
theorem c_Slacks_sumBelowZero (l : Launch) (D : va_G) (cI cJ cZ : ClassId) (F : Nat) (a : Nat → Nat) (L_leastMoving : Int) (L_leastFixed : Int) (L_pathCount : Int) (L_least : Int → Int) (N_period : Int) (N_width : Int) (N_size : Int) (x1 : Int) (r : Int) (sz : Nat) (h : f_Slacks_sumBelowZero F L_least N_size x1 = some (r)) : Met l y_Slacks_sumBelowZero w_Slacks_sumBelowZero rm_Slacks_sumBelowZero (PC D [(cI, .int), (cJ, .long), (cZ, .boolean)] [.ref (a 2), .int (iI x1)] ([(o_L a L_leastMoving L_leastFixed L_pathCount), ((a 3), .inl (cI, 96, .inl (ia L_least))), (o_N a N_period N_width N_size)]) sz) (QcRead (iI r)) 0 0 (fun _ => False) := by
  refine Met.ofW (cc := prog_8_method_6_code) (maxL := 4) (ret := (Option.some Jvm.ClassFile.FieldType.int)) (by decide) rfl ?_
  intro p e s m args below meth c s₁ B hml hv
  obtain ⟨rfl, hsz, hP, hK, hD0, hN⟩ := hv
  have hx := B.exec
  have hb := B.bytes
  have hr := B.returns
  have hts := atoms_spec (ws := w_Slacks_sumBelowZero) B.pre
  have hown : s.vm.findClass R_Slacks = some m.cls := findClass_of_methodNamed B.named
  have hlocks := B.notSynchronized
  subst hsz
  have hl := lv_entry ([.ref (a 2), .int (iI x1)]) (n := 4) (Nat.le_of_ble_eq_true rfl)
  rw [lg_entry_eq]
  generalize (lg_sl ([.ref (a 2), .int (iI x1)]) ++ List.replicate (4 - (lg_sl ([.ref (a 2), .int (iI x1)])).length) Slot.unset).toArray = ls at hl ⊢
  have hl : lv_has ls 4 [(0, .ref (a 2)), (1, .int (iI x1))] := hl
  generalize (List.toArray ([.ref (a 2), .int (iI x1)] : List Value)) = args at hts ⊢
  have hT : ∀ w ∈ Tg, w.before args s = true := fun w h => hts w (List.mem_cons_of_mem _ h)
  obtain ⟨Q, hQ⟩ : ∃ Q, Q = MQ below (QcRead (iI r)) args s 0 0 (fun _ => False) := ⟨_, rfl⟩
  rw [← hQ]
  rw [f_Slacks_sumBelowZero] at h
  refine zv_iconst hx hb d_Slacks_sumBelowZero_0 ?_
  refine lv_istore_n (lv' := [(2, .int (iI 0)), (0, .ref (a 2)), (1, .int (iI x1))]) hx hb d_Slacks_sumBelowZero_1 rfl hl (by decide) rfl (fun ls hl => ?_)
  refine zv_iconst hx hb d_Slacks_sumBelowZero_2 ?_
  refine lv_istore_n (lv' := [(3, .int (iI 0)), (2, .int (iI 0)), (0, .ref (a 2)), (1, .int (iI x1))]) hx hb d_Slacks_sumBelowZero_3 rfl hl (by decide) rfl (fun ls hl => ?_)
  have hl4 : ∀ (nf : Nat) (v2 : Int) (v3 : Int) (ls : Array Slot), lv_has ls 4 [(0, .ref (a 2)), (1, .int (iI x1)), (2, .int (iI v2)), (3, .int (iI v3))] → lq2 (f_Slacks_sumBelowZero_b4 F L_least N_size x1) nf v2 v3 = some (r) → W p l e (headSpec w_Slacks_sumBelowZero rm_Slacks_sumBelowZero).room s m args below meth c s.heap [] 0 0 Q (F0 m 4 ls []) := by
    intro n4
    induction n4 with
    | zero => intro v2 v3 ls hl h; exact no_some h
    | succ n4 ih4 =>
      intro v2 v3 ls hl h
      replace h : f_Slacks_sumBelowZero_b4 F L_least N_size x1 (lq2 (f_Slacks_sumBelowZero_b4 F L_least N_size x1) n4) v2 v3 = some (r) := h
      obtain ⟨self4, hs4⟩ : ∃ z, z = lq2 (f_Slacks_sumBelowZero_b4 F L_least N_size x1) n4 := ⟨_, rfl⟩
      rw [← hs4] at h ih4
      rw [f_Slacks_sumBelowZero_b4] at h
      refine lv_iload_n hx hb d_Slacks_sumBelowZero_4 rfl (lv_at hl 3 rfl) ?_
      refine lv_aload_n hx hb d_Slacks_sumBelowZero_5 rfl (lv_at hl 0 rfl) ?_
      refine va_get (D := D) (ci := 7) (v := .ref (a 43)) (C := R_Slacks) (T := F_Slacks) (N := 8) hx hb hT in_Slacks hown hK hP 0 rfl rfl 0 (by decide) (hT _ m317) (fun _ h9 => h9) rfl d_Slacks_sumBelowZero_6 ?_
      refine va_get (D := D) (ci := 1) (v := .int (iI N_size)) (C := R_Net) (T := F_Net) (N := 15) hx hb hT in_Net hown hK hP 2 rfl rfl 2 (by decide) (hT _ m51) (fun _ h9 => h9) rfl d_Slacks_sumBelowZero_9 ?_
      obtain ⟨hg0, h⟩ := gr_e h
      obtain ⟨hg1, h⟩ := gr_e h
      refine zc_ge hx hb d_Slacks_sumBelowZero_12 rfl hg0 hg1 (fun hc => ?_) (fun hc => ?_)
      · replace h := if_t hc h
        refine lv_iload_n hx hb d_Slacks_sumBelowZero_38 rfl (lv_at hl 2 rfl) ?_
        have e1 := so1 h
        rw [hQ, e1]; exact W.iret hx hb hr (fun t ht hW => ⟨rfl, ht⟩) (fun q h => nomatch h) d_Slacks_sumBelowZero_39
      · replace h := if_f hc h
        refine lv_iload_n hx hb d_Slacks_sumBelowZero_15 rfl (lv_at hl 2 rfl) ?_
        refine zv_iconst hx hb d_Slacks_sumBelowZero_16 ?_
        refine lv_aload_n hx hb d_Slacks_sumBelowZero_17 rfl (lv_at hl 0 rfl) ?_
        refine va_get (D := D) (ci := 7) (v := .ref (a 3)) (C := R_Slacks) (T := F_Slacks) (N := 8) hx hb hT in_Slacks hown hK hP 0 rfl rfl 4 (by decide) (hT _ m321) (fun _ h9 => h9) rfl d_Slacks_sumBelowZero_18 ?_
        refine zv_iconst hx hb d_Slacks_sumBelowZero_21 ?_
        refine lv_iload_n hx hb d_Slacks_sumBelowZero_22 rfl (lv_at hl 3 rfl) ?_
        refine zv_imul hx hb d_Slacks_sumBelowZero_23 ?_
        refine lv_iload_n hx hb d_Slacks_sumBelowZero_24 rfl (lv_at hl 1 rfl) ?_
        refine zv_iadd hx hb d_Slacks_sumBelowZero_25 ?_
        obtain ⟨hin, h⟩ := gi_e h
        refine zv_iald hx hb hK hP 1 0 rfl rfl (Nat.le_of_ble_eq_true rfl) hin d_Slacks_sumBelowZero_26 ?_
        obtain ⟨hg1, h⟩ := gr_e h
        refine zv_mmin hx hb (hml.trans hl.1.symm) hown (hT _ m613) (hT _ m496) (hT _ m18) (hT _ m_code_Math_min) (Nat.le_of_ble_eq_true rfl) (Nat.le_of_ble_eq_true rfl) (Nat.zero_le _) (Nat.zero_le _) (by decide) hg1 d_Slacks_sumBelowZero_27 ?_
        refine zv_iadd hx hb d_Slacks_sumBelowZero_30 ?_
        refine zv_top (fun v2_1 hv => ?_)
        replace h := bd_e hv h
        refine lv_istore_n (lv' := [(2, .int (iI v2_1)), (0, .ref (a 2)), (1, .int (iI x1)), (3, .int (iI v3))]) hx hb d_Slacks_sumBelowZero_31 rfl hl (by decide) rfl (fun ls hl => ?_)
        refine lv_iinc (v := iI (v3 + 1)) (k := 3) (lv' := [(3, .int (iI (v3 + 1))), (2, .int (iI v2_1)), (0, .ref (a 2)), (1, .int (iI x1))]) hx hb d_Slacks_sumBelowZero_32 hl rfl (iI_add _ _) (by decide) rfl (fun ls hl => ?_)
        refine lv_goto hx hb d_Slacks_sumBelowZero_35 rfl ?_
        exact ih4 v2_1 (v3 + 1) ls (lv_sub hl [2, 3, 1, 0] rfl) h
  exact hl4 F 0 0 ls (lv_sub hl [2, 3, 1, 0] rfl) h
abbrev rm_T_total : Room := { frames := 7, cells := 0, slots := 0, locals := 130 }
set_option maxHeartbeats 4000000 in
set_option maxRecDepth 100000 in
theorem c_T_total (l : Launch) (D : va_G) (cI cJ cZ : ClassId) (F : Nat) (a : Nat → Nat) (T_analysed : Int) (L_leastMoving : Int) (L_leastFixed : Int) (L_pathCount : Int) (L_least : Int → Int) (N_period : Int) (N_width : Int) (N_size : Int) (x1 : Int) (r : Int) (sz : Nat) (h : f_T_total F T_analysed L_least N_size x1 = some (r)) : Met l y_T_total w_T_total rm_T_total (PC D [(cI, .int), (cJ, .long), (cZ, .boolean)] [.ref (a 0), .int (iI x1)] ([(o_T a T_analysed), (o_L a L_leastMoving L_leastFixed L_pathCount), ((a 3), .inl (cI, 96, .inl (ia L_least))), (o_N a N_period N_width N_size)]) sz) (QcRead (iI r)) 0 0 (fun _ => False) := by
  refine Met.ofW (cc := prog_1_method_17_code) (maxL := 2) (ret := (Option.some Jvm.ClassFile.FieldType.int)) (by decide) rfl ?_
  intro p e s m args below meth c s₁ B hml hv
  obtain ⟨rfl, hsz, hP, hK, hD0, hN⟩ := hv
  have hx := B.exec
  have hb := B.bytes
  have hr := B.returns
  have hts := atoms_spec (ws := w_T_total) B.pre
  have hown : s.vm.findClass R_T = some m.cls := findClass_of_methodNamed B.named
  have hlocks := B.notSynchronized
  subst hsz
  have hl := lv_entry ([.ref (a 0), .int (iI x1)]) (n := 2) (Nat.le_of_ble_eq_true rfl)
  rw [lg_entry_eq]
  generalize (lg_sl ([.ref (a 0), .int (iI x1)]) ++ List.replicate (2 - (lg_sl ([.ref (a 0), .int (iI x1)])).length) Slot.unset).toArray = ls at hl ⊢
  have hl : lv_has ls 2 [(0, .ref (a 0)), (1, .int (iI x1))] := hl
  generalize (List.toArray ([.ref (a 0), .int (iI x1)] : List Value)) = args at hts ⊢
  have hT : ∀ w ∈ Tg, w.before args s = true := fun w h => hts w (List.mem_cons_of_mem _ h)
  obtain ⟨Q, hQ⟩ : ∃ Q, Q = MQ below (QcRead (iI r)) args s 0 0 (fun _ => False) := ⟨_, rfl⟩
  rw [← hQ]
  rw [f_T_total] at h
  refine lv_aload_n hx hb d_T_total_0 rfl (lv_at hl 0 rfl) ?_
  obtain ⟨hcall, h⟩ := ob0_e h
  refine ro_v (va_Run.run (va_runV (As := []) (rest := []) ⟨hx, hb, hml, hown, hts⟩ (c_T_needAnalysis l D cI cJ cZ F a T_analysed s.heap.size hcall) (cwV 0 hts (gd_V m813 m810 m812 sl_T_needAnalysis m1) rfl rfl rfl ⟨rfl, hc_T_needAnalysis⟩ ⟨Nat.le_of_ble_eq_true rfl, Nat.le_of_ble_eq_true rfl⟩) (pc_V 0 0 [] hP hK hD0 hN [0] rfl rfl rfl rfl rfl) rfl rfl hl.1 rfl (lv_room (Nat.le_of_ble_eq_true rfl)) d_T_total_1 ⟨Nat.le_refl 0, Nat.le_refl 0⟩)) (W.eq (g2 := F0 m 4 ls []) rfl ?_)
  refine lv_iload_n hx hb d_T_total_4 rfl (lv_at hl 1 rfl) ?_
  obtain ⟨hcall, h⟩ := ob0_e h
  refine ro_v (va_Run.run (va_runS (As := [.int (iI x1)]) (rest := []) ⟨hx, hb, hml, hown, hts⟩ (c_T_needBit l D cI cJ cZ F a x1 s.heap.size hcall) (cwS 1 hts (gd_S m867 m865 m866 m1) rfl rfl rfl ⟨rfl, hc_T_needBit⟩ ⟨Nat.le_of_ble_eq_true rfl, Nat.le_of_ble_eq_true rfl⟩) (pc_S [.int (iI x1)] hP hK hD0 hN [] rfl rfl rfl) rfl rfl hl.1 rfl (lv_room (Nat.le_of_ble_eq_true rfl)) d_T_total_5 ⟨Nat.le_refl 0, Nat.le_refl 0⟩)) (W.eq (g2 := F0 m 8 ls []) rfl ?_)
  refine lv_aload_n hx hb d_T_total_8 rfl (lv_at hl 0 rfl) ?_
  refine va_get (D := D) (ci := 0) (v := .ref (a 2)) (C := R_T) (T := F_T) (N := 7) hx hb hT in_T hown hK hP 0 rfl rfl 4 (by decide) (hT _ m413) (fun _ h9 => h9) rfl d_T_total_9 ?_
  refine lv_iload_n hx hb d_T_total_12 rfl (lv_at hl 1 rfl) ?_
  obtain ⟨r13, hcall, h⟩ := ob1_e h
  refine ro_i (va_Run.run (va_runV (As := [.int (iI x1)]) (rest := []) ⟨hx, hb, hml, hown, hts⟩ (c_Slacks_sumBelowZero l D cI cJ cZ F a L_leastMoving L_leastFixed L_pathCount L_least N_period N_width N_size x1 r13 s.heap.size hcall) (cwV 1 hts (gd_V m882 m879 m880 m881 m9) rfl rfl rfl ⟨rfl, hc_Slacks_sumBelowZero⟩ ⟨Nat.le_of_ble_eq_true rfl, Nat.le_of_ble_eq_true rfl⟩) (pc_V 1 7 [.int (iI x1)] hP hK hD0 hN [1, 2, 3] rfl rfl rfl rfl rfl) rfl rfl hl.1 rfl (lv_room (Nat.le_of_ble_eq_true rfl)) d_T_total_13 ⟨Nat.le_refl 0, Nat.le_refl 0⟩)) (W.eq (g2 := F0 m 16 ls [.int (iI r13)]) rfl ?_)
  have e1 := so1 h
  rw [hQ, e1]; exact W.iret hx hb hr (fun t ht hW => ⟨rfl, ht⟩) (fun q h => nomatch h) d_T_total_16
abbrev rm_Slacks_leastPeriodKept : Room := { frames := 1, cells := 0, slots := 0, locals := 24 }
set_option maxHeartbeats 4000000 in
set_option maxRecDepth 100000 in
theorem c_Slacks_leastPeriodKept (l : Launch) (D : va_G) (cI cJ cZ : ClassId) (F : Nat) (a : Nat → Nat) (L_leastMoving : Int) (L_leastFixed : Int) (L_pathCount : Int) (N_period : Int) (N_width : Int) (N_size : Int) (r : Int) (sz : Nat) (h : f_Slacks_leastPeriodKept F L_leastMoving L_leastFixed N_period N_width = some (r)) : Met l y_Slacks_leastPeriodKept w_Slacks_leastPeriodKept rm_Slacks_leastPeriodKept (PC D [(cI, .int), (cJ, .long), (cZ, .boolean)] [.ref (a 2)] ([(o_L a L_leastMoving L_leastFixed L_pathCount), (o_N a N_period N_width N_size)]) sz) (QcRead (iI r)) 0 0 (fun _ => False) := by
  refine Met.ofW (cc := prog_8_method_7_code) (maxL := 2) (ret := (Option.some Jvm.ClassFile.FieldType.int)) (by decide) rfl ?_
  intro p e s m args below meth c s₁ B hml hv
  obtain ⟨rfl, hsz, hP, hK, hD0, hN⟩ := hv
  have hx := B.exec
  have hb := B.bytes
  have hr := B.returns
  have hts := atoms_spec (ws := w_Slacks_leastPeriodKept) B.pre
  have hown : s.vm.findClass R_Slacks = some m.cls := findClass_of_methodNamed B.named
  have hlocks := B.notSynchronized
  subst hsz
  have hl := lv_entry ([.ref (a 2)]) (n := 2) (Nat.le_of_ble_eq_true rfl)
  rw [lg_entry_eq]
  generalize (lg_sl ([.ref (a 2)]) ++ List.replicate (2 - (lg_sl ([.ref (a 2)])).length) Slot.unset).toArray = ls at hl ⊢
  have hl : lv_has ls 2 [(0, .ref (a 2))] := hl
  generalize (List.toArray ([.ref (a 2)] : List Value)) = args at hts ⊢
  have hT : ∀ w ∈ Tg, w.before args s = true := fun w h => hts w (List.mem_cons_of_mem _ h)
  obtain ⟨Q, hQ⟩ : ∃ Q, Q = MQ below (QcRead (iI r)) args s 0 0 (fun _ => False) := ⟨_, rfl⟩
  rw [← hQ]
  have hk0 := (show (Cond.constant "PathTiming$Slacks" 71 (iI (-2147483648))).before args s = true from by rw [show iI (-2147483648) = ((-2147483648) : Int32) from by decide]; exact hT _ m857)
  have hk1 := (show (Cond.constant "PathTiming$Slacks" 87 (iI 1000000)).before args s = true from by rw [show iI 1000000 = (1000000 : Int32) from by decide]; exact hT _ m894)
  rw [f_Slacks_leastPeriodKept] at h
  refine lv_aload_n hx hb d_Slacks_leastPeriodKept_0 rfl (lv_at hl 0 rfl) ?_
  refine va_get (D := D) (ci := 7) (v := .ref (a 43)) (C := R_Slacks) (T := F_Slacks) (N := 8) hx hb hT in_Slacks hown hK hP 0 rfl rfl 0 (by decide) (hT _ m317) (fun _ h9 => h9) rfl d_Slacks_leastPeriodKept_1 ?_
  refine va_get (D := D) (ci := 1) (v := .int (iI N_width)) (C := R_Net) (T := F_Net) (N := 15) hx hb hT in_Net hown hK hP 1 rfl rfl 1 (by decide) (hT _ m45) (fun _ h9 => h9) rfl d_Slacks_leastPeriodKept_4 ?_
  refine zv_iconst hx hb d_Slacks_leastPeriodKept_7 ?_
  refine zv_iadd hx hb d_Slacks_leastPeriodKept_8 ?_
  refine lv_aload_n hx hb d_Slacks_leastPeriodKept_9 rfl (lv_at hl 0 rfl) ?_
  refine va_get (D := D) (ci := 7) (v := .ref (a 43)) (C := R_Slacks) (T := F_Slacks) (N := 8) hx hb hT in_Slacks hown hK hP 0 rfl rfl 0 (by decide) (hT _ m317) (fun _ h9 => h9) rfl d_Slacks_leastPeriodKept_10 ?_
  refine va_get (D := D) (ci := 1) (v := .int (iI N_period)) (C := R_Net) (T := F_Net) (N := 15) hx hb hT in_Net hown hK hP 1 rfl rfl 0 (by decide) (hT _ m42) (fun _ h9 => h9) rfl d_Slacks_leastPeriodKept_13 ?_
  refine lv_aload_n hx hb d_Slacks_leastPeriodKept_16 rfl (lv_at hl 0 rfl) ?_
  refine va_get (D := D) (ci := 7) (v := .int (iI L_leastMoving)) (C := R_Slacks) (T := F_Slacks) (N := 8) hx hb hT in_Slacks hown hK hP 0 rfl rfl 5 (by decide) (hT _ m322) (fun _ h9 => h9) rfl d_Slacks_leastPeriodKept_17 ?_
  refine zv_isub hx hb d_Slacks_leastPeriodKept_20 ?_
  obtain ⟨hg0, h⟩ := gr_e h
  obtain ⟨hg1, h⟩ := gr_e h
  refine zv_mmax hx hb (hml.trans hl.1.symm) hown (hT _ m610) (hT _ m611) (hT _ m18) (hT _ m_code_Math_max) (Nat.le_of_ble_eq_true rfl) (Nat.le_of_ble_eq_true rfl) (Nat.zero_le _) (Nat.zero_le _) hg0 hg1 d_Slacks_leastPeriodKept_21 ?_
  refine zv_top (fun v1 hv => ?_)
  replace h := bd_e hv h
  refine lv_istore_n (lv' := [(1, .int (iI v1)), (0, .ref (a 2))]) hx hb d_Slacks_leastPeriodKept_24 rfl hl (by decide) rfl (fun ls hl => ?_)
  refine lv_aload_n hx hb d_Slacks_leastPeriodKept_25 rfl (lv_at hl 1 rfl) ?_
  refine va_get (D := D) (ci := 7) (v := .int (iI L_leastFixed)) (C := R_Slacks) (T := F_Slacks) (N := 8) hx hb hT in_Slacks hown hK hP 0 rfl rfl 6 (by decide) (hT _ m323) (fun _ h9 => h9) rfl d_Slacks_leastPeriodKept_26 ?_
  have hj38 : ∀  (ls : Array Slot), lv_has ls 2 [] → f_Slacks_leastPeriodKept_j38 F = some (r) → W p l e (headSpec w_Slacks_leastPeriodKept rm_Slacks_leastPeriodKept).room s m args below meth c s.heap [] 0 0 Q (F0 m 38 ls []) := by
    intro  ls hl h
    rw [f_Slacks_leastPeriodKept_j38] at h
    refine lv_ldc hx hb hown hk0 d_Slacks_leastPeriodKept_38 ?_
    refine lv_goto hx hb d_Slacks_leastPeriodKept_40 rfl ?_
    have e1 := so1 h
    rw [hQ, e1]; exact W.iret hx hb hr (fun t ht hW => ⟨rfl, ht⟩) (fun q h => nomatch h) d_Slacks_leastPeriodKept_44
  obtain ⟨hg0, h⟩ := gr_e h
  refine zi_lt hx hb d_Slacks_leastPeriodKept_29 rfl hg0 (fun hc => ?_) (fun hc => ?_)
  · replace h := if_t hc h
    exact hj38  ls (lv_sub hl [] rfl) h
  · replace h := if_f hc h
    refine lv_iload_n hx hb d_Slacks_leastPeriodKept_32 rfl (lv_at hl 0 rfl) ?_
    refine lv_ldc hx hb hown hk1 d_Slacks_leastPeriodKept_33 ?_
    obtain ⟨hg0, h⟩ := gr_e h
    refine zc_le hx hb d_Slacks_leastPeriodKept_35 rfl hg0 (by decide) (fun hc => ?_) (fun hc => ?_)
    · replace h := if_t hc h
      refine lv_iload_n hx hb d_Slacks_leastPeriodKept_43 rfl (lv_at hl 0 rfl) ?_
      have e1 := so1 h
      rw [hQ, e1]; exact W.iret hx hb hr (fun t ht hW => ⟨rfl, ht⟩) (fun q h => nomatch h) d_Slacks_leastPeriodKept_44
    · replace h := if_f hc h
      exact hj38  ls (lv_sub hl [] rfl) h
abbrev rm_T_leastPeriod : Room := { frames := 7, cells := 0, slots := 0, locals := 130 }
set_option maxHeartbeats 4000000 in
set_option maxRecDepth 100000 in
theorem c_T_leastPeriod (l : Launch) (D : va_G) (cI cJ cZ : ClassId) (F : Nat) (a : Nat → Nat) (T_analysed : Int) (L_leastMoving : Int) (L_leastFixed : Int) (L_pathCount : Int) (N_period : Int) (N_width : Int) (N_size : Int) (r : Int) (sz : Nat) (h : f_T_leastPeriod F T_analysed L_leastMoving L_leastFixed N_period N_width = some (r)) : Met l y_T_leastPeriod w_T_leastPeriod rm_T_leastPeriod (PC D [(cI, .int), (cJ, .long), (cZ, .boolean)] [.ref (a 0)] ([(o_T a T_analysed), (o_L a L_leastMoving L_leastFixed L_pathCount), (o_N a N_period N_width N_size)]) sz) (QcRead (iI r)) 0 0 (fun _ => False) := by
  refine Met.ofW (cc := prog_1_method_18_code) (maxL := 1) (ret := (Option.some Jvm.ClassFile.FieldType.int)) (by decide) rfl ?_
  intro p e s m args below meth c s₁ B hml hv
  obtain ⟨rfl, hsz, hP, hK, hD0, hN⟩ := hv
  have hx := B.exec
  have hb := B.bytes
  have hr := B.returns
  have hts := atoms_spec (ws := w_T_leastPeriod) B.pre
  have hown : s.vm.findClass R_T = some m.cls := findClass_of_methodNamed B.named
  have hlocks := B.notSynchronized
  subst hsz
  have hl := lv_entry ([.ref (a 0)]) (n := 1) (Nat.le_of_ble_eq_true rfl)
  rw [lg_entry_eq]
  generalize (lg_sl ([.ref (a 0)]) ++ List.replicate (1 - (lg_sl ([.ref (a 0)])).length) Slot.unset).toArray = ls at hl ⊢
  have hl : lv_has ls 1 [(0, .ref (a 0))] := hl
  generalize (List.toArray ([.ref (a 0)] : List Value)) = args at hts ⊢
  have hT : ∀ w ∈ Tg, w.before args s = true := fun w h => hts w (List.mem_cons_of_mem _ h)
  obtain ⟨Q, hQ⟩ : ∃ Q, Q = MQ below (QcRead (iI r)) args s 0 0 (fun _ => False) := ⟨_, rfl⟩
  rw [← hQ]
  rw [f_T_leastPeriod] at h
  refine lv_aload_n hx hb d_T_leastPeriod_0 rfl (lv_at hl 0 rfl) ?_
  obtain ⟨hcall, h⟩ := ob0_e h
  refine ro_v (va_Run.run (va_runV (As := []) (rest := []) ⟨hx, hb, hml, hown, hts⟩ (c_T_needAnalysis l D cI cJ cZ F a T_analysed s.heap.size hcall) (cwV 0 hts (gd_V m813 m810 m812 sl_T_needAnalysis m1) rfl rfl rfl ⟨rfl, hc_T_needAnalysis⟩ ⟨Nat.le_of_ble_eq_true rfl, Nat.le_of_ble_eq_true rfl⟩) (pc_V 0 0 [] hP hK hD0 hN [0] rfl rfl rfl rfl rfl) rfl rfl hl.1 rfl (lv_room (Nat.le_of_ble_eq_true rfl)) d_T_leastPeriod_1 ⟨Nat.le_refl 0, Nat.le_refl 0⟩)) (W.eq (g2 := F0 m 4 ls []) rfl ?_)
  refine lv_aload_n hx hb d_T_leastPeriod_4 rfl (lv_at hl 0 rfl) ?_
  refine va_get (D := D) (ci := 0) (v := .ref (a 2)) (C := R_T) (T := F_T) (N := 7) hx hb hT in_T hown hK hP 0 rfl rfl 4 (by decide) (hT _ m413) (fun _ h9 => h9) rfl d_T_leastPeriod_5 ?_
  obtain ⟨r8, hcall, h⟩ := ob1_e h
  refine ro_i (va_Run.run (va_runV (As := []) (rest := []) ⟨hx, hb, hml, hown, hts⟩ (c_Slacks_leastPeriodKept l D cI cJ cZ F a L_leastMoving L_leastFixed L_pathCount N_period N_width N_size r8 s.heap.size hcall) (cwV 0 hts (gd_V m893 m890 m891 m892 m9) rfl rfl rfl ⟨rfl, hc_Slacks_leastPeriodKept⟩ ⟨Nat.le_of_ble_eq_true rfl, Nat.le_of_ble_eq_true rfl⟩) (pc_V 1 7 [] hP hK hD0 hN [1, 2] rfl rfl rfl rfl rfl) rfl rfl hl.1 rfl (lv_room (Nat.le_of_ble_eq_true rfl)) d_T_leastPeriod_8 ⟨Nat.le_refl 0, Nat.le_refl 0⟩)) (W.eq (g2 := F0 m 11 ls [.int (iI r8)]) rfl ?_)
  have e1 := so1 h
  rw [hQ, e1]; exact W.iret hx hb hr (fun t ht hW => ⟨rfl, ht⟩) (fun q h => nomatch h) d_T_leastPeriod_11
abbrev rm_T_paths : Room := { frames := 7, cells := 0, slots := 0, locals := 130 }
set_option maxHeartbeats 4000000 in
set_option maxRecDepth 100000 in
theorem c_T_paths (l : Launch) (D : va_G) (cI cJ cZ : ClassId) (F : Nat) (a : Nat → Nat) (T_analysed : Int) (L_leastMoving : Int) (L_leastFixed : Int) (L_pathCount : Int) (r : Int) (sz : Nat) (h : f_T_paths F T_analysed L_pathCount = some (r)) : Met l y_T_paths w_T_paths rm_T_paths (PC D [(cI, .int), (cJ, .long), (cZ, .boolean)] [.ref (a 0)] ([(o_T a T_analysed), (o_L a L_leastMoving L_leastFixed L_pathCount)]) sz) (QcRead (iI r)) 0 0 (fun _ => False) := by
  refine Met.ofW (cc := prog_1_method_19_code) (maxL := 1) (ret := (Option.some Jvm.ClassFile.FieldType.int)) (by decide) rfl ?_
  intro p e s m args below meth c s₁ B hml hv
  obtain ⟨rfl, hsz, hP, hK, hD0, hN⟩ := hv
  have hx := B.exec
  have hb := B.bytes
  have hr := B.returns
  have hts := atoms_spec (ws := w_T_paths) B.pre
  have hown : s.vm.findClass R_T = some m.cls := findClass_of_methodNamed B.named
  have hlocks := B.notSynchronized
  subst hsz
  have hl := lv_entry ([.ref (a 0)]) (n := 1) (Nat.le_of_ble_eq_true rfl)
  rw [lg_entry_eq]
  generalize (lg_sl ([.ref (a 0)]) ++ List.replicate (1 - (lg_sl ([.ref (a 0)])).length) Slot.unset).toArray = ls at hl ⊢
  have hl : lv_has ls 1 [(0, .ref (a 0))] := hl
  generalize (List.toArray ([.ref (a 0)] : List Value)) = args at hts ⊢
  have hT : ∀ w ∈ Tg, w.before args s = true := fun w h => hts w (List.mem_cons_of_mem _ h)
  obtain ⟨Q, hQ⟩ : ∃ Q, Q = MQ below (QcRead (iI r)) args s 0 0 (fun _ => False) := ⟨_, rfl⟩
  rw [← hQ]
  rw [f_T_paths] at h
  refine lv_aload_n hx hb d_T_paths_0 rfl (lv_at hl 0 rfl) ?_
  obtain ⟨hcall, h⟩ := ob0_e h
  refine ro_v (va_Run.run (va_runV (As := []) (rest := []) ⟨hx, hb, hml, hown, hts⟩ (c_T_needAnalysis l D cI cJ cZ F a T_analysed s.heap.size hcall) (cwV 0 hts (gd_V m813 m810 m812 sl_T_needAnalysis m1) rfl rfl rfl ⟨rfl, hc_T_needAnalysis⟩ ⟨Nat.le_of_ble_eq_true rfl, Nat.le_of_ble_eq_true rfl⟩) (pc_V 0 0 [] hP hK hD0 hN [0] rfl rfl rfl rfl rfl) rfl rfl hl.1 rfl (lv_room (Nat.le_of_ble_eq_true rfl)) d_T_paths_1 ⟨Nat.le_refl 0, Nat.le_refl 0⟩)) (W.eq (g2 := F0 m 4 ls []) rfl ?_)
  refine lv_aload_n hx hb d_T_paths_4 rfl (lv_at hl 0 rfl) ?_
  refine va_get (D := D) (ci := 0) (v := .ref (a 2)) (C := R_T) (T := F_T) (N := 7) hx hb hT in_T hown hK hP 0 rfl rfl 4 (by decide) (hT _ m413) (fun _ h9 => h9) rfl d_T_paths_5 ?_
  refine va_get (D := D) (ci := 7) (v := .int (iI L_pathCount)) (C := R_Slacks) (T := F_Slacks) (N := 8) hx hb hT in_Slacks hown hK hP 1 rfl rfl 7 (by decide) (hT _ m325) (fun _ h9 => h9) rfl d_T_paths_8 ?_
  refine lv_sipush (v := iI 4000) hx hb d_T_paths_11 (by decide) ?_
  obtain ⟨hg0, h⟩ := gr_e h
  refine zc_le hx hb d_T_paths_14 rfl hg0 (by decide) (fun hc => ?_) (fun hc => ?_)
  · replace h := if_t hc h
    refine lv_aload_n hx hb d_T_paths_22 rfl (lv_at hl 0 rfl) ?_
    refine va_get (D := D) (ci := 0) (v := .ref (a 2)) (C := R_T) (T := F_T) (N := 7) hx hb hT in_T hown hK hP 0 rfl rfl 4 (by decide) (hT _ m413) (fun _ h9 => h9) rfl d_T_paths_23 ?_
    refine va_get (D := D) (ci := 7) (v := .int (iI L_pathCount)) (C := R_Slacks) (T := F_Slacks) (N := 8) hx hb hT in_Slacks hown hK hP 1 rfl rfl 7 (by decide) (hT _ m325) (fun _ h9 => h9) rfl d_T_paths_26 ?_
    have e1 := so1 h
    rw [hQ, e1]; exact W.iret hx hb hr (fun t ht hW => ⟨rfl, ht⟩) (fun q h => nomatch h) d_T_paths_29
  · replace h := if_f hc h
    refine lv_bipush (v := iI (-3)) hx hb d_T_paths_17 (by decide) ?_
    refine lv_goto hx hb d_T_paths_19 rfl ?_
    have e1 := so1 h
    rw [hQ, e1]; exact W.iret hx hb hr (fun t ht hW => ⟨rfl, ht⟩) (fun q h => nomatch h) d_T_paths_29
abbrev rm_T_needPath : Room := { frames := 7, cells := 0, slots := 0, locals := 130 }
set_option maxHeartbeats 4000000 in
set_option maxRecDepth 100000 in
theorem c_T_needPath (l : Launch) (D : va_G) (cI cJ cZ : ClassId) (F : Nat) (a : Nat → Nat) (T_analysed : Int) (L_leastMoving : Int) (L_leastFixed : Int) (L_pathCount : Int) (x1 : Int) (x2 : Int) (sz : Nat) (h : f_T_needPath F T_analysed L_pathCount x1 x2 = some ()) : Met l y_T_needPath w_T_needPath rm_T_needPath (PC D [(cI, .int), (cJ, .long), (cZ, .boolean)] [.ref (a 0), .int (iI x1), .int (iI x2)] ([(o_T a T_analysed), (o_L a L_leastMoving L_leastFixed L_pathCount)]) sz) (QcReadV) 0 0 (fun _ => False) := by
  refine Met.ofW (cc := prog_1_method_24_code) (maxL := 3) (ret := (Option.none : Option Jvm.ClassFile.FieldType)) (by decide) rfl ?_
  intro p e s m args below meth c s₁ B hml hv
  obtain ⟨rfl, hsz, hP, hK, hD0, hN⟩ := hv
  have hx := B.exec
  have hb := B.bytes
  have hr := B.returns
  have hts := atoms_spec (ws := w_T_needPath) B.pre
  have hown : s.vm.findClass R_T = some m.cls := findClass_of_methodNamed B.named
  have hlocks := B.notSynchronized
  subst hsz
  have hl := lv_entry ([.ref (a 0), .int (iI x1), .int (iI x2)]) (n := 3) (Nat.le_of_ble_eq_true rfl)
  rw [lg_entry_eq]
  generalize (lg_sl ([.ref (a 0), .int (iI x1), .int (iI x2)]) ++ List.replicate (3 - (lg_sl ([.ref (a 0), .int (iI x1), .int (iI x2)])).length) Slot.unset).toArray = ls at hl ⊢
  have hl : lv_has ls 3 [(0, .ref (a 0)), (1, .int (iI x1)), (2, .int (iI x2))] := hl
  generalize (List.toArray ([.ref (a 0), .int (iI x1), .int (iI x2)] : List Value)) = args at hts ⊢
  have hT : ∀ w ∈ Tg, w.before args s = true := fun w h => hts w (List.mem_cons_of_mem _ h)
  obtain ⟨Q, hQ⟩ : ∃ Q, Q = MQ below (QcReadV) args s 0 0 (fun _ => False) := ⟨_, rfl⟩
  rw [← hQ]
  rw [f_T_needPath] at h
  refine lv_aload_n hx hb d_T_needPath_0 rfl (lv_at hl 0 rfl) ?_
  obtain ⟨hcall, h⟩ := ob0_e h
  refine ro_v (va_Run.run (va_runV (As := []) (rest := []) ⟨hx, hb, hml, hown, hts⟩ (c_T_needAnalysis l D cI cJ cZ F a T_analysed s.heap.size hcall) (cwV 0 hts (gd_V m813 m810 m812 sl_T_needAnalysis m1) rfl rfl rfl ⟨rfl, hc_T_needAnalysis⟩ ⟨Nat.le_of_ble_eq_true rfl, Nat.le_of_ble_eq_true rfl⟩) (pc_V 0 0 [] hP hK hD0 hN [0] rfl rfl rfl rfl rfl) rfl rfl hl.1 rfl (lv_room (Nat.le_of_ble_eq_true rfl)) d_T_needPath_1 ⟨Nat.le_refl 0, Nat.le_refl 0⟩)) (W.eq (g2 := F0 m 4 ls []) rfl ?_)
  refine lv_aload_n hx hb d_T_needPath_4 rfl (lv_at hl 0 rfl) ?_
  refine va_get (D := D) (ci := 0) (v := .ref (a 2)) (C := R_T) (T := F_T) (N := 7) hx hb hT in_T hown hK hP 0 rfl rfl 4 (by decide) (hT _ m413) (fun _ h9 => h9) rfl d_T_needPath_5 ?_
  refine va_get (D := D) (ci := 7) (v := .int (iI L_pathCount)) (C := R_Slacks) (T := F_Slacks) (N := 8) hx hb hT in_Slacks hown hK hP 1 rfl rfl 7 (by decide) (hT _ m325) (fun _ h9 => h9) rfl d_T_needPath_8 ?_
  refine lv_sipush (v := iI 4000) hx hb d_T_needPath_11 (by decide) ?_
  obtain ⟨hg0, h⟩ := gr_e h
  refine zc_le hx hb d_T_needPath_14 rfl hg0 (by decide) (fun hc => ?_) (fun hc => ?_)
  · replace h := if_t hc h
    refine lv_iload_n hx hb d_T_needPath_25 rfl (lv_at hl 1 rfl) ?_
    obtain ⟨hcall, h⟩ := ob0_e h
    refine ro_v (va_Run.run (va_runS (As := [.int (iI x1)]) (rest := []) ⟨hx, hb, hml, hown, hts⟩ (c_T_needBit l D cI cJ cZ F a x1 s.heap.size hcall) (cwS 1 hts (gd_S m867 m865 m866 m1) rfl rfl rfl ⟨rfl, hc_T_needBit⟩ ⟨Nat.le_of_ble_eq_true rfl, Nat.le_of_ble_eq_true rfl⟩) (pc_S [.int (iI x1)] hP hK hD0 hN [] rfl rfl rfl) rfl rfl hl.1 rfl (lv_room (Nat.le_of_ble_eq_true rfl)) d_T_needPath_26 ⟨Nat.le_refl 0, Nat.le_refl 0⟩)) (W.eq (g2 := F0 m 29 ls []) rfl ?_)
    refine lv_iload_n hx hb d_T_needPath_29 rfl (lv_at hl 2 rfl) ?_
    refine zv_iconst hx hb d_T_needPath_30 ?_
    refine lv_bipush (v := iI 20) hx hb d_T_needPath_31 (by decide) ?_
    refine lv_aload_n hx hb d_T_needPath_33 rfl (lv_at hl 0 rfl) ?_
    refine va_get (D := D) (ci := 0) (v := .ref (a 2)) (C := R_T) (T := F_T) (N := 7) hx hb hT in_T hown hK hP 0 rfl rfl 4 (by decide) (hT _ m413) (fun _ h9 => h9) rfl d_T_needPath_34 ?_
    refine va_get (D := D) (ci := 7) (v := .int (iI L_pathCount)) (C := R_Slacks) (T := F_Slacks) (N := 8) hx hb hT in_Slacks hown hK hP 1 rfl rfl 7 (by decide) (hT _ m325) (fun _ h9 => h9) rfl d_T_needPath_37 ?_
    obtain ⟨hg1, h⟩ := gr_e h
    refine zv_mmin hx hb (hml.trans hl.1.symm) hown (hT _ m914) (hT _ m496) (hT _ m18) (hT _ m_code_Math_min) (Nat.le_of_ble_eq_true rfl) (Nat.le_of_ble_eq_true rfl) (Nat.zero_le _) (Nat.zero_le _) (by decide) hg1 d_T_needPath_40 ?_
    refine zv_iconst hx hb d_T_needPath_43 ?_
    refine zv_isub hx hb d_T_needPath_44 ?_
    obtain ⟨r45, hcall, h⟩ := ob1_e h
    refine ro_i (va_Run.run (va_runS (As := [.int (iI x2), .int (iI 0), .int (iI ((min 20 L_pathCount) - 1))]) (rest := []) ⟨hx, hb, hml, hown, hts⟩ (c_T_isWithin l D cI cJ cZ F a x2 0 ((min 20 L_pathCount) - 1) r45 s.heap.size hcall) (cwS 3 hts (gd_S m573 m657 m572 m1) rfl rfl rfl ⟨rfl, hc_T_isWithin⟩ ⟨Nat.le_of_ble_eq_true rfl, Nat.le_of_ble_eq_true rfl⟩) (pc_S [.int (iI x2), .int (iI 0), .int (iI ((min 20 L_pathCount) - 1))] hP hK hD0 hN [] rfl rfl rfl) rfl rfl hl.1 rfl (lv_room (Nat.le_of_ble_eq_true rfl)) d_T_needPath_45 ⟨Nat.le_refl 0, Nat.le_refl 0⟩)) (W.eq (g2 := F0 m 48 ls [.int (iI r45)]) rfl ?_)
    obtain ⟨hg0, h⟩ := gr_e h
    refine zi_ne hx hb d_T_needPath_48 rfl hg0 (fun hc => ?_) (fun hc => ?_)
    · replace h := if_f hc h
      rw [hQ]; exact W.vret hx hb hr (fun t ht hW => ⟨rfl, ht⟩) (fun q h => nomatch h) d_T_needPath_59
    · replace h := if_t hc h
      exact no_some h
  · replace h := if_f hc h
    exact no_some h
abbrev rm_Spread_reaches : Room := { frames := 0, cells := 0, slots := 0, locals := 0 }
set_option maxHeartbeats 4000000 in
set_option maxRecDepth 100000 in
theorem c_Spread_reaches (l : Launch) (D : va_G) (cI cJ cZ : ClassId) (F : Nat) (a : Nat → Nat) (aX aX_count aX_early aX_late : Nat) (X_count : Int → Int) (x1 : Int) (r : Int) (sz : Nat) (h : f_Spread_reaches F X_count x1 = some (r)) : Met l y_Spread_reaches w_Spread_reaches rm_Spread_reaches (PC D [(cI, .int), (cJ, .long), (cZ, .boolean)] [.ref aX, .int (iI x1)] ([(o_X aX aX_count aX_early aX_late (a 43) (a 40)), (aX_count, .inl (cI, 96, .inl (ia X_count)))]) sz) (QcRead (iI r)) 0 0 (fun _ => False) := by
  refine Met.ofW (cc := prog_9_method_3_code) (maxL := 2) (ret := (Option.some Jvm.ClassFile.FieldType.boolean)) (by decide) rfl ?_
  intro p e s m args below meth c s₁ B hml hv
  obtain ⟨rfl, hsz, hP, hK, hD0, hN⟩ := hv
  have hx := B.exec
  have hb := B.bytes
  have hr := B.returns
  have hts := atoms_spec (ws := w_Spread_reaches) B.pre
  have hown : s.vm.findClass R_Spread = some m.cls := findClass_of_methodNamed B.named
  have hlocks := B.notSynchronized
  subst hsz
  have hl := lv_entry ([.ref aX, .int (iI x1)]) (n := 2) (Nat.le_of_ble_eq_true rfl)
  rw [lg_entry_eq]
  generalize (lg_sl ([.ref aX, .int (iI x1)]) ++ List.replicate (2 - (lg_sl ([.ref aX, .int (iI x1)])).length) Slot.unset).toArray = ls at hl ⊢
  have hl : lv_has ls 2 [(0, .ref aX), (1, .int (iI x1))] := hl
  generalize (List.toArray ([.ref aX, .int (iI x1)] : List Value)) = args at hts ⊢
  have hT : ∀ w ∈ Tg, w.before args s = true := fun w h => hts w (List.mem_cons_of_mem _ h)
  obtain ⟨Q, hQ⟩ : ∃ Q, Q = MQ below (QcRead (iI r)) args s 0 0 (fun _ => False) := ⟨_, rfl⟩
  rw [← hQ]
  rw [f_Spread_reaches] at h
  refine lv_aload_n hx hb d_Spread_reaches_0 rfl (lv_at hl 0 rfl) ?_
  refine va_get (D := D) (ci := 3) (v := .ref aX_count) (C := R_Spread) (T := F_Spread) (N := 5) hx hb hT in_Spread hown hK hP 0 rfl rfl 2 (by decide) (hT _ m171) (fun _ h9 => h9) rfl d_Spread_reaches_1 ?_
  refine zv_iconst hx hb d_Spread_reaches_4 ?_
  refine lv_iload_n hx hb d_Spread_reaches_5 rfl (lv_at hl 1 rfl) ?_
  refine zv_imul hx hb d_Spread_reaches_6 ?_
  obtain ⟨hin, h⟩ := gi_e h
  refine zv_iald hx hb hK hP 1 0 rfl rfl (Nat.le_of_ble_eq_true rfl) hin d_Spread_reaches_7 ?_
  have hj24 : ∀  (ls : Array Slot), lv_has ls 2 [] → f_Spread_reaches_j24 F = some (r) → W p l e (headSpec w_Spread_reaches rm_Spread_reaches).room s m args below meth c s.heap [] 0 0 Q (F0 m 24 ls []) := by
    intro  ls hl h
    rw [f_Spread_reaches_j24] at h
    refine zv_iconst hx hb d_Spread_reaches_24 ?_
    refine lv_goto hx hb d_Spread_reaches_25 rfl ?_
    obtain ⟨hbo, h⟩ := gb_e h
    have e1 := so1 h
    rw [hQ, e1]; exact W.zret (ty := .boolean) hx hb hr (gb_n hbo) (fun t ht hW => ⟨rfl, ht⟩) (fun q h => nomatch h) d_Spread_reaches_29
  obtain ⟨hg0, h⟩ := gr_e h
  refine zi_gt hx hb d_Spread_reaches_8 rfl hg0 (fun hc => ?_) (fun hc => ?_)
  · replace h := if_t hc h
    exact hj24  ls (lv_sub hl [] rfl) h
  · replace h := if_f hc h
    refine lv_aload_n hx hb d_Spread_reaches_11 rfl (lv_at hl 0 rfl) ?_
    refine va_get (D := D) (ci := 3) (v := .ref aX_count) (C := R_Spread) (T := F_Spread) (N := 5) hx hb hT in_Spread hown hK hP 0 rfl rfl 2 (by decide) (hT _ m171) (fun _ h9 => h9) rfl d_Spread_reaches_12 ?_
    refine zv_iconst hx hb d_Spread_reaches_15 ?_
    refine lv_iload_n hx hb d_Spread_reaches_16 rfl (lv_at hl 1 rfl) ?_
    refine zv_imul hx hb d_Spread_reaches_17 ?_
    refine zv_iconst hx hb d_Spread_reaches_18 ?_
    refine zv_iadd hx hb d_Spread_reaches_19 ?_
    obtain ⟨hin, h⟩ := gi_e h
    refine zv_iald hx hb hK hP 1 0 rfl rfl (Nat.le_of_ble_eq_true rfl) hin d_Spread_reaches_20 ?_
    obtain ⟨hg0, h⟩ := gr_e h
    refine zi_le hx hb d_Spread_reaches_21 rfl hg0 (fun hc => ?_) (fun hc => ?_)
    · replace h := if_t hc h
      refine zv_iconst hx hb d_Spread_reaches_28 ?_
      obtain ⟨hbo, h⟩ := gb_e h
      have e1 := so1 h
      rw [hQ, e1]; exact W.zret (ty := .boolean) hx hb hr (gb_n hbo) (fun t ht hW => ⟨rfl, ht⟩) (fun q h => nomatch h) d_Spread_reaches_29
    · replace h := if_f hc h
      exact hj24  ls (lv_sub hl [] rfl) h
abbrev rm_WorstPaths_leads : Room := { frames := 1, cells := 0, slots := 0, locals := 23 }
set_option maxHeartbeats 4000000 in
set_option maxRecDepth 100000 in
theorem c_WorstPaths_leads (l : Launch) (D : va_G) (cI cJ cZ : ClassId) (F : Nat) (a : Nat → Nat) (P_start : Int) (P_end : Int) (P_endChange : Int) (P_isCollected : Int) (S_count : Int → Int) (N_period : Int) (N_width : Int) (N_size : Int) (N_source : Int → Int) (N_senses : Int → Int) (x1 : Int) (x2 : Int) (x3 : Int) (r : Int) (sz : Nat) (h : f_WorstPaths_leads F S_count N_source N_senses x1 x2 x3 = some (r)) : Met l y_WorstPaths_leads w_WorstPaths_leads rm_WorstPaths_leads (PC D [(cI, .int), (cJ, .long), (cZ, .boolean)] [.ref (a 4), .int (iI x1), .int (iI x2), .int (iI x3)] ([(o_P a P_start P_end P_endChange P_isCollected), (o_S a), ((a 29), .inl (cI, 96, .inl (ia S_count))), (o_N a N_period N_width N_size), ((a 46), .inl (cI, 144, .inl (ia N_source))), ((a 49), .inl (cI, 144, .inl (ia N_senses)))]) sz) (QcRead (iI r)) 0 0 (fun _ => False) := by
  refine Met.ofW (cc := prog_10_method_7_code) (maxL := 5) (ret := (Option.some Jvm.ClassFile.FieldType.boolean)) (by decide) rfl ?_
  intro p e s m args below meth c s₁ B hml hv
  obtain ⟨rfl, hsz, hP, hK, hD0, hN⟩ := hv
  have hx := B.exec
  have hb := B.bytes
  have hr := B.returns
  have hts := atoms_spec (ws := w_WorstPaths_leads) B.pre
  have hown : s.vm.findClass R_WorstPaths = some m.cls := findClass_of_methodNamed B.named
  have hlocks := B.notSynchronized
  subst hsz
  have hl := lv_entry ([.ref (a 4), .int (iI x1), .int (iI x2), .int (iI x3)]) (n := 5) (Nat.le_of_ble_eq_true rfl)
  rw [lg_entry_eq]
  generalize (lg_sl ([.ref (a 4), .int (iI x1), .int (iI x2), .int (iI x3)]) ++ List.replicate (5 - (lg_sl ([.ref (a 4), .int (iI x1), .int (iI x2), .int (iI x3)])).length) Slot.unset).toArray = ls at hl ⊢
  have hl : lv_has ls 5 [(0, .ref (a 4)), (1, .int (iI x1)), (2, .int (iI x2)), (3, .int (iI x3))] := hl
  generalize (List.toArray ([.ref (a 4), .int (iI x1), .int (iI x2), .int (iI x3)] : List Value)) = args at hts ⊢
  have hT : ∀ w ∈ Tg, w.before args s = true := fun w h => hts w (List.mem_cons_of_mem _ h)
  obtain ⟨Q, hQ⟩ : ∃ Q, Q = MQ below (QcRead (iI r)) args s 0 0 (fun _ => False) := ⟨_, rfl⟩
  rw [← hQ]
  rw [f_WorstPaths_leads] at h
  refine lv_aload_n hx hb d_WorstPaths_leads_0 rfl (lv_at hl 0 rfl) ?_
  refine va_get (D := D) (ci := 8) (v := .ref (a 43)) (C := R_WorstPaths) (T := F_WorstPaths) (N := 12) hx hb hT in_WorstPaths hown hK hP 0 rfl rfl 0 (by decide) (hT _ m372) (fun _ h9 => h9) rfl d_WorstPaths_leads_1 ?_
  refine va_get (D := D) (ci := 1) (v := .ref (a 46)) (C := R_Net) (T := F_Net) (N := 15) hx hb hT in_Net hown hK hP 3 rfl rfl 5 (by decide) (hT _ m68) (fun _ h9 => h9) rfl d_WorstPaths_leads_4 ?_
  refine lv_iload_n hx hb d_WorstPaths_leads_7 rfl (lv_at hl 1 rfl) ?_
  obtain ⟨hin, h⟩ := gi_e h
  refine zv_iald hx hb hK hP 4 0 rfl rfl (Nat.le_of_ble_eq_true rfl) hin d_WorstPaths_leads_8 ?_
  refine zv_top (fun v4 hv => ?_)
  replace h := bd_e hv h
  refine lv_istore (lv' := [(4, .int (iI v4)), (0, .ref (a 4)), (1, .int (iI x1)), (2, .int (iI x2)), (3, .int (iI x3))]) hx hb d_WorstPaths_leads_9 hl (by decide) rfl (fun ls hl => ?_)
  refine lv_iload hx hb d_WorstPaths_leads_11 (lv_at hl 0 rfl) ?_
  have hj50 : ∀  (ls : Array Slot), lv_has ls 5 [] → f_WorstPaths_leads_j50 F = some (r) → W p l e (headSpec w_WorstPaths_leads rm_WorstPaths_leads).room s m args below meth c s.heap [] 0 0 Q (F0 m 50 ls []) := by
    intro  ls hl h
    rw [f_WorstPaths_leads_j50] at h
    refine zv_iconst hx hb d_WorstPaths_leads_50 ?_
    obtain ⟨hbo, h⟩ := gb_e h
    have e1 := so1 h
    rw [hQ, e1]; exact W.zret (ty := .boolean) hx hb hr (gb_n hbo) (fun t ht hW => ⟨rfl, ht⟩) (fun q h => nomatch h) d_WorstPaths_leads_51
  obtain ⟨hg0, h⟩ := gr_e h
  refine zi_lt hx hb d_WorstPaths_leads_13 rfl hg0 (fun hc => ?_) (fun hc => ?_)
  · replace h := if_t hc h
    exact hj50  ls (lv_sub hl [] rfl) h
  · replace h := if_f hc h
    refine lv_aload_n hx hb d_WorstPaths_leads_16 rfl (lv_at hl 1 rfl) ?_
    refine va_get (D := D) (ci := 8) (v := .ref (a 43)) (C := R_WorstPaths) (T := F_WorstPaths) (N := 12) hx hb hT in_WorstPaths hown hK hP 0 rfl rfl 0 (by decide) (hT _ m372) (fun _ h9 => h9) rfl d_WorstPaths_leads_17 ?_
    refine lv_iload_n hx hb d_WorstPaths_leads_20 rfl (lv_at hl 2 rfl) ?_
    refine lv_iload_n hx hb d_WorstPaths_leads_21 rfl (lv_at hl 3 rfl) ?_
    refine lv_iload_n hx hb d_WorstPaths_leads_22 rfl (lv_at hl 4 rfl) ?_
    obtain ⟨r23, hcall, h⟩ := ob1_e h
    refine ro_i (va_Run.run (va_runV (As := [.int (iI x1), .int (iI x2), .int (iI x3)]) (rest := []) ⟨hx, hb, hml, hown, hts⟩ (c_Net_lets l D cI cJ cZ F a N_period N_width N_size N_senses x1 x2 x3 r23 s.heap.size hcall) (cwV 3 hts (gd_V m509 m987 m507 m508 m2) rfl rfl rfl ⟨rfl, hc_Net_lets⟩ ⟨Nat.le_of_ble_eq_true rfl, Nat.le_of_ble_eq_true rfl⟩) (pc_V 3 1 [.int (iI x1), .int (iI x2), .int (iI x3)] hP hK hD0 hN [3, 5] rfl rfl rfl rfl rfl) rfl rfl hl.1 rfl (lv_room (Nat.le_of_ble_eq_true rfl)) d_WorstPaths_leads_23 ⟨Nat.le_refl 0, Nat.le_refl 0⟩)) (W.eq (g2 := F0 m 26 ls [.int (iI r23)]) rfl ?_)
    obtain ⟨hg0, h⟩ := gr_e h
    refine zi_eq hx hb d_WorstPaths_leads_26 rfl hg0 (fun hc => ?_) (fun hc => ?_)
    · replace h := if_t hc h
      exact hj50  ls (lv_sub hl [] rfl) h
    · replace h := if_f hc h
      refine lv_aload_n hx hb d_WorstPaths_leads_29 rfl (lv_at hl 1 rfl) ?_
      refine va_get (D := D) (ci := 8) (v := .ref (a 28)) (C := R_WorstPaths) (T := F_WorstPaths) (N := 12) hx hb hT in_WorstPaths hown hK hP 0 rfl rfl 2 (by decide) (hT _ m374) (fun _ h9 => h9) rfl d_WorstPaths_leads_30 ?_
      refine va_get (D := D) (ci := 3) (v := .ref (a 29)) (C := R_Spread) (T := F_Spread) (N := 5) hx hb hT in_Spread hown hK hP 1 rfl rfl 2 (by decide) (hT _ m173) (fun _ h9 => h9) rfl d_WorstPaths_leads_33 ?_
      refine zv_iconst hx hb d_WorstPaths_leads_36 ?_
      refine lv_iload hx hb d_WorstPaths_leads_37 (lv_at hl 0 rfl) ?_
      refine zv_imul hx hb d_WorstPaths_leads_39 ?_
      refine lv_iload_n hx hb d_WorstPaths_leads_40 rfl (lv_at hl 3 rfl) ?_
      refine zv_iadd hx hb d_WorstPaths_leads_41 ?_
      obtain ⟨hin, h⟩ := gi_e h
      refine zv_iald hx hb hK hP 2 0 rfl rfl (Nat.le_of_ble_eq_true rfl) hin d_WorstPaths_leads_42 ?_
      obtain ⟨hg0, h⟩ := gr_e h
      refine zi_le hx hb d_WorstPaths_leads_43 rfl hg0 (fun hc => ?_) (fun hc => ?_)
      · replace h := if_t hc h
        exact hj50  ls (lv_sub hl [] rfl) h
      · replace h := if_f hc h
        refine zv_iconst hx hb d_WorstPaths_leads_46 ?_
        refine lv_goto hx hb d_WorstPaths_leads_47 rfl ?_
        obtain ⟨hbo, h⟩ := gb_e h
        have e1 := so1 h
        rw [hQ, e1]; exact W.zret (ty := .boolean) hx hb hr (gb_n hbo) (fun t ht hW => ⟨rfl, ht⟩) (fun q h => nomatch h) d_WorstPaths_leads_51
abbrev rm_PathList_mayTake : Room := { frames := 0, cells := 0, slots := 0, locals := 0 }
set_option maxHeartbeats 4000000 in
set_option maxRecDepth 100000 in
theorem c_PathList_mayTake (l : Launch) (D : va_G) (cI cJ cZ : ClassId) (F : Nat) (a : Nat → Nat) (aG aG_slotOf aG_slacks aG_lengths aG_rows : Nat) (G_size : Int) (G_slotOf : Int → Int) (G_slacks : Int → Int) (x1 : Int) (r : Int) (sz : Nat) (h : f_PathList_mayTake F G_size G_slotOf G_slacks x1 = some (r)) : Met l y_PathList_mayTake w_PathList_mayTake rm_PathList_mayTake (PC D [(cI, .int), (cJ, .long), (cZ, .boolean)] [.ref aG, .int (iI x1)] ([(o_G aG aG_slotOf aG_slacks aG_lengths aG_rows G_size), (aG_slotOf, .inl (cI, 20, .inl (ia G_slotOf))), (aG_slacks, .inl (cI, 20, .inl (ia G_slacks)))]) sz) (QcRead (iI r)) 0 0 (fun _ => False) := by
  refine Met.ofW (cc := prog_6_method_4_code) (maxL := 2) (ret := (Option.some Jvm.ClassFile.FieldType.boolean)) (by decide) rfl ?_
  intro p e s m args below meth c s₁ B hml hv
  obtain ⟨rfl, hsz, hP, hK, hD0, hN⟩ := hv
  have hx := B.exec
  have hb := B.bytes
  have hr := B.returns
  have hts := atoms_spec (ws := w_PathList_mayTake) B.pre
  have hown : s.vm.findClass R_PathList = some m.cls := findClass_of_methodNamed B.named
  have hlocks := B.notSynchronized
  subst hsz
  have hl := lv_entry ([.ref aG, .int (iI x1)]) (n := 2) (Nat.le_of_ble_eq_true rfl)
  rw [lg_entry_eq]
  generalize (lg_sl ([.ref aG, .int (iI x1)]) ++ List.replicate (2 - (lg_sl ([.ref aG, .int (iI x1)])).length) Slot.unset).toArray = ls at hl ⊢
  have hl : lv_has ls 2 [(0, .ref aG), (1, .int (iI x1))] := hl
  generalize (List.toArray ([.ref aG, .int (iI x1)] : List Value)) = args at hts ⊢
  have hT : ∀ w ∈ Tg, w.before args s = true := fun w h => hts w (List.mem_cons_of_mem _ h)
  obtain ⟨Q, hQ⟩ : ∃ Q, Q = MQ below (QcRead (iI r)) args s 0 0 (fun _ => False) := ⟨_, rfl⟩
  rw [← hQ]
  rw [f_PathList_mayTake] at h
  refine lv_aload_n hx hb d_PathList_mayTake_0 rfl (lv_at hl 0 rfl) ?_
  refine va_get (D := D) (ci := 9) (v := .int (iI G_size)) (C := R_PathList) (T := F_PathList) (N := 5) hx hb hT in_PathList hown hK hP 0 rfl rfl 0 (by decide) (hT _ m355) (fun _ h9 => h9) rfl d_PathList_mayTake_1 ?_
  refine lv_bipush (v := iI 20) hx hb d_PathList_mayTake_4 (by decide) ?_
  have hj25 : ∀  (ls : Array Slot), lv_has ls 2 [] → f_PathList_mayTake_j25 F = some (r) → W p l e (headSpec w_PathList_mayTake rm_PathList_mayTake).room s m args below meth c s.heap [] 0 0 Q (F0 m 25 ls []) := by
    intro  ls hl h
    rw [f_PathList_mayTake_j25] at h
    refine zv_iconst hx hb d_PathList_mayTake_25 ?_
    refine lv_goto hx hb d_PathList_mayTake_26 rfl ?_
    obtain ⟨hbo, h⟩ := gb_e h
    have e1 := so1 h
    rw [hQ, e1]; exact W.zret (ty := .boolean) hx hb hr (gb_n hbo) (fun t ht hW => ⟨rfl, ht⟩) (fun q h => nomatch h) d_PathList_mayTake_30
  obtain ⟨hg0, h⟩ := gr_e h
  refine zc_lt hx hb d_PathList_mayTake_6 rfl hg0 (by decide) (fun hc => ?_) (fun hc => ?_)
  · replace h := if_t hc h
    exact hj25  ls (lv_sub hl [] rfl) h
  · replace h := if_f hc h
    refine lv_iload_n hx hb d_PathList_mayTake_9 rfl (lv_at hl 1 rfl) ?_
    refine lv_aload_n hx hb d_PathList_mayTake_10 rfl (lv_at hl 0 rfl) ?_
    refine va_get (D := D) (ci := 9) (v := .ref aG_slacks) (C := R_PathList) (T := F_PathList) (N := 5) hx hb hT in_PathList hown hK hP 0 rfl rfl 2 (by decide) (hT _ m358) (fun _ h9 => h9) rfl d_PathList_mayTake_11 ?_
    refine lv_aload_n hx hb d_PathList_mayTake_14 rfl (lv_at hl 0 rfl) ?_
    refine va_get (D := D) (ci := 9) (v := .ref aG_slotOf) (C := R_PathList) (T := F_PathList) (N := 5) hx hb hT in_PathList hown hK hP 0 rfl rfl 1 (by decide) (hT _ m357) (fun _ h9 => h9) rfl d_PathList_mayTake_15 ?_
    refine lv_bipush (v := iI 19) hx hb d_PathList_mayTake_18 (by decide) ?_
    obtain ⟨hin, h⟩ := gi_e h
    refine zv_iald hx hb hK hP 1 0 rfl rfl (Nat.le_of_ble_eq_true rfl) hin d_PathList_mayTake_20 ?_
    obtain ⟨hin, h⟩ := gi_e h
    refine zv_iald hx hb hK hP 2 0 rfl rfl (Nat.le_of_ble_eq_true rfl) hin d_PathList_mayTake_21 ?_
    obtain ⟨hg0, h⟩ := gr_e h
    obtain ⟨hg1, h⟩ := gr_e h
    refine zc_gt hx hb d_PathList_mayTake_22 rfl hg0 hg1 (fun hc => ?_) (fun hc => ?_)
    · replace h := if_t hc h
      refine zv_iconst hx hb d_PathList_mayTake_29 ?_
      obtain ⟨hbo, h⟩ := gb_e h
      have e1 := so1 h
      rw [hQ, e1]; exact W.zret (ty := .boolean) hx hb hr (gb_n hbo) (fun t ht hW => ⟨rfl, ht⟩) (fun q h => nomatch h) d_PathList_mayTake_30
    · replace h := if_f hc h
      exact hj25  ls (lv_sub hl [] rfl) h
abbrev rm_ClockWays_write : Room := { frames := 0, cells := 0, slots := 0, locals := 0 }
set_option maxHeartbeats 4000000 in
set_option maxRecDepth 100000 in
theorem c_ClockWays_write (l : Launch) (D : va_G) (cI cJ cZ : ClassId) (F : Nat) (a : Nat → Nat) (arow : Nat) (C_size : Int) (C_elements : Int → Int) (C_parent : Int → Int) (C_length : Int → Int) (C_last : Int → Int) (row : Int → Int) (x1 : Int) (x2 : Int) (x4 : Int) (r : Int) (z_row : Int → Int) (sz : Nat) (h : f_ClockWays_write F C_elements C_parent C_length C_last row x1 x2 x4 = some (r, z_row)) : Met l y_ClockWays_write w_ClockWays_write rm_ClockWays_write (PC D [(cI, .int), (cJ, .long), (cZ, .boolean)] [.ref (a 10), .int (iI x1), .int (iI x2), .ref arow, .int (iI x4)] ([(o_C a C_size), ((a 12), .inl (cI, 770, .inl (ia C_elements))), ((a 13), .inl (cI, 770, .inl (ia C_parent))), ((a 14), .inl (cI, 770, .inl (ia C_length))), ((a 20), .inl (cI, 384, .inl (ia C_last))), (arow, .inl (cI, 144, .inl (ia row)))]) sz) (QI D [(cI, .int), (cJ, .long), (cZ, .boolean)] ([(o_C a C_size), ((a 12), .inl (cI, 770, .inl (ia C_elements))), ((a 13), .inl (cI, 770, .inl (ia C_parent))), ((a 14), .inl (cI, 770, .inl (ia C_length))), ((a 20), .inl (cI, 384, .inl (ia C_last))), (arow, .inl (cI, 144, .inl (ia row)))]) sz r ([(o_C a C_size), ((a 12), .inl (cI, 770, .inl (ia C_elements))), ((a 13), .inl (cI, 770, .inl (ia C_parent))), ((a 14), .inl (cI, 770, .inl (ia C_length))), ((a 20), .inl (cI, 384, .inl (ia C_last))), (arow, .inl (cI, 144, .inl (ia z_row)))])) 0 0 (va_A ([(o_C a C_size), ((a 12), .inl (cI, 770, .inl (ia C_elements))), ((a 13), .inl (cI, 770, .inl (ia C_parent))), ((a 14), .inl (cI, 770, .inl (ia C_length))), ((a 20), .inl (cI, 384, .inl (ia C_last))), (arow, .inl (cI, 144, .inl (ia row)))]) sz) := by
  refine Met.ofW (cc := prog_3_method_6_code) (maxL := 8) (ret := (Option.some Jvm.ClassFile.FieldType.int)) (by decide) rfl ?_
  intro p e s m args below meth c s₁ B hml hv
  obtain ⟨rfl, hsz, hP, hK, hD0, hN⟩ := hv
  have hx := B.exec
  have hb := B.bytes
  have hr := B.returns
  have hts := atoms_spec (ws := w_ClockWays_write) B.pre
  have hown : s.vm.findClass R_ClockWays = some m.cls := findClass_of_methodNamed B.named
  have hlocks := B.notSynchronized
  subst hsz
  have hD := hD0.self (sz := s.heap.size)
  obtain ⟨A, hAe⟩ : ∃ A, A = va_A ([(o_C a C_size), ((a 12), .inl (cI, 770, .inl (ia C_elements))), ((a 13), .inl (cI, 770, .inl (ia C_parent))), ((a 14), .inl (cI, 770, .inl (ia C_length))), ((a 20), .inl (cI, 384, .inl (ia C_last))), (arow, .inl (cI, 144, .inl (ia row)))]) s.heap.size := ⟨_, rfl⟩
  rw [← hAe] at hD
  have hA : ∀ q : Nat, s.heap.size ≤ q → A q := fun q h => by rw [hAe]; exact Or.inr h
  have hS : va_S A s.heap s.heap [] := va_S.rf
  have hl := lv_entry ([.ref (a 10), .int (iI x1), .int (iI x2), .ref arow, .int (iI x4)]) (n := 8) (Nat.le_of_ble_eq_true rfl)
  rw [lg_entry_eq]
  generalize (lg_sl ([.ref (a 10), .int (iI x1), .int (iI x2), .ref arow, .int (iI x4)]) ++ List.replicate (8 - (lg_sl ([.ref (a 10), .int (iI x1), .int (iI x2), .ref arow, .int (iI x4)])).length) Slot.unset).toArray = ls at hl ⊢
  have hl : lv_has ls 8 [(0, .ref (a 10)), (1, .int (iI x1)), (2, .int (iI x2)), (3, .ref arow), (4, .int (iI x4))] := hl
  generalize (List.toArray ([.ref (a 10), .int (iI x1), .int (iI x2), .ref arow, .int (iI x4)] : List Value)) = args at hts ⊢
  have hT : ∀ w ∈ Tg, w.before args s = true := fun w h => hts w (List.mem_cons_of_mem _ h)
  obtain ⟨Q, hQ⟩ : ∃ Q, Q = MQ below (QI D [(cI, .int), (cJ, .long), (cZ, .boolean)] ([(o_C a C_size), ((a 12), .inl (cI, 770, .inl (ia C_elements))), ((a 13), .inl (cI, 770, .inl (ia C_parent))), ((a 14), .inl (cI, 770, .inl (ia C_length))), ((a 20), .inl (cI, 384, .inl (ia C_last))), (arow, .inl (cI, 144, .inl (ia row)))]) s.heap.size r ([(o_C a C_size), ((a 12), .inl (cI, 770, .inl (ia C_elements))), ((a 13), .inl (cI, 770, .inl (ia C_parent))), ((a 14), .inl (cI, 770, .inl (ia C_length))), ((a 20), .inl (cI, 384, .inl (ia C_last))), (arow, .inl (cI, 144, .inl (ia z_row)))])) args s 0 0 (va_A ([(o_C a C_size), ((a 12), .inl (cI, 770, .inl (ia C_elements))), ((a 13), .inl (cI, 770, .inl (ia C_parent))), ((a 14), .inl (cI, 770, .inl (ia C_length))), ((a 20), .inl (cI, 384, .inl (ia C_last))), (arow, .inl (cI, 144, .inl (ia row)))]) s.heap.size) := ⟨_, rfl⟩
  rw [← hQ]
  suffices hW : ∀ (H : Heap) (locs : List Loc), va_P D vwCl ([(o_C a C_size), ((a 12), .inl (cI, 770, .inl (ia C_elements))), ((a 13), .inl (cI, 770, .inl (ia C_parent))), ((a 14), .inl (cI, 770, .inl (ia C_length))), ((a 20), .inl (cI, 384, .inl (ia C_last))), (arow, .inl (cI, 144, .inl (ia row)))]) H → va_D A ([(o_C a C_size), ((a 12), .inl (cI, 770, .inl (ia C_elements))), ((a 13), .inl (cI, 770, .inl (ia C_parent))), ((a 14), .inl (cI, 770, .inl (ia C_length))), ((a 20), .inl (cI, 384, .inl (ia C_last))), (arow, .inl (cI, 144, .inl (ia row)))]) → va_S A s.heap H locs → W p l e (headSpec w_ClockWays_write rm_ClockWays_write).room s m args below meth c H locs 0 0 Q (F0 m 0 ls []) from hW s.heap [] hP hD hS
  clear hP hD hS
  intro H locs hP hD hS
  rw [f_ClockWays_write] at h
  refine lv_aload_n hx hb d_ClockWays_write_0 rfl (lv_at hl 0 rfl) ?_
  refine va_get (D := D) (ci := 4) (v := .ref (a 20)) (C := R_ClockWays) (T := F_ClockWays) (N := 17) hx hb hT in_ClockWays hown hK hP 0 rfl rfl 13 (by decide) (hT _ m212) (fun _ h9 => h9) rfl d_ClockWays_write_1 ?_
  refine lv_iload_n hx hb d_ClockWays_write_4 rfl (lv_at hl 1 rfl) ?_
  refine lv_bipush (v := iI 8) hx hb d_ClockWays_write_5 (by decide) ?_
  refine zv_imul hx hb d_ClockWays_write_7 ?_
  refine lv_iload_n hx hb d_ClockWays_write_8 rfl (lv_at hl 2 rfl) ?_
  refine zv_iadd hx hb d_ClockWays_write_9 ?_
  obtain ⟨hin, h⟩ := gi_e h
  refine zv_iald hx hb hK hP 4 0 rfl rfl (Nat.le_of_ble_eq_true rfl) hin d_ClockWays_write_10 ?_
  refine zv_top (fun v5 hv => ?_)
  replace h := bd_e hv h
  refine lv_istore (lv' := [(5, .int (iI v5)), (0, .ref (a 10)), (1, .int (iI x1)), (2, .int (iI x2)), (3, .ref arow), (4, .int (iI x4))]) hx hb d_ClockWays_write_11 hl (by decide) rfl (fun ls hl => ?_)
  refine lv_iload hx hb d_ClockWays_write_13 (lv_at hl 0 rfl) ?_
  obtain ⟨hg0, h⟩ := gr_e h
  refine zi_ge hx hb d_ClockWays_write_15 rfl hg0 (fun hc => ?_) (fun hc => ?_)
  · replace h := if_t hc h
    refine lv_iload hx hb d_ClockWays_write_21 (lv_at hl 5 rfl) ?_
    refine lv_aload_n hx hb d_ClockWays_write_23 rfl (lv_at hl 1 rfl) ?_
    refine va_get (D := D) (ci := 4) (v := .ref (a 14)) (C := R_ClockWays) (T := F_ClockWays) (N := 17) hx hb hT in_ClockWays hown hK hP 0 rfl rfl 7 (by decide) (hT _ m201) (fun _ h9 => h9) rfl d_ClockWays_write_24 ?_
    refine lv_iload hx hb d_ClockWays_write_27 (lv_at hl 0 rfl) ?_
    obtain ⟨hin, h⟩ := gi_e h
    refine zv_iald hx hb hK hP 3 0 rfl rfl (Nat.le_of_ble_eq_true rfl) hin d_ClockWays_write_29 ?_
    refine zv_iadd hx hb d_ClockWays_write_30 ?_
    refine zv_top (fun v6 hv => ?_)
    replace h := bd_e hv h
    refine lv_istore (lv' := [(6, .int (iI v6)), (5, .int (iI v5)), (0, .ref (a 10)), (1, .int (iI x1)), (2, .int (iI x2)), (3, .ref arow), (4, .int (iI x4))]) hx hb d_ClockWays_write_31 hl (by decide) rfl (fun ls hl => ?_)
    refine lv_iload hx hb d_ClockWays_write_33 (lv_at hl 0 rfl) ?_
    refine zv_iconst hx hb d_ClockWays_write_35 ?_
    refine zv_isub hx hb d_ClockWays_write_36 ?_
    refine zv_top (fun v7 hv => ?_)
    replace h := bd_e hv h
    refine lv_istore (lv' := [(7, .int (iI v7)), (6, .int (iI v6)), (5, .int (iI v5)), (0, .ref (a 10)), (1, .int (iI x1)), (2, .int (iI x2)), (3, .ref arow), (4, .int (iI x4))]) hx hb d_ClockWays_write_37 hl (by decide) rfl (fun ls hl => ?_)
    have hl39 : ∀ (nf : Nat) (v5_1 : Int) (v7_2 : Int) (row_3 : Int → Int) (H : Heap) (locs : List Loc) (ls : Array Slot), va_P D vwCl [(o_C a C_size), ((a 12), .inl (cI, 770, .inl (ia C_elements))), ((a 13), .inl (cI, 770, .inl (ia C_parent))), ((a 14), .inl (cI, 770, .inl (ia C_length))), ((a 20), .inl (cI, 384, .inl (ia C_last))), (arow, .inl (cI, 144, .inl (ia row_3)))] H → va_D A [(o_C a C_size), ((a 12), .inl (cI, 770, .inl (ia C_elements))), ((a 13), .inl (cI, 770, .inl (ia C_parent))), ((a 14), .inl (cI, 770, .inl (ia C_length))), ((a 20), .inl (cI, 384, .inl (ia C_last))), (arow, .inl (cI, 144, .inl (ia row_3)))] → va_S A s.heap H locs → lv_has ls 8 [(0, .ref (a 10)), (3, .ref arow), (4, .int (iI x4)), (5, .int (iI v5_1)), (6, .int (iI v6)), (7, .int (iI v7_2))] → lq3 (f_ClockWays_write_b39 F C_elements C_parent x4 v6) nf v5_1 v7_2 row_3 = some (r, z_row) → W p l e (headSpec w_ClockWays_write rm_ClockWays_write).room s m args below meth c H locs 0 0 Q (F0 m 39 ls []) := by
      intro n39
      induction n39 with
      | zero => intro v5_1 v7_2 row_3 H locs ls hP hD hS hl h; exact no_some h
      | succ n39 ih39 =>
        intro v5_1 v7_2 row_3 H locs ls hP hD hS hl h
        replace h : f_ClockWays_write_b39 F C_elements C_parent x4 v6 (lq3 (f_ClockWays_write_b39 F C_elements C_parent x4 v6) n39) v5_1 v7_2 row_3 = some (r, z_row) := h
        obtain ⟨self39, hs39⟩ : ∃ z, z = lq3 (f_ClockWays_write_b39 F C_elements C_parent x4 v6) n39 := ⟨_, rfl⟩
        rw [← hs39] at h ih39
        rw [f_ClockWays_write_b39] at h
        refine lv_iload hx hb d_ClockWays_write_39 (lv_at hl 5 rfl) ?_
        refine lv_iload hx hb d_ClockWays_write_41 (lv_at hl 2 rfl) ?_
        have hj77 : ∀  (H : Heap) (locs : List Loc) (ls : Array Slot), va_P D vwCl [(o_C a C_size), ((a 12), .inl (cI, 770, .inl (ia C_elements))), ((a 13), .inl (cI, 770, .inl (ia C_parent))), ((a 14), .inl (cI, 770, .inl (ia C_length))), ((a 20), .inl (cI, 384, .inl (ia C_last))), (arow, .inl (cI, 144, .inl (ia row_3)))] H → va_D A [(o_C a C_size), ((a 12), .inl (cI, 770, .inl (ia C_elements))), ((a 13), .inl (cI, 770, .inl (ia C_parent))), ((a 14), .inl (cI, 770, .inl (ia C_length))), ((a 20), .inl (cI, 384, .inl (ia C_last))), (arow, .inl (cI, 144, .inl (ia row_3)))] → va_S A s.heap H locs → lv_has ls 8 [(6, .int (iI v6))] → f_ClockWays_write_j77 F v6 row_3 = some (r, z_row) → W p l e (headSpec w_ClockWays_write rm_ClockWays_write).room s m args below meth c H locs 0 0 Q (F0 m 77 ls []) := by
          intro  H locs ls hP hD hS hl h
          rw [f_ClockWays_write_j77] at h
          refine lv_iload hx hb d_ClockWays_write_77 (lv_at hl 0 rfl) ?_
          obtain ⟨e1, e2⟩ := so2 h
          rw [hQ, e1, e2]; rw [hAe] at hD hS; exact W.iret hx hb hr (fun t ht hW => ⟨⟨_, (), rfl, rfl, by rw [ht]; exact hP, va_K.moved hW.alike hK, hD⟩, hS.F ht⟩) hS.2.2 d_ClockWays_write_79
        obtain ⟨hg0, h⟩ := gr_e h
        obtain ⟨hg1, h⟩ := gr_e h
        refine zc_lt hx hb d_ClockWays_write_43 rfl hg0 hg1 (fun hc => ?_) (fun hc => ?_)
        · replace h := if_t hc h
          exact hj77  H locs ls hP hD hS (lv_sub hl [4] rfl) h
        · replace h := if_f hc h
          refine lv_iload hx hb d_ClockWays_write_46 (lv_at hl 3 rfl) ?_
          obtain ⟨hg0, h⟩ := gr_e h
          refine zi_lt hx hb d_ClockWays_write_48 rfl hg0 (fun hc => ?_) (fun hc => ?_)
          · replace h := if_t hc h
            exact hj77  H locs ls hP hD hS (lv_sub hl [4] rfl) h
          · replace h := if_f hc h
            refine lv_aload_n hx hb d_ClockWays_write_51 rfl (lv_at hl 1 rfl) ?_
            refine lv_iload hx hb d_ClockWays_write_52 (lv_at hl 5 rfl) ?_
            refine lv_aload_n hx hb d_ClockWays_write_54 rfl (lv_at hl 0 rfl) ?_
            refine va_get (D := D) (ci := 4) (v := .ref (a 12)) (C := R_ClockWays) (T := F_ClockWays) (N := 17) hx hb hT in_ClockWays hown hK hP 0 rfl rfl 5 (by decide) (hT _ m199) (fun _ h9 => h9) rfl d_ClockWays_write_55 ?_
            refine lv_iload hx hb d_ClockWays_write_58 (lv_at hl 3 rfl) ?_
            obtain ⟨hin, h⟩ := gi_e h
            refine zv_iald hx hb hK hP 1 0 rfl rfl (Nat.le_of_ble_eq_true rfl) hin d_ClockWays_write_60 ?_
            obtain ⟨hin, h⟩ := gi_e h
            refine zv_iast hx hb hK hP hD hS 5 0 rfl rfl (Nat.le_of_ble_eq_true rfl) hin d_ClockWays_write_61 (fun H locs hP hD hS => ?_)
            obtain ⟨row_4, hv⟩ : ∃ z, z = (ui row_3 v7_2 (C_elements v5_1)) := ⟨_, rfl⟩
            replace h := bd_e hv h
            have hP : va_P D vwCl [(o_C a C_size), ((a 12), .inl (cI, 770, .inl (ia C_elements))), ((a 13), .inl (cI, 770, .inl (ia C_parent))), ((a 14), .inl (cI, 770, .inl (ia C_length))), ((a 20), .inl (cI, 384, .inl (ia C_last))), (arow, .inl (cI, 144, .inl (ia row_4)))] H := by rw [hv]; exact hP
            have hD : va_D A [(o_C a C_size), ((a 12), .inl (cI, 770, .inl (ia C_elements))), ((a 13), .inl (cI, 770, .inl (ia C_parent))), ((a 14), .inl (cI, 770, .inl (ia C_length))), ((a 20), .inl (cI, 384, .inl (ia C_last))), (arow, .inl (cI, 144, .inl (ia row_4)))] := by rw [hv]; exact hD
            refine lv_aload_n hx hb d_ClockWays_write_62 rfl (lv_at hl 0 rfl) ?_
            refine va_get (D := D) (ci := 4) (v := .ref (a 13)) (C := R_ClockWays) (T := F_ClockWays) (N := 17) hx hb hT in_ClockWays hown hK hP 0 rfl rfl 6 (by decide) (hT _ m200) (fun _ h9 => h9) rfl d_ClockWays_write_63 ?_
            refine lv_iload hx hb d_ClockWays_write_66 (lv_at hl 3 rfl) ?_
            obtain ⟨hin, h⟩ := gi_e h
            refine zv_iald hx hb hK hP 2 0 rfl rfl (Nat.le_of_ble_eq_true rfl) hin d_ClockWays_write_68 ?_
            refine zv_top (fun v5_5 hv => ?_)
            replace h := bd_e hv h
            refine lv_istore (lv' := [(5, .int (iI v5_5)), (0, .ref (a 10)), (3, .ref arow), (4, .int (iI x4)), (6, .int (iI v6)), (7, .int (iI v7_2))]) hx hb d_ClockWays_write_69 hl (by decide) rfl (fun ls hl => ?_)
            refine lv_iinc (v := iI (v7_2 + (-1))) (k := 5) (lv' := [(7, .int (iI (v7_2 + (-1)))), (5, .int (iI v5_5)), (0, .ref (a 10)), (3, .ref arow), (4, .int (iI x4)), (6, .int (iI v6))]) hx hb d_ClockWays_write_71 hl rfl (iI_add _ _) (by decide) rfl (fun ls hl => ?_)
            refine lv_goto hx hb d_ClockWays_write_74 rfl ?_
            exact ih39 v5_5 (v7_2 + (-1)) row_4 H locs ls hP hD hS (lv_sub hl [2, 3, 4, 1, 5, 0] rfl) h
    exact hl39 F v5 v7 row H locs ls hP hD hS (lv_sub hl [3, 6, 7, 2, 1, 0] rfl) h
  · replace h := if_f hc h
    refine lv_iload hx hb d_ClockWays_write_18 (lv_at hl 5 rfl) ?_
    obtain ⟨e1, e2⟩ := so2 h
    rw [hQ, e1, e2]; rw [hAe] at hD hS; exact W.iret hx hb hr (fun t ht hW => ⟨⟨_, (), rfl, rfl, by rw [ht]; exact hP, va_K.moved hW.alike hK, hD⟩, hS.F ht⟩) hS.2.2 d_ClockWays_write_20
abbrev rm_WorstPaths_writeRow : Room := { frames := 1, cells := 0, slots := 0, locals := 27 }
set_option maxHeartbeats 4000000 in
set_option maxRecDepth 100000 in
theorem c_WorstPaths_writeRow (l : Launch) (D : va_G) (cI cJ cZ : ClassId) (F : Nat) (a : Nat → Nat) (P_start : Int) (P_end : Int) (P_endChange : Int) (P_isCollected : Int) (P_trail : Int → Int) (P_row : Int → Int) (C_size : Int) (C_elements : Int → Int) (C_parent : Int → Int) (C_length : Int → Int) (C_last : Int → Int) (N_period : Int) (N_width : Int) (N_size : Int) (N_kind : Int → Int) (x1 : Int) (x2 : Int) (x3 : Int) (x4 : Int) (r : Int) (z_P_row : Int → Int) (sz : Nat) (h : f_WorstPaths_writeRow F P_start P_end P_endChange P_trail P_row C_elements C_parent C_length C_last N_kind x1 x2 x3 x4 = some (r, z_P_row)) : Met l y_WorstPaths_writeRow w_WorstPaths_writeRow rm_WorstPaths_writeRow (PC D [(cI, .int), (cJ, .long), (cZ, .boolean)] [.ref (a 4), .int (iI x1), .int (iI x2), .int (iI x3), .int (iI x4)] ([(o_P a P_start P_end P_endChange P_isCollected), ((a 5), .inl (cI, 48, .inl (ia P_trail))), ((a 6), .inl (cI, 144, .inl (ia P_row))), (o_C a C_size), ((a 12), .inl (cI, 770, .inl (ia C_elements))), ((a 13), .inl (cI, 770, .inl (ia C_parent))), ((a 14), .inl (cI, 770, .inl (ia C_length))), ((a 20), .inl (cI, 384, .inl (ia C_last))), (o_N a N_period N_width N_size), ((a 44), .inl (cI, 48, .inl (ia N_kind)))]) sz) (QI D [(cI, .int), (cJ, .long), (cZ, .boolean)] ([(o_P a P_start P_end P_endChange P_isCollected), ((a 5), .inl (cI, 48, .inl (ia P_trail))), ((a 6), .inl (cI, 144, .inl (ia P_row))), (o_C a C_size), ((a 12), .inl (cI, 770, .inl (ia C_elements))), ((a 13), .inl (cI, 770, .inl (ia C_parent))), ((a 14), .inl (cI, 770, .inl (ia C_length))), ((a 20), .inl (cI, 384, .inl (ia C_last))), (o_N a N_period N_width N_size), ((a 44), .inl (cI, 48, .inl (ia N_kind)))]) sz r ([(o_P a P_start P_end P_endChange P_isCollected), ((a 5), .inl (cI, 48, .inl (ia P_trail))), ((a 6), .inl (cI, 144, .inl (ia z_P_row))), (o_C a C_size), ((a 12), .inl (cI, 770, .inl (ia C_elements))), ((a 13), .inl (cI, 770, .inl (ia C_parent))), ((a 14), .inl (cI, 770, .inl (ia C_length))), ((a 20), .inl (cI, 384, .inl (ia C_last))), (o_N a N_period N_width N_size), ((a 44), .inl (cI, 48, .inl (ia N_kind)))])) 0 0 (va_A ([(o_P a P_start P_end P_endChange P_isCollected), ((a 5), .inl (cI, 48, .inl (ia P_trail))), ((a 6), .inl (cI, 144, .inl (ia P_row))), (o_C a C_size), ((a 12), .inl (cI, 770, .inl (ia C_elements))), ((a 13), .inl (cI, 770, .inl (ia C_parent))), ((a 14), .inl (cI, 770, .inl (ia C_length))), ((a 20), .inl (cI, 384, .inl (ia C_last))), (o_N a N_period N_width N_size), ((a 44), .inl (cI, 48, .inl (ia N_kind)))]) sz) := by
  refine Met.ofW (cc := prog_10_method_9_code) (maxL := 7) (ret := (Option.some Jvm.ClassFile.FieldType.int)) (by decide) rfl ?_
  intro p e s m args below meth c s₁ B hml hv
  obtain ⟨rfl, hsz, hP, hK, hD0, hN⟩ := hv
  have hx := B.exec
  have hb := B.bytes
  have hr := B.returns
  have hts := atoms_spec (ws := w_WorstPaths_writeRow) B.pre
  have hown : s.vm.findClass R_WorstPaths = some m.cls := findClass_of_methodNamed B.named
  have hlocks := B.notSynchronized
  subst hsz
  have hD := hD0.self (sz := s.heap.size)
  obtain ⟨A, hAe⟩ : ∃ A, A = va_A ([(o_P a P_start P_end P_endChange P_isCollected), ((a 5), .inl (cI, 48, .inl (ia P_trail))), ((a 6), .inl (cI, 144, .inl (ia P_row))), (o_C a C_size), ((a 12), .inl (cI, 770, .inl (ia C_elements))), ((a 13), .inl (cI, 770, .inl (ia C_parent))), ((a 14), .inl (cI, 770, .inl (ia C_length))), ((a 20), .inl (cI, 384, .inl (ia C_last))), (o_N a N_period N_width N_size), ((a 44), .inl (cI, 48, .inl (ia N_kind)))]) s.heap.size := ⟨_, rfl⟩
  rw [← hAe] at hD
  have hA : ∀ q : Nat, s.heap.size ≤ q → A q := fun q h => by rw [hAe]; exact Or.inr h
  have hS : va_S A s.heap s.heap [] := va_S.rf
  have hl := lv_entry ([.ref (a 4), .int (iI x1), .int (iI x2), .int (iI x3), .int (iI x4)]) (n := 7) (Nat.le_of_ble_eq_true rfl)
  rw [lg_entry_eq]
  generalize (lg_sl ([.ref (a 4), .int (iI x1), .int (iI x2), .int (iI x3), .int (iI x4)]) ++ List.replicate (7 - (lg_sl ([.ref (a 4), .int (iI x1), .int (iI x2), .int (iI x3), .int (iI x4)])).length) Slot.unset).toArray = ls at hl ⊢
  have hl : lv_has ls 7 [(0, .ref (a 4)), (1, .int (iI x1)), (2, .int (iI x2)), (3, .int (iI x3)), (4, .int (iI x4))] := hl
  generalize (List.toArray ([.ref (a 4), .int (iI x1), .int (iI x2), .int (iI x3), .int (iI x4)] : List Value)) = args at hts ⊢
  have hT : ∀ w ∈ Tg, w.before args s = true := fun w h => hts w (List.mem_cons_of_mem _ h)
  obtain ⟨Q, hQ⟩ : ∃ Q, Q = MQ below (QI D [(cI, .int), (cJ, .long), (cZ, .boolean)] ([(o_P a P_start P_end P_endChange P_isCollected), ((a 5), .inl (cI, 48, .inl (ia P_trail))), ((a 6), .inl (cI, 144, .inl (ia P_row))), (o_C a C_size), ((a 12), .inl (cI, 770, .inl (ia C_elements))), ((a 13), .inl (cI, 770, .inl (ia C_parent))), ((a 14), .inl (cI, 770, .inl (ia C_length))), ((a 20), .inl (cI, 384, .inl (ia C_last))), (o_N a N_period N_width N_size), ((a 44), .inl (cI, 48, .inl (ia N_kind)))]) s.heap.size r ([(o_P a P_start P_end P_endChange P_isCollected), ((a 5), .inl (cI, 48, .inl (ia P_trail))), ((a 6), .inl (cI, 144, .inl (ia z_P_row))), (o_C a C_size), ((a 12), .inl (cI, 770, .inl (ia C_elements))), ((a 13), .inl (cI, 770, .inl (ia C_parent))), ((a 14), .inl (cI, 770, .inl (ia C_length))), ((a 20), .inl (cI, 384, .inl (ia C_last))), (o_N a N_period N_width N_size), ((a 44), .inl (cI, 48, .inl (ia N_kind)))])) args s 0 0 (va_A ([(o_P a P_start P_end P_endChange P_isCollected), ((a 5), .inl (cI, 48, .inl (ia P_trail))), ((a 6), .inl (cI, 144, .inl (ia P_row))), (o_C a C_size), ((a 12), .inl (cI, 770, .inl (ia C_elements))), ((a 13), .inl (cI, 770, .inl (ia C_parent))), ((a 14), .inl (cI, 770, .inl (ia C_length))), ((a 20), .inl (cI, 384, .inl (ia C_last))), (o_N a N_period N_width N_size), ((a 44), .inl (cI, 48, .inl (ia N_kind)))]) s.heap.size) := ⟨_, rfl⟩
  rw [← hQ]
  suffices hW : ∀ (H : Heap) (locs : List Loc), va_P D vwCl ([(o_P a P_start P_end P_endChange P_isCollected), ((a 5), .inl (cI, 48, .inl (ia P_trail))), ((a 6), .inl (cI, 144, .inl (ia P_row))), (o_C a C_size), ((a 12), .inl (cI, 770, .inl (ia C_elements))), ((a 13), .inl (cI, 770, .inl (ia C_parent))), ((a 14), .inl (cI, 770, .inl (ia C_length))), ((a 20), .inl (cI, 384, .inl (ia C_last))), (o_N a N_period N_width N_size), ((a 44), .inl (cI, 48, .inl (ia N_kind)))]) H → va_D A ([(o_P a P_start P_end P_endChange P_isCollected), ((a 5), .inl (cI, 48, .inl (ia P_trail))), ((a 6), .inl (cI, 144, .inl (ia P_row))), (o_C a C_size), ((a 12), .inl (cI, 770, .inl (ia C_elements))), ((a 13), .inl (cI, 770, .inl (ia C_parent))), ((a 14), .inl (cI, 770, .inl (ia C_length))), ((a 20), .inl (cI, 384, .inl (ia C_last))), (o_N a N_period N_width N_size), ((a 44), .inl (cI, 48, .inl (ia N_kind)))]) → va_S A s.heap H locs → W p l e (headSpec w_WorstPaths_writeRow rm_WorstPaths_writeRow).room s m args below meth c H locs 0 0 Q (F0 m 0 ls []) from hW s.heap [] hP hD hS
  clear hP hD hS
  intro H locs hP hD hS
  rw [f_WorstPaths_writeRow] at h
  refine lv_aload_n hx hb d_WorstPaths_writeRow_0 rfl (lv_at hl 0 rfl) ?_
  refine va_get (D := D) (ci := 8) (v := .ref (a 10)) (C := R_WorstPaths) (T := F_WorstPaths) (N := 12) hx hb hT in_WorstPaths hown hK hP 0 rfl rfl 1 (by decide) (hT _ m373) (fun _ h9 => h9) rfl d_WorstPaths_writeRow_1 ?_
  refine lv_aload_n hx hb d_WorstPaths_writeRow_4 rfl (lv_at hl 0 rfl) ?_
  refine va_get (D := D) (ci := 8) (v := .int (iI P_start)) (C := R_WorstPaths) (T := F_WorstPaths) (N := 12) hx hb hT in_WorstPaths hown hK hP 0 rfl rfl 8 (by decide) (hT _ m380) (fun _ h9 => h9) rfl d_WorstPaths_writeRow_5 ?_
  refine lv_iload_n hx hb d_WorstPaths_writeRow_8 rfl (lv_at hl 1 rfl) ?_
  refine lv_aload_n hx hb d_WorstPaths_writeRow_9 rfl (lv_at hl 0 rfl) ?_
  refine va_get (D := D) (ci := 8) (v := .ref (a 6)) (C := R_WorstPaths) (T := F_WorstPaths) (N := 12) hx hb hT in_WorstPaths hown hK hP 0 rfl rfl 7 (by decide) (hT _ m379) (fun _ h9 => h9) rfl d_WorstPaths_writeRow_10 ?_
  refine zv_iconst hx hb d_WorstPaths_writeRow_13 ?_
  obtain ⟨r14, P_row_1, hcall, h⟩ := ob2_e h
  refine ca_i (w2 := [(o_P a P_start P_end P_endChange P_isCollected), ((a 5), .inl (cI, 48, .inl (ia P_trail))), ((a 6), .inl (cI, 144, .inl (ia P_row_1))), (o_C a C_size), ((a 12), .inl (cI, 770, .inl (ia C_elements))), ((a 13), .inl (cI, 770, .inl (ia C_parent))), ((a 14), .inl (cI, 770, .inl (ia C_length))), ((a 20), .inl (cI, 384, .inl (ia C_last))), (o_N a N_period N_width N_size), ((a 44), .inl (cI, 48, .inl (ia N_kind)))]) (va_runV (As := [.int (iI P_start), .int (iI x1), .ref (a 6), .int (iI 0)]) (rest := []) ⟨hx, hb, hml, hown, hts⟩ (c_ClockWays_write l D cI cJ cZ F a (a 6) C_size C_elements C_parent C_length C_last P_row P_start x1 0 r14 P_row_1 H.size hcall) (cwV 4 hts (gd_V m965 m962 m963 m964 m5) rfl rfl rfl ⟨rfl, hc_ClockWays_write⟩ ⟨Nat.le_of_ble_eq_true rfl, Nat.le_of_ble_eq_true rfl⟩) (pc_V 3 4 [.int (iI P_start), .int (iI x1), .ref (a 6), .int (iI 0)] hP hK hD hN [3, 4, 5, 6, 7, 2] rfl rfl rfl rfl rfl) rfl rfl hl.1 rfl (lv_room (Nat.le_of_ble_eq_true rfl)) d_WorstPaths_writeRow_14 ⟨Nat.le_refl 0, Nat.le_refl 0⟩) hP hD hS hA [3, 4, 5, 6, 7, 2] [0, 1, 8, 9] [0, 1, 9, 4, 5, 6, 7, 8, 2, 3] rfl rfl rfl (by decide) rfl rfl rfl (fun H locs hP hD hS => ?_)
  refine lv_istore (lv' := [(5, .int (iI r14)), (0, .ref (a 4)), (1, .int (iI x1)), (2, .int (iI x2)), (3, .int (iI x3)), (4, .int (iI x4))]) hx hb d_WorstPaths_writeRow_17 hl (by decide) rfl (fun ls hl => ?_)
  refine lv_aload_n hx hb d_WorstPaths_writeRow_19 rfl (lv_at hl 1 rfl) ?_
  refine va_get (D := D) (ci := 8) (v := .ref (a 6)) (C := R_WorstPaths) (T := F_WorstPaths) (N := 12) hx hb hT in_WorstPaths hown hK hP 0 rfl rfl 7 (by decide) (hT _ m379) (fun _ h9 => h9) rfl d_WorstPaths_writeRow_20 ?_
  refine lv_iload hx hb d_WorstPaths_writeRow_23 (lv_at hl 0 rfl) ?_
  refine lv_aload_n hx hb d_WorstPaths_writeRow_25 rfl (lv_at hl 1 rfl) ?_
  refine va_get (D := D) (ci := 8) (v := .int (iI P_start)) (C := R_WorstPaths) (T := F_WorstPaths) (N := 12) hx hb hT in_WorstPaths hown hK hP 0 rfl rfl 8 (by decide) (hT _ m380) (fun _ h9 => h9) rfl d_WorstPaths_writeRow_26 ?_
  refine lv_aload_n hx hb d_WorstPaths_writeRow_29 rfl (lv_at hl 1 rfl) ?_
  refine va_get (D := D) (ci := 8) (v := .ref (a 43)) (C := R_WorstPaths) (T := F_WorstPaths) (N := 12) hx hb hT in_WorstPaths hown hK hP 0 rfl rfl 0 (by decide) (hT _ m372) (fun _ h9 => h9) rfl d_WorstPaths_writeRow_30 ?_
  refine va_get (D := D) (ci := 1) (v := .ref (a 44)) (C := R_Net) (T := F_Net) (N := 15) hx hb hT in_Net hown hK hP 8 rfl rfl 3 (by decide) (hT _ m58) (fun _ h9 => h9) rfl d_WorstPaths_writeRow_33 ?_
  refine lv_aload_n hx hb d_WorstPaths_writeRow_36 rfl (lv_at hl 1 rfl) ?_
  refine va_get (D := D) (ci := 8) (v := .int (iI P_start)) (C := R_WorstPaths) (T := F_WorstPaths) (N := 12) hx hb hT in_WorstPaths hown hK hP 0 rfl rfl 8 (by decide) (hT _ m380) (fun _ h9 => h9) rfl d_WorstPaths_writeRow_37 ?_
  obtain ⟨hin, h⟩ := gi_e h
  refine zv_iald hx hb hK hP 9 0 rfl rfl (Nat.le_of_ble_eq_true rfl) hin d_WorstPaths_writeRow_40 ?_
  refine zv_iconst hx hb d_WorstPaths_writeRow_41 ?_
  have hj50 : ∀ (q3 : Int) (H : Heap) (locs : List Loc) (ls : Array Slot), va_P D vwCl [(o_P a P_start P_end P_endChange P_isCollected), ((a 5), .inl (cI, 48, .inl (ia P_trail))), ((a 6), .inl (cI, 144, .inl (ia P_row_1))), (o_C a C_size), ((a 12), .inl (cI, 770, .inl (ia C_elements))), ((a 13), .inl (cI, 770, .inl (ia C_parent))), ((a 14), .inl (cI, 770, .inl (ia C_length))), ((a 20), .inl (cI, 384, .inl (ia C_last))), (o_N a N_period N_width N_size), ((a 44), .inl (cI, 48, .inl (ia N_kind)))] H → va_D A [(o_P a P_start P_end P_endChange P_isCollected), ((a 5), .inl (cI, 48, .inl (ia P_trail))), ((a 6), .inl (cI, 144, .inl (ia P_row_1))), (o_C a C_size), ((a 12), .inl (cI, 770, .inl (ia C_elements))), ((a 13), .inl (cI, 770, .inl (ia C_parent))), ((a 14), .inl (cI, 770, .inl (ia C_length))), ((a 20), .inl (cI, 384, .inl (ia C_last))), (o_N a N_period N_width N_size), ((a 44), .inl (cI, 48, .inl (ia N_kind)))] → va_S A s.heap H locs → lv_has ls 7 [(0, .ref (a 4)), (2, .int (iI x2)), (3, .int (iI x3)), (4, .int (iI x4)), (5, .int (iI r14))] → f_WorstPaths_writeRow_j50 F P_start P_end P_endChange P_trail C_elements C_parent C_length C_last x2 x3 x4 r14 P_row_1 q3 = some (r, z_P_row) → W p l e (headSpec w_WorstPaths_writeRow rm_WorstPaths_writeRow).room s m args below meth c H locs 0 0 Q (F0 m 50 ls [.int (iI q3), .int (iI P_start), .int (iI r14), .ref (a 6)]) := by
    intro q3 H locs ls hP hD hS hl h
    rw [f_WorstPaths_writeRow_j50] at h
    refine lv_iload_n hx hb d_WorstPaths_writeRow_50 rfl (lv_at hl 2 rfl) ?_
    obtain ⟨r51, hcall, h⟩ := ob1_e h
    refine ro_i (va_Run.run (va_runSN (As := [.int (iI P_start), .int (iI q3), .int (iI x3)]) (rest := [.int (iI r14), .ref (a 6)]) ⟨hx, hb, hml, hown, hts⟩ (c_T_elementOf l D cI cJ cZ F a P_start q3 x3 r51 H.size hcall) ⟨va_cnB 3 hts (gd_in m535) rfl rfl rfl hN.2.2.2 (hT _ m1) hc_T_elementOf ⟨Nat.le_of_ble_eq_true rfl, Nat.le_of_ble_eq_true rfl⟩, hT _ m534, trivial⟩ (pc_S [.int (iI P_start), .int (iI q3), .int (iI x3)] hP hK hD hN [] rfl rfl rfl) rfl rfl hl.1 rfl (lv_room (Nat.le_of_ble_eq_true rfl)) d_WorstPaths_writeRow_51 ⟨Nat.le_refl 0, Nat.le_refl 0⟩)) (W.eq (g2 := F0 m 54 ls [.int (iI r51), .int (iI r14), .ref (a 6)]) rfl ?_)
    obtain ⟨hin, h⟩ := gi_e h
    refine zv_iast hx hb hK hP hD hS 2 0 rfl rfl (Nat.le_of_ble_eq_true rfl) hin d_WorstPaths_writeRow_54 (fun H locs hP hD hS => ?_)
    obtain ⟨P_row_2, hv⟩ : ∃ z, z = (ui P_row_1 r14 r51) := ⟨_, rfl⟩
    replace h := bd_e hv h
    have hP : va_P D vwCl [(o_P a P_start P_end P_endChange P_isCollected), ((a 5), .inl (cI, 48, .inl (ia P_trail))), ((a 6), .inl (cI, 144, .inl (ia P_row_2))), (o_C a C_size), ((a 12), .inl (cI, 770, .inl (ia C_elements))), ((a 13), .inl (cI, 770, .inl (ia C_parent))), ((a 14), .inl (cI, 770, .inl (ia C_length))), ((a 20), .inl (cI, 384, .inl (ia C_last))), (o_N a N_period N_width N_size), ((a 44), .inl (cI, 48, .inl (ia N_kind)))] H := by rw [hv]; exact hP
    have hD : va_D A [(o_P a P_start P_end P_endChange P_isCollected), ((a 5), .inl (cI, 48, .inl (ia P_trail))), ((a 6), .inl (cI, 144, .inl (ia P_row_2))), (o_C a C_size), ((a 12), .inl (cI, 770, .inl (ia C_elements))), ((a 13), .inl (cI, 770, .inl (ia C_parent))), ((a 14), .inl (cI, 770, .inl (ia C_length))), ((a 20), .inl (cI, 384, .inl (ia C_last))), (o_N a N_period N_width N_size), ((a 44), .inl (cI, 48, .inl (ia N_kind)))] := by rw [hv]; exact hD
    refine lv_iinc (v := iI (r14 + 1)) (k := 4) (lv' := [(5, .int (iI (r14 + 1))), (0, .ref (a 4)), (2, .int (iI x2)), (3, .int (iI x3)), (4, .int (iI x4))]) hx hb d_WorstPaths_writeRow_55 hl rfl (iI_add _ _) (by decide) rfl (fun ls hl => ?_)
    refine lv_iload hx hb d_WorstPaths_writeRow_58 (lv_at hl 4 rfl) ?_
    refine zv_iconst hx hb d_WorstPaths_writeRow_60 ?_
    refine zv_isub hx hb d_WorstPaths_writeRow_61 ?_
    refine zv_top (fun v6 hv => ?_)
    replace h := bd_e hv h
    refine lv_istore (lv' := [(6, .int (iI v6)), (5, .int (iI (r14 + 1))), (0, .ref (a 4)), (2, .int (iI x2)), (3, .int (iI x3)), (4, .int (iI x4))]) hx hb d_WorstPaths_writeRow_62 hl (by decide) rfl (fun ls hl => ?_)
    have hl64 : ∀ (nf : Nat) (v5 : Int) (v6_3 : Int) (P_row_4 : Int → Int) (H : Heap) (locs : List Loc) (ls : Array Slot), va_P D vwCl [(o_P a P_start P_end P_endChange P_isCollected), ((a 5), .inl (cI, 48, .inl (ia P_trail))), ((a 6), .inl (cI, 144, .inl (ia P_row_4))), (o_C a C_size), ((a 12), .inl (cI, 770, .inl (ia C_elements))), ((a 13), .inl (cI, 770, .inl (ia C_parent))), ((a 14), .inl (cI, 770, .inl (ia C_length))), ((a 20), .inl (cI, 384, .inl (ia C_last))), (o_N a N_period N_width N_size), ((a 44), .inl (cI, 48, .inl (ia N_kind)))] H → va_D A [(o_P a P_start P_end P_endChange P_isCollected), ((a 5), .inl (cI, 48, .inl (ia P_trail))), ((a 6), .inl (cI, 144, .inl (ia P_row_4))), (o_C a C_size), ((a 12), .inl (cI, 770, .inl (ia C_elements))), ((a 13), .inl (cI, 770, .inl (ia C_parent))), ((a 14), .inl (cI, 770, .inl (ia C_length))), ((a 20), .inl (cI, 384, .inl (ia C_last))), (o_N a N_period N_width N_size), ((a 44), .inl (cI, 48, .inl (ia N_kind)))] → va_S A s.heap H locs → lv_has ls 7 [(0, .ref (a 4)), (2, .int (iI x2)), (5, .int (iI v5)), (6, .int (iI v6_3))] → lq3 (f_WorstPaths_writeRow_b64 F P_end P_endChange P_trail C_elements C_parent C_length C_last x2) nf v5 v6_3 P_row_4 = some (r, z_P_row) → W p l e (headSpec w_WorstPaths_writeRow rm_WorstPaths_writeRow).room s m args below meth c H locs 0 0 Q (F0 m 64 ls []) := by
      intro n64
      induction n64 with
      | zero => intro v5 v6_3 P_row_4 H locs ls hP hD hS hl h; exact no_some h
      | succ n64 ih64 =>
        intro v5 v6_3 P_row_4 H locs ls hP hD hS hl h
        replace h : f_WorstPaths_writeRow_b64 F P_end P_endChange P_trail C_elements C_parent C_length C_last x2 (lq3 (f_WorstPaths_writeRow_b64 F P_end P_endChange P_trail C_elements C_parent C_length C_last x2) n64) v5 v6_3 P_row_4 = some (r, z_P_row) := h
        obtain ⟨self64, hs64⟩ : ∃ z, z = lq3 (f_WorstPaths_writeRow_b64 F P_end P_endChange P_trail C_elements C_parent C_length C_last x2) n64 := ⟨_, rfl⟩
        rw [← hs64] at h ih64
        rw [f_WorstPaths_writeRow_b64] at h
        refine lv_iload hx hb d_WorstPaths_writeRow_64 (lv_at hl 3 rfl) ?_
        obtain ⟨hg0, h⟩ := gr_e h
        refine zi_lt hx hb d_WorstPaths_writeRow_66 rfl hg0 (fun hc => ?_) (fun hc => ?_)
        · replace h := if_t hc h
          refine lv_aload_n hx hb d_WorstPaths_writeRow_92 rfl (lv_at hl 0 rfl) ?_
          refine va_get (D := D) (ci := 8) (v := .ref (a 6)) (C := R_WorstPaths) (T := F_WorstPaths) (N := 12) hx hb hT in_WorstPaths hown hK hP 0 rfl rfl 7 (by decide) (hT _ m379) (fun _ h9 => h9) rfl d_WorstPaths_writeRow_93 ?_
          refine lv_iload hx hb d_WorstPaths_writeRow_96 (lv_at hl 2 rfl) ?_
          refine lv_aload_n hx hb d_WorstPaths_writeRow_98 rfl (lv_at hl 0 rfl) ?_
          refine va_get (D := D) (ci := 8) (v := .int (iI P_end)) (C := R_WorstPaths) (T := F_WorstPaths) (N := 12) hx hb hT in_WorstPaths hown hK hP 0 rfl rfl 9 (by decide) (hT _ m381) (fun _ h9 => h9) rfl d_WorstPaths_writeRow_99 ?_
          refine zv_iconst hx hb d_WorstPaths_writeRow_102 ?_
          refine lv_aload_n hx hb d_WorstPaths_writeRow_103 rfl (lv_at hl 0 rfl) ?_
          refine va_get (D := D) (ci := 8) (v := .int (iI P_endChange)) (C := R_WorstPaths) (T := F_WorstPaths) (N := 12) hx hb hT in_WorstPaths hown hK hP 0 rfl rfl 10 (by decide) (hT _ m382) (fun _ h9 => h9) rfl d_WorstPaths_writeRow_104 ?_
          obtain ⟨r107, hcall, h⟩ := ob1_e h
          refine ro_i (va_Run.run (va_runSN (As := [.int (iI P_end), .int (iI 0), .int (iI P_endChange)]) (rest := [.int (iI v5), .ref (a 6)]) ⟨hx, hb, hml, hown, hts⟩ (c_T_elementOf l D cI cJ cZ F a P_end 0 P_endChange r107 H.size hcall) ⟨va_cnB 3 hts (gd_in m535) rfl rfl rfl hN.2.2.2 (hT _ m1) hc_T_elementOf ⟨Nat.le_of_ble_eq_true rfl, Nat.le_of_ble_eq_true rfl⟩, hT _ m534, trivial⟩ (pc_S [.int (iI P_end), .int (iI 0), .int (iI P_endChange)] hP hK hD hN [] rfl rfl rfl) rfl rfl hl.1 rfl (lv_room (Nat.le_of_ble_eq_true rfl)) d_WorstPaths_writeRow_107 ⟨Nat.le_refl 0, Nat.le_refl 0⟩)) (W.eq (g2 := F0 m 110 ls [.int (iI r107), .int (iI v5), .ref (a 6)]) rfl ?_)
          obtain ⟨hin, h⟩ := gi_e h
          refine zv_iast hx hb hK hP hD hS 2 0 rfl rfl (Nat.le_of_ble_eq_true rfl) hin d_WorstPaths_writeRow_110 (fun H locs hP hD hS => ?_)
          obtain ⟨P_row_5, hv⟩ : ∃ z, z = (ui P_row_4 v5 r107) := ⟨_, rfl⟩
          replace h := bd_e hv h
          have hP : va_P D vwCl [(o_P a P_start P_end P_endChange P_isCollected), ((a 5), .inl (cI, 48, .inl (ia P_trail))), ((a 6), .inl (cI, 144, .inl (ia P_row_5))), (o_C a C_size), ((a 12), .inl (cI, 770, .inl (ia C_elements))), ((a 13), .inl (cI, 770, .inl (ia C_parent))), ((a 14), .inl (cI, 770, .inl (ia C_length))), ((a 20), .inl (cI, 384, .inl (ia C_last))), (o_N a N_period N_width N_size), ((a 44), .inl (cI, 48, .inl (ia N_kind)))] H := by rw [hv]; exact hP
          have hD : va_D A [(o_P a P_start P_end P_endChange P_isCollected), ((a 5), .inl (cI, 48, .inl (ia P_trail))), ((a 6), .inl (cI, 144, .inl (ia P_row_5))), (o_C a C_size), ((a 12), .inl (cI, 770, .inl (ia C_elements))), ((a 13), .inl (cI, 770, .inl (ia C_parent))), ((a 14), .inl (cI, 770, .inl (ia C_length))), ((a 20), .inl (cI, 384, .inl (ia C_last))), (o_N a N_period N_width N_size), ((a 44), .inl (cI, 48, .inl (ia N_kind)))] := by rw [hv]; exact hD
          refine lv_aload_n hx hb d_WorstPaths_writeRow_111 rfl (lv_at hl 0 rfl) ?_
          refine va_get (D := D) (ci := 8) (v := .ref (a 10)) (C := R_WorstPaths) (T := F_WorstPaths) (N := 12) hx hb hT in_WorstPaths hown hK hP 0 rfl rfl 1 (by decide) (hT _ m373) (fun _ h9 => h9) rfl d_WorstPaths_writeRow_112 ?_
          refine lv_aload_n hx hb d_WorstPaths_writeRow_115 rfl (lv_at hl 0 rfl) ?_
          refine va_get (D := D) (ci := 8) (v := .int (iI P_end)) (C := R_WorstPaths) (T := F_WorstPaths) (N := 12) hx hb hT in_WorstPaths hown hK hP 0 rfl rfl 9 (by decide) (hT _ m381) (fun _ h9 => h9) rfl d_WorstPaths_writeRow_116 ?_
          refine lv_iload_n hx hb d_WorstPaths_writeRow_119 rfl (lv_at hl 1 rfl) ?_
          refine lv_aload_n hx hb d_WorstPaths_writeRow_120 rfl (lv_at hl 0 rfl) ?_
          refine va_get (D := D) (ci := 8) (v := .ref (a 6)) (C := R_WorstPaths) (T := F_WorstPaths) (N := 12) hx hb hT in_WorstPaths hown hK hP 0 rfl rfl 7 (by decide) (hT _ m379) (fun _ h9 => h9) rfl d_WorstPaths_writeRow_121 ?_
          refine lv_iload hx hb d_WorstPaths_writeRow_124 (lv_at hl 2 rfl) ?_
          refine zv_iconst hx hb d_WorstPaths_writeRow_126 ?_
          refine zv_iadd hx hb d_WorstPaths_writeRow_127 ?_
          obtain ⟨r128, P_row_6, hcall, h⟩ := ob2_e h
          refine ca_i (w2 := [(o_P a P_start P_end P_endChange P_isCollected), ((a 5), .inl (cI, 48, .inl (ia P_trail))), ((a 6), .inl (cI, 144, .inl (ia P_row_6))), (o_C a C_size), ((a 12), .inl (cI, 770, .inl (ia C_elements))), ((a 13), .inl (cI, 770, .inl (ia C_parent))), ((a 14), .inl (cI, 770, .inl (ia C_length))), ((a 20), .inl (cI, 384, .inl (ia C_last))), (o_N a N_period N_width N_size), ((a 44), .inl (cI, 48, .inl (ia N_kind)))]) (va_runV (As := [.int (iI P_end), .int (iI x2), .ref (a 6), .int (iI (v5 + 1))]) (rest := []) ⟨hx, hb, hml, hown, hts⟩ (c_ClockWays_write l D cI cJ cZ F a (a 6) C_size C_elements C_parent C_length C_last P_row_5 P_end x2 (v5 + 1) r128 P_row_6 H.size hcall) (cwV 4 hts (gd_V m965 m962 m963 m964 m5) rfl rfl rfl ⟨rfl, hc_ClockWays_write⟩ ⟨Nat.le_of_ble_eq_true rfl, Nat.le_of_ble_eq_true rfl⟩) (pc_V 3 4 [.int (iI P_end), .int (iI x2), .ref (a 6), .int (iI (v5 + 1))] hP hK hD hN [3, 4, 5, 6, 7, 2] rfl rfl rfl rfl rfl) rfl rfl hl.1 rfl (lv_room (Nat.le_of_ble_eq_true rfl)) d_WorstPaths_writeRow_128 ⟨Nat.le_refl 0, Nat.le_refl 0⟩) hP hD hS hA [3, 4, 5, 6, 7, 2] [0, 1, 8, 9] [0, 1, 9, 4, 5, 6, 7, 8, 2, 3] rfl rfl rfl (by decide) rfl rfl rfl (fun H locs hP hD hS => ?_)
          obtain ⟨e1, e2⟩ := so2 h
          rw [hQ, e1, e2]; rw [hAe] at hD hS; exact W.iret hx hb hr (fun t ht hW => ⟨⟨_, (), rfl, rfl, by rw [ht]; exact hP, va_K.moved hW.alike hK, hD⟩, hS.F ht⟩) hS.2.2 d_WorstPaths_writeRow_131
        · replace h := if_f hc h
          refine lv_aload_n hx hb d_WorstPaths_writeRow_69 rfl (lv_at hl 0 rfl) ?_
          refine va_get (D := D) (ci := 8) (v := .ref (a 6)) (C := R_WorstPaths) (T := F_WorstPaths) (N := 12) hx hb hT in_WorstPaths hown hK hP 0 rfl rfl 7 (by decide) (hT _ m379) (fun _ h9 => h9) rfl d_WorstPaths_writeRow_70 ?_
          refine lv_iload hx hb d_WorstPaths_writeRow_73 (lv_at hl 2 rfl) ?_
          refine lv_aload_n hx hb d_WorstPaths_writeRow_75 rfl (lv_at hl 0 rfl) ?_
          refine va_get (D := D) (ci := 8) (v := .ref (a 5)) (C := R_WorstPaths) (T := F_WorstPaths) (N := 12) hx hb hT in_WorstPaths hown hK hP 0 rfl rfl 6 (by decide) (hT _ m378) (fun _ h9 => h9) rfl d_WorstPaths_writeRow_76 ?_
          refine lv_iload hx hb d_WorstPaths_writeRow_79 (lv_at hl 3 rfl) ?_
          obtain ⟨hin, h⟩ := gi_e h
          refine zv_iald hx hb hK hP 1 0 rfl rfl (Nat.le_of_ble_eq_true rfl) hin d_WorstPaths_writeRow_81 ?_
          obtain ⟨hin, h⟩ := gi_e h
          refine zv_iast hx hb hK hP hD hS 2 0 rfl rfl (Nat.le_of_ble_eq_true rfl) hin d_WorstPaths_writeRow_82 (fun H locs hP hD hS => ?_)
          obtain ⟨P_row_7, hv⟩ : ∃ z, z = (ui P_row_4 v5 (P_trail v6_3)) := ⟨_, rfl⟩
          replace h := bd_e hv h
          have hP : va_P D vwCl [(o_P a P_start P_end P_endChange P_isCollected), ((a 5), .inl (cI, 48, .inl (ia P_trail))), ((a 6), .inl (cI, 144, .inl (ia P_row_7))), (o_C a C_size), ((a 12), .inl (cI, 770, .inl (ia C_elements))), ((a 13), .inl (cI, 770, .inl (ia C_parent))), ((a 14), .inl (cI, 770, .inl (ia C_length))), ((a 20), .inl (cI, 384, .inl (ia C_last))), (o_N a N_period N_width N_size), ((a 44), .inl (cI, 48, .inl (ia N_kind)))] H := by rw [hv]; exact hP
          have hD : va_D A [(o_P a P_start P_end P_endChange P_isCollected), ((a 5), .inl (cI, 48, .inl (ia P_trail))), ((a 6), .inl (cI, 144, .inl (ia P_row_7))), (o_C a C_size), ((a 12), .inl (cI, 770, .inl (ia C_elements))), ((a 13), .inl (cI, 770, .inl (ia C_parent))), ((a 14), .inl (cI, 770, .inl (ia C_length))), ((a 20), .inl (cI, 384, .inl (ia C_last))), (o_N a N_period N_width N_size), ((a 44), .inl (cI, 48, .inl (ia N_kind)))] := by rw [hv]; exact hD
          refine lv_iinc (v := iI (v5 + 1)) (k := 2) (lv' := [(5, .int (iI (v5 + 1))), (0, .ref (a 4)), (2, .int (iI x2)), (6, .int (iI v6_3))]) hx hb d_WorstPaths_writeRow_83 hl rfl (iI_add _ _) (by decide) rfl (fun ls hl => ?_)
          refine lv_iinc (v := iI (v6_3 + (-1))) (k := 3) (lv' := [(6, .int (iI (v6_3 + (-1)))), (5, .int (iI (v5 + 1))), (0, .ref (a 4)), (2, .int (iI x2))]) hx hb d_WorstPaths_writeRow_86 hl rfl (iI_add _ _) (by decide) rfl (fun ls hl => ?_)
          refine lv_goto hx hb d_WorstPaths_writeRow_89 rfl ?_
          exact ih64 (v5 + 1) (v6_3 + (-1)) P_row_7 H locs ls hP hD hS (lv_sub hl [2, 3, 1, 0] rfl) h
    exact hl64 F (r14 + 1) v6 P_row_2 H locs ls hP hD hS (lv_sub hl [2, 3, 1, 0] rfl) h
  obtain ⟨hg0, h⟩ := gr_e h
  refine zc_ne hx hb d_WorstPaths_writeRow_42 rfl hg0 (by decide) (fun hc => ?_) (fun hc => ?_)
  · replace h := if_f hc h
    refine zv_iconst hx hb d_WorstPaths_writeRow_49 ?_
    exact hj50 0 H locs ls hP hD hS (lv_sub hl [1, 3, 4, 5, 0] rfl) h
  · replace h := if_t hc h
    refine zv_iconst hx hb d_WorstPaths_writeRow_45 ?_
    refine lv_goto hx hb d_WorstPaths_writeRow_46 rfl ?_
    exact hj50 1 H locs ls hP hD hS (lv_sub hl [1, 3, 4, 5, 0] rfl) h
