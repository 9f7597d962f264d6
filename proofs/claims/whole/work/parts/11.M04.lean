abbrev rm_M_clearStart : Room := { frames := 0, cells := 0, slots := 0, locals := 0 }
set_option maxHeartbeats 4000000 in
set_option maxRecDepth 100000 in
theorem c_M_clearStart (l : Launch) (D : va_G) (cI cJ cZ : ClassId) (F : Nat) (a : Nat → Nat) (M_thrown : Int) (M_period : Int) (M_width : Int) (M_nodes : Int) (M_analysed : Int) (M_gates : Int) (M_startNode : Int) (M_startChange : Int) (M_startWay : Int) (M_startBase : Int) (M_startEarly : Int) (M_startLate : Int) (M_worstWith : Int) (M_worstWithout : Int) (M_all : Int64) (M_rowSize : Int) (M_there : Int → Int) (M_early : Int → Int) (M_late : Int → Int) (z_M_there : Int → Int) (z_M_early : Int → Int) (z_M_late : Int → Int) (sz : Nat) (h : f_M_clearStart F M_startNode M_startChange M_startEarly M_startLate M_there M_early M_late = some (z_M_there, z_M_early, z_M_late)) : Met l y_M_clearStart w_M_clearStart rm_M_clearStart (PC D [(cI, .int), (cJ, .long), (cZ, .boolean)] [.ref (a 0)] ([(o_M a M_thrown M_period M_width M_nodes M_analysed M_gates M_startNode M_startChange M_startWay M_startBase M_startEarly M_startLate M_worstWith M_worstWithout M_all M_rowSize), ((a 21), .inl (cZ, 96, .inl (ia M_there))), ((a 22), .inl (cI, 96, .inl (ia M_early))), ((a 23), .inl (cI, 96, .inl (ia M_late)))]) sz) (QV D [(cI, .int), (cJ, .long), (cZ, .boolean)] ([(o_M a M_thrown M_period M_width M_nodes M_analysed M_gates M_startNode M_startChange M_startWay M_startBase M_startEarly M_startLate M_worstWith M_worstWithout M_all M_rowSize), ((a 21), .inl (cZ, 96, .inl (ia M_there))), ((a 22), .inl (cI, 96, .inl (ia M_early))), ((a 23), .inl (cI, 96, .inl (ia M_late)))]) sz ([(o_M a M_thrown M_period M_width M_nodes M_analysed M_gates M_startNode M_startChange M_startWay M_startBase M_startEarly M_startLate M_worstWith M_worstWithout M_all M_rowSize), ((a 21), .inl (cZ, 96, .inl (ia z_M_there))), ((a 22), .inl (cI, 96, .inl (ia z_M_early))), ((a 23), .inl (cI, 96, .inl (ia z_M_late)))])) 0 0 (va_A ([(o_M a M_thrown M_period M_width M_nodes M_analysed M_gates M_startNode M_startChange M_startWay M_startBase M_startEarly M_startLate M_worstWith M_worstWithout M_all M_rowSize), ((a 21), .inl (cZ, 96, .inl (ia M_there))), ((a 22), .inl (cI, 96, .inl (ia M_early))), ((a 23), .inl (cI, 96, .inl (ia M_late)))]) sz) := by
  refine Met.ofW (cc := prog_12_method_25_code) (maxL := 2) (ret := (Option.none : Option Jvm.ClassFile.FieldType)) (by decide) rfl ?_
  intro p e s m args below meth c s₁ B hml hv
  obtain ⟨rfl, hsz, hP, hK, hD0, hN⟩ := hv
  have hx := B.exec
  have hb := B.bytes
  have hr := B.returns
  have hts := atoms_spec (ws := w_M_clearStart) B.pre
  have hown : s.vm.findClass R_M = some m.cls := findClass_of_methodNamed B.named
  have hlocks := B.notSynchronized
  subst hsz
  have hD := hD0.self (sz := s.heap.size)
  obtain ⟨A, hAe⟩ : ∃ A, A = va_A ([(o_M a M_thrown M_period M_width M_nodes M_analysed M_gates M_startNode M_startChange M_startWay M_startBase M_startEarly M_startLate M_worstWith M_worstWithout M_all M_rowSize), ((a 21), .inl (cZ, 96, .inl (ia M_there))), ((a 22), .inl (cI, 96, .inl (ia M_early))), ((a 23), .inl (cI, 96, .inl (ia M_late)))]) s.heap.size := ⟨_, rfl⟩
  rw [← hAe] at hD
  have hA : ∀ q : Nat, s.heap.size ≤ q → A q := fun q h => by rw [hAe]; exact Or.inr h
  have hS : va_S A s.heap s.heap [] := va_S.rf
  have hl := lv_entry ([.ref (a 0)]) (n := 2) (Nat.le_of_ble_eq_true rfl)
  rw [lg_entry_eq]
  generalize (lg_sl ([.ref (a 0)]) ++ List.replicate (2 - (lg_sl ([.ref (a 0)])).length) Slot.unset).toArray = ls at hl ⊢
  have hl : lv_has ls 2 [(0, .ref (a 0))] := hl
  generalize (List.toArray ([.ref (a 0)] : List Value)) = args at hts ⊢
  have hT : ∀ w ∈ Tg, w.before args s = true := fun w h => hts w (List.mem_cons_of_mem _ h)
  obtain ⟨Q, hQ⟩ : ∃ Q, Q = MQ below (QV D [(cI, .int), (cJ, .long), (cZ, .boolean)] ([(o_M a M_thrown M_period M_width M_nodes M_analysed M_gates M_startNode M_startChange M_startWay M_startBase M_startEarly M_startLate M_worstWith M_worstWithout M_all M_rowSize), ((a 21), .inl (cZ, 96, .inl (ia M_there))), ((a 22), .inl (cI, 96, .inl (ia M_early))), ((a 23), .inl (cI, 96, .inl (ia M_late)))]) s.heap.size ([(o_M a M_thrown M_period M_width M_nodes M_analysed M_gates M_startNode M_startChange M_startWay M_startBase M_startEarly M_startLate M_worstWith M_worstWithout M_all M_rowSize), ((a 21), .inl (cZ, 96, .inl (ia z_M_there))), ((a 22), .inl (cI, 96, .inl (ia z_M_early))), ((a 23), .inl (cI, 96, .inl (ia z_M_late)))])) args s 0 0 (va_A ([(o_M a M_thrown M_period M_width M_nodes M_analysed M_gates M_startNode M_startChange M_startWay M_startBase M_startEarly M_startLate M_worstWith M_worstWithout M_all M_rowSize), ((a 21), .inl (cZ, 96, .inl (ia M_there))), ((a 22), .inl (cI, 96, .inl (ia M_early))), ((a 23), .inl (cI, 96, .inl (ia M_late)))]) s.heap.size) := ⟨_, rfl⟩
  rw [← hQ]
  suffices hW : ∀ (H : Heap) (locs : List Loc), va_P D vwCl ([(o_M a M_thrown M_period M_width M_nodes M_analysed M_gates M_startNode M_startChange M_startWay M_startBase M_startEarly M_startLate M_worstWith M_worstWithout M_all M_rowSize), ((a 21), .inl (cZ, 96, .inl (ia M_there))), ((a 22), .inl (cI, 96, .inl (ia M_early))), ((a 23), .inl (cI, 96, .inl (ia M_late)))]) H → va_D A ([(o_M a M_thrown M_period M_width M_nodes M_analysed M_gates M_startNode M_startChange M_startWay M_startBase M_startEarly M_startLate M_worstWith M_worstWithout M_all M_rowSize), ((a 21), .inl (cZ, 96, .inl (ia M_there))), ((a 22), .inl (cI, 96, .inl (ia M_early))), ((a 23), .inl (cI, 96, .inl (ia M_late)))]) → va_S A s.heap H locs → W p l e (headSpec w_M_clearStart rm_M_clearStart).room s m args below meth c H locs 0 0 Q (F0 m 0 ls []) from hW s.heap [] hP hD hS
  clear hP hD hS
  intro H locs hP hD hS
  rw [f_M_clearStart] at h
  refine zv_iconst hx hb d_M_clearStart_0 ?_
  refine lv_istore_n (lv' := [(1, .int (iI 0)), (0, .ref (a 0))]) hx hb d_M_clearStart_1 rfl hl (by decide) rfl (fun ls hl => ?_)
  have hl2 : ∀ (nf : Nat) (v1 : Int) (M_there_1 : Int → Int) (H : Heap) (locs : List Loc) (ls : Array Slot), va_P D vwCl [(o_M a M_thrown M_period M_width M_nodes M_analysed M_gates M_startNode M_startChange M_startWay M_startBase M_startEarly M_startLate M_worstWith M_worstWithout M_all M_rowSize), ((a 21), .inl (cZ, 96, .inl (ia M_there_1))), ((a 22), .inl (cI, 96, .inl (ia M_early))), ((a 23), .inl (cI, 96, .inl (ia M_late)))] H → va_D A [(o_M a M_thrown M_period M_width M_nodes M_analysed M_gates M_startNode M_startChange M_startWay M_startBase M_startEarly M_startLate M_worstWith M_worstWithout M_all M_rowSize), ((a 21), .inl (cZ, 96, .inl (ia M_there_1))), ((a 22), .inl (cI, 96, .inl (ia M_early))), ((a 23), .inl (cI, 96, .inl (ia M_late)))] → va_S A s.heap H locs → lv_has ls 2 [(0, .ref (a 0)), (1, .int (iI v1))] → lq2 (f_M_clearStart_b2 F M_startNode M_startChange M_startEarly M_startLate M_early M_late) nf v1 M_there_1 = some (z_M_there, z_M_early, z_M_late) → W p l e (headSpec w_M_clearStart rm_M_clearStart).room s m args below meth c H locs 0 0 Q (F0 m 2 ls []) := by
    intro n2
    induction n2 with
    | zero => intro v1 M_there_1 H locs ls hP hD hS hl h; exact no_some h
    | succ n2 ih2 =>
      intro v1 M_there_1 H locs ls hP hD hS hl h
      replace h : f_M_clearStart_b2 F M_startNode M_startChange M_startEarly M_startLate M_early M_late (lq2 (f_M_clearStart_b2 F M_startNode M_startChange M_startEarly M_startLate M_early M_late) n2) v1 M_there_1 = some (z_M_there, z_M_early, z_M_late) := h
      obtain ⟨self2, hs2⟩ : ∃ z, z = lq2 (f_M_clearStart_b2 F M_startNode M_startChange M_startEarly M_startLate M_early M_late) n2 := ⟨_, rfl⟩
      rw [← hs2] at h ih2
      rw [f_M_clearStart_b2] at h
      refine lv_iload_n hx hb d_M_clearStart_2 rfl (lv_at hl 1 rfl) ?_
      refine lv_bipush (v := iI 96) hx hb d_M_clearStart_3 (by decide) ?_
      obtain ⟨hg0, h⟩ := gr_e h
      refine zc_ge hx hb d_M_clearStart_5 rfl hg0 (by decide) (fun hc => ?_) (fun hc => ?_)
      · replace h := if_t hc h
        refine lv_aload_n hx hb d_M_clearStart_21 rfl (lv_at hl 0 rfl) ?_
        refine va_get (D := D) (ci := 10) (v := .ref (a 21)) (C := R_M) (T := F_M) (N := 53) hx hb hT in_M hown hK hP 0 rfl rfl 26 (by decide) (hT _ m1047) (fun _ h9 => h9) rfl d_M_clearStart_22 ?_
        refine zv_iconst hx hb d_M_clearStart_25 ?_
        refine lv_aload_n hx hb d_M_clearStart_26 rfl (lv_at hl 0 rfl) ?_
        refine va_get (D := D) (ci := 10) (v := .int (iI M_startNode)) (C := R_M) (T := F_M) (N := 53) hx hb hT in_M hown hK hP 0 rfl rfl 29 (by decide) (hT _ m1050) (fun _ h9 => h9) rfl d_M_clearStart_27 ?_
        refine zv_imul hx hb d_M_clearStart_30 ?_
        refine lv_aload_n hx hb d_M_clearStart_31 rfl (lv_at hl 0 rfl) ?_
        refine va_get (D := D) (ci := 10) (v := .int (iI M_startChange)) (C := R_M) (T := F_M) (N := 53) hx hb hT in_M hown hK hP 0 rfl rfl 30 (by decide) (hT _ m1051) (fun _ h9 => h9) rfl d_M_clearStart_32 ?_
        refine zv_iadd hx hb d_M_clearStart_35 ?_
        refine zv_iconst hx hb d_M_clearStart_36 ?_
        obtain ⟨hin, h⟩ := gi_e h
        refine zv_zast hx hb hK hP hD hS 1 2 rfl rfl (Nat.le_of_ble_eq_true rfl) hin (Or.inr rfl) d_M_clearStart_37 (fun H locs hP hD hS => ?_)
        obtain ⟨M_there_2, hv⟩ : ∃ z, z = (ui M_there_1 ((2 * M_startNode) + M_startChange) 1) := ⟨_, rfl⟩
        replace h := bd_e hv h
        have hP : va_P D vwCl [(o_M a M_thrown M_period M_width M_nodes M_analysed M_gates M_startNode M_startChange M_startWay M_startBase M_startEarly M_startLate M_worstWith M_worstWithout M_all M_rowSize), ((a 21), .inl (cZ, 96, .inl (ia M_there_2))), ((a 22), .inl (cI, 96, .inl (ia M_early))), ((a 23), .inl (cI, 96, .inl (ia M_late)))] H := by rw [hv]; exact hP
        have hD : va_D A [(o_M a M_thrown M_period M_width M_nodes M_analysed M_gates M_startNode M_startChange M_startWay M_startBase M_startEarly M_startLate M_worstWith M_worstWithout M_all M_rowSize), ((a 21), .inl (cZ, 96, .inl (ia M_there_2))), ((a 22), .inl (cI, 96, .inl (ia M_early))), ((a 23), .inl (cI, 96, .inl (ia M_late)))] := by rw [hv]; exact hD
        refine lv_aload_n hx hb d_M_clearStart_38 rfl (lv_at hl 0 rfl) ?_
        refine va_get (D := D) (ci := 10) (v := .ref (a 22)) (C := R_M) (T := F_M) (N := 53) hx hb hT in_M hown hK hP 0 rfl rfl 27 (by decide) (hT _ m1048) (fun _ h9 => h9) rfl d_M_clearStart_39 ?_
        refine zv_iconst hx hb d_M_clearStart_42 ?_
        refine lv_aload_n hx hb d_M_clearStart_43 rfl (lv_at hl 0 rfl) ?_
        refine va_get (D := D) (ci := 10) (v := .int (iI M_startNode)) (C := R_M) (T := F_M) (N := 53) hx hb hT in_M hown hK hP 0 rfl rfl 29 (by decide) (hT _ m1050) (fun _ h9 => h9) rfl d_M_clearStart_44 ?_
        refine zv_imul hx hb d_M_clearStart_47 ?_
        refine lv_aload_n hx hb d_M_clearStart_48 rfl (lv_at hl 0 rfl) ?_
        refine va_get (D := D) (ci := 10) (v := .int (iI M_startChange)) (C := R_M) (T := F_M) (N := 53) hx hb hT in_M hown hK hP 0 rfl rfl 30 (by decide) (hT _ m1051) (fun _ h9 => h9) rfl d_M_clearStart_49 ?_
        refine zv_iadd hx hb d_M_clearStart_52 ?_
        refine lv_aload_n hx hb d_M_clearStart_53 rfl (lv_at hl 0 rfl) ?_
        refine va_get (D := D) (ci := 10) (v := .int (iI M_startEarly)) (C := R_M) (T := F_M) (N := 53) hx hb hT in_M hown hK hP 0 rfl rfl 33 (by decide) (hT _ m1054) (fun _ h9 => h9) rfl d_M_clearStart_54 ?_
        obtain ⟨hin, h⟩ := gi_e h
        refine zv_iast hx hb hK hP hD hS 2 0 rfl rfl (Nat.le_of_ble_eq_true rfl) hin d_M_clearStart_57 (fun H locs hP hD hS => ?_)
        obtain ⟨M_early_3, hv⟩ : ∃ z, z = (ui M_early ((2 * M_startNode) + M_startChange) M_startEarly) := ⟨_, rfl⟩
        replace h := bd_e hv h
        have hP : va_P D vwCl [(o_M a M_thrown M_period M_width M_nodes M_analysed M_gates M_startNode M_startChange M_startWay M_startBase M_startEarly M_startLate M_worstWith M_worstWithout M_all M_rowSize), ((a 21), .inl (cZ, 96, .inl (ia M_there_2))), ((a 22), .inl (cI, 96, .inl (ia M_early_3))), ((a 23), .inl (cI, 96, .inl (ia M_late)))] H := by rw [hv]; exact hP
        have hD : va_D A [(o_M a M_thrown M_period M_width M_nodes M_analysed M_gates M_startNode M_startChange M_startWay M_startBase M_startEarly M_startLate M_worstWith M_worstWithout M_all M_rowSize), ((a 21), .inl (cZ, 96, .inl (ia M_there_2))), ((a 22), .inl (cI, 96, .inl (ia M_early_3))), ((a 23), .inl (cI, 96, .inl (ia M_late)))] := by rw [hv]; exact hD
        refine lv_aload_n hx hb d_M_clearStart_58 rfl (lv_at hl 0 rfl) ?_
        refine va_get (D := D) (ci := 10) (v := .ref (a 23)) (C := R_M) (T := F_M) (N := 53) hx hb hT in_M hown hK hP 0 rfl rfl 28 (by decide) (hT _ m1049) (fun _ h9 => h9) rfl d_M_clearStart_59 ?_
        refine zv_iconst hx hb d_M_clearStart_62 ?_
        refine lv_aload_n hx hb d_M_clearStart_63 rfl (lv_at hl 0 rfl) ?_
        refine va_get (D := D) (ci := 10) (v := .int (iI M_startNode)) (C := R_M) (T := F_M) (N := 53) hx hb hT in_M hown hK hP 0 rfl rfl 29 (by decide) (hT _ m1050) (fun _ h9 => h9) rfl d_M_clearStart_64 ?_
        refine zv_imul hx hb d_M_clearStart_67 ?_
        refine lv_aload_n hx hb d_M_clearStart_68 rfl (lv_at hl 0 rfl) ?_
        refine va_get (D := D) (ci := 10) (v := .int (iI M_startChange)) (C := R_M) (T := F_M) (N := 53) hx hb hT in_M hown hK hP 0 rfl rfl 30 (by decide) (hT _ m1051) (fun _ h9 => h9) rfl d_M_clearStart_69 ?_
        refine zv_iadd hx hb d_M_clearStart_72 ?_
        refine lv_aload_n hx hb d_M_clearStart_73 rfl (lv_at hl 0 rfl) ?_
        refine va_get (D := D) (ci := 10) (v := .int (iI M_startLate)) (C := R_M) (T := F_M) (N := 53) hx hb hT in_M hown hK hP 0 rfl rfl 34 (by decide) (hT _ m1055) (fun _ h9 => h9) rfl d_M_clearStart_74 ?_
        obtain ⟨hin, h⟩ := gi_e h
        refine zv_iast hx hb hK hP hD hS 3 0 rfl rfl (Nat.le_of_ble_eq_true rfl) hin d_M_clearStart_77 (fun H locs hP hD hS => ?_)
        obtain ⟨M_late_4, hv⟩ : ∃ z, z = (ui M_late ((2 * M_startNode) + M_startChange) M_startLate) := ⟨_, rfl⟩
        replace h := bd_e hv h
        have hP : va_P D vwCl [(o_M a M_thrown M_period M_width M_nodes M_analysed M_gates M_startNode M_startChange M_startWay M_startBase M_startEarly M_startLate M_worstWith M_worstWithout M_all M_rowSize), ((a 21), .inl (cZ, 96, .inl (ia M_there_2))), ((a 22), .inl (cI, 96, .inl (ia M_early_3))), ((a 23), .inl (cI, 96, .inl (ia M_late_4)))] H := by rw [hv]; exact hP
        have hD : va_D A [(o_M a M_thrown M_period M_width M_nodes M_analysed M_gates M_startNode M_startChange M_startWay M_startBase M_startEarly M_startLate M_worstWith M_worstWithout M_all M_rowSize), ((a 21), .inl (cZ, 96, .inl (ia M_there_2))), ((a 22), .inl (cI, 96, .inl (ia M_early_3))), ((a 23), .inl (cI, 96, .inl (ia M_late_4)))] := by rw [hv]; exact hD
        obtain ⟨e1, e2, e3⟩ := so3 h
        rw [hQ, e1, e2, e3]; rw [hAe] at hD hS; exact W.vret hx hb hr (fun t ht hW => ⟨⟨(), rfl, trivial, by rw [ht]; exact hP, va_K.moved hW.alike hK, hD⟩, hS.F ht⟩) hS.2.2 d_M_clearStart_78
      · replace h := if_f hc h
        refine lv_aload_n hx hb d_M_clearStart_8 rfl (lv_at hl 0 rfl) ?_
        refine va_get (D := D) (ci := 10) (v := .ref (a 21)) (C := R_M) (T := F_M) (N := 53) hx hb hT in_M hown hK hP 0 rfl rfl 26 (by decide) (hT _ m1047) (fun _ h9 => h9) rfl d_M_clearStart_9 ?_
        refine lv_iload_n hx hb d_M_clearStart_12 rfl (lv_at hl 1 rfl) ?_
        refine zv_iconst hx hb d_M_clearStart_13 ?_
        obtain ⟨hin, h⟩ := gi_e h
        refine zv_zast hx hb hK hP hD hS 1 2 rfl rfl (Nat.le_of_ble_eq_true rfl) hin (Or.inl rfl) d_M_clearStart_14 (fun H locs hP hD hS => ?_)
        obtain ⟨M_there_5, hv⟩ : ∃ z, z = (ui M_there_1 v1 0) := ⟨_, rfl⟩
        replace h := bd_e hv h
        have hP : va_P D vwCl [(o_M a M_thrown M_period M_width M_nodes M_analysed M_gates M_startNode M_startChange M_startWay M_startBase M_startEarly M_startLate M_worstWith M_worstWithout M_all M_rowSize), ((a 21), .inl (cZ, 96, .inl (ia M_there_5))), ((a 22), .inl (cI, 96, .inl (ia M_early))), ((a 23), .inl (cI, 96, .inl (ia M_late)))] H := by rw [hv]; exact hP
        have hD : va_D A [(o_M a M_thrown M_period M_width M_nodes M_analysed M_gates M_startNode M_startChange M_startWay M_startBase M_startEarly M_startLate M_worstWith M_worstWithout M_all M_rowSize), ((a 21), .inl (cZ, 96, .inl (ia M_there_5))), ((a 22), .inl (cI, 96, .inl (ia M_early))), ((a 23), .inl (cI, 96, .inl (ia M_late)))] := by rw [hv]; exact hD
        refine lv_iinc (v := iI (v1 + 1)) (k := 1) (lv' := [(1, .int (iI (v1 + 1))), (0, .ref (a 0))]) hx hb d_M_clearStart_15 hl rfl (iI_add _ _) (by decide) rfl (fun ls hl => ?_)
        refine lv_goto hx hb d_M_clearStart_18 rfl ?_
        exact ih2 (v1 + 1) M_there_5 H locs ls hP hD hS (lv_sub hl [1, 0] rfl) h
  exact hl2 F 0 M_there H locs ls hP hD hS (lv_sub hl [1, 0] rfl) h
abbrev rm_M_reach : Room := { frames := 0, cells := 0, slots := 0, locals := 0 }
set_option maxHeartbeats 4000000 in
set_option maxRecDepth 100000 in
theorem c_M_reach (l : Launch) (D : va_G) (cI cJ cZ : ClassId) (F : Nat) (a : Nat → Nat) (M_thrown : Int) (M_period : Int) (M_width : Int) (M_nodes : Int) (M_analysed : Int) (M_gates : Int) (M_startNode : Int) (M_startChange : Int) (M_startWay : Int) (M_startBase : Int) (M_startEarly : Int) (M_startLate : Int) (M_worstWith : Int) (M_worstWithout : Int) (M_all : Int64) (M_rowSize : Int) (M_there : Int → Int) (M_early : Int → Int) (M_late : Int → Int) (x1 : Int) (x2 : Int) (x3 : Int) (z_M_there : Int → Int) (z_M_early : Int → Int) (z_M_late : Int → Int) (sz : Nat) (h : f_M_reach F M_there M_early M_late x1 x2 x3 = some (z_M_there, z_M_early, z_M_late)) : Met l y_M_reach w_M_reach rm_M_reach (PC D [(cI, .int), (cJ, .long), (cZ, .boolean)] [.ref (a 0), .int (iI x1), .int (iI x2), .int (iI x3)] ([(o_M a M_thrown M_period M_width M_nodes M_analysed M_gates M_startNode M_startChange M_startWay M_startBase M_startEarly M_startLate M_worstWith M_worstWithout M_all M_rowSize), ((a 21), .inl (cZ, 96, .inl (ia M_there))), ((a 22), .inl (cI, 96, .inl (ia M_early))), ((a 23), .inl (cI, 96, .inl (ia M_late)))]) sz) (QV D [(cI, .int), (cJ, .long), (cZ, .boolean)] ([(o_M a M_thrown M_period M_width M_nodes M_analysed M_gates M_startNode M_startChange M_startWay M_startBase M_startEarly M_startLate M_worstWith M_worstWithout M_all M_rowSize), ((a 21), .inl (cZ, 96, .inl (ia M_there))), ((a 22), .inl (cI, 96, .inl (ia M_early))), ((a 23), .inl (cI, 96, .inl (ia M_late)))]) sz ([(o_M a M_thrown M_period M_width M_nodes M_analysed M_gates M_startNode M_startChange M_startWay M_startBase M_startEarly M_startLate M_worstWith M_worstWithout M_all M_rowSize), ((a 21), .inl (cZ, 96, .inl (ia z_M_there))), ((a 22), .inl (cI, 96, .inl (ia z_M_early))), ((a 23), .inl (cI, 96, .inl (ia z_M_late)))])) 0 0 (va_A ([(o_M a M_thrown M_period M_width M_nodes M_analysed M_gates M_startNode M_startChange M_startWay M_startBase M_startEarly M_startLate M_worstWith M_worstWithout M_all M_rowSize), ((a 21), .inl (cZ, 96, .inl (ia M_there))), ((a 22), .inl (cI, 96, .inl (ia M_early))), ((a 23), .inl (cI, 96, .inl (ia M_late)))]) sz) := by
  refine Met.ofW (cc := prog_12_method_26_code) (maxL := 4) (ret := (Option.none : Option Jvm.ClassFile.FieldType)) (by decide) rfl ?_
  intro p e s m args below meth c s₁ B hml hv
  obtain ⟨rfl, hsz, hP, hK, hD0, hN⟩ := hv
  have hx := B.exec
  have hb := B.bytes
  have hr := B.returns
  have hts := atoms_spec (ws := w_M_reach) B.pre
  have hown : s.vm.findClass R_M = some m.cls := findClass_of_methodNamed B.named
  have hlocks := B.notSynchronized
  subst hsz
  have hD := hD0.self (sz := s.heap.size)
  obtain ⟨A, hAe⟩ : ∃ A, A = va_A ([(o_M a M_thrown M_period M_width M_nodes M_analysed M_gates M_startNode M_startChange M_startWay M_startBase M_startEarly M_startLate M_worstWith M_worstWithout M_all M_rowSize), ((a 21), .inl (cZ, 96, .inl (ia M_there))), ((a 22), .inl (cI, 96, .inl (ia M_early))), ((a 23), .inl (cI, 96, .inl (ia M_late)))]) s.heap.size := ⟨_, rfl⟩
  rw [← hAe] at hD
  have hA : ∀ q : Nat, s.heap.size ≤ q → A q := fun q h => by rw [hAe]; exact Or.inr h
  have hS : va_S A s.heap s.heap [] := va_S.rf
  have hl := lv_entry ([.ref (a 0), .int (iI x1), .int (iI x2), .int (iI x3)]) (n := 4) (Nat.le_of_ble_eq_true rfl)
  rw [lg_entry_eq]
  generalize (lg_sl ([.ref (a 0), .int (iI x1), .int (iI x2), .int (iI x3)]) ++ List.replicate (4 - (lg_sl ([.ref (a 0), .int (iI x1), .int (iI x2), .int (iI x3)])).length) Slot.unset).toArray = ls at hl ⊢
  have hl : lv_has ls 4 [(0, .ref (a 0)), (1, .int (iI x1)), (2, .int (iI x2)), (3, .int (iI x3))] := hl
  generalize (List.toArray ([.ref (a 0), .int (iI x1), .int (iI x2), .int (iI x3)] : List Value)) = args at hts ⊢
  have hT : ∀ w ∈ Tg, w.before args s = true := fun w h => hts w (List.mem_cons_of_mem _ h)
  obtain ⟨Q, hQ⟩ : ∃ Q, Q = MQ below (QV D [(cI, .int), (cJ, .long), (cZ, .boolean)] ([(o_M a M_thrown M_period M_width M_nodes M_analysed M_gates M_startNode M_startChange M_startWay M_startBase M_startEarly M_startLate M_worstWith M_worstWithout M_all M_rowSize), ((a 21), .inl (cZ, 96, .inl (ia M_there))), ((a 22), .inl (cI, 96, .inl (ia M_early))), ((a 23), .inl (cI, 96, .inl (ia M_late)))]) s.heap.size ([(o_M a M_thrown M_period M_width M_nodes M_analysed M_gates M_startNode M_startChange M_startWay M_startBase M_startEarly M_startLate M_worstWith M_worstWithout M_all M_rowSize), ((a 21), .inl (cZ, 96, .inl (ia z_M_there))), ((a 22), .inl (cI, 96, .inl (ia z_M_early))), ((a 23), .inl (cI, 96, .inl (ia z_M_late)))])) args s 0 0 (va_A ([(o_M a M_thrown M_period M_width M_nodes M_analysed M_gates M_startNode M_startChange M_startWay M_startBase M_startEarly M_startLate M_worstWith M_worstWithout M_all M_rowSize), ((a 21), .inl (cZ, 96, .inl (ia M_there))), ((a 22), .inl (cI, 96, .inl (ia M_early))), ((a 23), .inl (cI, 96, .inl (ia M_late)))]) s.heap.size) := ⟨_, rfl⟩
  rw [← hQ]
  suffices hW : ∀ (H : Heap) (locs : List Loc), va_P D vwCl ([(o_M a M_thrown M_period M_width M_nodes M_analysed M_gates M_startNode M_startChange M_startWay M_startBase M_startEarly M_startLate M_worstWith M_worstWithout M_all M_rowSize), ((a 21), .inl (cZ, 96, .inl (ia M_there))), ((a 22), .inl (cI, 96, .inl (ia M_early))), ((a 23), .inl (cI, 96, .inl (ia M_late)))]) H → va_D A ([(o_M a M_thrown M_period M_width M_nodes M_analysed M_gates M_startNode M_startChange M_startWay M_startBase M_startEarly M_startLate M_worstWith M_worstWithout M_all M_rowSize), ((a 21), .inl (cZ, 96, .inl (ia M_there))), ((a 22), .inl (cI, 96, .inl (ia M_early))), ((a 23), .inl (cI, 96, .inl (ia M_late)))]) → va_S A s.heap H locs → W p l e (headSpec w_M_reach rm_M_reach).room s m args below meth c H locs 0 0 Q (F0 m 0 ls []) from hW s.heap [] hP hD hS
  clear hP hD hS
  intro H locs hP hD hS
  rw [f_M_reach] at h
  refine lv_aload_n hx hb d_M_reach_0 rfl (lv_at hl 0 rfl) ?_
  refine va_get (D := D) (ci := 10) (v := .ref (a 22)) (C := R_M) (T := F_M) (N := 53) hx hb hT in_M hown hK hP 0 rfl rfl 27 (by decide) (hT _ m1048) (fun _ h9 => h9) rfl d_M_reach_1 ?_
  refine lv_iload_n hx hb d_M_reach_4 rfl (lv_at hl 1 rfl) ?_
  refine lv_aload_n hx hb d_M_reach_5 rfl (lv_at hl 0 rfl) ?_
  refine va_get (D := D) (ci := 10) (v := .ref (a 21)) (C := R_M) (T := F_M) (N := 53) hx hb hT in_M hown hK hP 0 rfl rfl 26 (by decide) (hT _ m1047) (fun _ h9 => h9) rfl d_M_reach_6 ?_
  refine lv_iload_n hx hb d_M_reach_9 rfl (lv_at hl 1 rfl) ?_
  obtain ⟨hin, h⟩ := gi_e h
  refine zv_zald hx hb hK hP 1 2 rfl rfl (Nat.le_of_ble_eq_true rfl) hin d_M_reach_10 ?_
  have hj34 : ∀ (q2 : Int) (H : Heap) (locs : List Loc) (ls : Array Slot), va_P D vwCl [(o_M a M_thrown M_period M_width M_nodes M_analysed M_gates M_startNode M_startChange M_startWay M_startBase M_startEarly M_startLate M_worstWith M_worstWithout M_all M_rowSize), ((a 21), .inl (cZ, 96, .inl (ia M_there))), ((a 22), .inl (cI, 96, .inl (ia M_early))), ((a 23), .inl (cI, 96, .inl (ia M_late)))] H → va_D A [(o_M a M_thrown M_period M_width M_nodes M_analysed M_gates M_startNode M_startChange M_startWay M_startBase M_startEarly M_startLate M_worstWith M_worstWithout M_all M_rowSize), ((a 21), .inl (cZ, 96, .inl (ia M_there))), ((a 22), .inl (cI, 96, .inl (ia M_early))), ((a 23), .inl (cI, 96, .inl (ia M_late)))] → va_S A s.heap H locs → lv_has ls 4 [(0, .ref (a 0)), (1, .int (iI x1)), (3, .int (iI x3))] → f_M_reach_j34 F M_there M_early M_late x1 x3 q2 = some (z_M_there, z_M_early, z_M_late) → W p l e (headSpec w_M_reach rm_M_reach).room s m args below meth c H locs 0 0 Q (F0 m 34 ls [.int (iI q2), .int (iI x1), .ref (a 22)]) := by
    intro q2 H locs ls hP hD hS hl h
    rw [f_M_reach_j34] at h
    obtain ⟨hin, h⟩ := gi_e h
    refine zv_iast hx hb hK hP hD hS 2 0 rfl rfl (Nat.le_of_ble_eq_true rfl) hin d_M_reach_34 (fun H locs hP hD hS => ?_)
    obtain ⟨M_early_1, hv⟩ : ∃ z, z = (ui M_early x1 q2) := ⟨_, rfl⟩
    replace h := bd_e hv h
    have hP : va_P D vwCl [(o_M a M_thrown M_period M_width M_nodes M_analysed M_gates M_startNode M_startChange M_startWay M_startBase M_startEarly M_startLate M_worstWith M_worstWithout M_all M_rowSize), ((a 21), .inl (cZ, 96, .inl (ia M_there))), ((a 22), .inl (cI, 96, .inl (ia M_early_1))), ((a 23), .inl (cI, 96, .inl (ia M_late)))] H := by rw [hv]; exact hP
    have hD : va_D A [(o_M a M_thrown M_period M_width M_nodes M_analysed M_gates M_startNode M_startChange M_startWay M_startBase M_startEarly M_startLate M_worstWith M_worstWithout M_all M_rowSize), ((a 21), .inl (cZ, 96, .inl (ia M_there))), ((a 22), .inl (cI, 96, .inl (ia M_early_1))), ((a 23), .inl (cI, 96, .inl (ia M_late)))] := by rw [hv]; exact hD
    refine lv_aload_n hx hb d_M_reach_35 rfl (lv_at hl 0 rfl) ?_
    refine va_get (D := D) (ci := 10) (v := .ref (a 23)) (C := R_M) (T := F_M) (N := 53) hx hb hT in_M hown hK hP 0 rfl rfl 28 (by decide) (hT _ m1049) (fun _ h9 => h9) rfl d_M_reach_36 ?_
    refine lv_iload_n hx hb d_M_reach_39 rfl (lv_at hl 1 rfl) ?_
    refine lv_aload_n hx hb d_M_reach_40 rfl (lv_at hl 0 rfl) ?_
    refine va_get (D := D) (ci := 10) (v := .ref (a 21)) (C := R_M) (T := F_M) (N := 53) hx hb hT in_M hown hK hP 0 rfl rfl 26 (by decide) (hT _ m1047) (fun _ h9 => h9) rfl d_M_reach_41 ?_
    refine lv_iload_n hx hb d_M_reach_44 rfl (lv_at hl 1 rfl) ?_
    obtain ⟨hin, h⟩ := gi_e h
    refine zv_zald hx hb hK hP 1 2 rfl rfl (Nat.le_of_ble_eq_true rfl) hin d_M_reach_45 ?_
    have hj69 : ∀ (q2_2 : Int) (H : Heap) (locs : List Loc) (ls : Array Slot), va_P D vwCl [(o_M a M_thrown M_period M_width M_nodes M_analysed M_gates M_startNode M_startChange M_startWay M_startBase M_startEarly M_startLate M_worstWith M_worstWithout M_all M_rowSize), ((a 21), .inl (cZ, 96, .inl (ia M_there))), ((a 22), .inl (cI, 96, .inl (ia M_early_1))), ((a 23), .inl (cI, 96, .inl (ia M_late)))] H → va_D A [(o_M a M_thrown M_period M_width M_nodes M_analysed M_gates M_startNode M_startChange M_startWay M_startBase M_startEarly M_startLate M_worstWith M_worstWithout M_all M_rowSize), ((a 21), .inl (cZ, 96, .inl (ia M_there))), ((a 22), .inl (cI, 96, .inl (ia M_early_1))), ((a 23), .inl (cI, 96, .inl (ia M_late)))] → va_S A s.heap H locs → lv_has ls 4 [(0, .ref (a 0)), (1, .int (iI x1))] → f_M_reach_j69 F M_there M_late x1 M_early_1 q2_2 = some (z_M_there, z_M_early, z_M_late) → W p l e (headSpec w_M_reach rm_M_reach).room s m args below meth c H locs 0 0 Q (F0 m 69 ls [.int (iI q2_2), .int (iI x1), .ref (a 23)]) := by
      intro q2_2 H locs ls hP hD hS hl h
      rw [f_M_reach_j69] at h
      obtain ⟨hin, h⟩ := gi_e h
      refine zv_iast hx hb hK hP hD hS 3 0 rfl rfl (Nat.le_of_ble_eq_true rfl) hin d_M_reach_69 (fun H locs hP hD hS => ?_)
      obtain ⟨M_late_3, hv⟩ : ∃ z, z = (ui M_late x1 q2_2) := ⟨_, rfl⟩
      replace h := bd_e hv h
      have hP : va_P D vwCl [(o_M a M_thrown M_period M_width M_nodes M_analysed M_gates M_startNode M_startChange M_startWay M_startBase M_startEarly M_startLate M_worstWith M_worstWithout M_all M_rowSize), ((a 21), .inl (cZ, 96, .inl (ia M_there))), ((a 22), .inl (cI, 96, .inl (ia M_early_1))), ((a 23), .inl (cI, 96, .inl (ia M_late_3)))] H := by rw [hv]; exact hP
      have hD : va_D A [(o_M a M_thrown M_period M_width M_nodes M_analysed M_gates M_startNode M_startChange M_startWay M_startBase M_startEarly M_startLate M_worstWith M_worstWithout M_all M_rowSize), ((a 21), .inl (cZ, 96, .inl (ia M_there))), ((a 22), .inl (cI, 96, .inl (ia M_early_1))), ((a 23), .inl (cI, 96, .inl (ia M_late_3)))] := by rw [hv]; exact hD
      refine lv_aload_n hx hb d_M_reach_70 rfl (lv_at hl 0 rfl) ?_
      refine va_get (D := D) (ci := 10) (v := .ref (a 21)) (C := R_M) (T := F_M) (N := 53) hx hb hT in_M hown hK hP 0 rfl rfl 26 (by decide) (hT _ m1047) (fun _ h9 => h9) rfl d_M_reach_71 ?_
      refine lv_iload_n hx hb d_M_reach_74 rfl (lv_at hl 1 rfl) ?_
      refine zv_iconst hx hb d_M_reach_75 ?_
      obtain ⟨hin, h⟩ := gi_e h
      refine zv_zast hx hb hK hP hD hS 1 2 rfl rfl (Nat.le_of_ble_eq_true rfl) hin (Or.inr rfl) d_M_reach_76 (fun H locs hP hD hS => ?_)
      obtain ⟨M_there_4, hv⟩ : ∃ z, z = (ui M_there x1 1) := ⟨_, rfl⟩
      replace h := bd_e hv h
      have hP : va_P D vwCl [(o_M a M_thrown M_period M_width M_nodes M_analysed M_gates M_startNode M_startChange M_startWay M_startBase M_startEarly M_startLate M_worstWith M_worstWithout M_all M_rowSize), ((a 21), .inl (cZ, 96, .inl (ia M_there_4))), ((a 22), .inl (cI, 96, .inl (ia M_early_1))), ((a 23), .inl (cI, 96, .inl (ia M_late_3)))] H := by rw [hv]; exact hP
      have hD : va_D A [(o_M a M_thrown M_period M_width M_nodes M_analysed M_gates M_startNode M_startChange M_startWay M_startBase M_startEarly M_startLate M_worstWith M_worstWithout M_all M_rowSize), ((a 21), .inl (cZ, 96, .inl (ia M_there_4))), ((a 22), .inl (cI, 96, .inl (ia M_early_1))), ((a 23), .inl (cI, 96, .inl (ia M_late_3)))] := by rw [hv]; exact hD
      obtain ⟨e1, e2, e3⟩ := so3 h
      rw [hQ, e1, e2, e3]; rw [hAe] at hD hS; exact W.vret hx hb hr (fun t ht hW => ⟨⟨(), rfl, trivial, by rw [ht]; exact hP, va_K.moved hW.alike hK, hD⟩, hS.F ht⟩) hS.2.2 d_M_reach_77
    have hj68 : ∀  (H : Heap) (locs : List Loc) (ls : Array Slot), va_P D vwCl [(o_M a M_thrown M_period M_width M_nodes M_analysed M_gates M_startNode M_startChange M_startWay M_startBase M_startEarly M_startLate M_worstWith M_worstWithout M_all M_rowSize), ((a 21), .inl (cZ, 96, .inl (ia M_there))), ((a 22), .inl (cI, 96, .inl (ia M_early_1))), ((a 23), .inl (cI, 96, .inl (ia M_late)))] H → va_D A [(o_M a M_thrown M_period M_width M_nodes M_analysed M_gates M_startNode M_startChange M_startWay M_startBase M_startEarly M_startLate M_worstWith M_worstWithout M_all M_rowSize), ((a 21), .inl (cZ, 96, .inl (ia M_there))), ((a 22), .inl (cI, 96, .inl (ia M_early_1))), ((a 23), .inl (cI, 96, .inl (ia M_late)))] → va_S A s.heap H locs → lv_has ls 4 [(0, .ref (a 0)), (1, .int (iI x1)), (3, .int (iI x3))] → f_M_reach_j68 F M_there M_late x1 x3 M_early_1 = some (z_M_there, z_M_early, z_M_late) → W p l e (headSpec w_M_reach rm_M_reach).room s m args below meth c H locs 0 0 Q (F0 m 68 ls [.int (iI x1), .ref (a 23)]) := by
      intro  H locs ls hP hD hS hl h
      rw [f_M_reach_j68] at h
      refine lv_iload_n hx hb d_M_reach_68 rfl (lv_at hl 2 rfl) ?_
      exact hj69 x3 H locs ls hP hD hS (lv_sub hl [0, 1] rfl) h
    obtain ⟨hg0, h⟩ := gr_e h
    refine zi_eq hx hb d_M_reach_46 rfl hg0 (fun hc => ?_) (fun hc => ?_)
    · replace h := if_t hc h
      exact hj68  H locs ls hP hD hS (lv_sub hl [0, 1, 2] rfl) h
    · replace h := if_f hc h
      refine lv_aload_n hx hb d_M_reach_49 rfl (lv_at hl 0 rfl) ?_
      refine va_get (D := D) (ci := 10) (v := .ref (a 23)) (C := R_M) (T := F_M) (N := 53) hx hb hT in_M hown hK hP 0 rfl rfl 28 (by decide) (hT _ m1049) (fun _ h9 => h9) rfl d_M_reach_50 ?_
      refine lv_iload_n hx hb d_M_reach_53 rfl (lv_at hl 1 rfl) ?_
      obtain ⟨hin, h⟩ := gi_e h
      refine zv_iald hx hb hK hP 3 0 rfl rfl (Nat.le_of_ble_eq_true rfl) hin d_M_reach_54 ?_
      refine lv_iload_n hx hb d_M_reach_55 rfl (lv_at hl 2 rfl) ?_
      obtain ⟨hg0, h⟩ := gr_e h
      obtain ⟨hg1, h⟩ := gr_e h
      refine zc_le hx hb d_M_reach_56 rfl hg0 hg1 (fun hc => ?_) (fun hc => ?_)
      · replace h := if_t hc h
        exact hj68  H locs ls hP hD hS (lv_sub hl [0, 1, 2] rfl) h
      · replace h := if_f hc h
        refine lv_aload_n hx hb d_M_reach_59 rfl (lv_at hl 0 rfl) ?_
        refine va_get (D := D) (ci := 10) (v := .ref (a 23)) (C := R_M) (T := F_M) (N := 53) hx hb hT in_M hown hK hP 0 rfl rfl 28 (by decide) (hT _ m1049) (fun _ h9 => h9) rfl d_M_reach_60 ?_
        refine lv_iload_n hx hb d_M_reach_63 rfl (lv_at hl 1 rfl) ?_
        obtain ⟨hin, h⟩ := gi_e h
        refine zv_iald hx hb hK hP 3 0 rfl rfl (Nat.le_of_ble_eq_true rfl) hin d_M_reach_64 ?_
        refine lv_goto hx hb d_M_reach_65 rfl ?_
        exact hj69 (M_late x1) H locs ls hP hD hS (lv_sub hl [0, 1] rfl) h
  have hj33 : ∀  (H : Heap) (locs : List Loc) (ls : Array Slot), va_P D vwCl [(o_M a M_thrown M_period M_width M_nodes M_analysed M_gates M_startNode M_startChange M_startWay M_startBase M_startEarly M_startLate M_worstWith M_worstWithout M_all M_rowSize), ((a 21), .inl (cZ, 96, .inl (ia M_there))), ((a 22), .inl (cI, 96, .inl (ia M_early))), ((a 23), .inl (cI, 96, .inl (ia M_late)))] H → va_D A [(o_M a M_thrown M_period M_width M_nodes M_analysed M_gates M_startNode M_startChange M_startWay M_startBase M_startEarly M_startLate M_worstWith M_worstWithout M_all M_rowSize), ((a 21), .inl (cZ, 96, .inl (ia M_there))), ((a 22), .inl (cI, 96, .inl (ia M_early))), ((a 23), .inl (cI, 96, .inl (ia M_late)))] → va_S A s.heap H locs → lv_has ls 4 [(0, .ref (a 0)), (1, .int (iI x1)), (2, .int (iI x2)), (3, .int (iI x3))] → f_M_reach_j33 F M_there M_early M_late x1 x2 x3 = some (z_M_there, z_M_early, z_M_late) → W p l e (headSpec w_M_reach rm_M_reach).room s m args below meth c H locs 0 0 Q (F0 m 33 ls [.int (iI x1), .ref (a 22)]) := by
    intro  H locs ls hP hD hS hl h
    rw [f_M_reach_j33] at h
    refine lv_iload_n hx hb d_M_reach_33 rfl (lv_at hl 2 rfl) ?_
    exact hj34 x2 H locs ls hP hD hS (lv_sub hl [0, 1, 3] rfl) h
  obtain ⟨hg0, h⟩ := gr_e h
  refine zi_eq hx hb d_M_reach_11 rfl hg0 (fun hc => ?_) (fun hc => ?_)
  · replace h := if_t hc h
    exact hj33  H locs ls hP hD hS (lv_sub hl [0, 1, 2, 3] rfl) h
  · replace h := if_f hc h
    refine lv_aload_n hx hb d_M_reach_14 rfl (lv_at hl 0 rfl) ?_
    refine va_get (D := D) (ci := 10) (v := .ref (a 22)) (C := R_M) (T := F_M) (N := 53) hx hb hT in_M hown hK hP 0 rfl rfl 27 (by decide) (hT _ m1048) (fun _ h9 => h9) rfl d_M_reach_15 ?_
    refine lv_iload_n hx hb d_M_reach_18 rfl (lv_at hl 1 rfl) ?_
    obtain ⟨hin, h⟩ := gi_e h
    refine zv_iald hx hb hK hP 2 0 rfl rfl (Nat.le_of_ble_eq_true rfl) hin d_M_reach_19 ?_
    refine lv_iload_n hx hb d_M_reach_20 rfl (lv_at hl 2 rfl) ?_
    obtain ⟨hg0, h⟩ := gr_e h
    obtain ⟨hg1, h⟩ := gr_e h
    refine zc_ge hx hb d_M_reach_21 rfl hg0 hg1 (fun hc => ?_) (fun hc => ?_)
    · replace h := if_t hc h
      exact hj33  H locs ls hP hD hS (lv_sub hl [0, 1, 2, 3] rfl) h
    · replace h := if_f hc h
      refine lv_aload_n hx hb d_M_reach_24 rfl (lv_at hl 0 rfl) ?_
      refine va_get (D := D) (ci := 10) (v := .ref (a 22)) (C := R_M) (T := F_M) (N := 53) hx hb hT in_M hown hK hP 0 rfl rfl 27 (by decide) (hT _ m1048) (fun _ h9 => h9) rfl d_M_reach_25 ?_
      refine lv_iload_n hx hb d_M_reach_28 rfl (lv_at hl 1 rfl) ?_
      obtain ⟨hin, h⟩ := gi_e h
      refine zv_iald hx hb hK hP 2 0 rfl rfl (Nat.le_of_ble_eq_true rfl) hin d_M_reach_29 ?_
      refine lv_goto hx hb d_M_reach_30 rfl ?_
      exact hj34 (M_early x1) H locs ls hP hD hS (lv_sub hl [0, 1, 3] rfl) h
abbrev rm_M_lead : Room := { frames := 1, cells := 0, slots := 0, locals := 25 }
set_option maxHeartbeats 4000000 in
set_option maxRecDepth 100000 in
theorem c_M_lead (l : Launch) (D : va_G) (cI cJ cZ : ClassId) (F : Nat) (a : Nat → Nat) (M_thrown : Int) (M_period : Int) (M_width : Int) (M_nodes : Int) (M_analysed : Int) (M_gates : Int) (M_startNode : Int) (M_startChange : Int) (M_startWay : Int) (M_startBase : Int) (M_startEarly : Int) (M_startLate : Int) (M_worstWith : Int) (M_worstWithout : Int) (M_all : Int64) (M_rowSize : Int) (M_pins : Int → Int) (M_froms : Int → Int) (M_wireEarly : Int → Int) (M_wireLate : Int → Int) (M_senses : Int → Int) (M_delayEarly : Int → Int) (M_delayLate : Int → Int) (M_order : Int → Int) (M_there : Int → Int) (M_early : Int → Int) (M_late : Int → Int) (z_M_there : Int → Int) (z_M_early : Int → Int) (z_M_late : Int → Int) (sz : Nat) (h : f_M_lead F M_gates M_startNode M_startChange M_startEarly M_startLate M_pins M_froms M_wireEarly M_wireLate M_senses M_delayEarly M_delayLate M_order M_there M_early M_late = some (z_M_there, z_M_early, z_M_late)) : Met l y_M_lead w_M_lead rm_M_lead (PC D [(cI, .int), (cJ, .long), (cZ, .boolean)] [.ref (a 0)] ([(o_M a M_thrown M_period M_width M_nodes M_analysed M_gates M_startNode M_startChange M_startWay M_startBase M_startEarly M_startLate M_worstWith M_worstWithout M_all M_rowSize), ((a 2), .inl (cI, 48, .inl (ia M_pins))), ((a 3), .inl (cI, 144, .inl (ia M_froms))), ((a 4), .inl (cI, 144, .inl (ia M_wireEarly))), ((a 5), .inl (cI, 144, .inl (ia M_wireLate))), ((a 6), .inl (cI, 144, .inl (ia M_senses))), ((a 7), .inl (cI, 288, .inl (ia M_delayEarly))), ((a 8), .inl (cI, 288, .inl (ia M_delayLate))), ((a 11), .inl (cI, 48, .inl (ia M_order))), ((a 21), .inl (cZ, 96, .inl (ia M_there))), ((a 22), .inl (cI, 96, .inl (ia M_early))), ((a 23), .inl (cI, 96, .inl (ia M_late)))]) sz) (QV D [(cI, .int), (cJ, .long), (cZ, .boolean)] ([(o_M a M_thrown M_period M_width M_nodes M_analysed M_gates M_startNode M_startChange M_startWay M_startBase M_startEarly M_startLate M_worstWith M_worstWithout M_all M_rowSize), ((a 2), .inl (cI, 48, .inl (ia M_pins))), ((a 3), .inl (cI, 144, .inl (ia M_froms))), ((a 4), .inl (cI, 144, .inl (ia M_wireEarly))), ((a 5), .inl (cI, 144, .inl (ia M_wireLate))), ((a 6), .inl (cI, 144, .inl (ia M_senses))), ((a 7), .inl (cI, 288, .inl (ia M_delayEarly))), ((a 8), .inl (cI, 288, .inl (ia M_delayLate))), ((a 11), .inl (cI, 48, .inl (ia M_order))), ((a 21), .inl (cZ, 96, .inl (ia M_there))), ((a 22), .inl (cI, 96, .inl (ia M_early))), ((a 23), .inl (cI, 96, .inl (ia M_late)))]) sz ([(o_M a M_thrown M_period M_width M_nodes M_analysed M_gates M_startNode M_startChange M_startWay M_startBase M_startEarly M_startLate M_worstWith M_worstWithout M_all M_rowSize), ((a 2), .inl (cI, 48, .inl (ia M_pins))), ((a 3), .inl (cI, 144, .inl (ia M_froms))), ((a 4), .inl (cI, 144, .inl (ia M_wireEarly))), ((a 5), .inl (cI, 144, .inl (ia M_wireLate))), ((a 6), .inl (cI, 144, .inl (ia M_senses))), ((a 7), .inl (cI, 288, .inl (ia M_delayEarly))), ((a 8), .inl (cI, 288, .inl (ia M_delayLate))), ((a 11), .inl (cI, 48, .inl (ia M_order))), ((a 21), .inl (cZ, 96, .inl (ia z_M_there))), ((a 22), .inl (cI, 96, .inl (ia z_M_early))), ((a 23), .inl (cI, 96, .inl (ia z_M_late)))])) 0 0 (va_A ([(o_M a M_thrown M_period M_width M_nodes M_analysed M_gates M_startNode M_startChange M_startWay M_startBase M_startEarly M_startLate M_worstWith M_worstWithout M_all M_rowSize), ((a 2), .inl (cI, 48, .inl (ia M_pins))), ((a 3), .inl (cI, 144, .inl (ia M_froms))), ((a 4), .inl (cI, 144, .inl (ia M_wireEarly))), ((a 5), .inl (cI, 144, .inl (ia M_wireLate))), ((a 6), .inl (cI, 144, .inl (ia M_senses))), ((a 7), .inl (cI, 288, .inl (ia M_delayEarly))), ((a 8), .inl (cI, 288, .inl (ia M_delayLate))), ((a 11), .inl (cI, 48, .inl (ia M_order))), ((a 21), .inl (cZ, 96, .inl (ia M_there))), ((a 22), .inl (cI, 96, .inl (ia M_early))), ((a 23), .inl (cI, 96, .inl (ia M_late)))]) sz) := by
  refine Met.ofW (cc := prog_12_method_27_code) (maxL := 8) (ret := (Option.none : Option Jvm.ClassFile.FieldType)) (by decide) rfl ?_
  intro p e s m args below meth c s₁ B hml hv
  obtain ⟨rfl, hsz, hP, hK, hD0, hN⟩ := hv
  have hx := B.exec
  have hb := B.bytes
  have hr := B.returns
  have hts := atoms_spec (ws := w_M_lead) B.pre
  have hown : s.vm.findClass R_M = some m.cls := findClass_of_methodNamed B.named
  have hlocks := B.notSynchronized
  subst hsz
  have hD := hD0.self (sz := s.heap.size)
  obtain ⟨A, hAe⟩ : ∃ A, A = va_A ([(o_M a M_thrown M_period M_width M_nodes M_analysed M_gates M_startNode M_startChange M_startWay M_startBase M_startEarly M_startLate M_worstWith M_worstWithout M_all M_rowSize), ((a 2), .inl (cI, 48, .inl (ia M_pins))), ((a 3), .inl (cI, 144, .inl (ia M_froms))), ((a 4), .inl (cI, 144, .inl (ia M_wireEarly))), ((a 5), .inl (cI, 144, .inl (ia M_wireLate))), ((a 6), .inl (cI, 144, .inl (ia M_senses))), ((a 7), .inl (cI, 288, .inl (ia M_delayEarly))), ((a 8), .inl (cI, 288, .inl (ia M_delayLate))), ((a 11), .inl (cI, 48, .inl (ia M_order))), ((a 21), .inl (cZ, 96, .inl (ia M_there))), ((a 22), .inl (cI, 96, .inl (ia M_early))), ((a 23), .inl (cI, 96, .inl (ia M_late)))]) s.heap.size := ⟨_, rfl⟩
  rw [← hAe] at hD
  have hA : ∀ q : Nat, s.heap.size ≤ q → A q := fun q h => by rw [hAe]; exact Or.inr h
  have hS : va_S A s.heap s.heap [] := va_S.rf
  have hl := lv_entry ([.ref (a 0)]) (n := 8) (Nat.le_of_ble_eq_true rfl)
  rw [lg_entry_eq]
  generalize (lg_sl ([.ref (a 0)]) ++ List.replicate (8 - (lg_sl ([.ref (a 0)])).length) Slot.unset).toArray = ls at hl ⊢
  have hl : lv_has ls 8 [(0, .ref (a 0))] := hl
  generalize (List.toArray ([.ref (a 0)] : List Value)) = args at hts ⊢
  have hT : ∀ w ∈ Tg, w.before args s = true := fun w h => hts w (List.mem_cons_of_mem _ h)
  obtain ⟨Q, hQ⟩ : ∃ Q, Q = MQ below (QV D [(cI, .int), (cJ, .long), (cZ, .boolean)] ([(o_M a M_thrown M_period M_width M_nodes M_analysed M_gates M_startNode M_startChange M_startWay M_startBase M_startEarly M_startLate M_worstWith M_worstWithout M_all M_rowSize), ((a 2), .inl (cI, 48, .inl (ia M_pins))), ((a 3), .inl (cI, 144, .inl (ia M_froms))), ((a 4), .inl (cI, 144, .inl (ia M_wireEarly))), ((a 5), .inl (cI, 144, .inl (ia M_wireLate))), ((a 6), .inl (cI, 144, .inl (ia M_senses))), ((a 7), .inl (cI, 288, .inl (ia M_delayEarly))), ((a 8), .inl (cI, 288, .inl (ia M_delayLate))), ((a 11), .inl (cI, 48, .inl (ia M_order))), ((a 21), .inl (cZ, 96, .inl (ia M_there))), ((a 22), .inl (cI, 96, .inl (ia M_early))), ((a 23), .inl (cI, 96, .inl (ia M_late)))]) s.heap.size ([(o_M a M_thrown M_period M_width M_nodes M_analysed M_gates M_startNode M_startChange M_startWay M_startBase M_startEarly M_startLate M_worstWith M_worstWithout M_all M_rowSize), ((a 2), .inl (cI, 48, .inl (ia M_pins))), ((a 3), .inl (cI, 144, .inl (ia M_froms))), ((a 4), .inl (cI, 144, .inl (ia M_wireEarly))), ((a 5), .inl (cI, 144, .inl (ia M_wireLate))), ((a 6), .inl (cI, 144, .inl (ia M_senses))), ((a 7), .inl (cI, 288, .inl (ia M_delayEarly))), ((a 8), .inl (cI, 288, .inl (ia M_delayLate))), ((a 11), .inl (cI, 48, .inl (ia M_order))), ((a 21), .inl (cZ, 96, .inl (ia z_M_there))), ((a 22), .inl (cI, 96, .inl (ia z_M_early))), ((a 23), .inl (cI, 96, .inl (ia z_M_late)))])) args s 0 0 (va_A ([(o_M a M_thrown M_period M_width M_nodes M_analysed M_gates M_startNode M_startChange M_startWay M_startBase M_startEarly M_startLate M_worstWith M_worstWithout M_all M_rowSize), ((a 2), .inl (cI, 48, .inl (ia M_pins))), ((a 3), .inl (cI, 144, .inl (ia M_froms))), ((a 4), .inl (cI, 144, .inl (ia M_wireEarly))), ((a 5), .inl (cI, 144, .inl (ia M_wireLate))), ((a 6), .inl (cI, 144, .inl (ia M_senses))), ((a 7), .inl (cI, 288, .inl (ia M_delayEarly))), ((a 8), .inl (cI, 288, .inl (ia M_delayLate))), ((a 11), .inl (cI, 48, .inl (ia M_order))), ((a 21), .inl (cZ, 96, .inl (ia M_there))), ((a 22), .inl (cI, 96, .inl (ia M_early))), ((a 23), .inl (cI, 96, .inl (ia M_late)))]) s.heap.size) := ⟨_, rfl⟩
  rw [← hQ]
  suffices hW : ∀ (H : Heap) (locs : List Loc), va_P D vwCl ([(o_M a M_thrown M_period M_width M_nodes M_analysed M_gates M_startNode M_startChange M_startWay M_startBase M_startEarly M_startLate M_worstWith M_worstWithout M_all M_rowSize), ((a 2), .inl (cI, 48, .inl (ia M_pins))), ((a 3), .inl (cI, 144, .inl (ia M_froms))), ((a 4), .inl (cI, 144, .inl (ia M_wireEarly))), ((a 5), .inl (cI, 144, .inl (ia M_wireLate))), ((a 6), .inl (cI, 144, .inl (ia M_senses))), ((a 7), .inl (cI, 288, .inl (ia M_delayEarly))), ((a 8), .inl (cI, 288, .inl (ia M_delayLate))), ((a 11), .inl (cI, 48, .inl (ia M_order))), ((a 21), .inl (cZ, 96, .inl (ia M_there))), ((a 22), .inl (cI, 96, .inl (ia M_early))), ((a 23), .inl (cI, 96, .inl (ia M_late)))]) H → va_D A ([(o_M a M_thrown M_period M_width M_nodes M_analysed M_gates M_startNode M_startChange M_startWay M_startBase M_startEarly M_startLate M_worstWith M_worstWithout M_all M_rowSize), ((a 2), .inl (cI, 48, .inl (ia M_pins))), ((a 3), .inl (cI, 144, .inl (ia M_froms))), ((a 4), .inl (cI, 144, .inl (ia M_wireEarly))), ((a 5), .inl (cI, 144, .inl (ia M_wireLate))), ((a 6), .inl (cI, 144, .inl (ia M_senses))), ((a 7), .inl (cI, 288, .inl (ia M_delayEarly))), ((a 8), .inl (cI, 288, .inl (ia M_delayLate))), ((a 11), .inl (cI, 48, .inl (ia M_order))), ((a 21), .inl (cZ, 96, .inl (ia M_there))), ((a 22), .inl (cI, 96, .inl (ia M_early))), ((a 23), .inl (cI, 96, .inl (ia M_late)))]) → va_S A s.heap H locs → W p l e (headSpec w_M_lead rm_M_lead).room s m args below meth c H locs 0 0 Q (F0 m 0 ls []) from hW s.heap [] hP hD hS
  clear hP hD hS
  intro H locs hP hD hS
  rw [f_M_lead] at h
  refine lv_aload_n hx hb d_M_lead_0 rfl (lv_at hl 0 rfl) ?_
  obtain ⟨M_there_1, M_early_2, M_late_3, hcall, h⟩ := ob3_e h
  refine ca_v (w2 := [(o_M a M_thrown M_period M_width M_nodes M_analysed M_gates M_startNode M_startChange M_startWay M_startBase M_startEarly M_startLate M_worstWith M_worstWithout M_all M_rowSize), ((a 2), .inl (cI, 48, .inl (ia M_pins))), ((a 3), .inl (cI, 144, .inl (ia M_froms))), ((a 4), .inl (cI, 144, .inl (ia M_wireEarly))), ((a 5), .inl (cI, 144, .inl (ia M_wireLate))), ((a 6), .inl (cI, 144, .inl (ia M_senses))), ((a 7), .inl (cI, 288, .inl (ia M_delayEarly))), ((a 8), .inl (cI, 288, .inl (ia M_delayLate))), ((a 11), .inl (cI, 48, .inl (ia M_order))), ((a 21), .inl (cZ, 96, .inl (ia M_there_1))), ((a 22), .inl (cI, 96, .inl (ia M_early_2))), ((a 23), .inl (cI, 96, .inl (ia M_late_3)))]) (va_runV (As := []) (rest := []) ⟨hx, hb, hml, hown, hts⟩ (c_M_clearStart l D cI cJ cZ F a M_thrown M_period M_width M_nodes M_analysed M_gates M_startNode M_startChange M_startWay M_startBase M_startEarly M_startLate M_worstWith M_worstWithout M_all M_rowSize M_there M_early M_late M_there_1 M_early_2 M_late_3 H.size hcall) (cwV 0 hts (gd_V m1303 m1300 m1302 sl_M_clearStart m12) rfl rfl rfl ⟨rfl, hc_M_clearStart⟩ ⟨Nat.le_of_ble_eq_true rfl, Nat.le_of_ble_eq_true rfl⟩) (pc_V 0 10 [] hP hK hD hN [0, 9, 10, 11] rfl rfl rfl rfl rfl) rfl rfl hl.1 rfl (lv_room (Nat.le_of_ble_eq_true rfl)) d_M_lead_1 ⟨Nat.le_refl 0, Nat.le_refl 0⟩) hP hD hS hA [0, 9, 10, 11] [1, 2, 3, 4, 5, 6, 7, 8] [8, 0, 1, 2, 3, 4, 5, 6, 7, 9, 10, 11] rfl rfl rfl (by decide) rfl rfl rfl (fun H locs hP hD hS => ?_)
  refine zv_iconst hx hb d_M_lead_4 ?_
  refine lv_istore_n (lv' := [(1, .int (iI 0)), (0, .ref (a 0))]) hx hb d_M_lead_5 rfl hl (by decide) rfl (fun ls hl => ?_)
  have hl6 : ∀ (nf : Nat) (v1 : Int) (M_there_4 : Int → Int) (M_early_5 : Int → Int) (M_late_6 : Int → Int) (H : Heap) (locs : List Loc) (ls : Array Slot), va_P D vwCl [(o_M a M_thrown M_period M_width M_nodes M_analysed M_gates M_startNode M_startChange M_startWay M_startBase M_startEarly M_startLate M_worstWith M_worstWithout M_all M_rowSize), ((a 2), .inl (cI, 48, .inl (ia M_pins))), ((a 3), .inl (cI, 144, .inl (ia M_froms))), ((a 4), .inl (cI, 144, .inl (ia M_wireEarly))), ((a 5), .inl (cI, 144, .inl (ia M_wireLate))), ((a 6), .inl (cI, 144, .inl (ia M_senses))), ((a 7), .inl (cI, 288, .inl (ia M_delayEarly))), ((a 8), .inl (cI, 288, .inl (ia M_delayLate))), ((a 11), .inl (cI, 48, .inl (ia M_order))), ((a 21), .inl (cZ, 96, .inl (ia M_there_4))), ((a 22), .inl (cI, 96, .inl (ia M_early_5))), ((a 23), .inl (cI, 96, .inl (ia M_late_6)))] H → va_D A [(o_M a M_thrown M_period M_width M_nodes M_analysed M_gates M_startNode M_startChange M_startWay M_startBase M_startEarly M_startLate M_worstWith M_worstWithout M_all M_rowSize), ((a 2), .inl (cI, 48, .inl (ia M_pins))), ((a 3), .inl (cI, 144, .inl (ia M_froms))), ((a 4), .inl (cI, 144, .inl (ia M_wireEarly))), ((a 5), .inl (cI, 144, .inl (ia M_wireLate))), ((a 6), .inl (cI, 144, .inl (ia M_senses))), ((a 7), .inl (cI, 288, .inl (ia M_delayEarly))), ((a 8), .inl (cI, 288, .inl (ia M_delayLate))), ((a 11), .inl (cI, 48, .inl (ia M_order))), ((a 21), .inl (cZ, 96, .inl (ia M_there_4))), ((a 22), .inl (cI, 96, .inl (ia M_early_5))), ((a 23), .inl (cI, 96, .inl (ia M_late_6)))] → va_S A s.heap H locs → lv_has ls 8 [(0, .ref (a 0)), (1, .int (iI v1))] → lq4 (f_M_lead_b6 F M_gates M_pins M_froms M_wireEarly M_wireLate M_senses M_delayEarly M_delayLate M_order) nf v1 M_there_4 M_early_5 M_late_6 = some (z_M_there, z_M_early, z_M_late) → W p l e (headSpec w_M_lead rm_M_lead).room s m args below meth c H locs 0 0 Q (F0 m 6 ls []) := by
    intro n6
    induction n6 with
    | zero => intro v1 M_there_4 M_early_5 M_late_6 H locs ls hP hD hS hl h; exact no_some h
    | succ n6 ih6 =>
      intro v1 M_there_4 M_early_5 M_late_6 H locs ls hP hD hS hl h
      replace h : f_M_lead_b6 F M_gates M_pins M_froms M_wireEarly M_wireLate M_senses M_delayEarly M_delayLate M_order (lq4 (f_M_lead_b6 F M_gates M_pins M_froms M_wireEarly M_wireLate M_senses M_delayEarly M_delayLate M_order) n6) v1 M_there_4 M_early_5 M_late_6 = some (z_M_there, z_M_early, z_M_late) := h
      obtain ⟨self6, hs6⟩ : ∃ z, z = lq4 (f_M_lead_b6 F M_gates M_pins M_froms M_wireEarly M_wireLate M_senses M_delayEarly M_delayLate M_order) n6 := ⟨_, rfl⟩
      rw [← hs6] at h ih6
      rw [f_M_lead_b6] at h
      refine lv_iload_n hx hb d_M_lead_6 rfl (lv_at hl 1 rfl) ?_
      refine lv_aload_n hx hb d_M_lead_7 rfl (lv_at hl 0 rfl) ?_
      refine va_get (D := D) (ci := 10) (v := .int (iI M_gates)) (C := R_M) (T := F_M) (N := 53) hx hb hT in_M hown hK hP 0 rfl rfl 16 (by decide) (hT _ m1037) (fun _ h9 => h9) rfl d_M_lead_8 ?_
      obtain ⟨hg0, h⟩ := gr_e h
      obtain ⟨hg1, h⟩ := gr_e h
      refine zc_ge hx hb d_M_lead_11 rfl hg0 hg1 (fun hc => ?_) (fun hc => ?_)
      · replace h := if_t hc h
        obtain ⟨e1, e2, e3⟩ := so3 h
        rw [hQ, e1, e2, e3]; rw [hAe] at hD hS; exact W.vret hx hb hr (fun t ht hW => ⟨⟨(), rfl, trivial, by rw [ht]; exact hP, va_K.moved hW.alike hK, hD⟩, hS.F ht⟩) hS.2.2 d_M_lead_197
      · replace h := if_f hc h
        refine lv_aload_n hx hb d_M_lead_14 rfl (lv_at hl 0 rfl) ?_
        refine va_get (D := D) (ci := 10) (v := .ref (a 11)) (C := R_M) (T := F_M) (N := 53) hx hb hT in_M hown hK hP 0 rfl rfl 15 (by decide) (hT _ m1036) (fun _ h9 => h9) rfl d_M_lead_15 ?_
        refine lv_iload_n hx hb d_M_lead_18 rfl (lv_at hl 1 rfl) ?_
        obtain ⟨hin, h⟩ := gi_e h
        refine zv_iald hx hb hK hP 8 0 rfl rfl (Nat.le_of_ble_eq_true rfl) hin d_M_lead_19 ?_
        refine zv_top (fun v2 hv => ?_)
        replace h := bd_e hv h
        refine lv_istore_n (lv' := [(2, .int (iI v2)), (0, .ref (a 0)), (1, .int (iI v1))]) hx hb d_M_lead_20 rfl hl (by decide) rfl (fun ls hl => ?_)
        refine zv_iconst hx hb d_M_lead_21 ?_
        refine lv_istore_n (lv' := [(3, .int (iI 0)), (2, .int (iI v2)), (0, .ref (a 0)), (1, .int (iI v1))]) hx hb d_M_lead_22 rfl hl (by decide) rfl (fun ls hl => ?_)
        have hl23 : ∀ (nf : Nat) (v3 : Int) (M_there_7 : Int → Int) (M_early_8 : Int → Int) (M_late_9 : Int → Int) (H : Heap) (locs : List Loc) (ls : Array Slot), va_P D vwCl [(o_M a M_thrown M_period M_width M_nodes M_analysed M_gates M_startNode M_startChange M_startWay M_startBase M_startEarly M_startLate M_worstWith M_worstWithout M_all M_rowSize), ((a 2), .inl (cI, 48, .inl (ia M_pins))), ((a 3), .inl (cI, 144, .inl (ia M_froms))), ((a 4), .inl (cI, 144, .inl (ia M_wireEarly))), ((a 5), .inl (cI, 144, .inl (ia M_wireLate))), ((a 6), .inl (cI, 144, .inl (ia M_senses))), ((a 7), .inl (cI, 288, .inl (ia M_delayEarly))), ((a 8), .inl (cI, 288, .inl (ia M_delayLate))), ((a 11), .inl (cI, 48, .inl (ia M_order))), ((a 21), .inl (cZ, 96, .inl (ia M_there_7))), ((a 22), .inl (cI, 96, .inl (ia M_early_8))), ((a 23), .inl (cI, 96, .inl (ia M_late_9)))] H → va_D A [(o_M a M_thrown M_period M_width M_nodes M_analysed M_gates M_startNode M_startChange M_startWay M_startBase M_startEarly M_startLate M_worstWith M_worstWithout M_all M_rowSize), ((a 2), .inl (cI, 48, .inl (ia M_pins))), ((a 3), .inl (cI, 144, .inl (ia M_froms))), ((a 4), .inl (cI, 144, .inl (ia M_wireEarly))), ((a 5), .inl (cI, 144, .inl (ia M_wireLate))), ((a 6), .inl (cI, 144, .inl (ia M_senses))), ((a 7), .inl (cI, 288, .inl (ia M_delayEarly))), ((a 8), .inl (cI, 288, .inl (ia M_delayLate))), ((a 11), .inl (cI, 48, .inl (ia M_order))), ((a 21), .inl (cZ, 96, .inl (ia M_there_7))), ((a 22), .inl (cI, 96, .inl (ia M_early_8))), ((a 23), .inl (cI, 96, .inl (ia M_late_9)))] → va_S A s.heap H locs → lv_has ls 8 [(0, .ref (a 0)), (1, .int (iI v1)), (2, .int (iI v2)), (3, .int (iI v3))] → lq4 (f_M_lead_b23 F M_pins M_froms M_wireEarly M_wireLate M_senses M_delayEarly M_delayLate v1 self6 v2) nf v3 M_there_7 M_early_8 M_late_9 = some (z_M_there, z_M_early, z_M_late) → W p l e (headSpec w_M_lead rm_M_lead).room s m args below meth c H locs 0 0 Q (F0 m 23 ls []) := by
          intro n23
          induction n23 with
          | zero => intro v3 M_there_7 M_early_8 M_late_9 H locs ls hP hD hS hl h; exact no_some h
          | succ n23 ih23 =>
            intro v3 M_there_7 M_early_8 M_late_9 H locs ls hP hD hS hl h
            replace h : f_M_lead_b23 F M_pins M_froms M_wireEarly M_wireLate M_senses M_delayEarly M_delayLate v1 self6 v2 (lq4 (f_M_lead_b23 F M_pins M_froms M_wireEarly M_wireLate M_senses M_delayEarly M_delayLate v1 self6 v2) n23) v3 M_there_7 M_early_8 M_late_9 = some (z_M_there, z_M_early, z_M_late) := h
            obtain ⟨self23, hs23⟩ : ∃ z, z = lq4 (f_M_lead_b23 F M_pins M_froms M_wireEarly M_wireLate M_senses M_delayEarly M_delayLate v1 self6 v2) n23 := ⟨_, rfl⟩
            rw [← hs23] at h ih23
            rw [f_M_lead_b23] at h
            refine lv_iload_n hx hb d_M_lead_23 rfl (lv_at hl 3 rfl) ?_
            refine zv_iconst hx hb d_M_lead_24 ?_
            refine lv_aload_n hx hb d_M_lead_25 rfl (lv_at hl 0 rfl) ?_
            refine va_get (D := D) (ci := 10) (v := .ref (a 2)) (C := R_M) (T := F_M) (N := 53) hx hb hT in_M hown hK hP 0 rfl rfl 5 (by decide) (hT _ m1026) (fun _ h9 => h9) rfl d_M_lead_26 ?_
            refine lv_iload_n hx hb d_M_lead_29 rfl (lv_at hl 2 rfl) ?_
            obtain ⟨hin, h⟩ := gi_e h
            refine zv_iald hx hb hK hP 1 0 rfl rfl (Nat.le_of_ble_eq_true rfl) hin d_M_lead_30 ?_
            refine zv_imul hx hb d_M_lead_31 ?_
            obtain ⟨hg0, h⟩ := gr_e h
            obtain ⟨hg1, h⟩ := gr_e h
            refine zc_ge hx hb d_M_lead_32 rfl hg0 hg1 (fun hc => ?_) (fun hc => ?_)
            · replace h := if_t hc h
              refine lv_iinc (v := iI (v1 + 1)) (k := 1) (lv' := [(1, .int (iI (v1 + 1))), (0, .ref (a 0)), (2, .int (iI v2)), (3, .int (iI v3))]) hx hb d_M_lead_191 hl rfl (iI_add _ _) (by decide) rfl (fun ls hl => ?_)
              refine lv_goto hx hb d_M_lead_194 rfl ?_
              exact ih6 (v1 + 1) M_there_7 M_early_8 M_late_9 H locs ls hP hD hS (lv_sub hl [1, 0] rfl) h
            · replace h := if_f hc h
              refine lv_iload_n hx hb d_M_lead_35 rfl (lv_at hl 3 rfl) ?_
              refine zv_iconst hx hb d_M_lead_36 ?_
              obtain ⟨hg, h⟩ := gp_e h
              refine zv_idiv hx hb d_M_lead_37 hg (by decide) ?_
              refine zv_top (fun v4 hv => ?_)
              replace h := bd_e hv h
              refine lv_istore (lv' := [(4, .int (iI v4)), (0, .ref (a 0)), (1, .int (iI v1)), (2, .int (iI v2)), (3, .int (iI v3))]) hx hb d_M_lead_38 hl (by decide) rfl (fun ls hl => ?_)
              refine lv_aload_n hx hb d_M_lead_40 rfl (lv_at hl 1 rfl) ?_
              refine va_get (D := D) (ci := 10) (v := .ref (a 3)) (C := R_M) (T := F_M) (N := 53) hx hb hT in_M hown hK hP 0 rfl rfl 6 (by decide) (hT _ m1027) (fun _ h9 => h9) rfl d_M_lead_41 ?_
              refine zv_iconst hx hb d_M_lead_44 ?_
              refine lv_iload_n hx hb d_M_lead_45 rfl (lv_at hl 3 rfl) ?_
              refine zv_imul hx hb d_M_lead_46 ?_
              refine lv_iload hx hb d_M_lead_47 (lv_at hl 0 rfl) ?_
              refine zv_iadd hx hb d_M_lead_49 ?_
              obtain ⟨hin, h⟩ := gi_e h
              refine zv_iald hx hb hK hP 2 0 rfl rfl (Nat.le_of_ble_eq_true rfl) hin d_M_lead_50 ?_
              refine zv_top (fun v5 hv => ?_)
              replace h := bd_e hv h
              refine lv_istore (lv' := [(5, .int (iI v5)), (4, .int (iI v4)), (0, .ref (a 0)), (1, .int (iI v1)), (2, .int (iI v2)), (3, .int (iI v3))]) hx hb d_M_lead_51 hl (by decide) rfl (fun ls hl => ?_)
              refine lv_iload_n hx hb d_M_lead_53 rfl (lv_at hl 5 rfl) ?_
              refine zv_iconst hx hb d_M_lead_54 ?_
              obtain ⟨hg, h⟩ := gp_e h
              refine zv_idiv hx hb d_M_lead_55 hg (by decide) ?_
              refine zv_iconst hx hb d_M_lead_56 ?_
              obtain ⟨hg, h⟩ := gp_e h
              refine zv_irem hx hb d_M_lead_57 hg (by decide) ?_
              refine zv_top (fun v6 hv => ?_)
              replace h := bd_e hv h
              refine lv_istore (lv' := [(6, .int (iI v6)), (5, .int (iI v5)), (4, .int (iI v4)), (0, .ref (a 0)), (1, .int (iI v1)), (2, .int (iI v2)), (3, .int (iI v3))]) hx hb d_M_lead_58 hl (by decide) rfl (fun ls hl => ?_)
              refine lv_iload hx hb d_M_lead_60 (lv_at hl 1 rfl) ?_
              have hj185 : ∀ (M_there_10 : Int → Int) (M_early_11 : Int → Int) (M_late_12 : Int → Int) (H : Heap) (locs : List Loc) (ls : Array Slot), va_P D vwCl [(o_M a M_thrown M_period M_width M_nodes M_analysed M_gates M_startNode M_startChange M_startWay M_startBase M_startEarly M_startLate M_worstWith M_worstWithout M_all M_rowSize), ((a 2), .inl (cI, 48, .inl (ia M_pins))), ((a 3), .inl (cI, 144, .inl (ia M_froms))), ((a 4), .inl (cI, 144, .inl (ia M_wireEarly))), ((a 5), .inl (cI, 144, .inl (ia M_wireLate))), ((a 6), .inl (cI, 144, .inl (ia M_senses))), ((a 7), .inl (cI, 288, .inl (ia M_delayEarly))), ((a 8), .inl (cI, 288, .inl (ia M_delayLate))), ((a 11), .inl (cI, 48, .inl (ia M_order))), ((a 21), .inl (cZ, 96, .inl (ia M_there_10))), ((a 22), .inl (cI, 96, .inl (ia M_early_11))), ((a 23), .inl (cI, 96, .inl (ia M_late_12)))] H → va_D A [(o_M a M_thrown M_period M_width M_nodes M_analysed M_gates M_startNode M_startChange M_startWay M_startBase M_startEarly M_startLate M_worstWith M_worstWithout M_all M_rowSize), ((a 2), .inl (cI, 48, .inl (ia M_pins))), ((a 3), .inl (cI, 144, .inl (ia M_froms))), ((a 4), .inl (cI, 144, .inl (ia M_wireEarly))), ((a 5), .inl (cI, 144, .inl (ia M_wireLate))), ((a 6), .inl (cI, 144, .inl (ia M_senses))), ((a 7), .inl (cI, 288, .inl (ia M_delayEarly))), ((a 8), .inl (cI, 288, .inl (ia M_delayLate))), ((a 11), .inl (cI, 48, .inl (ia M_order))), ((a 21), .inl (cZ, 96, .inl (ia M_there_10))), ((a 22), .inl (cI, 96, .inl (ia M_early_11))), ((a 23), .inl (cI, 96, .inl (ia M_late_12)))] → va_S A s.heap H locs → lv_has ls 8 [(0, .ref (a 0)), (1, .int (iI v1)), (2, .int (iI v2)), (3, .int (iI v3))] → f_M_lead_j185 F v3 self23 M_there_10 M_early_11 M_late_12 = some (z_M_there, z_M_early, z_M_late) → W p l e (headSpec w_M_lead rm_M_lead).room s m args below meth c H locs 0 0 Q (F0 m 185 ls []) := by
                intro M_there_10 M_early_11 M_late_12 H locs ls hP hD hS hl h
                rw [f_M_lead_j185] at h
                refine lv_iinc (v := iI (v3 + 1)) (k := 3) (lv' := [(3, .int (iI (v3 + 1))), (0, .ref (a 0)), (1, .int (iI v1)), (2, .int (iI v2))]) hx hb d_M_lead_185 hl rfl (iI_add _ _) (by decide) rfl (fun ls hl => ?_)
                refine lv_goto hx hb d_M_lead_188 rfl ?_
                exact ih23 (v3 + 1) M_there_10 M_early_11 M_late_12 H locs ls hP hD hS (lv_sub hl [1, 2, 3, 0] rfl) h
              obtain ⟨hg0, h⟩ := gr_e h
              refine zi_lt hx hb d_M_lead_62 rfl hg0 (fun hc => ?_) (fun hc => ?_)
              · replace h := if_t hc h
                exact hj185 M_there_7 M_early_8 M_late_9 H locs ls hP hD hS (lv_sub hl [3, 4, 5, 6] rfl) h
              · replace h := if_f hc h
                refine lv_aload_n hx hb d_M_lead_65 rfl (lv_at hl 3 rfl) ?_
                refine va_get (D := D) (ci := 10) (v := .ref (a 21)) (C := R_M) (T := F_M) (N := 53) hx hb hT in_M hown hK hP 0 rfl rfl 26 (by decide) (hT _ m1047) (fun _ h9 => h9) rfl d_M_lead_66 ?_
                refine zv_iconst hx hb d_M_lead_69 ?_
                refine lv_iload hx hb d_M_lead_70 (lv_at hl 1 rfl) ?_
                refine zv_imul hx hb d_M_lead_72 ?_
                refine lv_iload hx hb d_M_lead_73 (lv_at hl 0 rfl) ?_
                refine zv_iadd hx hb d_M_lead_75 ?_
                obtain ⟨hin, h⟩ := gi_e h
                refine zv_zald hx hb hK hP 9 2 rfl rfl (Nat.le_of_ble_eq_true rfl) hin d_M_lead_76 ?_
                obtain ⟨hg0, h⟩ := gr_e h
                refine zi_eq hx hb d_M_lead_77 rfl hg0 (fun hc => ?_) (fun hc => ?_)
                · replace h := if_t hc h
                  exact hj185 M_there_7 M_early_8 M_late_9 H locs ls hP hD hS (lv_sub hl [3, 4, 5, 6] rfl) h
                · replace h := if_f hc h
                  refine lv_aload_n hx hb d_M_lead_80 rfl (lv_at hl 3 rfl) ?_
                  refine lv_iload_n hx hb d_M_lead_81 rfl (lv_at hl 5 rfl) ?_
                  refine lv_iload hx hb d_M_lead_82 (lv_at hl 2 rfl) ?_
                  refine lv_iload hx hb d_M_lead_84 (lv_at hl 0 rfl) ?_
                  refine lv_iload_n hx hb d_M_lead_86 rfl (lv_at hl 6 rfl) ?_
                  refine zv_iconst hx hb d_M_lead_87 ?_
                  obtain ⟨hg, h⟩ := gp_e h
                  refine zv_irem hx hb d_M_lead_88 hg (by decide) ?_
                  obtain ⟨r89, hcall, h⟩ := ob1_e h
                  refine ro_i (va_Run.run (va_runV (As := [.int (iI v2), .int (iI v4), .int (iI v6), .int (iI (v3 % 2))]) (rest := []) ⟨hx, hb, hml, hown, hts⟩ (c_M_lets l D cI cJ cZ F a M_thrown M_period M_width M_nodes M_analysed M_gates M_startNode M_startChange M_startWay M_startBase M_startEarly M_startLate M_worstWith M_worstWithout M_all M_rowSize M_senses v2 v4 v6 (v3 % 2) r89 H.size hcall) (cwV 4 hts (gd_V m1266 m1263 m1265 sl_M_lets m12) rfl rfl rfl ⟨rfl, hc_M_lets⟩ ⟨Nat.le_of_ble_eq_true rfl, Nat.le_of_ble_eq_true rfl⟩) (pc_V 0 10 [.int (iI v2), .int (iI v4), .int (iI v6), .int (iI (v3 % 2))] hP hK hD hN [0, 5] rfl rfl rfl rfl rfl) rfl rfl hl.1 rfl (lv_room (Nat.le_of_ble_eq_true rfl)) d_M_lead_89 ⟨Nat.le_refl 0, Nat.le_refl 0⟩)) (W.eq (g2 := F0 m 92 ls [.int (iI r89)]) rfl ?_)
                  obtain ⟨hg0, h⟩ := gr_e h
                  refine zi_eq hx hb d_M_lead_92 rfl hg0 (fun hc => ?_) (fun hc => ?_)
                  · replace h := if_t hc h
                    exact hj185 M_there_7 M_early_8 M_late_9 H locs ls hP hD hS (lv_sub hl [3, 4, 5, 6] rfl) h
                  · replace h := if_f hc h
                    refine lv_bipush (v := iI 6) hx hb d_M_lead_95 (by decide) ?_
                    refine lv_iload_n hx hb d_M_lead_97 rfl (lv_at hl 5 rfl) ?_
                    refine zv_imul hx hb d_M_lead_98 ?_
                    refine zv_iconst hx hb d_M_lead_99 ?_
                    refine lv_iload hx hb d_M_lead_100 (lv_at hl 2 rfl) ?_
                    refine zv_imul hx hb d_M_lead_102 ?_
                    refine zv_iadd hx hb d_M_lead_103 ?_
                    refine lv_iload_n hx hb d_M_lead_104 rfl (lv_at hl 6 rfl) ?_
                    refine zv_iconst hx hb d_M_lead_105 ?_
                    obtain ⟨hg, h⟩ := gp_e h
                    refine zv_irem hx hb d_M_lead_106 hg (by decide) ?_
                    refine zv_iadd hx hb d_M_lead_107 ?_
                    refine zv_top (fun v7 hv => ?_)
                    replace h := bd_e hv h
                    refine lv_istore (lv' := [(7, .int (iI v7)), (6, .int (iI v6)), (5, .int (iI v5)), (4, .int (iI v4)), (0, .ref (a 0)), (1, .int (iI v1)), (2, .int (iI v2)), (3, .int (iI v3))]) hx hb d_M_lead_108 hl (by decide) rfl (fun ls hl => ?_)
                    refine lv_aload_n hx hb d_M_lead_110 rfl (lv_at hl 4 rfl) ?_
                    refine zv_iconst hx hb d_M_lead_111 ?_
                    refine lv_iload_n hx hb d_M_lead_112 rfl (lv_at hl 6 rfl) ?_
                    refine zv_imul hx hb d_M_lead_113 ?_
                    refine lv_iload_n hx hb d_M_lead_114 rfl (lv_at hl 7 rfl) ?_
                    refine zv_iconst hx hb d_M_lead_115 ?_
                    obtain ⟨hg, h⟩ := gp_e h
                    refine zv_irem hx hb d_M_lead_116 hg (by decide) ?_
                    refine zv_iadd hx hb d_M_lead_117 ?_
                    refine lv_aload_n hx hb d_M_lead_118 rfl (lv_at hl 4 rfl) ?_
                    refine va_get (D := D) (ci := 10) (v := .ref (a 22)) (C := R_M) (T := F_M) (N := 53) hx hb hT in_M hown hK hP 0 rfl rfl 27 (by decide) (hT _ m1048) (fun _ h9 => h9) rfl d_M_lead_119 ?_
                    refine zv_iconst hx hb d_M_lead_122 ?_
                    refine lv_iload hx hb d_M_lead_123 (lv_at hl 2 rfl) ?_
                    refine zv_imul hx hb d_M_lead_125 ?_
                    refine lv_iload hx hb d_M_lead_126 (lv_at hl 1 rfl) ?_
                    refine zv_iadd hx hb d_M_lead_128 ?_
                    obtain ⟨hin, h⟩ := gi_e h
                    refine zv_iald hx hb hK hP 10 0 rfl rfl (Nat.le_of_ble_eq_true rfl) hin d_M_lead_129 ?_
                    refine lv_aload_n hx hb d_M_lead_130 rfl (lv_at hl 4 rfl) ?_
                    refine va_get (D := D) (ci := 10) (v := .ref (a 4)) (C := R_M) (T := F_M) (N := 53) hx hb hT in_M hown hK hP 0 rfl rfl 7 (by decide) (hT _ m1028) (fun _ h9 => h9) rfl d_M_lead_131 ?_
                    refine zv_iconst hx hb d_M_lead_134 ?_
                    refine lv_iload_n hx hb d_M_lead_135 rfl (lv_at hl 6 rfl) ?_
                    refine zv_imul hx hb d_M_lead_136 ?_
                    refine lv_iload hx hb d_M_lead_137 (lv_at hl 3 rfl) ?_
                    refine zv_iadd hx hb d_M_lead_139 ?_
                    obtain ⟨hin, h⟩ := gi_e h
                    refine zv_iald hx hb hK hP 3 0 rfl rfl (Nat.le_of_ble_eq_true rfl) hin d_M_lead_140 ?_
                    refine zv_iadd hx hb d_M_lead_141 ?_
                    refine lv_aload_n hx hb d_M_lead_142 rfl (lv_at hl 4 rfl) ?_
                    refine va_get (D := D) (ci := 10) (v := .ref (a 7)) (C := R_M) (T := F_M) (N := 53) hx hb hT in_M hown hK hP 0 rfl rfl 10 (by decide) (hT _ m1031) (fun _ h9 => h9) rfl d_M_lead_143 ?_
                    refine lv_iload hx hb d_M_lead_146 (lv_at hl 0 rfl) ?_
                    obtain ⟨hin, h⟩ := gi_e h
                    refine zv_iald hx hb hK hP 6 0 rfl rfl (Nat.le_of_ble_eq_true rfl) hin d_M_lead_148 ?_
                    refine zv_iadd hx hb d_M_lead_149 ?_
                    refine lv_aload_n hx hb d_M_lead_150 rfl (lv_at hl 4 rfl) ?_
                    refine va_get (D := D) (ci := 10) (v := .ref (a 23)) (C := R_M) (T := F_M) (N := 53) hx hb hT in_M hown hK hP 0 rfl rfl 28 (by decide) (hT _ m1049) (fun _ h9 => h9) rfl d_M_lead_151 ?_
                    refine zv_iconst hx hb d_M_lead_154 ?_
                    refine lv_iload hx hb d_M_lead_155 (lv_at hl 2 rfl) ?_
                    refine zv_imul hx hb d_M_lead_157 ?_
                    refine lv_iload hx hb d_M_lead_158 (lv_at hl 1 rfl) ?_
                    refine zv_iadd hx hb d_M_lead_160 ?_
                    obtain ⟨hin, h⟩ := gi_e h
                    refine zv_iald hx hb hK hP 11 0 rfl rfl (Nat.le_of_ble_eq_true rfl) hin d_M_lead_161 ?_
                    refine lv_aload_n hx hb d_M_lead_162 rfl (lv_at hl 4 rfl) ?_
                    refine va_get (D := D) (ci := 10) (v := .ref (a 5)) (C := R_M) (T := F_M) (N := 53) hx hb hT in_M hown hK hP 0 rfl rfl 8 (by decide) (hT _ m1029) (fun _ h9 => h9) rfl d_M_lead_163 ?_
                    refine zv_iconst hx hb d_M_lead_166 ?_
                    refine lv_iload_n hx hb d_M_lead_167 rfl (lv_at hl 6 rfl) ?_
                    refine zv_imul hx hb d_M_lead_168 ?_
                    refine lv_iload hx hb d_M_lead_169 (lv_at hl 3 rfl) ?_
                    refine zv_iadd hx hb d_M_lead_171 ?_
                    obtain ⟨hin, h⟩ := gi_e h
                    refine zv_iald hx hb hK hP 4 0 rfl rfl (Nat.le_of_ble_eq_true rfl) hin d_M_lead_172 ?_
                    refine zv_iadd hx hb d_M_lead_173 ?_
                    refine lv_aload_n hx hb d_M_lead_174 rfl (lv_at hl 4 rfl) ?_
                    refine va_get (D := D) (ci := 10) (v := .ref (a 8)) (C := R_M) (T := F_M) (N := 53) hx hb hT in_M hown hK hP 0 rfl rfl 11 (by decide) (hT _ m1032) (fun _ h9 => h9) rfl d_M_lead_175 ?_
                    refine lv_iload hx hb d_M_lead_178 (lv_at hl 0 rfl) ?_
                    obtain ⟨hin, h⟩ := gi_e h
                    refine zv_iald hx hb hK hP 7 0 rfl rfl (Nat.le_of_ble_eq_true rfl) hin d_M_lead_180 ?_
                    refine zv_iadd hx hb d_M_lead_181 ?_
                    obtain ⟨M_there_13, M_early_14, M_late_15, hcall, h⟩ := ob3_e h
                    refine ca_v (w2 := [(o_M a M_thrown M_period M_width M_nodes M_analysed M_gates M_startNode M_startChange M_startWay M_startBase M_startEarly M_startLate M_worstWith M_worstWithout M_all M_rowSize), ((a 2), .inl (cI, 48, .inl (ia M_pins))), ((a 3), .inl (cI, 144, .inl (ia M_froms))), ((a 4), .inl (cI, 144, .inl (ia M_wireEarly))), ((a 5), .inl (cI, 144, .inl (ia M_wireLate))), ((a 6), .inl (cI, 144, .inl (ia M_senses))), ((a 7), .inl (cI, 288, .inl (ia M_delayEarly))), ((a 8), .inl (cI, 288, .inl (ia M_delayLate))), ((a 11), .inl (cI, 48, .inl (ia M_order))), ((a 21), .inl (cZ, 96, .inl (ia M_there_13))), ((a 22), .inl (cI, 96, .inl (ia M_early_14))), ((a 23), .inl (cI, 96, .inl (ia M_late_15)))]) (va_runV (As := [.int (iI ((2 * v2) + (v3 % 2))), .int (iI (((M_early_8 ((2 * v5) + v6)) + (M_wireEarly ((3 * v2) + v4))) + (M_delayEarly v7))), .int (iI (((M_late_9 ((2 * v5) + v6)) + (M_wireLate ((3 * v2) + v4))) + (M_delayLate v7)))]) (rest := []) ⟨hx, hb, hml, hown, hts⟩ (c_M_reach l D cI cJ cZ F a M_thrown M_period M_width M_nodes M_analysed M_gates M_startNode M_startChange M_startWay M_startBase M_startEarly M_startLate M_worstWith M_worstWithout M_all M_rowSize M_there_7 M_early_8 M_late_9 ((2 * v2) + (v3 % 2)) (((M_early_8 ((2 * v5) + v6)) + (M_wireEarly ((3 * v2) + v4))) + (M_delayEarly v7)) (((M_late_9 ((2 * v5) + v6)) + (M_wireLate ((3 * v2) + v4))) + (M_delayLate v7)) M_there_13 M_early_14 M_late_15 H.size hcall) (cwV 3 hts (gd_V m1307 m1304 m1306 sl_M_reach m12) rfl rfl rfl ⟨rfl, hc_M_reach⟩ ⟨Nat.le_of_ble_eq_true rfl, Nat.le_of_ble_eq_true rfl⟩) (pc_V 0 10 [.int (iI ((2 * v2) + (v3 % 2))), .int (iI (((M_early_8 ((2 * v5) + v6)) + (M_wireEarly ((3 * v2) + v4))) + (M_delayEarly v7))), .int (iI (((M_late_9 ((2 * v5) + v6)) + (M_wireLate ((3 * v2) + v4))) + (M_delayLate v7)))] hP hK hD hN [0, 9, 10, 11] rfl rfl rfl rfl rfl) rfl rfl hl.1 rfl (lv_room (Nat.le_of_ble_eq_true rfl)) d_M_lead_182 ⟨Nat.le_refl 0, Nat.le_refl 0⟩) hP hD hS hA [0, 9, 10, 11] [1, 2, 3, 4, 5, 6, 7, 8] [8, 0, 1, 2, 3, 4, 5, 6, 7, 9, 10, 11] rfl rfl rfl (by decide) rfl rfl rfl (fun H locs hP hD hS => ?_)
                    exact hj185 M_there_13 M_early_14 M_late_15 H locs ls hP hD hS (lv_sub hl [4, 5, 6, 7] rfl) h
        exact hl23 F 0 M_there_4 M_early_5 M_late_6 H locs ls hP hD hS (lv_sub hl [2, 3, 1, 0] rfl) h
  exact hl6 F 0 M_there_1 M_early_2 M_late_3 H locs ls hP hD hS (lv_sub hl [1, 0] rfl) h
abbrev rm_M_arrive : Room := { frames := 0, cells := 0, slots := 0, locals := 0 }
set_option maxHeartbeats 4000000 in
set_option maxRecDepth 100000 in
theorem c_M_arrive (l : Launch) (D : va_G) (cI cJ cZ : ClassId) (F : Nat) (a : Nat → Nat) (M_thrown : Int) (M_period : Int) (M_width : Int) (M_nodes : Int) (M_analysed : Int) (M_gates : Int) (M_startNode : Int) (M_startChange : Int) (M_startWay : Int) (M_startBase : Int) (M_startEarly : Int) (M_startLate : Int) (M_worstWith : Int) (M_worstWithout : Int) (M_all : Int64) (M_rowSize : Int) (M_least : Int → Int) (M_greatest : Int → Int) (x1 : Int) (x2 : Int) (x3 : Int) (x4 : Int) (z_M_least : Int → Int) (z_M_greatest : Int → Int) (sz : Nat) (h : f_M_arrive F M_startBase M_least M_greatest x1 x2 x3 x4 = some (z_M_least, z_M_greatest)) : Met l y_M_arrive w_M_arrive rm_M_arrive (PC D [(cI, .int), (cJ, .long), (cZ, .boolean)] [.ref (a 0), .int (iI x1), .int (iI x2), .int (iI x3), .int (iI x4)] ([(o_M a M_thrown M_period M_width M_nodes M_analysed M_gates M_startNode M_startChange M_startWay M_startBase M_startEarly M_startLate M_worstWith M_worstWithout M_all M_rowSize), ((a 24), .inl (cI, 192, .inl (ia M_least))), ((a 25), .inl (cI, 192, .inl (ia M_greatest)))]) sz) (QV D [(cI, .int), (cJ, .long), (cZ, .boolean)] ([(o_M a M_thrown M_period M_width M_nodes M_analysed M_gates M_startNode M_startChange M_startWay M_startBase M_startEarly M_startLate M_worstWith M_worstWithout M_all M_rowSize), ((a 24), .inl (cI, 192, .inl (ia M_least))), ((a 25), .inl (cI, 192, .inl (ia M_greatest)))]) sz ([(o_M a M_thrown M_period M_width M_nodes M_analysed M_gates M_startNode M_startChange M_startWay M_startBase M_startEarly M_startLate M_worstWith M_worstWithout M_all M_rowSize), ((a 24), .inl (cI, 192, .inl (ia z_M_least))), ((a 25), .inl (cI, 192, .inl (ia z_M_greatest)))])) 0 0 (va_A ([(o_M a M_thrown M_period M_width M_nodes M_analysed M_gates M_startNode M_startChange M_startWay M_startBase M_startEarly M_startLate M_worstWith M_worstWithout M_all M_rowSize), ((a 24), .inl (cI, 192, .inl (ia M_least))), ((a 25), .inl (cI, 192, .inl (ia M_greatest)))]) sz) := by
  refine Met.ofW (cc := prog_12_method_28_code) (maxL := 6) (ret := (Option.none : Option Jvm.ClassFile.FieldType)) (by decide) rfl ?_
  intro p e s m args below meth c s₁ B hml hv
  obtain ⟨rfl, hsz, hP, hK, hD0, hN⟩ := hv
  have hx := B.exec
  have hb := B.bytes
  have hr := B.returns
  have hts := atoms_spec (ws := w_M_arrive) B.pre
  have hown : s.vm.findClass R_M = some m.cls := findClass_of_methodNamed B.named
  have hlocks := B.notSynchronized
  subst hsz
  have hD := hD0.self (sz := s.heap.size)
  obtain ⟨A, hAe⟩ : ∃ A, A = va_A ([(o_M a M_thrown M_period M_width M_nodes M_analysed M_gates M_startNode M_startChange M_startWay M_startBase M_startEarly M_startLate M_worstWith M_worstWithout M_all M_rowSize), ((a 24), .inl (cI, 192, .inl (ia M_least))), ((a 25), .inl (cI, 192, .inl (ia M_greatest)))]) s.heap.size := ⟨_, rfl⟩
  rw [← hAe] at hD
  have hA : ∀ q : Nat, s.heap.size ≤ q → A q := fun q h => by rw [hAe]; exact Or.inr h
  have hS : va_S A s.heap s.heap [] := va_S.rf
  have hl := lv_entry ([.ref (a 0), .int (iI x1), .int (iI x2), .int (iI x3), .int (iI x4)]) (n := 6) (Nat.le_of_ble_eq_true rfl)
  rw [lg_entry_eq]
  generalize (lg_sl ([.ref (a 0), .int (iI x1), .int (iI x2), .int (iI x3), .int (iI x4)]) ++ List.replicate (6 - (lg_sl ([.ref (a 0), .int (iI x1), .int (iI x2), .int (iI x3), .int (iI x4)])).length) Slot.unset).toArray = ls at hl ⊢
  have hl : lv_has ls 6 [(0, .ref (a 0)), (1, .int (iI x1)), (2, .int (iI x2)), (3, .int (iI x3)), (4, .int (iI x4))] := hl
  generalize (List.toArray ([.ref (a 0), .int (iI x1), .int (iI x2), .int (iI x3), .int (iI x4)] : List Value)) = args at hts ⊢
  have hT : ∀ w ∈ Tg, w.before args s = true := fun w h => hts w (List.mem_cons_of_mem _ h)
  obtain ⟨Q, hQ⟩ : ∃ Q, Q = MQ below (QV D [(cI, .int), (cJ, .long), (cZ, .boolean)] ([(o_M a M_thrown M_period M_width M_nodes M_analysed M_gates M_startNode M_startChange M_startWay M_startBase M_startEarly M_startLate M_worstWith M_worstWithout M_all M_rowSize), ((a 24), .inl (cI, 192, .inl (ia M_least))), ((a 25), .inl (cI, 192, .inl (ia M_greatest)))]) s.heap.size ([(o_M a M_thrown M_period M_width M_nodes M_analysed M_gates M_startNode M_startChange M_startWay M_startBase M_startEarly M_startLate M_worstWith M_worstWithout M_all M_rowSize), ((a 24), .inl (cI, 192, .inl (ia z_M_least))), ((a 25), .inl (cI, 192, .inl (ia z_M_greatest)))])) args s 0 0 (va_A ([(o_M a M_thrown M_period M_width M_nodes M_analysed M_gates M_startNode M_startChange M_startWay M_startBase M_startEarly M_startLate M_worstWith M_worstWithout M_all M_rowSize), ((a 24), .inl (cI, 192, .inl (ia M_least))), ((a 25), .inl (cI, 192, .inl (ia M_greatest)))]) s.heap.size) := ⟨_, rfl⟩
  rw [← hQ]
  suffices hW : ∀ (H : Heap) (locs : List Loc), va_P D vwCl ([(o_M a M_thrown M_period M_width M_nodes M_analysed M_gates M_startNode M_startChange M_startWay M_startBase M_startEarly M_startLate M_worstWith M_worstWithout M_all M_rowSize), ((a 24), .inl (cI, 192, .inl (ia M_least))), ((a 25), .inl (cI, 192, .inl (ia M_greatest)))]) H → va_D A ([(o_M a M_thrown M_period M_width M_nodes M_analysed M_gates M_startNode M_startChange M_startWay M_startBase M_startEarly M_startLate M_worstWith M_worstWithout M_all M_rowSize), ((a 24), .inl (cI, 192, .inl (ia M_least))), ((a 25), .inl (cI, 192, .inl (ia M_greatest)))]) → va_S A s.heap H locs → W p l e (headSpec w_M_arrive rm_M_arrive).room s m args below meth c H locs 0 0 Q (F0 m 0 ls []) from hW s.heap [] hP hD hS
  clear hP hD hS
  intro H locs hP hD hS
  have hk0 := (show (Cond.constant "PathTimingModel" 140 (iI (-2147483648))).before args s = true from by rw [show iI (-2147483648) = ((-2147483648) : Int32) from by decide]; exact hT _ m1020)
  rw [f_M_arrive] at h
  refine zv_iconst hx hb d_M_arrive_0 ?_
  refine lv_iload_n hx hb d_M_arrive_1 rfl (lv_at hl 1 rfl) ?_
  refine zv_imul hx hb d_M_arrive_2 ?_
  refine zv_iconst hx hb d_M_arrive_3 ?_
  refine lv_iload_n hx hb d_M_arrive_4 rfl (lv_at hl 2 rfl) ?_
  refine zv_imul hx hb d_M_arrive_5 ?_
  refine zv_iadd hx hb d_M_arrive_6 ?_
  refine lv_aload_n hx hb d_M_arrive_7 rfl (lv_at hl 0 rfl) ?_
  refine va_get (D := D) (ci := 10) (v := .int (iI M_startBase)) (C := R_M) (T := F_M) (N := 53) hx hb hT in_M hown hK hP 0 rfl rfl 32 (by decide) (hT _ m1053) (fun _ h9 => h9) rfl d_M_arrive_8 ?_
  have hj19 : ∀ (q1 : Int) (H : Heap) (locs : List Loc) (ls : Array Slot), va_P D vwCl [(o_M a M_thrown M_period M_width M_nodes M_analysed M_gates M_startNode M_startChange M_startWay M_startBase M_startEarly M_startLate M_worstWith M_worstWithout M_all M_rowSize), ((a 24), .inl (cI, 192, .inl (ia M_least))), ((a 25), .inl (cI, 192, .inl (ia M_greatest)))] H → va_D A [(o_M a M_thrown M_period M_width M_nodes M_analysed M_gates M_startNode M_startChange M_startWay M_startBase M_startEarly M_startLate M_worstWith M_worstWithout M_all M_rowSize), ((a 24), .inl (cI, 192, .inl (ia M_least))), ((a 25), .inl (cI, 192, .inl (ia M_greatest)))] → va_S A s.heap H locs → lv_has ls 6 [(0, .ref (a 0)), (3, .int (iI x3)), (4, .int (iI x4))] → f_M_arrive_j19 F M_least M_greatest x1 x2 x3 x4 q1 = some (z_M_least, z_M_greatest) → W p l e (headSpec w_M_arrive rm_M_arrive).room s m args below meth c H locs 0 0 Q (F0 m 19 ls [.int (iI q1), .int (iI ((4 * x1) + (2 * x2)))]) := by
    intro q1 H locs ls hP hD hS hl h
    rw [f_M_arrive_j19] at h
    refine zv_iadd hx hb d_M_arrive_19 ?_
    refine zv_top (fun v5 hv => ?_)
    replace h := bd_e hv h
    refine lv_istore (lv' := [(5, .int (iI v5)), (0, .ref (a 0)), (3, .int (iI x3)), (4, .int (iI x4))]) hx hb d_M_arrive_20 hl (by decide) rfl (fun ls hl => ?_)
    refine lv_aload_n hx hb d_M_arrive_22 rfl (lv_at hl 1 rfl) ?_
    refine va_get (D := D) (ci := 10) (v := .ref (a 24)) (C := R_M) (T := F_M) (N := 53) hx hb hT in_M hown hK hP 0 rfl rfl 35 (by decide) (hT _ m1056) (fun _ h9 => h9) rfl d_M_arrive_23 ?_
    refine lv_iload hx hb d_M_arrive_26 (lv_at hl 0 rfl) ?_
    refine lv_aload_n hx hb d_M_arrive_28 rfl (lv_at hl 1 rfl) ?_
    refine va_get (D := D) (ci := 10) (v := .ref (a 24)) (C := R_M) (T := F_M) (N := 53) hx hb hT in_M hown hK hP 0 rfl rfl 35 (by decide) (hT _ m1056) (fun _ h9 => h9) rfl d_M_arrive_29 ?_
    refine lv_iload hx hb d_M_arrive_32 (lv_at hl 0 rfl) ?_
    obtain ⟨hin, h⟩ := gi_e h
    refine zv_iald hx hb hK hP 1 0 rfl rfl (Nat.le_of_ble_eq_true rfl) hin d_M_arrive_34 ?_
    refine lv_ldc hx hb hown hk0 d_M_arrive_35 ?_
    have hj62 : ∀ (q2 : Int) (H : Heap) (locs : List Loc) (ls : Array Slot), va_P D vwCl [(o_M a M_thrown M_period M_width M_nodes M_analysed M_gates M_startNode M_startChange M_startWay M_startBase M_startEarly M_startLate M_worstWith M_worstWithout M_all M_rowSize), ((a 24), .inl (cI, 192, .inl (ia M_least))), ((a 25), .inl (cI, 192, .inl (ia M_greatest)))] H → va_D A [(o_M a M_thrown M_period M_width M_nodes M_analysed M_gates M_startNode M_startChange M_startWay M_startBase M_startEarly M_startLate M_worstWith M_worstWithout M_all M_rowSize), ((a 24), .inl (cI, 192, .inl (ia M_least))), ((a 25), .inl (cI, 192, .inl (ia M_greatest)))] → va_S A s.heap H locs → lv_has ls 6 [(0, .ref (a 0)), (4, .int (iI x4)), (5, .int (iI v5))] → f_M_arrive_j62 F M_least M_greatest x4 v5 q2 = some (z_M_least, z_M_greatest) → W p l e (headSpec w_M_arrive rm_M_arrive).room s m args below meth c H locs 0 0 Q (F0 m 62 ls [.int (iI q2), .int (iI v5), .ref (a 24)]) := by
      intro q2 H locs ls hP hD hS hl h
      rw [f_M_arrive_j62] at h
      obtain ⟨hin, h⟩ := gi_e h
      refine zv_iast hx hb hK hP hD hS 1 0 rfl rfl (Nat.le_of_ble_eq_true rfl) hin d_M_arrive_62 (fun H locs hP hD hS => ?_)
      obtain ⟨M_least_1, hv⟩ : ∃ z, z = (ui M_least v5 q2) := ⟨_, rfl⟩
      replace h := bd_e hv h
      have hP : va_P D vwCl [(o_M a M_thrown M_period M_width M_nodes M_analysed M_gates M_startNode M_startChange M_startWay M_startBase M_startEarly M_startLate M_worstWith M_worstWithout M_all M_rowSize), ((a 24), .inl (cI, 192, .inl (ia M_least_1))), ((a 25), .inl (cI, 192, .inl (ia M_greatest)))] H := by rw [hv]; exact hP
      have hD : va_D A [(o_M a M_thrown M_period M_width M_nodes M_analysed M_gates M_startNode M_startChange M_startWay M_startBase M_startEarly M_startLate M_worstWith M_worstWithout M_all M_rowSize), ((a 24), .inl (cI, 192, .inl (ia M_least_1))), ((a 25), .inl (cI, 192, .inl (ia M_greatest)))] := by rw [hv]; exact hD
      refine lv_aload_n hx hb d_M_arrive_63 rfl (lv_at hl 0 rfl) ?_
      refine va_get (D := D) (ci := 10) (v := .ref (a 25)) (C := R_M) (T := F_M) (N := 53) hx hb hT in_M hown hK hP 0 rfl rfl 36 (by decide) (hT _ m1057) (fun _ h9 => h9) rfl d_M_arrive_64 ?_
      refine lv_iload hx hb d_M_arrive_67 (lv_at hl 2 rfl) ?_
      refine lv_iload hx hb d_M_arrive_69 (lv_at hl 1 rfl) ?_
      refine lv_aload_n hx hb d_M_arrive_71 rfl (lv_at hl 0 rfl) ?_
      refine va_get (D := D) (ci := 10) (v := .ref (a 25)) (C := R_M) (T := F_M) (N := 53) hx hb hT in_M hown hK hP 0 rfl rfl 36 (by decide) (hT _ m1057) (fun _ h9 => h9) rfl d_M_arrive_72 ?_
      refine lv_iload hx hb d_M_arrive_75 (lv_at hl 2 rfl) ?_
      obtain ⟨hin, h⟩ := gi_e h
      refine zv_iald hx hb hK hP 2 0 rfl rfl (Nat.le_of_ble_eq_true rfl) hin d_M_arrive_77 ?_
      have hj93 : ∀ (q2_2 : Int) (H : Heap) (locs : List Loc) (ls : Array Slot), va_P D vwCl [(o_M a M_thrown M_period M_width M_nodes M_analysed M_gates M_startNode M_startChange M_startWay M_startBase M_startEarly M_startLate M_worstWith M_worstWithout M_all M_rowSize), ((a 24), .inl (cI, 192, .inl (ia M_least_1))), ((a 25), .inl (cI, 192, .inl (ia M_greatest)))] H → va_D A [(o_M a M_thrown M_period M_width M_nodes M_analysed M_gates M_startNode M_startChange M_startWay M_startBase M_startEarly M_startLate M_worstWith M_worstWithout M_all M_rowSize), ((a 24), .inl (cI, 192, .inl (ia M_least_1))), ((a 25), .inl (cI, 192, .inl (ia M_greatest)))] → va_S A s.heap H locs → lv_has ls 6 [] → f_M_arrive_j93 F M_greatest v5 M_least_1 q2_2 = some (z_M_least, z_M_greatest) → W p l e (headSpec w_M_arrive rm_M_arrive).room s m args below meth c H locs 0 0 Q (F0 m 93 ls [.int (iI q2_2), .int (iI v5), .ref (a 25)]) := by
        intro q2_2 H locs ls hP hD hS hl h
        rw [f_M_arrive_j93] at h
        obtain ⟨hin, h⟩ := gi_e h
        refine zv_iast hx hb hK hP hD hS 2 0 rfl rfl (Nat.le_of_ble_eq_true rfl) hin d_M_arrive_93 (fun H locs hP hD hS => ?_)
        obtain ⟨M_greatest_3, hv⟩ : ∃ z, z = (ui M_greatest v5 q2_2) := ⟨_, rfl⟩
        replace h := bd_e hv h
        have hP : va_P D vwCl [(o_M a M_thrown M_period M_width M_nodes M_analysed M_gates M_startNode M_startChange M_startWay M_startBase M_startEarly M_startLate M_worstWith M_worstWithout M_all M_rowSize), ((a 24), .inl (cI, 192, .inl (ia M_least_1))), ((a 25), .inl (cI, 192, .inl (ia M_greatest_3)))] H := by rw [hv]; exact hP
        have hD : va_D A [(o_M a M_thrown M_period M_width M_nodes M_analysed M_gates M_startNode M_startChange M_startWay M_startBase M_startEarly M_startLate M_worstWith M_worstWithout M_all M_rowSize), ((a 24), .inl (cI, 192, .inl (ia M_least_1))), ((a 25), .inl (cI, 192, .inl (ia M_greatest_3)))] := by rw [hv]; exact hD
        obtain ⟨e1, e2⟩ := so2 h
        rw [hQ, e1, e2]; rw [hAe] at hD hS; exact W.vret hx hb hr (fun t ht hW => ⟨⟨(), rfl, trivial, by rw [ht]; exact hP, va_K.moved hW.alike hK, hD⟩, hS.F ht⟩) hS.2.2 d_M_arrive_94
      obtain ⟨hg0, h⟩ := gr_e h
      obtain ⟨hg1, h⟩ := gr_e h
      refine zc_le hx hb d_M_arrive_78 rfl hg0 hg1 (fun hc => ?_) (fun hc => ?_)
      · replace h := if_t hc h
        refine lv_aload_n hx hb d_M_arrive_86 rfl (lv_at hl 0 rfl) ?_
        refine va_get (D := D) (ci := 10) (v := .ref (a 25)) (C := R_M) (T := F_M) (N := 53) hx hb hT in_M hown hK hP 0 rfl rfl 36 (by decide) (hT _ m1057) (fun _ h9 => h9) rfl d_M_arrive_87 ?_
        refine lv_iload hx hb d_M_arrive_90 (lv_at hl 2 rfl) ?_
        obtain ⟨hin, h⟩ := gi_e h
        refine zv_iald hx hb hK hP 2 0 rfl rfl (Nat.le_of_ble_eq_true rfl) hin d_M_arrive_92 ?_
        exact hj93 (M_greatest v5) H locs ls hP hD hS (lv_sub hl [] rfl) h
      · replace h := if_f hc h
        refine lv_iload hx hb d_M_arrive_81 (lv_at hl 1 rfl) ?_
        refine lv_goto hx hb d_M_arrive_83 rfl ?_
        exact hj93 x4 H locs ls hP hD hS (lv_sub hl [] rfl) h
    have hj51 : ∀  (H : Heap) (locs : List Loc) (ls : Array Slot), va_P D vwCl [(o_M a M_thrown M_period M_width M_nodes M_analysed M_gates M_startNode M_startChange M_startWay M_startBase M_startEarly M_startLate M_worstWith M_worstWithout M_all M_rowSize), ((a 24), .inl (cI, 192, .inl (ia M_least))), ((a 25), .inl (cI, 192, .inl (ia M_greatest)))] H → va_D A [(o_M a M_thrown M_period M_width M_nodes M_analysed M_gates M_startNode M_startChange M_startWay M_startBase M_startEarly M_startLate M_worstWith M_worstWithout M_all M_rowSize), ((a 24), .inl (cI, 192, .inl (ia M_least))), ((a 25), .inl (cI, 192, .inl (ia M_greatest)))] → va_S A s.heap H locs → lv_has ls 6 [(0, .ref (a 0)), (3, .int (iI x3)), (4, .int (iI x4)), (5, .int (iI v5))] → f_M_arrive_j51 F M_least M_greatest x3 x4 v5 = some (z_M_least, z_M_greatest) → W p l e (headSpec w_M_arrive rm_M_arrive).room s m args below meth c H locs 0 0 Q (F0 m 51 ls [.int (iI v5), .ref (a 24)]) := by
      intro  H locs ls hP hD hS hl h
      rw [f_M_arrive_j51] at h
      refine lv_iload_n hx hb d_M_arrive_51 rfl (lv_at hl 1 rfl) ?_
      refine lv_goto hx hb d_M_arrive_52 rfl ?_
      exact hj62 x3 H locs ls hP hD hS (lv_sub hl [0, 2, 3] rfl) h
    obtain ⟨hg0, h⟩ := gr_e h
    refine zc_eq hx hb d_M_arrive_37 rfl hg0 (by decide) (fun hc => ?_) (fun hc => ?_)
    · replace h := if_t hc h
      exact hj51  H locs ls hP hD hS (lv_sub hl [1, 2, 3, 0] rfl) h
    · replace h := if_f hc h
      refine lv_iload_n hx hb d_M_arrive_40 rfl (lv_at hl 2 rfl) ?_
      refine lv_aload_n hx hb d_M_arrive_41 rfl (lv_at hl 1 rfl) ?_
      refine va_get (D := D) (ci := 10) (v := .ref (a 24)) (C := R_M) (T := F_M) (N := 53) hx hb hT in_M hown hK hP 0 rfl rfl 35 (by decide) (hT _ m1056) (fun _ h9 => h9) rfl d_M_arrive_42 ?_
      refine lv_iload hx hb d_M_arrive_45 (lv_at hl 0 rfl) ?_
      obtain ⟨hin, h⟩ := gi_e h
      refine zv_iald hx hb hK hP 1 0 rfl rfl (Nat.le_of_ble_eq_true rfl) hin d_M_arrive_47 ?_
      obtain ⟨hg0, h⟩ := gr_e h
      obtain ⟨hg1, h⟩ := gr_e h
      refine zc_ge hx hb d_M_arrive_48 rfl hg0 hg1 (fun hc => ?_) (fun hc => ?_)
      · replace h := if_t hc h
        refine lv_aload_n hx hb d_M_arrive_55 rfl (lv_at hl 1 rfl) ?_
        refine va_get (D := D) (ci := 10) (v := .ref (a 24)) (C := R_M) (T := F_M) (N := 53) hx hb hT in_M hown hK hP 0 rfl rfl 35 (by decide) (hT _ m1056) (fun _ h9 => h9) rfl d_M_arrive_56 ?_
        refine lv_iload hx hb d_M_arrive_59 (lv_at hl 0 rfl) ?_
        obtain ⟨hin, h⟩ := gi_e h
        refine zv_iald hx hb hK hP 1 0 rfl rfl (Nat.le_of_ble_eq_true rfl) hin d_M_arrive_61 ?_
        exact hj62 (M_least v5) H locs ls hP hD hS (lv_sub hl [1, 3, 0] rfl) h
      · replace h := if_f hc h
        exact hj51  H locs ls hP hD hS (lv_sub hl [1, 2, 3, 0] rfl) h
  obtain ⟨hg0, h⟩ := gr_e h
  refine zi_ne hx hb d_M_arrive_11 rfl hg0 (fun hc => ?_) (fun hc => ?_)
  · replace h := if_f hc h
    refine zv_iconst hx hb d_M_arrive_18 ?_
    exact hj19 1 H locs ls hP hD hS (lv_sub hl [0, 3, 4] rfl) h
  · replace h := if_t hc h
    refine zv_iconst hx hb d_M_arrive_14 ?_
    refine lv_goto hx hb d_M_arrive_15 rfl ?_
    exact hj19 0 H locs ls hP hD hS (lv_sub hl [0, 3, 4] rfl) h
abbrev rm_M_credit : Room := { frames := 0, cells := 0, slots := 0, locals := 0 }
set_option maxHeartbeats 4000000 in
set_option maxRecDepth 100000 in
theorem c_M_credit (l : Launch) (D : va_G) (cI cJ cZ : ClassId) (F : Nat) (a : Nat → Nat) (M_thrown : Int) (M_period : Int) (M_width : Int) (M_nodes : Int) (M_analysed : Int) (M_gates : Int) (M_startNode : Int) (M_startChange : Int) (M_startWay : Int) (M_startBase : Int) (M_startEarly : Int) (M_startLate : Int) (M_worstWith : Int) (M_worstWithout : Int) (M_all : Int64) (M_rowSize : Int) (M_wayLast : Int → Int) (M_waySize : Int → Int) (M_wayRows : Int → Int) (M_waySpread : Int → Int) (x1 : Int) (r : Int) (sz : Nat) (h : f_M_credit F M_startWay M_wayLast M_waySize M_wayRows M_waySpread x1 = some (r)) : Met l y_M_credit w_M_credit rm_M_credit (PC D [(cI, .int), (cJ, .long), (cZ, .boolean)] [.ref (a 0), .int (iI x1)] ([(o_M a M_thrown M_period M_width M_nodes M_analysed M_gates M_startNode M_startChange M_startWay M_startBase M_startEarly M_startLate M_worstWith M_worstWithout M_all M_rowSize), ((a 16), .inl (cI, 384, .inl (ia M_wayLast))), ((a 17), .inl (cI, 384, .inl (ia M_waySize))), ((a 18), .inl (cI, 18816, .inl (ia M_wayRows))), ((a 19), .inl (cI, 18816, .inl (ia M_waySpread)))]) sz) (QcRead (iI r)) 0 0 (fun _ => False) := by
  refine Met.ofW (cc := prog_12_method_29_code) (maxL := 4) (ret := (Option.some Jvm.ClassFile.FieldType.int)) (by decide) rfl ?_
  intro p e s m args below meth c s₁ B hml hv
  obtain ⟨rfl, hsz, hP, hK, hD0, hN⟩ := hv
  have hx := B.exec
  have hb := B.bytes
  have hr := B.returns
  have hts := atoms_spec (ws := w_M_credit) B.pre
  have hown : s.vm.findClass R_M = some m.cls := findClass_of_methodNamed B.named
  have hlocks := B.notSynchronized
  subst hsz
  have hl := lv_entry ([.ref (a 0), .int (iI x1)]) (n := 4) (Nat.le_of_ble_eq_true rfl)
  rw [lg_entry_eq]
  generalize (lg_sl ([.ref (a 0), .int (iI x1)]) ++ List.replicate (4 - (lg_sl ([.ref (a 0), .int (iI x1)])).length) Slot.unset).toArray = ls at hl ⊢
  have hl : lv_has ls 4 [(0, .ref (a 0)), (1, .int (iI x1))] := hl
  generalize (List.toArray ([.ref (a 0), .int (iI x1)] : List Value)) = args at hts ⊢
  have hT : ∀ w ∈ Tg, w.before args s = true := fun w h => hts w (List.mem_cons_of_mem _ h)
  obtain ⟨Q, hQ⟩ : ∃ Q, Q = MQ below (QcRead (iI r)) args s 0 0 (fun _ => False) := ⟨_, rfl⟩
  rw [← hQ]
  rw [f_M_credit] at h
  refine lv_aload_n hx hb d_M_credit_0 rfl (lv_at hl 0 rfl) ?_
  refine va_get (D := D) (ci := 10) (v := .int (iI M_startWay)) (C := R_M) (T := F_M) (N := 53) hx hb hT in_M hown hK hP 0 rfl rfl 31 (by decide) (hT _ m1052) (fun _ h9 => h9) rfl d_M_credit_1 ?_
  have hj11 : ∀  (ls : Array Slot), lv_has ls 4 [] → f_M_credit_j11 F = some (r) → W p l e (headSpec w_M_credit rm_M_credit).room s m args below meth c s.heap [] 0 0 Q (F0 m 11 ls []) := by
    intro  ls hl h
    rw [f_M_credit_j11] at h
    refine zv_iconst hx hb d_M_credit_11 ?_
    have e1 := so1 h
    rw [hQ, e1]; exact W.iret hx hb hr (fun t ht hW => ⟨rfl, ht⟩) (fun q h => nomatch h) d_M_credit_12
  obtain ⟨hg0, h⟩ := gr_e h
  refine zi_lt hx hb d_M_credit_4 rfl hg0 (fun hc => ?_) (fun hc => ?_)
  · replace h := if_t hc h
    exact hj11  ls (lv_sub hl [] rfl) h
  · replace h := if_f hc h
    refine lv_iload_n hx hb d_M_credit_7 rfl (lv_at hl 1 rfl) ?_
    obtain ⟨hg0, h⟩ := gr_e h
    refine zi_ge hx hb d_M_credit_8 rfl hg0 (fun hc => ?_) (fun hc => ?_)
    · replace h := if_t hc h
      refine zv_iconst hx hb d_M_credit_13 ?_
      refine lv_istore_n (lv' := [(2, .int (iI 0)), (0, .ref (a 0)), (1, .int (iI x1))]) hx hb d_M_credit_14 rfl hl (by decide) rfl (fun ls hl => ?_)
      refine zv_iconst hx hb d_M_credit_15 ?_
      refine lv_istore_n (lv' := [(3, .int (iI 0)), (2, .int (iI 0)), (0, .ref (a 0)), (1, .int (iI x1))]) hx hb d_M_credit_16 rfl hl (by decide) rfl (fun ls hl => ?_)
      have hl17 : ∀ (nf : Nat) (v2 : Int) (v3 : Int) (ls : Array Slot), lv_has ls 4 [(0, .ref (a 0)), (1, .int (iI x1)), (2, .int (iI v2)), (3, .int (iI v3))] → lq2 (f_M_credit_b17 F M_startWay M_wayLast M_waySize M_wayRows M_waySpread x1) nf v2 v3 = some (r) → W p l e (headSpec w_M_credit rm_M_credit).room s m args below meth c s.heap [] 0 0 Q (F0 m 17 ls []) := by
        intro n17
        induction n17 with
        | zero => intro v2 v3 ls hl h; exact no_some h
        | succ n17 ih17 =>
          intro v2 v3 ls hl h
          replace h : f_M_credit_b17 F M_startWay M_wayLast M_waySize M_wayRows M_waySpread x1 (lq2 (f_M_credit_b17 F M_startWay M_wayLast M_waySize M_wayRows M_waySpread x1) n17) v2 v3 = some (r) := h
          obtain ⟨self17, hs17⟩ : ∃ z, z = lq2 (f_M_credit_b17 F M_startWay M_wayLast M_waySize M_wayRows M_waySpread x1) n17 := ⟨_, rfl⟩
          rw [← hs17] at h ih17
          rw [f_M_credit_b17] at h
          refine lv_iload_n hx hb d_M_credit_17 rfl (lv_at hl 3 rfl) ?_
          refine lv_aload_n hx hb d_M_credit_18 rfl (lv_at hl 0 rfl) ?_
          refine va_get (D := D) (ci := 10) (v := .ref (a 17)) (C := R_M) (T := F_M) (N := 53) hx hb hT in_M hown hK hP 0 rfl rfl 22 (by decide) (hT _ m1043) (fun _ h9 => h9) rfl d_M_credit_19 ?_
          refine lv_aload_n hx hb d_M_credit_22 rfl (lv_at hl 0 rfl) ?_
          refine va_get (D := D) (ci := 10) (v := .int (iI M_startWay)) (C := R_M) (T := F_M) (N := 53) hx hb hT in_M hown hK hP 0 rfl rfl 31 (by decide) (hT _ m1052) (fun _ h9 => h9) rfl d_M_credit_23 ?_
          obtain ⟨hin, h⟩ := gi_e h
          refine zv_iald hx hb hK hP 2 0 rfl rfl (Nat.le_of_ble_eq_true rfl) hin d_M_credit_26 ?_
          have hj88 : ∀  (ls : Array Slot), lv_has ls 4 [(0, .ref (a 0)), (1, .int (iI x1)), (2, .int (iI v2))] → f_M_credit_j88 F M_startWay M_wayLast x1 v2 = some (r) → W p l e (headSpec w_M_credit rm_M_credit).room s m args below meth c s.heap [] 0 0 Q (F0 m 88 ls []) := by
            intro  ls hl h
            rw [f_M_credit_j88] at h
            refine lv_aload_n hx hb d_M_credit_88 rfl (lv_at hl 0 rfl) ?_
            refine va_get (D := D) (ci := 10) (v := .int (iI M_startWay)) (C := R_M) (T := F_M) (N := 53) hx hb hT in_M hown hK hP 0 rfl rfl 31 (by decide) (hT _ m1052) (fun _ h9 => h9) rfl d_M_credit_89 ?_
            refine lv_iload_n hx hb d_M_credit_92 rfl (lv_at hl 1 rfl) ?_
            obtain ⟨hg0, h⟩ := gr_e h
            obtain ⟨hg1, h⟩ := gr_e h
            refine zc_ne hx hb d_M_credit_93 rfl hg0 hg1 (fun hc => ?_) (fun hc => ?_)
            · replace h := if_f hc h
              refine lv_iload_n hx hb d_M_credit_107 rfl (lv_at hl 2 rfl) ?_
              have e1 := so1 h
              rw [hQ, e1]; exact W.iret hx hb hr (fun t ht hW => ⟨rfl, ht⟩) (fun q h => nomatch h) d_M_credit_108
            · replace h := if_t hc h
              refine lv_iload_n hx hb d_M_credit_96 rfl (lv_at hl 2 rfl) ?_
              refine lv_aload_n hx hb d_M_credit_97 rfl (lv_at hl 0 rfl) ?_
              refine va_get (D := D) (ci := 10) (v := .ref (a 16)) (C := R_M) (T := F_M) (N := 53) hx hb hT in_M hown hK hP 0 rfl rfl 21 (by decide) (hT _ m1042) (fun _ h9 => h9) rfl d_M_credit_98 ?_
              refine lv_iload_n hx hb d_M_credit_101 rfl (lv_at hl 1 rfl) ?_
              obtain ⟨hin, h⟩ := gi_e h
              refine zv_iald hx hb hK hP 1 0 rfl rfl (Nat.le_of_ble_eq_true rfl) hin d_M_credit_102 ?_
              refine zv_iadd hx hb d_M_credit_103 ?_
              refine lv_goto hx hb d_M_credit_104 rfl ?_
              have e1 := so1 h
              rw [hQ, e1]; exact W.iret hx hb hr (fun t ht hW => ⟨rfl, ht⟩) (fun q h => nomatch h) d_M_credit_108
          obtain ⟨hg0, h⟩ := gr_e h
          obtain ⟨hg1, h⟩ := gr_e h
          refine zc_ge hx hb d_M_credit_27 rfl hg0 hg1 (fun hc => ?_) (fun hc => ?_)
          · replace h := if_t hc h
            exact hj88  ls (lv_sub hl [0, 1, 2] rfl) h
          · replace h := if_f hc h
            refine lv_iload_n hx hb d_M_credit_30 rfl (lv_at hl 3 rfl) ?_
            refine lv_aload_n hx hb d_M_credit_31 rfl (lv_at hl 0 rfl) ?_
            refine va_get (D := D) (ci := 10) (v := .ref (a 17)) (C := R_M) (T := F_M) (N := 53) hx hb hT in_M hown hK hP 0 rfl rfl 22 (by decide) (hT _ m1043) (fun _ h9 => h9) rfl d_M_credit_32 ?_
            refine lv_iload_n hx hb d_M_credit_35 rfl (lv_at hl 1 rfl) ?_
            obtain ⟨hin, h⟩ := gi_e h
            refine zv_iald hx hb hK hP 2 0 rfl rfl (Nat.le_of_ble_eq_true rfl) hin d_M_credit_36 ?_
            obtain ⟨hg0, h⟩ := gr_e h
            obtain ⟨hg1, h⟩ := gr_e h
            refine zc_ge hx hb d_M_credit_37 rfl hg0 hg1 (fun hc => ?_) (fun hc => ?_)
            · replace h := if_t hc h
              exact hj88  ls (lv_sub hl [0, 1, 2] rfl) h
            · replace h := if_f hc h
              refine lv_aload_n hx hb d_M_credit_40 rfl (lv_at hl 0 rfl) ?_
              refine va_get (D := D) (ci := 10) (v := .ref (a 18)) (C := R_M) (T := F_M) (N := 53) hx hb hT in_M hown hK hP 0 rfl rfl 23 (by decide) (hT _ m1044) (fun _ h9 => h9) rfl d_M_credit_41 ?_
              refine lv_bipush (v := iI 49) hx hb d_M_credit_44 (by decide) ?_
              refine lv_aload_n hx hb d_M_credit_46 rfl (lv_at hl 0 rfl) ?_
              refine va_get (D := D) (ci := 10) (v := .int (iI M_startWay)) (C := R_M) (T := F_M) (N := 53) hx hb hT in_M hown hK hP 0 rfl rfl 31 (by decide) (hT _ m1052) (fun _ h9 => h9) rfl d_M_credit_47 ?_
              refine zv_imul hx hb d_M_credit_50 ?_
              refine lv_iload_n hx hb d_M_credit_51 rfl (lv_at hl 3 rfl) ?_
              refine zv_iadd hx hb d_M_credit_52 ?_
              obtain ⟨hin, h⟩ := gi_e h
              refine zv_iald hx hb hK hP 3 0 rfl rfl (Nat.le_of_ble_eq_true rfl) hin d_M_credit_53 ?_
              refine lv_aload_n hx hb d_M_credit_54 rfl (lv_at hl 0 rfl) ?_
              refine va_get (D := D) (ci := 10) (v := .ref (a 18)) (C := R_M) (T := F_M) (N := 53) hx hb hT in_M hown hK hP 0 rfl rfl 23 (by decide) (hT _ m1044) (fun _ h9 => h9) rfl d_M_credit_55 ?_
              refine lv_bipush (v := iI 49) hx hb d_M_credit_58 (by decide) ?_
              refine lv_iload_n hx hb d_M_credit_60 rfl (lv_at hl 1 rfl) ?_
              refine zv_imul hx hb d_M_credit_61 ?_
              refine lv_iload_n hx hb d_M_credit_62 rfl (lv_at hl 3 rfl) ?_
              refine zv_iadd hx hb d_M_credit_63 ?_
              obtain ⟨hin, h⟩ := gi_e h
              refine zv_iald hx hb hK hP 3 0 rfl rfl (Nat.le_of_ble_eq_true rfl) hin d_M_credit_64 ?_
              obtain ⟨hg0, h⟩ := gr_e h
              obtain ⟨hg1, h⟩ := gr_e h
              refine zc_ne hx hb d_M_credit_65 rfl hg0 hg1 (fun hc => ?_) (fun hc => ?_)
              · replace h := if_f hc h
                exact hj88  ls (lv_sub hl [0, 1, 2] rfl) h
              · replace h := if_t hc h
                refine lv_iload_n hx hb d_M_credit_68 rfl (lv_at hl 2 rfl) ?_
                refine lv_aload_n hx hb d_M_credit_69 rfl (lv_at hl 0 rfl) ?_
                refine va_get (D := D) (ci := 10) (v := .ref (a 19)) (C := R_M) (T := F_M) (N := 53) hx hb hT in_M hown hK hP 0 rfl rfl 24 (by decide) (hT _ m1045) (fun _ h9 => h9) rfl d_M_credit_70 ?_
                refine lv_bipush (v := iI 49) hx hb d_M_credit_73 (by decide) ?_
                refine lv_iload_n hx hb d_M_credit_75 rfl (lv_at hl 1 rfl) ?_
                refine zv_imul hx hb d_M_credit_76 ?_
                refine lv_iload_n hx hb d_M_credit_77 rfl (lv_at hl 3 rfl) ?_
                refine zv_iadd hx hb d_M_credit_78 ?_
                obtain ⟨hin, h⟩ := gi_e h
                refine zv_iald hx hb hK hP 4 0 rfl rfl (Nat.le_of_ble_eq_true rfl) hin d_M_credit_79 ?_
                refine zv_iadd hx hb d_M_credit_80 ?_
                refine zv_top (fun v2_1 hv => ?_)
                replace h := bd_e hv h
                refine lv_istore_n (lv' := [(2, .int (iI v2_1)), (0, .ref (a 0)), (1, .int (iI x1)), (3, .int (iI v3))]) hx hb d_M_credit_81 rfl hl (by decide) rfl (fun ls hl => ?_)
                refine lv_iinc (v := iI (v3 + 1)) (k := 3) (lv' := [(3, .int (iI (v3 + 1))), (2, .int (iI v2_1)), (0, .ref (a 0)), (1, .int (iI x1))]) hx hb d_M_credit_82 hl rfl (iI_add _ _) (by decide) rfl (fun ls hl => ?_)
                refine lv_goto hx hb d_M_credit_85 rfl ?_
                exact ih17 v2_1 (v3 + 1) ls (lv_sub hl [2, 3, 1, 0] rfl) h
      exact hl17 F 0 0 ls (lv_sub hl [2, 3, 1, 0] rfl) h
    · replace h := if_f hc h
      exact hj11  ls (lv_sub hl [] rfl) h
