abbrev rm_T_isDelay : Room := { frames := 0, cells := 0, slots := 0, locals := 0 }
set_option maxHeartbeats 4000000 in
set_option maxRecDepth 100000 in
theorem c_T_isDelay (l : Launch) (D : va_G) (cI cJ cZ : ClassId) (F : Nat) (a : Nat → Nat) (x0 : Int) (x1 : Int) (r : Int) (sz : Nat) (h : f_T_isDelay F x0 x1 = some (r)) : Met l y_T_isDelay w_T_isDelay rm_T_isDelay (PC D [(cI, .int), (cJ, .long), (cZ, .boolean)] [.int (iI x0), .int (iI x1)] ([]) sz) (QcRead (iI r)) 0 0 (fun _ => False) := by
  refine Met.ofW (cc := prog_1_method_28_code) (maxL := 2) (ret := (Option.some Jvm.ClassFile.FieldType.boolean)) (by decide) rfl ?_
  intro p e s m args below meth c s₁ B hml hv
  obtain ⟨rfl, hsz, hP, hK, hD0, hN⟩ := hv
  have hx := B.exec
  have hb := B.bytes
  have hr := B.returns
  have hts := atoms_spec (ws := w_T_isDelay) B.pre
  have hown : s.vm.findClass R_T = some m.cls := findClass_of_methodNamed B.named
  have hlocks := B.notSynchronized
  subst hsz
  have hl := lv_entry ([.int (iI x0), .int (iI x1)]) (n := 2) (Nat.le_of_ble_eq_true rfl)
  rw [lg_entry_eq]
  generalize (lg_sl ([.int (iI x0), .int (iI x1)]) ++ List.replicate (2 - (lg_sl ([.int (iI x0), .int (iI x1)])).length) Slot.unset).toArray = ls at hl ⊢
  have hl : lv_has ls 2 [(0, .int (iI x0)), (1, .int (iI x1))] := hl
  generalize (List.toArray ([.int (iI x0), .int (iI x1)] : List Value)) = args at hts ⊢
  have hT : ∀ w ∈ Tg, w.before args s = true := fun w h => hts w (List.mem_cons_of_mem _ h)
  obtain ⟨Q, hQ⟩ : ∃ Q, Q = MQ below (QcRead (iI r)) args s 0 0 (fun _ => False) := ⟨_, rfl⟩
  rw [← hQ]
  rw [f_T_isDelay] at h
  refine lv_iload_n hx hb d_T_isDelay_0 rfl (lv_at hl 0 rfl) ?_
  have hj20 : ∀  (ls : Array Slot), lv_has ls 2 [] → f_T_isDelay_j20 F = some (r) → W p l e (headSpec w_T_isDelay rm_T_isDelay).room s m args below meth c s.heap [] 0 0 Q (F0 m 20 ls []) := by
    intro  ls hl h
    rw [f_T_isDelay_j20] at h
    refine zv_iconst hx hb d_T_isDelay_20 ?_
    obtain ⟨hbo, h⟩ := gb_e h
    have e1 := so1 h
    rw [hQ, e1]; exact W.zret (ty := .boolean) hx hb hr (gb_n hbo) (fun t ht hW => ⟨rfl, ht⟩) (fun q h => nomatch h) d_T_isDelay_21
  obtain ⟨hg0, h⟩ := gr_e h
  refine zi_lt hx hb d_T_isDelay_1 rfl hg0 (fun hc => ?_) (fun hc => ?_)
  · replace h := if_t hc h
    exact hj20  ls (lv_sub hl [] rfl) h
  · replace h := if_f hc h
    refine lv_iload_n hx hb d_T_isDelay_4 rfl (lv_at hl 1 rfl) ?_
    refine lv_sipush (v := iI 10000) hx hb d_T_isDelay_5 (by decide) ?_
    obtain ⟨hg0, h⟩ := gr_e h
    refine zc_gt hx hb d_T_isDelay_8 rfl hg0 (by decide) (fun hc => ?_) (fun hc => ?_)
    · replace h := if_t hc h
      exact hj20  ls (lv_sub hl [] rfl) h
    · replace h := if_f hc h
      refine lv_iload_n hx hb d_T_isDelay_11 rfl (lv_at hl 0 rfl) ?_
      refine lv_iload_n hx hb d_T_isDelay_12 rfl (lv_at hl 1 rfl) ?_
      obtain ⟨hg0, h⟩ := gr_e h
      obtain ⟨hg1, h⟩ := gr_e h
      refine zc_gt hx hb d_T_isDelay_13 rfl hg0 hg1 (fun hc => ?_) (fun hc => ?_)
      · replace h := if_t hc h
        exact hj20  ls (lv_sub hl [] rfl) h
      · replace h := if_f hc h
        refine zv_iconst hx hb d_T_isDelay_16 ?_
        refine lv_goto hx hb d_T_isDelay_17 rfl ?_
        obtain ⟨hbo, h⟩ := gb_e h
        have e1 := so1 h
        rw [hQ, e1]; exact W.zret (ty := .boolean) hx hb hr (gb_n hbo) (fun t ht hW => ⟨rfl, ht⟩) (fun q h => nomatch h) d_T_isDelay_21
abbrev rm_Net_setWire : Room := { frames := 0, cells := 0, slots := 0, locals := 0 }
set_option maxHeartbeats 4000000 in
set_option maxRecDepth 100000 in
theorem c_Net_setWire (l : Launch) (D : va_G) (cI cJ cZ : ClassId) (F : Nat) (a : Nat → Nat) (N_period : Int) (N_width : Int) (N_size : Int) (N_source : Int → Int) (N_wireEarly : Int → Int) (N_wireLate : Int → Int) (x1 : Int) (x2 : Int) (x3 : Int) (x4 : Int) (z_N_source : Int → Int) (z_N_wireEarly : Int → Int) (z_N_wireLate : Int → Int) (sz : Nat) (h : f_Net_setWire F N_source N_wireEarly N_wireLate x1 x2 x3 x4 = some (z_N_source, z_N_wireEarly, z_N_wireLate)) : Met l y_Net_setWire w_Net_setWire rm_Net_setWire (PC D [(cI, .int), (cJ, .long), (cZ, .boolean)] [.ref (a 43), .int (iI x1), .int (iI x2), .int (iI x3), .int (iI x4)] ([(o_N a N_period N_width N_size), ((a 46), .inl (cI, 144, .inl (ia N_source))), ((a 47), .inl (cI, 144, .inl (ia N_wireEarly))), ((a 48), .inl (cI, 144, .inl (ia N_wireLate)))]) sz) (QV D [(cI, .int), (cJ, .long), (cZ, .boolean)] ([(o_N a N_period N_width N_size), ((a 46), .inl (cI, 144, .inl (ia N_source))), ((a 47), .inl (cI, 144, .inl (ia N_wireEarly))), ((a 48), .inl (cI, 144, .inl (ia N_wireLate)))]) sz ([(o_N a N_period N_width N_size), ((a 46), .inl (cI, 144, .inl (ia z_N_source))), ((a 47), .inl (cI, 144, .inl (ia z_N_wireEarly))), ((a 48), .inl (cI, 144, .inl (ia z_N_wireLate)))])) 0 0 (va_A ([(o_N a N_period N_width N_size), ((a 46), .inl (cI, 144, .inl (ia N_source))), ((a 47), .inl (cI, 144, .inl (ia N_wireEarly))), ((a 48), .inl (cI, 144, .inl (ia N_wireLate)))]) sz) := by
  refine Met.ofW (cc := prog_5_method_9_code) (maxL := 5) (ret := (Option.none : Option Jvm.ClassFile.FieldType)) (by decide) rfl ?_
  intro p e s m args below meth c s₁ B hml hv
  obtain ⟨rfl, hsz, hP, hK, hD0, hN⟩ := hv
  have hx := B.exec
  have hb := B.bytes
  have hr := B.returns
  have hts := atoms_spec (ws := w_Net_setWire) B.pre
  have hown : s.vm.findClass R_Net = some m.cls := findClass_of_methodNamed B.named
  have hlocks := B.notSynchronized
  subst hsz
  have hD := hD0.self (sz := s.heap.size)
  obtain ⟨A, hAe⟩ : ∃ A, A = va_A ([(o_N a N_period N_width N_size), ((a 46), .inl (cI, 144, .inl (ia N_source))), ((a 47), .inl (cI, 144, .inl (ia N_wireEarly))), ((a 48), .inl (cI, 144, .inl (ia N_wireLate)))]) s.heap.size := ⟨_, rfl⟩
  rw [← hAe] at hD
  have hA : ∀ q : Nat, s.heap.size ≤ q → A q := fun q h => by rw [hAe]; exact Or.inr h
  have hS : va_S A s.heap s.heap [] := va_S.rf
  have hl := lv_entry ([.ref (a 43), .int (iI x1), .int (iI x2), .int (iI x3), .int (iI x4)]) (n := 5) (Nat.le_of_ble_eq_true rfl)
  rw [lg_entry_eq]
  generalize (lg_sl ([.ref (a 43), .int (iI x1), .int (iI x2), .int (iI x3), .int (iI x4)]) ++ List.replicate (5 - (lg_sl ([.ref (a 43), .int (iI x1), .int (iI x2), .int (iI x3), .int (iI x4)])).length) Slot.unset).toArray = ls at hl ⊢
  have hl : lv_has ls 5 [(0, .ref (a 43)), (1, .int (iI x1)), (2, .int (iI x2)), (3, .int (iI x3)), (4, .int (iI x4))] := hl
  generalize (List.toArray ([.ref (a 43), .int (iI x1), .int (iI x2), .int (iI x3), .int (iI x4)] : List Value)) = args at hts ⊢
  have hT : ∀ w ∈ Tg, w.before args s = true := fun w h => hts w (List.mem_cons_of_mem _ h)
  obtain ⟨Q, hQ⟩ : ∃ Q, Q = MQ below (QV D [(cI, .int), (cJ, .long), (cZ, .boolean)] ([(o_N a N_period N_width N_size), ((a 46), .inl (cI, 144, .inl (ia N_source))), ((a 47), .inl (cI, 144, .inl (ia N_wireEarly))), ((a 48), .inl (cI, 144, .inl (ia N_wireLate)))]) s.heap.size ([(o_N a N_period N_width N_size), ((a 46), .inl (cI, 144, .inl (ia z_N_source))), ((a 47), .inl (cI, 144, .inl (ia z_N_wireEarly))), ((a 48), .inl (cI, 144, .inl (ia z_N_wireLate)))])) args s 0 0 (va_A ([(o_N a N_period N_width N_size), ((a 46), .inl (cI, 144, .inl (ia N_source))), ((a 47), .inl (cI, 144, .inl (ia N_wireEarly))), ((a 48), .inl (cI, 144, .inl (ia N_wireLate)))]) s.heap.size) := ⟨_, rfl⟩
  rw [← hQ]
  suffices hW : ∀ (H : Heap) (locs : List Loc), va_P D vwCl ([(o_N a N_period N_width N_size), ((a 46), .inl (cI, 144, .inl (ia N_source))), ((a 47), .inl (cI, 144, .inl (ia N_wireEarly))), ((a 48), .inl (cI, 144, .inl (ia N_wireLate)))]) H → va_D A ([(o_N a N_period N_width N_size), ((a 46), .inl (cI, 144, .inl (ia N_source))), ((a 47), .inl (cI, 144, .inl (ia N_wireEarly))), ((a 48), .inl (cI, 144, .inl (ia N_wireLate)))]) → va_S A s.heap H locs → W p l e (headSpec w_Net_setWire rm_Net_setWire).room s m args below meth c H locs 0 0 Q (F0 m 0 ls []) from hW s.heap [] hP hD hS
  clear hP hD hS
  intro H locs hP hD hS
  rw [f_Net_setWire] at h
  refine lv_aload_n hx hb d_Net_setWire_0 rfl (lv_at hl 0 rfl) ?_
  refine va_get (D := D) (ci := 1) (v := .ref (a 46)) (C := R_Net) (T := F_Net) (N := 15) hx hb hT in_Net hown hK hP 0 rfl rfl 5 (by decide) (hT _ m64) (fun _ h9 => h9) rfl d_Net_setWire_1 ?_
  refine lv_iload_n hx hb d_Net_setWire_4 rfl (lv_at hl 1 rfl) ?_
  refine lv_iload_n hx hb d_Net_setWire_5 rfl (lv_at hl 2 rfl) ?_
  obtain ⟨hin, h⟩ := gi_e h
  refine zv_iast hx hb hK hP hD hS 1 0 rfl rfl (Nat.le_of_ble_eq_true rfl) hin d_Net_setWire_6 (fun H locs hP hD hS => ?_)
  obtain ⟨N_source_1, hv⟩ : ∃ z, z = (ui N_source x1 x2) := ⟨_, rfl⟩
  replace h := bd_e hv h
  have hP : va_P D vwCl [(o_N a N_period N_width N_size), ((a 46), .inl (cI, 144, .inl (ia N_source_1))), ((a 47), .inl (cI, 144, .inl (ia N_wireEarly))), ((a 48), .inl (cI, 144, .inl (ia N_wireLate)))] H := by rw [hv]; exact hP
  have hD : va_D A [(o_N a N_period N_width N_size), ((a 46), .inl (cI, 144, .inl (ia N_source_1))), ((a 47), .inl (cI, 144, .inl (ia N_wireEarly))), ((a 48), .inl (cI, 144, .inl (ia N_wireLate)))] := by rw [hv]; exact hD
  refine lv_aload_n hx hb d_Net_setWire_7 rfl (lv_at hl 0 rfl) ?_
  refine va_get (D := D) (ci := 1) (v := .ref (a 47)) (C := R_Net) (T := F_Net) (N := 15) hx hb hT in_Net hown hK hP 0 rfl rfl 6 (by decide) (hT _ m71) (fun _ h9 => h9) rfl d_Net_setWire_8 ?_
  refine lv_iload_n hx hb d_Net_setWire_11 rfl (lv_at hl 1 rfl) ?_
  refine lv_iload_n hx hb d_Net_setWire_12 rfl (lv_at hl 3 rfl) ?_
  obtain ⟨hin, h⟩ := gi_e h
  refine zv_iast hx hb hK hP hD hS 2 0 rfl rfl (Nat.le_of_ble_eq_true rfl) hin d_Net_setWire_13 (fun H locs hP hD hS => ?_)
  obtain ⟨N_wireEarly_2, hv⟩ : ∃ z, z = (ui N_wireEarly x1 x3) := ⟨_, rfl⟩
  replace h := bd_e hv h
  have hP : va_P D vwCl [(o_N a N_period N_width N_size), ((a 46), .inl (cI, 144, .inl (ia N_source_1))), ((a 47), .inl (cI, 144, .inl (ia N_wireEarly_2))), ((a 48), .inl (cI, 144, .inl (ia N_wireLate)))] H := by rw [hv]; exact hP
  have hD : va_D A [(o_N a N_period N_width N_size), ((a 46), .inl (cI, 144, .inl (ia N_source_1))), ((a 47), .inl (cI, 144, .inl (ia N_wireEarly_2))), ((a 48), .inl (cI, 144, .inl (ia N_wireLate)))] := by rw [hv]; exact hD
  refine lv_aload_n hx hb d_Net_setWire_14 rfl (lv_at hl 0 rfl) ?_
  refine va_get (D := D) (ci := 1) (v := .ref (a 48)) (C := R_Net) (T := F_Net) (N := 15) hx hb hT in_Net hown hK hP 0 rfl rfl 7 (by decide) (hT _ m76) (fun _ h9 => h9) rfl d_Net_setWire_15 ?_
  refine lv_iload_n hx hb d_Net_setWire_18 rfl (lv_at hl 1 rfl) ?_
  refine lv_iload hx hb d_Net_setWire_19 (lv_at hl 4 rfl) ?_
  obtain ⟨hin, h⟩ := gi_e h
  refine zv_iast hx hb hK hP hD hS 3 0 rfl rfl (Nat.le_of_ble_eq_true rfl) hin d_Net_setWire_21 (fun H locs hP hD hS => ?_)
  obtain ⟨N_wireLate_3, hv⟩ : ∃ z, z = (ui N_wireLate x1 x4) := ⟨_, rfl⟩
  replace h := bd_e hv h
  have hP : va_P D vwCl [(o_N a N_period N_width N_size), ((a 46), .inl (cI, 144, .inl (ia N_source_1))), ((a 47), .inl (cI, 144, .inl (ia N_wireEarly_2))), ((a 48), .inl (cI, 144, .inl (ia N_wireLate_3)))] H := by rw [hv]; exact hP
  have hD : va_D A [(o_N a N_period N_width N_size), ((a 46), .inl (cI, 144, .inl (ia N_source_1))), ((a 47), .inl (cI, 144, .inl (ia N_wireEarly_2))), ((a 48), .inl (cI, 144, .inl (ia N_wireLate_3)))] := by rw [hv]; exact hD
  obtain ⟨e1, e2, e3⟩ := so3 h
  rw [hQ, e1, e2, e3]; rw [hAe] at hD hS; exact W.vret hx hb hr (fun t ht hW => ⟨⟨(), rfl, trivial, by rw [ht]; exact hP, va_K.moved hW.alike hK, hD⟩, hS.F ht⟩) hS.2.2 d_Net_setWire_22
abbrev rm_T_wire : Room := { frames := 6, cells := 0, slots := 0, locals := 110 }
set_option maxHeartbeats 4000000 in
set_option maxRecDepth 100000 in
theorem c_T_wire (l : Launch) (D : va_G) (cI cJ cZ : ClassId) (F : Nat) (a : Nat → Nat) (T_analysed : Int) (N_period : Int) (N_width : Int) (N_size : Int) (N_kind : Int → Int) (N_pins : Int → Int) (N_source : Int → Int) (N_wireEarly : Int → Int) (N_wireLate : Int → Int) (x1 : Int) (x2 : Int) (x3 : Int) (x4 : Int) (x5 : Int) (z_T_analysed : Int) (z_N_source : Int → Int) (z_N_wireEarly : Int → Int) (z_N_wireLate : Int → Int) (sz : Nat) (h : f_T_wire F N_size N_kind N_pins N_source N_wireEarly N_wireLate x1 x2 x3 x4 x5 = some (z_T_analysed, z_N_source, z_N_wireEarly, z_N_wireLate)) : Met l y_T_wire w_T_wire rm_T_wire (PC D [(cI, .int), (cJ, .long), (cZ, .boolean)] [.ref (a 0), .int (iI x1), .int (iI x2), .int (iI x3), .int (iI x4), .int (iI x5)] ([(o_T a T_analysed), (o_N a N_period N_width N_size), ((a 44), .inl (cI, 48, .inl (ia N_kind))), ((a 45), .inl (cI, 48, .inl (ia N_pins))), ((a 46), .inl (cI, 144, .inl (ia N_source))), ((a 47), .inl (cI, 144, .inl (ia N_wireEarly))), ((a 48), .inl (cI, 144, .inl (ia N_wireLate)))]) sz) (QV D [(cI, .int), (cJ, .long), (cZ, .boolean)] ([(o_T a T_analysed), (o_N a N_period N_width N_size), ((a 44), .inl (cI, 48, .inl (ia N_kind))), ((a 45), .inl (cI, 48, .inl (ia N_pins))), ((a 46), .inl (cI, 144, .inl (ia N_source))), ((a 47), .inl (cI, 144, .inl (ia N_wireEarly))), ((a 48), .inl (cI, 144, .inl (ia N_wireLate)))]) sz ([(o_T a z_T_analysed), (o_N a N_period N_width N_size), ((a 44), .inl (cI, 48, .inl (ia N_kind))), ((a 45), .inl (cI, 48, .inl (ia N_pins))), ((a 46), .inl (cI, 144, .inl (ia z_N_source))), ((a 47), .inl (cI, 144, .inl (ia z_N_wireEarly))), ((a 48), .inl (cI, 144, .inl (ia z_N_wireLate)))])) 0 0 (va_A ([(o_T a T_analysed), (o_N a N_period N_width N_size), ((a 44), .inl (cI, 48, .inl (ia N_kind))), ((a 45), .inl (cI, 48, .inl (ia N_pins))), ((a 46), .inl (cI, 144, .inl (ia N_source))), ((a 47), .inl (cI, 144, .inl (ia N_wireEarly))), ((a 48), .inl (cI, 144, .inl (ia N_wireLate)))]) sz) := by
  refine Met.ofW (cc := prog_1_method_7_code) (maxL := 6) (ret := (Option.none : Option Jvm.ClassFile.FieldType)) (by decide) rfl ?_
  intro p e s m args below meth c s₁ B hml hv
  obtain ⟨rfl, hsz, hP, hK, hD0, hN⟩ := hv
  have hx := B.exec
  have hb := B.bytes
  have hr := B.returns
  have hts := atoms_spec (ws := w_T_wire) B.pre
  have hown : s.vm.findClass R_T = some m.cls := findClass_of_methodNamed B.named
  have hlocks := B.notSynchronized
  subst hsz
  have hD := hD0.self (sz := s.heap.size)
  obtain ⟨A, hAe⟩ : ∃ A, A = va_A ([(o_T a T_analysed), (o_N a N_period N_width N_size), ((a 44), .inl (cI, 48, .inl (ia N_kind))), ((a 45), .inl (cI, 48, .inl (ia N_pins))), ((a 46), .inl (cI, 144, .inl (ia N_source))), ((a 47), .inl (cI, 144, .inl (ia N_wireEarly))), ((a 48), .inl (cI, 144, .inl (ia N_wireLate)))]) s.heap.size := ⟨_, rfl⟩
  rw [← hAe] at hD
  have hA : ∀ q : Nat, s.heap.size ≤ q → A q := fun q h => by rw [hAe]; exact Or.inr h
  have hS : va_S A s.heap s.heap [] := va_S.rf
  have hl := lv_entry ([.ref (a 0), .int (iI x1), .int (iI x2), .int (iI x3), .int (iI x4), .int (iI x5)]) (n := 6) (Nat.le_of_ble_eq_true rfl)
  rw [lg_entry_eq]
  generalize (lg_sl ([.ref (a 0), .int (iI x1), .int (iI x2), .int (iI x3), .int (iI x4), .int (iI x5)]) ++ List.replicate (6 - (lg_sl ([.ref (a 0), .int (iI x1), .int (iI x2), .int (iI x3), .int (iI x4), .int (iI x5)])).length) Slot.unset).toArray = ls at hl ⊢
  have hl : lv_has ls 6 [(0, .ref (a 0)), (1, .int (iI x1)), (2, .int (iI x2)), (3, .int (iI x3)), (4, .int (iI x4)), (5, .int (iI x5))] := hl
  generalize (List.toArray ([.ref (a 0), .int (iI x1), .int (iI x2), .int (iI x3), .int (iI x4), .int (iI x5)] : List Value)) = args at hts ⊢
  have hT : ∀ w ∈ Tg, w.before args s = true := fun w h => hts w (List.mem_cons_of_mem _ h)
  obtain ⟨Q, hQ⟩ : ∃ Q, Q = MQ below (QV D [(cI, .int), (cJ, .long), (cZ, .boolean)] ([(o_T a T_analysed), (o_N a N_period N_width N_size), ((a 44), .inl (cI, 48, .inl (ia N_kind))), ((a 45), .inl (cI, 48, .inl (ia N_pins))), ((a 46), .inl (cI, 144, .inl (ia N_source))), ((a 47), .inl (cI, 144, .inl (ia N_wireEarly))), ((a 48), .inl (cI, 144, .inl (ia N_wireLate)))]) s.heap.size ([(o_T a z_T_analysed), (o_N a N_period N_width N_size), ((a 44), .inl (cI, 48, .inl (ia N_kind))), ((a 45), .inl (cI, 48, .inl (ia N_pins))), ((a 46), .inl (cI, 144, .inl (ia z_N_source))), ((a 47), .inl (cI, 144, .inl (ia z_N_wireEarly))), ((a 48), .inl (cI, 144, .inl (ia z_N_wireLate)))])) args s 0 0 (va_A ([(o_T a T_analysed), (o_N a N_period N_width N_size), ((a 44), .inl (cI, 48, .inl (ia N_kind))), ((a 45), .inl (cI, 48, .inl (ia N_pins))), ((a 46), .inl (cI, 144, .inl (ia N_source))), ((a 47), .inl (cI, 144, .inl (ia N_wireEarly))), ((a 48), .inl (cI, 144, .inl (ia N_wireLate)))]) s.heap.size) := ⟨_, rfl⟩
  rw [← hQ]
  suffices hW : ∀ (H : Heap) (locs : List Loc), va_P D vwCl ([(o_T a T_analysed), (o_N a N_period N_width N_size), ((a 44), .inl (cI, 48, .inl (ia N_kind))), ((a 45), .inl (cI, 48, .inl (ia N_pins))), ((a 46), .inl (cI, 144, .inl (ia N_source))), ((a 47), .inl (cI, 144, .inl (ia N_wireEarly))), ((a 48), .inl (cI, 144, .inl (ia N_wireLate)))]) H → va_D A ([(o_T a T_analysed), (o_N a N_period N_width N_size), ((a 44), .inl (cI, 48, .inl (ia N_kind))), ((a 45), .inl (cI, 48, .inl (ia N_pins))), ((a 46), .inl (cI, 144, .inl (ia N_source))), ((a 47), .inl (cI, 144, .inl (ia N_wireEarly))), ((a 48), .inl (cI, 144, .inl (ia N_wireLate)))]) → va_S A s.heap H locs → W p l e (headSpec w_T_wire rm_T_wire).room s m args below meth c H locs 0 0 Q (F0 m 0 ls []) from hW s.heap [] hP hD hS
  clear hP hD hS
  intro H locs hP hD hS
  rw [f_T_wire] at h
  refine lv_aload_n hx hb d_T_wire_0 rfl (lv_at hl 0 rfl) ?_
  refine va_get (D := D) (ci := 0) (v := .ref (a 43)) (C := R_T) (T := F_T) (N := 7) hx hb hT in_T hown hK hP 0 rfl rfl 0 (by decide) (hT _ m409) (fun _ h9 => h9) rfl d_T_wire_1 ?_
  refine lv_iload_n hx hb d_T_wire_4 rfl (lv_at hl 1 rfl) ?_
  refine lv_iload_n hx hb d_T_wire_5 rfl (lv_at hl 2 rfl) ?_
  obtain ⟨r6, hcall, h⟩ := ob1_e h
  refine ro_i (va_Run.run (va_runV (As := [.int (iI x1), .int (iI x2)]) (rest := []) ⟨hx, hb, hml, hown, hts⟩ (c_Net_hasPin l D cI cJ cZ F a N_period N_width N_size N_pins x1 x2 r6 H.size hcall) (cwV 2 hts (gd_V m753 m750 m751 m752 m2) rfl rfl rfl ⟨rfl, hc_Net_hasPin⟩ ⟨Nat.le_of_ble_eq_true rfl, Nat.le_of_ble_eq_true rfl⟩) (pc_V 1 1 [.int (iI x1), .int (iI x2)] hP hK hD hN [1, 3] rfl rfl rfl rfl rfl) rfl rfl hl.1 rfl (lv_room (Nat.le_of_ble_eq_true rfl)) d_T_wire_6 ⟨Nat.le_refl 0, Nat.le_refl 0⟩)) (W.eq (g2 := F0 m 9 ls [.int (iI r6)]) rfl ?_)
  have hj33 : ∀  (H : Heap) (locs : List Loc) (ls : Array Slot), va_P D vwCl [(o_T a T_analysed), (o_N a N_period N_width N_size), ((a 44), .inl (cI, 48, .inl (ia N_kind))), ((a 45), .inl (cI, 48, .inl (ia N_pins))), ((a 46), .inl (cI, 144, .inl (ia N_source))), ((a 47), .inl (cI, 144, .inl (ia N_wireEarly))), ((a 48), .inl (cI, 144, .inl (ia N_wireLate)))] H → va_D A [(o_T a T_analysed), (o_N a N_period N_width N_size), ((a 44), .inl (cI, 48, .inl (ia N_kind))), ((a 45), .inl (cI, 48, .inl (ia N_pins))), ((a 46), .inl (cI, 144, .inl (ia N_source))), ((a 47), .inl (cI, 144, .inl (ia N_wireEarly))), ((a 48), .inl (cI, 144, .inl (ia N_wireLate)))] → va_S A s.heap H locs → lv_has ls 6 [] → f_T_wire_j33 F = some (z_T_analysed, z_N_source, z_N_wireEarly, z_N_wireLate) → W p l e (headSpec w_T_wire rm_T_wire).room s m args below meth c H locs 0 0 Q (F0 m 33 ls []) := by
    intro  H locs ls hP hD hS hl h
    rw [f_T_wire_j33] at h
    exact no_some h
  obtain ⟨hg0, h⟩ := gr_e h
  refine zi_eq hx hb d_T_wire_9 rfl hg0 (fun hc => ?_) (fun hc => ?_)
  · replace h := if_t hc h
    exact hj33  H locs ls hP hD hS (lv_sub hl [] rfl) h
  · replace h := if_f hc h
    refine lv_aload_n hx hb d_T_wire_12 rfl (lv_at hl 0 rfl) ?_
    refine va_get (D := D) (ci := 0) (v := .ref (a 43)) (C := R_T) (T := F_T) (N := 7) hx hb hT in_T hown hK hP 0 rfl rfl 0 (by decide) (hT _ m409) (fun _ h9 => h9) rfl d_T_wire_13 ?_
    refine lv_iload_n hx hb d_T_wire_16 rfl (lv_at hl 3 rfl) ?_
    obtain ⟨r17, hcall, h⟩ := ob1_e h
    refine ro_i (va_Run.run (va_runV (As := [.int (iI x3)]) (rest := []) ⟨hx, hb, hml, hown, hts⟩ (c_Net_maySend l D cI cJ cZ F a N_period N_width N_size N_kind x3 r17 H.size hcall) (cwV 1 hts (gd_V m757 m754 m755 m756 m2) rfl rfl rfl ⟨rfl, hc_Net_maySend⟩ ⟨Nat.le_of_ble_eq_true rfl, Nat.le_of_ble_eq_true rfl⟩) (pc_V 1 1 [.int (iI x3)] hP hK hD hN [1, 2] rfl rfl rfl rfl rfl) rfl rfl hl.1 rfl (lv_room (Nat.le_of_ble_eq_true rfl)) d_T_wire_17 ⟨Nat.le_refl 0, Nat.le_refl 0⟩)) (W.eq (g2 := F0 m 20 ls [.int (iI r17)]) rfl ?_)
    obtain ⟨hg0, h⟩ := gr_e h
    refine zi_eq hx hb d_T_wire_20 rfl hg0 (fun hc => ?_) (fun hc => ?_)
    · replace h := if_t hc h
      exact hj33  H locs ls hP hD hS (lv_sub hl [] rfl) h
    · replace h := if_f hc h
      refine lv_iload hx hb d_T_wire_23 (lv_at hl 4 rfl) ?_
      refine lv_iload hx hb d_T_wire_25 (lv_at hl 5 rfl) ?_
      obtain ⟨r27, hcall, h⟩ := ob1_e h
      refine ro_i (va_Run.run (va_runS (As := [.int (iI x4), .int (iI x5)]) (rest := []) ⟨hx, hb, hml, hown, hts⟩ (c_T_isDelay l D cI cJ cZ F a x4 x5 r27 H.size hcall) (cwS 2 hts (gd_S m760 m758 m759 m1) rfl rfl rfl ⟨rfl, hc_T_isDelay⟩ ⟨Nat.le_of_ble_eq_true rfl, Nat.le_of_ble_eq_true rfl⟩) (pc_S [.int (iI x4), .int (iI x5)] hP hK hD hN [] rfl rfl rfl) rfl rfl hl.1 rfl (lv_room (Nat.le_of_ble_eq_true rfl)) d_T_wire_27 ⟨Nat.le_refl 0, Nat.le_refl 0⟩)) (W.eq (g2 := F0 m 30 ls [.int (iI r27)]) rfl ?_)
      obtain ⟨hg0, h⟩ := gr_e h
      refine zi_ne hx hb d_T_wire_30 rfl hg0 (fun hc => ?_) (fun hc => ?_)
      · replace h := if_f hc h
        refine lv_aload_n hx hb d_T_wire_41 rfl (lv_at hl 0 rfl) ?_
        refine va_get (D := D) (ci := 0) (v := .ref (a 43)) (C := R_T) (T := F_T) (N := 7) hx hb hT in_T hown hK hP 0 rfl rfl 0 (by decide) (hT _ m409) (fun _ h9 => h9) rfl d_T_wire_42 ?_
        refine lv_iload_n hx hb d_T_wire_45 rfl (lv_at hl 1 rfl) ?_
        refine zv_iconst hx hb d_T_wire_46 ?_
        refine zv_imul hx hb d_T_wire_47 ?_
        refine lv_iload_n hx hb d_T_wire_48 rfl (lv_at hl 2 rfl) ?_
        refine zv_iadd hx hb d_T_wire_49 ?_
        refine lv_iload_n hx hb d_T_wire_50 rfl (lv_at hl 3 rfl) ?_
        refine lv_iload hx hb d_T_wire_51 (lv_at hl 4 rfl) ?_
        refine lv_iload hx hb d_T_wire_53 (lv_at hl 5 rfl) ?_
        obtain ⟨N_source_1, N_wireEarly_2, N_wireLate_3, hcall, h⟩ := ob3_e h
        refine ca_v (w2 := [(o_T a T_analysed), (o_N a N_period N_width N_size), ((a 44), .inl (cI, 48, .inl (ia N_kind))), ((a 45), .inl (cI, 48, .inl (ia N_pins))), ((a 46), .inl (cI, 144, .inl (ia N_source_1))), ((a 47), .inl (cI, 144, .inl (ia N_wireEarly_2))), ((a 48), .inl (cI, 144, .inl (ia N_wireLate_3)))]) (va_runV (As := [.int (iI ((x1 * 3) + x2)), .int (iI x3), .int (iI x4), .int (iI x5)]) (rest := []) ⟨hx, hb, hml, hown, hts⟩ (c_Net_setWire l D cI cJ cZ F a N_period N_width N_size N_source N_wireEarly N_wireLate ((x1 * 3) + x2) x3 x4 x5 N_source_1 N_wireEarly_2 N_wireLate_3 H.size hcall) (cwV 4 hts (gd_V m764 m761 m762 m763 m2) rfl rfl rfl ⟨rfl, hc_Net_setWire⟩ ⟨Nat.le_of_ble_eq_true rfl, Nat.le_of_ble_eq_true rfl⟩) (pc_V 1 1 [.int (iI ((x1 * 3) + x2)), .int (iI x3), .int (iI x4), .int (iI x5)] hP hK hD hN [1, 4, 5, 6] rfl rfl rfl rfl rfl) rfl rfl hl.1 rfl (lv_room (Nat.le_of_ble_eq_true rfl)) d_T_wire_55 ⟨Nat.le_refl 0, Nat.le_refl 0⟩) hP hD hS hA [1, 4, 5, 6] [0, 2, 3] [0, 3, 1, 2, 4, 5, 6] rfl rfl rfl (by decide) rfl rfl rfl (fun H locs hP hD hS => ?_)
        refine lv_aload_n hx hb d_T_wire_58 rfl (lv_at hl 0 rfl) ?_
        refine zv_iconst hx hb d_T_wire_59 ?_
        refine va_put (D := D) (ci := 0) (v := .int (iI 0)) (ty := .boolean) (C := R_T) (T := F_T) (N := 7) hx hb hT in_T ty_T ty_T_ok n_T hown hK hP hD hS 0 rfl rfl 6 (by decide) (hT _ m415) (fun _ h9 => h9) rfl (by decide +kernel) rfl rfl (Nat.le_of_ble_eq_true rfl) d_T_wire_60 (fun H locs hP hD hS => ?_)
        have hP : va_P D vwCl [(o_T a 0), (o_N a N_period N_width N_size), ((a 44), .inl (cI, 48, .inl (ia N_kind))), ((a 45), .inl (cI, 48, .inl (ia N_pins))), ((a 46), .inl (cI, 144, .inl (ia N_source_1))), ((a 47), .inl (cI, 144, .inl (ia N_wireEarly_2))), ((a 48), .inl (cI, 144, .inl (ia N_wireLate_3)))] H := hP
        have hD : va_D A [(o_T a 0), (o_N a N_period N_width N_size), ((a 44), .inl (cI, 48, .inl (ia N_kind))), ((a 45), .inl (cI, 48, .inl (ia N_pins))), ((a 46), .inl (cI, 144, .inl (ia N_source_1))), ((a 47), .inl (cI, 144, .inl (ia N_wireEarly_2))), ((a 48), .inl (cI, 144, .inl (ia N_wireLate_3)))] := hD
        obtain ⟨e1, e2, e3, e4⟩ := so4 h
        rw [hQ, e1, e2, e3, e4]; rw [hAe] at hD hS; exact W.vret hx hb hr (fun t ht hW => ⟨⟨(), rfl, trivial, by rw [ht]; exact hP, va_K.moved hW.alike hK, hD⟩, hS.F ht⟩) hS.2.2 d_T_wire_63
      · replace h := if_t hc h
        exact hj33  H locs ls hP hD hS (lv_sub hl [] rfl) h
abbrev rm_T_sense : Room := { frames := 6, cells := 0, slots := 0, locals := 110 }
set_option maxHeartbeats 4000000 in
set_option maxRecDepth 100000 in
theorem c_T_sense (l : Launch) (D : va_G) (cI cJ cZ : ClassId) (F : Nat) (a : Nat → Nat) (T_analysed : Int) (N_period : Int) (N_width : Int) (N_size : Int) (N_kind : Int → Int) (N_pins : Int → Int) (N_senses : Int → Int) (x1 : Int) (x2 : Int) (x3 : Int) (z_T_analysed : Int) (z_N_senses : Int → Int) (sz : Nat) (h : f_T_sense F N_size N_kind N_pins N_senses x1 x2 x3 = some (z_T_analysed, z_N_senses)) : Met l y_T_sense w_T_sense rm_T_sense (PC D [(cI, .int), (cJ, .long), (cZ, .boolean)] [.ref (a 0), .int (iI x1), .int (iI x2), .int (iI x3)] ([(o_T a T_analysed), (o_N a N_period N_width N_size), ((a 44), .inl (cI, 48, .inl (ia N_kind))), ((a 45), .inl (cI, 48, .inl (ia N_pins))), ((a 49), .inl (cI, 144, .inl (ia N_senses)))]) sz) (QV D [(cI, .int), (cJ, .long), (cZ, .boolean)] ([(o_T a T_analysed), (o_N a N_period N_width N_size), ((a 44), .inl (cI, 48, .inl (ia N_kind))), ((a 45), .inl (cI, 48, .inl (ia N_pins))), ((a 49), .inl (cI, 144, .inl (ia N_senses)))]) sz ([(o_T a z_T_analysed), (o_N a N_period N_width N_size), ((a 44), .inl (cI, 48, .inl (ia N_kind))), ((a 45), .inl (cI, 48, .inl (ia N_pins))), ((a 49), .inl (cI, 144, .inl (ia z_N_senses)))])) 0 0 (va_A ([(o_T a T_analysed), (o_N a N_period N_width N_size), ((a 44), .inl (cI, 48, .inl (ia N_kind))), ((a 45), .inl (cI, 48, .inl (ia N_pins))), ((a 49), .inl (cI, 144, .inl (ia N_senses)))]) sz) := by
  refine Met.ofW (cc := prog_1_method_8_code) (maxL := 4) (ret := (Option.none : Option Jvm.ClassFile.FieldType)) (by decide) rfl ?_
  intro p e s m args below meth c s₁ B hml hv
  obtain ⟨rfl, hsz, hP, hK, hD0, hN⟩ := hv
  have hx := B.exec
  have hb := B.bytes
  have hr := B.returns
  have hts := atoms_spec (ws := w_T_sense) B.pre
  have hown : s.vm.findClass R_T = some m.cls := findClass_of_methodNamed B.named
  have hlocks := B.notSynchronized
  subst hsz
  have hD := hD0.self (sz := s.heap.size)
  obtain ⟨A, hAe⟩ : ∃ A, A = va_A ([(o_T a T_analysed), (o_N a N_period N_width N_size), ((a 44), .inl (cI, 48, .inl (ia N_kind))), ((a 45), .inl (cI, 48, .inl (ia N_pins))), ((a 49), .inl (cI, 144, .inl (ia N_senses)))]) s.heap.size := ⟨_, rfl⟩
  rw [← hAe] at hD
  have hA : ∀ q : Nat, s.heap.size ≤ q → A q := fun q h => by rw [hAe]; exact Or.inr h
  have hS : va_S A s.heap s.heap [] := va_S.rf
  have hl := lv_entry ([.ref (a 0), .int (iI x1), .int (iI x2), .int (iI x3)]) (n := 4) (Nat.le_of_ble_eq_true rfl)
  rw [lg_entry_eq]
  generalize (lg_sl ([.ref (a 0), .int (iI x1), .int (iI x2), .int (iI x3)]) ++ List.replicate (4 - (lg_sl ([.ref (a 0), .int (iI x1), .int (iI x2), .int (iI x3)])).length) Slot.unset).toArray = ls at hl ⊢
  have hl : lv_has ls 4 [(0, .ref (a 0)), (1, .int (iI x1)), (2, .int (iI x2)), (3, .int (iI x3))] := hl
  generalize (List.toArray ([.ref (a 0), .int (iI x1), .int (iI x2), .int (iI x3)] : List Value)) = args at hts ⊢
  have hT : ∀ w ∈ Tg, w.before args s = true := fun w h => hts w (List.mem_cons_of_mem _ h)
  obtain ⟨Q, hQ⟩ : ∃ Q, Q = MQ below (QV D [(cI, .int), (cJ, .long), (cZ, .boolean)] ([(o_T a T_analysed), (o_N a N_period N_width N_size), ((a 44), .inl (cI, 48, .inl (ia N_kind))), ((a 45), .inl (cI, 48, .inl (ia N_pins))), ((a 49), .inl (cI, 144, .inl (ia N_senses)))]) s.heap.size ([(o_T a z_T_analysed), (o_N a N_period N_width N_size), ((a 44), .inl (cI, 48, .inl (ia N_kind))), ((a 45), .inl (cI, 48, .inl (ia N_pins))), ((a 49), .inl (cI, 144, .inl (ia z_N_senses)))])) args s 0 0 (va_A ([(o_T a T_analysed), (o_N a N_period N_width N_size), ((a 44), .inl (cI, 48, .inl (ia N_kind))), ((a 45), .inl (cI, 48, .inl (ia N_pins))), ((a 49), .inl (cI, 144, .inl (ia N_senses)))]) s.heap.size) := ⟨_, rfl⟩
  rw [← hQ]
  suffices hW : ∀ (H : Heap) (locs : List Loc), va_P D vwCl ([(o_T a T_analysed), (o_N a N_period N_width N_size), ((a 44), .inl (cI, 48, .inl (ia N_kind))), ((a 45), .inl (cI, 48, .inl (ia N_pins))), ((a 49), .inl (cI, 144, .inl (ia N_senses)))]) H → va_D A ([(o_T a T_analysed), (o_N a N_period N_width N_size), ((a 44), .inl (cI, 48, .inl (ia N_kind))), ((a 45), .inl (cI, 48, .inl (ia N_pins))), ((a 49), .inl (cI, 144, .inl (ia N_senses)))]) → va_S A s.heap H locs → W p l e (headSpec w_T_sense rm_T_sense).room s m args below meth c H locs 0 0 Q (F0 m 0 ls []) from hW s.heap [] hP hD hS
  clear hP hD hS
  intro H locs hP hD hS
  rw [f_T_sense] at h
  refine lv_aload_n hx hb d_T_sense_0 rfl (lv_at hl 0 rfl) ?_
  refine va_get (D := D) (ci := 0) (v := .ref (a 43)) (C := R_T) (T := F_T) (N := 7) hx hb hT in_T hown hK hP 0 rfl rfl 0 (by decide) (hT _ m409) (fun _ h9 => h9) rfl d_T_sense_1 ?_
  refine lv_iload_n hx hb d_T_sense_4 rfl (lv_at hl 1 rfl) ?_
  refine lv_iload_n hx hb d_T_sense_5 rfl (lv_at hl 2 rfl) ?_
  obtain ⟨r6, hcall, h⟩ := ob1_e h
  refine ro_i (va_Run.run (va_runV (As := [.int (iI x1), .int (iI x2)]) (rest := []) ⟨hx, hb, hml, hown, hts⟩ (c_Net_hasPin l D cI cJ cZ F a N_period N_width N_size N_pins x1 x2 r6 H.size hcall) (cwV 2 hts (gd_V m753 m750 m751 m752 m2) rfl rfl rfl ⟨rfl, hc_Net_hasPin⟩ ⟨Nat.le_of_ble_eq_true rfl, Nat.le_of_ble_eq_true rfl⟩) (pc_V 1 1 [.int (iI x1), .int (iI x2)] hP hK hD hN [1, 3] rfl rfl rfl rfl rfl) rfl rfl hl.1 rfl (lv_room (Nat.le_of_ble_eq_true rfl)) d_T_sense_6 ⟨Nat.le_refl 0, Nat.le_refl 0⟩)) (W.eq (g2 := F0 m 9 ls [.int (iI r6)]) rfl ?_)
  have hj34 : ∀  (H : Heap) (locs : List Loc) (ls : Array Slot), va_P D vwCl [(o_T a T_analysed), (o_N a N_period N_width N_size), ((a 44), .inl (cI, 48, .inl (ia N_kind))), ((a 45), .inl (cI, 48, .inl (ia N_pins))), ((a 49), .inl (cI, 144, .inl (ia N_senses)))] H → va_D A [(o_T a T_analysed), (o_N a N_period N_width N_size), ((a 44), .inl (cI, 48, .inl (ia N_kind))), ((a 45), .inl (cI, 48, .inl (ia N_pins))), ((a 49), .inl (cI, 144, .inl (ia N_senses)))] → va_S A s.heap H locs → lv_has ls 4 [] → f_T_sense_j34 F = some (z_T_analysed, z_N_senses) → W p l e (headSpec w_T_sense rm_T_sense).room s m args below meth c H locs 0 0 Q (F0 m 34 ls []) := by
    intro  H locs ls hP hD hS hl h
    rw [f_T_sense_j34] at h
    exact no_some h
  obtain ⟨hg0, h⟩ := gr_e h
  refine zi_eq hx hb d_T_sense_9 rfl hg0 (fun hc => ?_) (fun hc => ?_)
  · replace h := if_t hc h
    exact hj34  H locs ls hP hD hS (lv_sub hl [] rfl) h
  · replace h := if_f hc h
    refine lv_aload_n hx hb d_T_sense_12 rfl (lv_at hl 0 rfl) ?_
    refine va_get (D := D) (ci := 0) (v := .ref (a 43)) (C := R_T) (T := F_T) (N := 7) hx hb hT in_T hown hK hP 0 rfl rfl 0 (by decide) (hT _ m409) (fun _ h9 => h9) rfl d_T_sense_13 ?_
    refine va_get (D := D) (ci := 1) (v := .ref (a 44)) (C := R_Net) (T := F_Net) (N := 15) hx hb hT in_Net hown hK hP 1 rfl rfl 3 (by decide) (hT _ m57) (fun _ h9 => h9) rfl d_T_sense_16 ?_
    refine lv_iload_n hx hb d_T_sense_19 rfl (lv_at hl 1 rfl) ?_
    obtain ⟨hin, h⟩ := gi_e h
    refine zv_iald hx hb hK hP 2 0 rfl rfl (Nat.le_of_ble_eq_true rfl) hin d_T_sense_20 ?_
    refine zv_iconst hx hb d_T_sense_21 ?_
    obtain ⟨hg0, h⟩ := gr_e h
    refine zc_ne hx hb d_T_sense_22 rfl hg0 (by decide) (fun hc => ?_) (fun hc => ?_)
    · replace h := if_f hc h
      exact hj34  H locs ls hP hD hS (lv_sub hl [] rfl) h
    · replace h := if_t hc h
      refine lv_iload_n hx hb d_T_sense_25 rfl (lv_at hl 3 rfl) ?_
      refine zv_iconst hx hb d_T_sense_26 ?_
      refine zv_iconst hx hb d_T_sense_27 ?_
      obtain ⟨r28, hcall, h⟩ := ob1_e h
      refine ro_i (va_Run.run (va_runS (As := [.int (iI x3), .int (iI 0), .int (iI 2)]) (rest := []) ⟨hx, hb, hml, hown, hts⟩ (c_T_isWithin l D cI cJ cZ F a x3 0 2 r28 H.size hcall) (cwS 3 hts (gd_S m573 m657 m572 m1) rfl rfl rfl ⟨rfl, hc_T_isWithin⟩ ⟨Nat.le_of_ble_eq_true rfl, Nat.le_of_ble_eq_true rfl⟩) (pc_S [.int (iI x3), .int (iI 0), .int (iI 2)] hP hK hD hN [] rfl rfl rfl) rfl rfl hl.1 rfl (lv_room (Nat.le_of_ble_eq_true rfl)) d_T_sense_28 ⟨Nat.le_refl 0, Nat.le_refl 0⟩)) (W.eq (g2 := F0 m 31 ls [.int (iI r28)]) rfl ?_)
      obtain ⟨hg0, h⟩ := gr_e h
      refine zi_ne hx hb d_T_sense_31 rfl hg0 (fun hc => ?_) (fun hc => ?_)
      · replace h := if_f hc h
        refine lv_aload_n hx hb d_T_sense_42 rfl (lv_at hl 0 rfl) ?_
        refine va_get (D := D) (ci := 0) (v := .ref (a 43)) (C := R_T) (T := F_T) (N := 7) hx hb hT in_T hown hK hP 0 rfl rfl 0 (by decide) (hT _ m409) (fun _ h9 => h9) rfl d_T_sense_43 ?_
        refine va_get (D := D) (ci := 1) (v := .ref (a 49)) (C := R_Net) (T := F_Net) (N := 15) hx hb hT in_Net hown hK hP 1 rfl rfl 8 (by decide) (hT _ m82) (fun _ h9 => h9) rfl d_T_sense_46 ?_
        refine lv_iload_n hx hb d_T_sense_49 rfl (lv_at hl 1 rfl) ?_
        refine zv_iconst hx hb d_T_sense_50 ?_
        refine zv_imul hx hb d_T_sense_51 ?_
        refine lv_iload_n hx hb d_T_sense_52 rfl (lv_at hl 2 rfl) ?_
        refine zv_iadd hx hb d_T_sense_53 ?_
        refine lv_iload_n hx hb d_T_sense_54 rfl (lv_at hl 3 rfl) ?_
        obtain ⟨hin, h⟩ := gi_e h
        refine zv_iast hx hb hK hP hD hS 4 0 rfl rfl (Nat.le_of_ble_eq_true rfl) hin d_T_sense_55 (fun H locs hP hD hS => ?_)
        obtain ⟨N_senses_1, hv⟩ : ∃ z, z = (ui N_senses ((x1 * 3) + x2) x3) := ⟨_, rfl⟩
        replace h := bd_e hv h
        have hP : va_P D vwCl [(o_T a T_analysed), (o_N a N_period N_width N_size), ((a 44), .inl (cI, 48, .inl (ia N_kind))), ((a 45), .inl (cI, 48, .inl (ia N_pins))), ((a 49), .inl (cI, 144, .inl (ia N_senses_1)))] H := by rw [hv]; exact hP
        have hD : va_D A [(o_T a T_analysed), (o_N a N_period N_width N_size), ((a 44), .inl (cI, 48, .inl (ia N_kind))), ((a 45), .inl (cI, 48, .inl (ia N_pins))), ((a 49), .inl (cI, 144, .inl (ia N_senses_1)))] := by rw [hv]; exact hD
        refine lv_aload_n hx hb d_T_sense_56 rfl (lv_at hl 0 rfl) ?_
        refine zv_iconst hx hb d_T_sense_57 ?_
        refine va_put (D := D) (ci := 0) (v := .int (iI 0)) (ty := .boolean) (C := R_T) (T := F_T) (N := 7) hx hb hT in_T ty_T ty_T_ok n_T hown hK hP hD hS 0 rfl rfl 6 (by decide) (hT _ m415) (fun _ h9 => h9) rfl (by decide +kernel) rfl rfl (Nat.le_of_ble_eq_true rfl) d_T_sense_58 (fun H locs hP hD hS => ?_)
        have hP : va_P D vwCl [(o_T a 0), (o_N a N_period N_width N_size), ((a 44), .inl (cI, 48, .inl (ia N_kind))), ((a 45), .inl (cI, 48, .inl (ia N_pins))), ((a 49), .inl (cI, 144, .inl (ia N_senses_1)))] H := hP
        have hD : va_D A [(o_T a 0), (o_N a N_period N_width N_size), ((a 44), .inl (cI, 48, .inl (ia N_kind))), ((a 45), .inl (cI, 48, .inl (ia N_pins))), ((a 49), .inl (cI, 144, .inl (ia N_senses_1)))] := hD
        obtain ⟨e1, e2⟩ := so2 h
        rw [hQ, e1, e2]; rw [hAe] at hD hS; exact W.vret hx hb hr (fun t ht hW => ⟨⟨(), rfl, trivial, by rw [ht]; exact hP, va_K.moved hW.alike hK, hD⟩, hS.F ht⟩) hS.2.2 d_T_sense_61
      · replace h := if_t hc h
        exact hj34  H locs ls hP hD hS (lv_sub hl [] rfl) h
abbrev rm_Net_hasDelay : Room := { frames := 3, cells := 0, slots := 0, locals := 65 }
set_option maxHeartbeats 4000000 in
set_option maxRecDepth 100000 in
theorem c_Net_hasDelay (l : Launch) (D : va_G) (cI cJ cZ : ClassId) (F : Nat) (a : Nat → Nat) (N_period : Int) (N_width : Int) (N_size : Int) (N_kind : Int → Int) (N_pins : Int → Int) (x1 : Int) (x2 : Int) (r : Int) (sz : Nat) (h : f_Net_hasDelay F N_size N_kind N_pins x1 x2 = some (r)) : Met l y_Net_hasDelay w_Net_hasDelay rm_Net_hasDelay (PC D [(cI, .int), (cJ, .long), (cZ, .boolean)] [.ref (a 43), .int (iI x1), .int (iI x2)] ([(o_N a N_period N_width N_size), ((a 44), .inl (cI, 48, .inl (ia N_kind))), ((a 45), .inl (cI, 48, .inl (ia N_pins)))]) sz) (QcRead (iI r)) 0 0 (fun _ => False) := by
  refine Met.ofW (cc := prog_5_method_5_code) (maxL := 3) (ret := (Option.some Jvm.ClassFile.FieldType.boolean)) (by decide) rfl ?_
  intro p e s m args below meth c s₁ B hml hv
  obtain ⟨rfl, hsz, hP, hK, hD0, hN⟩ := hv
  have hx := B.exec
  have hb := B.bytes
  have hr := B.returns
  have hts := atoms_spec (ws := w_Net_hasDelay) B.pre
  have hown : s.vm.findClass R_Net = some m.cls := findClass_of_methodNamed B.named
  have hlocks := B.notSynchronized
  subst hsz
  have hl := lv_entry ([.ref (a 43), .int (iI x1), .int (iI x2)]) (n := 3) (Nat.le_of_ble_eq_true rfl)
  rw [lg_entry_eq]
  generalize (lg_sl ([.ref (a 43), .int (iI x1), .int (iI x2)]) ++ List.replicate (3 - (lg_sl ([.ref (a 43), .int (iI x1), .int (iI x2)])).length) Slot.unset).toArray = ls at hl ⊢
  have hl : lv_has ls 3 [(0, .ref (a 43)), (1, .int (iI x1)), (2, .int (iI x2))] := hl
  generalize (List.toArray ([.ref (a 43), .int (iI x1), .int (iI x2)] : List Value)) = args at hts ⊢
  have hT : ∀ w ∈ Tg, w.before args s = true := fun w h => hts w (List.mem_cons_of_mem _ h)
  obtain ⟨Q, hQ⟩ : ∃ Q, Q = MQ below (QcRead (iI r)) args s 0 0 (fun _ => False) := ⟨_, rfl⟩
  rw [← hQ]
  rw [f_Net_hasDelay] at h
  refine lv_aload_n hx hb d_Net_hasDelay_0 rfl (lv_at hl 0 rfl) ?_
  refine lv_iload_n hx hb d_Net_hasDelay_1 rfl (lv_at hl 1 rfl) ?_
  refine lv_iload_n hx hb d_Net_hasDelay_2 rfl (lv_at hl 2 rfl) ?_
  obtain ⟨r3, hcall, h⟩ := ob1_e h
  refine ro_i (va_Run.run (va_runV (As := [.int (iI x1), .int (iI x2)]) (rest := []) ⟨hx, hb, hml, hown, hts⟩ (c_Net_hasPin l D cI cJ cZ F a N_period N_width N_size N_pins x1 x2 r3 s.heap.size hcall) (cwV 2 hts (gd_V m753 m783 m751 m752 m2) rfl rfl rfl ⟨rfl, hc_Net_hasPin⟩ ⟨Nat.le_of_ble_eq_true rfl, Nat.le_of_ble_eq_true rfl⟩) (pc_V 0 1 [.int (iI x1), .int (iI x2)] hP hK hD0 hN [0, 2] rfl rfl rfl rfl rfl) rfl rfl hl.1 rfl (lv_room (Nat.le_of_ble_eq_true rfl)) d_Net_hasDelay_3 ⟨Nat.le_refl 0, Nat.le_refl 0⟩)) (W.eq (g2 := F0 m 6 ls [.int (iI r3)]) rfl ?_)
  have hj38 : ∀  (ls : Array Slot), lv_has ls 3 [] → f_Net_hasDelay_j38 F = some (r) → W p l e (headSpec w_Net_hasDelay rm_Net_hasDelay).room s m args below meth c s.heap [] 0 0 Q (F0 m 38 ls []) := by
    intro  ls hl h
    rw [f_Net_hasDelay_j38] at h
    refine zv_iconst hx hb d_Net_hasDelay_38 ?_
    obtain ⟨hbo, h⟩ := gb_e h
    have e1 := so1 h
    rw [hQ, e1]; exact W.zret (ty := .boolean) hx hb hr (gb_n hbo) (fun t ht hW => ⟨rfl, ht⟩) (fun q h => nomatch h) d_Net_hasDelay_39
  obtain ⟨hg0, h⟩ := gr_e h
  refine zi_eq hx hb d_Net_hasDelay_6 rfl hg0 (fun hc => ?_) (fun hc => ?_)
  · replace h := if_t hc h
    exact hj38  ls (lv_sub hl [] rfl) h
  · replace h := if_f hc h
    refine lv_aload_n hx hb d_Net_hasDelay_9 rfl (lv_at hl 0 rfl) ?_
    refine va_get (D := D) (ci := 1) (v := .ref (a 44)) (C := R_Net) (T := F_Net) (N := 15) hx hb hT in_Net hown hK hP 0 rfl rfl 3 (by decide) (hT _ m54) (fun _ h9 => h9) rfl d_Net_hasDelay_10 ?_
    refine lv_iload_n hx hb d_Net_hasDelay_13 rfl (lv_at hl 1 rfl) ?_
    obtain ⟨hin, h⟩ := gi_e h
    refine zv_iald hx hb hK hP 1 0 rfl rfl (Nat.le_of_ble_eq_true rfl) hin d_Net_hasDelay_14 ?_
    refine zv_iconst hx hb d_Net_hasDelay_15 ?_
    have hj34 : ∀  (ls : Array Slot), lv_has ls 3 [] → f_Net_hasDelay_j34 F = some (r) → W p l e (headSpec w_Net_hasDelay rm_Net_hasDelay).room s m args below meth c s.heap [] 0 0 Q (F0 m 34 ls []) := by
      intro  ls hl h
      rw [f_Net_hasDelay_j34] at h
      refine zv_iconst hx hb d_Net_hasDelay_34 ?_
      refine lv_goto hx hb d_Net_hasDelay_35 rfl ?_
      obtain ⟨hbo, h⟩ := gb_e h
      have e1 := so1 h
      rw [hQ, e1]; exact W.zret (ty := .boolean) hx hb hr (gb_n hbo) (fun t ht hW => ⟨rfl, ht⟩) (fun q h => nomatch h) d_Net_hasDelay_39
    obtain ⟨hg0, h⟩ := gr_e h
    refine zc_eq hx hb d_Net_hasDelay_16 rfl hg0 (by decide) (fun hc => ?_) (fun hc => ?_)
    · replace h := if_t hc h
      exact hj34  ls (lv_sub hl [] rfl) h
    · replace h := if_f hc h
      refine lv_aload_n hx hb d_Net_hasDelay_19 rfl (lv_at hl 0 rfl) ?_
      refine va_get (D := D) (ci := 1) (v := .ref (a 44)) (C := R_Net) (T := F_Net) (N := 15) hx hb hT in_Net hown hK hP 0 rfl rfl 3 (by decide) (hT _ m54) (fun _ h9 => h9) rfl d_Net_hasDelay_20 ?_
      refine lv_iload_n hx hb d_Net_hasDelay_23 rfl (lv_at hl 1 rfl) ?_
      obtain ⟨hin, h⟩ := gi_e h
      refine zv_iald hx hb hK hP 1 0 rfl rfl (Nat.le_of_ble_eq_true rfl) hin d_Net_hasDelay_24 ?_
      refine zv_iconst hx hb d_Net_hasDelay_25 ?_
      obtain ⟨hg0, h⟩ := gr_e h
      refine zc_ne hx hb d_Net_hasDelay_26 rfl hg0 (by decide) (fun hc => ?_) (fun hc => ?_)
      · replace h := if_f hc h
        exact hj38  ls (lv_sub hl [] rfl) h
      · replace h := if_t hc h
        refine lv_iload_n hx hb d_Net_hasDelay_29 rfl (lv_at hl 2 rfl) ?_
        refine zv_iconst hx hb d_Net_hasDelay_30 ?_
        obtain ⟨hg0, h⟩ := gr_e h
        refine zc_ne hx hb d_Net_hasDelay_31 rfl hg0 (by decide) (fun hc => ?_) (fun hc => ?_)
        · replace h := if_f hc h
          exact hj38  ls (lv_sub hl [] rfl) h
        · replace h := if_t hc h
          exact hj34  ls (lv_sub hl [] rfl) h
abbrev rm_T_isBit : Room := { frames := 0, cells := 0, slots := 0, locals := 0 }
set_option maxHeartbeats 4000000 in
set_option maxRecDepth 100000 in
theorem c_T_isBit (l : Launch) (D : va_G) (cI cJ cZ : ClassId) (F : Nat) (a : Nat → Nat) (x0 : Int) (r : Int) (sz : Nat) (h : f_T_isBit F x0 = some (r)) : Met l y_T_isBit w_T_isBit rm_T_isBit (PC D [(cI, .int), (cJ, .long), (cZ, .boolean)] [.int (iI x0)] ([]) sz) (QcRead (iI r)) 0 0 (fun _ => False) := by
  refine Met.ofW (cc := prog_1_method_26_code) (maxL := 1) (ret := (Option.some Jvm.ClassFile.FieldType.boolean)) (by decide) rfl ?_
  intro p e s m args below meth c s₁ B hml hv
  obtain ⟨rfl, hsz, hP, hK, hD0, hN⟩ := hv
  have hx := B.exec
  have hb := B.bytes
  have hr := B.returns
  have hts := atoms_spec (ws := w_T_isBit) B.pre
  have hown : s.vm.findClass R_T = some m.cls := findClass_of_methodNamed B.named
  have hlocks := B.notSynchronized
  subst hsz
  have hl := lv_entry ([.int (iI x0)]) (n := 1) (Nat.le_of_ble_eq_true rfl)
  rw [lg_entry_eq]
  generalize (lg_sl ([.int (iI x0)]) ++ List.replicate (1 - (lg_sl ([.int (iI x0)])).length) Slot.unset).toArray = ls at hl ⊢
  have hl : lv_has ls 1 [(0, .int (iI x0))] := hl
  generalize (List.toArray ([.int (iI x0)] : List Value)) = args at hts ⊢
  have hT : ∀ w ∈ Tg, w.before args s = true := fun w h => hts w (List.mem_cons_of_mem _ h)
  obtain ⟨Q, hQ⟩ : ∃ Q, Q = MQ below (QcRead (iI r)) args s 0 0 (fun _ => False) := ⟨_, rfl⟩
  rw [← hQ]
  rw [f_T_isBit] at h
  refine lv_iload_n hx hb d_T_isBit_0 rfl (lv_at hl 0 rfl) ?_
  have hj9 : ∀  (ls : Array Slot), lv_has ls 1 [] → f_T_isBit_j9 F = some (r) → W p l e (headSpec w_T_isBit rm_T_isBit).room s m args below meth c s.heap [] 0 0 Q (F0 m 9 ls []) := by
    intro  ls hl h
    rw [f_T_isBit_j9] at h
    refine zv_iconst hx hb d_T_isBit_9 ?_
    refine lv_goto hx hb d_T_isBit_10 rfl ?_
    obtain ⟨hbo, h⟩ := gb_e h
    have e1 := so1 h
    rw [hQ, e1]; exact W.zret (ty := .boolean) hx hb hr (gb_n hbo) (fun t ht hW => ⟨rfl, ht⟩) (fun q h => nomatch h) d_T_isBit_14
  obtain ⟨hg0, h⟩ := gr_e h
  refine zi_eq hx hb d_T_isBit_1 rfl hg0 (fun hc => ?_) (fun hc => ?_)
  · replace h := if_t hc h
    exact hj9  ls (lv_sub hl [] rfl) h
  · replace h := if_f hc h
    refine lv_iload_n hx hb d_T_isBit_4 rfl (lv_at hl 0 rfl) ?_
    refine zv_iconst hx hb d_T_isBit_5 ?_
    obtain ⟨hg0, h⟩ := gr_e h
    refine zc_ne hx hb d_T_isBit_6 rfl hg0 (by decide) (fun hc => ?_) (fun hc => ?_)
    · replace h := if_f hc h
      refine zv_iconst hx hb d_T_isBit_13 ?_
      obtain ⟨hbo, h⟩ := gb_e h
      have e1 := so1 h
      rw [hQ, e1]; exact W.zret (ty := .boolean) hx hb hr (gb_n hbo) (fun t ht hW => ⟨rfl, ht⟩) (fun q h => nomatch h) d_T_isBit_14
    · replace h := if_t hc h
      exact hj9  ls (lv_sub hl [] rfl) h
abbrev rm_Net_setGateDelay : Room := { frames := 0, cells := 0, slots := 0, locals := 0 }
set_option maxHeartbeats 4000000 in
set_option maxRecDepth 100000 in
theorem c_Net_setGateDelay (l : Launch) (D : va_G) (cI cJ cZ : ClassId) (F : Nat) (a : Nat → Nat) (N_period : Int) (N_width : Int) (N_size : Int) (N_gateEarly : Int → Int) (N_gateLate : Int → Int) (x1 : Int) (x2 : Int) (x3 : Int) (x4 : Int) (z_N_gateEarly : Int → Int) (z_N_gateLate : Int → Int) (sz : Nat) (h : f_Net_setGateDelay F N_gateEarly N_gateLate x1 x2 x3 x4 = some (z_N_gateEarly, z_N_gateLate)) : Met l y_Net_setGateDelay w_Net_setGateDelay rm_Net_setGateDelay (PC D [(cI, .int), (cJ, .long), (cZ, .boolean)] [.ref (a 43), .int (iI x1), .int (iI x2), .int (iI x3), .int (iI x4)] ([(o_N a N_period N_width N_size), ((a 50), .inl (cI, 288, .inl (ia N_gateEarly))), ((a 51), .inl (cI, 288, .inl (ia N_gateLate)))]) sz) (QV D [(cI, .int), (cJ, .long), (cZ, .boolean)] ([(o_N a N_period N_width N_size), ((a 50), .inl (cI, 288, .inl (ia N_gateEarly))), ((a 51), .inl (cI, 288, .inl (ia N_gateLate)))]) sz ([(o_N a N_period N_width N_size), ((a 50), .inl (cI, 288, .inl (ia z_N_gateEarly))), ((a 51), .inl (cI, 288, .inl (ia z_N_gateLate)))])) 0 0 (va_A ([(o_N a N_period N_width N_size), ((a 50), .inl (cI, 288, .inl (ia N_gateEarly))), ((a 51), .inl (cI, 288, .inl (ia N_gateLate)))]) sz) := by
  refine Met.ofW (cc := prog_5_method_10_code) (maxL := 5) (ret := (Option.none : Option Jvm.ClassFile.FieldType)) (by decide) rfl ?_
  intro p e s m args below meth c s₁ B hml hv
  obtain ⟨rfl, hsz, hP, hK, hD0, hN⟩ := hv
  have hx := B.exec
  have hb := B.bytes
  have hr := B.returns
  have hts := atoms_spec (ws := w_Net_setGateDelay) B.pre
  have hown : s.vm.findClass R_Net = some m.cls := findClass_of_methodNamed B.named
  have hlocks := B.notSynchronized
  subst hsz
  have hD := hD0.self (sz := s.heap.size)
  obtain ⟨A, hAe⟩ : ∃ A, A = va_A ([(o_N a N_period N_width N_size), ((a 50), .inl (cI, 288, .inl (ia N_gateEarly))), ((a 51), .inl (cI, 288, .inl (ia N_gateLate)))]) s.heap.size := ⟨_, rfl⟩
  rw [← hAe] at hD
  have hA : ∀ q : Nat, s.heap.size ≤ q → A q := fun q h => by rw [hAe]; exact Or.inr h
  have hS : va_S A s.heap s.heap [] := va_S.rf
  have hl := lv_entry ([.ref (a 43), .int (iI x1), .int (iI x2), .int (iI x3), .int (iI x4)]) (n := 5) (Nat.le_of_ble_eq_true rfl)
  rw [lg_entry_eq]
  generalize (lg_sl ([.ref (a 43), .int (iI x1), .int (iI x2), .int (iI x3), .int (iI x4)]) ++ List.replicate (5 - (lg_sl ([.ref (a 43), .int (iI x1), .int (iI x2), .int (iI x3), .int (iI x4)])).length) Slot.unset).toArray = ls at hl ⊢
  have hl : lv_has ls 5 [(0, .ref (a 43)), (1, .int (iI x1)), (2, .int (iI x2)), (3, .int (iI x3)), (4, .int (iI x4))] := hl
  generalize (List.toArray ([.ref (a 43), .int (iI x1), .int (iI x2), .int (iI x3), .int (iI x4)] : List Value)) = args at hts ⊢
  have hT : ∀ w ∈ Tg, w.before args s = true := fun w h => hts w (List.mem_cons_of_mem _ h)
  obtain ⟨Q, hQ⟩ : ∃ Q, Q = MQ below (QV D [(cI, .int), (cJ, .long), (cZ, .boolean)] ([(o_N a N_period N_width N_size), ((a 50), .inl (cI, 288, .inl (ia N_gateEarly))), ((a 51), .inl (cI, 288, .inl (ia N_gateLate)))]) s.heap.size ([(o_N a N_period N_width N_size), ((a 50), .inl (cI, 288, .inl (ia z_N_gateEarly))), ((a 51), .inl (cI, 288, .inl (ia z_N_gateLate)))])) args s 0 0 (va_A ([(o_N a N_period N_width N_size), ((a 50), .inl (cI, 288, .inl (ia N_gateEarly))), ((a 51), .inl (cI, 288, .inl (ia N_gateLate)))]) s.heap.size) := ⟨_, rfl⟩
  rw [← hQ]
  suffices hW : ∀ (H : Heap) (locs : List Loc), va_P D vwCl ([(o_N a N_period N_width N_size), ((a 50), .inl (cI, 288, .inl (ia N_gateEarly))), ((a 51), .inl (cI, 288, .inl (ia N_gateLate)))]) H → va_D A ([(o_N a N_period N_width N_size), ((a 50), .inl (cI, 288, .inl (ia N_gateEarly))), ((a 51), .inl (cI, 288, .inl (ia N_gateLate)))]) → va_S A s.heap H locs → W p l e (headSpec w_Net_setGateDelay rm_Net_setGateDelay).room s m args below meth c H locs 0 0 Q (F0 m 0 ls []) from hW s.heap [] hP hD hS
  clear hP hD hS
  intro H locs hP hD hS
  rw [f_Net_setGateDelay] at h
  refine lv_aload_n hx hb d_Net_setGateDelay_0 rfl (lv_at hl 0 rfl) ?_
  refine va_get (D := D) (ci := 1) (v := .ref (a 50)) (C := R_Net) (T := F_Net) (N := 15) hx hb hT in_Net hown hK hP 0 rfl rfl 9 (by decide) (hT _ m83) (fun _ h9 => h9) rfl d_Net_setGateDelay_1 ?_
  refine zv_iconst hx hb d_Net_setGateDelay_4 ?_
  refine lv_iload_n hx hb d_Net_setGateDelay_5 rfl (lv_at hl 1 rfl) ?_
  refine zv_imul hx hb d_Net_setGateDelay_6 ?_
  refine lv_iload_n hx hb d_Net_setGateDelay_7 rfl (lv_at hl 2 rfl) ?_
  refine zv_iadd hx hb d_Net_setGateDelay_8 ?_
  refine lv_iload_n hx hb d_Net_setGateDelay_9 rfl (lv_at hl 3 rfl) ?_
  obtain ⟨hin, h⟩ := gi_e h
  refine zv_iast hx hb hK hP hD hS 1 0 rfl rfl (Nat.le_of_ble_eq_true rfl) hin d_Net_setGateDelay_10 (fun H locs hP hD hS => ?_)
  obtain ⟨N_gateEarly_1, hv⟩ : ∃ z, z = (ui N_gateEarly ((2 * x1) + x2) x3) := ⟨_, rfl⟩
  replace h := bd_e hv h
  have hP : va_P D vwCl [(o_N a N_period N_width N_size), ((a 50), .inl (cI, 288, .inl (ia N_gateEarly_1))), ((a 51), .inl (cI, 288, .inl (ia N_gateLate)))] H := by rw [hv]; exact hP
  have hD : va_D A [(o_N a N_period N_width N_size), ((a 50), .inl (cI, 288, .inl (ia N_gateEarly_1))), ((a 51), .inl (cI, 288, .inl (ia N_gateLate)))] := by rw [hv]; exact hD
  refine lv_aload_n hx hb d_Net_setGateDelay_11 rfl (lv_at hl 0 rfl) ?_
  refine va_get (D := D) (ci := 1) (v := .ref (a 51)) (C := R_Net) (T := F_Net) (N := 15) hx hb hT in_Net hown hK hP 0 rfl rfl 10 (by decide) (hT _ m84) (fun _ h9 => h9) rfl d_Net_setGateDelay_12 ?_
  refine zv_iconst hx hb d_Net_setGateDelay_15 ?_
  refine lv_iload_n hx hb d_Net_setGateDelay_16 rfl (lv_at hl 1 rfl) ?_
  refine zv_imul hx hb d_Net_setGateDelay_17 ?_
  refine lv_iload_n hx hb d_Net_setGateDelay_18 rfl (lv_at hl 2 rfl) ?_
  refine zv_iadd hx hb d_Net_setGateDelay_19 ?_
  refine lv_iload hx hb d_Net_setGateDelay_20 (lv_at hl 4 rfl) ?_
  obtain ⟨hin, h⟩ := gi_e h
  refine zv_iast hx hb hK hP hD hS 2 0 rfl rfl (Nat.le_of_ble_eq_true rfl) hin d_Net_setGateDelay_22 (fun H locs hP hD hS => ?_)
  obtain ⟨N_gateLate_2, hv⟩ : ∃ z, z = (ui N_gateLate ((2 * x1) + x2) x4) := ⟨_, rfl⟩
  replace h := bd_e hv h
  have hP : va_P D vwCl [(o_N a N_period N_width N_size), ((a 50), .inl (cI, 288, .inl (ia N_gateEarly_1))), ((a 51), .inl (cI, 288, .inl (ia N_gateLate_2)))] H := by rw [hv]; exact hP
  have hD : va_D A [(o_N a N_period N_width N_size), ((a 50), .inl (cI, 288, .inl (ia N_gateEarly_1))), ((a 51), .inl (cI, 288, .inl (ia N_gateLate_2)))] := by rw [hv]; exact hD
  obtain ⟨e1, e2⟩ := so2 h
  rw [hQ, e1, e2]; rw [hAe] at hD hS; exact W.vret hx hb hr (fun t ht hW => ⟨⟨(), rfl, trivial, by rw [ht]; exact hP, va_K.moved hW.alike hK, hD⟩, hS.F ht⟩) hS.2.2 d_Net_setGateDelay_23
abbrev rm_T_delay : Room := { frames := 6, cells := 0, slots := 0, locals := 110 }
set_option maxHeartbeats 4000000 in
set_option maxRecDepth 100000 in
theorem c_T_delay (l : Launch) (D : va_G) (cI cJ cZ : ClassId) (F : Nat) (a : Nat → Nat) (T_analysed : Int) (N_period : Int) (N_width : Int) (N_size : Int) (N_kind : Int → Int) (N_pins : Int → Int) (N_gateEarly : Int → Int) (N_gateLate : Int → Int) (N_startEarly : Int → Int) (N_startLate : Int → Int) (x1 : Int) (x2 : Int) (x3 : Int) (x4 : Int) (x5 : Int) (z_T_analysed : Int) (z_N_gateEarly : Int → Int) (z_N_gateLate : Int → Int) (z_N_startEarly : Int → Int) (z_N_startLate : Int → Int) (sz : Nat) (h : f_T_delay F N_size N_kind N_pins N_gateEarly N_gateLate N_startEarly N_startLate x1 x2 x3 x4 x5 = some (z_T_analysed, z_N_gateEarly, z_N_gateLate, z_N_startEarly, z_N_startLate)) : Met l y_T_delay w_T_delay rm_T_delay (PC D [(cI, .int), (cJ, .long), (cZ, .boolean)] [.ref (a 0), .int (iI x1), .int (iI x2), .int (iI x3), .int (iI x4), .int (iI x5)] ([(o_T a T_analysed), (o_N a N_period N_width N_size), ((a 44), .inl (cI, 48, .inl (ia N_kind))), ((a 45), .inl (cI, 48, .inl (ia N_pins))), ((a 50), .inl (cI, 288, .inl (ia N_gateEarly))), ((a 51), .inl (cI, 288, .inl (ia N_gateLate))), ((a 52), .inl (cI, 96, .inl (ia N_startEarly))), ((a 53), .inl (cI, 96, .inl (ia N_startLate)))]) sz) (QV D [(cI, .int), (cJ, .long), (cZ, .boolean)] ([(o_T a T_analysed), (o_N a N_period N_width N_size), ((a 44), .inl (cI, 48, .inl (ia N_kind))), ((a 45), .inl (cI, 48, .inl (ia N_pins))), ((a 50), .inl (cI, 288, .inl (ia N_gateEarly))), ((a 51), .inl (cI, 288, .inl (ia N_gateLate))), ((a 52), .inl (cI, 96, .inl (ia N_startEarly))), ((a 53), .inl (cI, 96, .inl (ia N_startLate)))]) sz ([(o_T a z_T_analysed), (o_N a N_period N_width N_size), ((a 44), .inl (cI, 48, .inl (ia N_kind))), ((a 45), .inl (cI, 48, .inl (ia N_pins))), ((a 50), .inl (cI, 288, .inl (ia z_N_gateEarly))), ((a 51), .inl (cI, 288, .inl (ia z_N_gateLate))), ((a 52), .inl (cI, 96, .inl (ia z_N_startEarly))), ((a 53), .inl (cI, 96, .inl (ia z_N_startLate)))])) 0 0 (va_A ([(o_T a T_analysed), (o_N a N_period N_width N_size), ((a 44), .inl (cI, 48, .inl (ia N_kind))), ((a 45), .inl (cI, 48, .inl (ia N_pins))), ((a 50), .inl (cI, 288, .inl (ia N_gateEarly))), ((a 51), .inl (cI, 288, .inl (ia N_gateLate))), ((a 52), .inl (cI, 96, .inl (ia N_startEarly))), ((a 53), .inl (cI, 96, .inl (ia N_startLate)))]) sz) := by
  refine Met.ofW (cc := prog_1_method_9_code) (maxL := 6) (ret := (Option.none : Option Jvm.ClassFile.FieldType)) (by decide) rfl ?_
  intro p e s m args below meth c s₁ B hml hv
  obtain ⟨rfl, hsz, hP, hK, hD0, hN⟩ := hv
  have hx := B.exec
  have hb := B.bytes
  have hr := B.returns
  have hts := atoms_spec (ws := w_T_delay) B.pre
  have hown : s.vm.findClass R_T = some m.cls := findClass_of_methodNamed B.named
  have hlocks := B.notSynchronized
  subst hsz
  have hD := hD0.self (sz := s.heap.size)
  obtain ⟨A, hAe⟩ : ∃ A, A = va_A ([(o_T a T_analysed), (o_N a N_period N_width N_size), ((a 44), .inl (cI, 48, .inl (ia N_kind))), ((a 45), .inl (cI, 48, .inl (ia N_pins))), ((a 50), .inl (cI, 288, .inl (ia N_gateEarly))), ((a 51), .inl (cI, 288, .inl (ia N_gateLate))), ((a 52), .inl (cI, 96, .inl (ia N_startEarly))), ((a 53), .inl (cI, 96, .inl (ia N_startLate)))]) s.heap.size := ⟨_, rfl⟩
  rw [← hAe] at hD
  have hA : ∀ q : Nat, s.heap.size ≤ q → A q := fun q h => by rw [hAe]; exact Or.inr h
  have hS : va_S A s.heap s.heap [] := va_S.rf
  have hl := lv_entry ([.ref (a 0), .int (iI x1), .int (iI x2), .int (iI x3), .int (iI x4), .int (iI x5)]) (n := 6) (Nat.le_of_ble_eq_true rfl)
  rw [lg_entry_eq]
  generalize (lg_sl ([.ref (a 0), .int (iI x1), .int (iI x2), .int (iI x3), .int (iI x4), .int (iI x5)]) ++ List.replicate (6 - (lg_sl ([.ref (a 0), .int (iI x1), .int (iI x2), .int (iI x3), .int (iI x4), .int (iI x5)])).length) Slot.unset).toArray = ls at hl ⊢
  have hl : lv_has ls 6 [(0, .ref (a 0)), (1, .int (iI x1)), (2, .int (iI x2)), (3, .int (iI x3)), (4, .int (iI x4)), (5, .int (iI x5))] := hl
  generalize (List.toArray ([.ref (a 0), .int (iI x1), .int (iI x2), .int (iI x3), .int (iI x4), .int (iI x5)] : List Value)) = args at hts ⊢
  have hT : ∀ w ∈ Tg, w.before args s = true := fun w h => hts w (List.mem_cons_of_mem _ h)
  obtain ⟨Q, hQ⟩ : ∃ Q, Q = MQ below (QV D [(cI, .int), (cJ, .long), (cZ, .boolean)] ([(o_T a T_analysed), (o_N a N_period N_width N_size), ((a 44), .inl (cI, 48, .inl (ia N_kind))), ((a 45), .inl (cI, 48, .inl (ia N_pins))), ((a 50), .inl (cI, 288, .inl (ia N_gateEarly))), ((a 51), .inl (cI, 288, .inl (ia N_gateLate))), ((a 52), .inl (cI, 96, .inl (ia N_startEarly))), ((a 53), .inl (cI, 96, .inl (ia N_startLate)))]) s.heap.size ([(o_T a z_T_analysed), (o_N a N_period N_width N_size), ((a 44), .inl (cI, 48, .inl (ia N_kind))), ((a 45), .inl (cI, 48, .inl (ia N_pins))), ((a 50), .inl (cI, 288, .inl (ia z_N_gateEarly))), ((a 51), .inl (cI, 288, .inl (ia z_N_gateLate))), ((a 52), .inl (cI, 96, .inl (ia z_N_startEarly))), ((a 53), .inl (cI, 96, .inl (ia z_N_startLate)))])) args s 0 0 (va_A ([(o_T a T_analysed), (o_N a N_period N_width N_size), ((a 44), .inl (cI, 48, .inl (ia N_kind))), ((a 45), .inl (cI, 48, .inl (ia N_pins))), ((a 50), .inl (cI, 288, .inl (ia N_gateEarly))), ((a 51), .inl (cI, 288, .inl (ia N_gateLate))), ((a 52), .inl (cI, 96, .inl (ia N_startEarly))), ((a 53), .inl (cI, 96, .inl (ia N_startLate)))]) s.heap.size) := ⟨_, rfl⟩
  rw [← hQ]
  suffices hW : ∀ (H : Heap) (locs : List Loc), va_P D vwCl ([(o_T a T_analysed), (o_N a N_period N_width N_size), ((a 44), .inl (cI, 48, .inl (ia N_kind))), ((a 45), .inl (cI, 48, .inl (ia N_pins))), ((a 50), .inl (cI, 288, .inl (ia N_gateEarly))), ((a 51), .inl (cI, 288, .inl (ia N_gateLate))), ((a 52), .inl (cI, 96, .inl (ia N_startEarly))), ((a 53), .inl (cI, 96, .inl (ia N_startLate)))]) H → va_D A ([(o_T a T_analysed), (o_N a N_period N_width N_size), ((a 44), .inl (cI, 48, .inl (ia N_kind))), ((a 45), .inl (cI, 48, .inl (ia N_pins))), ((a 50), .inl (cI, 288, .inl (ia N_gateEarly))), ((a 51), .inl (cI, 288, .inl (ia N_gateLate))), ((a 52), .inl (cI, 96, .inl (ia N_startEarly))), ((a 53), .inl (cI, 96, .inl (ia N_startLate)))]) → va_S A s.heap H locs → W p l e (headSpec w_T_delay rm_T_delay).room s m args below meth c H locs 0 0 Q (F0 m 0 ls []) from hW s.heap [] hP hD hS
  clear hP hD hS
  intro H locs hP hD hS
  rw [f_T_delay] at h
  refine lv_aload_n hx hb d_T_delay_0 rfl (lv_at hl 0 rfl) ?_
  refine va_get (D := D) (ci := 0) (v := .ref (a 43)) (C := R_T) (T := F_T) (N := 7) hx hb hT in_T hown hK hP 0 rfl rfl 0 (by decide) (hT _ m409) (fun _ h9 => h9) rfl d_T_delay_1 ?_
  refine lv_iload_n hx hb d_T_delay_4 rfl (lv_at hl 1 rfl) ?_
  refine lv_iload_n hx hb d_T_delay_5 rfl (lv_at hl 2 rfl) ?_
  obtain ⟨r6, hcall, h⟩ := ob1_e h
  refine ro_i (va_Run.run (va_runV (As := [.int (iI x1), .int (iI x2)]) (rest := []) ⟨hx, hb, hml, hown, hts⟩ (c_Net_hasDelay l D cI cJ cZ F a N_period N_width N_size N_kind N_pins x1 x2 r6 H.size hcall) (cwV 2 hts (gd_V m782 m779 m780 m781 m2) rfl rfl rfl ⟨rfl, hc_Net_hasDelay⟩ ⟨Nat.le_of_ble_eq_true rfl, Nat.le_of_ble_eq_true rfl⟩) (pc_V 1 1 [.int (iI x1), .int (iI x2)] hP hK hD hN [1, 2, 3] rfl rfl rfl rfl rfl) rfl rfl hl.1 rfl (lv_room (Nat.le_of_ble_eq_true rfl)) d_T_delay_6 ⟨Nat.le_refl 0, Nat.le_refl 0⟩)) (W.eq (g2 := F0 m 9 ls [.int (iI r6)]) rfl ?_)
  have hj29 : ∀  (H : Heap) (locs : List Loc) (ls : Array Slot), va_P D vwCl [(o_T a T_analysed), (o_N a N_period N_width N_size), ((a 44), .inl (cI, 48, .inl (ia N_kind))), ((a 45), .inl (cI, 48, .inl (ia N_pins))), ((a 50), .inl (cI, 288, .inl (ia N_gateEarly))), ((a 51), .inl (cI, 288, .inl (ia N_gateLate))), ((a 52), .inl (cI, 96, .inl (ia N_startEarly))), ((a 53), .inl (cI, 96, .inl (ia N_startLate)))] H → va_D A [(o_T a T_analysed), (o_N a N_period N_width N_size), ((a 44), .inl (cI, 48, .inl (ia N_kind))), ((a 45), .inl (cI, 48, .inl (ia N_pins))), ((a 50), .inl (cI, 288, .inl (ia N_gateEarly))), ((a 51), .inl (cI, 288, .inl (ia N_gateLate))), ((a 52), .inl (cI, 96, .inl (ia N_startEarly))), ((a 53), .inl (cI, 96, .inl (ia N_startLate)))] → va_S A s.heap H locs → lv_has ls 6 [] → f_T_delay_j29 F = some (z_T_analysed, z_N_gateEarly, z_N_gateLate, z_N_startEarly, z_N_startLate) → W p l e (headSpec w_T_delay rm_T_delay).room s m args below meth c H locs 0 0 Q (F0 m 29 ls []) := by
    intro  H locs ls hP hD hS hl h
    rw [f_T_delay_j29] at h
    exact no_some h
  obtain ⟨hg0, h⟩ := gr_e h
  refine zi_eq hx hb d_T_delay_9 rfl hg0 (fun hc => ?_) (fun hc => ?_)
  · replace h := if_t hc h
    exact hj29  H locs ls hP hD hS (lv_sub hl [] rfl) h
  · replace h := if_f hc h
    refine lv_iload_n hx hb d_T_delay_12 rfl (lv_at hl 3 rfl) ?_
    obtain ⟨r13, hcall, h⟩ := ob1_e h
    refine ro_i (va_Run.run (va_runS (As := [.int (iI x3)]) (rest := []) ⟨hx, hb, hml, hown, hts⟩ (c_T_isBit l D cI cJ cZ F a x3 r13 H.size hcall) (cwS 1 hts (gd_S m786 m784 m785 m1) rfl rfl rfl ⟨rfl, hc_T_isBit⟩ ⟨Nat.le_of_ble_eq_true rfl, Nat.le_of_ble_eq_true rfl⟩) (pc_S [.int (iI x3)] hP hK hD hN [] rfl rfl rfl) rfl rfl hl.1 rfl (lv_room (Nat.le_of_ble_eq_true rfl)) d_T_delay_13 ⟨Nat.le_refl 0, Nat.le_refl 0⟩)) (W.eq (g2 := F0 m 16 ls [.int (iI r13)]) rfl ?_)
    obtain ⟨hg0, h⟩ := gr_e h
    refine zi_eq hx hb d_T_delay_16 rfl hg0 (fun hc => ?_) (fun hc => ?_)
    · replace h := if_t hc h
      exact hj29  H locs ls hP hD hS (lv_sub hl [] rfl) h
    · replace h := if_f hc h
      refine lv_iload hx hb d_T_delay_19 (lv_at hl 4 rfl) ?_
      refine lv_iload hx hb d_T_delay_21 (lv_at hl 5 rfl) ?_
      obtain ⟨r23, hcall, h⟩ := ob1_e h
      refine ro_i (va_Run.run (va_runS (As := [.int (iI x4), .int (iI x5)]) (rest := []) ⟨hx, hb, hml, hown, hts⟩ (c_T_isDelay l D cI cJ cZ F a x4 x5 r23 H.size hcall) (cwS 2 hts (gd_S m760 m758 m759 m1) rfl rfl rfl ⟨rfl, hc_T_isDelay⟩ ⟨Nat.le_of_ble_eq_true rfl, Nat.le_of_ble_eq_true rfl⟩) (pc_S [.int (iI x4), .int (iI x5)] hP hK hD hN [] rfl rfl rfl) rfl rfl hl.1 rfl (lv_room (Nat.le_of_ble_eq_true rfl)) d_T_delay_23 ⟨Nat.le_refl 0, Nat.le_refl 0⟩)) (W.eq (g2 := F0 m 26 ls [.int (iI r23)]) rfl ?_)
      obtain ⟨hg0, h⟩ := gr_e h
      refine zi_ne hx hb d_T_delay_26 rfl hg0 (fun hc => ?_) (fun hc => ?_)
      · replace h := if_f hc h
        refine lv_aload_n hx hb d_T_delay_37 rfl (lv_at hl 0 rfl) ?_
        refine va_get (D := D) (ci := 0) (v := .ref (a 43)) (C := R_T) (T := F_T) (N := 7) hx hb hT in_T hown hK hP 0 rfl rfl 0 (by decide) (hT _ m409) (fun _ h9 => h9) rfl d_T_delay_38 ?_
        refine va_get (D := D) (ci := 1) (v := .ref (a 44)) (C := R_Net) (T := F_Net) (N := 15) hx hb hT in_Net hown hK hP 1 rfl rfl 3 (by decide) (hT _ m57) (fun _ h9 => h9) rfl d_T_delay_41 ?_
        refine lv_iload_n hx hb d_T_delay_44 rfl (lv_at hl 1 rfl) ?_
        obtain ⟨hin, h⟩ := gi_e h
        refine zv_iald hx hb hK hP 2 0 rfl rfl (Nat.le_of_ble_eq_true rfl) hin d_T_delay_45 ?_
        refine zv_iconst hx hb d_T_delay_46 ?_
        have hj83 : ∀ (N_gateEarly_1 : Int → Int) (N_gateLate_2 : Int → Int) (N_startEarly_3 : Int → Int) (N_startLate_4 : Int → Int) (H : Heap) (locs : List Loc) (ls : Array Slot), va_P D vwCl [(o_T a T_analysed), (o_N a N_period N_width N_size), ((a 44), .inl (cI, 48, .inl (ia N_kind))), ((a 45), .inl (cI, 48, .inl (ia N_pins))), ((a 50), .inl (cI, 288, .inl (ia N_gateEarly_1))), ((a 51), .inl (cI, 288, .inl (ia N_gateLate_2))), ((a 52), .inl (cI, 96, .inl (ia N_startEarly_3))), ((a 53), .inl (cI, 96, .inl (ia N_startLate_4)))] H → va_D A [(o_T a T_analysed), (o_N a N_period N_width N_size), ((a 44), .inl (cI, 48, .inl (ia N_kind))), ((a 45), .inl (cI, 48, .inl (ia N_pins))), ((a 50), .inl (cI, 288, .inl (ia N_gateEarly_1))), ((a 51), .inl (cI, 288, .inl (ia N_gateLate_2))), ((a 52), .inl (cI, 96, .inl (ia N_startEarly_3))), ((a 53), .inl (cI, 96, .inl (ia N_startLate_4)))] → va_S A s.heap H locs → lv_has ls 6 [(0, .ref (a 0))] → f_T_delay_j83 F N_gateEarly_1 N_gateLate_2 N_startEarly_3 N_startLate_4 = some (z_T_analysed, z_N_gateEarly, z_N_gateLate, z_N_startEarly, z_N_startLate) → W p l e (headSpec w_T_delay rm_T_delay).room s m args below meth c H locs 0 0 Q (F0 m 83 ls []) := by
          intro N_gateEarly_1 N_gateLate_2 N_startEarly_3 N_startLate_4 H locs ls hP hD hS hl h
          rw [f_T_delay_j83] at h
          refine lv_aload_n hx hb d_T_delay_83 rfl (lv_at hl 0 rfl) ?_
          refine zv_iconst hx hb d_T_delay_84 ?_
          refine va_put (D := D) (ci := 0) (v := .int (iI 0)) (ty := .boolean) (C := R_T) (T := F_T) (N := 7) hx hb hT in_T ty_T ty_T_ok n_T hown hK hP hD hS 0 rfl rfl 6 (by decide) (hT _ m415) (fun _ h9 => h9) rfl (by decide +kernel) rfl rfl (Nat.le_of_ble_eq_true rfl) d_T_delay_85 (fun H locs hP hD hS => ?_)
          have hP : va_P D vwCl [(o_T a 0), (o_N a N_period N_width N_size), ((a 44), .inl (cI, 48, .inl (ia N_kind))), ((a 45), .inl (cI, 48, .inl (ia N_pins))), ((a 50), .inl (cI, 288, .inl (ia N_gateEarly_1))), ((a 51), .inl (cI, 288, .inl (ia N_gateLate_2))), ((a 52), .inl (cI, 96, .inl (ia N_startEarly_3))), ((a 53), .inl (cI, 96, .inl (ia N_startLate_4)))] H := hP
          have hD : va_D A [(o_T a 0), (o_N a N_period N_width N_size), ((a 44), .inl (cI, 48, .inl (ia N_kind))), ((a 45), .inl (cI, 48, .inl (ia N_pins))), ((a 50), .inl (cI, 288, .inl (ia N_gateEarly_1))), ((a 51), .inl (cI, 288, .inl (ia N_gateLate_2))), ((a 52), .inl (cI, 96, .inl (ia N_startEarly_3))), ((a 53), .inl (cI, 96, .inl (ia N_startLate_4)))] := hD
          obtain ⟨e1, e2, e3, e4, e5⟩ := so5 h
          rw [hQ, e1, e2, e3, e4, e5]; rw [hAe] at hD hS; exact W.vret hx hb hr (fun t ht hW => ⟨⟨(), rfl, trivial, by rw [ht]; exact hP, va_K.moved hW.alike hK, hD⟩, hS.F ht⟩) hS.2.2 d_T_delay_88
        obtain ⟨hg0, h⟩ := gr_e h
        refine zc_ne hx hb d_T_delay_47 rfl hg0 (by decide) (fun hc => ?_) (fun hc => ?_)
        · replace h := if_f hc h
          refine lv_aload_n hx hb d_T_delay_70 rfl (lv_at hl 0 rfl) ?_
          refine va_get (D := D) (ci := 0) (v := .ref (a 43)) (C := R_T) (T := F_T) (N := 7) hx hb hT in_T hown hK hP 0 rfl rfl 0 (by decide) (hT _ m409) (fun _ h9 => h9) rfl d_T_delay_71 ?_
          refine lv_iload_n hx hb d_T_delay_74 rfl (lv_at hl 1 rfl) ?_
          refine lv_iload_n hx hb d_T_delay_75 rfl (lv_at hl 3 rfl) ?_
          refine lv_iload hx hb d_T_delay_76 (lv_at hl 4 rfl) ?_
          refine lv_iload hx hb d_T_delay_78 (lv_at hl 5 rfl) ?_
          obtain ⟨N_startEarly_5, N_startLate_6, hcall, h⟩ := ob2_e h
          refine ca_v (w2 := [(o_T a T_analysed), (o_N a N_period N_width N_size), ((a 44), .inl (cI, 48, .inl (ia N_kind))), ((a 45), .inl (cI, 48, .inl (ia N_pins))), ((a 50), .inl (cI, 288, .inl (ia N_gateEarly))), ((a 51), .inl (cI, 288, .inl (ia N_gateLate))), ((a 52), .inl (cI, 96, .inl (ia N_startEarly_5))), ((a 53), .inl (cI, 96, .inl (ia N_startLate_6)))]) (va_runV (As := [.int (iI x1), .int (iI x3), .int (iI x4), .int (iI x5)]) (rest := []) ⟨hx, hb, hml, hown, hts⟩ (c_Net_setStart l D cI cJ cZ F a N_period N_width N_size N_startEarly N_startLate x1 x3 x4 x5 N_startEarly_5 N_startLate_6 H.size hcall) (cwV 4 hts (gd_V m735 m732 m733 m734 m2) rfl rfl rfl ⟨rfl, hc_Net_setStart⟩ ⟨Nat.le_of_ble_eq_true rfl, Nat.le_of_ble_eq_true rfl⟩) (pc_V 1 1 [.int (iI x1), .int (iI x3), .int (iI x4), .int (iI x5)] hP hK hD hN [1, 6, 7] rfl rfl rfl rfl rfl) rfl rfl hl.1 rfl (lv_room (Nat.le_of_ble_eq_true rfl)) d_T_delay_80 ⟨Nat.le_refl 0, Nat.le_refl 0⟩) hP hD hS hA [1, 6, 7] [0, 2, 3, 4, 5] [0, 5, 1, 2, 3, 4, 6, 7] rfl rfl rfl (by decide) rfl rfl rfl (fun H locs hP hD hS => ?_)
          exact hj83 N_gateEarly N_gateLate N_startEarly_5 N_startLate_6 H locs ls hP hD hS (lv_sub hl [0] rfl) h
        · replace h := if_t hc h
          refine lv_aload_n hx hb d_T_delay_50 rfl (lv_at hl 0 rfl) ?_
          refine va_get (D := D) (ci := 0) (v := .ref (a 43)) (C := R_T) (T := F_T) (N := 7) hx hb hT in_T hown hK hP 0 rfl rfl 0 (by decide) (hT _ m409) (fun _ h9 => h9) rfl d_T_delay_51 ?_
          refine lv_iload_n hx hb d_T_delay_54 rfl (lv_at hl 1 rfl) ?_
          refine zv_iconst hx hb d_T_delay_55 ?_
          refine zv_imul hx hb d_T_delay_56 ?_
          refine lv_iload_n hx hb d_T_delay_57 rfl (lv_at hl 2 rfl) ?_
          refine zv_iadd hx hb d_T_delay_58 ?_
          refine lv_iload_n hx hb d_T_delay_59 rfl (lv_at hl 3 rfl) ?_
          refine lv_iload hx hb d_T_delay_60 (lv_at hl 4 rfl) ?_
          refine lv_iload hx hb d_T_delay_62 (lv_at hl 5 rfl) ?_
          obtain ⟨N_gateEarly_7, N_gateLate_8, hcall, h⟩ := ob2_e h
          refine ca_v (w2 := [(o_T a T_analysed), (o_N a N_period N_width N_size), ((a 44), .inl (cI, 48, .inl (ia N_kind))), ((a 45), .inl (cI, 48, .inl (ia N_pins))), ((a 50), .inl (cI, 288, .inl (ia N_gateEarly_7))), ((a 51), .inl (cI, 288, .inl (ia N_gateLate_8))), ((a 52), .inl (cI, 96, .inl (ia N_startEarly))), ((a 53), .inl (cI, 96, .inl (ia N_startLate)))]) (va_runV (As := [.int (iI ((x1 * 3) + x2)), .int (iI x3), .int (iI x4), .int (iI x5)]) (rest := []) ⟨hx, hb, hml, hown, hts⟩ (c_Net_setGateDelay l D cI cJ cZ F a N_period N_width N_size N_gateEarly N_gateLate ((x1 * 3) + x2) x3 x4 x5 N_gateEarly_7 N_gateLate_8 H.size hcall) (cwV 4 hts (gd_V m790 m787 m788 m789 m2) rfl rfl rfl ⟨rfl, hc_Net_setGateDelay⟩ ⟨Nat.le_of_ble_eq_true rfl, Nat.le_of_ble_eq_true rfl⟩) (pc_V 1 1 [.int (iI ((x1 * 3) + x2)), .int (iI x3), .int (iI x4), .int (iI x5)] hP hK hD hN [1, 4, 5] rfl rfl rfl rfl rfl) rfl rfl hl.1 rfl (lv_room (Nat.le_of_ble_eq_true rfl)) d_T_delay_64 ⟨Nat.le_refl 0, Nat.le_refl 0⟩) hP hD hS hA [1, 4, 5] [0, 2, 3, 6, 7] [0, 5, 1, 2, 6, 7, 3, 4] rfl rfl rfl (by decide) rfl rfl rfl (fun H locs hP hD hS => ?_)
          refine lv_goto hx hb d_T_delay_67 rfl ?_
          exact hj83 N_gateEarly_7 N_gateLate_8 N_startEarly N_startLate H locs ls hP hD hS (lv_sub hl [0] rfl) h
      · replace h := if_t hc h
        exact hj29  H locs ls hP hD hS (lv_sub hl [] rfl) h
abbrev rm_Net_isEnd : Room := { frames := 2, cells := 0, slots := 0, locals := 43 }
set_option maxHeartbeats 4000000 in
set_option maxRecDepth 100000 in
theorem c_Net_isEnd (l : Launch) (D : va_G) (cI cJ cZ : ClassId) (F : Nat) (a : Nat → Nat) (N_period : Int) (N_width : Int) (N_size : Int) (N_kind : Int → Int) (x1 : Int) (r : Int) (sz : Nat) (h : f_Net_isEnd F N_size N_kind x1 = some (r)) : Met l y_Net_isEnd w_Net_isEnd rm_Net_isEnd (PC D [(cI, .int), (cJ, .long), (cZ, .boolean)] [.ref (a 43), .int (iI x1)] ([(o_N a N_period N_width N_size), ((a 44), .inl (cI, 48, .inl (ia N_kind)))]) sz) (QcRead (iI r)) 0 0 (fun _ => False) := by
  refine Met.ofW (cc := prog_5_method_8_code) (maxL := 2) (ret := (Option.some Jvm.ClassFile.FieldType.boolean)) (by decide) rfl ?_
  intro p e s m args below meth c s₁ B hml hv
  obtain ⟨rfl, hsz, hP, hK, hD0, hN⟩ := hv
  have hx := B.exec
  have hb := B.bytes
  have hr := B.returns
  have hts := atoms_spec (ws := w_Net_isEnd) B.pre
  have hown : s.vm.findClass R_Net = some m.cls := findClass_of_methodNamed B.named
  have hlocks := B.notSynchronized
  subst hsz
  have hl := lv_entry ([.ref (a 43), .int (iI x1)]) (n := 2) (Nat.le_of_ble_eq_true rfl)
  rw [lg_entry_eq]
  generalize (lg_sl ([.ref (a 43), .int (iI x1)]) ++ List.replicate (2 - (lg_sl ([.ref (a 43), .int (iI x1)])).length) Slot.unset).toArray = ls at hl ⊢
  have hl : lv_has ls 2 [(0, .ref (a 43)), (1, .int (iI x1))] := hl
  generalize (List.toArray ([.ref (a 43), .int (iI x1)] : List Value)) = args at hts ⊢
  have hT : ∀ w ∈ Tg, w.before args s = true := fun w h => hts w (List.mem_cons_of_mem _ h)
  obtain ⟨Q, hQ⟩ : ∃ Q, Q = MQ below (QcRead (iI r)) args s 0 0 (fun _ => False) := ⟨_, rfl⟩
  rw [← hQ]
  rw [f_Net_isEnd] at h
  refine lv_aload_n hx hb d_Net_isEnd_0 rfl (lv_at hl 0 rfl) ?_
  refine lv_iload_n hx hb d_Net_isEnd_1 rfl (lv_at hl 1 rfl) ?_
  obtain ⟨r2, hcall, h⟩ := ob1_e h
  refine ro_i (va_Run.run (va_runV (As := [.int (iI x1)]) (rest := []) ⟨hx, hb, hml, hown, hts⟩ (c_Net_isNode l D cI cJ cZ F a N_period N_width N_size x1 r2 s.heap.size hcall) (cwV 1 hts (gd_V m570 m567 m568 m569 m2) rfl rfl rfl ⟨rfl, hc_Net_isNode⟩ ⟨Nat.le_of_ble_eq_true rfl, Nat.le_of_ble_eq_true rfl⟩) (pc_V 0 1 [.int (iI x1)] hP hK hD0 hN [0] rfl rfl rfl rfl rfl) rfl rfl hl.1 rfl (lv_room (Nat.le_of_ble_eq_true rfl)) d_Net_isEnd_2 ⟨Nat.le_refl 0, Nat.le_refl 0⟩)) (W.eq (g2 := F0 m 5 ls [.int (iI r2)]) rfl ?_)
  have hj32 : ∀  (ls : Array Slot), lv_has ls 2 [] → f_Net_isEnd_j32 F = some (r) → W p l e (headSpec w_Net_isEnd rm_Net_isEnd).room s m args below meth c s.heap [] 0 0 Q (F0 m 32 ls []) := by
    intro  ls hl h
    rw [f_Net_isEnd_j32] at h
    refine zv_iconst hx hb d_Net_isEnd_32 ?_
    obtain ⟨hbo, h⟩ := gb_e h
    have e1 := so1 h
    rw [hQ, e1]; exact W.zret (ty := .boolean) hx hb hr (gb_n hbo) (fun t ht hW => ⟨rfl, ht⟩) (fun q h => nomatch h) d_Net_isEnd_33
  obtain ⟨hg0, h⟩ := gr_e h
  refine zi_eq hx hb d_Net_isEnd_5 rfl hg0 (fun hc => ?_) (fun hc => ?_)
  · replace h := if_t hc h
    exact hj32  ls (lv_sub hl [] rfl) h
  · replace h := if_f hc h
    refine lv_aload_n hx hb d_Net_isEnd_8 rfl (lv_at hl 0 rfl) ?_
    refine va_get (D := D) (ci := 1) (v := .ref (a 44)) (C := R_Net) (T := F_Net) (N := 15) hx hb hT in_Net hown hK hP 0 rfl rfl 3 (by decide) (hT _ m54) (fun _ h9 => h9) rfl d_Net_isEnd_9 ?_
    refine lv_iload_n hx hb d_Net_isEnd_12 rfl (lv_at hl 1 rfl) ?_
    obtain ⟨hin, h⟩ := gi_e h
    refine zv_iald hx hb hK hP 1 0 rfl rfl (Nat.le_of_ble_eq_true rfl) hin d_Net_isEnd_13 ?_
    refine zv_iconst hx hb d_Net_isEnd_14 ?_
    have hj28 : ∀  (ls : Array Slot), lv_has ls 2 [] → f_Net_isEnd_j28 F = some (r) → W p l e (headSpec w_Net_isEnd rm_Net_isEnd).room s m args below meth c s.heap [] 0 0 Q (F0 m 28 ls []) := by
      intro  ls hl h
      rw [f_Net_isEnd_j28] at h
      refine zv_iconst hx hb d_Net_isEnd_28 ?_
      refine lv_goto hx hb d_Net_isEnd_29 rfl ?_
      obtain ⟨hbo, h⟩ := gb_e h
      have e1 := so1 h
      rw [hQ, e1]; exact W.zret (ty := .boolean) hx hb hr (gb_n hbo) (fun t ht hW => ⟨rfl, ht⟩) (fun q h => nomatch h) d_Net_isEnd_33
    obtain ⟨hg0, h⟩ := gr_e h
    refine zc_eq hx hb d_Net_isEnd_15 rfl hg0 (by decide) (fun hc => ?_) (fun hc => ?_)
    · replace h := if_t hc h
      exact hj28  ls (lv_sub hl [] rfl) h
    · replace h := if_f hc h
      refine lv_aload_n hx hb d_Net_isEnd_18 rfl (lv_at hl 0 rfl) ?_
      refine va_get (D := D) (ci := 1) (v := .ref (a 44)) (C := R_Net) (T := F_Net) (N := 15) hx hb hT in_Net hown hK hP 0 rfl rfl 3 (by decide) (hT _ m54) (fun _ h9 => h9) rfl d_Net_isEnd_19 ?_
      refine lv_iload_n hx hb d_Net_isEnd_22 rfl (lv_at hl 1 rfl) ?_
      obtain ⟨hin, h⟩ := gi_e h
      refine zv_iald hx hb hK hP 1 0 rfl rfl (Nat.le_of_ble_eq_true rfl) hin d_Net_isEnd_23 ?_
      refine zv_iconst hx hb d_Net_isEnd_24 ?_
      obtain ⟨hg0, h⟩ := gr_e h
      refine zc_ne hx hb d_Net_isEnd_25 rfl hg0 (by decide) (fun hc => ?_) (fun hc => ?_)
      · replace h := if_f hc h
        exact hj32  ls (lv_sub hl [] rfl) h
      · replace h := if_t hc h
        exact hj28  ls (lv_sub hl [] rfl) h
abbrev rm_T_isCheckTime : Room := { frames := 1, cells := 0, slots := 0, locals := 22 }
set_option maxHeartbeats 4000000 in
set_option maxRecDepth 100000 in
theorem c_T_isCheckTime (l : Launch) (D : va_G) (cI cJ cZ : ClassId) (F : Nat) (a : Nat → Nat) (x0 : Int) (r : Int) (sz : Nat) (h : f_T_isCheckTime F x0 = some (r)) : Met l y_T_isCheckTime w_T_isCheckTime rm_T_isCheckTime (PC D [(cI, .int), (cJ, .long), (cZ, .boolean)] [.int (iI x0)] ([]) sz) (QcRead (iI r)) 0 0 (fun _ => False) := by
  refine Met.ofW (cc := prog_1_method_30_code) (maxL := 1) (ret := (Option.some Jvm.ClassFile.FieldType.boolean)) (by decide) rfl ?_
  intro p e s m args below meth c s₁ B hml hv
  obtain ⟨rfl, hsz, hP, hK, hD0, hN⟩ := hv
  have hx := B.exec
  have hb := B.bytes
  have hr := B.returns
  have hts := atoms_spec (ws := w_T_isCheckTime) B.pre
  have hown : s.vm.findClass R_T = some m.cls := findClass_of_methodNamed B.named
  have hlocks := B.notSynchronized
  subst hsz
  have hl := lv_entry ([.int (iI x0)]) (n := 1) (Nat.le_of_ble_eq_true rfl)
  rw [lg_entry_eq]
  generalize (lg_sl ([.int (iI x0)]) ++ List.replicate (1 - (lg_sl ([.int (iI x0)])).length) Slot.unset).toArray = ls at hl ⊢
  have hl : lv_has ls 1 [(0, .int (iI x0))] := hl
  generalize (List.toArray ([.int (iI x0)] : List Value)) = args at hts ⊢
  have hT : ∀ w ∈ Tg, w.before args s = true := fun w h => hts w (List.mem_cons_of_mem _ h)
  obtain ⟨Q, hQ⟩ : ∃ Q, Q = MQ below (QcRead (iI r)) args s 0 0 (fun _ => False) := ⟨_, rfl⟩
  rw [← hQ]
  rw [f_T_isCheckTime] at h
  refine lv_iload_n hx hb d_T_isCheckTime_0 rfl (lv_at hl 0 rfl) ?_
  refine lv_sipush (v := iI (-10000)) hx hb d_T_isCheckTime_1 (by decide) ?_
  refine lv_sipush (v := iI 10000) hx hb d_T_isCheckTime_4 (by decide) ?_
  obtain ⟨r7, hcall, h⟩ := ob1_e h
  refine ro_i (va_Run.run (va_runS (As := [.int (iI x0), .int (iI (-10000)), .int (iI 10000)]) (rest := []) ⟨hx, hb, hml, hown, hts⟩ (c_T_isWithin l D cI cJ cZ F a x0 (-10000) 10000 r7 s.heap.size hcall) (cwS 3 hts (gd_S m573 m657 m572 m1) rfl rfl rfl ⟨rfl, hc_T_isWithin⟩ ⟨Nat.le_of_ble_eq_true rfl, Nat.le_of_ble_eq_true rfl⟩) (pc_S [.int (iI x0), .int (iI (-10000)), .int (iI 10000)] hP hK hD0 hN [] rfl rfl rfl) rfl rfl hl.1 rfl (lv_room (Nat.le_of_ble_eq_true rfl)) d_T_isCheckTime_7 ⟨Nat.le_refl 0, Nat.le_refl 0⟩)) (W.eq (g2 := F0 m 10 ls [.int (iI r7)]) rfl ?_)
  obtain ⟨hbo, h⟩ := gb_e h
  have e1 := so1 h
  rw [hQ, e1]; exact W.zret (ty := .boolean) hx hb hr (gb_n hbo) (fun t ht hW => ⟨rfl, ht⟩) (fun q h => nomatch h) d_T_isCheckTime_10
abbrev rm_T_check : Room := { frames := 6, cells := 0, slots := 0, locals := 110 }
set_option maxHeartbeats 4000000 in
set_option maxRecDepth 100000 in
theorem c_T_check (l : Launch) (D : va_G) (cI cJ cZ : ClassId) (F : Nat) (a : Nat → Nat) (T_analysed : Int) (N_period : Int) (N_width : Int) (N_size : Int) (N_kind : Int → Int) (N_setups : Int → Int) (N_holds : Int → Int) (x1 : Int) (x2 : Int) (x3 : Int) (x4 : Int) (z_T_analysed : Int) (z_N_setups : Int → Int) (z_N_holds : Int → Int) (sz : Nat) (h : f_T_check F N_size N_kind N_setups N_holds x1 x2 x3 x4 = some (z_T_analysed, z_N_setups, z_N_holds)) : Met l y_T_check w_T_check rm_T_check (PC D [(cI, .int), (cJ, .long), (cZ, .boolean)] [.ref (a 0), .int (iI x1), .int (iI x2), .int (iI x3), .int (iI x4)] ([(o_T a T_analysed), (o_N a N_period N_width N_size), ((a 44), .inl (cI, 48, .inl (ia N_kind))), ((a 54), .inl (cI, 96, .inl (ia N_setups))), ((a 55), .inl (cI, 96, .inl (ia N_holds)))]) sz) (QV D [(cI, .int), (cJ, .long), (cZ, .boolean)] ([(o_T a T_analysed), (o_N a N_period N_width N_size), ((a 44), .inl (cI, 48, .inl (ia N_kind))), ((a 54), .inl (cI, 96, .inl (ia N_setups))), ((a 55), .inl (cI, 96, .inl (ia N_holds)))]) sz ([(o_T a z_T_analysed), (o_N a N_period N_width N_size), ((a 44), .inl (cI, 48, .inl (ia N_kind))), ((a 54), .inl (cI, 96, .inl (ia z_N_setups))), ((a 55), .inl (cI, 96, .inl (ia z_N_holds)))])) 0 0 (va_A ([(o_T a T_analysed), (o_N a N_period N_width N_size), ((a 44), .inl (cI, 48, .inl (ia N_kind))), ((a 54), .inl (cI, 96, .inl (ia N_setups))), ((a 55), .inl (cI, 96, .inl (ia N_holds)))]) sz) := by
  refine Met.ofW (cc := prog_1_method_10_code) (maxL := 5) (ret := (Option.none : Option Jvm.ClassFile.FieldType)) (by decide) rfl ?_
  intro p e s m args below meth c s₁ B hml hv
  obtain ⟨rfl, hsz, hP, hK, hD0, hN⟩ := hv
  have hx := B.exec
  have hb := B.bytes
  have hr := B.returns
  have hts := atoms_spec (ws := w_T_check) B.pre
  have hown : s.vm.findClass R_T = some m.cls := findClass_of_methodNamed B.named
  have hlocks := B.notSynchronized
  subst hsz
  have hD := hD0.self (sz := s.heap.size)
  obtain ⟨A, hAe⟩ : ∃ A, A = va_A ([(o_T a T_analysed), (o_N a N_period N_width N_size), ((a 44), .inl (cI, 48, .inl (ia N_kind))), ((a 54), .inl (cI, 96, .inl (ia N_setups))), ((a 55), .inl (cI, 96, .inl (ia N_holds)))]) s.heap.size := ⟨_, rfl⟩
  rw [← hAe] at hD
  have hA : ∀ q : Nat, s.heap.size ≤ q → A q := fun q h => by rw [hAe]; exact Or.inr h
  have hS : va_S A s.heap s.heap [] := va_S.rf
  have hl := lv_entry ([.ref (a 0), .int (iI x1), .int (iI x2), .int (iI x3), .int (iI x4)]) (n := 5) (Nat.le_of_ble_eq_true rfl)
  rw [lg_entry_eq]
  generalize (lg_sl ([.ref (a 0), .int (iI x1), .int (iI x2), .int (iI x3), .int (iI x4)]) ++ List.replicate (5 - (lg_sl ([.ref (a 0), .int (iI x1), .int (iI x2), .int (iI x3), .int (iI x4)])).length) Slot.unset).toArray = ls at hl ⊢
  have hl : lv_has ls 5 [(0, .ref (a 0)), (1, .int (iI x1)), (2, .int (iI x2)), (3, .int (iI x3)), (4, .int (iI x4))] := hl
  generalize (List.toArray ([.ref (a 0), .int (iI x1), .int (iI x2), .int (iI x3), .int (iI x4)] : List Value)) = args at hts ⊢
  have hT : ∀ w ∈ Tg, w.before args s = true := fun w h => hts w (List.mem_cons_of_mem _ h)
  obtain ⟨Q, hQ⟩ : ∃ Q, Q = MQ below (QV D [(cI, .int), (cJ, .long), (cZ, .boolean)] ([(o_T a T_analysed), (o_N a N_period N_width N_size), ((a 44), .inl (cI, 48, .inl (ia N_kind))), ((a 54), .inl (cI, 96, .inl (ia N_setups))), ((a 55), .inl (cI, 96, .inl (ia N_holds)))]) s.heap.size ([(o_T a z_T_analysed), (o_N a N_period N_width N_size), ((a 44), .inl (cI, 48, .inl (ia N_kind))), ((a 54), .inl (cI, 96, .inl (ia z_N_setups))), ((a 55), .inl (cI, 96, .inl (ia z_N_holds)))])) args s 0 0 (va_A ([(o_T a T_analysed), (o_N a N_period N_width N_size), ((a 44), .inl (cI, 48, .inl (ia N_kind))), ((a 54), .inl (cI, 96, .inl (ia N_setups))), ((a 55), .inl (cI, 96, .inl (ia N_holds)))]) s.heap.size) := ⟨_, rfl⟩
  rw [← hQ]
  suffices hW : ∀ (H : Heap) (locs : List Loc), va_P D vwCl ([(o_T a T_analysed), (o_N a N_period N_width N_size), ((a 44), .inl (cI, 48, .inl (ia N_kind))), ((a 54), .inl (cI, 96, .inl (ia N_setups))), ((a 55), .inl (cI, 96, .inl (ia N_holds)))]) H → va_D A ([(o_T a T_analysed), (o_N a N_period N_width N_size), ((a 44), .inl (cI, 48, .inl (ia N_kind))), ((a 54), .inl (cI, 96, .inl (ia N_setups))), ((a 55), .inl (cI, 96, .inl (ia N_holds)))]) → va_S A s.heap H locs → W p l e (headSpec w_T_check rm_T_check).room s m args below meth c H locs 0 0 Q (F0 m 0 ls []) from hW s.heap [] hP hD hS
  clear hP hD hS
  intro H locs hP hD hS
  rw [f_T_check] at h
  refine lv_aload_n hx hb d_T_check_0 rfl (lv_at hl 0 rfl) ?_
  refine va_get (D := D) (ci := 0) (v := .ref (a 43)) (C := R_T) (T := F_T) (N := 7) hx hb hT in_T hown hK hP 0 rfl rfl 0 (by decide) (hT _ m409) (fun _ h9 => h9) rfl d_T_check_1 ?_
  refine lv_iload_n hx hb d_T_check_4 rfl (lv_at hl 1 rfl) ?_
  obtain ⟨r5, hcall, h⟩ := ob1_e h
  refine ro_i (va_Run.run (va_runV (As := [.int (iI x1)]) (rest := []) ⟨hx, hb, hml, hown, hts⟩ (c_Net_isEnd l D cI cJ cZ F a N_period N_width N_size N_kind x1 r5 H.size hcall) (cwV 1 hts (gd_V m608 m798 m606 m607 m2) rfl rfl rfl ⟨rfl, hc_Net_isEnd⟩ ⟨Nat.le_of_ble_eq_true rfl, Nat.le_of_ble_eq_true rfl⟩) (pc_V 1 1 [.int (iI x1)] hP hK hD hN [1, 2] rfl rfl rfl rfl rfl) rfl rfl hl.1 rfl (lv_room (Nat.le_of_ble_eq_true rfl)) d_T_check_5 ⟨Nat.le_refl 0, Nat.le_refl 0⟩)) (W.eq (g2 := F0 m 8 ls [.int (iI r5)]) rfl ?_)
  have hj33 : ∀  (H : Heap) (locs : List Loc) (ls : Array Slot), va_P D vwCl [(o_T a T_analysed), (o_N a N_period N_width N_size), ((a 44), .inl (cI, 48, .inl (ia N_kind))), ((a 54), .inl (cI, 96, .inl (ia N_setups))), ((a 55), .inl (cI, 96, .inl (ia N_holds)))] H → va_D A [(o_T a T_analysed), (o_N a N_period N_width N_size), ((a 44), .inl (cI, 48, .inl (ia N_kind))), ((a 54), .inl (cI, 96, .inl (ia N_setups))), ((a 55), .inl (cI, 96, .inl (ia N_holds)))] → va_S A s.heap H locs → lv_has ls 5 [] → f_T_check_j33 F = some (z_T_analysed, z_N_setups, z_N_holds) → W p l e (headSpec w_T_check rm_T_check).room s m args below meth c H locs 0 0 Q (F0 m 33 ls []) := by
    intro  H locs ls hP hD hS hl h
    rw [f_T_check_j33] at h
    exact no_some h
  obtain ⟨hg0, h⟩ := gr_e h
  refine zi_eq hx hb d_T_check_8 rfl hg0 (fun hc => ?_) (fun hc => ?_)
  · replace h := if_t hc h
    exact hj33  H locs ls hP hD hS (lv_sub hl [] rfl) h
  · replace h := if_f hc h
    refine lv_iload_n hx hb d_T_check_11 rfl (lv_at hl 2 rfl) ?_
    obtain ⟨r12, hcall, h⟩ := ob1_e h
    refine ro_i (va_Run.run (va_runS (As := [.int (iI x2)]) (rest := []) ⟨hx, hb, hml, hown, hts⟩ (c_T_isBit l D cI cJ cZ F a x2 r12 H.size hcall) (cwS 1 hts (gd_S m786 m784 m785 m1) rfl rfl rfl ⟨rfl, hc_T_isBit⟩ ⟨Nat.le_of_ble_eq_true rfl, Nat.le_of_ble_eq_true rfl⟩) (pc_S [.int (iI x2)] hP hK hD hN [] rfl rfl rfl) rfl rfl hl.1 rfl (lv_room (Nat.le_of_ble_eq_true rfl)) d_T_check_12 ⟨Nat.le_refl 0, Nat.le_refl 0⟩)) (W.eq (g2 := F0 m 15 ls [.int (iI r12)]) rfl ?_)
    obtain ⟨hg0, h⟩ := gr_e h
    refine zi_eq hx hb d_T_check_15 rfl hg0 (fun hc => ?_) (fun hc => ?_)
    · replace h := if_t hc h
      exact hj33  H locs ls hP hD hS (lv_sub hl [] rfl) h
    · replace h := if_f hc h
      refine lv_iload_n hx hb d_T_check_18 rfl (lv_at hl 3 rfl) ?_
      obtain ⟨r19, hcall, h⟩ := ob1_e h
      refine ro_i (va_Run.run (va_runS (As := [.int (iI x3)]) (rest := []) ⟨hx, hb, hml, hown, hts⟩ (c_T_isCheckTime l D cI cJ cZ F a x3 r19 H.size hcall) (cwS 1 hts (gd_S m801 m799 m800 m1) rfl rfl rfl ⟨rfl, hc_T_isCheckTime⟩ ⟨Nat.le_of_ble_eq_true rfl, Nat.le_of_ble_eq_true rfl⟩) (pc_S [.int (iI x3)] hP hK hD hN [] rfl rfl rfl) rfl rfl hl.1 rfl (lv_room (Nat.le_of_ble_eq_true rfl)) d_T_check_19 ⟨Nat.le_refl 0, Nat.le_refl 0⟩)) (W.eq (g2 := F0 m 22 ls [.int (iI r19)]) rfl ?_)
      obtain ⟨hg0, h⟩ := gr_e h
      refine zi_eq hx hb d_T_check_22 rfl hg0 (fun hc => ?_) (fun hc => ?_)
      · replace h := if_t hc h
        exact hj33  H locs ls hP hD hS (lv_sub hl [] rfl) h
      · replace h := if_f hc h
        refine lv_iload hx hb d_T_check_25 (lv_at hl 4 rfl) ?_
        obtain ⟨r27, hcall, h⟩ := ob1_e h
        refine ro_i (va_Run.run (va_runS (As := [.int (iI x4)]) (rest := []) ⟨hx, hb, hml, hown, hts⟩ (c_T_isCheckTime l D cI cJ cZ F a x4 r27 H.size hcall) (cwS 1 hts (gd_S m801 m799 m800 m1) rfl rfl rfl ⟨rfl, hc_T_isCheckTime⟩ ⟨Nat.le_of_ble_eq_true rfl, Nat.le_of_ble_eq_true rfl⟩) (pc_S [.int (iI x4)] hP hK hD hN [] rfl rfl rfl) rfl rfl hl.1 rfl (lv_room (Nat.le_of_ble_eq_true rfl)) d_T_check_27 ⟨Nat.le_refl 0, Nat.le_refl 0⟩)) (W.eq (g2 := F0 m 30 ls [.int (iI r27)]) rfl ?_)
        obtain ⟨hg0, h⟩ := gr_e h
        refine zi_ne hx hb d_T_check_30 rfl hg0 (fun hc => ?_) (fun hc => ?_)
        · replace h := if_f hc h
          refine lv_aload_n hx hb d_T_check_41 rfl (lv_at hl 0 rfl) ?_
          refine va_get (D := D) (ci := 0) (v := .ref (a 43)) (C := R_T) (T := F_T) (N := 7) hx hb hT in_T hown hK hP 0 rfl rfl 0 (by decide) (hT _ m409) (fun _ h9 => h9) rfl d_T_check_42 ?_
          refine va_get (D := D) (ci := 1) (v := .ref (a 54)) (C := R_Net) (T := F_Net) (N := 15) hx hb hT in_Net hown hK hP 1 rfl rfl 13 (by decide) (hT _ m96) (fun _ h9 => h9) rfl d_T_check_45 ?_
          refine zv_iconst hx hb d_T_check_48 ?_
          refine lv_iload_n hx hb d_T_check_49 rfl (lv_at hl 1 rfl) ?_
          refine zv_imul hx hb d_T_check_50 ?_
          refine lv_iload_n hx hb d_T_check_51 rfl (lv_at hl 2 rfl) ?_
          refine zv_iadd hx hb d_T_check_52 ?_
          refine lv_iload_n hx hb d_T_check_53 rfl (lv_at hl 3 rfl) ?_
          obtain ⟨hin, h⟩ := gi_e h
          refine zv_iast hx hb hK hP hD hS 3 0 rfl rfl (Nat.le_of_ble_eq_true rfl) hin d_T_check_54 (fun H locs hP hD hS => ?_)
          obtain ⟨N_setups_1, hv⟩ : ∃ z, z = (ui N_setups ((2 * x1) + x2) x3) := ⟨_, rfl⟩
          replace h := bd_e hv h
          have hP : va_P D vwCl [(o_T a T_analysed), (o_N a N_period N_width N_size), ((a 44), .inl (cI, 48, .inl (ia N_kind))), ((a 54), .inl (cI, 96, .inl (ia N_setups_1))), ((a 55), .inl (cI, 96, .inl (ia N_holds)))] H := by rw [hv]; exact hP
          have hD : va_D A [(o_T a T_analysed), (o_N a N_period N_width N_size), ((a 44), .inl (cI, 48, .inl (ia N_kind))), ((a 54), .inl (cI, 96, .inl (ia N_setups_1))), ((a 55), .inl (cI, 96, .inl (ia N_holds)))] := by rw [hv]; exact hD
          refine lv_aload_n hx hb d_T_check_55 rfl (lv_at hl 0 rfl) ?_
          refine va_get (D := D) (ci := 0) (v := .ref (a 43)) (C := R_T) (T := F_T) (N := 7) hx hb hT in_T hown hK hP 0 rfl rfl 0 (by decide) (hT _ m409) (fun _ h9 => h9) rfl d_T_check_56 ?_
          refine va_get (D := D) (ci := 1) (v := .ref (a 55)) (C := R_Net) (T := F_Net) (N := 15) hx hb hT in_Net hown hK hP 1 rfl rfl 14 (by decide) (hT _ m100) (fun _ h9 => h9) rfl d_T_check_59 ?_
          refine zv_iconst hx hb d_T_check_62 ?_
          refine lv_iload_n hx hb d_T_check_63 rfl (lv_at hl 1 rfl) ?_
          refine zv_imul hx hb d_T_check_64 ?_
          refine lv_iload_n hx hb d_T_check_65 rfl (lv_at hl 2 rfl) ?_
          refine zv_iadd hx hb d_T_check_66 ?_
          refine lv_iload hx hb d_T_check_67 (lv_at hl 4 rfl) ?_
          obtain ⟨hin, h⟩ := gi_e h
          refine zv_iast hx hb hK hP hD hS 4 0 rfl rfl (Nat.le_of_ble_eq_true rfl) hin d_T_check_69 (fun H locs hP hD hS => ?_)
          obtain ⟨N_holds_2, hv⟩ : ∃ z, z = (ui N_holds ((2 * x1) + x2) x4) := ⟨_, rfl⟩
          replace h := bd_e hv h
          have hP : va_P D vwCl [(o_T a T_analysed), (o_N a N_period N_width N_size), ((a 44), .inl (cI, 48, .inl (ia N_kind))), ((a 54), .inl (cI, 96, .inl (ia N_setups_1))), ((a 55), .inl (cI, 96, .inl (ia N_holds_2)))] H := by rw [hv]; exact hP
          have hD : va_D A [(o_T a T_analysed), (o_N a N_period N_width N_size), ((a 44), .inl (cI, 48, .inl (ia N_kind))), ((a 54), .inl (cI, 96, .inl (ia N_setups_1))), ((a 55), .inl (cI, 96, .inl (ia N_holds_2)))] := by rw [hv]; exact hD
          refine lv_aload_n hx hb d_T_check_70 rfl (lv_at hl 0 rfl) ?_
          refine zv_iconst hx hb d_T_check_71 ?_
          refine va_put (D := D) (ci := 0) (v := .int (iI 0)) (ty := .boolean) (C := R_T) (T := F_T) (N := 7) hx hb hT in_T ty_T ty_T_ok n_T hown hK hP hD hS 0 rfl rfl 6 (by decide) (hT _ m415) (fun _ h9 => h9) rfl (by decide +kernel) rfl rfl (Nat.le_of_ble_eq_true rfl) d_T_check_72 (fun H locs hP hD hS => ?_)
          have hP : va_P D vwCl [(o_T a 0), (o_N a N_period N_width N_size), ((a 44), .inl (cI, 48, .inl (ia N_kind))), ((a 54), .inl (cI, 96, .inl (ia N_setups_1))), ((a 55), .inl (cI, 96, .inl (ia N_holds_2)))] H := hP
          have hD : va_D A [(o_T a 0), (o_N a N_period N_width N_size), ((a 44), .inl (cI, 48, .inl (ia N_kind))), ((a 54), .inl (cI, 96, .inl (ia N_setups_1))), ((a 55), .inl (cI, 96, .inl (ia N_holds_2)))] := hD
          obtain ⟨e1, e2, e3⟩ := so3 h
          rw [hQ, e1, e2, e3]; rw [hAe] at hD hS; exact W.vret hx hb hr (fun t ht hW => ⟨⟨(), rfl, trivial, by rw [ht]; exact hP, va_K.moved hW.alike hK, hD⟩, hS.F ht⟩) hS.2.2 d_T_check_75
        · replace h := if_t hc h
          exact hj33  H locs ls hP hD hS (lv_sub hl [] rfl) h
