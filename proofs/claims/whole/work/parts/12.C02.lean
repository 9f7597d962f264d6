abbrev rm_GateOrder_has : Room := { frames := 0, cells := 0, slots := 0, locals := 0 }
set_option maxHeartbeats 4000000 in
set_option maxRecDepth 100000 in
theorem c_GateOrder_has (l : Launch) (D : va_G) (cI cJ cZ : ClassId) (F : Nat) (a : Nat → Nat) (x0 : Int64) (x2 : Int) (r : Int) (sz : Nat) (h : f_GateOrder_has F x0 x2 = some (r)) : Met l y_GateOrder_has w_GateOrder_has rm_GateOrder_has (PC D [(cI, .int), (cJ, .long), (cZ, .boolean)] [.long x0, .int (iI x2)] ([]) sz) (QcRead (iI r)) 0 0 (fun _ => False) := by
  refine Met.ofW (cc := prog_4_method_6_code) (maxL := 3) (ret := (Option.some Jvm.ClassFile.FieldType.boolean)) (by decide) rfl ?_
  intro p e s m args below meth c s₁ B hml hv
  obtain ⟨rfl, hsz, hP, hK, hD0, hN⟩ := hv
  have hx := B.exec
  have hb := B.bytes
  have hr := B.returns
  have hts := atoms_spec (ws := w_GateOrder_has) B.pre
  have hown : s.vm.findClass R_GateOrder = some m.cls := findClass_of_methodNamed B.named
  have hlocks := B.notSynchronized
  subst hsz
  have hl := lv_entry ([.long x0, .int (iI x2)]) (n := 3) (Nat.le_of_ble_eq_true rfl)
  rw [lg_entry_eq]
  generalize (lg_sl ([.long x0, .int (iI x2)]) ++ List.replicate (3 - (lg_sl ([.long x0, .int (iI x2)])).length) Slot.unset).toArray = ls at hl ⊢
  have hl : lv_has ls 3 [(0, .long x0), (2, .int (iI x2))] := hl
  generalize (List.toArray ([.long x0, .int (iI x2)] : List Value)) = args at hts ⊢
  have hT : ∀ w ∈ Tg, w.before args s = true := fun w h => hts w (List.mem_cons_of_mem _ h)
  obtain ⟨Q, hQ⟩ : ∃ Q, Q = MQ below (QcRead (iI r)) args s 0 0 (fun _ => False) := ⟨_, rfl⟩
  rw [← hQ]
  rw [f_GateOrder_has] at h
  refine lv_lload_n hx hb d_GateOrder_has_0 rfl (lv_at hl 0 rfl) ?_
  refine lv_iload_n hx hb d_GateOrder_has_1 rfl (lv_at hl 1 rfl) ?_
  refine lv_lshr (v := (x0 >>> (Int32.toInt64 (iI x2) &&& 63))) hx hb d_GateOrder_has_2 rfl ?_
  refine lv_lconst (v := 1) hx hb d_GateOrder_has_3 (by decide) ?_
  refine lv_land hx hb d_GateOrder_has_4 ?_
  refine lv_lconst (v := 0) hx hb d_GateOrder_has_5 (by decide) ?_
  refine zv_lcmp hx hb d_GateOrder_has_6 ?_
  obtain ⟨hg0, h⟩ := gr_e h
  refine zi_eq hx hb d_GateOrder_has_7 rfl hg0 (fun hc => ?_) (fun hc => ?_)
  · replace h := if_t hc h
    refine zv_iconst hx hb d_GateOrder_has_14 ?_
    obtain ⟨hbo, h⟩ := gb_e h
    have e1 := so1 h
    rw [hQ, e1]; exact W.zret (ty := .boolean) hx hb hr (gb_n hbo) (fun t ht hW => ⟨rfl, ht⟩) (fun q h => nomatch h) d_GateOrder_has_15
  · replace h := if_f hc h
    refine zv_iconst hx hb d_GateOrder_has_10 ?_
    refine lv_goto hx hb d_GateOrder_has_11 rfl ?_
    obtain ⟨hbo, h⟩ := gb_e h
    have e1 := so1 h
    rw [hQ, e1]; exact W.zret (ty := .boolean) hx hb hr (gb_n hbo) (fun t ht hW => ⟨rfl, ht⟩) (fun q h => nomatch h) d_GateOrder_has_15
abbrev rm_GateOrder_gatesWiredTo : Room := { frames := 0, cells := 0, slots := 0, locals := 0 }
set_option maxHeartbeats 4000000 in
set_option maxRecDepth 100000 in
theorem c_GateOrder_gatesWiredTo (l : Launch) (D : va_G) (cI cJ cZ : ClassId) (F : Nat) (a : Nat → Nat) (O_count : Int) (N_period : Int) (N_width : Int) (N_size : Int) (N_kind : Int → Int) (N_pins : Int → Int) (N_source : Int → Int) (x1 : Int) (r : Int64) (sz : Nat) (h : f_GateOrder_gatesWiredTo F N_kind N_pins N_source x1 = some (r)) : Met l y_GateOrder_gatesWiredTo w_GateOrder_gatesWiredTo rm_GateOrder_gatesWiredTo (PC D [(cI, .int), (cJ, .long), (cZ, .boolean)] [.ref (a 40), .int (iI x1)] ([(o_O a O_count), (o_N a N_period N_width N_size), ((a 44), .inl (cI, 48, .inl (ia N_kind))), ((a 45), .inl (cI, 48, .inl (ia N_pins))), ((a 46), .inl (cI, 144, .inl (ia N_source)))]) sz) (QcReadL r) 0 0 (fun _ => False) := by
  refine Met.ofW (cc := prog_4_method_5_code) (maxL := 6) (ret := (Option.some Jvm.ClassFile.FieldType.long)) (by decide) rfl ?_
  intro p e s m args below meth c s₁ B hml hv
  obtain ⟨rfl, hsz, hP, hK, hD0, hN⟩ := hv
  have hx := B.exec
  have hb := B.bytes
  have hr := B.returns
  have hts := atoms_spec (ws := w_GateOrder_gatesWiredTo) B.pre
  have hown : s.vm.findClass R_GateOrder = some m.cls := findClass_of_methodNamed B.named
  have hlocks := B.notSynchronized
  subst hsz
  have hl := lv_entry ([.ref (a 40), .int (iI x1)]) (n := 6) (Nat.le_of_ble_eq_true rfl)
  rw [lg_entry_eq]
  generalize (lg_sl ([.ref (a 40), .int (iI x1)]) ++ List.replicate (6 - (lg_sl ([.ref (a 40), .int (iI x1)])).length) Slot.unset).toArray = ls at hl ⊢
  have hl : lv_has ls 6 [(0, .ref (a 40)), (1, .int (iI x1))] := hl
  generalize (List.toArray ([.ref (a 40), .int (iI x1)] : List Value)) = args at hts ⊢
  have hT : ∀ w ∈ Tg, w.before args s = true := fun w h => hts w (List.mem_cons_of_mem _ h)
  obtain ⟨Q, hQ⟩ : ∃ Q, Q = MQ below (QcReadL r) args s 0 0 (fun _ => False) := ⟨_, rfl⟩
  rw [← hQ]
  rw [f_GateOrder_gatesWiredTo] at h
  refine lv_lconst (v := 0) hx hb d_GateOrder_gatesWiredTo_0 (by decide) ?_
  refine lv_lstore_n (lv' := [(2, .long 0), (0, .ref (a 40)), (1, .int (iI x1))]) hx hb d_GateOrder_gatesWiredTo_1 rfl hl (by decide) rfl (fun ls hl => ?_)
  refine zv_iconst hx hb d_GateOrder_gatesWiredTo_2 ?_
  refine lv_istore (lv' := [(4, .int (iI 0)), (2, .long 0), (0, .ref (a 40)), (1, .int (iI x1))]) hx hb d_GateOrder_gatesWiredTo_3 hl (by decide) rfl (fun ls hl => ?_)
  have hl5 : ∀ (nf : Nat) (v2 : Int64) (v4 : Int) (ls : Array Slot), lv_has ls 6 [(0, .ref (a 40)), (1, .int (iI x1)), (2, .long v2), (4, .int (iI v4))] → lq2 (f_GateOrder_gatesWiredTo_b5 F N_kind N_pins N_source x1) nf v2 v4 = some (r) → W p l e (headSpec w_GateOrder_gatesWiredTo rm_GateOrder_gatesWiredTo).room s m args below meth c s.heap [] 0 0 Q (F0 m 5 ls []) := by
    intro n5
    induction n5 with
    | zero => intro v2 v4 ls hl h; exact no_some h
    | succ n5 ih5 =>
      intro v2 v4 ls hl h
      replace h : f_GateOrder_gatesWiredTo_b5 F N_kind N_pins N_source x1 (lq2 (f_GateOrder_gatesWiredTo_b5 F N_kind N_pins N_source x1) n5) v2 v4 = some (r) := h
      obtain ⟨self5, hs5⟩ : ∃ z, z = lq2 (f_GateOrder_gatesWiredTo_b5 F N_kind N_pins N_source x1) n5 := ⟨_, rfl⟩
      rw [← hs5] at h ih5
      rw [f_GateOrder_gatesWiredTo_b5] at h
      refine lv_iload hx hb d_GateOrder_gatesWiredTo_5 (lv_at hl 3 rfl) ?_
      refine lv_aload_n hx hb d_GateOrder_gatesWiredTo_7 rfl (lv_at hl 0 rfl) ?_
      refine va_get (D := D) (ci := 2) (v := .ref (a 43)) (C := R_GateOrder) (T := F_GateOrder) (N := 4) hx hb hT in_GateOrder hown hK hP 0 rfl rfl 0 (by decide) (hT _ m139) (fun _ h9 => h9) rfl d_GateOrder_gatesWiredTo_8 ?_
      refine va_get (D := D) (ci := 1) (v := .ref (a 45)) (C := R_Net) (T := F_Net) (N := 15) hx hb hT in_Net hown hK hP 1 rfl rfl 4 (by decide) (hT _ m60) (fun _ h9 => h9) rfl d_GateOrder_gatesWiredTo_11 ?_
      refine lv_iload_n hx hb d_GateOrder_gatesWiredTo_14 rfl (lv_at hl 1 rfl) ?_
      obtain ⟨hin, h⟩ := gi_e h
      refine zv_iald hx hb hK hP 3 0 rfl rfl (Nat.le_of_ble_eq_true rfl) hin d_GateOrder_gatesWiredTo_15 ?_
      obtain ⟨hg0, h⟩ := gr_e h
      obtain ⟨hg1, h⟩ := gr_e h
      refine zc_ge hx hb d_GateOrder_gatesWiredTo_16 rfl hg0 hg1 (fun hc => ?_) (fun hc => ?_)
      · replace h := if_t hc h
        refine lv_lload_n hx hb d_GateOrder_gatesWiredTo_67 rfl (lv_at hl 2 rfl) ?_
        have e1 := so1 h
        rw [hQ, e1]; exact W.lret hx hb hr (fun t ht hW => ⟨rfl, ht⟩) (fun q h => nomatch h) d_GateOrder_gatesWiredTo_68
      · replace h := if_f hc h
        refine lv_aload_n hx hb d_GateOrder_gatesWiredTo_19 rfl (lv_at hl 0 rfl) ?_
        refine va_get (D := D) (ci := 2) (v := .ref (a 43)) (C := R_GateOrder) (T := F_GateOrder) (N := 4) hx hb hT in_GateOrder hown hK hP 0 rfl rfl 0 (by decide) (hT _ m139) (fun _ h9 => h9) rfl d_GateOrder_gatesWiredTo_20 ?_
        refine va_get (D := D) (ci := 1) (v := .ref (a 46)) (C := R_Net) (T := F_Net) (N := 15) hx hb hT in_Net hown hK hP 1 rfl rfl 5 (by decide) (hT _ m67) (fun _ h9 => h9) rfl d_GateOrder_gatesWiredTo_23 ?_
        refine lv_iload_n hx hb d_GateOrder_gatesWiredTo_26 rfl (lv_at hl 1 rfl) ?_
        refine zv_iconst hx hb d_GateOrder_gatesWiredTo_27 ?_
        refine zv_imul hx hb d_GateOrder_gatesWiredTo_28 ?_
        refine lv_iload hx hb d_GateOrder_gatesWiredTo_29 (lv_at hl 3 rfl) ?_
        refine zv_iadd hx hb d_GateOrder_gatesWiredTo_31 ?_
        obtain ⟨hin, h⟩ := gi_e h
        refine zv_iald hx hb hK hP 4 0 rfl rfl (Nat.le_of_ble_eq_true rfl) hin d_GateOrder_gatesWiredTo_32 ?_
        refine zv_top (fun v5 hv => ?_)
        replace h := bd_e hv h
        refine lv_istore (lv' := [(5, .int (iI v5)), (0, .ref (a 40)), (1, .int (iI x1)), (2, .long v2), (4, .int (iI v4))]) hx hb d_GateOrder_gatesWiredTo_33 hl (by decide) rfl (fun ls hl => ?_)
        refine lv_iload hx hb d_GateOrder_gatesWiredTo_35 (lv_at hl 0 rfl) ?_
        have hj61 : ∀ (v2_1 : Int64) (ls : Array Slot), lv_has ls 6 [(0, .ref (a 40)), (1, .int (iI x1)), (2, .long v2_1), (4, .int (iI v4))] → f_GateOrder_gatesWiredTo_j61 F v4 self5 v2_1 = some (r) → W p l e (headSpec w_GateOrder_gatesWiredTo rm_GateOrder_gatesWiredTo).room s m args below meth c s.heap [] 0 0 Q (F0 m 61 ls []) := by
          intro v2_1 ls hl h
          rw [f_GateOrder_gatesWiredTo_j61] at h
          refine lv_iinc (v := iI (v4 + 1)) (k := 3) (lv' := [(4, .int (iI (v4 + 1))), (0, .ref (a 40)), (1, .int (iI x1)), (2, .long v2_1)]) hx hb d_GateOrder_gatesWiredTo_61 hl rfl (iI_add _ _) (by decide) rfl (fun ls hl => ?_)
          refine lv_goto hx hb d_GateOrder_gatesWiredTo_64 rfl ?_
          exact ih5 v2_1 (v4 + 1) ls (lv_sub hl [1, 2, 3, 0] rfl) h
        obtain ⟨hg0, h⟩ := gr_e h
        refine zi_lt hx hb d_GateOrder_gatesWiredTo_37 rfl hg0 (fun hc => ?_) (fun hc => ?_)
        · replace h := if_t hc h
          exact hj61 v2 ls (lv_sub hl [1, 2, 3, 4] rfl) h
        · replace h := if_f hc h
          refine lv_aload_n hx hb d_GateOrder_gatesWiredTo_40 rfl (lv_at hl 1 rfl) ?_
          refine va_get (D := D) (ci := 2) (v := .ref (a 43)) (C := R_GateOrder) (T := F_GateOrder) (N := 4) hx hb hT in_GateOrder hown hK hP 0 rfl rfl 0 (by decide) (hT _ m139) (fun _ h9 => h9) rfl d_GateOrder_gatesWiredTo_41 ?_
          refine va_get (D := D) (ci := 1) (v := .ref (a 44)) (C := R_Net) (T := F_Net) (N := 15) hx hb hT in_Net hown hK hP 1 rfl rfl 3 (by decide) (hT _ m56) (fun _ h9 => h9) rfl d_GateOrder_gatesWiredTo_44 ?_
          refine lv_iload hx hb d_GateOrder_gatesWiredTo_47 (lv_at hl 0 rfl) ?_
          obtain ⟨hin, h⟩ := gi_e h
          refine zv_iald hx hb hK hP 2 0 rfl rfl (Nat.le_of_ble_eq_true rfl) hin d_GateOrder_gatesWiredTo_49 ?_
          refine zv_iconst hx hb d_GateOrder_gatesWiredTo_50 ?_
          obtain ⟨hg0, h⟩ := gr_e h
          refine zc_ne hx hb d_GateOrder_gatesWiredTo_51 rfl hg0 (by decide) (fun hc => ?_) (fun hc => ?_)
          · replace h := if_f hc h
            exact hj61 v2 ls (lv_sub hl [1, 2, 3, 4] rfl) h
          · replace h := if_t hc h
            refine lv_lload_n hx hb d_GateOrder_gatesWiredTo_54 rfl (lv_at hl 3 rfl) ?_
            refine lv_lconst (v := 1) hx hb d_GateOrder_gatesWiredTo_55 (by decide) ?_
            refine lv_iload hx hb d_GateOrder_gatesWiredTo_56 (lv_at hl 0 rfl) ?_
            refine lv_lshl (v := (1 <<< (Int32.toInt64 (iI v5) &&& 63))) hx hb d_GateOrder_gatesWiredTo_58 rfl ?_
            refine lv_lor hx hb d_GateOrder_gatesWiredTo_59 ?_
            refine lv_topl (fun v2_2 hv => ?_)
            replace h := bd_e hv h
            refine lv_lstore_n (lv' := [(2, .long v2_2), (5, .int (iI v5)), (0, .ref (a 40)), (1, .int (iI x1)), (4, .int (iI v4))]) hx hb d_GateOrder_gatesWiredTo_60 rfl hl (by decide) rfl (fun ls hl => ?_)
            exact hj61 v2_2 ls (lv_sub hl [2, 3, 0, 4] rfl) h
  exact hl5 F 0 0 ls (lv_sub hl [2, 3, 1, 0] rfl) h
abbrev rm_GateOrder_findLeading : Room := { frames := 1, cells := 0, slots := 0, locals := 25 }
set_option maxHeartbeats 4000000 in
set_option maxRecDepth 100000 in
theorem c_GateOrder_findLeading (l : Launch) (D : va_G) (cI cJ cZ : ClassId) (F : Nat) (a : Nat → Nat) (O_count : Int) (O_leading : Int → Int64) (N_period : Int) (N_width : Int) (N_size : Int) (N_kind : Int → Int) (N_pins : Int → Int) (N_source : Int → Int) (z_O_leading : Int → Int64) (sz : Nat) (h : f_GateOrder_findLeading F O_leading N_size N_kind N_pins N_source = some (z_O_leading)) : Met l y_GateOrder_findLeading w_GateOrder_findLeading rm_GateOrder_findLeading (PC D [(cI, .int), (cJ, .long), (cZ, .boolean)] [.ref (a 40)] ([(o_O a O_count), ((a 41), .inl (cJ, 48, .inr (.inl (la O_leading)))), (o_N a N_period N_width N_size), ((a 44), .inl (cI, 48, .inl (ia N_kind))), ((a 45), .inl (cI, 48, .inl (ia N_pins))), ((a 46), .inl (cI, 144, .inl (ia N_source)))]) sz) (QV D [(cI, .int), (cJ, .long), (cZ, .boolean)] ([(o_O a O_count), ((a 41), .inl (cJ, 48, .inr (.inl (la O_leading)))), (o_N a N_period N_width N_size), ((a 44), .inl (cI, 48, .inl (ia N_kind))), ((a 45), .inl (cI, 48, .inl (ia N_pins))), ((a 46), .inl (cI, 144, .inl (ia N_source)))]) sz ([(o_O a O_count), ((a 41), .inl (cJ, 48, .inr (.inl (la z_O_leading)))), (o_N a N_period N_width N_size), ((a 44), .inl (cI, 48, .inl (ia N_kind))), ((a 45), .inl (cI, 48, .inl (ia N_pins))), ((a 46), .inl (cI, 144, .inl (ia N_source)))])) 0 0 (va_A ([(o_O a O_count), ((a 41), .inl (cJ, 48, .inr (.inl (la O_leading)))), (o_N a N_period N_width N_size), ((a 44), .inl (cI, 48, .inl (ia N_kind))), ((a 45), .inl (cI, 48, .inl (ia N_pins))), ((a 46), .inl (cI, 144, .inl (ia N_source)))]) sz) := by
  refine Met.ofW (cc := prog_4_method_4_code) (maxL := 3) (ret := (Option.none : Option Jvm.ClassFile.FieldType)) (by decide) rfl ?_
  intro p e s m args below meth c s₁ B hml hv
  obtain ⟨rfl, hsz, hP, hK, hD0, hN⟩ := hv
  have hx := B.exec
  have hb := B.bytes
  have hr := B.returns
  have hts := atoms_spec (ws := w_GateOrder_findLeading) B.pre
  have hown : s.vm.findClass R_GateOrder = some m.cls := findClass_of_methodNamed B.named
  have hlocks := B.notSynchronized
  subst hsz
  have hD := hD0.self (sz := s.heap.size)
  obtain ⟨A, hAe⟩ : ∃ A, A = va_A ([(o_O a O_count), ((a 41), .inl (cJ, 48, .inr (.inl (la O_leading)))), (o_N a N_period N_width N_size), ((a 44), .inl (cI, 48, .inl (ia N_kind))), ((a 45), .inl (cI, 48, .inl (ia N_pins))), ((a 46), .inl (cI, 144, .inl (ia N_source)))]) s.heap.size := ⟨_, rfl⟩
  rw [← hAe] at hD
  have hA : ∀ q : Nat, s.heap.size ≤ q → A q := fun q h => by rw [hAe]; exact Or.inr h
  have hS : va_S A s.heap s.heap [] := va_S.rf
  have hl := lv_entry ([.ref (a 40)]) (n := 3) (Nat.le_of_ble_eq_true rfl)
  rw [lg_entry_eq]
  generalize (lg_sl ([.ref (a 40)]) ++ List.replicate (3 - (lg_sl ([.ref (a 40)])).length) Slot.unset).toArray = ls at hl ⊢
  have hl : lv_has ls 3 [(0, .ref (a 40))] := hl
  generalize (List.toArray ([.ref (a 40)] : List Value)) = args at hts ⊢
  have hT : ∀ w ∈ Tg, w.before args s = true := fun w h => hts w (List.mem_cons_of_mem _ h)
  obtain ⟨Q, hQ⟩ : ∃ Q, Q = MQ below (QV D [(cI, .int), (cJ, .long), (cZ, .boolean)] ([(o_O a O_count), ((a 41), .inl (cJ, 48, .inr (.inl (la O_leading)))), (o_N a N_period N_width N_size), ((a 44), .inl (cI, 48, .inl (ia N_kind))), ((a 45), .inl (cI, 48, .inl (ia N_pins))), ((a 46), .inl (cI, 144, .inl (ia N_source)))]) s.heap.size ([(o_O a O_count), ((a 41), .inl (cJ, 48, .inr (.inl (la z_O_leading)))), (o_N a N_period N_width N_size), ((a 44), .inl (cI, 48, .inl (ia N_kind))), ((a 45), .inl (cI, 48, .inl (ia N_pins))), ((a 46), .inl (cI, 144, .inl (ia N_source)))])) args s 0 0 (va_A ([(o_O a O_count), ((a 41), .inl (cJ, 48, .inr (.inl (la O_leading)))), (o_N a N_period N_width N_size), ((a 44), .inl (cI, 48, .inl (ia N_kind))), ((a 45), .inl (cI, 48, .inl (ia N_pins))), ((a 46), .inl (cI, 144, .inl (ia N_source)))]) s.heap.size) := ⟨_, rfl⟩
  rw [← hQ]
  suffices hW : ∀ (H : Heap) (locs : List Loc), va_P D vwCl ([(o_O a O_count), ((a 41), .inl (cJ, 48, .inr (.inl (la O_leading)))), (o_N a N_period N_width N_size), ((a 44), .inl (cI, 48, .inl (ia N_kind))), ((a 45), .inl (cI, 48, .inl (ia N_pins))), ((a 46), .inl (cI, 144, .inl (ia N_source)))]) H → va_D A ([(o_O a O_count), ((a 41), .inl (cJ, 48, .inr (.inl (la O_leading)))), (o_N a N_period N_width N_size), ((a 44), .inl (cI, 48, .inl (ia N_kind))), ((a 45), .inl (cI, 48, .inl (ia N_pins))), ((a 46), .inl (cI, 144, .inl (ia N_source)))]) → va_S A s.heap H locs → W p l e (headSpec w_GateOrder_findLeading rm_GateOrder_findLeading).room s m args below meth c H locs 0 0 Q (F0 m 0 ls []) from hW s.heap [] hP hD hS
  clear hP hD hS
  intro H locs hP hD hS
  rw [f_GateOrder_findLeading] at h
  refine zv_iconst hx hb d_GateOrder_findLeading_0 ?_
  refine lv_istore_n (lv' := [(1, .int (iI 0)), (0, .ref (a 40))]) hx hb d_GateOrder_findLeading_1 rfl hl (by decide) rfl (fun ls hl => ?_)
  have hl2 : ∀ (nf : Nat) (v1 : Int) (O_leading_1 : Int → Int64) (H : Heap) (locs : List Loc) (ls : Array Slot), va_P D vwCl [(o_O a O_count), ((a 41), .inl (cJ, 48, .inr (.inl (la O_leading_1)))), (o_N a N_period N_width N_size), ((a 44), .inl (cI, 48, .inl (ia N_kind))), ((a 45), .inl (cI, 48, .inl (ia N_pins))), ((a 46), .inl (cI, 144, .inl (ia N_source)))] H → va_D A [(o_O a O_count), ((a 41), .inl (cJ, 48, .inr (.inl (la O_leading_1)))), (o_N a N_period N_width N_size), ((a 44), .inl (cI, 48, .inl (ia N_kind))), ((a 45), .inl (cI, 48, .inl (ia N_pins))), ((a 46), .inl (cI, 144, .inl (ia N_source)))] → va_S A s.heap H locs → lv_has ls 3 [(0, .ref (a 40)), (1, .int (iI v1))] → lq2 (f_GateOrder_findLeading_b2 F N_size N_kind N_pins N_source) nf v1 O_leading_1 = some (z_O_leading) → W p l e (headSpec w_GateOrder_findLeading rm_GateOrder_findLeading).room s m args below meth c H locs 0 0 Q (F0 m 2 ls []) := by
    intro n2
    induction n2 with
    | zero => intro v1 O_leading_1 H locs ls hP hD hS hl h; exact no_some h
    | succ n2 ih2 =>
      intro v1 O_leading_1 H locs ls hP hD hS hl h
      replace h : f_GateOrder_findLeading_b2 F N_size N_kind N_pins N_source (lq2 (f_GateOrder_findLeading_b2 F N_size N_kind N_pins N_source) n2) v1 O_leading_1 = some (z_O_leading) := h
      obtain ⟨self2, hs2⟩ : ∃ z, z = lq2 (f_GateOrder_findLeading_b2 F N_size N_kind N_pins N_source) n2 := ⟨_, rfl⟩
      rw [← hs2] at h ih2
      rw [f_GateOrder_findLeading_b2] at h
      refine lv_iload_n hx hb d_GateOrder_findLeading_2 rfl (lv_at hl 1 rfl) ?_
      refine lv_aload_n hx hb d_GateOrder_findLeading_3 rfl (lv_at hl 0 rfl) ?_
      refine va_get (D := D) (ci := 2) (v := .ref (a 43)) (C := R_GateOrder) (T := F_GateOrder) (N := 4) hx hb hT in_GateOrder hown hK hP 0 rfl rfl 0 (by decide) (hT _ m139) (fun _ h9 => h9) rfl d_GateOrder_findLeading_4 ?_
      refine va_get (D := D) (ci := 1) (v := .int (iI N_size)) (C := R_Net) (T := F_Net) (N := 15) hx hb hT in_Net hown hK hP 2 rfl rfl 2 (by decide) (hT _ m48) (fun _ h9 => h9) rfl d_GateOrder_findLeading_7 ?_
      obtain ⟨hg0, h⟩ := gr_e h
      obtain ⟨hg1, h⟩ := gr_e h
      refine zc_ge hx hb d_GateOrder_findLeading_10 rfl hg0 hg1 (fun hc => ?_) (fun hc => ?_)
      · replace h := if_t hc h
        refine zv_iconst hx hb d_GateOrder_findLeading_47 ?_
        refine lv_istore_n (lv' := [(1, .int (iI 0)), (0, .ref (a 40))]) hx hb d_GateOrder_findLeading_48 rfl hl (by decide) rfl (fun ls hl => ?_)
        have hl49 : ∀ (nf : Nat) (v1_2 : Int) (O_leading_3 : Int → Int64) (H : Heap) (locs : List Loc) (ls : Array Slot), va_P D vwCl [(o_O a O_count), ((a 41), .inl (cJ, 48, .inr (.inl (la O_leading_3)))), (o_N a N_period N_width N_size), ((a 44), .inl (cI, 48, .inl (ia N_kind))), ((a 45), .inl (cI, 48, .inl (ia N_pins))), ((a 46), .inl (cI, 144, .inl (ia N_source)))] H → va_D A [(o_O a O_count), ((a 41), .inl (cJ, 48, .inr (.inl (la O_leading_3)))), (o_N a N_period N_width N_size), ((a 44), .inl (cI, 48, .inl (ia N_kind))), ((a 45), .inl (cI, 48, .inl (ia N_pins))), ((a 46), .inl (cI, 144, .inl (ia N_source)))] → va_S A s.heap H locs → lv_has ls 3 [(0, .ref (a 40)), (1, .int (iI v1_2))] → lq2 (f_GateOrder_findLeading_b49 F N_size) nf v1_2 O_leading_3 = some (z_O_leading) → W p l e (headSpec w_GateOrder_findLeading rm_GateOrder_findLeading).room s m args below meth c H locs 0 0 Q (F0 m 49 ls []) := by
          intro n49
          induction n49 with
          | zero => intro v1_2 O_leading_3 H locs ls hP hD hS hl h; exact no_some h
          | succ n49 ih49 =>
            intro v1_2 O_leading_3 H locs ls hP hD hS hl h
            replace h : f_GateOrder_findLeading_b49 F N_size (lq2 (f_GateOrder_findLeading_b49 F N_size) n49) v1_2 O_leading_3 = some (z_O_leading) := h
            obtain ⟨self49, hs49⟩ : ∃ z, z = lq2 (f_GateOrder_findLeading_b49 F N_size) n49 := ⟨_, rfl⟩
            rw [← hs49] at h ih49
            rw [f_GateOrder_findLeading_b49] at h
            refine lv_iload_n hx hb d_GateOrder_findLeading_49 rfl (lv_at hl 1 rfl) ?_
            refine lv_aload_n hx hb d_GateOrder_findLeading_50 rfl (lv_at hl 0 rfl) ?_
            refine va_get (D := D) (ci := 2) (v := .ref (a 43)) (C := R_GateOrder) (T := F_GateOrder) (N := 4) hx hb hT in_GateOrder hown hK hP 0 rfl rfl 0 (by decide) (hT _ m139) (fun _ h9 => h9) rfl d_GateOrder_findLeading_51 ?_
            refine va_get (D := D) (ci := 1) (v := .int (iI N_size)) (C := R_Net) (T := F_Net) (N := 15) hx hb hT in_Net hown hK hP 2 rfl rfl 2 (by decide) (hT _ m48) (fun _ h9 => h9) rfl d_GateOrder_findLeading_54 ?_
            obtain ⟨hg0, h⟩ := gr_e h
            obtain ⟨hg1, h⟩ := gr_e h
            refine zc_ge hx hb d_GateOrder_findLeading_57 rfl hg0 hg1 (fun hc => ?_) (fun hc => ?_)
            · replace h := if_t hc h
              have e1 := so1 h
              rw [hQ, e1]; rw [hAe] at hD hS; exact W.vret hx hb hr (fun t ht hW => ⟨⟨(), rfl, trivial, by rw [ht]; exact hP, va_K.moved hW.alike hK, hD⟩, hS.F ht⟩) hS.2.2 d_GateOrder_findLeading_113
            · replace h := if_f hc h
              refine zv_iconst hx hb d_GateOrder_findLeading_60 ?_
              refine lv_istore_n (lv' := [(2, .int (iI 0)), (0, .ref (a 40)), (1, .int (iI v1_2))]) hx hb d_GateOrder_findLeading_61 rfl hl (by decide) rfl (fun ls hl => ?_)
              have hl62 : ∀ (nf : Nat) (v2 : Int) (O_leading_4 : Int → Int64) (H : Heap) (locs : List Loc) (ls : Array Slot), va_P D vwCl [(o_O a O_count), ((a 41), .inl (cJ, 48, .inr (.inl (la O_leading_4)))), (o_N a N_period N_width N_size), ((a 44), .inl (cI, 48, .inl (ia N_kind))), ((a 45), .inl (cI, 48, .inl (ia N_pins))), ((a 46), .inl (cI, 144, .inl (ia N_source)))] H → va_D A [(o_O a O_count), ((a 41), .inl (cJ, 48, .inr (.inl (la O_leading_4)))), (o_N a N_period N_width N_size), ((a 44), .inl (cI, 48, .inl (ia N_kind))), ((a 45), .inl (cI, 48, .inl (ia N_pins))), ((a 46), .inl (cI, 144, .inl (ia N_source)))] → va_S A s.heap H locs → lv_has ls 3 [(0, .ref (a 40)), (1, .int (iI v1_2)), (2, .int (iI v2))] → lq2 (f_GateOrder_findLeading_b62 F N_size v1_2 self49) nf v2 O_leading_4 = some (z_O_leading) → W p l e (headSpec w_GateOrder_findLeading rm_GateOrder_findLeading).room s m args below meth c H locs 0 0 Q (F0 m 62 ls []) := by
                intro n62
                induction n62 with
                | zero => intro v2 O_leading_4 H locs ls hP hD hS hl h; exact no_some h
                | succ n62 ih62 =>
                  intro v2 O_leading_4 H locs ls hP hD hS hl h
                  replace h : f_GateOrder_findLeading_b62 F N_size v1_2 self49 (lq2 (f_GateOrder_findLeading_b62 F N_size v1_2 self49) n62) v2 O_leading_4 = some (z_O_leading) := h
                  obtain ⟨self62, hs62⟩ : ∃ z, z = lq2 (f_GateOrder_findLeading_b62 F N_size v1_2 self49) n62 := ⟨_, rfl⟩
                  rw [← hs62] at h ih62
                  rw [f_GateOrder_findLeading_b62] at h
                  refine lv_iload_n hx hb d_GateOrder_findLeading_62 rfl (lv_at hl 2 rfl) ?_
                  refine lv_aload_n hx hb d_GateOrder_findLeading_63 rfl (lv_at hl 0 rfl) ?_
                  refine va_get (D := D) (ci := 2) (v := .ref (a 43)) (C := R_GateOrder) (T := F_GateOrder) (N := 4) hx hb hT in_GateOrder hown hK hP 0 rfl rfl 0 (by decide) (hT _ m139) (fun _ h9 => h9) rfl d_GateOrder_findLeading_64 ?_
                  refine va_get (D := D) (ci := 1) (v := .int (iI N_size)) (C := R_Net) (T := F_Net) (N := 15) hx hb hT in_Net hown hK hP 2 rfl rfl 2 (by decide) (hT _ m48) (fun _ h9 => h9) rfl d_GateOrder_findLeading_67 ?_
                  obtain ⟨hg0, h⟩ := gr_e h
                  obtain ⟨hg1, h⟩ := gr_e h
                  refine zc_ge hx hb d_GateOrder_findLeading_70 rfl hg0 hg1 (fun hc => ?_) (fun hc => ?_)
                  · replace h := if_t hc h
                    refine lv_iinc (v := iI (v1_2 + 1)) (k := 1) (lv' := [(1, .int (iI (v1_2 + 1))), (0, .ref (a 40)), (2, .int (iI v2))]) hx hb d_GateOrder_findLeading_107 hl rfl (iI_add _ _) (by decide) rfl (fun ls hl => ?_)
                    refine lv_goto hx hb d_GateOrder_findLeading_110 rfl ?_
                    exact ih49 (v1_2 + 1) O_leading_4 H locs ls hP hD hS (lv_sub hl [1, 0] rfl) h
                  · replace h := if_f hc h
                    refine lv_aload_n hx hb d_GateOrder_findLeading_73 rfl (lv_at hl 0 rfl) ?_
                    refine va_get (D := D) (ci := 2) (v := .ref (a 41)) (C := R_GateOrder) (T := F_GateOrder) (N := 4) hx hb hT in_GateOrder hown hK hP 0 rfl rfl 1 (by decide) (hT _ m140) (fun _ h9 => h9) rfl d_GateOrder_findLeading_74 ?_
                    refine lv_iload_n hx hb d_GateOrder_findLeading_77 rfl (lv_at hl 2 rfl) ?_
                    obtain ⟨hin, h⟩ := gi_e h
                    refine zv_lald hx hb hK hP 1 1 rfl rfl (Nat.le_of_ble_eq_true rfl) hin d_GateOrder_findLeading_78 ?_
                    refine lv_iload_n hx hb d_GateOrder_findLeading_79 rfl (lv_at hl 1 rfl) ?_
                    obtain ⟨r80, hcall, h⟩ := ob1_e h
                    refine ro_i (va_Run.run (va_runS (As := [.long (O_leading_4 v2), .int (iI v1_2)]) (rest := []) ⟨hx, hb, hml, hown, hts⟩ (c_GateOrder_has l D cI cJ cZ F a (O_leading_4 v2) v1_2 r80 H.size hcall) (cwS 2 hts (gd_S m466 m464 m465 m4) rfl rfl rfl ⟨rfl, hc_GateOrder_has⟩ ⟨Nat.le_of_ble_eq_true rfl, Nat.le_of_ble_eq_true rfl⟩) (pc_S [.long (O_leading_4 v2), .int (iI v1_2)] hP hK hD hN [] rfl rfl rfl) rfl rfl hl.1 rfl (lv_room (Nat.le_of_ble_eq_true rfl)) d_GateOrder_findLeading_80 ⟨Nat.le_refl 0, Nat.le_refl 0⟩)) (W.eq (g2 := F0 m 83 ls [.int (iI r80)]) rfl ?_)
                    have hj101 : ∀ (O_leading_5 : Int → Int64) (H : Heap) (locs : List Loc) (ls : Array Slot), va_P D vwCl [(o_O a O_count), ((a 41), .inl (cJ, 48, .inr (.inl (la O_leading_5)))), (o_N a N_period N_width N_size), ((a 44), .inl (cI, 48, .inl (ia N_kind))), ((a 45), .inl (cI, 48, .inl (ia N_pins))), ((a 46), .inl (cI, 144, .inl (ia N_source)))] H → va_D A [(o_O a O_count), ((a 41), .inl (cJ, 48, .inr (.inl (la O_leading_5)))), (o_N a N_period N_width N_size), ((a 44), .inl (cI, 48, .inl (ia N_kind))), ((a 45), .inl (cI, 48, .inl (ia N_pins))), ((a 46), .inl (cI, 144, .inl (ia N_source)))] → va_S A s.heap H locs → lv_has ls 3 [(0, .ref (a 40)), (1, .int (iI v1_2)), (2, .int (iI v2))] → f_GateOrder_findLeading_j101 F v2 self62 O_leading_5 = some (z_O_leading) → W p l e (headSpec w_GateOrder_findLeading rm_GateOrder_findLeading).room s m args below meth c H locs 0 0 Q (F0 m 101 ls []) := by
                      intro O_leading_5 H locs ls hP hD hS hl h
                      rw [f_GateOrder_findLeading_j101] at h
                      refine lv_iinc (v := iI (v2 + 1)) (k := 2) (lv' := [(2, .int (iI (v2 + 1))), (0, .ref (a 40)), (1, .int (iI v1_2))]) hx hb d_GateOrder_findLeading_101 hl rfl (iI_add _ _) (by decide) rfl (fun ls hl => ?_)
                      refine lv_goto hx hb d_GateOrder_findLeading_104 rfl ?_
                      exact ih62 (v2 + 1) O_leading_5 H locs ls hP hD hS (lv_sub hl [1, 2, 0] rfl) h
                    obtain ⟨hg0, h⟩ := gr_e h
                    refine zi_eq hx hb d_GateOrder_findLeading_83 rfl hg0 (fun hc => ?_) (fun hc => ?_)
                    · replace h := if_t hc h
                      exact hj101 O_leading_4 H locs ls hP hD hS (lv_sub hl [0, 1, 2] rfl) h
                    · replace h := if_f hc h
                      refine lv_aload_n hx hb d_GateOrder_findLeading_86 rfl (lv_at hl 0 rfl) ?_
                      refine va_get (D := D) (ci := 2) (v := .ref (a 41)) (C := R_GateOrder) (T := F_GateOrder) (N := 4) hx hb hT in_GateOrder hown hK hP 0 rfl rfl 1 (by decide) (hT _ m140) (fun _ h9 => h9) rfl d_GateOrder_findLeading_87 ?_
                      refine lv_iload_n hx hb d_GateOrder_findLeading_90 rfl (lv_at hl 2 rfl) ?_
                      refine lv_dup2_11 hx hb d_GateOrder_findLeading_91 rfl rfl ?_
                      obtain ⟨hin, h⟩ := gi_e h
                      refine zv_lald hx hb hK hP 1 1 rfl rfl (Nat.le_of_ble_eq_true rfl) hin d_GateOrder_findLeading_92 ?_
                      refine lv_aload_n hx hb d_GateOrder_findLeading_93 rfl (lv_at hl 0 rfl) ?_
                      refine va_get (D := D) (ci := 2) (v := .ref (a 41)) (C := R_GateOrder) (T := F_GateOrder) (N := 4) hx hb hT in_GateOrder hown hK hP 0 rfl rfl 1 (by decide) (hT _ m140) (fun _ h9 => h9) rfl d_GateOrder_findLeading_94 ?_
                      refine lv_iload_n hx hb d_GateOrder_findLeading_97 rfl (lv_at hl 1 rfl) ?_
                      obtain ⟨hin, h⟩ := gi_e h
                      refine zv_lald hx hb hK hP 1 1 rfl rfl (Nat.le_of_ble_eq_true rfl) hin d_GateOrder_findLeading_98 ?_
                      refine lv_lor hx hb d_GateOrder_findLeading_99 ?_
                      obtain ⟨hin, h⟩ := gi_e h
                      refine zv_last hx hb hK hP hD hS 1 1 rfl rfl (Nat.le_of_ble_eq_true rfl) hin d_GateOrder_findLeading_100 (fun H locs hP hD hS => ?_)
                      obtain ⟨O_leading_6, hv⟩ : ∃ z, z = (ul O_leading_4 v2 ((O_leading_4 v2) ||| (O_leading_4 v1_2))) := ⟨_, rfl⟩
                      replace h := bd_e hv h
                      have hP : va_P D vwCl [(o_O a O_count), ((a 41), .inl (cJ, 48, .inr (.inl (la O_leading_6)))), (o_N a N_period N_width N_size), ((a 44), .inl (cI, 48, .inl (ia N_kind))), ((a 45), .inl (cI, 48, .inl (ia N_pins))), ((a 46), .inl (cI, 144, .inl (ia N_source)))] H := by rw [hv]; exact hP
                      have hD : va_D A [(o_O a O_count), ((a 41), .inl (cJ, 48, .inr (.inl (la O_leading_6)))), (o_N a N_period N_width N_size), ((a 44), .inl (cI, 48, .inl (ia N_kind))), ((a 45), .inl (cI, 48, .inl (ia N_pins))), ((a 46), .inl (cI, 144, .inl (ia N_source)))] := by rw [hv]; exact hD
                      exact hj101 O_leading_6 H locs ls hP hD hS (lv_sub hl [0, 1, 2] rfl) h
              exact hl62 F 0 O_leading_3 H locs ls hP hD hS (lv_sub hl [1, 2, 0] rfl) h
        exact hl49 F 0 O_leading_1 H locs ls hP hD hS (lv_sub hl [1, 0] rfl) h
      · replace h := if_f hc h
        refine lv_aload_n hx hb d_GateOrder_findLeading_13 rfl (lv_at hl 0 rfl) ?_
        refine va_get (D := D) (ci := 2) (v := .ref (a 41)) (C := R_GateOrder) (T := F_GateOrder) (N := 4) hx hb hT in_GateOrder hown hK hP 0 rfl rfl 1 (by decide) (hT _ m140) (fun _ h9 => h9) rfl d_GateOrder_findLeading_14 ?_
        refine lv_iload_n hx hb d_GateOrder_findLeading_17 rfl (lv_at hl 1 rfl) ?_
        refine lv_aload_n hx hb d_GateOrder_findLeading_18 rfl (lv_at hl 0 rfl) ?_
        refine va_get (D := D) (ci := 2) (v := .ref (a 43)) (C := R_GateOrder) (T := F_GateOrder) (N := 4) hx hb hT in_GateOrder hown hK hP 0 rfl rfl 0 (by decide) (hT _ m139) (fun _ h9 => h9) rfl d_GateOrder_findLeading_19 ?_
        refine va_get (D := D) (ci := 1) (v := .ref (a 44)) (C := R_Net) (T := F_Net) (N := 15) hx hb hT in_Net hown hK hP 2 rfl rfl 3 (by decide) (hT _ m56) (fun _ h9 => h9) rfl d_GateOrder_findLeading_22 ?_
        refine lv_iload_n hx hb d_GateOrder_findLeading_25 rfl (lv_at hl 1 rfl) ?_
        obtain ⟨hin, h⟩ := gi_e h
        refine zv_iald hx hb hK hP 3 0 rfl rfl (Nat.le_of_ble_eq_true rfl) hin d_GateOrder_findLeading_26 ?_
        refine zv_iconst hx hb d_GateOrder_findLeading_27 ?_
        have hj40 : ∀ (q2 : Int64) (H : Heap) (locs : List Loc) (ls : Array Slot), va_P D vwCl [(o_O a O_count), ((a 41), .inl (cJ, 48, .inr (.inl (la O_leading_1)))), (o_N a N_period N_width N_size), ((a 44), .inl (cI, 48, .inl (ia N_kind))), ((a 45), .inl (cI, 48, .inl (ia N_pins))), ((a 46), .inl (cI, 144, .inl (ia N_source)))] H → va_D A [(o_O a O_count), ((a 41), .inl (cJ, 48, .inr (.inl (la O_leading_1)))), (o_N a N_period N_width N_size), ((a 44), .inl (cI, 48, .inl (ia N_kind))), ((a 45), .inl (cI, 48, .inl (ia N_pins))), ((a 46), .inl (cI, 144, .inl (ia N_source)))] → va_S A s.heap H locs → lv_has ls 3 [(0, .ref (a 40)), (1, .int (iI v1))] → f_GateOrder_findLeading_j40 F v1 O_leading_1 self2 q2 = some (z_O_leading) → W p l e (headSpec w_GateOrder_findLeading rm_GateOrder_findLeading).room s m args below meth c H locs 0 0 Q (F0 m 40 ls [.long q2, .int (iI v1), .ref (a 41)]) := by
          intro q2 H locs ls hP hD hS hl h
          rw [f_GateOrder_findLeading_j40] at h
          obtain ⟨hin, h⟩ := gi_e h
          refine zv_last hx hb hK hP hD hS 1 1 rfl rfl (Nat.le_of_ble_eq_true rfl) hin d_GateOrder_findLeading_40 (fun H locs hP hD hS => ?_)
          obtain ⟨O_leading_7, hv⟩ : ∃ z, z = (ul O_leading_1 v1 q2) := ⟨_, rfl⟩
          replace h := bd_e hv h
          have hP : va_P D vwCl [(o_O a O_count), ((a 41), .inl (cJ, 48, .inr (.inl (la O_leading_7)))), (o_N a N_period N_width N_size), ((a 44), .inl (cI, 48, .inl (ia N_kind))), ((a 45), .inl (cI, 48, .inl (ia N_pins))), ((a 46), .inl (cI, 144, .inl (ia N_source)))] H := by rw [hv]; exact hP
          have hD : va_D A [(o_O a O_count), ((a 41), .inl (cJ, 48, .inr (.inl (la O_leading_7)))), (o_N a N_period N_width N_size), ((a 44), .inl (cI, 48, .inl (ia N_kind))), ((a 45), .inl (cI, 48, .inl (ia N_pins))), ((a 46), .inl (cI, 144, .inl (ia N_source)))] := by rw [hv]; exact hD
          refine lv_iinc (v := iI (v1 + 1)) (k := 1) (lv' := [(1, .int (iI (v1 + 1))), (0, .ref (a 40))]) hx hb d_GateOrder_findLeading_41 hl rfl (iI_add _ _) (by decide) rfl (fun ls hl => ?_)
          refine lv_goto hx hb d_GateOrder_findLeading_44 rfl ?_
          exact ih2 (v1 + 1) O_leading_7 H locs ls hP hD hS (lv_sub hl [1, 0] rfl) h
        obtain ⟨hg0, h⟩ := gr_e h
        refine zc_ne hx hb d_GateOrder_findLeading_28 rfl hg0 (by decide) (fun hc => ?_) (fun hc => ?_)
        · replace h := if_f hc h
          refine lv_lconst (v := 0) hx hb d_GateOrder_findLeading_39 (by decide) ?_
          exact hj40 0 H locs ls hP hD hS (lv_sub hl [0, 1] rfl) h
        · replace h := if_t hc h
          refine lv_aload_n hx hb d_GateOrder_findLeading_31 rfl (lv_at hl 0 rfl) ?_
          refine lv_iload_n hx hb d_GateOrder_findLeading_32 rfl (lv_at hl 1 rfl) ?_
          obtain ⟨r33, hcall, h⟩ := ob1_e h
          refine ro_l (va_Run.run (va_runV (As := [.int (iI v1)]) (rest := [.int (iI v1), .ref (a 41)]) ⟨hx, hb, hml, hown, hts⟩ (c_GateOrder_gatesWiredTo l D cI cJ cZ F a O_count N_period N_width N_size N_kind N_pins N_source v1 r33 H.size hcall) (cwV 1 hts (gd_V m463 m460 m462 sl_GateOrder_gatesWiredTo m4) rfl rfl rfl ⟨rfl, hc_GateOrder_gatesWiredTo⟩ ⟨Nat.le_of_ble_eq_true rfl, Nat.le_of_ble_eq_true rfl⟩) (pc_V 0 2 [.int (iI v1)] hP hK hD hN [0, 2, 3, 4, 5] rfl rfl rfl rfl rfl) rfl rfl hl.1 rfl (lv_room (Nat.le_of_ble_eq_true rfl)) d_GateOrder_findLeading_33 ⟨Nat.le_refl 0, Nat.le_refl 0⟩)) (W.eq (g2 := F0 m 36 ls [.long r33, .int (iI v1), .ref (a 41)]) rfl ?_)
          refine lv_goto hx hb d_GateOrder_findLeading_36 rfl ?_
          exact hj40 r33 H locs ls hP hD hS (lv_sub hl [0, 1] rfl) h
  exact hl2 F 0 O_leading H locs ls hP hD hS (lv_sub hl [1, 0] rfl) h
abbrev rm_GateOrder_leastOnCycle : Room := { frames := 2, cells := 0, slots := 0, locals := 47 }
set_option maxHeartbeats 4000000 in
set_option maxRecDepth 100000 in
theorem c_GateOrder_leastOnCycle (l : Launch) (D : va_G) (cI cJ cZ : ClassId) (F : Nat) (a : Nat → Nat) (O_count : Int) (O_leading : Int → Int64) (N_period : Int) (N_width : Int) (N_size : Int) (N_kind : Int → Int) (N_pins : Int → Int) (N_source : Int → Int) (r : Int) (z_O_leading : Int → Int64) (sz : Nat) (h : f_GateOrder_leastOnCycle F O_leading N_size N_kind N_pins N_source = some (r, z_O_leading)) : Met l y_GateOrder_leastOnCycle w_GateOrder_leastOnCycle rm_GateOrder_leastOnCycle (PC D [(cI, .int), (cJ, .long), (cZ, .boolean)] [.ref (a 40)] ([(o_O a O_count), ((a 41), .inl (cJ, 48, .inr (.inl (la O_leading)))), (o_N a N_period N_width N_size), ((a 44), .inl (cI, 48, .inl (ia N_kind))), ((a 45), .inl (cI, 48, .inl (ia N_pins))), ((a 46), .inl (cI, 144, .inl (ia N_source)))]) sz) (QI D [(cI, .int), (cJ, .long), (cZ, .boolean)] ([(o_O a O_count), ((a 41), .inl (cJ, 48, .inr (.inl (la O_leading)))), (o_N a N_period N_width N_size), ((a 44), .inl (cI, 48, .inl (ia N_kind))), ((a 45), .inl (cI, 48, .inl (ia N_pins))), ((a 46), .inl (cI, 144, .inl (ia N_source)))]) sz r ([(o_O a O_count), ((a 41), .inl (cJ, 48, .inr (.inl (la z_O_leading)))), (o_N a N_period N_width N_size), ((a 44), .inl (cI, 48, .inl (ia N_kind))), ((a 45), .inl (cI, 48, .inl (ia N_pins))), ((a 46), .inl (cI, 144, .inl (ia N_source)))])) 0 0 (va_A ([(o_O a O_count), ((a 41), .inl (cJ, 48, .inr (.inl (la O_leading)))), (o_N a N_period N_width N_size), ((a 44), .inl (cI, 48, .inl (ia N_kind))), ((a 45), .inl (cI, 48, .inl (ia N_pins))), ((a 46), .inl (cI, 144, .inl (ia N_source)))]) sz) := by
  refine Met.ofW (cc := prog_4_method_2_code) (maxL := 2) (ret := (Option.some Jvm.ClassFile.FieldType.int)) (by decide) rfl ?_
  intro p e s m args below meth c s₁ B hml hv
  obtain ⟨rfl, hsz, hP, hK, hD0, hN⟩ := hv
  have hx := B.exec
  have hb := B.bytes
  have hr := B.returns
  have hts := atoms_spec (ws := w_GateOrder_leastOnCycle) B.pre
  have hown : s.vm.findClass R_GateOrder = some m.cls := findClass_of_methodNamed B.named
  have hlocks := B.notSynchronized
  subst hsz
  have hD := hD0.self (sz := s.heap.size)
  obtain ⟨A, hAe⟩ : ∃ A, A = va_A ([(o_O a O_count), ((a 41), .inl (cJ, 48, .inr (.inl (la O_leading)))), (o_N a N_period N_width N_size), ((a 44), .inl (cI, 48, .inl (ia N_kind))), ((a 45), .inl (cI, 48, .inl (ia N_pins))), ((a 46), .inl (cI, 144, .inl (ia N_source)))]) s.heap.size := ⟨_, rfl⟩
  rw [← hAe] at hD
  have hA : ∀ q : Nat, s.heap.size ≤ q → A q := fun q h => by rw [hAe]; exact Or.inr h
  have hS : va_S A s.heap s.heap [] := va_S.rf
  have hl := lv_entry ([.ref (a 40)]) (n := 2) (Nat.le_of_ble_eq_true rfl)
  rw [lg_entry_eq]
  generalize (lg_sl ([.ref (a 40)]) ++ List.replicate (2 - (lg_sl ([.ref (a 40)])).length) Slot.unset).toArray = ls at hl ⊢
  have hl : lv_has ls 2 [(0, .ref (a 40))] := hl
  generalize (List.toArray ([.ref (a 40)] : List Value)) = args at hts ⊢
  have hT : ∀ w ∈ Tg, w.before args s = true := fun w h => hts w (List.mem_cons_of_mem _ h)
  obtain ⟨Q, hQ⟩ : ∃ Q, Q = MQ below (QI D [(cI, .int), (cJ, .long), (cZ, .boolean)] ([(o_O a O_count), ((a 41), .inl (cJ, 48, .inr (.inl (la O_leading)))), (o_N a N_period N_width N_size), ((a 44), .inl (cI, 48, .inl (ia N_kind))), ((a 45), .inl (cI, 48, .inl (ia N_pins))), ((a 46), .inl (cI, 144, .inl (ia N_source)))]) s.heap.size r ([(o_O a O_count), ((a 41), .inl (cJ, 48, .inr (.inl (la z_O_leading)))), (o_N a N_period N_width N_size), ((a 44), .inl (cI, 48, .inl (ia N_kind))), ((a 45), .inl (cI, 48, .inl (ia N_pins))), ((a 46), .inl (cI, 144, .inl (ia N_source)))])) args s 0 0 (va_A ([(o_O a O_count), ((a 41), .inl (cJ, 48, .inr (.inl (la O_leading)))), (o_N a N_period N_width N_size), ((a 44), .inl (cI, 48, .inl (ia N_kind))), ((a 45), .inl (cI, 48, .inl (ia N_pins))), ((a 46), .inl (cI, 144, .inl (ia N_source)))]) s.heap.size) := ⟨_, rfl⟩
  rw [← hQ]
  suffices hW : ∀ (H : Heap) (locs : List Loc), va_P D vwCl ([(o_O a O_count), ((a 41), .inl (cJ, 48, .inr (.inl (la O_leading)))), (o_N a N_period N_width N_size), ((a 44), .inl (cI, 48, .inl (ia N_kind))), ((a 45), .inl (cI, 48, .inl (ia N_pins))), ((a 46), .inl (cI, 144, .inl (ia N_source)))]) H → va_D A ([(o_O a O_count), ((a 41), .inl (cJ, 48, .inr (.inl (la O_leading)))), (o_N a N_period N_width N_size), ((a 44), .inl (cI, 48, .inl (ia N_kind))), ((a 45), .inl (cI, 48, .inl (ia N_pins))), ((a 46), .inl (cI, 144, .inl (ia N_source)))]) → va_S A s.heap H locs → W p l e (headSpec w_GateOrder_leastOnCycle rm_GateOrder_leastOnCycle).room s m args below meth c H locs 0 0 Q (F0 m 0 ls []) from hW s.heap [] hP hD hS
  clear hP hD hS
  intro H locs hP hD hS
  have hk0 := (show (Cond.constant "PathTiming$GateOrder" 36 (iI (-2147483648))).before args s = true from by rw [show iI (-2147483648) = ((-2147483648) : Int32) from by decide]; exact hT _ m467)
  rw [f_GateOrder_leastOnCycle] at h
  refine lv_aload_n hx hb d_GateOrder_leastOnCycle_0 rfl (lv_at hl 0 rfl) ?_
  obtain ⟨O_leading_1, hcall, h⟩ := ob1_e h
  refine ca_v (w2 := [(o_O a O_count), ((a 41), .inl (cJ, 48, .inr (.inl (la O_leading_1)))), (o_N a N_period N_width N_size), ((a 44), .inl (cI, 48, .inl (ia N_kind))), ((a 45), .inl (cI, 48, .inl (ia N_pins))), ((a 46), .inl (cI, 144, .inl (ia N_source)))]) (va_runV (As := []) (rest := []) ⟨hx, hb, hml, hown, hts⟩ (c_GateOrder_findLeading l D cI cJ cZ F a O_count O_leading N_period N_width N_size N_kind N_pins N_source O_leading_1 H.size hcall) (cwV 0 hts (gd_V m459 m456 m458 sl_GateOrder_findLeading m4) rfl rfl rfl ⟨rfl, hc_GateOrder_findLeading⟩ ⟨Nat.le_of_ble_eq_true rfl, Nat.le_of_ble_eq_true rfl⟩) (pc_V 0 2 [] hP hK hD hN [0, 1, 2, 3, 4, 5] rfl rfl rfl rfl rfl) rfl rfl hl.1 rfl (lv_room (Nat.le_of_ble_eq_true rfl)) d_GateOrder_leastOnCycle_1 ⟨Nat.le_refl 0, Nat.le_refl 0⟩) hP hD hS hA [0, 1, 2, 3, 4, 5] [] [0, 1, 2, 3, 4, 5] rfl rfl rfl (by decide) rfl rfl rfl (fun H locs hP hD hS => ?_)
  refine zv_iconst hx hb d_GateOrder_leastOnCycle_4 ?_
  refine lv_istore_n (lv' := [(1, .int (iI 0)), (0, .ref (a 40))]) hx hb d_GateOrder_leastOnCycle_5 rfl hl (by decide) rfl (fun ls hl => ?_)
  have hl6 : ∀ (nf : Nat) (v1 : Int) (H : Heap) (locs : List Loc) (ls : Array Slot), va_P D vwCl [(o_O a O_count), ((a 41), .inl (cJ, 48, .inr (.inl (la O_leading_1)))), (o_N a N_period N_width N_size), ((a 44), .inl (cI, 48, .inl (ia N_kind))), ((a 45), .inl (cI, 48, .inl (ia N_pins))), ((a 46), .inl (cI, 144, .inl (ia N_source)))] H → va_D A [(o_O a O_count), ((a 41), .inl (cJ, 48, .inr (.inl (la O_leading_1)))), (o_N a N_period N_width N_size), ((a 44), .inl (cI, 48, .inl (ia N_kind))), ((a 45), .inl (cI, 48, .inl (ia N_pins))), ((a 46), .inl (cI, 144, .inl (ia N_source)))] → va_S A s.heap H locs → lv_has ls 2 [(0, .ref (a 40)), (1, .int (iI v1))] → lq1 (f_GateOrder_leastOnCycle_b6 F N_size O_leading_1) nf v1 = some (r, z_O_leading) → W p l e (headSpec w_GateOrder_leastOnCycle rm_GateOrder_leastOnCycle).room s m args below meth c H locs 0 0 Q (F0 m 6 ls []) := by
    intro n6
    induction n6 with
    | zero => intro v1 H locs ls hP hD hS hl h; exact no_some h
    | succ n6 ih6 =>
      intro v1 H locs ls hP hD hS hl h
      replace h : f_GateOrder_leastOnCycle_b6 F N_size O_leading_1 (lq1 (f_GateOrder_leastOnCycle_b6 F N_size O_leading_1) n6) v1 = some (r, z_O_leading) := h
      obtain ⟨self6, hs6⟩ : ∃ z, z = lq1 (f_GateOrder_leastOnCycle_b6 F N_size O_leading_1) n6 := ⟨_, rfl⟩
      rw [← hs6] at h ih6
      rw [f_GateOrder_leastOnCycle_b6] at h
      refine lv_iload_n hx hb d_GateOrder_leastOnCycle_6 rfl (lv_at hl 1 rfl) ?_
      refine lv_aload_n hx hb d_GateOrder_leastOnCycle_7 rfl (lv_at hl 0 rfl) ?_
      refine va_get (D := D) (ci := 2) (v := .ref (a 43)) (C := R_GateOrder) (T := F_GateOrder) (N := 4) hx hb hT in_GateOrder hown hK hP 0 rfl rfl 0 (by decide) (hT _ m139) (fun _ h9 => h9) rfl d_GateOrder_leastOnCycle_8 ?_
      refine va_get (D := D) (ci := 1) (v := .int (iI N_size)) (C := R_Net) (T := F_Net) (N := 15) hx hb hT in_Net hown hK hP 2 rfl rfl 2 (by decide) (hT _ m48) (fun _ h9 => h9) rfl d_GateOrder_leastOnCycle_11 ?_
      obtain ⟨hg0, h⟩ := gr_e h
      obtain ⟨hg1, h⟩ := gr_e h
      refine zc_ge hx hb d_GateOrder_leastOnCycle_14 rfl hg0 hg1 (fun hc => ?_) (fun hc => ?_)
      · replace h := if_t hc h
        refine lv_ldc hx hb hown hk0 d_GateOrder_leastOnCycle_38 ?_
        obtain ⟨e1, e2⟩ := so2 h
        rw [hQ, e1, e2]; rw [hAe] at hD hS; exact W.iret hx hb hr (fun t ht hW => ⟨⟨_, (), rfl, rfl, by rw [ht]; exact hP, va_K.moved hW.alike hK, hD⟩, hS.F ht⟩) hS.2.2 d_GateOrder_leastOnCycle_40
      · replace h := if_f hc h
        refine lv_aload_n hx hb d_GateOrder_leastOnCycle_17 rfl (lv_at hl 0 rfl) ?_
        refine va_get (D := D) (ci := 2) (v := .ref (a 41)) (C := R_GateOrder) (T := F_GateOrder) (N := 4) hx hb hT in_GateOrder hown hK hP 0 rfl rfl 1 (by decide) (hT _ m140) (fun _ h9 => h9) rfl d_GateOrder_leastOnCycle_18 ?_
        refine lv_iload_n hx hb d_GateOrder_leastOnCycle_21 rfl (lv_at hl 1 rfl) ?_
        obtain ⟨hin, h⟩ := gi_e h
        refine zv_lald hx hb hK hP 1 1 rfl rfl (Nat.le_of_ble_eq_true rfl) hin d_GateOrder_leastOnCycle_22 ?_
        refine lv_iload_n hx hb d_GateOrder_leastOnCycle_23 rfl (lv_at hl 1 rfl) ?_
        obtain ⟨r24, hcall, h⟩ := ob1_e h
        refine ro_i (va_Run.run (va_runS (As := [.long (O_leading_1 v1), .int (iI v1)]) (rest := []) ⟨hx, hb, hml, hown, hts⟩ (c_GateOrder_has l D cI cJ cZ F a (O_leading_1 v1) v1 r24 H.size hcall) (cwS 2 hts (gd_S m466 m464 m465 m4) rfl rfl rfl ⟨rfl, hc_GateOrder_has⟩ ⟨Nat.le_of_ble_eq_true rfl, Nat.le_of_ble_eq_true rfl⟩) (pc_S [.long (O_leading_1 v1), .int (iI v1)] hP hK hD hN [] rfl rfl rfl) rfl rfl hl.1 rfl (lv_room (Nat.le_of_ble_eq_true rfl)) d_GateOrder_leastOnCycle_24 ⟨Nat.le_refl 0, Nat.le_refl 0⟩)) (W.eq (g2 := F0 m 27 ls [.int (iI r24)]) rfl ?_)
        obtain ⟨hg0, h⟩ := gr_e h
        refine zi_eq hx hb d_GateOrder_leastOnCycle_27 rfl hg0 (fun hc => ?_) (fun hc => ?_)
        · replace h := if_t hc h
          refine lv_iinc (v := iI (v1 + 1)) (k := 1) (lv' := [(1, .int (iI (v1 + 1))), (0, .ref (a 40))]) hx hb d_GateOrder_leastOnCycle_32 hl rfl (iI_add _ _) (by decide) rfl (fun ls hl => ?_)
          refine lv_goto hx hb d_GateOrder_leastOnCycle_35 rfl ?_
          exact ih6 (v1 + 1) H locs ls hP hD hS (lv_sub hl [1, 0] rfl) h
        · replace h := if_f hc h
          refine lv_iload_n hx hb d_GateOrder_leastOnCycle_30 rfl (lv_at hl 1 rfl) ?_
          obtain ⟨e1, e2⟩ := so2 h
          rw [hQ, e1, e2]; rw [hAe] at hD hS; exact W.iret hx hb hr (fun t ht hW => ⟨⟨_, (), rfl, rfl, by rw [ht]; exact hP, va_K.moved hW.alike hK, hD⟩, hS.F ht⟩) hS.2.2 d_GateOrder_leastOnCycle_31
  exact hl6 F 0 H locs ls hP hD hS (lv_sub hl [1, 0] rfl) h
abbrev rm_Long_bitCount : Room := { frames := 0, cells := 0, slots := 0, locals := 0 }
set_option maxHeartbeats 4000000 in
set_option maxRecDepth 100000 in
theorem c_Long_bitCount (l : Launch) (D : va_G) (cI cJ cZ : ClassId) (F : Nat) (a : Nat → Nat) (x0 : Int64) (r : Int) (sz : Nat) (h : f_Long_bitCount F x0 = some (r)) : Met l y_Long_bitCount w_Long_bitCount rm_Long_bitCount (PC D [(cI, .int), (cJ, .long), (cZ, .boolean)] [.long x0] ([]) sz) (QcRead (iI r)) 0 0 (fun _ => False) := by
  refine Met.ofW (cc := prog_17_method_50_code) (maxL := 2) (ret := (Option.some Jvm.ClassFile.FieldType.int)) (by decide) rfl ?_
  intro p e s m args below meth c s₁ B hml hv
  obtain ⟨rfl, hsz, hP, hK, hD0, hN⟩ := hv
  have hx := B.exec
  have hb := B.bytes
  have hr := B.returns
  have hts := atoms_spec (ws := w_Long_bitCount) B.pre
  have hown : s.vm.findClass R_Long = some m.cls := findClass_of_methodNamed B.named
  have hlocks := B.notSynchronized
  subst hsz
  have hl := lv_entry ([.long x0]) (n := 2) (Nat.le_of_ble_eq_true rfl)
  rw [lg_entry_eq]
  generalize (lg_sl ([.long x0]) ++ List.replicate (2 - (lg_sl ([.long x0])).length) Slot.unset).toArray = ls at hl ⊢
  have hl : lv_has ls 2 [(0, .long x0)] := hl
  generalize (List.toArray ([.long x0] : List Value)) = args at hts ⊢
  have hT : ∀ w ∈ Tg, w.before args s = true := fun w h => hts w (List.mem_cons_of_mem _ h)
  obtain ⟨Q, hQ⟩ : ∃ Q, Q = MQ below (QcRead (iI r)) args s 0 0 (fun _ => False) := ⟨_, rfl⟩
  rw [← hQ]
  have hk0 := hT _ m475
  have hk1 := hT _ m476
  have hk2 := hT _ m477
  rw [f_Long_bitCount] at h
  refine lv_lload_n hx hb d_Long_bitCount_0 rfl (lv_at hl 0 rfl) ?_
  refine lv_lload_n hx hb d_Long_bitCount_1 rfl (lv_at hl 0 rfl) ?_
  refine zv_iconst hx hb d_Long_bitCount_2 ?_
  refine lv_lushr (v := (Int64.toUInt64 x0 >>> (Int64.toUInt64 (Int32.toInt64 (iI 1)) &&& Int64.toUInt64 63)).toInt64) hx hb d_Long_bitCount_3 rfl ?_
  refine lv_ldc2 hx hb hown hk0 d_Long_bitCount_4 ?_
  refine lv_land hx hb d_Long_bitCount_7 ?_
  refine lv_lsub hx hb d_Long_bitCount_8 ?_
  refine lv_topl (fun v0 hv => ?_)
  replace h := bd_e hv h
  refine lv_lstore_n (lv' := [(0, .long v0)]) hx hb d_Long_bitCount_9 rfl hl (by decide) rfl (fun ls hl => ?_)
  refine lv_lload_n hx hb d_Long_bitCount_10 rfl (lv_at hl 0 rfl) ?_
  refine lv_ldc2 hx hb hown hk1 d_Long_bitCount_11 ?_
  refine lv_land hx hb d_Long_bitCount_14 ?_
  refine lv_lload_n hx hb d_Long_bitCount_15 rfl (lv_at hl 0 rfl) ?_
  refine zv_iconst hx hb d_Long_bitCount_16 ?_
  refine lv_lushr (v := (Int64.toUInt64 v0 >>> (Int64.toUInt64 (Int32.toInt64 (iI 2)) &&& Int64.toUInt64 63)).toInt64) hx hb d_Long_bitCount_17 rfl ?_
  refine lv_ldc2 hx hb hown hk1 d_Long_bitCount_18 ?_
  refine lv_land hx hb d_Long_bitCount_21 ?_
  refine lv_ladd hx hb d_Long_bitCount_22 ?_
  refine lv_topl (fun v0_1 hv => ?_)
  replace h := bd_e hv h
  refine lv_lstore_n (lv' := [(0, .long v0_1)]) hx hb d_Long_bitCount_23 rfl hl (by decide) rfl (fun ls hl => ?_)
  refine lv_lload_n hx hb d_Long_bitCount_24 rfl (lv_at hl 0 rfl) ?_
  refine lv_lload_n hx hb d_Long_bitCount_25 rfl (lv_at hl 0 rfl) ?_
  refine zv_iconst hx hb d_Long_bitCount_26 ?_
  refine lv_lushr (v := (Int64.toUInt64 v0_1 >>> (Int64.toUInt64 (Int32.toInt64 (iI 4)) &&& Int64.toUInt64 63)).toInt64) hx hb d_Long_bitCount_27 rfl ?_
  refine lv_ladd hx hb d_Long_bitCount_28 ?_
  refine lv_ldc2 hx hb hown hk2 d_Long_bitCount_29 ?_
  refine lv_land hx hb d_Long_bitCount_32 ?_
  refine lv_topl (fun v0_2 hv => ?_)
  replace h := bd_e hv h
  refine lv_lstore_n (lv' := [(0, .long v0_2)]) hx hb d_Long_bitCount_33 rfl hl (by decide) rfl (fun ls hl => ?_)
  refine lv_lload_n hx hb d_Long_bitCount_34 rfl (lv_at hl 0 rfl) ?_
  refine lv_lload_n hx hb d_Long_bitCount_35 rfl (lv_at hl 0 rfl) ?_
  refine lv_bipush (v := iI 8) hx hb d_Long_bitCount_36 (by decide) ?_
  refine lv_lushr (v := (Int64.toUInt64 v0_2 >>> (Int64.toUInt64 (Int32.toInt64 (iI 8)) &&& Int64.toUInt64 63)).toInt64) hx hb d_Long_bitCount_38 rfl ?_
  refine lv_ladd hx hb d_Long_bitCount_39 ?_
  refine lv_topl (fun v0_3 hv => ?_)
  replace h := bd_e hv h
  refine lv_lstore_n (lv' := [(0, .long v0_3)]) hx hb d_Long_bitCount_40 rfl hl (by decide) rfl (fun ls hl => ?_)
  refine lv_lload_n hx hb d_Long_bitCount_41 rfl (lv_at hl 0 rfl) ?_
  refine lv_lload_n hx hb d_Long_bitCount_42 rfl (lv_at hl 0 rfl) ?_
  refine lv_bipush (v := iI 16) hx hb d_Long_bitCount_43 (by decide) ?_
  refine lv_lushr (v := (Int64.toUInt64 v0_3 >>> (Int64.toUInt64 (Int32.toInt64 (iI 16)) &&& Int64.toUInt64 63)).toInt64) hx hb d_Long_bitCount_45 rfl ?_
  refine lv_ladd hx hb d_Long_bitCount_46 ?_
  refine lv_topl (fun v0_4 hv => ?_)
  replace h := bd_e hv h
  refine lv_lstore_n (lv' := [(0, .long v0_4)]) hx hb d_Long_bitCount_47 rfl hl (by decide) rfl (fun ls hl => ?_)
  refine lv_lload_n hx hb d_Long_bitCount_48 rfl (lv_at hl 0 rfl) ?_
  refine lv_lload_n hx hb d_Long_bitCount_49 rfl (lv_at hl 0 rfl) ?_
  refine lv_bipush (v := iI 32) hx hb d_Long_bitCount_50 (by decide) ?_
  refine lv_lushr (v := (Int64.toUInt64 v0_4 >>> (Int64.toUInt64 (Int32.toInt64 (iI 32)) &&& Int64.toUInt64 63)).toInt64) hx hb d_Long_bitCount_52 rfl ?_
  refine lv_ladd hx hb d_Long_bitCount_53 ?_
  refine lv_topl (fun v0_5 hv => ?_)
  replace h := bd_e hv h
  refine lv_lstore_n (lv' := [(0, .long v0_5)]) hx hb d_Long_bitCount_54 rfl hl (by decide) rfl (fun ls hl => ?_)
  refine lv_lload_n hx hb d_Long_bitCount_55 rfl (lv_at hl 0 rfl) ?_
  refine zv_l2i hx hb d_Long_bitCount_56 ?_
  refine lv_bipush (v := iI 127) hx hb d_Long_bitCount_57 (by decide) ?_
  refine zv_iand hx hb d_Long_bitCount_59 ?_
  have e1 := so1 h
  rw [hQ, e1]; exact W.iret hx hb hr (fun t ht hW => ⟨rfl, ht⟩) (fun q h => nomatch h) d_Long_bitCount_60
abbrev rm_GateOrder_sort : Room := { frames := 1, cells := 0, slots := 0, locals := 21 }
set_option maxHeartbeats 4000000 in
set_option maxRecDepth 100000 in
theorem c_GateOrder_sort (l : Launch) (D : va_G) (cI cJ cZ : ClassId) (F : Nat) (a : Nat → Nat) (O_count : Int) (O_leading : Int → Int64) (O_gates : Int → Int) (N_period : Int) (N_width : Int) (N_size : Int) (N_kind : Int → Int) (z_O_gates : Int → Int) (z_O_count : Int) (sz : Nat) (h : f_GateOrder_sort F O_leading O_gates N_size N_kind = some (z_O_gates, z_O_count)) : Met l y_GateOrder_sort w_GateOrder_sort rm_GateOrder_sort (PC D [(cI, .int), (cJ, .long), (cZ, .boolean)] [.ref (a 40)] ([(o_O a O_count), ((a 41), .inl (cJ, 48, .inr (.inl (la O_leading)))), ((a 42), .inl (cI, 48, .inl (ia O_gates))), (o_N a N_period N_width N_size), ((a 44), .inl (cI, 48, .inl (ia N_kind)))]) sz) (QV D [(cI, .int), (cJ, .long), (cZ, .boolean)] ([(o_O a O_count), ((a 41), .inl (cJ, 48, .inr (.inl (la O_leading)))), ((a 42), .inl (cI, 48, .inl (ia O_gates))), (o_N a N_period N_width N_size), ((a 44), .inl (cI, 48, .inl (ia N_kind)))]) sz ([(o_O a z_O_count), ((a 41), .inl (cJ, 48, .inr (.inl (la O_leading)))), ((a 42), .inl (cI, 48, .inl (ia z_O_gates))), (o_N a N_period N_width N_size), ((a 44), .inl (cI, 48, .inl (ia N_kind)))])) 0 0 (va_A ([(o_O a O_count), ((a 41), .inl (cJ, 48, .inr (.inl (la O_leading)))), ((a 42), .inl (cI, 48, .inl (ia O_gates))), (o_N a N_period N_width N_size), ((a 44), .inl (cI, 48, .inl (ia N_kind)))]) sz) := by
  refine Met.ofW (cc := prog_4_method_3_code) (maxL := 3) (ret := (Option.none : Option Jvm.ClassFile.FieldType)) (by decide) rfl ?_
  intro p e s m args below meth c s₁ B hml hv
  obtain ⟨rfl, hsz, hP, hK, hD0, hN⟩ := hv
  have hx := B.exec
  have hb := B.bytes
  have hr := B.returns
  have hts := atoms_spec (ws := w_GateOrder_sort) B.pre
  have hown : s.vm.findClass R_GateOrder = some m.cls := findClass_of_methodNamed B.named
  have hlocks := B.notSynchronized
  subst hsz
  have hD := hD0.self (sz := s.heap.size)
  obtain ⟨A, hAe⟩ : ∃ A, A = va_A ([(o_O a O_count), ((a 41), .inl (cJ, 48, .inr (.inl (la O_leading)))), ((a 42), .inl (cI, 48, .inl (ia O_gates))), (o_N a N_period N_width N_size), ((a 44), .inl (cI, 48, .inl (ia N_kind)))]) s.heap.size := ⟨_, rfl⟩
  rw [← hAe] at hD
  have hA : ∀ q : Nat, s.heap.size ≤ q → A q := fun q h => by rw [hAe]; exact Or.inr h
  have hS : va_S A s.heap s.heap [] := va_S.rf
  have hl := lv_entry ([.ref (a 40)]) (n := 3) (Nat.le_of_ble_eq_true rfl)
  rw [lg_entry_eq]
  generalize (lg_sl ([.ref (a 40)]) ++ List.replicate (3 - (lg_sl ([.ref (a 40)])).length) Slot.unset).toArray = ls at hl ⊢
  have hl : lv_has ls 3 [(0, .ref (a 40))] := hl
  generalize (List.toArray ([.ref (a 40)] : List Value)) = args at hts ⊢
  have hT : ∀ w ∈ Tg, w.before args s = true := fun w h => hts w (List.mem_cons_of_mem _ h)
  obtain ⟨Q, hQ⟩ : ∃ Q, Q = MQ below (QV D [(cI, .int), (cJ, .long), (cZ, .boolean)] ([(o_O a O_count), ((a 41), .inl (cJ, 48, .inr (.inl (la O_leading)))), ((a 42), .inl (cI, 48, .inl (ia O_gates))), (o_N a N_period N_width N_size), ((a 44), .inl (cI, 48, .inl (ia N_kind)))]) s.heap.size ([(o_O a z_O_count), ((a 41), .inl (cJ, 48, .inr (.inl (la O_leading)))), ((a 42), .inl (cI, 48, .inl (ia z_O_gates))), (o_N a N_period N_width N_size), ((a 44), .inl (cI, 48, .inl (ia N_kind)))])) args s 0 0 (va_A ([(o_O a O_count), ((a 41), .inl (cJ, 48, .inr (.inl (la O_leading)))), ((a 42), .inl (cI, 48, .inl (ia O_gates))), (o_N a N_period N_width N_size), ((a 44), .inl (cI, 48, .inl (ia N_kind)))]) s.heap.size) := ⟨_, rfl⟩
  rw [← hQ]
  suffices hW : ∀ (H : Heap) (locs : List Loc), va_P D vwCl ([(o_O a O_count), ((a 41), .inl (cJ, 48, .inr (.inl (la O_leading)))), ((a 42), .inl (cI, 48, .inl (ia O_gates))), (o_N a N_period N_width N_size), ((a 44), .inl (cI, 48, .inl (ia N_kind)))]) H → va_D A ([(o_O a O_count), ((a 41), .inl (cJ, 48, .inr (.inl (la O_leading)))), ((a 42), .inl (cI, 48, .inl (ia O_gates))), (o_N a N_period N_width N_size), ((a 44), .inl (cI, 48, .inl (ia N_kind)))]) → va_S A s.heap H locs → W p l e (headSpec w_GateOrder_sort rm_GateOrder_sort).room s m args below meth c H locs 0 0 Q (F0 m 0 ls []) from hW s.heap [] hP hD hS
  clear hP hD hS
  intro H locs hP hD hS
  rw [f_GateOrder_sort] at h
  refine lv_aload_n hx hb d_GateOrder_sort_0 rfl (lv_at hl 0 rfl) ?_
  refine zv_iconst hx hb d_GateOrder_sort_1 ?_
  refine va_put (D := D) (ci := 2) (v := .int (iI 0)) (ty := .int) (C := R_GateOrder) (T := F_GateOrder) (N := 4) hx hb hT in_GateOrder ty_GateOrder ty_GateOrder_ok n_GateOrder hown hK hP hD hS 0 rfl rfl 3 (by decide) (hT _ m144) (fun _ h9 => h9) rfl (by decide +kernel) rfl rfl (Nat.le_of_ble_eq_true rfl) d_GateOrder_sort_2 (fun H locs hP hD hS => ?_)
  have hP : va_P D vwCl [(o_O a 0), ((a 41), .inl (cJ, 48, .inr (.inl (la O_leading)))), ((a 42), .inl (cI, 48, .inl (ia O_gates))), (o_N a N_period N_width N_size), ((a 44), .inl (cI, 48, .inl (ia N_kind)))] H := hP
  have hD : va_D A [(o_O a 0), ((a 41), .inl (cJ, 48, .inr (.inl (la O_leading)))), ((a 42), .inl (cI, 48, .inl (ia O_gates))), (o_N a N_period N_width N_size), ((a 44), .inl (cI, 48, .inl (ia N_kind)))] := hD
  refine zv_iconst hx hb d_GateOrder_sort_5 ?_
  refine lv_istore_n (lv' := [(1, .int (iI 0)), (0, .ref (a 40))]) hx hb d_GateOrder_sort_6 rfl hl (by decide) rfl (fun ls hl => ?_)
  have hl7 : ∀ (nf : Nat) (v1 : Int) (O_gates_1 : Int → Int) (O_count_2 : Int) (H : Heap) (locs : List Loc) (ls : Array Slot), va_P D vwCl [(o_O a O_count_2), ((a 41), .inl (cJ, 48, .inr (.inl (la O_leading)))), ((a 42), .inl (cI, 48, .inl (ia O_gates_1))), (o_N a N_period N_width N_size), ((a 44), .inl (cI, 48, .inl (ia N_kind)))] H → va_D A [(o_O a O_count_2), ((a 41), .inl (cJ, 48, .inr (.inl (la O_leading)))), ((a 42), .inl (cI, 48, .inl (ia O_gates_1))), (o_N a N_period N_width N_size), ((a 44), .inl (cI, 48, .inl (ia N_kind)))] → va_S A s.heap H locs → lv_has ls 3 [(0, .ref (a 40)), (1, .int (iI v1))] → lq3 (f_GateOrder_sort_b7 F O_leading N_size N_kind) nf v1 O_gates_1 O_count_2 = some (z_O_gates, z_O_count) → W p l e (headSpec w_GateOrder_sort rm_GateOrder_sort).room s m args below meth c H locs 0 0 Q (F0 m 7 ls []) := by
    intro n7
    induction n7 with
    | zero => intro v1 O_gates_1 O_count_2 H locs ls hP hD hS hl h; exact no_some h
    | succ n7 ih7 =>
      intro v1 O_gates_1 O_count_2 H locs ls hP hD hS hl h
      replace h : f_GateOrder_sort_b7 F O_leading N_size N_kind (lq3 (f_GateOrder_sort_b7 F O_leading N_size N_kind) n7) v1 O_gates_1 O_count_2 = some (z_O_gates, z_O_count) := h
      obtain ⟨self7, hs7⟩ : ∃ z, z = lq3 (f_GateOrder_sort_b7 F O_leading N_size N_kind) n7 := ⟨_, rfl⟩
      rw [← hs7] at h ih7
      rw [f_GateOrder_sort_b7] at h
      refine lv_iload_n hx hb d_GateOrder_sort_7 rfl (lv_at hl 1 rfl) ?_
      refine lv_bipush (v := iI 48) hx hb d_GateOrder_sort_8 (by decide) ?_
      obtain ⟨hg0, h⟩ := gr_e h
      refine zc_ge hx hb d_GateOrder_sort_10 rfl hg0 (by decide) (fun hc => ?_) (fun hc => ?_)
      · replace h := if_t hc h
        obtain ⟨e1, e2⟩ := so2 h
        rw [hQ, e1, e2]; rw [hAe] at hD hS; exact W.vret hx hb hr (fun t ht hW => ⟨⟨(), rfl, trivial, by rw [ht]; exact hP, va_K.moved hW.alike hK, hD⟩, hS.F ht⟩) hS.2.2 d_GateOrder_sort_84
      · replace h := if_f hc h
        refine zv_iconst hx hb d_GateOrder_sort_13 ?_
        refine lv_istore_n (lv' := [(2, .int (iI 0)), (0, .ref (a 40)), (1, .int (iI v1))]) hx hb d_GateOrder_sort_14 rfl hl (by decide) rfl (fun ls hl => ?_)
        have hl15 : ∀ (nf : Nat) (v2 : Int) (O_gates_3 : Int → Int) (O_count_4 : Int) (H : Heap) (locs : List Loc) (ls : Array Slot), va_P D vwCl [(o_O a O_count_4), ((a 41), .inl (cJ, 48, .inr (.inl (la O_leading)))), ((a 42), .inl (cI, 48, .inl (ia O_gates_3))), (o_N a N_period N_width N_size), ((a 44), .inl (cI, 48, .inl (ia N_kind)))] H → va_D A [(o_O a O_count_4), ((a 41), .inl (cJ, 48, .inr (.inl (la O_leading)))), ((a 42), .inl (cI, 48, .inl (ia O_gates_3))), (o_N a N_period N_width N_size), ((a 44), .inl (cI, 48, .inl (ia N_kind)))] → va_S A s.heap H locs → lv_has ls 3 [(0, .ref (a 40)), (1, .int (iI v1)), (2, .int (iI v2))] → lq3 (f_GateOrder_sort_b15 F O_leading N_size N_kind v1 self7) nf v2 O_gates_3 O_count_4 = some (z_O_gates, z_O_count) → W p l e (headSpec w_GateOrder_sort rm_GateOrder_sort).room s m args below meth c H locs 0 0 Q (F0 m 15 ls []) := by
          intro n15
          induction n15 with
          | zero => intro v2 O_gates_3 O_count_4 H locs ls hP hD hS hl h; exact no_some h
          | succ n15 ih15 =>
            intro v2 O_gates_3 O_count_4 H locs ls hP hD hS hl h
            replace h : f_GateOrder_sort_b15 F O_leading N_size N_kind v1 self7 (lq3 (f_GateOrder_sort_b15 F O_leading N_size N_kind v1 self7) n15) v2 O_gates_3 O_count_4 = some (z_O_gates, z_O_count) := h
            obtain ⟨self15, hs15⟩ : ∃ z, z = lq3 (f_GateOrder_sort_b15 F O_leading N_size N_kind v1 self7) n15 := ⟨_, rfl⟩
            rw [← hs15] at h ih15
            rw [f_GateOrder_sort_b15] at h
            refine lv_iload_n hx hb d_GateOrder_sort_15 rfl (lv_at hl 2 rfl) ?_
            refine lv_aload_n hx hb d_GateOrder_sort_16 rfl (lv_at hl 0 rfl) ?_
            refine va_get (D := D) (ci := 2) (v := .ref (a 43)) (C := R_GateOrder) (T := F_GateOrder) (N := 4) hx hb hT in_GateOrder hown hK hP 0 rfl rfl 0 (by decide) (hT _ m139) (fun _ h9 => h9) rfl d_GateOrder_sort_17 ?_
            refine va_get (D := D) (ci := 1) (v := .int (iI N_size)) (C := R_Net) (T := F_Net) (N := 15) hx hb hT in_Net hown hK hP 3 rfl rfl 2 (by decide) (hT _ m48) (fun _ h9 => h9) rfl d_GateOrder_sort_20 ?_
            obtain ⟨hg0, h⟩ := gr_e h
            obtain ⟨hg1, h⟩ := gr_e h
            refine zc_ge hx hb d_GateOrder_sort_23 rfl hg0 hg1 (fun hc => ?_) (fun hc => ?_)
            · replace h := if_t hc h
              refine lv_iinc (v := iI (v1 + 1)) (k := 1) (lv' := [(1, .int (iI (v1 + 1))), (0, .ref (a 40)), (2, .int (iI v2))]) hx hb d_GateOrder_sort_78 hl rfl (iI_add _ _) (by decide) rfl (fun ls hl => ?_)
              refine lv_goto hx hb d_GateOrder_sort_81 rfl ?_
              exact ih7 (v1 + 1) O_gates_3 O_count_4 H locs ls hP hD hS (lv_sub hl [1, 0] rfl) h
            · replace h := if_f hc h
              refine lv_aload_n hx hb d_GateOrder_sort_26 rfl (lv_at hl 0 rfl) ?_
              refine va_get (D := D) (ci := 2) (v := .ref (a 43)) (C := R_GateOrder) (T := F_GateOrder) (N := 4) hx hb hT in_GateOrder hown hK hP 0 rfl rfl 0 (by decide) (hT _ m139) (fun _ h9 => h9) rfl d_GateOrder_sort_27 ?_
              refine va_get (D := D) (ci := 1) (v := .ref (a 44)) (C := R_Net) (T := F_Net) (N := 15) hx hb hT in_Net hown hK hP 3 rfl rfl 3 (by decide) (hT _ m56) (fun _ h9 => h9) rfl d_GateOrder_sort_30 ?_
              refine lv_iload_n hx hb d_GateOrder_sort_33 rfl (lv_at hl 2 rfl) ?_
              obtain ⟨hin, h⟩ := gi_e h
              refine zv_iald hx hb hK hP 4 0 rfl rfl (Nat.le_of_ble_eq_true rfl) hin d_GateOrder_sort_34 ?_
              refine zv_iconst hx hb d_GateOrder_sort_35 ?_
              have hj72 : ∀ (O_gates_5 : Int → Int) (O_count_6 : Int) (H : Heap) (locs : List Loc) (ls : Array Slot), va_P D vwCl [(o_O a O_count_6), ((a 41), .inl (cJ, 48, .inr (.inl (la O_leading)))), ((a 42), .inl (cI, 48, .inl (ia O_gates_5))), (o_N a N_period N_width N_size), ((a 44), .inl (cI, 48, .inl (ia N_kind)))] H → va_D A [(o_O a O_count_6), ((a 41), .inl (cJ, 48, .inr (.inl (la O_leading)))), ((a 42), .inl (cI, 48, .inl (ia O_gates_5))), (o_N a N_period N_width N_size), ((a 44), .inl (cI, 48, .inl (ia N_kind)))] → va_S A s.heap H locs → lv_has ls 3 [(0, .ref (a 40)), (1, .int (iI v1)), (2, .int (iI v2))] → f_GateOrder_sort_j72 F v2 self15 O_gates_5 O_count_6 = some (z_O_gates, z_O_count) → W p l e (headSpec w_GateOrder_sort rm_GateOrder_sort).room s m args below meth c H locs 0 0 Q (F0 m 72 ls []) := by
                intro O_gates_5 O_count_6 H locs ls hP hD hS hl h
                rw [f_GateOrder_sort_j72] at h
                refine lv_iinc (v := iI (v2 + 1)) (k := 2) (lv' := [(2, .int (iI (v2 + 1))), (0, .ref (a 40)), (1, .int (iI v1))]) hx hb d_GateOrder_sort_72 hl rfl (iI_add _ _) (by decide) rfl (fun ls hl => ?_)
                refine lv_goto hx hb d_GateOrder_sort_75 rfl ?_
                exact ih15 (v2 + 1) O_gates_5 O_count_6 H locs ls hP hD hS (lv_sub hl [1, 2, 0] rfl) h
              obtain ⟨hg0, h⟩ := gr_e h
              refine zc_ne hx hb d_GateOrder_sort_36 rfl hg0 (by decide) (fun hc => ?_) (fun hc => ?_)
              · replace h := if_f hc h
                exact hj72 O_gates_3 O_count_4 H locs ls hP hD hS (lv_sub hl [0, 1, 2] rfl) h
              · replace h := if_t hc h
                refine lv_aload_n hx hb d_GateOrder_sort_39 rfl (lv_at hl 0 rfl) ?_
                refine va_get (D := D) (ci := 2) (v := .ref (a 41)) (C := R_GateOrder) (T := F_GateOrder) (N := 4) hx hb hT in_GateOrder hown hK hP 0 rfl rfl 1 (by decide) (hT _ m140) (fun _ h9 => h9) rfl d_GateOrder_sort_40 ?_
                refine lv_iload_n hx hb d_GateOrder_sort_43 rfl (lv_at hl 2 rfl) ?_
                obtain ⟨hin, h⟩ := gi_e h
                refine zv_lald hx hb hK hP 1 1 rfl rfl (Nat.le_of_ble_eq_true rfl) hin d_GateOrder_sort_44 ?_
                obtain ⟨r45, hcall, h⟩ := ob1_e h
                refine ro_i (va_Run.run (va_runS (As := [.long (O_leading v2)]) (rest := []) ⟨hx, hb, hml, hown, hts⟩ (c_Long_bitCount l D cI cJ cZ F a (O_leading v2) r45 H.size hcall) (va_cwS 1 hts (gd_O m474 m472 m473 m17) rfl rfl rfl hc_Long_bitCount ⟨Nat.le_of_ble_eq_true rfl, Nat.le_of_ble_eq_true rfl⟩) (pc_S [.long (O_leading v2)] hP hK hD hN [] rfl rfl rfl) rfl rfl hl.1 rfl (lv_room (Nat.le_of_ble_eq_true rfl)) d_GateOrder_sort_45 ⟨Nat.le_refl 0, Nat.le_refl 0⟩)) (W.eq (g2 := F0 m 48 ls [.int (iI r45)]) rfl ?_)
                refine lv_iload_n hx hb d_GateOrder_sort_48 rfl (lv_at hl 1 rfl) ?_
                obtain ⟨hg0, h⟩ := gr_e h
                obtain ⟨hg1, h⟩ := gr_e h
                refine zc_ne hx hb d_GateOrder_sort_49 rfl hg0 hg1 (fun hc => ?_) (fun hc => ?_)
                · replace h := if_f hc h
                  exact hj72 O_gates_3 O_count_4 H locs ls hP hD hS (lv_sub hl [0, 1, 2] rfl) h
                · replace h := if_t hc h
                  refine lv_aload_n hx hb d_GateOrder_sort_52 rfl (lv_at hl 0 rfl) ?_
                  refine va_get (D := D) (ci := 2) (v := .ref (a 42)) (C := R_GateOrder) (T := F_GateOrder) (N := 4) hx hb hT in_GateOrder hown hK hP 0 rfl rfl 2 (by decide) (hT _ m141) (fun _ h9 => h9) rfl d_GateOrder_sort_53 ?_
                  refine lv_aload_n hx hb d_GateOrder_sort_56 rfl (lv_at hl 0 rfl) ?_
                  refine va_get (D := D) (ci := 2) (v := .int (iI O_count_4)) (C := R_GateOrder) (T := F_GateOrder) (N := 4) hx hb hT in_GateOrder hown hK hP 0 rfl rfl 3 (by decide) (hT _ m144) (fun _ h9 => h9) rfl d_GateOrder_sort_57 ?_
                  refine lv_iload_n hx hb d_GateOrder_sort_60 rfl (lv_at hl 2 rfl) ?_
                  obtain ⟨hin, h⟩ := gi_e h
                  refine zv_iast hx hb hK hP hD hS 2 0 rfl rfl (Nat.le_of_ble_eq_true rfl) hin d_GateOrder_sort_61 (fun H locs hP hD hS => ?_)
                  obtain ⟨O_gates_7, hv⟩ : ∃ z, z = (ui O_gates_3 O_count_4 v2) := ⟨_, rfl⟩
                  replace h := bd_e hv h
                  have hP : va_P D vwCl [(o_O a O_count_4), ((a 41), .inl (cJ, 48, .inr (.inl (la O_leading)))), ((a 42), .inl (cI, 48, .inl (ia O_gates_7))), (o_N a N_period N_width N_size), ((a 44), .inl (cI, 48, .inl (ia N_kind)))] H := by rw [hv]; exact hP
                  have hD : va_D A [(o_O a O_count_4), ((a 41), .inl (cJ, 48, .inr (.inl (la O_leading)))), ((a 42), .inl (cI, 48, .inl (ia O_gates_7))), (o_N a N_period N_width N_size), ((a 44), .inl (cI, 48, .inl (ia N_kind)))] := by rw [hv]; exact hD
                  refine lv_aload_n hx hb d_GateOrder_sort_62 rfl (lv_at hl 0 rfl) ?_
                  refine lv_dup hx hb d_GateOrder_sort_63 rfl ?_
                  refine va_get (D := D) (ci := 2) (v := .int (iI O_count_4)) (C := R_GateOrder) (T := F_GateOrder) (N := 4) hx hb hT in_GateOrder hown hK hP 0 rfl rfl 3 (by decide) (hT _ m144) (fun _ h9 => h9) rfl d_GateOrder_sort_64 ?_
                  refine zv_iconst hx hb d_GateOrder_sort_67 ?_
                  refine zv_iadd hx hb d_GateOrder_sort_68 ?_
                  refine va_put (D := D) (ci := 2) (v := .int (iI (O_count_4 + 1))) (ty := .int) (C := R_GateOrder) (T := F_GateOrder) (N := 4) hx hb hT in_GateOrder ty_GateOrder ty_GateOrder_ok n_GateOrder hown hK hP hD hS 0 rfl rfl 3 (by decide) (hT _ m144) (fun _ h9 => h9) rfl (by decide +kernel) rfl rfl (Nat.le_of_ble_eq_true rfl) d_GateOrder_sort_69 (fun H locs hP hD hS => ?_)
                  have hP : va_P D vwCl [(o_O a (O_count_4 + 1)), ((a 41), .inl (cJ, 48, .inr (.inl (la O_leading)))), ((a 42), .inl (cI, 48, .inl (ia O_gates_7))), (o_N a N_period N_width N_size), ((a 44), .inl (cI, 48, .inl (ia N_kind)))] H := hP
                  have hD : va_D A [(o_O a (O_count_4 + 1)), ((a 41), .inl (cJ, 48, .inr (.inl (la O_leading)))), ((a 42), .inl (cI, 48, .inl (ia O_gates_7))), (o_N a N_period N_width N_size), ((a 44), .inl (cI, 48, .inl (ia N_kind)))] := hD
                  exact hj72 O_gates_7 (O_count_4 + 1) H locs ls hP hD hS (lv_sub hl [0, 1, 2] rfl) h
        exact hl15 F 0 O_gates_1 O_count_2 H locs ls hP hD hS (lv_sub hl [1, 2, 0] rfl) h
  exact hl7 F 0 O_gates 0 H locs ls hP hD hS (lv_sub hl [1, 0] rfl) h
abbrev rm_Arrays_fill : Room := { frames := 0, cells := 0, slots := 0, locals := 0 }
set_option maxHeartbeats 4000000 in
set_option maxRecDepth 100000 in
theorem c_Arrays_fill (l : Launch) (D : va_G) (cI cJ cZ : ClassId) (F : Nat) (a : Nat → Nat) (aarr : Nat) (arr : Int → Int) (n : Nat) (x1 : Int) (z_arr : Int → Int) (sz : Nat) (h : f_Arrays_fill F arr n x1 = some (z_arr)) : Met l y_Arrays_fill w_Arrays_fill rm_Arrays_fill (PC D [(cI, .int), (cJ, .long), (cZ, .boolean)] [.ref aarr, .int (iI x1)] ([(aarr, .inl (cI, n, .inl (ia arr)))]) sz) (QV D [(cI, .int), (cJ, .long), (cZ, .boolean)] ([(aarr, .inl (cI, n, .inl (ia arr)))]) sz ([(aarr, .inl (cI, n, .inl (ia z_arr)))])) 0 0 (va_A ([(aarr, .inl (cI, n, .inl (ia arr)))]) sz) := by
  refine Met.ofW (cc := prog_22_method_103_code) (maxL := 4) (ret := (Option.none : Option Jvm.ClassFile.FieldType)) (by decide) rfl ?_
  intro p e s m args below meth c s₁ B hml hv
  obtain ⟨rfl, hsz, hP, hK, hD0, hN⟩ := hv
  have hx := B.exec
  have hb := B.bytes
  have hr := B.returns
  have hts := atoms_spec (ws := w_Arrays_fill) B.pre
  have hown : s.vm.findClass R_Arrays = some m.cls := findClass_of_methodNamed B.named
  have hlocks := B.notSynchronized
  subst hsz
  have hD := hD0.self (sz := s.heap.size)
  obtain ⟨A, hAe⟩ : ∃ A, A = va_A ([(aarr, .inl (cI, n, .inl (ia arr)))]) s.heap.size := ⟨_, rfl⟩
  rw [← hAe] at hD
  have hA : ∀ q : Nat, s.heap.size ≤ q → A q := fun q h => by rw [hAe]; exact Or.inr h
  have hS : va_S A s.heap s.heap [] := va_S.rf
  have hl := lv_entry ([.ref aarr, .int (iI x1)]) (n := 4) (Nat.le_of_ble_eq_true rfl)
  rw [lg_entry_eq]
  generalize (lg_sl ([.ref aarr, .int (iI x1)]) ++ List.replicate (4 - (lg_sl ([.ref aarr, .int (iI x1)])).length) Slot.unset).toArray = ls at hl ⊢
  have hl : lv_has ls 4 [(0, .ref aarr), (1, .int (iI x1))] := hl
  generalize (List.toArray ([.ref aarr, .int (iI x1)] : List Value)) = args at hts ⊢
  have hT : ∀ w ∈ Tg, w.before args s = true := fun w h => hts w (List.mem_cons_of_mem _ h)
  obtain ⟨Q, hQ⟩ : ∃ Q, Q = MQ below (QV D [(cI, .int), (cJ, .long), (cZ, .boolean)] ([(aarr, .inl (cI, n, .inl (ia arr)))]) s.heap.size ([(aarr, .inl (cI, n, .inl (ia z_arr)))])) args s 0 0 (va_A ([(aarr, .inl (cI, n, .inl (ia arr)))]) s.heap.size) := ⟨_, rfl⟩
  rw [← hQ]
  suffices hW : ∀ (H : Heap) (locs : List Loc), va_P D vwCl ([(aarr, .inl (cI, n, .inl (ia arr)))]) H → va_D A ([(aarr, .inl (cI, n, .inl (ia arr)))]) → va_S A s.heap H locs → W p l e (headSpec w_Arrays_fill rm_Arrays_fill).room s m args below meth c H locs 0 0 Q (F0 m 0 ls []) from hW s.heap [] hP hD hS
  clear hP hD hS
  intro H locs hP hD hS
  rw [f_Arrays_fill] at h
  refine zv_iconst hx hb d_Arrays_fill_0 ?_
  refine lv_istore_n (lv' := [(2, .int (iI 0)), (0, .ref aarr), (1, .int (iI x1))]) hx hb d_Arrays_fill_1 rfl hl (by decide) rfl (fun ls hl => ?_)
  refine lv_aload_n hx hb d_Arrays_fill_2 rfl (lv_at hl 1 rfl) ?_
  obtain ⟨hnn, h⟩ := gn_e h
  refine zv_alen hx hb hK hP 0 0 rfl rfl (v := (n : Int)) rfl d_Arrays_fill_3 ?_
  refine zv_top (fun v3 hv => ?_)
  replace h := bd_e hv h
  refine lv_istore_n (lv' := [(3, .int (iI v3)), (2, .int (iI 0)), (0, .ref aarr), (1, .int (iI x1))]) hx hb d_Arrays_fill_4 rfl hl (by decide) rfl (fun ls hl => ?_)
  have hl5 : ∀ (nf : Nat) (v2 : Int) (arr_1 : Int → Int) (H : Heap) (locs : List Loc) (ls : Array Slot), va_P D vwCl [(aarr, .inl (cI, n, .inl (ia arr_1)))] H → va_D A [(aarr, .inl (cI, n, .inl (ia arr_1)))] → va_S A s.heap H locs → lv_has ls 4 [(0, .ref aarr), (1, .int (iI x1)), (2, .int (iI v2)), (3, .int (iI v3))] → lq2 (f_Arrays_fill_b5 F n x1 v3) nf v2 arr_1 = some (z_arr) → W p l e (headSpec w_Arrays_fill rm_Arrays_fill).room s m args below meth c H locs 0 0 Q (F0 m 5 ls []) := by
    intro n5
    induction n5 with
    | zero => intro v2 arr_1 H locs ls hP hD hS hl h; exact no_some h
    | succ n5 ih5 =>
      intro v2 arr_1 H locs ls hP hD hS hl h
      replace h : f_Arrays_fill_b5 F n x1 v3 (lq2 (f_Arrays_fill_b5 F n x1 v3) n5) v2 arr_1 = some (z_arr) := h
      obtain ⟨self5, hs5⟩ : ∃ z, z = lq2 (f_Arrays_fill_b5 F n x1 v3) n5 := ⟨_, rfl⟩
      rw [← hs5] at h ih5
      rw [f_Arrays_fill_b5] at h
      refine lv_iload_n hx hb d_Arrays_fill_5 rfl (lv_at hl 2 rfl) ?_
      refine lv_iload_n hx hb d_Arrays_fill_6 rfl (lv_at hl 3 rfl) ?_
      obtain ⟨hg0, h⟩ := gr_e h
      obtain ⟨hg1, h⟩ := gr_e h
      refine zc_ge hx hb d_Arrays_fill_7 rfl hg0 hg1 (fun hc => ?_) (fun hc => ?_)
      · replace h := if_t hc h
        have e1 := so1 h
        rw [hQ, e1]; rw [hAe] at hD hS; exact W.vret hx hb hr (fun t ht hW => ⟨⟨(), rfl, trivial, by rw [ht]; exact hP, va_K.moved hW.alike hK, hD⟩, hS.F ht⟩) hS.2.2 d_Arrays_fill_20
      · replace h := if_f hc h
        refine lv_aload_n hx hb d_Arrays_fill_10 rfl (lv_at hl 0 rfl) ?_
        refine lv_iload_n hx hb d_Arrays_fill_11 rfl (lv_at hl 2 rfl) ?_
        refine lv_iload_n hx hb d_Arrays_fill_12 rfl (lv_at hl 1 rfl) ?_
        obtain ⟨hin, h⟩ := gi_e h
        refine zv_iast hx hb hK hP hD hS 0 0 rfl rfl hnn hin d_Arrays_fill_13 (fun H locs hP hD hS => ?_)
        obtain ⟨arr_2, hv⟩ : ∃ z, z = (ui arr_1 v2 x1) := ⟨_, rfl⟩
        replace h := bd_e hv h
        have hP : va_P D vwCl [(aarr, .inl (cI, n, .inl (ia arr_2)))] H := by rw [hv]; exact hP
        have hD : va_D A [(aarr, .inl (cI, n, .inl (ia arr_2)))] := by rw [hv]; exact hD
        refine lv_iinc (v := iI (v2 + 1)) (k := 2) (lv' := [(2, .int (iI (v2 + 1))), (0, .ref aarr), (1, .int (iI x1)), (3, .int (iI v3))]) hx hb d_Arrays_fill_14 hl rfl (iI_add _ _) (by decide) rfl (fun ls hl => ?_)
        refine lv_goto hx hb d_Arrays_fill_17 rfl ?_
        exact ih5 (v2 + 1) arr_2 H locs ls hP hD hS (lv_sub hl [1, 2, 0, 3] rfl) h
  exact hl5 F 0 arr H locs ls hP hD hS (lv_sub hl [2, 3, 1, 0] rfl) h
abbrev rm_Spread_clear : Room := { frames := 1, cells := 0, slots := 0, locals := 23 }
set_option maxHeartbeats 4000000 in
set_option maxRecDepth 100000 in
theorem c_Spread_clear (l : Launch) (D : va_G) (cI cJ cZ : ClassId) (F : Nat) (a : Nat → Nat) (aX aX_count aX_early aX_late : Nat) (X_count : Int → Int) (z_X_count : Int → Int) (sz : Nat) (h : f_Spread_clear F X_count = some (z_X_count)) : Met l y_Spread_clear w_Spread_clear rm_Spread_clear (PC D [(cI, .int), (cJ, .long), (cZ, .boolean)] [.ref aX] ([(o_X aX aX_count aX_early aX_late (a 43) (a 40)), (aX_count, .inl (cI, 96, .inl (ia X_count)))]) sz) (QV D [(cI, .int), (cJ, .long), (cZ, .boolean)] ([(o_X aX aX_count aX_early aX_late (a 43) (a 40)), (aX_count, .inl (cI, 96, .inl (ia X_count)))]) sz ([(o_X aX aX_count aX_early aX_late (a 43) (a 40)), (aX_count, .inl (cI, 96, .inl (ia z_X_count)))])) 0 0 (va_A ([(o_X aX aX_count aX_early aX_late (a 43) (a 40)), (aX_count, .inl (cI, 96, .inl (ia X_count)))]) sz) := by
  refine Met.ofW (cc := prog_9_method_2_code) (maxL := 1) (ret := (Option.none : Option Jvm.ClassFile.FieldType)) (by decide) rfl ?_
  intro p e s m args below meth c s₁ B hml hv
  obtain ⟨rfl, hsz, hP, hK, hD0, hN⟩ := hv
  have hx := B.exec
  have hb := B.bytes
  have hr := B.returns
  have hts := atoms_spec (ws := w_Spread_clear) B.pre
  have hown : s.vm.findClass R_Spread = some m.cls := findClass_of_methodNamed B.named
  have hlocks := B.notSynchronized
  subst hsz
  have hD := hD0.self (sz := s.heap.size)
  obtain ⟨A, hAe⟩ : ∃ A, A = va_A ([(o_X aX aX_count aX_early aX_late (a 43) (a 40)), (aX_count, .inl (cI, 96, .inl (ia X_count)))]) s.heap.size := ⟨_, rfl⟩
  rw [← hAe] at hD
  have hA : ∀ q : Nat, s.heap.size ≤ q → A q := fun q h => by rw [hAe]; exact Or.inr h
  have hS : va_S A s.heap s.heap [] := va_S.rf
  have hl := lv_entry ([.ref aX]) (n := 1) (Nat.le_of_ble_eq_true rfl)
  rw [lg_entry_eq]
  generalize (lg_sl ([.ref aX]) ++ List.replicate (1 - (lg_sl ([.ref aX])).length) Slot.unset).toArray = ls at hl ⊢
  have hl : lv_has ls 1 [(0, .ref aX)] := hl
  generalize (List.toArray ([.ref aX] : List Value)) = args at hts ⊢
  have hT : ∀ w ∈ Tg, w.before args s = true := fun w h => hts w (List.mem_cons_of_mem _ h)
  obtain ⟨Q, hQ⟩ : ∃ Q, Q = MQ below (QV D [(cI, .int), (cJ, .long), (cZ, .boolean)] ([(o_X aX aX_count aX_early aX_late (a 43) (a 40)), (aX_count, .inl (cI, 96, .inl (ia X_count)))]) s.heap.size ([(o_X aX aX_count aX_early aX_late (a 43) (a 40)), (aX_count, .inl (cI, 96, .inl (ia z_X_count)))])) args s 0 0 (va_A ([(o_X aX aX_count aX_early aX_late (a 43) (a 40)), (aX_count, .inl (cI, 96, .inl (ia X_count)))]) s.heap.size) := ⟨_, rfl⟩
  rw [← hQ]
  suffices hW : ∀ (H : Heap) (locs : List Loc), va_P D vwCl ([(o_X aX aX_count aX_early aX_late (a 43) (a 40)), (aX_count, .inl (cI, 96, .inl (ia X_count)))]) H → va_D A ([(o_X aX aX_count aX_early aX_late (a 43) (a 40)), (aX_count, .inl (cI, 96, .inl (ia X_count)))]) → va_S A s.heap H locs → W p l e (headSpec w_Spread_clear rm_Spread_clear).room s m args below meth c H locs 0 0 Q (F0 m 0 ls []) from hW s.heap [] hP hD hS
  clear hP hD hS
  intro H locs hP hD hS
  rw [f_Spread_clear] at h
  refine lv_aload_n hx hb d_Spread_clear_0 rfl (lv_at hl 0 rfl) ?_
  refine va_get (D := D) (ci := 3) (v := .ref aX_count) (C := R_Spread) (T := F_Spread) (N := 5) hx hb hT in_Spread hown hK hP 0 rfl rfl 2 (by decide) (hT _ m171) (fun _ h9 => h9) rfl d_Spread_clear_1 ?_
  refine zv_iconst hx hb d_Spread_clear_4 ?_
  obtain ⟨X_count_1, hcall, h⟩ := ob1_e h
  refine ca_v (w2 := [(o_X aX aX_count aX_early aX_late (a 43) (a 40)), (aX_count, .inl (cI, 96, .inl (ia X_count_1)))]) (va_runS (As := [.ref aX_count, .int (iI 0)]) (rest := []) ⟨hx, hb, hml, hown, hts⟩ (c_Arrays_fill l D cI cJ cZ F a aX_count X_count 96 0 X_count_1 H.size hcall) (va_cwS 2 hts (gd_O m38 m490 m37 m3) rfl rfl rfl hc_Arrays_fill ⟨Nat.le_of_ble_eq_true rfl, Nat.le_of_ble_eq_true rfl⟩) (pc_S [.ref aX_count, .int (iI 0)] hP hK hD hN [1] rfl rfl rfl) rfl rfl hl.1 rfl (lv_room (Nat.le_of_ble_eq_true rfl)) d_Spread_clear_5 ⟨Nat.le_refl 0, Nat.le_refl 0⟩) hP hD hS hA [1] [0] [0, 1] rfl rfl rfl (by decide) rfl rfl rfl (fun H locs hP hD hS => ?_)
  have e1 := so1 h
  rw [hQ, e1]; rw [hAe] at hD hS; exact W.vret hx hb hr (fun t ht hW => ⟨⟨(), rfl, trivial, by rw [ht]; exact hP, va_K.moved hW.alike hK, hD⟩, hS.F ht⟩) hS.2.2 d_Spread_clear_8
