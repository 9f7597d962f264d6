abbrev rm_M_countClock : Room := { frames := 1, cells := 0, slots := 0, locals := 25 }
set_option maxHeartbeats 4000000 in
set_option maxRecDepth 100000 in
theorem c_M_countClock (l : Launch) (D : va_G) (cI cJ cZ : ClassId) (F : Nat) (a : Nat → Nat) (M_thrown : Int) (M_period : Int) (M_width : Int) (M_nodes : Int) (M_analysed : Int) (M_gates : Int) (M_startNode : Int) (M_startChange : Int) (M_startWay : Int) (M_startBase : Int) (M_startEarly : Int) (M_startLate : Int) (M_worstWith : Int) (M_worstWithout : Int) (M_all : Int64) (M_rowSize : Int) (M_pins : Int → Int) (M_froms : Int → Int) (M_senses : Int → Int) (M_order : Int → Int) (M_clockWays : Int → Int) (z_M_clockWays : Int → Int) (sz : Nat) (h : f_M_countClock F M_gates M_pins M_froms M_senses M_order M_clockWays = some (z_M_clockWays)) : Met l y_M_countClock w_M_countClock rm_M_countClock (PC D [(cI, .int), (cJ, .long), (cZ, .boolean)] [.ref (a 0)] ([(o_M a M_thrown M_period M_width M_nodes M_analysed M_gates M_startNode M_startChange M_startWay M_startBase M_startEarly M_startLate M_worstWith M_worstWithout M_all M_rowSize), ((a 2), .inl (cI, 48, .inl (ia M_pins))), ((a 3), .inl (cI, 144, .inl (ia M_froms))), ((a 6), .inl (cI, 144, .inl (ia M_senses))), ((a 11), .inl (cI, 48, .inl (ia M_order))), ((a 20), .inl (cI, 96, .inl (ia M_clockWays)))]) sz) (QV D [(cI, .int), (cJ, .long), (cZ, .boolean)] ([(o_M a M_thrown M_period M_width M_nodes M_analysed M_gates M_startNode M_startChange M_startWay M_startBase M_startEarly M_startLate M_worstWith M_worstWithout M_all M_rowSize), ((a 2), .inl (cI, 48, .inl (ia M_pins))), ((a 3), .inl (cI, 144, .inl (ia M_froms))), ((a 6), .inl (cI, 144, .inl (ia M_senses))), ((a 11), .inl (cI, 48, .inl (ia M_order))), ((a 20), .inl (cI, 96, .inl (ia M_clockWays)))]) sz ([(o_M a M_thrown M_period M_width M_nodes M_analysed M_gates M_startNode M_startChange M_startWay M_startBase M_startEarly M_startLate M_worstWith M_worstWithout M_all M_rowSize), ((a 2), .inl (cI, 48, .inl (ia M_pins))), ((a 3), .inl (cI, 144, .inl (ia M_froms))), ((a 6), .inl (cI, 144, .inl (ia M_senses))), ((a 11), .inl (cI, 48, .inl (ia M_order))), ((a 20), .inl (cI, 96, .inl (ia z_M_clockWays)))])) 0 0 (va_A ([(o_M a M_thrown M_period M_width M_nodes M_analysed M_gates M_startNode M_startChange M_startWay M_startBase M_startEarly M_startLate M_worstWith M_worstWithout M_all M_rowSize), ((a 2), .inl (cI, 48, .inl (ia M_pins))), ((a 3), .inl (cI, 144, .inl (ia M_froms))), ((a 6), .inl (cI, 144, .inl (ia M_senses))), ((a 11), .inl (cI, 48, .inl (ia M_order))), ((a 20), .inl (cI, 96, .inl (ia M_clockWays)))]) sz) := by
  refine Met.ofW (cc := prog_12_method_22_code) (maxL := 7) (ret := (Option.none : Option Jvm.ClassFile.FieldType)) (by decide) rfl ?_
  intro p e s m args below meth c s₁ B hml hv
  obtain ⟨rfl, hsz, hP, hK, hD0, hN⟩ := hv
  have hx := B.exec
  have hb := B.bytes
  have hr := B.returns
  have hts := atoms_spec (ws := w_M_countClock) B.pre
  have hown : s.vm.findClass R_M = some m.cls := findClass_of_methodNamed B.named
  have hlocks := B.notSynchronized
  subst hsz
  have hD := hD0.self (sz := s.heap.size)
  obtain ⟨A, hAe⟩ : ∃ A, A = va_A ([(o_M a M_thrown M_period M_width M_nodes M_analysed M_gates M_startNode M_startChange M_startWay M_startBase M_startEarly M_startLate M_worstWith M_worstWithout M_all M_rowSize), ((a 2), .inl (cI, 48, .inl (ia M_pins))), ((a 3), .inl (cI, 144, .inl (ia M_froms))), ((a 6), .inl (cI, 144, .inl (ia M_senses))), ((a 11), .inl (cI, 48, .inl (ia M_order))), ((a 20), .inl (cI, 96, .inl (ia M_clockWays)))]) s.heap.size := ⟨_, rfl⟩
  rw [← hAe] at hD
  have hA : ∀ q : Nat, s.heap.size ≤ q → A q := fun q h => by rw [hAe]; exact Or.inr h
  have hS : va_S A s.heap s.heap [] := va_S.rf
  have hl := lv_entry ([.ref (a 0)]) (n := 7) (Nat.le_of_ble_eq_true rfl)
  rw [lg_entry_eq]
  generalize (lg_sl ([.ref (a 0)]) ++ List.replicate (7 - (lg_sl ([.ref (a 0)])).length) Slot.unset).toArray = ls at hl ⊢
  have hl : lv_has ls 7 [(0, .ref (a 0))] := hl
  generalize (List.toArray ([.ref (a 0)] : List Value)) = args at hts ⊢
  have hT : ∀ w ∈ Tg, w.before args s = true := fun w h => hts w (List.mem_cons_of_mem _ h)
  obtain ⟨Q, hQ⟩ : ∃ Q, Q = MQ below (QV D [(cI, .int), (cJ, .long), (cZ, .boolean)] ([(o_M a M_thrown M_period M_width M_nodes M_analysed M_gates M_startNode M_startChange M_startWay M_startBase M_startEarly M_startLate M_worstWith M_worstWithout M_all M_rowSize), ((a 2), .inl (cI, 48, .inl (ia M_pins))), ((a 3), .inl (cI, 144, .inl (ia M_froms))), ((a 6), .inl (cI, 144, .inl (ia M_senses))), ((a 11), .inl (cI, 48, .inl (ia M_order))), ((a 20), .inl (cI, 96, .inl (ia M_clockWays)))]) s.heap.size ([(o_M a M_thrown M_period M_width M_nodes M_analysed M_gates M_startNode M_startChange M_startWay M_startBase M_startEarly M_startLate M_worstWith M_worstWithout M_all M_rowSize), ((a 2), .inl (cI, 48, .inl (ia M_pins))), ((a 3), .inl (cI, 144, .inl (ia M_froms))), ((a 6), .inl (cI, 144, .inl (ia M_senses))), ((a 11), .inl (cI, 48, .inl (ia M_order))), ((a 20), .inl (cI, 96, .inl (ia z_M_clockWays)))])) args s 0 0 (va_A ([(o_M a M_thrown M_period M_width M_nodes M_analysed M_gates M_startNode M_startChange M_startWay M_startBase M_startEarly M_startLate M_worstWith M_worstWithout M_all M_rowSize), ((a 2), .inl (cI, 48, .inl (ia M_pins))), ((a 3), .inl (cI, 144, .inl (ia M_froms))), ((a 6), .inl (cI, 144, .inl (ia M_senses))), ((a 11), .inl (cI, 48, .inl (ia M_order))), ((a 20), .inl (cI, 96, .inl (ia M_clockWays)))]) s.heap.size) := ⟨_, rfl⟩
  rw [← hQ]
  suffices hW : ∀ (H : Heap) (locs : List Loc), va_P D vwCl ([(o_M a M_thrown M_period M_width M_nodes M_analysed M_gates M_startNode M_startChange M_startWay M_startBase M_startEarly M_startLate M_worstWith M_worstWithout M_all M_rowSize), ((a 2), .inl (cI, 48, .inl (ia M_pins))), ((a 3), .inl (cI, 144, .inl (ia M_froms))), ((a 6), .inl (cI, 144, .inl (ia M_senses))), ((a 11), .inl (cI, 48, .inl (ia M_order))), ((a 20), .inl (cI, 96, .inl (ia M_clockWays)))]) H → va_D A ([(o_M a M_thrown M_period M_width M_nodes M_analysed M_gates M_startNode M_startChange M_startWay M_startBase M_startEarly M_startLate M_worstWith M_worstWithout M_all M_rowSize), ((a 2), .inl (cI, 48, .inl (ia M_pins))), ((a 3), .inl (cI, 144, .inl (ia M_froms))), ((a 6), .inl (cI, 144, .inl (ia M_senses))), ((a 11), .inl (cI, 48, .inl (ia M_order))), ((a 20), .inl (cI, 96, .inl (ia M_clockWays)))]) → va_S A s.heap H locs → W p l e (headSpec w_M_countClock rm_M_countClock).room s m args below meth c H locs 0 0 Q (F0 m 0 ls []) from hW s.heap [] hP hD hS
  clear hP hD hS
  intro H locs hP hD hS
  rw [f_M_countClock] at h
  refine zv_iconst hx hb d_M_countClock_0 ?_
  refine lv_istore_n (lv' := [(1, .int (iI 0)), (0, .ref (a 0))]) hx hb d_M_countClock_1 rfl hl (by decide) rfl (fun ls hl => ?_)
  have hl2 : ∀ (nf : Nat) (v1 : Int) (M_clockWays_1 : Int → Int) (H : Heap) (locs : List Loc) (ls : Array Slot), va_P D vwCl [(o_M a M_thrown M_period M_width M_nodes M_analysed M_gates M_startNode M_startChange M_startWay M_startBase M_startEarly M_startLate M_worstWith M_worstWithout M_all M_rowSize), ((a 2), .inl (cI, 48, .inl (ia M_pins))), ((a 3), .inl (cI, 144, .inl (ia M_froms))), ((a 6), .inl (cI, 144, .inl (ia M_senses))), ((a 11), .inl (cI, 48, .inl (ia M_order))), ((a 20), .inl (cI, 96, .inl (ia M_clockWays_1)))] H → va_D A [(o_M a M_thrown M_period M_width M_nodes M_analysed M_gates M_startNode M_startChange M_startWay M_startBase M_startEarly M_startLate M_worstWith M_worstWithout M_all M_rowSize), ((a 2), .inl (cI, 48, .inl (ia M_pins))), ((a 3), .inl (cI, 144, .inl (ia M_froms))), ((a 6), .inl (cI, 144, .inl (ia M_senses))), ((a 11), .inl (cI, 48, .inl (ia M_order))), ((a 20), .inl (cI, 96, .inl (ia M_clockWays_1)))] → va_S A s.heap H locs → lv_has ls 7 [(0, .ref (a 0)), (1, .int (iI v1))] → lq2 (f_M_countClock_b2 F M_gates M_pins M_froms M_senses M_order) nf v1 M_clockWays_1 = some (z_M_clockWays) → W p l e (headSpec w_M_countClock rm_M_countClock).room s m args below meth c H locs 0 0 Q (F0 m 2 ls []) := by
    intro n2
    induction n2 with
    | zero => intro v1 M_clockWays_1 H locs ls hP hD hS hl h; exact no_some h
    | succ n2 ih2 =>
      intro v1 M_clockWays_1 H locs ls hP hD hS hl h
      replace h : f_M_countClock_b2 F M_gates M_pins M_froms M_senses M_order (lq2 (f_M_countClock_b2 F M_gates M_pins M_froms M_senses M_order) n2) v1 M_clockWays_1 = some (z_M_clockWays) := h
      obtain ⟨self2, hs2⟩ : ∃ z, z = lq2 (f_M_countClock_b2 F M_gates M_pins M_froms M_senses M_order) n2 := ⟨_, rfl⟩
      rw [← hs2] at h ih2
      rw [f_M_countClock_b2] at h
      refine lv_iload_n hx hb d_M_countClock_2 rfl (lv_at hl 1 rfl) ?_
      refine lv_bipush (v := iI 96) hx hb d_M_countClock_3 (by decide) ?_
      obtain ⟨hg0, h⟩ := gr_e h
      refine zc_ge hx hb d_M_countClock_5 rfl hg0 (by decide) (fun hc => ?_) (fun hc => ?_)
      · replace h := if_t hc h
        refine lv_aload_n hx hb d_M_countClock_21 rfl (lv_at hl 0 rfl) ?_
        refine va_get (D := D) (ci := 10) (v := .ref (a 20)) (C := R_M) (T := F_M) (N := 53) hx hb hT in_M hown hK hP 0 rfl rfl 25 (by decide) (hT _ m1046) (fun _ h9 => h9) rfl d_M_countClock_22 ?_
        refine zv_iconst hx hb d_M_countClock_25 ?_
        refine zv_iconst hx hb d_M_countClock_26 ?_
        obtain ⟨hin, h⟩ := gi_e h
        refine zv_iast hx hb hK hP hD hS 5 0 rfl rfl (Nat.le_of_ble_eq_true rfl) hin d_M_countClock_27 (fun H locs hP hD hS => ?_)
        obtain ⟨M_clockWays_2, hv⟩ : ∃ z, z = (ui M_clockWays_1 0 1) := ⟨_, rfl⟩
        replace h := bd_e hv h
        have hP : va_P D vwCl [(o_M a M_thrown M_period M_width M_nodes M_analysed M_gates M_startNode M_startChange M_startWay M_startBase M_startEarly M_startLate M_worstWith M_worstWithout M_all M_rowSize), ((a 2), .inl (cI, 48, .inl (ia M_pins))), ((a 3), .inl (cI, 144, .inl (ia M_froms))), ((a 6), .inl (cI, 144, .inl (ia M_senses))), ((a 11), .inl (cI, 48, .inl (ia M_order))), ((a 20), .inl (cI, 96, .inl (ia M_clockWays_2)))] H := by rw [hv]; exact hP
        have hD : va_D A [(o_M a M_thrown M_period M_width M_nodes M_analysed M_gates M_startNode M_startChange M_startWay M_startBase M_startEarly M_startLate M_worstWith M_worstWithout M_all M_rowSize), ((a 2), .inl (cI, 48, .inl (ia M_pins))), ((a 3), .inl (cI, 144, .inl (ia M_froms))), ((a 6), .inl (cI, 144, .inl (ia M_senses))), ((a 11), .inl (cI, 48, .inl (ia M_order))), ((a 20), .inl (cI, 96, .inl (ia M_clockWays_2)))] := by rw [hv]; exact hD
        refine lv_aload_n hx hb d_M_countClock_28 rfl (lv_at hl 0 rfl) ?_
        refine va_get (D := D) (ci := 10) (v := .ref (a 20)) (C := R_M) (T := F_M) (N := 53) hx hb hT in_M hown hK hP 0 rfl rfl 25 (by decide) (hT _ m1046) (fun _ h9 => h9) rfl d_M_countClock_29 ?_
        refine zv_iconst hx hb d_M_countClock_32 ?_
        refine zv_iconst hx hb d_M_countClock_33 ?_
        obtain ⟨hin, h⟩ := gi_e h
        refine zv_iast hx hb hK hP hD hS 5 0 rfl rfl (Nat.le_of_ble_eq_true rfl) hin d_M_countClock_34 (fun H locs hP hD hS => ?_)
        obtain ⟨M_clockWays_3, hv⟩ : ∃ z, z = (ui M_clockWays_2 1 1) := ⟨_, rfl⟩
        replace h := bd_e hv h
        have hP : va_P D vwCl [(o_M a M_thrown M_period M_width M_nodes M_analysed M_gates M_startNode M_startChange M_startWay M_startBase M_startEarly M_startLate M_worstWith M_worstWithout M_all M_rowSize), ((a 2), .inl (cI, 48, .inl (ia M_pins))), ((a 3), .inl (cI, 144, .inl (ia M_froms))), ((a 6), .inl (cI, 144, .inl (ia M_senses))), ((a 11), .inl (cI, 48, .inl (ia M_order))), ((a 20), .inl (cI, 96, .inl (ia M_clockWays_3)))] H := by rw [hv]; exact hP
        have hD : va_D A [(o_M a M_thrown M_period M_width M_nodes M_analysed M_gates M_startNode M_startChange M_startWay M_startBase M_startEarly M_startLate M_worstWith M_worstWithout M_all M_rowSize), ((a 2), .inl (cI, 48, .inl (ia M_pins))), ((a 3), .inl (cI, 144, .inl (ia M_froms))), ((a 6), .inl (cI, 144, .inl (ia M_senses))), ((a 11), .inl (cI, 48, .inl (ia M_order))), ((a 20), .inl (cI, 96, .inl (ia M_clockWays_3)))] := by rw [hv]; exact hD
        refine zv_iconst hx hb d_M_countClock_35 ?_
        refine lv_istore_n (lv' := [(1, .int (iI 0)), (0, .ref (a 0))]) hx hb d_M_countClock_36 rfl hl (by decide) rfl (fun ls hl => ?_)
        have hl37 : ∀ (nf : Nat) (v1_4 : Int) (M_clockWays_5 : Int → Int) (H : Heap) (locs : List Loc) (ls : Array Slot), va_P D vwCl [(o_M a M_thrown M_period M_width M_nodes M_analysed M_gates M_startNode M_startChange M_startWay M_startBase M_startEarly M_startLate M_worstWith M_worstWithout M_all M_rowSize), ((a 2), .inl (cI, 48, .inl (ia M_pins))), ((a 3), .inl (cI, 144, .inl (ia M_froms))), ((a 6), .inl (cI, 144, .inl (ia M_senses))), ((a 11), .inl (cI, 48, .inl (ia M_order))), ((a 20), .inl (cI, 96, .inl (ia M_clockWays_5)))] H → va_D A [(o_M a M_thrown M_period M_width M_nodes M_analysed M_gates M_startNode M_startChange M_startWay M_startBase M_startEarly M_startLate M_worstWith M_worstWithout M_all M_rowSize), ((a 2), .inl (cI, 48, .inl (ia M_pins))), ((a 3), .inl (cI, 144, .inl (ia M_froms))), ((a 6), .inl (cI, 144, .inl (ia M_senses))), ((a 11), .inl (cI, 48, .inl (ia M_order))), ((a 20), .inl (cI, 96, .inl (ia M_clockWays_5)))] → va_S A s.heap H locs → lv_has ls 7 [(0, .ref (a 0)), (1, .int (iI v1_4))] → lq2 (f_M_countClock_b37 F M_gates M_pins M_froms M_senses M_order) nf v1_4 M_clockWays_5 = some (z_M_clockWays) → W p l e (headSpec w_M_countClock rm_M_countClock).room s m args below meth c H locs 0 0 Q (F0 m 37 ls []) := by
          intro n37
          induction n37 with
          | zero => intro v1_4 M_clockWays_5 H locs ls hP hD hS hl h; exact no_some h
          | succ n37 ih37 =>
            intro v1_4 M_clockWays_5 H locs ls hP hD hS hl h
            replace h : f_M_countClock_b37 F M_gates M_pins M_froms M_senses M_order (lq2 (f_M_countClock_b37 F M_gates M_pins M_froms M_senses M_order) n37) v1_4 M_clockWays_5 = some (z_M_clockWays) := h
            obtain ⟨self37, hs37⟩ : ∃ z, z = lq2 (f_M_countClock_b37 F M_gates M_pins M_froms M_senses M_order) n37 := ⟨_, rfl⟩
            rw [← hs37] at h ih37
            rw [f_M_countClock_b37] at h
            refine lv_iload_n hx hb d_M_countClock_37 rfl (lv_at hl 1 rfl) ?_
            refine lv_aload_n hx hb d_M_countClock_38 rfl (lv_at hl 0 rfl) ?_
            refine va_get (D := D) (ci := 10) (v := .int (iI M_gates)) (C := R_M) (T := F_M) (N := 53) hx hb hT in_M hown hK hP 0 rfl rfl 16 (by decide) (hT _ m1037) (fun _ h9 => h9) rfl d_M_countClock_39 ?_
            obtain ⟨hg0, h⟩ := gr_e h
            obtain ⟨hg1, h⟩ := gr_e h
            refine zc_ge hx hb d_M_countClock_42 rfl hg0 hg1 (fun hc => ?_) (fun hc => ?_)
            · replace h := if_t hc h
              have e1 := so1 h
              rw [hQ, e1]; rw [hAe] at hD hS; exact W.vret hx hb hr (fun t ht hW => ⟨⟨(), rfl, trivial, by rw [ht]; exact hP, va_K.moved hW.alike hK, hD⟩, hS.F ht⟩) hS.2.2 d_M_countClock_175
            · replace h := if_f hc h
              refine lv_aload_n hx hb d_M_countClock_45 rfl (lv_at hl 0 rfl) ?_
              refine va_get (D := D) (ci := 10) (v := .ref (a 11)) (C := R_M) (T := F_M) (N := 53) hx hb hT in_M hown hK hP 0 rfl rfl 15 (by decide) (hT _ m1036) (fun _ h9 => h9) rfl d_M_countClock_46 ?_
              refine lv_iload_n hx hb d_M_countClock_49 rfl (lv_at hl 1 rfl) ?_
              obtain ⟨hin, h⟩ := gi_e h
              refine zv_iald hx hb hK hP 4 0 rfl rfl (Nat.le_of_ble_eq_true rfl) hin d_M_countClock_50 ?_
              refine zv_top (fun v2 hv => ?_)
              replace h := bd_e hv h
              refine lv_istore_n (lv' := [(2, .int (iI v2)), (0, .ref (a 0)), (1, .int (iI v1_4))]) hx hb d_M_countClock_51 rfl hl (by decide) rfl (fun ls hl => ?_)
              refine zv_iconst hx hb d_M_countClock_52 ?_
              refine lv_istore_n (lv' := [(3, .int (iI 0)), (2, .int (iI v2)), (0, .ref (a 0)), (1, .int (iI v1_4))]) hx hb d_M_countClock_53 rfl hl (by decide) rfl (fun ls hl => ?_)
              have hl54 : ∀ (nf : Nat) (v3 : Int) (M_clockWays_6 : Int → Int) (H : Heap) (locs : List Loc) (ls : Array Slot), va_P D vwCl [(o_M a M_thrown M_period M_width M_nodes M_analysed M_gates M_startNode M_startChange M_startWay M_startBase M_startEarly M_startLate M_worstWith M_worstWithout M_all M_rowSize), ((a 2), .inl (cI, 48, .inl (ia M_pins))), ((a 3), .inl (cI, 144, .inl (ia M_froms))), ((a 6), .inl (cI, 144, .inl (ia M_senses))), ((a 11), .inl (cI, 48, .inl (ia M_order))), ((a 20), .inl (cI, 96, .inl (ia M_clockWays_6)))] H → va_D A [(o_M a M_thrown M_period M_width M_nodes M_analysed M_gates M_startNode M_startChange M_startWay M_startBase M_startEarly M_startLate M_worstWith M_worstWithout M_all M_rowSize), ((a 2), .inl (cI, 48, .inl (ia M_pins))), ((a 3), .inl (cI, 144, .inl (ia M_froms))), ((a 6), .inl (cI, 144, .inl (ia M_senses))), ((a 11), .inl (cI, 48, .inl (ia M_order))), ((a 20), .inl (cI, 96, .inl (ia M_clockWays_6)))] → va_S A s.heap H locs → lv_has ls 7 [(0, .ref (a 0)), (1, .int (iI v1_4)), (2, .int (iI v2)), (3, .int (iI v3))] → lq2 (f_M_countClock_b54 F M_pins M_froms M_senses v1_4 self37 v2) nf v3 M_clockWays_6 = some (z_M_clockWays) → W p l e (headSpec w_M_countClock rm_M_countClock).room s m args below meth c H locs 0 0 Q (F0 m 54 ls []) := by
                intro n54
                induction n54 with
                | zero => intro v3 M_clockWays_6 H locs ls hP hD hS hl h; exact no_some h
                | succ n54 ih54 =>
                  intro v3 M_clockWays_6 H locs ls hP hD hS hl h
                  replace h : f_M_countClock_b54 F M_pins M_froms M_senses v1_4 self37 v2 (lq2 (f_M_countClock_b54 F M_pins M_froms M_senses v1_4 self37 v2) n54) v3 M_clockWays_6 = some (z_M_clockWays) := h
                  obtain ⟨self54, hs54⟩ : ∃ z, z = lq2 (f_M_countClock_b54 F M_pins M_froms M_senses v1_4 self37 v2) n54 := ⟨_, rfl⟩
                  rw [← hs54] at h ih54
                  rw [f_M_countClock_b54] at h
                  refine lv_iload_n hx hb d_M_countClock_54 rfl (lv_at hl 3 rfl) ?_
                  refine zv_iconst hx hb d_M_countClock_55 ?_
                  refine lv_aload_n hx hb d_M_countClock_56 rfl (lv_at hl 0 rfl) ?_
                  refine va_get (D := D) (ci := 10) (v := .ref (a 2)) (C := R_M) (T := F_M) (N := 53) hx hb hT in_M hown hK hP 0 rfl rfl 5 (by decide) (hT _ m1026) (fun _ h9 => h9) rfl d_M_countClock_57 ?_
                  refine lv_iload_n hx hb d_M_countClock_60 rfl (lv_at hl 2 rfl) ?_
                  obtain ⟨hin, h⟩ := gi_e h
                  refine zv_iald hx hb hK hP 1 0 rfl rfl (Nat.le_of_ble_eq_true rfl) hin d_M_countClock_61 ?_
                  refine zv_imul hx hb d_M_countClock_62 ?_
                  obtain ⟨hg0, h⟩ := gr_e h
                  obtain ⟨hg1, h⟩ := gr_e h
                  refine zc_ge hx hb d_M_countClock_63 rfl hg0 hg1 (fun hc => ?_) (fun hc => ?_)
                  · replace h := if_t hc h
                    refine lv_iinc (v := iI (v1_4 + 1)) (k := 1) (lv' := [(1, .int (iI (v1_4 + 1))), (0, .ref (a 0)), (2, .int (iI v2)), (3, .int (iI v3))]) hx hb d_M_countClock_169 hl rfl (iI_add _ _) (by decide) rfl (fun ls hl => ?_)
                    refine lv_goto hx hb d_M_countClock_172 rfl ?_
                    exact ih37 (v1_4 + 1) M_clockWays_6 H locs ls hP hD hS (lv_sub hl [1, 0] rfl) h
                  · replace h := if_f hc h
                    refine lv_iload_n hx hb d_M_countClock_66 rfl (lv_at hl 3 rfl) ?_
                    refine zv_iconst hx hb d_M_countClock_67 ?_
                    obtain ⟨hg, h⟩ := gp_e h
                    refine zv_idiv hx hb d_M_countClock_68 hg (by decide) ?_
                    refine zv_top (fun v4 hv => ?_)
                    replace h := bd_e hv h
                    refine lv_istore (lv' := [(4, .int (iI v4)), (0, .ref (a 0)), (1, .int (iI v1_4)), (2, .int (iI v2)), (3, .int (iI v3))]) hx hb d_M_countClock_69 hl (by decide) rfl (fun ls hl => ?_)
                    refine lv_aload_n hx hb d_M_countClock_71 rfl (lv_at hl 1 rfl) ?_
                    refine va_get (D := D) (ci := 10) (v := .ref (a 3)) (C := R_M) (T := F_M) (N := 53) hx hb hT in_M hown hK hP 0 rfl rfl 6 (by decide) (hT _ m1027) (fun _ h9 => h9) rfl d_M_countClock_72 ?_
                    refine zv_iconst hx hb d_M_countClock_75 ?_
                    refine lv_iload_n hx hb d_M_countClock_76 rfl (lv_at hl 3 rfl) ?_
                    refine zv_imul hx hb d_M_countClock_77 ?_
                    refine lv_iload hx hb d_M_countClock_78 (lv_at hl 0 rfl) ?_
                    refine zv_iadd hx hb d_M_countClock_80 ?_
                    obtain ⟨hin, h⟩ := gi_e h
                    refine zv_iald hx hb hK hP 2 0 rfl rfl (Nat.le_of_ble_eq_true rfl) hin d_M_countClock_81 ?_
                    refine zv_top (fun v5 hv => ?_)
                    replace h := bd_e hv h
                    refine lv_istore (lv' := [(5, .int (iI v5)), (4, .int (iI v4)), (0, .ref (a 0)), (1, .int (iI v1_4)), (2, .int (iI v2)), (3, .int (iI v3))]) hx hb d_M_countClock_82 hl (by decide) rfl (fun ls hl => ?_)
                    refine lv_iload hx hb d_M_countClock_84 (lv_at hl 0 rfl) ?_
                    have hj163 : ∀ (M_clockWays_7 : Int → Int) (H : Heap) (locs : List Loc) (ls : Array Slot), va_P D vwCl [(o_M a M_thrown M_period M_width M_nodes M_analysed M_gates M_startNode M_startChange M_startWay M_startBase M_startEarly M_startLate M_worstWith M_worstWithout M_all M_rowSize), ((a 2), .inl (cI, 48, .inl (ia M_pins))), ((a 3), .inl (cI, 144, .inl (ia M_froms))), ((a 6), .inl (cI, 144, .inl (ia M_senses))), ((a 11), .inl (cI, 48, .inl (ia M_order))), ((a 20), .inl (cI, 96, .inl (ia M_clockWays_7)))] H → va_D A [(o_M a M_thrown M_period M_width M_nodes M_analysed M_gates M_startNode M_startChange M_startWay M_startBase M_startEarly M_startLate M_worstWith M_worstWithout M_all M_rowSize), ((a 2), .inl (cI, 48, .inl (ia M_pins))), ((a 3), .inl (cI, 144, .inl (ia M_froms))), ((a 6), .inl (cI, 144, .inl (ia M_senses))), ((a 11), .inl (cI, 48, .inl (ia M_order))), ((a 20), .inl (cI, 96, .inl (ia M_clockWays_7)))] → va_S A s.heap H locs → lv_has ls 7 [(0, .ref (a 0)), (1, .int (iI v1_4)), (2, .int (iI v2)), (3, .int (iI v3))] → f_M_countClock_j163 F v3 self54 M_clockWays_7 = some (z_M_clockWays) → W p l e (headSpec w_M_countClock rm_M_countClock).room s m args below meth c H locs 0 0 Q (F0 m 163 ls []) := by
                      intro M_clockWays_7 H locs ls hP hD hS hl h
                      rw [f_M_countClock_j163] at h
                      refine lv_iinc (v := iI (v3 + 1)) (k := 3) (lv' := [(3, .int (iI (v3 + 1))), (0, .ref (a 0)), (1, .int (iI v1_4)), (2, .int (iI v2))]) hx hb d_M_countClock_163 hl rfl (iI_add _ _) (by decide) rfl (fun ls hl => ?_)
                      refine lv_goto hx hb d_M_countClock_166 rfl ?_
                      exact ih54 (v3 + 1) M_clockWays_7 H locs ls hP hD hS (lv_sub hl [1, 2, 3, 0] rfl) h
                    obtain ⟨hg0, h⟩ := gr_e h
                    refine zi_lt hx hb d_M_countClock_86 rfl hg0 (fun hc => ?_) (fun hc => ?_)
                    · replace h := if_t hc h
                      exact hj163 M_clockWays_6 H locs ls hP hD hS (lv_sub hl [2, 3, 4, 5] rfl) h
                    · replace h := if_f hc h
                      refine lv_aload_n hx hb d_M_countClock_89 rfl (lv_at hl 2 rfl) ?_
                      refine lv_iload_n hx hb d_M_countClock_90 rfl (lv_at hl 4 rfl) ?_
                      refine lv_iload hx hb d_M_countClock_91 (lv_at hl 1 rfl) ?_
                      refine lv_iload_n hx hb d_M_countClock_93 rfl (lv_at hl 5 rfl) ?_
                      refine zv_iconst hx hb d_M_countClock_94 ?_
                      obtain ⟨hg, h⟩ := gp_e h
                      refine zv_idiv hx hb d_M_countClock_95 hg (by decide) ?_
                      refine zv_iconst hx hb d_M_countClock_96 ?_
                      obtain ⟨hg, h⟩ := gp_e h
                      refine zv_irem hx hb d_M_countClock_97 hg (by decide) ?_
                      refine lv_iload_n hx hb d_M_countClock_98 rfl (lv_at hl 5 rfl) ?_
                      refine zv_iconst hx hb d_M_countClock_99 ?_
                      obtain ⟨hg, h⟩ := gp_e h
                      refine zv_irem hx hb d_M_countClock_100 hg (by decide) ?_
                      obtain ⟨r101, hcall, h⟩ := ob1_e h
                      refine ro_i (va_Run.run (va_runV (As := [.int (iI v2), .int (iI v4), .int (iI ((v3 / 2) % 2)), .int (iI (v3 % 2))]) (rest := []) ⟨hx, hb, hml, hown, hts⟩ (c_M_lets l D cI cJ cZ F a M_thrown M_period M_width M_nodes M_analysed M_gates M_startNode M_startChange M_startWay M_startBase M_startEarly M_startLate M_worstWith M_worstWithout M_all M_rowSize M_senses v2 v4 ((v3 / 2) % 2) (v3 % 2) r101 H.size hcall) (cwV 4 hts (gd_V m1266 m1263 m1265 sl_M_lets m12) rfl rfl rfl ⟨rfl, hc_M_lets⟩ ⟨Nat.le_of_ble_eq_true rfl, Nat.le_of_ble_eq_true rfl⟩) (pc_V 0 10 [.int (iI v2), .int (iI v4), .int (iI ((v3 / 2) % 2)), .int (iI (v3 % 2))] hP hK hD hN [0, 3] rfl rfl rfl rfl rfl) rfl rfl hl.1 rfl (lv_room (Nat.le_of_ble_eq_true rfl)) d_M_countClock_101 ⟨Nat.le_refl 0, Nat.le_refl 0⟩)) (W.eq (g2 := F0 m 104 ls [.int (iI r101)]) rfl ?_)
                      obtain ⟨hg0, h⟩ := gr_e h
                      refine zi_eq hx hb d_M_countClock_104 rfl hg0 (fun hc => ?_) (fun hc => ?_)
                      · replace h := if_t hc h
                        exact hj163 M_clockWays_6 H locs ls hP hD hS (lv_sub hl [2, 3, 4, 5] rfl) h
                      · replace h := if_f hc h
                        refine lv_aload_n hx hb d_M_countClock_107 rfl (lv_at hl 2 rfl) ?_
                        refine va_get (D := D) (ci := 10) (v := .ref (a 20)) (C := R_M) (T := F_M) (N := 53) hx hb hT in_M hown hK hP 0 rfl rfl 25 (by decide) (hT _ m1046) (fun _ h9 => h9) rfl d_M_countClock_108 ?_
                        refine zv_iconst hx hb d_M_countClock_111 ?_
                        refine lv_iload_n hx hb d_M_countClock_112 rfl (lv_at hl 4 rfl) ?_
                        refine zv_imul hx hb d_M_countClock_113 ?_
                        refine lv_iload_n hx hb d_M_countClock_114 rfl (lv_at hl 5 rfl) ?_
                        refine zv_iconst hx hb d_M_countClock_115 ?_
                        obtain ⟨hg, h⟩ := gp_e h
                        refine zv_irem hx hb d_M_countClock_116 hg (by decide) ?_
                        refine zv_iadd hx hb d_M_countClock_117 ?_
                        obtain ⟨hin, h⟩ := gi_e h
                        refine zv_iald hx hb hK hP 5 0 rfl rfl (Nat.le_of_ble_eq_true rfl) hin d_M_countClock_118 ?_
                        refine lv_aload_n hx hb d_M_countClock_119 rfl (lv_at hl 2 rfl) ?_
                        refine va_get (D := D) (ci := 10) (v := .ref (a 20)) (C := R_M) (T := F_M) (N := 53) hx hb hT in_M hown hK hP 0 rfl rfl 25 (by decide) (hT _ m1046) (fun _ h9 => h9) rfl d_M_countClock_120 ?_
                        refine zv_iconst hx hb d_M_countClock_123 ?_
                        refine lv_iload hx hb d_M_countClock_124 (lv_at hl 0 rfl) ?_
                        refine zv_imul hx hb d_M_countClock_126 ?_
                        refine lv_iload_n hx hb d_M_countClock_127 rfl (lv_at hl 5 rfl) ?_
                        refine zv_iconst hx hb d_M_countClock_128 ?_
                        obtain ⟨hg, h⟩ := gp_e h
                        refine zv_idiv hx hb d_M_countClock_129 hg (by decide) ?_
                        refine zv_iconst hx hb d_M_countClock_130 ?_
                        obtain ⟨hg, h⟩ := gp_e h
                        refine zv_irem hx hb d_M_countClock_131 hg (by decide) ?_
                        refine zv_iadd hx hb d_M_countClock_132 ?_
                        obtain ⟨hin, h⟩ := gi_e h
                        refine zv_iald hx hb hK hP 5 0 rfl rfl (Nat.le_of_ble_eq_true rfl) hin d_M_countClock_133 ?_
                        refine zv_iadd hx hb d_M_countClock_134 ?_
                        refine zv_top (fun v6 hv => ?_)
                        replace h := bd_e hv h
                        refine lv_istore (lv' := [(6, .int (iI v6)), (5, .int (iI v5)), (4, .int (iI v4)), (0, .ref (a 0)), (1, .int (iI v1_4)), (2, .int (iI v2)), (3, .int (iI v3))]) hx hb d_M_countClock_135 hl (by decide) rfl (fun ls hl => ?_)
                        refine lv_aload_n hx hb d_M_countClock_137 rfl (lv_at hl 3 rfl) ?_
                        refine va_get (D := D) (ci := 10) (v := .ref (a 20)) (C := R_M) (T := F_M) (N := 53) hx hb hT in_M hown hK hP 0 rfl rfl 25 (by decide) (hT _ m1046) (fun _ h9 => h9) rfl d_M_countClock_138 ?_
                        refine zv_iconst hx hb d_M_countClock_141 ?_
                        refine lv_iload_n hx hb d_M_countClock_142 rfl (lv_at hl 5 rfl) ?_
                        refine zv_imul hx hb d_M_countClock_143 ?_
                        refine lv_iload_n hx hb d_M_countClock_144 rfl (lv_at hl 6 rfl) ?_
                        refine zv_iconst hx hb d_M_countClock_145 ?_
                        obtain ⟨hg, h⟩ := gp_e h
                        refine zv_irem hx hb d_M_countClock_146 hg (by decide) ?_
                        refine zv_iadd hx hb d_M_countClock_147 ?_
                        refine lv_iload hx hb d_M_countClock_148 (lv_at hl 0 rfl) ?_
                        refine lv_bipush (v := iI 9) hx hb d_M_countClock_150 (by decide) ?_
                        have hj162 : ∀ (q2 : Int) (H : Heap) (locs : List Loc) (ls : Array Slot), va_P D vwCl [(o_M a M_thrown M_period M_width M_nodes M_analysed M_gates M_startNode M_startChange M_startWay M_startBase M_startEarly M_startLate M_worstWith M_worstWithout M_all M_rowSize), ((a 2), .inl (cI, 48, .inl (ia M_pins))), ((a 3), .inl (cI, 144, .inl (ia M_froms))), ((a 6), .inl (cI, 144, .inl (ia M_senses))), ((a 11), .inl (cI, 48, .inl (ia M_order))), ((a 20), .inl (cI, 96, .inl (ia M_clockWays_6)))] H → va_D A [(o_M a M_thrown M_period M_width M_nodes M_analysed M_gates M_startNode M_startChange M_startWay M_startBase M_startEarly M_startLate M_worstWith M_worstWithout M_all M_rowSize), ((a 2), .inl (cI, 48, .inl (ia M_pins))), ((a 3), .inl (cI, 144, .inl (ia M_froms))), ((a 6), .inl (cI, 144, .inl (ia M_senses))), ((a 11), .inl (cI, 48, .inl (ia M_order))), ((a 20), .inl (cI, 96, .inl (ia M_clockWays_6)))] → va_S A s.heap H locs → lv_has ls 7 [(0, .ref (a 0)), (1, .int (iI v1_4)), (2, .int (iI v2)), (3, .int (iI v3))] → f_M_countClock_j162 F v2 v3 M_clockWays_6 self54 q2 = some (z_M_clockWays) → W p l e (headSpec w_M_countClock rm_M_countClock).room s m args below meth c H locs 0 0 Q (F0 m 162 ls [.int (iI q2), .int (iI ((2 * v2) + (v3 % 2))), .ref (a 20)]) := by
                          intro q2 H locs ls hP hD hS hl h
                          rw [f_M_countClock_j162] at h
                          obtain ⟨hin, h⟩ := gi_e h
                          refine zv_iast hx hb hK hP hD hS 5 0 rfl rfl (Nat.le_of_ble_eq_true rfl) hin d_M_countClock_162 (fun H locs hP hD hS => ?_)
                          obtain ⟨M_clockWays_8, hv⟩ : ∃ z, z = (ui M_clockWays_6 ((2 * v2) + (v3 % 2)) q2) := ⟨_, rfl⟩
                          replace h := bd_e hv h
                          have hP : va_P D vwCl [(o_M a M_thrown M_period M_width M_nodes M_analysed M_gates M_startNode M_startChange M_startWay M_startBase M_startEarly M_startLate M_worstWith M_worstWithout M_all M_rowSize), ((a 2), .inl (cI, 48, .inl (ia M_pins))), ((a 3), .inl (cI, 144, .inl (ia M_froms))), ((a 6), .inl (cI, 144, .inl (ia M_senses))), ((a 11), .inl (cI, 48, .inl (ia M_order))), ((a 20), .inl (cI, 96, .inl (ia M_clockWays_8)))] H := by rw [hv]; exact hP
                          have hD : va_D A [(o_M a M_thrown M_period M_width M_nodes M_analysed M_gates M_startNode M_startChange M_startWay M_startBase M_startEarly M_startLate M_worstWith M_worstWithout M_all M_rowSize), ((a 2), .inl (cI, 48, .inl (ia M_pins))), ((a 3), .inl (cI, 144, .inl (ia M_froms))), ((a 6), .inl (cI, 144, .inl (ia M_senses))), ((a 11), .inl (cI, 48, .inl (ia M_order))), ((a 20), .inl (cI, 96, .inl (ia M_clockWays_8)))] := by rw [hv]; exact hD
                          exact hj163 M_clockWays_8 H locs ls hP hD hS (lv_sub hl [0, 1, 2, 3] rfl) h
                        obtain ⟨hg0, h⟩ := gr_e h
                        refine zc_le hx hb d_M_countClock_152 rfl hg0 (by decide) (fun hc => ?_) (fun hc => ?_)
                        · replace h := if_t hc h
                          refine lv_iload hx hb d_M_countClock_160 (lv_at hl 0 rfl) ?_
                          exact hj162 v6 H locs ls hP hD hS (lv_sub hl [3, 4, 5, 6] rfl) h
                        · replace h := if_f hc h
                          refine lv_bipush (v := iI 9) hx hb d_M_countClock_155 (by decide) ?_
                          refine lv_goto hx hb d_M_countClock_157 rfl ?_
                          exact hj162 9 H locs ls hP hD hS (lv_sub hl [3, 4, 5, 6] rfl) h
              exact hl54 F 0 M_clockWays_5 H locs ls hP hD hS (lv_sub hl [2, 3, 1, 0] rfl) h
        exact hl37 F 0 M_clockWays_3 H locs ls hP hD hS (lv_sub hl [1, 0] rfl) h
      · replace h := if_f hc h
        refine lv_aload_n hx hb d_M_countClock_8 rfl (lv_at hl 0 rfl) ?_
        refine va_get (D := D) (ci := 10) (v := .ref (a 20)) (C := R_M) (T := F_M) (N := 53) hx hb hT in_M hown hK hP 0 rfl rfl 25 (by decide) (hT _ m1046) (fun _ h9 => h9) rfl d_M_countClock_9 ?_
        refine lv_iload_n hx hb d_M_countClock_12 rfl (lv_at hl 1 rfl) ?_
        refine zv_iconst hx hb d_M_countClock_13 ?_
        obtain ⟨hin, h⟩ := gi_e h
        refine zv_iast hx hb hK hP hD hS 5 0 rfl rfl (Nat.le_of_ble_eq_true rfl) hin d_M_countClock_14 (fun H locs hP hD hS => ?_)
        obtain ⟨M_clockWays_9, hv⟩ : ∃ z, z = (ui M_clockWays_1 v1 0) := ⟨_, rfl⟩
        replace h := bd_e hv h
        have hP : va_P D vwCl [(o_M a M_thrown M_period M_width M_nodes M_analysed M_gates M_startNode M_startChange M_startWay M_startBase M_startEarly M_startLate M_worstWith M_worstWithout M_all M_rowSize), ((a 2), .inl (cI, 48, .inl (ia M_pins))), ((a 3), .inl (cI, 144, .inl (ia M_froms))), ((a 6), .inl (cI, 144, .inl (ia M_senses))), ((a 11), .inl (cI, 48, .inl (ia M_order))), ((a 20), .inl (cI, 96, .inl (ia M_clockWays_9)))] H := by rw [hv]; exact hP
        have hD : va_D A [(o_M a M_thrown M_period M_width M_nodes M_analysed M_gates M_startNode M_startChange M_startWay M_startBase M_startEarly M_startLate M_worstWith M_worstWithout M_all M_rowSize), ((a 2), .inl (cI, 48, .inl (ia M_pins))), ((a 3), .inl (cI, 144, .inl (ia M_froms))), ((a 6), .inl (cI, 144, .inl (ia M_senses))), ((a 11), .inl (cI, 48, .inl (ia M_order))), ((a 20), .inl (cI, 96, .inl (ia M_clockWays_9)))] := by rw [hv]; exact hD
        refine lv_iinc (v := iI (v1 + 1)) (k := 1) (lv' := [(1, .int (iI (v1 + 1))), (0, .ref (a 0))]) hx hb d_M_countClock_15 hl rfl (iI_add _ _) (by decide) rfl (fun ls hl => ?_)
        refine lv_goto hx hb d_M_countClock_18 rfl ?_
        exact ih2 (v1 + 1) M_clockWays_9 H locs ls hP hD hS (lv_sub hl [1, 0] rfl) h
  exact hl2 F 0 M_clockWays H locs ls hP hD hS (lv_sub hl [1, 0] rfl) h
abbrev rm_M_keepWay : Room := { frames := 0, cells := 0, slots := 0, locals := 0 }
set_option maxHeartbeats 4000000 in
set_option maxRecDepth 100000 in
theorem c_M_keepWay (l : Launch) (D : va_G) (cI cJ cZ : ClassId) (F : Nat) (a : Nat → Nat) (M_thrown : Int) (M_period : Int) (M_width : Int) (M_nodes : Int) (M_analysed : Int) (M_gates : Int) (M_startNode : Int) (M_startChange : Int) (M_startWay : Int) (M_startBase : Int) (M_startEarly : Int) (M_startLate : Int) (M_worstWith : Int) (M_worstWithout : Int) (M_all : Int64) (M_rowSize : Int) (M_wireEarly : Int → Int) (M_wireLate : Int → Int) (M_delayEarly : Int → Int) (M_delayLate : Int → Int) (M_wayCount : Int → Int) (M_wayBase : Int → Int) (M_wayEarly : Int → Int) (M_wayLate : Int → Int) (M_wayLast : Int → Int) (M_waySize : Int → Int) (M_wayRows : Int → Int) (M_waySpread : Int → Int) (M_row : Int → Int) (x1 : Int) (x2 : Int) (z_M_wayCount : Int → Int) (z_M_wayBase : Int → Int) (z_M_wayEarly : Int → Int) (z_M_wayLate : Int → Int) (z_M_wayLast : Int → Int) (z_M_waySize : Int → Int) (z_M_wayRows : Int → Int) (z_M_waySpread : Int → Int) (sz : Nat) (h : f_M_keepWay F M_width M_wireEarly M_wireLate M_delayEarly M_delayLate M_wayCount M_wayBase M_wayEarly M_wayLate M_wayLast M_waySize M_wayRows M_waySpread M_row x1 x2 = some (z_M_wayCount, z_M_wayBase, z_M_wayEarly, z_M_wayLate, z_M_wayLast, z_M_waySize, z_M_wayRows, z_M_waySpread)) : Met l y_M_keepWay w_M_keepWay rm_M_keepWay (PC D [(cI, .int), (cJ, .long), (cZ, .boolean)] [.ref (a 0), .int (iI x1), .int (iI x2)] ([(o_M a M_thrown M_period M_width M_nodes M_analysed M_gates M_startNode M_startChange M_startWay M_startBase M_startEarly M_startLate M_worstWith M_worstWithout M_all M_rowSize), ((a 4), .inl (cI, 144, .inl (ia M_wireEarly))), ((a 5), .inl (cI, 144, .inl (ia M_wireLate))), ((a 7), .inl (cI, 288, .inl (ia M_delayEarly))), ((a 8), .inl (cI, 288, .inl (ia M_delayLate))), ((a 12), .inl (cI, 48, .inl (ia M_wayCount))), ((a 13), .inl (cI, 384, .inl (ia M_wayBase))), ((a 14), .inl (cI, 384, .inl (ia M_wayEarly))), ((a 15), .inl (cI, 384, .inl (ia M_wayLate))), ((a 16), .inl (cI, 384, .inl (ia M_wayLast))), ((a 17), .inl (cI, 384, .inl (ia M_waySize))), ((a 18), .inl (cI, 18816, .inl (ia M_wayRows))), ((a 19), .inl (cI, 18816, .inl (ia M_waySpread))), ((a 33), .inl (cI, 160, .inl (ia M_row)))]) sz) (QV D [(cI, .int), (cJ, .long), (cZ, .boolean)] ([(o_M a M_thrown M_period M_width M_nodes M_analysed M_gates M_startNode M_startChange M_startWay M_startBase M_startEarly M_startLate M_worstWith M_worstWithout M_all M_rowSize), ((a 4), .inl (cI, 144, .inl (ia M_wireEarly))), ((a 5), .inl (cI, 144, .inl (ia M_wireLate))), ((a 7), .inl (cI, 288, .inl (ia M_delayEarly))), ((a 8), .inl (cI, 288, .inl (ia M_delayLate))), ((a 12), .inl (cI, 48, .inl (ia M_wayCount))), ((a 13), .inl (cI, 384, .inl (ia M_wayBase))), ((a 14), .inl (cI, 384, .inl (ia M_wayEarly))), ((a 15), .inl (cI, 384, .inl (ia M_wayLate))), ((a 16), .inl (cI, 384, .inl (ia M_wayLast))), ((a 17), .inl (cI, 384, .inl (ia M_waySize))), ((a 18), .inl (cI, 18816, .inl (ia M_wayRows))), ((a 19), .inl (cI, 18816, .inl (ia M_waySpread))), ((a 33), .inl (cI, 160, .inl (ia M_row)))]) sz ([(o_M a M_thrown M_period M_width M_nodes M_analysed M_gates M_startNode M_startChange M_startWay M_startBase M_startEarly M_startLate M_worstWith M_worstWithout M_all M_rowSize), ((a 4), .inl (cI, 144, .inl (ia M_wireEarly))), ((a 5), .inl (cI, 144, .inl (ia M_wireLate))), ((a 7), .inl (cI, 288, .inl (ia M_delayEarly))), ((a 8), .inl (cI, 288, .inl (ia M_delayLate))), ((a 12), .inl (cI, 48, .inl (ia z_M_wayCount))), ((a 13), .inl (cI, 384, .inl (ia z_M_wayBase))), ((a 14), .inl (cI, 384, .inl (ia z_M_wayEarly))), ((a 15), .inl (cI, 384, .inl (ia z_M_wayLate))), ((a 16), .inl (cI, 384, .inl (ia z_M_wayLast))), ((a 17), .inl (cI, 384, .inl (ia z_M_waySize))), ((a 18), .inl (cI, 18816, .inl (ia z_M_wayRows))), ((a 19), .inl (cI, 18816, .inl (ia z_M_waySpread))), ((a 33), .inl (cI, 160, .inl (ia M_row)))])) 0 0 (va_A ([(o_M a M_thrown M_period M_width M_nodes M_analysed M_gates M_startNode M_startChange M_startWay M_startBase M_startEarly M_startLate M_worstWith M_worstWithout M_all M_rowSize), ((a 4), .inl (cI, 144, .inl (ia M_wireEarly))), ((a 5), .inl (cI, 144, .inl (ia M_wireLate))), ((a 7), .inl (cI, 288, .inl (ia M_delayEarly))), ((a 8), .inl (cI, 288, .inl (ia M_delayLate))), ((a 12), .inl (cI, 48, .inl (ia M_wayCount))), ((a 13), .inl (cI, 384, .inl (ia M_wayBase))), ((a 14), .inl (cI, 384, .inl (ia M_wayEarly))), ((a 15), .inl (cI, 384, .inl (ia M_wayLate))), ((a 16), .inl (cI, 384, .inl (ia M_wayLast))), ((a 17), .inl (cI, 384, .inl (ia M_waySize))), ((a 18), .inl (cI, 18816, .inl (ia M_wayRows))), ((a 19), .inl (cI, 18816, .inl (ia M_waySpread))), ((a 33), .inl (cI, 160, .inl (ia M_row)))]) sz) := by
  refine Met.ofW (cc := prog_12_method_23_code) (maxL := 12) (ret := (Option.none : Option Jvm.ClassFile.FieldType)) (by decide) rfl ?_
  intro p e s m args below meth c s₁ B hml hv
  obtain ⟨rfl, hsz, hP, hK, hD0, hN⟩ := hv
  have hx := B.exec
  have hb := B.bytes
  have hr := B.returns
  have hts := atoms_spec (ws := w_M_keepWay) B.pre
  have hown : s.vm.findClass R_M = some m.cls := findClass_of_methodNamed B.named
  have hlocks := B.notSynchronized
  subst hsz
  have hD := hD0.self (sz := s.heap.size)
  obtain ⟨A, hAe⟩ : ∃ A, A = va_A ([(o_M a M_thrown M_period M_width M_nodes M_analysed M_gates M_startNode M_startChange M_startWay M_startBase M_startEarly M_startLate M_worstWith M_worstWithout M_all M_rowSize), ((a 4), .inl (cI, 144, .inl (ia M_wireEarly))), ((a 5), .inl (cI, 144, .inl (ia M_wireLate))), ((a 7), .inl (cI, 288, .inl (ia M_delayEarly))), ((a 8), .inl (cI, 288, .inl (ia M_delayLate))), ((a 12), .inl (cI, 48, .inl (ia M_wayCount))), ((a 13), .inl (cI, 384, .inl (ia M_wayBase))), ((a 14), .inl (cI, 384, .inl (ia M_wayEarly))), ((a 15), .inl (cI, 384, .inl (ia M_wayLate))), ((a 16), .inl (cI, 384, .inl (ia M_wayLast))), ((a 17), .inl (cI, 384, .inl (ia M_waySize))), ((a 18), .inl (cI, 18816, .inl (ia M_wayRows))), ((a 19), .inl (cI, 18816, .inl (ia M_waySpread))), ((a 33), .inl (cI, 160, .inl (ia M_row)))]) s.heap.size := ⟨_, rfl⟩
  rw [← hAe] at hD
  have hA : ∀ q : Nat, s.heap.size ≤ q → A q := fun q h => by rw [hAe]; exact Or.inr h
  have hS : va_S A s.heap s.heap [] := va_S.rf
  have hl := lv_entry ([.ref (a 0), .int (iI x1), .int (iI x2)]) (n := 12) (Nat.le_of_ble_eq_true rfl)
  rw [lg_entry_eq]
  generalize (lg_sl ([.ref (a 0), .int (iI x1), .int (iI x2)]) ++ List.replicate (12 - (lg_sl ([.ref (a 0), .int (iI x1), .int (iI x2)])).length) Slot.unset).toArray = ls at hl ⊢
  have hl : lv_has ls 12 [(0, .ref (a 0)), (1, .int (iI x1)), (2, .int (iI x2))] := hl
  generalize (List.toArray ([.ref (a 0), .int (iI x1), .int (iI x2)] : List Value)) = args at hts ⊢
  have hT : ∀ w ∈ Tg, w.before args s = true := fun w h => hts w (List.mem_cons_of_mem _ h)
  obtain ⟨Q, hQ⟩ : ∃ Q, Q = MQ below (QV D [(cI, .int), (cJ, .long), (cZ, .boolean)] ([(o_M a M_thrown M_period M_width M_nodes M_analysed M_gates M_startNode M_startChange M_startWay M_startBase M_startEarly M_startLate M_worstWith M_worstWithout M_all M_rowSize), ((a 4), .inl (cI, 144, .inl (ia M_wireEarly))), ((a 5), .inl (cI, 144, .inl (ia M_wireLate))), ((a 7), .inl (cI, 288, .inl (ia M_delayEarly))), ((a 8), .inl (cI, 288, .inl (ia M_delayLate))), ((a 12), .inl (cI, 48, .inl (ia M_wayCount))), ((a 13), .inl (cI, 384, .inl (ia M_wayBase))), ((a 14), .inl (cI, 384, .inl (ia M_wayEarly))), ((a 15), .inl (cI, 384, .inl (ia M_wayLate))), ((a 16), .inl (cI, 384, .inl (ia M_wayLast))), ((a 17), .inl (cI, 384, .inl (ia M_waySize))), ((a 18), .inl (cI, 18816, .inl (ia M_wayRows))), ((a 19), .inl (cI, 18816, .inl (ia M_waySpread))), ((a 33), .inl (cI, 160, .inl (ia M_row)))]) s.heap.size ([(o_M a M_thrown M_period M_width M_nodes M_analysed M_gates M_startNode M_startChange M_startWay M_startBase M_startEarly M_startLate M_worstWith M_worstWithout M_all M_rowSize), ((a 4), .inl (cI, 144, .inl (ia M_wireEarly))), ((a 5), .inl (cI, 144, .inl (ia M_wireLate))), ((a 7), .inl (cI, 288, .inl (ia M_delayEarly))), ((a 8), .inl (cI, 288, .inl (ia M_delayLate))), ((a 12), .inl (cI, 48, .inl (ia z_M_wayCount))), ((a 13), .inl (cI, 384, .inl (ia z_M_wayBase))), ((a 14), .inl (cI, 384, .inl (ia z_M_wayEarly))), ((a 15), .inl (cI, 384, .inl (ia z_M_wayLate))), ((a 16), .inl (cI, 384, .inl (ia z_M_wayLast))), ((a 17), .inl (cI, 384, .inl (ia z_M_waySize))), ((a 18), .inl (cI, 18816, .inl (ia z_M_wayRows))), ((a 19), .inl (cI, 18816, .inl (ia z_M_waySpread))), ((a 33), .inl (cI, 160, .inl (ia M_row)))])) args s 0 0 (va_A ([(o_M a M_thrown M_period M_width M_nodes M_analysed M_gates M_startNode M_startChange M_startWay M_startBase M_startEarly M_startLate M_worstWith M_worstWithout M_all M_rowSize), ((a 4), .inl (cI, 144, .inl (ia M_wireEarly))), ((a 5), .inl (cI, 144, .inl (ia M_wireLate))), ((a 7), .inl (cI, 288, .inl (ia M_delayEarly))), ((a 8), .inl (cI, 288, .inl (ia M_delayLate))), ((a 12), .inl (cI, 48, .inl (ia M_wayCount))), ((a 13), .inl (cI, 384, .inl (ia M_wayBase))), ((a 14), .inl (cI, 384, .inl (ia M_wayEarly))), ((a 15), .inl (cI, 384, .inl (ia M_wayLate))), ((a 16), .inl (cI, 384, .inl (ia M_wayLast))), ((a 17), .inl (cI, 384, .inl (ia M_waySize))), ((a 18), .inl (cI, 18816, .inl (ia M_wayRows))), ((a 19), .inl (cI, 18816, .inl (ia M_waySpread))), ((a 33), .inl (cI, 160, .inl (ia M_row)))]) s.heap.size) := ⟨_, rfl⟩
  rw [← hQ]
  suffices hW : ∀ (H : Heap) (locs : List Loc), va_P D vwCl ([(o_M a M_thrown M_period M_width M_nodes M_analysed M_gates M_startNode M_startChange M_startWay M_startBase M_startEarly M_startLate M_worstWith M_worstWithout M_all M_rowSize), ((a 4), .inl (cI, 144, .inl (ia M_wireEarly))), ((a 5), .inl (cI, 144, .inl (ia M_wireLate))), ((a 7), .inl (cI, 288, .inl (ia M_delayEarly))), ((a 8), .inl (cI, 288, .inl (ia M_delayLate))), ((a 12), .inl (cI, 48, .inl (ia M_wayCount))), ((a 13), .inl (cI, 384, .inl (ia M_wayBase))), ((a 14), .inl (cI, 384, .inl (ia M_wayEarly))), ((a 15), .inl (cI, 384, .inl (ia M_wayLate))), ((a 16), .inl (cI, 384, .inl (ia M_wayLast))), ((a 17), .inl (cI, 384, .inl (ia M_waySize))), ((a 18), .inl (cI, 18816, .inl (ia M_wayRows))), ((a 19), .inl (cI, 18816, .inl (ia M_waySpread))), ((a 33), .inl (cI, 160, .inl (ia M_row)))]) H → va_D A ([(o_M a M_thrown M_period M_width M_nodes M_analysed M_gates M_startNode M_startChange M_startWay M_startBase M_startEarly M_startLate M_worstWith M_worstWithout M_all M_rowSize), ((a 4), .inl (cI, 144, .inl (ia M_wireEarly))), ((a 5), .inl (cI, 144, .inl (ia M_wireLate))), ((a 7), .inl (cI, 288, .inl (ia M_delayEarly))), ((a 8), .inl (cI, 288, .inl (ia M_delayLate))), ((a 12), .inl (cI, 48, .inl (ia M_wayCount))), ((a 13), .inl (cI, 384, .inl (ia M_wayBase))), ((a 14), .inl (cI, 384, .inl (ia M_wayEarly))), ((a 15), .inl (cI, 384, .inl (ia M_wayLate))), ((a 16), .inl (cI, 384, .inl (ia M_wayLast))), ((a 17), .inl (cI, 384, .inl (ia M_waySize))), ((a 18), .inl (cI, 18816, .inl (ia M_wayRows))), ((a 19), .inl (cI, 18816, .inl (ia M_waySpread))), ((a 33), .inl (cI, 160, .inl (ia M_row)))]) → va_S A s.heap H locs → W p l e (headSpec w_M_keepWay rm_M_keepWay).room s m args below meth c H locs 0 0 Q (F0 m 0 ls []) from hW s.heap [] hP hD hS
  clear hP hD hS
  intro H locs hP hD hS
  rw [f_M_keepWay] at h
  refine lv_bipush (v := iI 8) hx hb d_M_keepWay_0 (by decide) ?_
  refine lv_iload_n hx hb d_M_keepWay_2 rfl (lv_at hl 1 rfl) ?_
  refine zv_imul hx hb d_M_keepWay_3 ?_
  refine lv_aload_n hx hb d_M_keepWay_4 rfl (lv_at hl 0 rfl) ?_
  refine va_get (D := D) (ci := 10) (v := .ref (a 12)) (C := R_M) (T := F_M) (N := 53) hx hb hT in_M hown hK hP 0 rfl rfl 17 (by decide) (hT _ m1038) (fun _ h9 => h9) rfl d_M_keepWay_5 ?_
  refine lv_iload_n hx hb d_M_keepWay_8 rfl (lv_at hl 1 rfl) ?_
  obtain ⟨hin, h⟩ := gi_e h
  refine zv_iald hx hb hK hP 5 0 rfl rfl (Nat.le_of_ble_eq_true rfl) hin d_M_keepWay_9 ?_
  refine zv_iadd hx hb d_M_keepWay_10 ?_
  refine zv_top (fun v3 hv => ?_)
  replace h := bd_e hv h
  refine lv_istore_n (lv' := [(3, .int (iI v3)), (0, .ref (a 0)), (1, .int (iI x1)), (2, .int (iI x2))]) hx hb d_M_keepWay_11 rfl hl (by decide) rfl (fun ls hl => ?_)
  refine lv_aload_n hx hb d_M_keepWay_12 rfl (lv_at hl 1 rfl) ?_
  refine va_get (D := D) (ci := 10) (v := .ref (a 12)) (C := R_M) (T := F_M) (N := 53) hx hb hT in_M hown hK hP 0 rfl rfl 17 (by decide) (hT _ m1038) (fun _ h9 => h9) rfl d_M_keepWay_13 ?_
  refine lv_iload_n hx hb d_M_keepWay_16 rfl (lv_at hl 2 rfl) ?_
  refine lv_dup2_11 hx hb d_M_keepWay_17 rfl rfl ?_
  obtain ⟨hin, h⟩ := gi_e h
  refine zv_iald hx hb hK hP 5 0 rfl rfl (Nat.le_of_ble_eq_true rfl) hin d_M_keepWay_18 ?_
  refine zv_iconst hx hb d_M_keepWay_19 ?_
  refine zv_iadd hx hb d_M_keepWay_20 ?_
  obtain ⟨hin, h⟩ := gi_e h
  refine zv_iast hx hb hK hP hD hS 5 0 rfl rfl (Nat.le_of_ble_eq_true rfl) hin d_M_keepWay_21 (fun H locs hP hD hS => ?_)
  obtain ⟨M_wayCount_1, hv⟩ : ∃ z, z = (ui M_wayCount x1 ((M_wayCount x1) + 1)) := ⟨_, rfl⟩
  replace h := bd_e hv h
  have hP : va_P D vwCl [(o_M a M_thrown M_period M_width M_nodes M_analysed M_gates M_startNode M_startChange M_startWay M_startBase M_startEarly M_startLate M_worstWith M_worstWithout M_all M_rowSize), ((a 4), .inl (cI, 144, .inl (ia M_wireEarly))), ((a 5), .inl (cI, 144, .inl (ia M_wireLate))), ((a 7), .inl (cI, 288, .inl (ia M_delayEarly))), ((a 8), .inl (cI, 288, .inl (ia M_delayLate))), ((a 12), .inl (cI, 48, .inl (ia M_wayCount_1))), ((a 13), .inl (cI, 384, .inl (ia M_wayBase))), ((a 14), .inl (cI, 384, .inl (ia M_wayEarly))), ((a 15), .inl (cI, 384, .inl (ia M_wayLate))), ((a 16), .inl (cI, 384, .inl (ia M_wayLast))), ((a 17), .inl (cI, 384, .inl (ia M_waySize))), ((a 18), .inl (cI, 18816, .inl (ia M_wayRows))), ((a 19), .inl (cI, 18816, .inl (ia M_waySpread))), ((a 33), .inl (cI, 160, .inl (ia M_row)))] H := by rw [hv]; exact hP
  have hD : va_D A [(o_M a M_thrown M_period M_width M_nodes M_analysed M_gates M_startNode M_startChange M_startWay M_startBase M_startEarly M_startLate M_worstWith M_worstWithout M_all M_rowSize), ((a 4), .inl (cI, 144, .inl (ia M_wireEarly))), ((a 5), .inl (cI, 144, .inl (ia M_wireLate))), ((a 7), .inl (cI, 288, .inl (ia M_delayEarly))), ((a 8), .inl (cI, 288, .inl (ia M_delayLate))), ((a 12), .inl (cI, 48, .inl (ia M_wayCount_1))), ((a 13), .inl (cI, 384, .inl (ia M_wayBase))), ((a 14), .inl (cI, 384, .inl (ia M_wayEarly))), ((a 15), .inl (cI, 384, .inl (ia M_wayLate))), ((a 16), .inl (cI, 384, .inl (ia M_wayLast))), ((a 17), .inl (cI, 384, .inl (ia M_waySize))), ((a 18), .inl (cI, 18816, .inl (ia M_wayRows))), ((a 19), .inl (cI, 18816, .inl (ia M_waySpread))), ((a 33), .inl (cI, 160, .inl (ia M_row)))] := by rw [hv]; exact hD
  refine lv_aload_n hx hb d_M_keepWay_22 rfl (lv_at hl 1 rfl) ?_
  refine va_get (D := D) (ci := 10) (v := .ref (a 4)) (C := R_M) (T := F_M) (N := 53) hx hb hT in_M hown hK hP 0 rfl rfl 7 (by decide) (hT _ m1028) (fun _ h9 => h9) rfl d_M_keepWay_23 ?_
  refine zv_iconst hx hb d_M_keepWay_26 ?_
  refine lv_iload_n hx hb d_M_keepWay_27 rfl (lv_at hl 2 rfl) ?_
  refine zv_imul hx hb d_M_keepWay_28 ?_
  refine zv_iconst hx hb d_M_keepWay_29 ?_
  refine zv_iadd hx hb d_M_keepWay_30 ?_
  obtain ⟨hin, h⟩ := gi_e h
  refine zv_iald hx hb hK hP 1 0 rfl rfl (Nat.le_of_ble_eq_true rfl) hin d_M_keepWay_31 ?_
  refine zv_top (fun v4 hv => ?_)
  replace h := bd_e hv h
  refine lv_istore (lv' := [(4, .int (iI v4)), (3, .int (iI v3)), (0, .ref (a 0)), (1, .int (iI x1)), (2, .int (iI x2))]) hx hb d_M_keepWay_32 hl (by decide) rfl (fun ls hl => ?_)
  refine lv_aload_n hx hb d_M_keepWay_34 rfl (lv_at hl 2 rfl) ?_
  refine va_get (D := D) (ci := 10) (v := .ref (a 5)) (C := R_M) (T := F_M) (N := 53) hx hb hT in_M hown hK hP 0 rfl rfl 8 (by decide) (hT _ m1029) (fun _ h9 => h9) rfl d_M_keepWay_35 ?_
  refine zv_iconst hx hb d_M_keepWay_38 ?_
  refine lv_iload_n hx hb d_M_keepWay_39 rfl (lv_at hl 3 rfl) ?_
  refine zv_imul hx hb d_M_keepWay_40 ?_
  refine zv_iconst hx hb d_M_keepWay_41 ?_
  refine zv_iadd hx hb d_M_keepWay_42 ?_
  obtain ⟨hin, h⟩ := gi_e h
  refine zv_iald hx hb hK hP 2 0 rfl rfl (Nat.le_of_ble_eq_true rfl) hin d_M_keepWay_43 ?_
  refine zv_top (fun v5 hv => ?_)
  replace h := bd_e hv h
  refine lv_istore (lv' := [(5, .int (iI v5)), (4, .int (iI v4)), (3, .int (iI v3)), (0, .ref (a 0)), (1, .int (iI x1)), (2, .int (iI x2))]) hx hb d_M_keepWay_44 hl (by decide) rfl (fun ls hl => ?_)
  refine lv_aload_n hx hb d_M_keepWay_46 rfl (lv_at hl 3 rfl) ?_
  refine va_get (D := D) (ci := 10) (v := .ref (a 16)) (C := R_M) (T := F_M) (N := 53) hx hb hT in_M hown hK hP 0 rfl rfl 21 (by decide) (hT _ m1042) (fun _ h9 => h9) rfl d_M_keepWay_47 ?_
  refine lv_iload_n hx hb d_M_keepWay_50 rfl (lv_at hl 2 rfl) ?_
  refine lv_iload hx hb d_M_keepWay_51 (lv_at hl 0 rfl) ?_
  refine lv_iload hx hb d_M_keepWay_53 (lv_at hl 1 rfl) ?_
  refine zv_isub hx hb d_M_keepWay_55 ?_
  obtain ⟨hin, h⟩ := gi_e h
  refine zv_iast hx hb hK hP hD hS 9 0 rfl rfl (Nat.le_of_ble_eq_true rfl) hin d_M_keepWay_56 (fun H locs hP hD hS => ?_)
  obtain ⟨M_wayLast_2, hv⟩ : ∃ z, z = (ui M_wayLast v3 (v5 - v4)) := ⟨_, rfl⟩
  replace h := bd_e hv h
  have hP : va_P D vwCl [(o_M a M_thrown M_period M_width M_nodes M_analysed M_gates M_startNode M_startChange M_startWay M_startBase M_startEarly M_startLate M_worstWith M_worstWithout M_all M_rowSize), ((a 4), .inl (cI, 144, .inl (ia M_wireEarly))), ((a 5), .inl (cI, 144, .inl (ia M_wireLate))), ((a 7), .inl (cI, 288, .inl (ia M_delayEarly))), ((a 8), .inl (cI, 288, .inl (ia M_delayLate))), ((a 12), .inl (cI, 48, .inl (ia M_wayCount_1))), ((a 13), .inl (cI, 384, .inl (ia M_wayBase))), ((a 14), .inl (cI, 384, .inl (ia M_wayEarly))), ((a 15), .inl (cI, 384, .inl (ia M_wayLate))), ((a 16), .inl (cI, 384, .inl (ia M_wayLast_2))), ((a 17), .inl (cI, 384, .inl (ia M_waySize))), ((a 18), .inl (cI, 18816, .inl (ia M_wayRows))), ((a 19), .inl (cI, 18816, .inl (ia M_waySpread))), ((a 33), .inl (cI, 160, .inl (ia M_row)))] H := by rw [hv]; exact hP
  have hD : va_D A [(o_M a M_thrown M_period M_width M_nodes M_analysed M_gates M_startNode M_startChange M_startWay M_startBase M_startEarly M_startLate M_worstWith M_worstWithout M_all M_rowSize), ((a 4), .inl (cI, 144, .inl (ia M_wireEarly))), ((a 5), .inl (cI, 144, .inl (ia M_wireLate))), ((a 7), .inl (cI, 288, .inl (ia M_delayEarly))), ((a 8), .inl (cI, 288, .inl (ia M_delayLate))), ((a 12), .inl (cI, 48, .inl (ia M_wayCount_1))), ((a 13), .inl (cI, 384, .inl (ia M_wayBase))), ((a 14), .inl (cI, 384, .inl (ia M_wayEarly))), ((a 15), .inl (cI, 384, .inl (ia M_wayLate))), ((a 16), .inl (cI, 384, .inl (ia M_wayLast_2))), ((a 17), .inl (cI, 384, .inl (ia M_waySize))), ((a 18), .inl (cI, 18816, .inl (ia M_wayRows))), ((a 19), .inl (cI, 18816, .inl (ia M_waySpread))), ((a 33), .inl (cI, 160, .inl (ia M_row)))] := by rw [hv]; exact hD
  refine lv_aload_n hx hb d_M_keepWay_57 rfl (lv_at hl 3 rfl) ?_
  refine va_get (D := D) (ci := 10) (v := .ref (a 17)) (C := R_M) (T := F_M) (N := 53) hx hb hT in_M hown hK hP 0 rfl rfl 22 (by decide) (hT _ m1043) (fun _ h9 => h9) rfl d_M_keepWay_58 ?_
  refine lv_iload_n hx hb d_M_keepWay_61 rfl (lv_at hl 2 rfl) ?_
  refine lv_iload_n hx hb d_M_keepWay_62 rfl (lv_at hl 5 rfl) ?_
  refine zv_iconst hx hb d_M_keepWay_63 ?_
  refine zv_iadd hx hb d_M_keepWay_64 ?_
  obtain ⟨hin, h⟩ := gi_e h
  refine zv_iast hx hb hK hP hD hS 10 0 rfl rfl (Nat.le_of_ble_eq_true rfl) hin d_M_keepWay_65 (fun H locs hP hD hS => ?_)
  obtain ⟨M_waySize_3, hv⟩ : ∃ z, z = (ui M_waySize v3 (x2 + 1)) := ⟨_, rfl⟩
  replace h := bd_e hv h
  have hP : va_P D vwCl [(o_M a M_thrown M_period M_width M_nodes M_analysed M_gates M_startNode M_startChange M_startWay M_startBase M_startEarly M_startLate M_worstWith M_worstWithout M_all M_rowSize), ((a 4), .inl (cI, 144, .inl (ia M_wireEarly))), ((a 5), .inl (cI, 144, .inl (ia M_wireLate))), ((a 7), .inl (cI, 288, .inl (ia M_delayEarly))), ((a 8), .inl (cI, 288, .inl (ia M_delayLate))), ((a 12), .inl (cI, 48, .inl (ia M_wayCount_1))), ((a 13), .inl (cI, 384, .inl (ia M_wayBase))), ((a 14), .inl (cI, 384, .inl (ia M_wayEarly))), ((a 15), .inl (cI, 384, .inl (ia M_wayLate))), ((a 16), .inl (cI, 384, .inl (ia M_wayLast_2))), ((a 17), .inl (cI, 384, .inl (ia M_waySize_3))), ((a 18), .inl (cI, 18816, .inl (ia M_wayRows))), ((a 19), .inl (cI, 18816, .inl (ia M_waySpread))), ((a 33), .inl (cI, 160, .inl (ia M_row)))] H := by rw [hv]; exact hP
  have hD : va_D A [(o_M a M_thrown M_period M_width M_nodes M_analysed M_gates M_startNode M_startChange M_startWay M_startBase M_startEarly M_startLate M_worstWith M_worstWithout M_all M_rowSize), ((a 4), .inl (cI, 144, .inl (ia M_wireEarly))), ((a 5), .inl (cI, 144, .inl (ia M_wireLate))), ((a 7), .inl (cI, 288, .inl (ia M_delayEarly))), ((a 8), .inl (cI, 288, .inl (ia M_delayLate))), ((a 12), .inl (cI, 48, .inl (ia M_wayCount_1))), ((a 13), .inl (cI, 384, .inl (ia M_wayBase))), ((a 14), .inl (cI, 384, .inl (ia M_wayEarly))), ((a 15), .inl (cI, 384, .inl (ia M_wayLate))), ((a 16), .inl (cI, 384, .inl (ia M_wayLast_2))), ((a 17), .inl (cI, 384, .inl (ia M_waySize_3))), ((a 18), .inl (cI, 18816, .inl (ia M_wayRows))), ((a 19), .inl (cI, 18816, .inl (ia M_waySpread))), ((a 33), .inl (cI, 160, .inl (ia M_row)))] := by rw [hv]; exact hD
  refine zv_iconst hx hb d_M_keepWay_66 ?_
  refine lv_istore (lv' := [(6, .int (iI 0)), (5, .int (iI v5)), (4, .int (iI v4)), (3, .int (iI v3)), (0, .ref (a 0)), (1, .int (iI x1)), (2, .int (iI x2))]) hx hb d_M_keepWay_67 hl (by decide) rfl (fun ls hl => ?_)
  have hl69 : ∀ (nf : Nat) (v4_4 : Int) (v5_5 : Int) (v6 : Int) (M_wayRows_6 : Int → Int) (M_waySpread_7 : Int → Int) (H : Heap) (locs : List Loc) (ls : Array Slot), va_P D vwCl [(o_M a M_thrown M_period M_width M_nodes M_analysed M_gates M_startNode M_startChange M_startWay M_startBase M_startEarly M_startLate M_worstWith M_worstWithout M_all M_rowSize), ((a 4), .inl (cI, 144, .inl (ia M_wireEarly))), ((a 5), .inl (cI, 144, .inl (ia M_wireLate))), ((a 7), .inl (cI, 288, .inl (ia M_delayEarly))), ((a 8), .inl (cI, 288, .inl (ia M_delayLate))), ((a 12), .inl (cI, 48, .inl (ia M_wayCount_1))), ((a 13), .inl (cI, 384, .inl (ia M_wayBase))), ((a 14), .inl (cI, 384, .inl (ia M_wayEarly))), ((a 15), .inl (cI, 384, .inl (ia M_wayLate))), ((a 16), .inl (cI, 384, .inl (ia M_wayLast_2))), ((a 17), .inl (cI, 384, .inl (ia M_waySize_3))), ((a 18), .inl (cI, 18816, .inl (ia M_wayRows_6))), ((a 19), .inl (cI, 18816, .inl (ia M_waySpread_7))), ((a 33), .inl (cI, 160, .inl (ia M_row)))] H → va_D A [(o_M a M_thrown M_period M_width M_nodes M_analysed M_gates M_startNode M_startChange M_startWay M_startBase M_startEarly M_startLate M_worstWith M_worstWithout M_all M_rowSize), ((a 4), .inl (cI, 144, .inl (ia M_wireEarly))), ((a 5), .inl (cI, 144, .inl (ia M_wireLate))), ((a 7), .inl (cI, 288, .inl (ia M_delayEarly))), ((a 8), .inl (cI, 288, .inl (ia M_delayLate))), ((a 12), .inl (cI, 48, .inl (ia M_wayCount_1))), ((a 13), .inl (cI, 384, .inl (ia M_wayBase))), ((a 14), .inl (cI, 384, .inl (ia M_wayEarly))), ((a 15), .inl (cI, 384, .inl (ia M_wayLate))), ((a 16), .inl (cI, 384, .inl (ia M_wayLast_2))), ((a 17), .inl (cI, 384, .inl (ia M_waySize_3))), ((a 18), .inl (cI, 18816, .inl (ia M_wayRows_6))), ((a 19), .inl (cI, 18816, .inl (ia M_waySpread_7))), ((a 33), .inl (cI, 160, .inl (ia M_row)))] → va_S A s.heap H locs → lv_has ls 12 [(0, .ref (a 0)), (2, .int (iI x2)), (3, .int (iI v3)), (4, .int (iI v4_4)), (5, .int (iI v5_5)), (6, .int (iI v6))] → lq5 (f_M_keepWay_b69 F M_width M_wireEarly M_wireLate M_delayEarly M_delayLate M_wayBase M_wayEarly M_wayLate M_row x2 v3 M_wayCount_1 M_wayLast_2 M_waySize_3) nf v4_4 v5_5 v6 M_wayRows_6 M_waySpread_7 = some (z_M_wayCount, z_M_wayBase, z_M_wayEarly, z_M_wayLate, z_M_wayLast, z_M_waySize, z_M_wayRows, z_M_waySpread) → W p l e (headSpec w_M_keepWay rm_M_keepWay).room s m args below meth c H locs 0 0 Q (F0 m 69 ls []) := by
    intro n69
    induction n69 with
    | zero => intro v4_4 v5_5 v6 M_wayRows_6 M_waySpread_7 H locs ls hP hD hS hl h; exact no_some h
    | succ n69 ih69 =>
      intro v4_4 v5_5 v6 M_wayRows_6 M_waySpread_7 H locs ls hP hD hS hl h
      replace h : f_M_keepWay_b69 F M_width M_wireEarly M_wireLate M_delayEarly M_delayLate M_wayBase M_wayEarly M_wayLate M_row x2 v3 M_wayCount_1 M_wayLast_2 M_waySize_3 (lq5 (f_M_keepWay_b69 F M_width M_wireEarly M_wireLate M_delayEarly M_delayLate M_wayBase M_wayEarly M_wayLate M_row x2 v3 M_wayCount_1 M_wayLast_2 M_waySize_3) n69) v4_4 v5_5 v6 M_wayRows_6 M_waySpread_7 = some (z_M_wayCount, z_M_wayBase, z_M_wayEarly, z_M_wayLate, z_M_wayLast, z_M_waySize, z_M_wayRows, z_M_waySpread) := h
      obtain ⟨self69, hs69⟩ : ∃ z, z = lq5 (f_M_keepWay_b69 F M_width M_wireEarly M_wireLate M_delayEarly M_delayLate M_wayBase M_wayEarly M_wayLate M_row x2 v3 M_wayCount_1 M_wayLast_2 M_waySize_3) n69 := ⟨_, rfl⟩
      rw [← hs69] at h ih69
      rw [f_M_keepWay_b69] at h
      refine lv_iload hx hb d_M_keepWay_69 (lv_at hl 5 rfl) ?_
      refine lv_iload_n hx hb d_M_keepWay_71 rfl (lv_at hl 1 rfl) ?_
      obtain ⟨hg0, h⟩ := gr_e h
      obtain ⟨hg1, h⟩ := gr_e h
      refine zc_gt hx hb d_M_keepWay_72 rfl hg0 hg1 (fun hc => ?_) (fun hc => ?_)
      · replace h := if_t hc h
        refine lv_aload_n hx hb d_M_keepWay_250 rfl (lv_at hl 0 rfl) ?_
        refine va_get (D := D) (ci := 10) (v := .ref (a 14)) (C := R_M) (T := F_M) (N := 53) hx hb hT in_M hown hK hP 0 rfl rfl 19 (by decide) (hT _ m1040) (fun _ h9 => h9) rfl d_M_keepWay_251 ?_
        refine lv_iload_n hx hb d_M_keepWay_254 rfl (lv_at hl 2 rfl) ?_
        refine lv_iload hx hb d_M_keepWay_255 (lv_at hl 3 rfl) ?_
        obtain ⟨hin, h⟩ := gi_e h
        refine zv_iast hx hb hK hP hD hS 7 0 rfl rfl (Nat.le_of_ble_eq_true rfl) hin d_M_keepWay_257 (fun H locs hP hD hS => ?_)
        obtain ⟨M_wayEarly_8, hv⟩ : ∃ z, z = (ui M_wayEarly v3 v4_4) := ⟨_, rfl⟩
        replace h := bd_e hv h
        have hP : va_P D vwCl [(o_M a M_thrown M_period M_width M_nodes M_analysed M_gates M_startNode M_startChange M_startWay M_startBase M_startEarly M_startLate M_worstWith M_worstWithout M_all M_rowSize), ((a 4), .inl (cI, 144, .inl (ia M_wireEarly))), ((a 5), .inl (cI, 144, .inl (ia M_wireLate))), ((a 7), .inl (cI, 288, .inl (ia M_delayEarly))), ((a 8), .inl (cI, 288, .inl (ia M_delayLate))), ((a 12), .inl (cI, 48, .inl (ia M_wayCount_1))), ((a 13), .inl (cI, 384, .inl (ia M_wayBase))), ((a 14), .inl (cI, 384, .inl (ia M_wayEarly_8))), ((a 15), .inl (cI, 384, .inl (ia M_wayLate))), ((a 16), .inl (cI, 384, .inl (ia M_wayLast_2))), ((a 17), .inl (cI, 384, .inl (ia M_waySize_3))), ((a 18), .inl (cI, 18816, .inl (ia M_wayRows_6))), ((a 19), .inl (cI, 18816, .inl (ia M_waySpread_7))), ((a 33), .inl (cI, 160, .inl (ia M_row)))] H := by rw [hv]; exact hP
        have hD : va_D A [(o_M a M_thrown M_period M_width M_nodes M_analysed M_gates M_startNode M_startChange M_startWay M_startBase M_startEarly M_startLate M_worstWith M_worstWithout M_all M_rowSize), ((a 4), .inl (cI, 144, .inl (ia M_wireEarly))), ((a 5), .inl (cI, 144, .inl (ia M_wireLate))), ((a 7), .inl (cI, 288, .inl (ia M_delayEarly))), ((a 8), .inl (cI, 288, .inl (ia M_delayLate))), ((a 12), .inl (cI, 48, .inl (ia M_wayCount_1))), ((a 13), .inl (cI, 384, .inl (ia M_wayBase))), ((a 14), .inl (cI, 384, .inl (ia M_wayEarly_8))), ((a 15), .inl (cI, 384, .inl (ia M_wayLate))), ((a 16), .inl (cI, 384, .inl (ia M_wayLast_2))), ((a 17), .inl (cI, 384, .inl (ia M_waySize_3))), ((a 18), .inl (cI, 18816, .inl (ia M_wayRows_6))), ((a 19), .inl (cI, 18816, .inl (ia M_waySpread_7))), ((a 33), .inl (cI, 160, .inl (ia M_row)))] := by rw [hv]; exact hD
        refine lv_aload_n hx hb d_M_keepWay_258 rfl (lv_at hl 0 rfl) ?_
        refine va_get (D := D) (ci := 10) (v := .ref (a 15)) (C := R_M) (T := F_M) (N := 53) hx hb hT in_M hown hK hP 0 rfl rfl 20 (by decide) (hT _ m1041) (fun _ h9 => h9) rfl d_M_keepWay_259 ?_
        refine lv_iload_n hx hb d_M_keepWay_262 rfl (lv_at hl 2 rfl) ?_
        refine lv_iload hx hb d_M_keepWay_263 (lv_at hl 4 rfl) ?_
        obtain ⟨hin, h⟩ := gi_e h
        refine zv_iast hx hb hK hP hD hS 8 0 rfl rfl (Nat.le_of_ble_eq_true rfl) hin d_M_keepWay_265 (fun H locs hP hD hS => ?_)
        obtain ⟨M_wayLate_9, hv⟩ : ∃ z, z = (ui M_wayLate v3 v5_5) := ⟨_, rfl⟩
        replace h := bd_e hv h
        have hP : va_P D vwCl [(o_M a M_thrown M_period M_width M_nodes M_analysed M_gates M_startNode M_startChange M_startWay M_startBase M_startEarly M_startLate M_worstWith M_worstWithout M_all M_rowSize), ((a 4), .inl (cI, 144, .inl (ia M_wireEarly))), ((a 5), .inl (cI, 144, .inl (ia M_wireLate))), ((a 7), .inl (cI, 288, .inl (ia M_delayEarly))), ((a 8), .inl (cI, 288, .inl (ia M_delayLate))), ((a 12), .inl (cI, 48, .inl (ia M_wayCount_1))), ((a 13), .inl (cI, 384, .inl (ia M_wayBase))), ((a 14), .inl (cI, 384, .inl (ia M_wayEarly_8))), ((a 15), .inl (cI, 384, .inl (ia M_wayLate_9))), ((a 16), .inl (cI, 384, .inl (ia M_wayLast_2))), ((a 17), .inl (cI, 384, .inl (ia M_waySize_3))), ((a 18), .inl (cI, 18816, .inl (ia M_wayRows_6))), ((a 19), .inl (cI, 18816, .inl (ia M_waySpread_7))), ((a 33), .inl (cI, 160, .inl (ia M_row)))] H := by rw [hv]; exact hP
        have hD : va_D A [(o_M a M_thrown M_period M_width M_nodes M_analysed M_gates M_startNode M_startChange M_startWay M_startBase M_startEarly M_startLate M_worstWith M_worstWithout M_all M_rowSize), ((a 4), .inl (cI, 144, .inl (ia M_wireEarly))), ((a 5), .inl (cI, 144, .inl (ia M_wireLate))), ((a 7), .inl (cI, 288, .inl (ia M_delayEarly))), ((a 8), .inl (cI, 288, .inl (ia M_delayLate))), ((a 12), .inl (cI, 48, .inl (ia M_wayCount_1))), ((a 13), .inl (cI, 384, .inl (ia M_wayBase))), ((a 14), .inl (cI, 384, .inl (ia M_wayEarly_8))), ((a 15), .inl (cI, 384, .inl (ia M_wayLate_9))), ((a 16), .inl (cI, 384, .inl (ia M_wayLast_2))), ((a 17), .inl (cI, 384, .inl (ia M_waySize_3))), ((a 18), .inl (cI, 18816, .inl (ia M_wayRows_6))), ((a 19), .inl (cI, 18816, .inl (ia M_waySpread_7))), ((a 33), .inl (cI, 160, .inl (ia M_row)))] := by rw [hv]; exact hD
        refine lv_aload_n hx hb d_M_keepWay_266 rfl (lv_at hl 0 rfl) ?_
        refine va_get (D := D) (ci := 10) (v := .ref (a 13)) (C := R_M) (T := F_M) (N := 53) hx hb hT in_M hown hK hP 0 rfl rfl 18 (by decide) (hT _ m1039) (fun _ h9 => h9) rfl d_M_keepWay_267 ?_
        refine lv_iload_n hx hb d_M_keepWay_270 rfl (lv_at hl 2 rfl) ?_
        refine lv_aload_n hx hb d_M_keepWay_271 rfl (lv_at hl 0 rfl) ?_
        refine va_get (D := D) (ci := 10) (v := .ref (a 33)) (C := R_M) (T := F_M) (N := 53) hx hb hT in_M hown hK hP 0 rfl rfl 47 (by decide) (hT _ m1068) (fun _ h9 => h9) rfl d_M_keepWay_272 ?_
        refine lv_iload_n hx hb d_M_keepWay_275 rfl (lv_at hl 1 rfl) ?_
        obtain ⟨hin, h⟩ := gi_e h
        refine zv_iald hx hb hK hP 13 0 rfl rfl (Nat.le_of_ble_eq_true rfl) hin d_M_keepWay_276 ?_
        refine zv_iconst hx hb d_M_keepWay_277 ?_
        obtain ⟨hg, h⟩ := gp_e h
        refine zv_irem hx hb d_M_keepWay_278 hg (by decide) ?_
        have hj290 : ∀ (q2 : Int) (H : Heap) (locs : List Loc) (ls : Array Slot), va_P D vwCl [(o_M a M_thrown M_period M_width M_nodes M_analysed M_gates M_startNode M_startChange M_startWay M_startBase M_startEarly M_startLate M_worstWith M_worstWithout M_all M_rowSize), ((a 4), .inl (cI, 144, .inl (ia M_wireEarly))), ((a 5), .inl (cI, 144, .inl (ia M_wireLate))), ((a 7), .inl (cI, 288, .inl (ia M_delayEarly))), ((a 8), .inl (cI, 288, .inl (ia M_delayLate))), ((a 12), .inl (cI, 48, .inl (ia M_wayCount_1))), ((a 13), .inl (cI, 384, .inl (ia M_wayBase))), ((a 14), .inl (cI, 384, .inl (ia M_wayEarly_8))), ((a 15), .inl (cI, 384, .inl (ia M_wayLate_9))), ((a 16), .inl (cI, 384, .inl (ia M_wayLast_2))), ((a 17), .inl (cI, 384, .inl (ia M_waySize_3))), ((a 18), .inl (cI, 18816, .inl (ia M_wayRows_6))), ((a 19), .inl (cI, 18816, .inl (ia M_waySpread_7))), ((a 33), .inl (cI, 160, .inl (ia M_row)))] H → va_D A [(o_M a M_thrown M_period M_width M_nodes M_analysed M_gates M_startNode M_startChange M_startWay M_startBase M_startEarly M_startLate M_worstWith M_worstWithout M_all M_rowSize), ((a 4), .inl (cI, 144, .inl (ia M_wireEarly))), ((a 5), .inl (cI, 144, .inl (ia M_wireLate))), ((a 7), .inl (cI, 288, .inl (ia M_delayEarly))), ((a 8), .inl (cI, 288, .inl (ia M_delayLate))), ((a 12), .inl (cI, 48, .inl (ia M_wayCount_1))), ((a 13), .inl (cI, 384, .inl (ia M_wayBase))), ((a 14), .inl (cI, 384, .inl (ia M_wayEarly_8))), ((a 15), .inl (cI, 384, .inl (ia M_wayLate_9))), ((a 16), .inl (cI, 384, .inl (ia M_wayLast_2))), ((a 17), .inl (cI, 384, .inl (ia M_waySize_3))), ((a 18), .inl (cI, 18816, .inl (ia M_wayRows_6))), ((a 19), .inl (cI, 18816, .inl (ia M_waySpread_7))), ((a 33), .inl (cI, 160, .inl (ia M_row)))] → va_S A s.heap H locs → lv_has ls 12 [] → f_M_keepWay_j290 F M_wayBase v3 M_wayCount_1 M_wayLast_2 M_waySize_3 M_wayRows_6 M_waySpread_7 M_wayEarly_8 M_wayLate_9 q2 = some (z_M_wayCount, z_M_wayBase, z_M_wayEarly, z_M_wayLate, z_M_wayLast, z_M_waySize, z_M_wayRows, z_M_waySpread) → W p l e (headSpec w_M_keepWay rm_M_keepWay).room s m args below meth c H locs 0 0 Q (F0 m 290 ls [.int (iI q2), .int (iI v3), .ref (a 13)]) := by
          intro q2 H locs ls hP hD hS hl h
          rw [f_M_keepWay_j290] at h
          obtain ⟨hin, h⟩ := gi_e h
          refine zv_iast hx hb hK hP hD hS 6 0 rfl rfl (Nat.le_of_ble_eq_true rfl) hin d_M_keepWay_290 (fun H locs hP hD hS => ?_)
          obtain ⟨M_wayBase_10, hv⟩ : ∃ z, z = (ui M_wayBase v3 q2) := ⟨_, rfl⟩
          replace h := bd_e hv h
          have hP : va_P D vwCl [(o_M a M_thrown M_period M_width M_nodes M_analysed M_gates M_startNode M_startChange M_startWay M_startBase M_startEarly M_startLate M_worstWith M_worstWithout M_all M_rowSize), ((a 4), .inl (cI, 144, .inl (ia M_wireEarly))), ((a 5), .inl (cI, 144, .inl (ia M_wireLate))), ((a 7), .inl (cI, 288, .inl (ia M_delayEarly))), ((a 8), .inl (cI, 288, .inl (ia M_delayLate))), ((a 12), .inl (cI, 48, .inl (ia M_wayCount_1))), ((a 13), .inl (cI, 384, .inl (ia M_wayBase_10))), ((a 14), .inl (cI, 384, .inl (ia M_wayEarly_8))), ((a 15), .inl (cI, 384, .inl (ia M_wayLate_9))), ((a 16), .inl (cI, 384, .inl (ia M_wayLast_2))), ((a 17), .inl (cI, 384, .inl (ia M_waySize_3))), ((a 18), .inl (cI, 18816, .inl (ia M_wayRows_6))), ((a 19), .inl (cI, 18816, .inl (ia M_waySpread_7))), ((a 33), .inl (cI, 160, .inl (ia M_row)))] H := by rw [hv]; exact hP
          have hD : va_D A [(o_M a M_thrown M_period M_width M_nodes M_analysed M_gates M_startNode M_startChange M_startWay M_startBase M_startEarly M_startLate M_worstWith M_worstWithout M_all M_rowSize), ((a 4), .inl (cI, 144, .inl (ia M_wireEarly))), ((a 5), .inl (cI, 144, .inl (ia M_wireLate))), ((a 7), .inl (cI, 288, .inl (ia M_delayEarly))), ((a 8), .inl (cI, 288, .inl (ia M_delayLate))), ((a 12), .inl (cI, 48, .inl (ia M_wayCount_1))), ((a 13), .inl (cI, 384, .inl (ia M_wayBase_10))), ((a 14), .inl (cI, 384, .inl (ia M_wayEarly_8))), ((a 15), .inl (cI, 384, .inl (ia M_wayLate_9))), ((a 16), .inl (cI, 384, .inl (ia M_wayLast_2))), ((a 17), .inl (cI, 384, .inl (ia M_waySize_3))), ((a 18), .inl (cI, 18816, .inl (ia M_wayRows_6))), ((a 19), .inl (cI, 18816, .inl (ia M_waySpread_7))), ((a 33), .inl (cI, 160, .inl (ia M_row)))] := by rw [hv]; exact hD
          obtain ⟨e1, e2, e3, e4, e5, e6, e7, e8⟩ := so8 h
          rw [hQ, e1, e2, e3, e4, e5, e6, e7, e8]; rw [hAe] at hD hS; exact W.vret hx hb hr (fun t ht hW => ⟨⟨(), rfl, trivial, by rw [ht]; exact hP, va_K.moved hW.alike hK, hD⟩, hS.F ht⟩) hS.2.2 d_M_keepWay_291
        obtain ⟨hg0, h⟩ := gr_e h
        refine zi_ne hx hb d_M_keepWay_279 rfl hg0 (fun hc => ?_) (fun hc => ?_)
        · replace h := if_f hc h
          refine lv_aload_n hx hb d_M_keepWay_286 rfl (lv_at hl 0 rfl) ?_
          refine va_get (D := D) (ci := 10) (v := .int (iI M_width)) (C := R_M) (T := F_M) (N := 53) hx hb hT in_M hown hK hP 0 rfl rfl 2 (by decide) (hT _ m1023) (fun _ h9 => h9) rfl d_M_keepWay_287 ?_
          exact hj290 M_width H locs ls hP hD hS (lv_sub hl [] rfl) h
        · replace h := if_t hc h
          refine zv_iconst hx hb d_M_keepWay_282 ?_
          refine lv_goto hx hb d_M_keepWay_283 rfl ?_
          exact hj290 0 H locs ls hP hD hS (lv_sub hl [] rfl) h
      · replace h := if_f hc h
        refine lv_bipush (v := iI 49) hx hb d_M_keepWay_75 (by decide) ?_
        refine lv_iload_n hx hb d_M_keepWay_77 rfl (lv_at hl 2 rfl) ?_
        refine zv_imul hx hb d_M_keepWay_78 ?_
        refine lv_iload_n hx hb d_M_keepWay_79 rfl (lv_at hl 1 rfl) ?_
        refine zv_iadd hx hb d_M_keepWay_80 ?_
        refine lv_iload hx hb d_M_keepWay_81 (lv_at hl 5 rfl) ?_
        refine zv_isub hx hb d_M_keepWay_83 ?_
        refine zv_top (fun v7 hv => ?_)
        replace h := bd_e hv h
        refine lv_istore (lv' := [(7, .int (iI v7)), (0, .ref (a 0)), (2, .int (iI x2)), (3, .int (iI v3)), (4, .int (iI v4_4)), (5, .int (iI v5_5)), (6, .int (iI v6))]) hx hb d_M_keepWay_84 hl (by decide) rfl (fun ls hl => ?_)
        refine lv_aload_n hx hb d_M_keepWay_86 rfl (lv_at hl 1 rfl) ?_
        refine va_get (D := D) (ci := 10) (v := .ref (a 18)) (C := R_M) (T := F_M) (N := 53) hx hb hT in_M hown hK hP 0 rfl rfl 23 (by decide) (hT _ m1044) (fun _ h9 => h9) rfl d_M_keepWay_87 ?_
        refine lv_iload hx hb d_M_keepWay_90 (lv_at hl 0 rfl) ?_
        refine lv_aload_n hx hb d_M_keepWay_92 rfl (lv_at hl 1 rfl) ?_
        refine va_get (D := D) (ci := 10) (v := .ref (a 33)) (C := R_M) (T := F_M) (N := 53) hx hb hT in_M hown hK hP 0 rfl rfl 47 (by decide) (hT _ m1068) (fun _ h9 => h9) rfl d_M_keepWay_93 ?_
        refine lv_iload hx hb d_M_keepWay_96 (lv_at hl 6 rfl) ?_
        obtain ⟨hin, h⟩ := gi_e h
        refine zv_iald hx hb hK hP 13 0 rfl rfl (Nat.le_of_ble_eq_true rfl) hin d_M_keepWay_98 ?_
        obtain ⟨hin, h⟩ := gi_e h
        refine zv_iast hx hb hK hP hD hS 11 0 rfl rfl (Nat.le_of_ble_eq_true rfl) hin d_M_keepWay_99 (fun H locs hP hD hS => ?_)
        obtain ⟨M_wayRows_11, hv⟩ : ∃ z, z = (ui M_wayRows_6 v7 (M_row v6)) := ⟨_, rfl⟩
        replace h := bd_e hv h
        have hP : va_P D vwCl [(o_M a M_thrown M_period M_width M_nodes M_analysed M_gates M_startNode M_startChange M_startWay M_startBase M_startEarly M_startLate M_worstWith M_worstWithout M_all M_rowSize), ((a 4), .inl (cI, 144, .inl (ia M_wireEarly))), ((a 5), .inl (cI, 144, .inl (ia M_wireLate))), ((a 7), .inl (cI, 288, .inl (ia M_delayEarly))), ((a 8), .inl (cI, 288, .inl (ia M_delayLate))), ((a 12), .inl (cI, 48, .inl (ia M_wayCount_1))), ((a 13), .inl (cI, 384, .inl (ia M_wayBase))), ((a 14), .inl (cI, 384, .inl (ia M_wayEarly))), ((a 15), .inl (cI, 384, .inl (ia M_wayLate))), ((a 16), .inl (cI, 384, .inl (ia M_wayLast_2))), ((a 17), .inl (cI, 384, .inl (ia M_waySize_3))), ((a 18), .inl (cI, 18816, .inl (ia M_wayRows_11))), ((a 19), .inl (cI, 18816, .inl (ia M_waySpread_7))), ((a 33), .inl (cI, 160, .inl (ia M_row)))] H := by rw [hv]; exact hP
        have hD : va_D A [(o_M a M_thrown M_period M_width M_nodes M_analysed M_gates M_startNode M_startChange M_startWay M_startBase M_startEarly M_startLate M_worstWith M_worstWithout M_all M_rowSize), ((a 4), .inl (cI, 144, .inl (ia M_wireEarly))), ((a 5), .inl (cI, 144, .inl (ia M_wireLate))), ((a 7), .inl (cI, 288, .inl (ia M_delayEarly))), ((a 8), .inl (cI, 288, .inl (ia M_delayLate))), ((a 12), .inl (cI, 48, .inl (ia M_wayCount_1))), ((a 13), .inl (cI, 384, .inl (ia M_wayBase))), ((a 14), .inl (cI, 384, .inl (ia M_wayEarly))), ((a 15), .inl (cI, 384, .inl (ia M_wayLate))), ((a 16), .inl (cI, 384, .inl (ia M_wayLast_2))), ((a 17), .inl (cI, 384, .inl (ia M_waySize_3))), ((a 18), .inl (cI, 18816, .inl (ia M_wayRows_11))), ((a 19), .inl (cI, 18816, .inl (ia M_waySpread_7))), ((a 33), .inl (cI, 160, .inl (ia M_row)))] := by rw [hv]; exact hD
        refine lv_aload_n hx hb d_M_keepWay_100 rfl (lv_at hl 1 rfl) ?_
        refine va_get (D := D) (ci := 10) (v := .ref (a 19)) (C := R_M) (T := F_M) (N := 53) hx hb hT in_M hown hK hP 0 rfl rfl 24 (by decide) (hT _ m1045) (fun _ h9 => h9) rfl d_M_keepWay_101 ?_
        refine lv_iload hx hb d_M_keepWay_104 (lv_at hl 0 rfl) ?_
        refine zv_iconst hx hb d_M_keepWay_106 ?_
        obtain ⟨hin, h⟩ := gi_e h
        refine zv_iast hx hb hK hP hD hS 12 0 rfl rfl (Nat.le_of_ble_eq_true rfl) hin d_M_keepWay_107 (fun H locs hP hD hS => ?_)
        obtain ⟨M_waySpread_12, hv⟩ : ∃ z, z = (ui M_waySpread_7 v7 0) := ⟨_, rfl⟩
        replace h := bd_e hv h
        have hP : va_P D vwCl [(o_M a M_thrown M_period M_width M_nodes M_analysed M_gates M_startNode M_startChange M_startWay M_startBase M_startEarly M_startLate M_worstWith M_worstWithout M_all M_rowSize), ((a 4), .inl (cI, 144, .inl (ia M_wireEarly))), ((a 5), .inl (cI, 144, .inl (ia M_wireLate))), ((a 7), .inl (cI, 288, .inl (ia M_delayEarly))), ((a 8), .inl (cI, 288, .inl (ia M_delayLate))), ((a 12), .inl (cI, 48, .inl (ia M_wayCount_1))), ((a 13), .inl (cI, 384, .inl (ia M_wayBase))), ((a 14), .inl (cI, 384, .inl (ia M_wayEarly))), ((a 15), .inl (cI, 384, .inl (ia M_wayLate))), ((a 16), .inl (cI, 384, .inl (ia M_wayLast_2))), ((a 17), .inl (cI, 384, .inl (ia M_waySize_3))), ((a 18), .inl (cI, 18816, .inl (ia M_wayRows_11))), ((a 19), .inl (cI, 18816, .inl (ia M_waySpread_12))), ((a 33), .inl (cI, 160, .inl (ia M_row)))] H := by rw [hv]; exact hP
        have hD : va_D A [(o_M a M_thrown M_period M_width M_nodes M_analysed M_gates M_startNode M_startChange M_startWay M_startBase M_startEarly M_startLate M_worstWith M_worstWithout M_all M_rowSize), ((a 4), .inl (cI, 144, .inl (ia M_wireEarly))), ((a 5), .inl (cI, 144, .inl (ia M_wireLate))), ((a 7), .inl (cI, 288, .inl (ia M_delayEarly))), ((a 8), .inl (cI, 288, .inl (ia M_delayLate))), ((a 12), .inl (cI, 48, .inl (ia M_wayCount_1))), ((a 13), .inl (cI, 384, .inl (ia M_wayBase))), ((a 14), .inl (cI, 384, .inl (ia M_wayEarly))), ((a 15), .inl (cI, 384, .inl (ia M_wayLate))), ((a 16), .inl (cI, 384, .inl (ia M_wayLast_2))), ((a 17), .inl (cI, 384, .inl (ia M_waySize_3))), ((a 18), .inl (cI, 18816, .inl (ia M_wayRows_11))), ((a 19), .inl (cI, 18816, .inl (ia M_waySpread_12))), ((a 33), .inl (cI, 160, .inl (ia M_row)))] := by rw [hv]; exact hD
        refine lv_aload_n hx hb d_M_keepWay_108 rfl (lv_at hl 1 rfl) ?_
        refine va_get (D := D) (ci := 10) (v := .ref (a 33)) (C := R_M) (T := F_M) (N := 53) hx hb hT in_M hown hK hP 0 rfl rfl 47 (by decide) (hT _ m1068) (fun _ h9 => h9) rfl d_M_keepWay_109 ?_
        refine lv_iload hx hb d_M_keepWay_112 (lv_at hl 6 rfl) ?_
        obtain ⟨hin, h⟩ := gi_e h
        refine zv_iald hx hb hK hP 13 0 rfl rfl (Nat.le_of_ble_eq_true rfl) hin d_M_keepWay_114 ?_
        refine lv_bipush (v := iI 8) hx hb d_M_keepWay_115 (by decide) ?_
        obtain ⟨hg, h⟩ := gp_e h
        refine zv_idiv hx hb d_M_keepWay_117 hg (by decide) ?_
        refine zv_top (fun v8 hv => ?_)
        replace h := bd_e hv h
        refine lv_istore (lv' := [(8, .int (iI v8)), (7, .int (iI v7)), (0, .ref (a 0)), (2, .int (iI x2)), (3, .int (iI v3)), (4, .int (iI v4_4)), (5, .int (iI v5_5)), (6, .int (iI v6))]) hx hb d_M_keepWay_118 hl (by decide) rfl (fun ls hl => ?_)
        refine lv_iload hx hb d_M_keepWay_120 (lv_at hl 0 rfl) ?_
        have hj244 : ∀ (v4_13 : Int) (v5_14 : Int) (M_waySpread_15 : Int → Int) (H : Heap) (locs : List Loc) (ls : Array Slot), va_P D vwCl [(o_M a M_thrown M_period M_width M_nodes M_analysed M_gates M_startNode M_startChange M_startWay M_startBase M_startEarly M_startLate M_worstWith M_worstWithout M_all M_rowSize), ((a 4), .inl (cI, 144, .inl (ia M_wireEarly))), ((a 5), .inl (cI, 144, .inl (ia M_wireLate))), ((a 7), .inl (cI, 288, .inl (ia M_delayEarly))), ((a 8), .inl (cI, 288, .inl (ia M_delayLate))), ((a 12), .inl (cI, 48, .inl (ia M_wayCount_1))), ((a 13), .inl (cI, 384, .inl (ia M_wayBase))), ((a 14), .inl (cI, 384, .inl (ia M_wayEarly))), ((a 15), .inl (cI, 384, .inl (ia M_wayLate))), ((a 16), .inl (cI, 384, .inl (ia M_wayLast_2))), ((a 17), .inl (cI, 384, .inl (ia M_waySize_3))), ((a 18), .inl (cI, 18816, .inl (ia M_wayRows_11))), ((a 19), .inl (cI, 18816, .inl (ia M_waySpread_15))), ((a 33), .inl (cI, 160, .inl (ia M_row)))] H → va_D A [(o_M a M_thrown M_period M_width M_nodes M_analysed M_gates M_startNode M_startChange M_startWay M_startBase M_startEarly M_startLate M_worstWith M_worstWithout M_all M_rowSize), ((a 4), .inl (cI, 144, .inl (ia M_wireEarly))), ((a 5), .inl (cI, 144, .inl (ia M_wireLate))), ((a 7), .inl (cI, 288, .inl (ia M_delayEarly))), ((a 8), .inl (cI, 288, .inl (ia M_delayLate))), ((a 12), .inl (cI, 48, .inl (ia M_wayCount_1))), ((a 13), .inl (cI, 384, .inl (ia M_wayBase))), ((a 14), .inl (cI, 384, .inl (ia M_wayEarly))), ((a 15), .inl (cI, 384, .inl (ia M_wayLate))), ((a 16), .inl (cI, 384, .inl (ia M_wayLast_2))), ((a 17), .inl (cI, 384, .inl (ia M_waySize_3))), ((a 18), .inl (cI, 18816, .inl (ia M_wayRows_11))), ((a 19), .inl (cI, 18816, .inl (ia M_waySpread_15))), ((a 33), .inl (cI, 160, .inl (ia M_row)))] → va_S A s.heap H locs → lv_has ls 12 [(0, .ref (a 0)), (2, .int (iI x2)), (3, .int (iI v3)), (4, .int (iI v4_13)), (5, .int (iI v5_14)), (6, .int (iI v6))] → f_M_keepWay_j244 F v6 self69 M_wayRows_11 v4_13 v5_14 M_waySpread_15 = some (z_M_wayCount, z_M_wayBase, z_M_wayEarly, z_M_wayLate, z_M_wayLast, z_M_waySize, z_M_wayRows, z_M_waySpread) → W p l e (headSpec w_M_keepWay rm_M_keepWay).room s m args below meth c H locs 0 0 Q (F0 m 244 ls []) := by
          intro v4_13 v5_14 M_waySpread_15 H locs ls hP hD hS hl h
          rw [f_M_keepWay_j244] at h
          refine lv_iinc (v := iI (v6 + 1)) (k := 5) (lv' := [(6, .int (iI (v6 + 1))), (0, .ref (a 0)), (2, .int (iI x2)), (3, .int (iI v3)), (4, .int (iI v4_13)), (5, .int (iI v5_14))]) hx hb d_M_keepWay_244 hl rfl (iI_add _ _) (by decide) rfl (fun ls hl => ?_)
          refine lv_goto hx hb d_M_keepWay_247 rfl ?_
          exact ih69 v4_13 v5_14 (v6 + 1) M_wayRows_11 M_waySpread_15 H locs ls hP hD hS (lv_sub hl [1, 2, 3, 4, 5, 0] rfl) h
        obtain ⟨hg0, h⟩ := gr_e h
        refine zi_le hx hb d_M_keepWay_122 rfl hg0 (fun hc => ?_) (fun hc => ?_)
        · replace h := if_t hc h
          exact hj244 v4_4 v5_5 M_waySpread_12 H locs ls hP hD hS (lv_sub hl [2, 3, 4, 5, 6, 7] rfl) h
        · replace h := if_f hc h
          refine lv_aload_n hx hb d_M_keepWay_125 rfl (lv_at hl 2 rfl) ?_
          refine va_get (D := D) (ci := 10) (v := .ref (a 33)) (C := R_M) (T := F_M) (N := 53) hx hb hT in_M hown hK hP 0 rfl rfl 47 (by decide) (hT _ m1068) (fun _ h9 => h9) rfl d_M_keepWay_126 ?_
          refine lv_iload hx hb d_M_keepWay_129 (lv_at hl 7 rfl) ?_
          obtain ⟨hin, h⟩ := gi_e h
          refine zv_iald hx hb hK hP 13 0 rfl rfl (Nat.le_of_ble_eq_true rfl) hin d_M_keepWay_131 ?_
          refine zv_iconst hx hb d_M_keepWay_132 ?_
          obtain ⟨hg, h⟩ := gp_e h
          refine zv_idiv hx hb d_M_keepWay_133 hg (by decide) ?_
          refine zv_iconst hx hb d_M_keepWay_134 ?_
          obtain ⟨hg, h⟩ := gp_e h
          refine zv_irem hx hb d_M_keepWay_135 hg (by decide) ?_
          refine zv_top (fun v9 hv => ?_)
          replace h := bd_e hv h
          refine lv_istore (lv' := [(9, .int (iI v9)), (8, .int (iI v8)), (7, .int (iI v7)), (0, .ref (a 0)), (2, .int (iI x2)), (3, .int (iI v3)), (4, .int (iI v4_4)), (5, .int (iI v5_5)), (6, .int (iI v6))]) hx hb d_M_keepWay_136 hl (by decide) rfl (fun ls hl => ?_)
          refine lv_aload_n hx hb d_M_keepWay_138 rfl (lv_at hl 3 rfl) ?_
          refine va_get (D := D) (ci := 10) (v := .ref (a 4)) (C := R_M) (T := F_M) (N := 53) hx hb hT in_M hown hK hP 0 rfl rfl 7 (by decide) (hT _ m1028) (fun _ h9 => h9) rfl d_M_keepWay_139 ?_
          refine zv_iconst hx hb d_M_keepWay_142 ?_
          refine lv_iload hx hb d_M_keepWay_143 (lv_at hl 1 rfl) ?_
          refine zv_imul hx hb d_M_keepWay_145 ?_
          refine lv_iload hx hb d_M_keepWay_146 (lv_at hl 0 rfl) ?_
          refine zv_iadd hx hb d_M_keepWay_148 ?_
          obtain ⟨hin, h⟩ := gi_e h
          refine zv_iald hx hb hK hP 1 0 rfl rfl (Nat.le_of_ble_eq_true rfl) hin d_M_keepWay_149 ?_
          refine lv_aload_n hx hb d_M_keepWay_150 rfl (lv_at hl 3 rfl) ?_
          refine va_get (D := D) (ci := 10) (v := .ref (a 7)) (C := R_M) (T := F_M) (N := 53) hx hb hT in_M hown hK hP 0 rfl rfl 10 (by decide) (hT _ m1031) (fun _ h9 => h9) rfl d_M_keepWay_151 ?_
          refine lv_bipush (v := iI 6) hx hb d_M_keepWay_154 (by decide) ?_
          refine lv_iload hx hb d_M_keepWay_156 (lv_at hl 1 rfl) ?_
          refine zv_imul hx hb d_M_keepWay_158 ?_
          refine zv_iconst hx hb d_M_keepWay_159 ?_
          refine lv_iload hx hb d_M_keepWay_160 (lv_at hl 0 rfl) ?_
          refine zv_imul hx hb d_M_keepWay_162 ?_
          refine zv_iadd hx hb d_M_keepWay_163 ?_
          refine lv_aload_n hx hb d_M_keepWay_164 rfl (lv_at hl 3 rfl) ?_
          refine va_get (D := D) (ci := 10) (v := .ref (a 33)) (C := R_M) (T := F_M) (N := 53) hx hb hT in_M hown hK hP 0 rfl rfl 47 (by decide) (hT _ m1068) (fun _ h9 => h9) rfl d_M_keepWay_165 ?_
          refine lv_iload hx hb d_M_keepWay_168 (lv_at hl 8 rfl) ?_
          obtain ⟨hin, h⟩ := gi_e h
          refine zv_iald hx hb hK hP 13 0 rfl rfl (Nat.le_of_ble_eq_true rfl) hin d_M_keepWay_170 ?_
          refine zv_iconst hx hb d_M_keepWay_171 ?_
          obtain ⟨hg, h⟩ := gp_e h
          refine zv_irem hx hb d_M_keepWay_172 hg (by decide) ?_
          refine zv_iadd hx hb d_M_keepWay_173 ?_
          obtain ⟨hin, h⟩ := gi_e h
          refine zv_iald hx hb hK hP 3 0 rfl rfl (Nat.le_of_ble_eq_true rfl) hin d_M_keepWay_174 ?_
          refine zv_iadd hx hb d_M_keepWay_175 ?_
          refine zv_top (fun v10 hv => ?_)
          replace h := bd_e hv h
          refine lv_istore (lv' := [(10, .int (iI v10)), (9, .int (iI v9)), (8, .int (iI v8)), (7, .int (iI v7)), (0, .ref (a 0)), (2, .int (iI x2)), (3, .int (iI v3)), (4, .int (iI v4_4)), (5, .int (iI v5_5)), (6, .int (iI v6))]) hx hb d_M_keepWay_176 hl (by decide) rfl (fun ls hl => ?_)
          refine lv_aload_n hx hb d_M_keepWay_178 rfl (lv_at hl 4 rfl) ?_
          refine va_get (D := D) (ci := 10) (v := .ref (a 5)) (C := R_M) (T := F_M) (N := 53) hx hb hT in_M hown hK hP 0 rfl rfl 8 (by decide) (hT _ m1029) (fun _ h9 => h9) rfl d_M_keepWay_179 ?_
          refine zv_iconst hx hb d_M_keepWay_182 ?_
          refine lv_iload hx hb d_M_keepWay_183 (lv_at hl 2 rfl) ?_
          refine zv_imul hx hb d_M_keepWay_185 ?_
          refine lv_iload hx hb d_M_keepWay_186 (lv_at hl 1 rfl) ?_
          refine zv_iadd hx hb d_M_keepWay_188 ?_
          obtain ⟨hin, h⟩ := gi_e h
          refine zv_iald hx hb hK hP 2 0 rfl rfl (Nat.le_of_ble_eq_true rfl) hin d_M_keepWay_189 ?_
          refine lv_aload_n hx hb d_M_keepWay_190 rfl (lv_at hl 4 rfl) ?_
          refine va_get (D := D) (ci := 10) (v := .ref (a 8)) (C := R_M) (T := F_M) (N := 53) hx hb hT in_M hown hK hP 0 rfl rfl 11 (by decide) (hT _ m1032) (fun _ h9 => h9) rfl d_M_keepWay_191 ?_
          refine lv_bipush (v := iI 6) hx hb d_M_keepWay_194 (by decide) ?_
          refine lv_iload hx hb d_M_keepWay_196 (lv_at hl 2 rfl) ?_
          refine zv_imul hx hb d_M_keepWay_198 ?_
          refine zv_iconst hx hb d_M_keepWay_199 ?_
          refine lv_iload hx hb d_M_keepWay_200 (lv_at hl 1 rfl) ?_
          refine zv_imul hx hb d_M_keepWay_202 ?_
          refine zv_iadd hx hb d_M_keepWay_203 ?_
          refine lv_aload_n hx hb d_M_keepWay_204 rfl (lv_at hl 4 rfl) ?_
          refine va_get (D := D) (ci := 10) (v := .ref (a 33)) (C := R_M) (T := F_M) (N := 53) hx hb hT in_M hown hK hP 0 rfl rfl 47 (by decide) (hT _ m1068) (fun _ h9 => h9) rfl d_M_keepWay_205 ?_
          refine lv_iload hx hb d_M_keepWay_208 (lv_at hl 9 rfl) ?_
          obtain ⟨hin, h⟩ := gi_e h
          refine zv_iald hx hb hK hP 13 0 rfl rfl (Nat.le_of_ble_eq_true rfl) hin d_M_keepWay_210 ?_
          refine zv_iconst hx hb d_M_keepWay_211 ?_
          obtain ⟨hg, h⟩ := gp_e h
          refine zv_irem hx hb d_M_keepWay_212 hg (by decide) ?_
          refine zv_iadd hx hb d_M_keepWay_213 ?_
          obtain ⟨hin, h⟩ := gi_e h
          refine zv_iald hx hb hK hP 4 0 rfl rfl (Nat.le_of_ble_eq_true rfl) hin d_M_keepWay_214 ?_
          refine zv_iadd hx hb d_M_keepWay_215 ?_
          refine zv_top (fun v11 hv => ?_)
          replace h := bd_e hv h
          refine lv_istore (lv' := [(11, .int (iI v11)), (10, .int (iI v10)), (9, .int (iI v9)), (8, .int (iI v8)), (7, .int (iI v7)), (0, .ref (a 0)), (2, .int (iI x2)), (3, .int (iI v3)), (4, .int (iI v4_4)), (5, .int (iI v5_5)), (6, .int (iI v6))]) hx hb d_M_keepWay_216 hl (by decide) rfl (fun ls hl => ?_)
          refine lv_aload_n hx hb d_M_keepWay_218 rfl (lv_at hl 5 rfl) ?_
          refine va_get (D := D) (ci := 10) (v := .ref (a 19)) (C := R_M) (T := F_M) (N := 53) hx hb hT in_M hown hK hP 0 rfl rfl 24 (by decide) (hT _ m1045) (fun _ h9 => h9) rfl d_M_keepWay_219 ?_
          refine lv_iload hx hb d_M_keepWay_222 (lv_at hl 4 rfl) ?_
          refine lv_iload hx hb d_M_keepWay_224 (lv_at hl 0 rfl) ?_
          refine lv_iload hx hb d_M_keepWay_226 (lv_at hl 1 rfl) ?_
          refine zv_isub hx hb d_M_keepWay_228 ?_
          obtain ⟨hin, h⟩ := gi_e h
          refine zv_iast hx hb hK hP hD hS 12 0 rfl rfl (Nat.le_of_ble_eq_true rfl) hin d_M_keepWay_229 (fun H locs hP hD hS => ?_)
          obtain ⟨M_waySpread_16, hv⟩ : ∃ z, z = (ui M_waySpread_12 v7 (v11 - v10)) := ⟨_, rfl⟩
          replace h := bd_e hv h
          have hP : va_P D vwCl [(o_M a M_thrown M_period M_width M_nodes M_analysed M_gates M_startNode M_startChange M_startWay M_startBase M_startEarly M_startLate M_worstWith M_worstWithout M_all M_rowSize), ((a 4), .inl (cI, 144, .inl (ia M_wireEarly))), ((a 5), .inl (cI, 144, .inl (ia M_wireLate))), ((a 7), .inl (cI, 288, .inl (ia M_delayEarly))), ((a 8), .inl (cI, 288, .inl (ia M_delayLate))), ((a 12), .inl (cI, 48, .inl (ia M_wayCount_1))), ((a 13), .inl (cI, 384, .inl (ia M_wayBase))), ((a 14), .inl (cI, 384, .inl (ia M_wayEarly))), ((a 15), .inl (cI, 384, .inl (ia M_wayLate))), ((a 16), .inl (cI, 384, .inl (ia M_wayLast_2))), ((a 17), .inl (cI, 384, .inl (ia M_waySize_3))), ((a 18), .inl (cI, 18816, .inl (ia M_wayRows_11))), ((a 19), .inl (cI, 18816, .inl (ia M_waySpread_16))), ((a 33), .inl (cI, 160, .inl (ia M_row)))] H := by rw [hv]; exact hP
          have hD : va_D A [(o_M a M_thrown M_period M_width M_nodes M_analysed M_gates M_startNode M_startChange M_startWay M_startBase M_startEarly M_startLate M_worstWith M_worstWithout M_all M_rowSize), ((a 4), .inl (cI, 144, .inl (ia M_wireEarly))), ((a 5), .inl (cI, 144, .inl (ia M_wireLate))), ((a 7), .inl (cI, 288, .inl (ia M_delayEarly))), ((a 8), .inl (cI, 288, .inl (ia M_delayLate))), ((a 12), .inl (cI, 48, .inl (ia M_wayCount_1))), ((a 13), .inl (cI, 384, .inl (ia M_wayBase))), ((a 14), .inl (cI, 384, .inl (ia M_wayEarly))), ((a 15), .inl (cI, 384, .inl (ia M_wayLate))), ((a 16), .inl (cI, 384, .inl (ia M_wayLast_2))), ((a 17), .inl (cI, 384, .inl (ia M_waySize_3))), ((a 18), .inl (cI, 18816, .inl (ia M_wayRows_11))), ((a 19), .inl (cI, 18816, .inl (ia M_waySpread_16))), ((a 33), .inl (cI, 160, .inl (ia M_row)))] := by rw [hv]; exact hD
          refine lv_iload hx hb d_M_keepWay_230 (lv_at hl 8 rfl) ?_
          refine lv_iload hx hb d_M_keepWay_232 (lv_at hl 1 rfl) ?_
          refine zv_iadd hx hb d_M_keepWay_234 ?_
          refine zv_top (fun v4_17 hv => ?_)
          replace h := bd_e hv h
          refine lv_istore (lv' := [(4, .int (iI v4_17)), (11, .int (iI v11)), (10, .int (iI v10)), (9, .int (iI v9)), (8, .int (iI v8)), (7, .int (iI v7)), (0, .ref (a 0)), (2, .int (iI x2)), (3, .int (iI v3)), (5, .int (iI v5_5)), (6, .int (iI v6))]) hx hb d_M_keepWay_235 hl (by decide) rfl (fun ls hl => ?_)
          refine lv_iload hx hb d_M_keepWay_237 (lv_at hl 9 rfl) ?_
          refine lv_iload hx hb d_M_keepWay_239 (lv_at hl 1 rfl) ?_
          refine zv_iadd hx hb d_M_keepWay_241 ?_
          refine zv_top (fun v5_18 hv => ?_)
          replace h := bd_e hv h
          refine lv_istore (lv' := [(5, .int (iI v5_18)), (4, .int (iI v4_17)), (11, .int (iI v11)), (10, .int (iI v10)), (9, .int (iI v9)), (8, .int (iI v8)), (7, .int (iI v7)), (0, .ref (a 0)), (2, .int (iI x2)), (3, .int (iI v3)), (6, .int (iI v6))]) hx hb d_M_keepWay_242 hl (by decide) rfl (fun ls hl => ?_)
          exact hj244 v4_17 v5_18 M_waySpread_16 H locs ls hP hD hS (lv_sub hl [7, 8, 9, 1, 0, 10] rfl) h
  exact hl69 F v4 v5 0 M_wayRows M_waySpread H locs ls hP hD hS (lv_sub hl [4, 6, 3, 2, 1, 0] rfl) h
abbrev rm_M_findWays : Room := { frames := 1, cells := 0, slots := 0, locals := 31 }
set_option maxHeartbeats 4000000 in
set_option maxRecDepth 100000 in
theorem c_M_findWays (l : Launch) (D : va_G) (cI cJ cZ : ClassId) (F : Nat) (a : Nat → Nat) (M_thrown : Int) (M_period : Int) (M_width : Int) (M_nodes : Int) (M_analysed : Int) (M_gates : Int) (M_startNode : Int) (M_startChange : Int) (M_startWay : Int) (M_startBase : Int) (M_startEarly : Int) (M_startLate : Int) (M_worstWith : Int) (M_worstWithout : Int) (M_all : Int64) (M_rowSize : Int) (M_pins : Int → Int) (M_froms : Int → Int) (M_wireEarly : Int → Int) (M_wireLate : Int → Int) (M_senses : Int → Int) (M_delayEarly : Int → Int) (M_delayLate : Int → Int) (M_wayCount : Int → Int) (M_wayBase : Int → Int) (M_wayEarly : Int → Int) (M_wayLate : Int → Int) (M_wayLast : Int → Int) (M_waySize : Int → Int) (M_wayRows : Int → Int) (M_waySpread : Int → Int) (M_clockWays : Int → Int) (M_atNode : Int → Int) (M_atChange : Int → Int) (M_atNext : Int → Int) (M_row : Int → Int) (x1 : Int) (z_M_wayCount : Int → Int) (z_M_wayBase : Int → Int) (z_M_wayEarly : Int → Int) (z_M_wayLate : Int → Int) (z_M_wayLast : Int → Int) (z_M_waySize : Int → Int) (z_M_wayRows : Int → Int) (z_M_waySpread : Int → Int) (z_M_atNode : Int → Int) (z_M_atChange : Int → Int) (z_M_atNext : Int → Int) (z_M_row : Int → Int) (sz : Nat) (h : f_M_findWays F M_width M_pins M_froms M_wireEarly M_wireLate M_senses M_delayEarly M_delayLate M_wayCount M_wayBase M_wayEarly M_wayLate M_wayLast M_waySize M_wayRows M_waySpread M_clockWays M_atNode M_atChange M_atNext M_row x1 = some (z_M_wayCount, z_M_wayBase, z_M_wayEarly, z_M_wayLate, z_M_wayLast, z_M_waySize, z_M_wayRows, z_M_waySpread, z_M_atNode, z_M_atChange, z_M_atNext, z_M_row)) : Met l y_M_findWays w_M_findWays rm_M_findWays (PC D [(cI, .int), (cJ, .long), (cZ, .boolean)] [.ref (a 0), .int (iI x1)] ([(o_M a M_thrown M_period M_width M_nodes M_analysed M_gates M_startNode M_startChange M_startWay M_startBase M_startEarly M_startLate M_worstWith M_worstWithout M_all M_rowSize), ((a 2), .inl (cI, 48, .inl (ia M_pins))), ((a 3), .inl (cI, 144, .inl (ia M_froms))), ((a 4), .inl (cI, 144, .inl (ia M_wireEarly))), ((a 5), .inl (cI, 144, .inl (ia M_wireLate))), ((a 6), .inl (cI, 144, .inl (ia M_senses))), ((a 7), .inl (cI, 288, .inl (ia M_delayEarly))), ((a 8), .inl (cI, 288, .inl (ia M_delayLate))), ((a 12), .inl (cI, 48, .inl (ia M_wayCount))), ((a 13), .inl (cI, 384, .inl (ia M_wayBase))), ((a 14), .inl (cI, 384, .inl (ia M_wayEarly))), ((a 15), .inl (cI, 384, .inl (ia M_wayLate))), ((a 16), .inl (cI, 384, .inl (ia M_wayLast))), ((a 17), .inl (cI, 384, .inl (ia M_waySize))), ((a 18), .inl (cI, 18816, .inl (ia M_wayRows))), ((a 19), .inl (cI, 18816, .inl (ia M_waySpread))), ((a 20), .inl (cI, 96, .inl (ia M_clockWays))), ((a 28), .inl (cI, 60, .inl (ia M_atNode))), ((a 29), .inl (cI, 60, .inl (ia M_atChange))), ((a 30), .inl (cI, 60, .inl (ia M_atNext))), ((a 33), .inl (cI, 160, .inl (ia M_row)))]) sz) (QV D [(cI, .int), (cJ, .long), (cZ, .boolean)] ([(o_M a M_thrown M_period M_width M_nodes M_analysed M_gates M_startNode M_startChange M_startWay M_startBase M_startEarly M_startLate M_worstWith M_worstWithout M_all M_rowSize), ((a 2), .inl (cI, 48, .inl (ia M_pins))), ((a 3), .inl (cI, 144, .inl (ia M_froms))), ((a 4), .inl (cI, 144, .inl (ia M_wireEarly))), ((a 5), .inl (cI, 144, .inl (ia M_wireLate))), ((a 6), .inl (cI, 144, .inl (ia M_senses))), ((a 7), .inl (cI, 288, .inl (ia M_delayEarly))), ((a 8), .inl (cI, 288, .inl (ia M_delayLate))), ((a 12), .inl (cI, 48, .inl (ia M_wayCount))), ((a 13), .inl (cI, 384, .inl (ia M_wayBase))), ((a 14), .inl (cI, 384, .inl (ia M_wayEarly))), ((a 15), .inl (cI, 384, .inl (ia M_wayLate))), ((a 16), .inl (cI, 384, .inl (ia M_wayLast))), ((a 17), .inl (cI, 384, .inl (ia M_waySize))), ((a 18), .inl (cI, 18816, .inl (ia M_wayRows))), ((a 19), .inl (cI, 18816, .inl (ia M_waySpread))), ((a 20), .inl (cI, 96, .inl (ia M_clockWays))), ((a 28), .inl (cI, 60, .inl (ia M_atNode))), ((a 29), .inl (cI, 60, .inl (ia M_atChange))), ((a 30), .inl (cI, 60, .inl (ia M_atNext))), ((a 33), .inl (cI, 160, .inl (ia M_row)))]) sz ([(o_M a M_thrown M_period M_width M_nodes M_analysed M_gates M_startNode M_startChange M_startWay M_startBase M_startEarly M_startLate M_worstWith M_worstWithout M_all M_rowSize), ((a 2), .inl (cI, 48, .inl (ia M_pins))), ((a 3), .inl (cI, 144, .inl (ia M_froms))), ((a 4), .inl (cI, 144, .inl (ia M_wireEarly))), ((a 5), .inl (cI, 144, .inl (ia M_wireLate))), ((a 6), .inl (cI, 144, .inl (ia M_senses))), ((a 7), .inl (cI, 288, .inl (ia M_delayEarly))), ((a 8), .inl (cI, 288, .inl (ia M_delayLate))), ((a 12), .inl (cI, 48, .inl (ia z_M_wayCount))), ((a 13), .inl (cI, 384, .inl (ia z_M_wayBase))), ((a 14), .inl (cI, 384, .inl (ia z_M_wayEarly))), ((a 15), .inl (cI, 384, .inl (ia z_M_wayLate))), ((a 16), .inl (cI, 384, .inl (ia z_M_wayLast))), ((a 17), .inl (cI, 384, .inl (ia z_M_waySize))), ((a 18), .inl (cI, 18816, .inl (ia z_M_wayRows))), ((a 19), .inl (cI, 18816, .inl (ia z_M_waySpread))), ((a 20), .inl (cI, 96, .inl (ia M_clockWays))), ((a 28), .inl (cI, 60, .inl (ia z_M_atNode))), ((a 29), .inl (cI, 60, .inl (ia z_M_atChange))), ((a 30), .inl (cI, 60, .inl (ia z_M_atNext))), ((a 33), .inl (cI, 160, .inl (ia z_M_row)))])) 0 0 (va_A ([(o_M a M_thrown M_period M_width M_nodes M_analysed M_gates M_startNode M_startChange M_startWay M_startBase M_startEarly M_startLate M_worstWith M_worstWithout M_all M_rowSize), ((a 2), .inl (cI, 48, .inl (ia M_pins))), ((a 3), .inl (cI, 144, .inl (ia M_froms))), ((a 4), .inl (cI, 144, .inl (ia M_wireEarly))), ((a 5), .inl (cI, 144, .inl (ia M_wireLate))), ((a 6), .inl (cI, 144, .inl (ia M_senses))), ((a 7), .inl (cI, 288, .inl (ia M_delayEarly))), ((a 8), .inl (cI, 288, .inl (ia M_delayLate))), ((a 12), .inl (cI, 48, .inl (ia M_wayCount))), ((a 13), .inl (cI, 384, .inl (ia M_wayBase))), ((a 14), .inl (cI, 384, .inl (ia M_wayEarly))), ((a 15), .inl (cI, 384, .inl (ia M_wayLate))), ((a 16), .inl (cI, 384, .inl (ia M_wayLast))), ((a 17), .inl (cI, 384, .inl (ia M_waySize))), ((a 18), .inl (cI, 18816, .inl (ia M_wayRows))), ((a 19), .inl (cI, 18816, .inl (ia M_waySpread))), ((a 20), .inl (cI, 96, .inl (ia M_clockWays))), ((a 28), .inl (cI, 60, .inl (ia M_atNode))), ((a 29), .inl (cI, 60, .inl (ia M_atChange))), ((a 30), .inl (cI, 60, .inl (ia M_atNext))), ((a 33), .inl (cI, 160, .inl (ia M_row)))]) sz) := by
  refine Met.ofW (cc := prog_12_method_24_code) (maxL := 7) (ret := (Option.none : Option Jvm.ClassFile.FieldType)) (by decide) rfl ?_
  intro p e s m args below meth c s₁ B hml hv
  obtain ⟨rfl, hsz, hP, hK, hD0, hN⟩ := hv
  have hx := B.exec
  have hb := B.bytes
  have hr := B.returns
  have hts := atoms_spec (ws := w_M_findWays) B.pre
  have hown : s.vm.findClass R_M = some m.cls := findClass_of_methodNamed B.named
  have hlocks := B.notSynchronized
  subst hsz
  have hD := hD0.self (sz := s.heap.size)
  obtain ⟨A, hAe⟩ : ∃ A, A = va_A ([(o_M a M_thrown M_period M_width M_nodes M_analysed M_gates M_startNode M_startChange M_startWay M_startBase M_startEarly M_startLate M_worstWith M_worstWithout M_all M_rowSize), ((a 2), .inl (cI, 48, .inl (ia M_pins))), ((a 3), .inl (cI, 144, .inl (ia M_froms))), ((a 4), .inl (cI, 144, .inl (ia M_wireEarly))), ((a 5), .inl (cI, 144, .inl (ia M_wireLate))), ((a 6), .inl (cI, 144, .inl (ia M_senses))), ((a 7), .inl (cI, 288, .inl (ia M_delayEarly))), ((a 8), .inl (cI, 288, .inl (ia M_delayLate))), ((a 12), .inl (cI, 48, .inl (ia M_wayCount))), ((a 13), .inl (cI, 384, .inl (ia M_wayBase))), ((a 14), .inl (cI, 384, .inl (ia M_wayEarly))), ((a 15), .inl (cI, 384, .inl (ia M_wayLate))), ((a 16), .inl (cI, 384, .inl (ia M_wayLast))), ((a 17), .inl (cI, 384, .inl (ia M_waySize))), ((a 18), .inl (cI, 18816, .inl (ia M_wayRows))), ((a 19), .inl (cI, 18816, .inl (ia M_waySpread))), ((a 20), .inl (cI, 96, .inl (ia M_clockWays))), ((a 28), .inl (cI, 60, .inl (ia M_atNode))), ((a 29), .inl (cI, 60, .inl (ia M_atChange))), ((a 30), .inl (cI, 60, .inl (ia M_atNext))), ((a 33), .inl (cI, 160, .inl (ia M_row)))]) s.heap.size := ⟨_, rfl⟩
  rw [← hAe] at hD
  have hA : ∀ q : Nat, s.heap.size ≤ q → A q := fun q h => by rw [hAe]; exact Or.inr h
  have hS : va_S A s.heap s.heap [] := va_S.rf
  have hl := lv_entry ([.ref (a 0), .int (iI x1)]) (n := 7) (Nat.le_of_ble_eq_true rfl)
  rw [lg_entry_eq]
  generalize (lg_sl ([.ref (a 0), .int (iI x1)]) ++ List.replicate (7 - (lg_sl ([.ref (a 0), .int (iI x1)])).length) Slot.unset).toArray = ls at hl ⊢
  have hl : lv_has ls 7 [(0, .ref (a 0)), (1, .int (iI x1))] := hl
  generalize (List.toArray ([.ref (a 0), .int (iI x1)] : List Value)) = args at hts ⊢
  have hT : ∀ w ∈ Tg, w.before args s = true := fun w h => hts w (List.mem_cons_of_mem _ h)
  obtain ⟨Q, hQ⟩ : ∃ Q, Q = MQ below (QV D [(cI, .int), (cJ, .long), (cZ, .boolean)] ([(o_M a M_thrown M_period M_width M_nodes M_analysed M_gates M_startNode M_startChange M_startWay M_startBase M_startEarly M_startLate M_worstWith M_worstWithout M_all M_rowSize), ((a 2), .inl (cI, 48, .inl (ia M_pins))), ((a 3), .inl (cI, 144, .inl (ia M_froms))), ((a 4), .inl (cI, 144, .inl (ia M_wireEarly))), ((a 5), .inl (cI, 144, .inl (ia M_wireLate))), ((a 6), .inl (cI, 144, .inl (ia M_senses))), ((a 7), .inl (cI, 288, .inl (ia M_delayEarly))), ((a 8), .inl (cI, 288, .inl (ia M_delayLate))), ((a 12), .inl (cI, 48, .inl (ia M_wayCount))), ((a 13), .inl (cI, 384, .inl (ia M_wayBase))), ((a 14), .inl (cI, 384, .inl (ia M_wayEarly))), ((a 15), .inl (cI, 384, .inl (ia M_wayLate))), ((a 16), .inl (cI, 384, .inl (ia M_wayLast))), ((a 17), .inl (cI, 384, .inl (ia M_waySize))), ((a 18), .inl (cI, 18816, .inl (ia M_wayRows))), ((a 19), .inl (cI, 18816, .inl (ia M_waySpread))), ((a 20), .inl (cI, 96, .inl (ia M_clockWays))), ((a 28), .inl (cI, 60, .inl (ia M_atNode))), ((a 29), .inl (cI, 60, .inl (ia M_atChange))), ((a 30), .inl (cI, 60, .inl (ia M_atNext))), ((a 33), .inl (cI, 160, .inl (ia M_row)))]) s.heap.size ([(o_M a M_thrown M_period M_width M_nodes M_analysed M_gates M_startNode M_startChange M_startWay M_startBase M_startEarly M_startLate M_worstWith M_worstWithout M_all M_rowSize), ((a 2), .inl (cI, 48, .inl (ia M_pins))), ((a 3), .inl (cI, 144, .inl (ia M_froms))), ((a 4), .inl (cI, 144, .inl (ia M_wireEarly))), ((a 5), .inl (cI, 144, .inl (ia M_wireLate))), ((a 6), .inl (cI, 144, .inl (ia M_senses))), ((a 7), .inl (cI, 288, .inl (ia M_delayEarly))), ((a 8), .inl (cI, 288, .inl (ia M_delayLate))), ((a 12), .inl (cI, 48, .inl (ia z_M_wayCount))), ((a 13), .inl (cI, 384, .inl (ia z_M_wayBase))), ((a 14), .inl (cI, 384, .inl (ia z_M_wayEarly))), ((a 15), .inl (cI, 384, .inl (ia z_M_wayLate))), ((a 16), .inl (cI, 384, .inl (ia z_M_wayLast))), ((a 17), .inl (cI, 384, .inl (ia z_M_waySize))), ((a 18), .inl (cI, 18816, .inl (ia z_M_wayRows))), ((a 19), .inl (cI, 18816, .inl (ia z_M_waySpread))), ((a 20), .inl (cI, 96, .inl (ia M_clockWays))), ((a 28), .inl (cI, 60, .inl (ia z_M_atNode))), ((a 29), .inl (cI, 60, .inl (ia z_M_atChange))), ((a 30), .inl (cI, 60, .inl (ia z_M_atNext))), ((a 33), .inl (cI, 160, .inl (ia z_M_row)))])) args s 0 0 (va_A ([(o_M a M_thrown M_period M_width M_nodes M_analysed M_gates M_startNode M_startChange M_startWay M_startBase M_startEarly M_startLate M_worstWith M_worstWithout M_all M_rowSize), ((a 2), .inl (cI, 48, .inl (ia M_pins))), ((a 3), .inl (cI, 144, .inl (ia M_froms))), ((a 4), .inl (cI, 144, .inl (ia M_wireEarly))), ((a 5), .inl (cI, 144, .inl (ia M_wireLate))), ((a 6), .inl (cI, 144, .inl (ia M_senses))), ((a 7), .inl (cI, 288, .inl (ia M_delayEarly))), ((a 8), .inl (cI, 288, .inl (ia M_delayLate))), ((a 12), .inl (cI, 48, .inl (ia M_wayCount))), ((a 13), .inl (cI, 384, .inl (ia M_wayBase))), ((a 14), .inl (cI, 384, .inl (ia M_wayEarly))), ((a 15), .inl (cI, 384, .inl (ia M_wayLate))), ((a 16), .inl (cI, 384, .inl (ia M_wayLast))), ((a 17), .inl (cI, 384, .inl (ia M_waySize))), ((a 18), .inl (cI, 18816, .inl (ia M_wayRows))), ((a 19), .inl (cI, 18816, .inl (ia M_waySpread))), ((a 20), .inl (cI, 96, .inl (ia M_clockWays))), ((a 28), .inl (cI, 60, .inl (ia M_atNode))), ((a 29), .inl (cI, 60, .inl (ia M_atChange))), ((a 30), .inl (cI, 60, .inl (ia M_atNext))), ((a 33), .inl (cI, 160, .inl (ia M_row)))]) s.heap.size) := ⟨_, rfl⟩
  rw [← hQ]
  suffices hW : ∀ (H : Heap) (locs : List Loc), va_P D vwCl ([(o_M a M_thrown M_period M_width M_nodes M_analysed M_gates M_startNode M_startChange M_startWay M_startBase M_startEarly M_startLate M_worstWith M_worstWithout M_all M_rowSize), ((a 2), .inl (cI, 48, .inl (ia M_pins))), ((a 3), .inl (cI, 144, .inl (ia M_froms))), ((a 4), .inl (cI, 144, .inl (ia M_wireEarly))), ((a 5), .inl (cI, 144, .inl (ia M_wireLate))), ((a 6), .inl (cI, 144, .inl (ia M_senses))), ((a 7), .inl (cI, 288, .inl (ia M_delayEarly))), ((a 8), .inl (cI, 288, .inl (ia M_delayLate))), ((a 12), .inl (cI, 48, .inl (ia M_wayCount))), ((a 13), .inl (cI, 384, .inl (ia M_wayBase))), ((a 14), .inl (cI, 384, .inl (ia M_wayEarly))), ((a 15), .inl (cI, 384, .inl (ia M_wayLate))), ((a 16), .inl (cI, 384, .inl (ia M_wayLast))), ((a 17), .inl (cI, 384, .inl (ia M_waySize))), ((a 18), .inl (cI, 18816, .inl (ia M_wayRows))), ((a 19), .inl (cI, 18816, .inl (ia M_waySpread))), ((a 20), .inl (cI, 96, .inl (ia M_clockWays))), ((a 28), .inl (cI, 60, .inl (ia M_atNode))), ((a 29), .inl (cI, 60, .inl (ia M_atChange))), ((a 30), .inl (cI, 60, .inl (ia M_atNext))), ((a 33), .inl (cI, 160, .inl (ia M_row)))]) H → va_D A ([(o_M a M_thrown M_period M_width M_nodes M_analysed M_gates M_startNode M_startChange M_startWay M_startBase M_startEarly M_startLate M_worstWith M_worstWithout M_all M_rowSize), ((a 2), .inl (cI, 48, .inl (ia M_pins))), ((a 3), .inl (cI, 144, .inl (ia M_froms))), ((a 4), .inl (cI, 144, .inl (ia M_wireEarly))), ((a 5), .inl (cI, 144, .inl (ia M_wireLate))), ((a 6), .inl (cI, 144, .inl (ia M_senses))), ((a 7), .inl (cI, 288, .inl (ia M_delayEarly))), ((a 8), .inl (cI, 288, .inl (ia M_delayLate))), ((a 12), .inl (cI, 48, .inl (ia M_wayCount))), ((a 13), .inl (cI, 384, .inl (ia M_wayBase))), ((a 14), .inl (cI, 384, .inl (ia M_wayEarly))), ((a 15), .inl (cI, 384, .inl (ia M_wayLate))), ((a 16), .inl (cI, 384, .inl (ia M_wayLast))), ((a 17), .inl (cI, 384, .inl (ia M_waySize))), ((a 18), .inl (cI, 18816, .inl (ia M_wayRows))), ((a 19), .inl (cI, 18816, .inl (ia M_waySpread))), ((a 20), .inl (cI, 96, .inl (ia M_clockWays))), ((a 28), .inl (cI, 60, .inl (ia M_atNode))), ((a 29), .inl (cI, 60, .inl (ia M_atChange))), ((a 30), .inl (cI, 60, .inl (ia M_atNext))), ((a 33), .inl (cI, 160, .inl (ia M_row)))]) → va_S A s.heap H locs → W p l e (headSpec w_M_findWays rm_M_findWays).room s m args below meth c H locs 0 0 Q (F0 m 0 ls []) from hW s.heap [] hP hD hS
  clear hP hD hS
  intro H locs hP hD hS
  rw [f_M_findWays] at h
  refine lv_aload_n hx hb d_M_findWays_0 rfl (lv_at hl 0 rfl) ?_
  refine va_get (D := D) (ci := 10) (v := .ref (a 12)) (C := R_M) (T := F_M) (N := 53) hx hb hT in_M hown hK hP 0 rfl rfl 17 (by decide) (hT _ m1038) (fun _ h9 => h9) rfl d_M_findWays_1 ?_
  refine lv_iload_n hx hb d_M_findWays_4 rfl (lv_at hl 1 rfl) ?_
  refine zv_iconst hx hb d_M_findWays_5 ?_
  obtain ⟨hin, h⟩ := gi_e h
  refine zv_iast hx hb hK hP hD hS 8 0 rfl rfl (Nat.le_of_ble_eq_true rfl) hin d_M_findWays_6 (fun H locs hP hD hS => ?_)
  obtain ⟨M_wayCount_1, hv⟩ : ∃ z, z = (ui M_wayCount x1 0) := ⟨_, rfl⟩
  replace h := bd_e hv h
  have hP : va_P D vwCl [(o_M a M_thrown M_period M_width M_nodes M_analysed M_gates M_startNode M_startChange M_startWay M_startBase M_startEarly M_startLate M_worstWith M_worstWithout M_all M_rowSize), ((a 2), .inl (cI, 48, .inl (ia M_pins))), ((a 3), .inl (cI, 144, .inl (ia M_froms))), ((a 4), .inl (cI, 144, .inl (ia M_wireEarly))), ((a 5), .inl (cI, 144, .inl (ia M_wireLate))), ((a 6), .inl (cI, 144, .inl (ia M_senses))), ((a 7), .inl (cI, 288, .inl (ia M_delayEarly))), ((a 8), .inl (cI, 288, .inl (ia M_delayLate))), ((a 12), .inl (cI, 48, .inl (ia M_wayCount_1))), ((a 13), .inl (cI, 384, .inl (ia M_wayBase))), ((a 14), .inl (cI, 384, .inl (ia M_wayEarly))), ((a 15), .inl (cI, 384, .inl (ia M_wayLate))), ((a 16), .inl (cI, 384, .inl (ia M_wayLast))), ((a 17), .inl (cI, 384, .inl (ia M_waySize))), ((a 18), .inl (cI, 18816, .inl (ia M_wayRows))), ((a 19), .inl (cI, 18816, .inl (ia M_waySpread))), ((a 20), .inl (cI, 96, .inl (ia M_clockWays))), ((a 28), .inl (cI, 60, .inl (ia M_atNode))), ((a 29), .inl (cI, 60, .inl (ia M_atChange))), ((a 30), .inl (cI, 60, .inl (ia M_atNext))), ((a 33), .inl (cI, 160, .inl (ia M_row)))] H := by rw [hv]; exact hP
  have hD : va_D A [(o_M a M_thrown M_period M_width M_nodes M_analysed M_gates M_startNode M_startChange M_startWay M_startBase M_startEarly M_startLate M_worstWith M_worstWithout M_all M_rowSize), ((a 2), .inl (cI, 48, .inl (ia M_pins))), ((a 3), .inl (cI, 144, .inl (ia M_froms))), ((a 4), .inl (cI, 144, .inl (ia M_wireEarly))), ((a 5), .inl (cI, 144, .inl (ia M_wireLate))), ((a 6), .inl (cI, 144, .inl (ia M_senses))), ((a 7), .inl (cI, 288, .inl (ia M_delayEarly))), ((a 8), .inl (cI, 288, .inl (ia M_delayLate))), ((a 12), .inl (cI, 48, .inl (ia M_wayCount_1))), ((a 13), .inl (cI, 384, .inl (ia M_wayBase))), ((a 14), .inl (cI, 384, .inl (ia M_wayEarly))), ((a 15), .inl (cI, 384, .inl (ia M_wayLate))), ((a 16), .inl (cI, 384, .inl (ia M_wayLast))), ((a 17), .inl (cI, 384, .inl (ia M_waySize))), ((a 18), .inl (cI, 18816, .inl (ia M_wayRows))), ((a 19), .inl (cI, 18816, .inl (ia M_waySpread))), ((a 20), .inl (cI, 96, .inl (ia M_clockWays))), ((a 28), .inl (cI, 60, .inl (ia M_atNode))), ((a 29), .inl (cI, 60, .inl (ia M_atChange))), ((a 30), .inl (cI, 60, .inl (ia M_atNext))), ((a 33), .inl (cI, 160, .inl (ia M_row)))] := by rw [hv]; exact hD
  refine lv_aload_n hx hb d_M_findWays_7 rfl (lv_at hl 0 rfl) ?_
  refine va_get (D := D) (ci := 10) (v := .ref (a 3)) (C := R_M) (T := F_M) (N := 53) hx hb hT in_M hown hK hP 0 rfl rfl 6 (by decide) (hT _ m1027) (fun _ h9 => h9) rfl d_M_findWays_8 ?_
  refine zv_iconst hx hb d_M_findWays_11 ?_
  refine lv_iload_n hx hb d_M_findWays_12 rfl (lv_at hl 1 rfl) ?_
  refine zv_imul hx hb d_M_findWays_13 ?_
  refine zv_iconst hx hb d_M_findWays_14 ?_
  refine zv_iadd hx hb d_M_findWays_15 ?_
  obtain ⟨hin, h⟩ := gi_e h
  refine zv_iald hx hb hK hP 2 0 rfl rfl (Nat.le_of_ble_eq_true rfl) hin d_M_findWays_16 ?_
  refine zv_top (fun v2 hv => ?_)
  replace h := bd_e hv h
  refine lv_istore_n (lv' := [(2, .int (iI v2)), (0, .ref (a 0)), (1, .int (iI x1))]) hx hb d_M_findWays_17 rfl hl (by decide) rfl (fun ls hl => ?_)
  refine lv_iload_n hx hb d_M_findWays_18 rfl (lv_at hl 0 rfl) ?_
  obtain ⟨hg0, h⟩ := gr_e h
  refine zi_lt hx hb d_M_findWays_19 rfl hg0 (fun hc => ?_) (fun hc => ?_)
  · replace h := if_t hc h
    obtain ⟨e1, e2, e3, e4, e5, e6, e7, e8, e9, e10, e11, e12⟩ := so12 h
    rw [hQ, e1, e2, e3, e4, e5, e6, e7, e8, e9, e10, e11, e12]; rw [hAe] at hD hS; exact W.vret hx hb hr (fun t ht hW => ⟨⟨(), rfl, trivial, by rw [ht]; exact hP, va_K.moved hW.alike hK, hD⟩, hS.F ht⟩) hS.2.2 d_M_findWays_33
  · replace h := if_f hc h
    refine lv_aload_n hx hb d_M_findWays_22 rfl (lv_at hl 1 rfl) ?_
    refine va_get (D := D) (ci := 10) (v := .ref (a 20)) (C := R_M) (T := F_M) (N := 53) hx hb hT in_M hown hK hP 0 rfl rfl 25 (by decide) (hT _ m1046) (fun _ h9 => h9) rfl d_M_findWays_23 ?_
    refine zv_iconst hx hb d_M_findWays_26 ?_
    refine lv_iload_n hx hb d_M_findWays_27 rfl (lv_at hl 0 rfl) ?_
    refine zv_imul hx hb d_M_findWays_28 ?_
    obtain ⟨hin, h⟩ := gi_e h
    refine zv_iald hx hb hK hP 16 0 rfl rfl (Nat.le_of_ble_eq_true rfl) hin d_M_findWays_29 ?_
    obtain ⟨hg0, h⟩ := gr_e h
    refine zi_ne hx hb d_M_findWays_30 rfl hg0 (fun hc => ?_) (fun hc => ?_)
    · replace h := if_f hc h
      refine zv_iconst hx hb d_M_findWays_34 ?_
      refine lv_istore_n (lv' := [(3, .int (iI 0)), (2, .int (iI v2)), (0, .ref (a 0)), (1, .int (iI x1))]) hx hb d_M_findWays_35 rfl hl (by decide) rfl (fun ls hl => ?_)
      refine lv_aload_n hx hb d_M_findWays_36 rfl (lv_at hl 2 rfl) ?_
      refine va_get (D := D) (ci := 10) (v := .ref (a 28)) (C := R_M) (T := F_M) (N := 53) hx hb hT in_M hown hK hP 0 rfl rfl 42 (by decide) (hT _ m1063) (fun _ h9 => h9) rfl d_M_findWays_37 ?_
      refine zv_iconst hx hb d_M_findWays_40 ?_
      refine lv_iload_n hx hb d_M_findWays_41 rfl (lv_at hl 1 rfl) ?_
      obtain ⟨hin, h⟩ := gi_e h
      refine zv_iast hx hb hK hP hD hS 17 0 rfl rfl (Nat.le_of_ble_eq_true rfl) hin d_M_findWays_42 (fun H locs hP hD hS => ?_)
      obtain ⟨M_atNode_2, hv⟩ : ∃ z, z = (ui M_atNode 0 v2) := ⟨_, rfl⟩
      replace h := bd_e hv h
      have hP : va_P D vwCl [(o_M a M_thrown M_period M_width M_nodes M_analysed M_gates M_startNode M_startChange M_startWay M_startBase M_startEarly M_startLate M_worstWith M_worstWithout M_all M_rowSize), ((a 2), .inl (cI, 48, .inl (ia M_pins))), ((a 3), .inl (cI, 144, .inl (ia M_froms))), ((a 4), .inl (cI, 144, .inl (ia M_wireEarly))), ((a 5), .inl (cI, 144, .inl (ia M_wireLate))), ((a 6), .inl (cI, 144, .inl (ia M_senses))), ((a 7), .inl (cI, 288, .inl (ia M_delayEarly))), ((a 8), .inl (cI, 288, .inl (ia M_delayLate))), ((a 12), .inl (cI, 48, .inl (ia M_wayCount_1))), ((a 13), .inl (cI, 384, .inl (ia M_wayBase))), ((a 14), .inl (cI, 384, .inl (ia M_wayEarly))), ((a 15), .inl (cI, 384, .inl (ia M_wayLate))), ((a 16), .inl (cI, 384, .inl (ia M_wayLast))), ((a 17), .inl (cI, 384, .inl (ia M_waySize))), ((a 18), .inl (cI, 18816, .inl (ia M_wayRows))), ((a 19), .inl (cI, 18816, .inl (ia M_waySpread))), ((a 20), .inl (cI, 96, .inl (ia M_clockWays))), ((a 28), .inl (cI, 60, .inl (ia M_atNode_2))), ((a 29), .inl (cI, 60, .inl (ia M_atChange))), ((a 30), .inl (cI, 60, .inl (ia M_atNext))), ((a 33), .inl (cI, 160, .inl (ia M_row)))] H := by rw [hv]; exact hP
      have hD : va_D A [(o_M a M_thrown M_period M_width M_nodes M_analysed M_gates M_startNode M_startChange M_startWay M_startBase M_startEarly M_startLate M_worstWith M_worstWithout M_all M_rowSize), ((a 2), .inl (cI, 48, .inl (ia M_pins))), ((a 3), .inl (cI, 144, .inl (ia M_froms))), ((a 4), .inl (cI, 144, .inl (ia M_wireEarly))), ((a 5), .inl (cI, 144, .inl (ia M_wireLate))), ((a 6), .inl (cI, 144, .inl (ia M_senses))), ((a 7), .inl (cI, 288, .inl (ia M_delayEarly))), ((a 8), .inl (cI, 288, .inl (ia M_delayLate))), ((a 12), .inl (cI, 48, .inl (ia M_wayCount_1))), ((a 13), .inl (cI, 384, .inl (ia M_wayBase))), ((a 14), .inl (cI, 384, .inl (ia M_wayEarly))), ((a 15), .inl (cI, 384, .inl (ia M_wayLate))), ((a 16), .inl (cI, 384, .inl (ia M_wayLast))), ((a 17), .inl (cI, 384, .inl (ia M_waySize))), ((a 18), .inl (cI, 18816, .inl (ia M_wayRows))), ((a 19), .inl (cI, 18816, .inl (ia M_waySpread))), ((a 20), .inl (cI, 96, .inl (ia M_clockWays))), ((a 28), .inl (cI, 60, .inl (ia M_atNode_2))), ((a 29), .inl (cI, 60, .inl (ia M_atChange))), ((a 30), .inl (cI, 60, .inl (ia M_atNext))), ((a 33), .inl (cI, 160, .inl (ia M_row)))] := by rw [hv]; exact hD
      refine lv_aload_n hx hb d_M_findWays_43 rfl (lv_at hl 2 rfl) ?_
      refine va_get (D := D) (ci := 10) (v := .ref (a 29)) (C := R_M) (T := F_M) (N := 53) hx hb hT in_M hown hK hP 0 rfl rfl 43 (by decide) (hT _ m1064) (fun _ h9 => h9) rfl d_M_findWays_44 ?_
      refine zv_iconst hx hb d_M_findWays_47 ?_
      refine zv_iconst hx hb d_M_findWays_48 ?_
      obtain ⟨hin, h⟩ := gi_e h
      refine zv_iast hx hb hK hP hD hS 18 0 rfl rfl (Nat.le_of_ble_eq_true rfl) hin d_M_findWays_49 (fun H locs hP hD hS => ?_)
      obtain ⟨M_atChange_3, hv⟩ : ∃ z, z = (ui M_atChange 0 0) := ⟨_, rfl⟩
      replace h := bd_e hv h
      have hP : va_P D vwCl [(o_M a M_thrown M_period M_width M_nodes M_analysed M_gates M_startNode M_startChange M_startWay M_startBase M_startEarly M_startLate M_worstWith M_worstWithout M_all M_rowSize), ((a 2), .inl (cI, 48, .inl (ia M_pins))), ((a 3), .inl (cI, 144, .inl (ia M_froms))), ((a 4), .inl (cI, 144, .inl (ia M_wireEarly))), ((a 5), .inl (cI, 144, .inl (ia M_wireLate))), ((a 6), .inl (cI, 144, .inl (ia M_senses))), ((a 7), .inl (cI, 288, .inl (ia M_delayEarly))), ((a 8), .inl (cI, 288, .inl (ia M_delayLate))), ((a 12), .inl (cI, 48, .inl (ia M_wayCount_1))), ((a 13), .inl (cI, 384, .inl (ia M_wayBase))), ((a 14), .inl (cI, 384, .inl (ia M_wayEarly))), ((a 15), .inl (cI, 384, .inl (ia M_wayLate))), ((a 16), .inl (cI, 384, .inl (ia M_wayLast))), ((a 17), .inl (cI, 384, .inl (ia M_waySize))), ((a 18), .inl (cI, 18816, .inl (ia M_wayRows))), ((a 19), .inl (cI, 18816, .inl (ia M_waySpread))), ((a 20), .inl (cI, 96, .inl (ia M_clockWays))), ((a 28), .inl (cI, 60, .inl (ia M_atNode_2))), ((a 29), .inl (cI, 60, .inl (ia M_atChange_3))), ((a 30), .inl (cI, 60, .inl (ia M_atNext))), ((a 33), .inl (cI, 160, .inl (ia M_row)))] H := by rw [hv]; exact hP
      have hD : va_D A [(o_M a M_thrown M_period M_width M_nodes M_analysed M_gates M_startNode M_startChange M_startWay M_startBase M_startEarly M_startLate M_worstWith M_worstWithout M_all M_rowSize), ((a 2), .inl (cI, 48, .inl (ia M_pins))), ((a 3), .inl (cI, 144, .inl (ia M_froms))), ((a 4), .inl (cI, 144, .inl (ia M_wireEarly))), ((a 5), .inl (cI, 144, .inl (ia M_wireLate))), ((a 6), .inl (cI, 144, .inl (ia M_senses))), ((a 7), .inl (cI, 288, .inl (ia M_delayEarly))), ((a 8), .inl (cI, 288, .inl (ia M_delayLate))), ((a 12), .inl (cI, 48, .inl (ia M_wayCount_1))), ((a 13), .inl (cI, 384, .inl (ia M_wayBase))), ((a 14), .inl (cI, 384, .inl (ia M_wayEarly))), ((a 15), .inl (cI, 384, .inl (ia M_wayLate))), ((a 16), .inl (cI, 384, .inl (ia M_wayLast))), ((a 17), .inl (cI, 384, .inl (ia M_waySize))), ((a 18), .inl (cI, 18816, .inl (ia M_wayRows))), ((a 19), .inl (cI, 18816, .inl (ia M_waySpread))), ((a 20), .inl (cI, 96, .inl (ia M_clockWays))), ((a 28), .inl (cI, 60, .inl (ia M_atNode_2))), ((a 29), .inl (cI, 60, .inl (ia M_atChange_3))), ((a 30), .inl (cI, 60, .inl (ia M_atNext))), ((a 33), .inl (cI, 160, .inl (ia M_row)))] := by rw [hv]; exact hD
      refine lv_aload_n hx hb d_M_findWays_50 rfl (lv_at hl 2 rfl) ?_
      refine va_get (D := D) (ci := 10) (v := .ref (a 30)) (C := R_M) (T := F_M) (N := 53) hx hb hT in_M hown hK hP 0 rfl rfl 44 (by decide) (hT _ m1065) (fun _ h9 => h9) rfl d_M_findWays_51 ?_
      refine zv_iconst hx hb d_M_findWays_54 ?_
      refine zv_iconst hx hb d_M_findWays_55 ?_
      obtain ⟨hin, h⟩ := gi_e h
      refine zv_iast hx hb hK hP hD hS 19 0 rfl rfl (Nat.le_of_ble_eq_true rfl) hin d_M_findWays_56 (fun H locs hP hD hS => ?_)
      obtain ⟨M_atNext_4, hv⟩ : ∃ z, z = (ui M_atNext 0 0) := ⟨_, rfl⟩
      replace h := bd_e hv h
      have hP : va_P D vwCl [(o_M a M_thrown M_period M_width M_nodes M_analysed M_gates M_startNode M_startChange M_startWay M_startBase M_startEarly M_startLate M_worstWith M_worstWithout M_all M_rowSize), ((a 2), .inl (cI, 48, .inl (ia M_pins))), ((a 3), .inl (cI, 144, .inl (ia M_froms))), ((a 4), .inl (cI, 144, .inl (ia M_wireEarly))), ((a 5), .inl (cI, 144, .inl (ia M_wireLate))), ((a 6), .inl (cI, 144, .inl (ia M_senses))), ((a 7), .inl (cI, 288, .inl (ia M_delayEarly))), ((a 8), .inl (cI, 288, .inl (ia M_delayLate))), ((a 12), .inl (cI, 48, .inl (ia M_wayCount_1))), ((a 13), .inl (cI, 384, .inl (ia M_wayBase))), ((a 14), .inl (cI, 384, .inl (ia M_wayEarly))), ((a 15), .inl (cI, 384, .inl (ia M_wayLate))), ((a 16), .inl (cI, 384, .inl (ia M_wayLast))), ((a 17), .inl (cI, 384, .inl (ia M_waySize))), ((a 18), .inl (cI, 18816, .inl (ia M_wayRows))), ((a 19), .inl (cI, 18816, .inl (ia M_waySpread))), ((a 20), .inl (cI, 96, .inl (ia M_clockWays))), ((a 28), .inl (cI, 60, .inl (ia M_atNode_2))), ((a 29), .inl (cI, 60, .inl (ia M_atChange_3))), ((a 30), .inl (cI, 60, .inl (ia M_atNext_4))), ((a 33), .inl (cI, 160, .inl (ia M_row)))] H := by rw [hv]; exact hP
      have hD : va_D A [(o_M a M_thrown M_period M_width M_nodes M_analysed M_gates M_startNode M_startChange M_startWay M_startBase M_startEarly M_startLate M_worstWith M_worstWithout M_all M_rowSize), ((a 2), .inl (cI, 48, .inl (ia M_pins))), ((a 3), .inl (cI, 144, .inl (ia M_froms))), ((a 4), .inl (cI, 144, .inl (ia M_wireEarly))), ((a 5), .inl (cI, 144, .inl (ia M_wireLate))), ((a 6), .inl (cI, 144, .inl (ia M_senses))), ((a 7), .inl (cI, 288, .inl (ia M_delayEarly))), ((a 8), .inl (cI, 288, .inl (ia M_delayLate))), ((a 12), .inl (cI, 48, .inl (ia M_wayCount_1))), ((a 13), .inl (cI, 384, .inl (ia M_wayBase))), ((a 14), .inl (cI, 384, .inl (ia M_wayEarly))), ((a 15), .inl (cI, 384, .inl (ia M_wayLate))), ((a 16), .inl (cI, 384, .inl (ia M_wayLast))), ((a 17), .inl (cI, 384, .inl (ia M_waySize))), ((a 18), .inl (cI, 18816, .inl (ia M_wayRows))), ((a 19), .inl (cI, 18816, .inl (ia M_waySpread))), ((a 20), .inl (cI, 96, .inl (ia M_clockWays))), ((a 28), .inl (cI, 60, .inl (ia M_atNode_2))), ((a 29), .inl (cI, 60, .inl (ia M_atChange_3))), ((a 30), .inl (cI, 60, .inl (ia M_atNext_4))), ((a 33), .inl (cI, 160, .inl (ia M_row)))] := by rw [hv]; exact hD
      have hl57 : ∀ (nf : Nat) (v3 : Int) (M_wayCount_5 : Int → Int) (M_wayBase_6 : Int → Int) (M_wayEarly_7 : Int → Int) (M_wayLate_8 : Int → Int) (M_wayLast_9 : Int → Int) (M_waySize_10 : Int → Int) (M_wayRows_11 : Int → Int) (M_waySpread_12 : Int → Int) (M_atNode_13 : Int → Int) (M_atChange_14 : Int → Int) (M_atNext_15 : Int → Int) (M_row_16 : Int → Int) (H : Heap) (locs : List Loc) (ls : Array Slot), va_P D vwCl [(o_M a M_thrown M_period M_width M_nodes M_analysed M_gates M_startNode M_startChange M_startWay M_startBase M_startEarly M_startLate M_worstWith M_worstWithout M_all M_rowSize), ((a 2), .inl (cI, 48, .inl (ia M_pins))), ((a 3), .inl (cI, 144, .inl (ia M_froms))), ((a 4), .inl (cI, 144, .inl (ia M_wireEarly))), ((a 5), .inl (cI, 144, .inl (ia M_wireLate))), ((a 6), .inl (cI, 144, .inl (ia M_senses))), ((a 7), .inl (cI, 288, .inl (ia M_delayEarly))), ((a 8), .inl (cI, 288, .inl (ia M_delayLate))), ((a 12), .inl (cI, 48, .inl (ia M_wayCount_5))), ((a 13), .inl (cI, 384, .inl (ia M_wayBase_6))), ((a 14), .inl (cI, 384, .inl (ia M_wayEarly_7))), ((a 15), .inl (cI, 384, .inl (ia M_wayLate_8))), ((a 16), .inl (cI, 384, .inl (ia M_wayLast_9))), ((a 17), .inl (cI, 384, .inl (ia M_waySize_10))), ((a 18), .inl (cI, 18816, .inl (ia M_wayRows_11))), ((a 19), .inl (cI, 18816, .inl (ia M_waySpread_12))), ((a 20), .inl (cI, 96, .inl (ia M_clockWays))), ((a 28), .inl (cI, 60, .inl (ia M_atNode_13))), ((a 29), .inl (cI, 60, .inl (ia M_atChange_14))), ((a 30), .inl (cI, 60, .inl (ia M_atNext_15))), ((a 33), .inl (cI, 160, .inl (ia M_row_16)))] H → va_D A [(o_M a M_thrown M_period M_width M_nodes M_analysed M_gates M_startNode M_startChange M_startWay M_startBase M_startEarly M_startLate M_worstWith M_worstWithout M_all M_rowSize), ((a 2), .inl (cI, 48, .inl (ia M_pins))), ((a 3), .inl (cI, 144, .inl (ia M_froms))), ((a 4), .inl (cI, 144, .inl (ia M_wireEarly))), ((a 5), .inl (cI, 144, .inl (ia M_wireLate))), ((a 6), .inl (cI, 144, .inl (ia M_senses))), ((a 7), .inl (cI, 288, .inl (ia M_delayEarly))), ((a 8), .inl (cI, 288, .inl (ia M_delayLate))), ((a 12), .inl (cI, 48, .inl (ia M_wayCount_5))), ((a 13), .inl (cI, 384, .inl (ia M_wayBase_6))), ((a 14), .inl (cI, 384, .inl (ia M_wayEarly_7))), ((a 15), .inl (cI, 384, .inl (ia M_wayLate_8))), ((a 16), .inl (cI, 384, .inl (ia M_wayLast_9))), ((a 17), .inl (cI, 384, .inl (ia M_waySize_10))), ((a 18), .inl (cI, 18816, .inl (ia M_wayRows_11))), ((a 19), .inl (cI, 18816, .inl (ia M_waySpread_12))), ((a 20), .inl (cI, 96, .inl (ia M_clockWays))), ((a 28), .inl (cI, 60, .inl (ia M_atNode_13))), ((a 29), .inl (cI, 60, .inl (ia M_atChange_14))), ((a 30), .inl (cI, 60, .inl (ia M_atNext_15))), ((a 33), .inl (cI, 160, .inl (ia M_row_16)))] → va_S A s.heap H locs → lv_has ls 7 [(0, .ref (a 0)), (1, .int (iI x1)), (3, .int (iI v3))] → lq13 (f_M_findWays_b57 F M_width M_pins M_froms M_wireEarly M_wireLate M_senses M_delayEarly M_delayLate M_clockWays x1) nf v3 M_wayCount_5 M_wayBase_6 M_wayEarly_7 M_wayLate_8 M_wayLast_9 M_waySize_10 M_wayRows_11 M_waySpread_12 M_atNode_13 M_atChange_14 M_atNext_15 M_row_16 = some (z_M_wayCount, z_M_wayBase, z_M_wayEarly, z_M_wayLate, z_M_wayLast, z_M_waySize, z_M_wayRows, z_M_waySpread, z_M_atNode, z_M_atChange, z_M_atNext, z_M_row) → W p l e (headSpec w_M_findWays rm_M_findWays).room s m args below meth c H locs 0 0 Q (F0 m 57 ls []) := by
        intro n57
        induction n57 with
        | zero => intro v3 M_wayCount_5 M_wayBase_6 M_wayEarly_7 M_wayLate_8 M_wayLast_9 M_waySize_10 M_wayRows_11 M_waySpread_12 M_atNode_13 M_atChange_14 M_atNext_15 M_row_16 H locs ls hP hD hS hl h; exact no_some h
        | succ n57 ih57 =>
          intro v3 M_wayCount_5 M_wayBase_6 M_wayEarly_7 M_wayLate_8 M_wayLast_9 M_waySize_10 M_wayRows_11 M_waySpread_12 M_atNode_13 M_atChange_14 M_atNext_15 M_row_16 H locs ls hP hD hS hl h
          replace h : f_M_findWays_b57 F M_width M_pins M_froms M_wireEarly M_wireLate M_senses M_delayEarly M_delayLate M_clockWays x1 (lq13 (f_M_findWays_b57 F M_width M_pins M_froms M_wireEarly M_wireLate M_senses M_delayEarly M_delayLate M_clockWays x1) n57) v3 M_wayCount_5 M_wayBase_6 M_wayEarly_7 M_wayLate_8 M_wayLast_9 M_waySize_10 M_wayRows_11 M_waySpread_12 M_atNode_13 M_atChange_14 M_atNext_15 M_row_16 = some (z_M_wayCount, z_M_wayBase, z_M_wayEarly, z_M_wayLate, z_M_wayLast, z_M_waySize, z_M_wayRows, z_M_waySpread, z_M_atNode, z_M_atChange, z_M_atNext, z_M_row) := h
          obtain ⟨self57, hs57⟩ : ∃ z, z = lq13 (f_M_findWays_b57 F M_width M_pins M_froms M_wireEarly M_wireLate M_senses M_delayEarly M_delayLate M_clockWays x1) n57 := ⟨_, rfl⟩
          rw [← hs57] at h ih57
          rw [f_M_findWays_b57] at h
          refine lv_iload_n hx hb d_M_findWays_57 rfl (lv_at hl 2 rfl) ?_
          obtain ⟨hg0, h⟩ := gr_e h
          refine zi_lt hx hb d_M_findWays_58 rfl hg0 (fun hc => ?_) (fun hc => ?_)
          · replace h := if_t hc h
            obtain ⟨e1, e2, e3, e4, e5, e6, e7, e8, e9, e10, e11, e12⟩ := so12 h
            rw [hQ, e1, e2, e3, e4, e5, e6, e7, e8, e9, e10, e11, e12]; rw [hAe] at hD hS; exact W.vret hx hb hr (fun t ht hW => ⟨⟨(), rfl, trivial, by rw [ht]; exact hP, va_K.moved hW.alike hK, hD⟩, hS.F ht⟩) hS.2.2 d_M_findWays_253
          · replace h := if_f hc h
            refine lv_aload_n hx hb d_M_findWays_61 rfl (lv_at hl 0 rfl) ?_
            refine va_get (D := D) (ci := 10) (v := .ref (a 28)) (C := R_M) (T := F_M) (N := 53) hx hb hT in_M hown hK hP 0 rfl rfl 42 (by decide) (hT _ m1063) (fun _ h9 => h9) rfl d_M_findWays_62 ?_
            refine lv_iload_n hx hb d_M_findWays_65 rfl (lv_at hl 2 rfl) ?_
            obtain ⟨hin, h⟩ := gi_e h
            refine zv_iald hx hb hK hP 17 0 rfl rfl (Nat.le_of_ble_eq_true rfl) hin d_M_findWays_66 ?_
            refine zv_top (fun v4 hv => ?_)
            replace h := bd_e hv h
            refine lv_istore (lv' := [(4, .int (iI v4)), (0, .ref (a 0)), (1, .int (iI x1)), (3, .int (iI v3))]) hx hb d_M_findWays_67 hl (by decide) rfl (fun ls hl => ?_)
            refine lv_iload hx hb d_M_findWays_69 (lv_at hl 0 rfl) ?_
            obtain ⟨hg0, h⟩ := gr_e h
            refine zi_ne hx hb d_M_findWays_71 rfl hg0 (fun hc => ?_) (fun hc => ?_)
            · replace h := if_f hc h
              refine lv_aload_n hx hb d_M_findWays_98 rfl (lv_at hl 1 rfl) ?_
              refine va_get (D := D) (ci := 10) (v := .ref (a 30)) (C := R_M) (T := F_M) (N := 53) hx hb hT in_M hown hK hP 0 rfl rfl 44 (by decide) (hT _ m1065) (fun _ h9 => h9) rfl d_M_findWays_99 ?_
              refine lv_iload_n hx hb d_M_findWays_102 rfl (lv_at hl 3 rfl) ?_
              obtain ⟨hin, h⟩ := gi_e h
              refine zv_iald hx hb hK hP 19 0 rfl rfl (Nat.le_of_ble_eq_true rfl) hin d_M_findWays_103 ?_
              refine zv_top (fun v5 hv => ?_)
              replace h := bd_e hv h
              refine lv_istore (lv' := [(5, .int (iI v5)), (4, .int (iI v4)), (0, .ref (a 0)), (1, .int (iI x1)), (3, .int (iI v3))]) hx hb d_M_findWays_104 hl (by decide) rfl (fun ls hl => ?_)
              refine lv_aload_n hx hb d_M_findWays_106 rfl (lv_at hl 2 rfl) ?_
              refine va_get (D := D) (ci := 10) (v := .ref (a 30)) (C := R_M) (T := F_M) (N := 53) hx hb hT in_M hown hK hP 0 rfl rfl 44 (by decide) (hT _ m1065) (fun _ h9 => h9) rfl d_M_findWays_107 ?_
              refine lv_iload_n hx hb d_M_findWays_110 rfl (lv_at hl 4 rfl) ?_
              refine lv_dup2_11 hx hb d_M_findWays_111 rfl rfl ?_
              obtain ⟨hin, h⟩ := gi_e h
              refine zv_iald hx hb hK hP 19 0 rfl rfl (Nat.le_of_ble_eq_true rfl) hin d_M_findWays_112 ?_
              refine zv_iconst hx hb d_M_findWays_113 ?_
              refine zv_iadd hx hb d_M_findWays_114 ?_
              obtain ⟨hin, h⟩ := gi_e h
              refine zv_iast hx hb hK hP hD hS 19 0 rfl rfl (Nat.le_of_ble_eq_true rfl) hin d_M_findWays_115 (fun H locs hP hD hS => ?_)
              obtain ⟨M_atNext_17, hv⟩ : ∃ z, z = (ui M_atNext_15 v3 ((M_atNext_15 v3) + 1)) := ⟨_, rfl⟩
              replace h := bd_e hv h
              have hP : va_P D vwCl [(o_M a M_thrown M_period M_width M_nodes M_analysed M_gates M_startNode M_startChange M_startWay M_startBase M_startEarly M_startLate M_worstWith M_worstWithout M_all M_rowSize), ((a 2), .inl (cI, 48, .inl (ia M_pins))), ((a 3), .inl (cI, 144, .inl (ia M_froms))), ((a 4), .inl (cI, 144, .inl (ia M_wireEarly))), ((a 5), .inl (cI, 144, .inl (ia M_wireLate))), ((a 6), .inl (cI, 144, .inl (ia M_senses))), ((a 7), .inl (cI, 288, .inl (ia M_delayEarly))), ((a 8), .inl (cI, 288, .inl (ia M_delayLate))), ((a 12), .inl (cI, 48, .inl (ia M_wayCount_5))), ((a 13), .inl (cI, 384, .inl (ia M_wayBase_6))), ((a 14), .inl (cI, 384, .inl (ia M_wayEarly_7))), ((a 15), .inl (cI, 384, .inl (ia M_wayLate_8))), ((a 16), .inl (cI, 384, .inl (ia M_wayLast_9))), ((a 17), .inl (cI, 384, .inl (ia M_waySize_10))), ((a 18), .inl (cI, 18816, .inl (ia M_wayRows_11))), ((a 19), .inl (cI, 18816, .inl (ia M_waySpread_12))), ((a 20), .inl (cI, 96, .inl (ia M_clockWays))), ((a 28), .inl (cI, 60, .inl (ia M_atNode_13))), ((a 29), .inl (cI, 60, .inl (ia M_atChange_14))), ((a 30), .inl (cI, 60, .inl (ia M_atNext_17))), ((a 33), .inl (cI, 160, .inl (ia M_row_16)))] H := by rw [hv]; exact hP
              have hD : va_D A [(o_M a M_thrown M_period M_width M_nodes M_analysed M_gates M_startNode M_startChange M_startWay M_startBase M_startEarly M_startLate M_worstWith M_worstWithout M_all M_rowSize), ((a 2), .inl (cI, 48, .inl (ia M_pins))), ((a 3), .inl (cI, 144, .inl (ia M_froms))), ((a 4), .inl (cI, 144, .inl (ia M_wireEarly))), ((a 5), .inl (cI, 144, .inl (ia M_wireLate))), ((a 6), .inl (cI, 144, .inl (ia M_senses))), ((a 7), .inl (cI, 288, .inl (ia M_delayEarly))), ((a 8), .inl (cI, 288, .inl (ia M_delayLate))), ((a 12), .inl (cI, 48, .inl (ia M_wayCount_5))), ((a 13), .inl (cI, 384, .inl (ia M_wayBase_6))), ((a 14), .inl (cI, 384, .inl (ia M_wayEarly_7))), ((a 15), .inl (cI, 384, .inl (ia M_wayLate_8))), ((a 16), .inl (cI, 384, .inl (ia M_wayLast_9))), ((a 17), .inl (cI, 384, .inl (ia M_waySize_10))), ((a 18), .inl (cI, 18816, .inl (ia M_wayRows_11))), ((a 19), .inl (cI, 18816, .inl (ia M_waySpread_12))), ((a 20), .inl (cI, 96, .inl (ia M_clockWays))), ((a 28), .inl (cI, 60, .inl (ia M_atNode_13))), ((a 29), .inl (cI, 60, .inl (ia M_atChange_14))), ((a 30), .inl (cI, 60, .inl (ia M_atNext_17))), ((a 33), .inl (cI, 160, .inl (ia M_row_16)))] := by rw [hv]; exact hD
              refine lv_iload hx hb d_M_findWays_116 (lv_at hl 0 rfl) ?_
              refine zv_iconst hx hb d_M_findWays_118 ?_
              refine lv_aload_n hx hb d_M_findWays_119 rfl (lv_at hl 2 rfl) ?_
              refine va_get (D := D) (ci := 10) (v := .ref (a 2)) (C := R_M) (T := F_M) (N := 53) hx hb hT in_M hown hK hP 0 rfl rfl 5 (by decide) (hT _ m1026) (fun _ h9 => h9) rfl d_M_findWays_120 ?_
              refine lv_iload hx hb d_M_findWays_123 (lv_at hl 1 rfl) ?_
              obtain ⟨hin, h⟩ := gi_e h
              refine zv_iald hx hb hK hP 1 0 rfl rfl (Nat.le_of_ble_eq_true rfl) hin d_M_findWays_125 ?_
              refine zv_imul hx hb d_M_findWays_126 ?_
              obtain ⟨hg0, h⟩ := gr_e h
              obtain ⟨hg1, h⟩ := gr_e h
              refine zc_lt hx hb d_M_findWays_127 rfl hg0 hg1 (fun hc => ?_) (fun hc => ?_)
              · replace h := if_t hc h
                refine lv_aload_n hx hb d_M_findWays_136 rfl (lv_at hl 2 rfl) ?_
                refine va_get (D := D) (ci := 10) (v := .ref (a 3)) (C := R_M) (T := F_M) (N := 53) hx hb hT in_M hown hK hP 0 rfl rfl 6 (by decide) (hT _ m1027) (fun _ h9 => h9) rfl d_M_findWays_137 ?_
                refine zv_iconst hx hb d_M_findWays_140 ?_
                refine lv_iload hx hb d_M_findWays_141 (lv_at hl 1 rfl) ?_
                refine zv_imul hx hb d_M_findWays_143 ?_
                refine lv_iload hx hb d_M_findWays_144 (lv_at hl 0 rfl) ?_
                refine zv_iconst hx hb d_M_findWays_146 ?_
                obtain ⟨hg, h⟩ := gp_e h
                refine zv_idiv hx hb d_M_findWays_147 hg (by decide) ?_
                refine zv_iadd hx hb d_M_findWays_148 ?_
                obtain ⟨hin, h⟩ := gi_e h
                refine zv_iald hx hb hK hP 2 0 rfl rfl (Nat.le_of_ble_eq_true rfl) hin d_M_findWays_149 ?_
                refine zv_top (fun v6 hv => ?_)
                replace h := bd_e hv h
                refine lv_istore (lv' := [(6, .int (iI v6)), (5, .int (iI v5)), (4, .int (iI v4)), (0, .ref (a 0)), (1, .int (iI x1)), (3, .int (iI v3))]) hx hb d_M_findWays_150 hl (by decide) rfl (fun ls hl => ?_)
                refine lv_iload hx hb d_M_findWays_152 (lv_at hl 0 rfl) ?_
                have hj250 : ∀ (v3_18 : Int) (M_atNode_19 : Int → Int) (M_atChange_20 : Int → Int) (M_atNext_21 : Int → Int) (M_row_22 : Int → Int) (H : Heap) (locs : List Loc) (ls : Array Slot), va_P D vwCl [(o_M a M_thrown M_period M_width M_nodes M_analysed M_gates M_startNode M_startChange M_startWay M_startBase M_startEarly M_startLate M_worstWith M_worstWithout M_all M_rowSize), ((a 2), .inl (cI, 48, .inl (ia M_pins))), ((a 3), .inl (cI, 144, .inl (ia M_froms))), ((a 4), .inl (cI, 144, .inl (ia M_wireEarly))), ((a 5), .inl (cI, 144, .inl (ia M_wireLate))), ((a 6), .inl (cI, 144, .inl (ia M_senses))), ((a 7), .inl (cI, 288, .inl (ia M_delayEarly))), ((a 8), .inl (cI, 288, .inl (ia M_delayLate))), ((a 12), .inl (cI, 48, .inl (ia M_wayCount_5))), ((a 13), .inl (cI, 384, .inl (ia M_wayBase_6))), ((a 14), .inl (cI, 384, .inl (ia M_wayEarly_7))), ((a 15), .inl (cI, 384, .inl (ia M_wayLate_8))), ((a 16), .inl (cI, 384, .inl (ia M_wayLast_9))), ((a 17), .inl (cI, 384, .inl (ia M_waySize_10))), ((a 18), .inl (cI, 18816, .inl (ia M_wayRows_11))), ((a 19), .inl (cI, 18816, .inl (ia M_waySpread_12))), ((a 20), .inl (cI, 96, .inl (ia M_clockWays))), ((a 28), .inl (cI, 60, .inl (ia M_atNode_19))), ((a 29), .inl (cI, 60, .inl (ia M_atChange_20))), ((a 30), .inl (cI, 60, .inl (ia M_atNext_21))), ((a 33), .inl (cI, 160, .inl (ia M_row_22)))] H → va_D A [(o_M a M_thrown M_period M_width M_nodes M_analysed M_gates M_startNode M_startChange M_startWay M_startBase M_startEarly M_startLate M_worstWith M_worstWithout M_all M_rowSize), ((a 2), .inl (cI, 48, .inl (ia M_pins))), ((a 3), .inl (cI, 144, .inl (ia M_froms))), ((a 4), .inl (cI, 144, .inl (ia M_wireEarly))), ((a 5), .inl (cI, 144, .inl (ia M_wireLate))), ((a 6), .inl (cI, 144, .inl (ia M_senses))), ((a 7), .inl (cI, 288, .inl (ia M_delayEarly))), ((a 8), .inl (cI, 288, .inl (ia M_delayLate))), ((a 12), .inl (cI, 48, .inl (ia M_wayCount_5))), ((a 13), .inl (cI, 384, .inl (ia M_wayBase_6))), ((a 14), .inl (cI, 384, .inl (ia M_wayEarly_7))), ((a 15), .inl (cI, 384, .inl (ia M_wayLate_8))), ((a 16), .inl (cI, 384, .inl (ia M_wayLast_9))), ((a 17), .inl (cI, 384, .inl (ia M_waySize_10))), ((a 18), .inl (cI, 18816, .inl (ia M_wayRows_11))), ((a 19), .inl (cI, 18816, .inl (ia M_waySpread_12))), ((a 20), .inl (cI, 96, .inl (ia M_clockWays))), ((a 28), .inl (cI, 60, .inl (ia M_atNode_19))), ((a 29), .inl (cI, 60, .inl (ia M_atChange_20))), ((a 30), .inl (cI, 60, .inl (ia M_atNext_21))), ((a 33), .inl (cI, 160, .inl (ia M_row_22)))] → va_S A s.heap H locs → lv_has ls 7 [(0, .ref (a 0)), (1, .int (iI x1)), (3, .int (iI v3_18))] → f_M_findWays_j250 F M_wayCount_5 M_wayBase_6 M_wayEarly_7 M_wayLate_8 M_wayLast_9 M_waySize_10 M_wayRows_11 M_waySpread_12 self57 v3_18 M_atNode_19 M_atChange_20 M_atNext_21 M_row_22 = some (z_M_wayCount, z_M_wayBase, z_M_wayEarly, z_M_wayLate, z_M_wayLast, z_M_waySize, z_M_wayRows, z_M_waySpread, z_M_atNode, z_M_atChange, z_M_atNext, z_M_row) → W p l e (headSpec w_M_findWays rm_M_findWays).room s m args below meth c H locs 0 0 Q (F0 m 250 ls []) := by
                  intro v3_18 M_atNode_19 M_atChange_20 M_atNext_21 M_row_22 H locs ls hP hD hS hl h
                  rw [f_M_findWays_j250] at h
                  refine lv_goto hx hb d_M_findWays_250 rfl ?_
                  exact ih57 v3_18 M_wayCount_5 M_wayBase_6 M_wayEarly_7 M_wayLate_8 M_wayLast_9 M_waySize_10 M_wayRows_11 M_waySpread_12 M_atNode_19 M_atChange_20 M_atNext_21 M_row_22 H locs ls hP hD hS (lv_sub hl [0, 1, 2] rfl) h
                obtain ⟨hg0, h⟩ := gr_e h
                refine zi_lt hx hb d_M_findWays_154 rfl hg0 (fun hc => ?_) (fun hc => ?_)
                · replace h := if_t hc h
                  exact hj250 v3 M_atNode_13 M_atChange_14 M_atNext_17 M_row_16 H locs ls hP hD hS (lv_sub hl [3, 4, 5] rfl) h
                · replace h := if_f hc h
                  refine lv_aload_n hx hb d_M_findWays_157 rfl (lv_at hl 3 rfl) ?_
                  refine va_get (D := D) (ci := 10) (v := .ref (a 20)) (C := R_M) (T := F_M) (N := 53) hx hb hT in_M hown hK hP 0 rfl rfl 25 (by decide) (hT _ m1046) (fun _ h9 => h9) rfl d_M_findWays_158 ?_
                  refine zv_iconst hx hb d_M_findWays_161 ?_
                  refine lv_iload hx hb d_M_findWays_162 (lv_at hl 0 rfl) ?_
                  refine zv_imul hx hb d_M_findWays_164 ?_
                  refine lv_iload hx hb d_M_findWays_165 (lv_at hl 1 rfl) ?_
                  refine zv_iconst hx hb d_M_findWays_167 ?_
                  obtain ⟨hg, h⟩ := gp_e h
                  refine zv_irem hx hb d_M_findWays_168 hg (by decide) ?_
                  refine zv_iadd hx hb d_M_findWays_169 ?_
                  obtain ⟨hin, h⟩ := gi_e h
                  refine zv_iald hx hb hK hP 16 0 rfl rfl (Nat.le_of_ble_eq_true rfl) hin d_M_findWays_170 ?_
                  obtain ⟨hg0, h⟩ := gr_e h
                  refine zi_le hx hb d_M_findWays_171 rfl hg0 (fun hc => ?_) (fun hc => ?_)
                  · replace h := if_t hc h
                    exact hj250 v3 M_atNode_13 M_atChange_14 M_atNext_17 M_row_16 H locs ls hP hD hS (lv_sub hl [3, 4, 5] rfl) h
                  · replace h := if_f hc h
                    refine lv_aload_n hx hb d_M_findWays_174 rfl (lv_at hl 3 rfl) ?_
                    refine lv_iload hx hb d_M_findWays_175 (lv_at hl 2 rfl) ?_
                    refine lv_iload hx hb d_M_findWays_177 (lv_at hl 1 rfl) ?_
                    refine zv_iconst hx hb d_M_findWays_179 ?_
                    obtain ⟨hg, h⟩ := gp_e h
                    refine zv_idiv hx hb d_M_findWays_180 hg (by decide) ?_
                    refine lv_iload hx hb d_M_findWays_181 (lv_at hl 1 rfl) ?_
                    refine zv_iconst hx hb d_M_findWays_183 ?_
                    obtain ⟨hg, h⟩ := gp_e h
                    refine zv_irem hx hb d_M_findWays_184 hg (by decide) ?_
                    refine lv_aload_n hx hb d_M_findWays_185 rfl (lv_at hl 3 rfl) ?_
                    refine va_get (D := D) (ci := 10) (v := .ref (a 29)) (C := R_M) (T := F_M) (N := 53) hx hb hT in_M hown hK hP 0 rfl rfl 43 (by decide) (hT _ m1064) (fun _ h9 => h9) rfl d_M_findWays_186 ?_
                    refine lv_iload_n hx hb d_M_findWays_189 rfl (lv_at hl 5 rfl) ?_
                    obtain ⟨hin, h⟩ := gi_e h
                    refine zv_iald hx hb hK hP 18 0 rfl rfl (Nat.le_of_ble_eq_true rfl) hin d_M_findWays_190 ?_
                    obtain ⟨r191, hcall, h⟩ := ob1_e h
                    refine ro_i (va_Run.run (va_runV (As := [.int (iI v4), .int (iI (v5 / 2)), .int (iI (v5 % 2)), .int (iI (M_atChange_14 v3))]) (rest := []) ⟨hx, hb, hml, hown, hts⟩ (c_M_lets l D cI cJ cZ F a M_thrown M_period M_width M_nodes M_analysed M_gates M_startNode M_startChange M_startWay M_startBase M_startEarly M_startLate M_worstWith M_worstWithout M_all M_rowSize M_senses v4 (v5 / 2) (v5 % 2) (M_atChange_14 v3) r191 H.size hcall) (cwV 4 hts (gd_V m1266 m1263 m1265 sl_M_lets m12) rfl rfl rfl ⟨rfl, hc_M_lets⟩ ⟨Nat.le_of_ble_eq_true rfl, Nat.le_of_ble_eq_true rfl⟩) (pc_V 0 10 [.int (iI v4), .int (iI (v5 / 2)), .int (iI (v5 % 2)), .int (iI (M_atChange_14 v3))] hP hK hD hN [0, 5] rfl rfl rfl rfl rfl) rfl rfl hl.1 rfl (lv_room (Nat.le_of_ble_eq_true rfl)) d_M_findWays_191 ⟨Nat.le_refl 0, Nat.le_refl 0⟩)) (W.eq (g2 := F0 m 194 ls [.int (iI r191)]) rfl ?_)
                    obtain ⟨hg0, h⟩ := gr_e h
                    refine zi_eq hx hb d_M_findWays_194 rfl hg0 (fun hc => ?_) (fun hc => ?_)
                    · replace h := if_t hc h
                      exact hj250 v3 M_atNode_13 M_atChange_14 M_atNext_17 M_row_16 H locs ls hP hD hS (lv_sub hl [3, 4, 5] rfl) h
                    · replace h := if_f hc h
                      refine lv_aload_n hx hb d_M_findWays_197 rfl (lv_at hl 3 rfl) ?_
                      refine va_get (D := D) (ci := 10) (v := .ref (a 33)) (C := R_M) (T := F_M) (N := 53) hx hb hT in_M hown hK hP 0 rfl rfl 47 (by decide) (hT _ m1068) (fun _ h9 => h9) rfl d_M_findWays_198 ?_
                      refine lv_iload_n hx hb d_M_findWays_201 rfl (lv_at hl 5 rfl) ?_
                      refine lv_bipush (v := iI 8) hx hb d_M_findWays_202 (by decide) ?_
                      refine lv_iload hx hb d_M_findWays_204 (lv_at hl 2 rfl) ?_
                      refine zv_imul hx hb d_M_findWays_206 ?_
                      refine zv_iconst hx hb d_M_findWays_207 ?_
                      refine lv_iload hx hb d_M_findWays_208 (lv_at hl 1 rfl) ?_
                      refine zv_iconst hx hb d_M_findWays_210 ?_
                      obtain ⟨hg, h⟩ := gp_e h
                      refine zv_idiv hx hb d_M_findWays_211 hg (by decide) ?_
                      refine zv_imul hx hb d_M_findWays_212 ?_
                      refine zv_iadd hx hb d_M_findWays_213 ?_
                      refine lv_aload_n hx hb d_M_findWays_214 rfl (lv_at hl 3 rfl) ?_
                      refine va_get (D := D) (ci := 10) (v := .ref (a 29)) (C := R_M) (T := F_M) (N := 53) hx hb hT in_M hown hK hP 0 rfl rfl 43 (by decide) (hT _ m1064) (fun _ h9 => h9) rfl d_M_findWays_215 ?_
                      refine lv_iload_n hx hb d_M_findWays_218 rfl (lv_at hl 5 rfl) ?_
                      obtain ⟨hin, h⟩ := gi_e h
                      refine zv_iald hx hb hK hP 18 0 rfl rfl (Nat.le_of_ble_eq_true rfl) hin d_M_findWays_219 ?_
                      refine zv_iadd hx hb d_M_findWays_220 ?_
                      obtain ⟨hin, h⟩ := gi_e h
                      refine zv_iast hx hb hK hP hD hS 20 0 rfl rfl (Nat.le_of_ble_eq_true rfl) hin d_M_findWays_221 (fun H locs hP hD hS => ?_)
                      obtain ⟨M_row_23, hv⟩ : ∃ z, z = (ui M_row_16 v3 (((8 * v4) + (2 * (v5 / 2))) + (M_atChange_14 v3))) := ⟨_, rfl⟩
                      replace h := bd_e hv h
                      have hP : va_P D vwCl [(o_M a M_thrown M_period M_width M_nodes M_analysed M_gates M_startNode M_startChange M_startWay M_startBase M_startEarly M_startLate M_worstWith M_worstWithout M_all M_rowSize), ((a 2), .inl (cI, 48, .inl (ia M_pins))), ((a 3), .inl (cI, 144, .inl (ia M_froms))), ((a 4), .inl (cI, 144, .inl (ia M_wireEarly))), ((a 5), .inl (cI, 144, .inl (ia M_wireLate))), ((a 6), .inl (cI, 144, .inl (ia M_senses))), ((a 7), .inl (cI, 288, .inl (ia M_delayEarly))), ((a 8), .inl (cI, 288, .inl (ia M_delayLate))), ((a 12), .inl (cI, 48, .inl (ia M_wayCount_5))), ((a 13), .inl (cI, 384, .inl (ia M_wayBase_6))), ((a 14), .inl (cI, 384, .inl (ia M_wayEarly_7))), ((a 15), .inl (cI, 384, .inl (ia M_wayLate_8))), ((a 16), .inl (cI, 384, .inl (ia M_wayLast_9))), ((a 17), .inl (cI, 384, .inl (ia M_waySize_10))), ((a 18), .inl (cI, 18816, .inl (ia M_wayRows_11))), ((a 19), .inl (cI, 18816, .inl (ia M_waySpread_12))), ((a 20), .inl (cI, 96, .inl (ia M_clockWays))), ((a 28), .inl (cI, 60, .inl (ia M_atNode_13))), ((a 29), .inl (cI, 60, .inl (ia M_atChange_14))), ((a 30), .inl (cI, 60, .inl (ia M_atNext_17))), ((a 33), .inl (cI, 160, .inl (ia M_row_23)))] H := by rw [hv]; exact hP
                      have hD : va_D A [(o_M a M_thrown M_period M_width M_nodes M_analysed M_gates M_startNode M_startChange M_startWay M_startBase M_startEarly M_startLate M_worstWith M_worstWithout M_all M_rowSize), ((a 2), .inl (cI, 48, .inl (ia M_pins))), ((a 3), .inl (cI, 144, .inl (ia M_froms))), ((a 4), .inl (cI, 144, .inl (ia M_wireEarly))), ((a 5), .inl (cI, 144, .inl (ia M_wireLate))), ((a 6), .inl (cI, 144, .inl (ia M_senses))), ((a 7), .inl (cI, 288, .inl (ia M_delayEarly))), ((a 8), .inl (cI, 288, .inl (ia M_delayLate))), ((a 12), .inl (cI, 48, .inl (ia M_wayCount_5))), ((a 13), .inl (cI, 384, .inl (ia M_wayBase_6))), ((a 14), .inl (cI, 384, .inl (ia M_wayEarly_7))), ((a 15), .inl (cI, 384, .inl (ia M_wayLate_8))), ((a 16), .inl (cI, 384, .inl (ia M_wayLast_9))), ((a 17), .inl (cI, 384, .inl (ia M_waySize_10))), ((a 18), .inl (cI, 18816, .inl (ia M_wayRows_11))), ((a 19), .inl (cI, 18816, .inl (ia M_waySpread_12))), ((a 20), .inl (cI, 96, .inl (ia M_clockWays))), ((a 28), .inl (cI, 60, .inl (ia M_atNode_13))), ((a 29), .inl (cI, 60, .inl (ia M_atChange_14))), ((a 30), .inl (cI, 60, .inl (ia M_atNext_17))), ((a 33), .inl (cI, 160, .inl (ia M_row_23)))] := by rw [hv]; exact hD
                      refine lv_iinc (v := iI (v3 + 1)) (k := 5) (lv' := [(3, .int (iI (v3 + 1))), (6, .int (iI v6)), (5, .int (iI v5)), (4, .int (iI v4)), (0, .ref (a 0)), (1, .int (iI x1))]) hx hb d_M_findWays_222 hl rfl (iI_add _ _) (by decide) rfl (fun ls hl => ?_)
                      refine lv_aload_n hx hb d_M_findWays_225 rfl (lv_at hl 4 rfl) ?_
                      refine va_get (D := D) (ci := 10) (v := .ref (a 28)) (C := R_M) (T := F_M) (N := 53) hx hb hT in_M hown hK hP 0 rfl rfl 42 (by decide) (hT _ m1063) (fun _ h9 => h9) rfl d_M_findWays_226 ?_
                      refine lv_iload_n hx hb d_M_findWays_229 rfl (lv_at hl 0 rfl) ?_
                      refine lv_iload hx hb d_M_findWays_230 (lv_at hl 1 rfl) ?_
                      obtain ⟨hin, h⟩ := gi_e h
                      refine zv_iast hx hb hK hP hD hS 17 0 rfl rfl (Nat.le_of_ble_eq_true rfl) hin d_M_findWays_232 (fun H locs hP hD hS => ?_)
                      obtain ⟨M_atNode_24, hv⟩ : ∃ z, z = (ui M_atNode_13 (v3 + 1) v6) := ⟨_, rfl⟩
                      replace h := bd_e hv h
                      have hP : va_P D vwCl [(o_M a M_thrown M_period M_width M_nodes M_analysed M_gates M_startNode M_startChange M_startWay M_startBase M_startEarly M_startLate M_worstWith M_worstWithout M_all M_rowSize), ((a 2), .inl (cI, 48, .inl (ia M_pins))), ((a 3), .inl (cI, 144, .inl (ia M_froms))), ((a 4), .inl (cI, 144, .inl (ia M_wireEarly))), ((a 5), .inl (cI, 144, .inl (ia M_wireLate))), ((a 6), .inl (cI, 144, .inl (ia M_senses))), ((a 7), .inl (cI, 288, .inl (ia M_delayEarly))), ((a 8), .inl (cI, 288, .inl (ia M_delayLate))), ((a 12), .inl (cI, 48, .inl (ia M_wayCount_5))), ((a 13), .inl (cI, 384, .inl (ia M_wayBase_6))), ((a 14), .inl (cI, 384, .inl (ia M_wayEarly_7))), ((a 15), .inl (cI, 384, .inl (ia M_wayLate_8))), ((a 16), .inl (cI, 384, .inl (ia M_wayLast_9))), ((a 17), .inl (cI, 384, .inl (ia M_waySize_10))), ((a 18), .inl (cI, 18816, .inl (ia M_wayRows_11))), ((a 19), .inl (cI, 18816, .inl (ia M_waySpread_12))), ((a 20), .inl (cI, 96, .inl (ia M_clockWays))), ((a 28), .inl (cI, 60, .inl (ia M_atNode_24))), ((a 29), .inl (cI, 60, .inl (ia M_atChange_14))), ((a 30), .inl (cI, 60, .inl (ia M_atNext_17))), ((a 33), .inl (cI, 160, .inl (ia M_row_23)))] H := by rw [hv]; exact hP
                      have hD : va_D A [(o_M a M_thrown M_period M_width M_nodes M_analysed M_gates M_startNode M_startChange M_startWay M_startBase M_startEarly M_startLate M_worstWith M_worstWithout M_all M_rowSize), ((a 2), .inl (cI, 48, .inl (ia M_pins))), ((a 3), .inl (cI, 144, .inl (ia M_froms))), ((a 4), .inl (cI, 144, .inl (ia M_wireEarly))), ((a 5), .inl (cI, 144, .inl (ia M_wireLate))), ((a 6), .inl (cI, 144, .inl (ia M_senses))), ((a 7), .inl (cI, 288, .inl (ia M_delayEarly))), ((a 8), .inl (cI, 288, .inl (ia M_delayLate))), ((a 12), .inl (cI, 48, .inl (ia M_wayCount_5))), ((a 13), .inl (cI, 384, .inl (ia M_wayBase_6))), ((a 14), .inl (cI, 384, .inl (ia M_wayEarly_7))), ((a 15), .inl (cI, 384, .inl (ia M_wayLate_8))), ((a 16), .inl (cI, 384, .inl (ia M_wayLast_9))), ((a 17), .inl (cI, 384, .inl (ia M_waySize_10))), ((a 18), .inl (cI, 18816, .inl (ia M_wayRows_11))), ((a 19), .inl (cI, 18816, .inl (ia M_waySpread_12))), ((a 20), .inl (cI, 96, .inl (ia M_clockWays))), ((a 28), .inl (cI, 60, .inl (ia M_atNode_24))), ((a 29), .inl (cI, 60, .inl (ia M_atChange_14))), ((a 30), .inl (cI, 60, .inl (ia M_atNext_17))), ((a 33), .inl (cI, 160, .inl (ia M_row_23)))] := by rw [hv]; exact hD
                      refine lv_aload_n hx hb d_M_findWays_233 rfl (lv_at hl 4 rfl) ?_
                      refine va_get (D := D) (ci := 10) (v := .ref (a 29)) (C := R_M) (T := F_M) (N := 53) hx hb hT in_M hown hK hP 0 rfl rfl 43 (by decide) (hT _ m1064) (fun _ h9 => h9) rfl d_M_findWays_234 ?_
                      refine lv_iload_n hx hb d_M_findWays_237 rfl (lv_at hl 0 rfl) ?_
                      refine lv_iload hx hb d_M_findWays_238 (lv_at hl 2 rfl) ?_
                      refine zv_iconst hx hb d_M_findWays_240 ?_
                      obtain ⟨hg, h⟩ := gp_e h
                      refine zv_irem hx hb d_M_findWays_241 hg (by decide) ?_
                      obtain ⟨hin, h⟩ := gi_e h
                      refine zv_iast hx hb hK hP hD hS 18 0 rfl rfl (Nat.le_of_ble_eq_true rfl) hin d_M_findWays_242 (fun H locs hP hD hS => ?_)
                      obtain ⟨M_atChange_25, hv⟩ : ∃ z, z = (ui M_atChange_14 (v3 + 1) (v5 % 2)) := ⟨_, rfl⟩
                      replace h := bd_e hv h
                      have hP : va_P D vwCl [(o_M a M_thrown M_period M_width M_nodes M_analysed M_gates M_startNode M_startChange M_startWay M_startBase M_startEarly M_startLate M_worstWith M_worstWithout M_all M_rowSize), ((a 2), .inl (cI, 48, .inl (ia M_pins))), ((a 3), .inl (cI, 144, .inl (ia M_froms))), ((a 4), .inl (cI, 144, .inl (ia M_wireEarly))), ((a 5), .inl (cI, 144, .inl (ia M_wireLate))), ((a 6), .inl (cI, 144, .inl (ia M_senses))), ((a 7), .inl (cI, 288, .inl (ia M_delayEarly))), ((a 8), .inl (cI, 288, .inl (ia M_delayLate))), ((a 12), .inl (cI, 48, .inl (ia M_wayCount_5))), ((a 13), .inl (cI, 384, .inl (ia M_wayBase_6))), ((a 14), .inl (cI, 384, .inl (ia M_wayEarly_7))), ((a 15), .inl (cI, 384, .inl (ia M_wayLate_8))), ((a 16), .inl (cI, 384, .inl (ia M_wayLast_9))), ((a 17), .inl (cI, 384, .inl (ia M_waySize_10))), ((a 18), .inl (cI, 18816, .inl (ia M_wayRows_11))), ((a 19), .inl (cI, 18816, .inl (ia M_waySpread_12))), ((a 20), .inl (cI, 96, .inl (ia M_clockWays))), ((a 28), .inl (cI, 60, .inl (ia M_atNode_24))), ((a 29), .inl (cI, 60, .inl (ia M_atChange_25))), ((a 30), .inl (cI, 60, .inl (ia M_atNext_17))), ((a 33), .inl (cI, 160, .inl (ia M_row_23)))] H := by rw [hv]; exact hP
                      have hD : va_D A [(o_M a M_thrown M_period M_width M_nodes M_analysed M_gates M_startNode M_startChange M_startWay M_startBase M_startEarly M_startLate M_worstWith M_worstWithout M_all M_rowSize), ((a 2), .inl (cI, 48, .inl (ia M_pins))), ((a 3), .inl (cI, 144, .inl (ia M_froms))), ((a 4), .inl (cI, 144, .inl (ia M_wireEarly))), ((a 5), .inl (cI, 144, .inl (ia M_wireLate))), ((a 6), .inl (cI, 144, .inl (ia M_senses))), ((a 7), .inl (cI, 288, .inl (ia M_delayEarly))), ((a 8), .inl (cI, 288, .inl (ia M_delayLate))), ((a 12), .inl (cI, 48, .inl (ia M_wayCount_5))), ((a 13), .inl (cI, 384, .inl (ia M_wayBase_6))), ((a 14), .inl (cI, 384, .inl (ia M_wayEarly_7))), ((a 15), .inl (cI, 384, .inl (ia M_wayLate_8))), ((a 16), .inl (cI, 384, .inl (ia M_wayLast_9))), ((a 17), .inl (cI, 384, .inl (ia M_waySize_10))), ((a 18), .inl (cI, 18816, .inl (ia M_wayRows_11))), ((a 19), .inl (cI, 18816, .inl (ia M_waySpread_12))), ((a 20), .inl (cI, 96, .inl (ia M_clockWays))), ((a 28), .inl (cI, 60, .inl (ia M_atNode_24))), ((a 29), .inl (cI, 60, .inl (ia M_atChange_25))), ((a 30), .inl (cI, 60, .inl (ia M_atNext_17))), ((a 33), .inl (cI, 160, .inl (ia M_row_23)))] := by rw [hv]; exact hD
                      refine lv_aload_n hx hb d_M_findWays_243 rfl (lv_at hl 4 rfl) ?_
                      refine va_get (D := D) (ci := 10) (v := .ref (a 30)) (C := R_M) (T := F_M) (N := 53) hx hb hT in_M hown hK hP 0 rfl rfl 44 (by decide) (hT _ m1065) (fun _ h9 => h9) rfl d_M_findWays_244 ?_
                      refine lv_iload_n hx hb d_M_findWays_247 rfl (lv_at hl 0 rfl) ?_
                      refine zv_iconst hx hb d_M_findWays_248 ?_
                      obtain ⟨hin, h⟩ := gi_e h
                      refine zv_iast hx hb hK hP hD hS 19 0 rfl rfl (Nat.le_of_ble_eq_true rfl) hin d_M_findWays_249 (fun H locs hP hD hS => ?_)
                      obtain ⟨M_atNext_26, hv⟩ : ∃ z, z = (ui M_atNext_17 (v3 + 1) 0) := ⟨_, rfl⟩
                      replace h := bd_e hv h
                      have hP : va_P D vwCl [(o_M a M_thrown M_period M_width M_nodes M_analysed M_gates M_startNode M_startChange M_startWay M_startBase M_startEarly M_startLate M_worstWith M_worstWithout M_all M_rowSize), ((a 2), .inl (cI, 48, .inl (ia M_pins))), ((a 3), .inl (cI, 144, .inl (ia M_froms))), ((a 4), .inl (cI, 144, .inl (ia M_wireEarly))), ((a 5), .inl (cI, 144, .inl (ia M_wireLate))), ((a 6), .inl (cI, 144, .inl (ia M_senses))), ((a 7), .inl (cI, 288, .inl (ia M_delayEarly))), ((a 8), .inl (cI, 288, .inl (ia M_delayLate))), ((a 12), .inl (cI, 48, .inl (ia M_wayCount_5))), ((a 13), .inl (cI, 384, .inl (ia M_wayBase_6))), ((a 14), .inl (cI, 384, .inl (ia M_wayEarly_7))), ((a 15), .inl (cI, 384, .inl (ia M_wayLate_8))), ((a 16), .inl (cI, 384, .inl (ia M_wayLast_9))), ((a 17), .inl (cI, 384, .inl (ia M_waySize_10))), ((a 18), .inl (cI, 18816, .inl (ia M_wayRows_11))), ((a 19), .inl (cI, 18816, .inl (ia M_waySpread_12))), ((a 20), .inl (cI, 96, .inl (ia M_clockWays))), ((a 28), .inl (cI, 60, .inl (ia M_atNode_24))), ((a 29), .inl (cI, 60, .inl (ia M_atChange_25))), ((a 30), .inl (cI, 60, .inl (ia M_atNext_26))), ((a 33), .inl (cI, 160, .inl (ia M_row_23)))] H := by rw [hv]; exact hP
                      have hD : va_D A [(o_M a M_thrown M_period M_width M_nodes M_analysed M_gates M_startNode M_startChange M_startWay M_startBase M_startEarly M_startLate M_worstWith M_worstWithout M_all M_rowSize), ((a 2), .inl (cI, 48, .inl (ia M_pins))), ((a 3), .inl (cI, 144, .inl (ia M_froms))), ((a 4), .inl (cI, 144, .inl (ia M_wireEarly))), ((a 5), .inl (cI, 144, .inl (ia M_wireLate))), ((a 6), .inl (cI, 144, .inl (ia M_senses))), ((a 7), .inl (cI, 288, .inl (ia M_delayEarly))), ((a 8), .inl (cI, 288, .inl (ia M_delayLate))), ((a 12), .inl (cI, 48, .inl (ia M_wayCount_5))), ((a 13), .inl (cI, 384, .inl (ia M_wayBase_6))), ((a 14), .inl (cI, 384, .inl (ia M_wayEarly_7))), ((a 15), .inl (cI, 384, .inl (ia M_wayLate_8))), ((a 16), .inl (cI, 384, .inl (ia M_wayLast_9))), ((a 17), .inl (cI, 384, .inl (ia M_waySize_10))), ((a 18), .inl (cI, 18816, .inl (ia M_wayRows_11))), ((a 19), .inl (cI, 18816, .inl (ia M_waySpread_12))), ((a 20), .inl (cI, 96, .inl (ia M_clockWays))), ((a 28), .inl (cI, 60, .inl (ia M_atNode_24))), ((a 29), .inl (cI, 60, .inl (ia M_atChange_25))), ((a 30), .inl (cI, 60, .inl (ia M_atNext_26))), ((a 33), .inl (cI, 160, .inl (ia M_row_23)))] := by rw [hv]; exact hD
                      exact hj250 (v3 + 1) M_atNode_24 M_atChange_25 M_atNext_26 M_row_23 H locs ls hP hD hS (lv_sub hl [4, 5, 0] rfl) h
              · replace h := if_f hc h
                refine lv_iinc (v := iI (v3 + (-1))) (k := 4) (lv' := [(3, .int (iI (v3 + (-1)))), (5, .int (iI v5)), (4, .int (iI v4)), (0, .ref (a 0)), (1, .int (iI x1))]) hx hb d_M_findWays_130 hl rfl (iI_add _ _) (by decide) rfl (fun ls hl => ?_)
                refine lv_goto hx hb d_M_findWays_133 rfl ?_
                exact ih57 (v3 + (-1)) M_wayCount_5 M_wayBase_6 M_wayEarly_7 M_wayLate_8 M_wayLast_9 M_waySize_10 M_wayRows_11 M_waySpread_12 M_atNode_13 M_atChange_14 M_atNext_17 M_row_16 H locs ls hP hD hS (lv_sub hl [3, 4, 0] rfl) h
            · replace h := if_t hc h
              refine lv_aload_n hx hb d_M_findWays_74 rfl (lv_at hl 1 rfl) ?_
              refine va_get (D := D) (ci := 10) (v := .ref (a 33)) (C := R_M) (T := F_M) (N := 53) hx hb hT in_M hown hK hP 0 rfl rfl 47 (by decide) (hT _ m1068) (fun _ h9 => h9) rfl d_M_findWays_75 ?_
              refine lv_iload_n hx hb d_M_findWays_78 rfl (lv_at hl 3 rfl) ?_
              refine lv_aload_n hx hb d_M_findWays_79 rfl (lv_at hl 1 rfl) ?_
              refine va_get (D := D) (ci := 10) (v := .ref (a 29)) (C := R_M) (T := F_M) (N := 53) hx hb hT in_M hown hK hP 0 rfl rfl 43 (by decide) (hT _ m1064) (fun _ h9 => h9) rfl d_M_findWays_80 ?_
              refine lv_iload_n hx hb d_M_findWays_83 rfl (lv_at hl 3 rfl) ?_
              obtain ⟨hin, h⟩ := gi_e h
              refine zv_iald hx hb hK hP 18 0 rfl rfl (Nat.le_of_ble_eq_true rfl) hin d_M_findWays_84 ?_
              obtain ⟨hin, h⟩ := gi_e h
              refine zv_iast hx hb hK hP hD hS 20 0 rfl rfl (Nat.le_of_ble_eq_true rfl) hin d_M_findWays_85 (fun H locs hP hD hS => ?_)
              obtain ⟨M_row_27, hv⟩ : ∃ z, z = (ui M_row_16 v3 (M_atChange_14 v3)) := ⟨_, rfl⟩
              replace h := bd_e hv h
              have hP : va_P D vwCl [(o_M a M_thrown M_period M_width M_nodes M_analysed M_gates M_startNode M_startChange M_startWay M_startBase M_startEarly M_startLate M_worstWith M_worstWithout M_all M_rowSize), ((a 2), .inl (cI, 48, .inl (ia M_pins))), ((a 3), .inl (cI, 144, .inl (ia M_froms))), ((a 4), .inl (cI, 144, .inl (ia M_wireEarly))), ((a 5), .inl (cI, 144, .inl (ia M_wireLate))), ((a 6), .inl (cI, 144, .inl (ia M_senses))), ((a 7), .inl (cI, 288, .inl (ia M_delayEarly))), ((a 8), .inl (cI, 288, .inl (ia M_delayLate))), ((a 12), .inl (cI, 48, .inl (ia M_wayCount_5))), ((a 13), .inl (cI, 384, .inl (ia M_wayBase_6))), ((a 14), .inl (cI, 384, .inl (ia M_wayEarly_7))), ((a 15), .inl (cI, 384, .inl (ia M_wayLate_8))), ((a 16), .inl (cI, 384, .inl (ia M_wayLast_9))), ((a 17), .inl (cI, 384, .inl (ia M_waySize_10))), ((a 18), .inl (cI, 18816, .inl (ia M_wayRows_11))), ((a 19), .inl (cI, 18816, .inl (ia M_waySpread_12))), ((a 20), .inl (cI, 96, .inl (ia M_clockWays))), ((a 28), .inl (cI, 60, .inl (ia M_atNode_13))), ((a 29), .inl (cI, 60, .inl (ia M_atChange_14))), ((a 30), .inl (cI, 60, .inl (ia M_atNext_15))), ((a 33), .inl (cI, 160, .inl (ia M_row_27)))] H := by rw [hv]; exact hP
              have hD : va_D A [(o_M a M_thrown M_period M_width M_nodes M_analysed M_gates M_startNode M_startChange M_startWay M_startBase M_startEarly M_startLate M_worstWith M_worstWithout M_all M_rowSize), ((a 2), .inl (cI, 48, .inl (ia M_pins))), ((a 3), .inl (cI, 144, .inl (ia M_froms))), ((a 4), .inl (cI, 144, .inl (ia M_wireEarly))), ((a 5), .inl (cI, 144, .inl (ia M_wireLate))), ((a 6), .inl (cI, 144, .inl (ia M_senses))), ((a 7), .inl (cI, 288, .inl (ia M_delayEarly))), ((a 8), .inl (cI, 288, .inl (ia M_delayLate))), ((a 12), .inl (cI, 48, .inl (ia M_wayCount_5))), ((a 13), .inl (cI, 384, .inl (ia M_wayBase_6))), ((a 14), .inl (cI, 384, .inl (ia M_wayEarly_7))), ((a 15), .inl (cI, 384, .inl (ia M_wayLate_8))), ((a 16), .inl (cI, 384, .inl (ia M_wayLast_9))), ((a 17), .inl (cI, 384, .inl (ia M_waySize_10))), ((a 18), .inl (cI, 18816, .inl (ia M_wayRows_11))), ((a 19), .inl (cI, 18816, .inl (ia M_waySpread_12))), ((a 20), .inl (cI, 96, .inl (ia M_clockWays))), ((a 28), .inl (cI, 60, .inl (ia M_atNode_13))), ((a 29), .inl (cI, 60, .inl (ia M_atChange_14))), ((a 30), .inl (cI, 60, .inl (ia M_atNext_15))), ((a 33), .inl (cI, 160, .inl (ia M_row_27)))] := by rw [hv]; exact hD
              refine lv_aload_n hx hb d_M_findWays_86 rfl (lv_at hl 1 rfl) ?_
              refine lv_iload_n hx hb d_M_findWays_87 rfl (lv_at hl 2 rfl) ?_
              refine lv_iload_n hx hb d_M_findWays_88 rfl (lv_at hl 3 rfl) ?_
              obtain ⟨M_wayCount_28, M_wayBase_29, M_wayEarly_30, M_wayLate_31, M_wayLast_32, M_waySize_33, M_wayRows_34, M_waySpread_35, hcall, h⟩ := ob8_e h
              refine ca_v (w2 := [(o_M a M_thrown M_period M_width M_nodes M_analysed M_gates M_startNode M_startChange M_startWay M_startBase M_startEarly M_startLate M_worstWith M_worstWithout M_all M_rowSize), ((a 2), .inl (cI, 48, .inl (ia M_pins))), ((a 3), .inl (cI, 144, .inl (ia M_froms))), ((a 4), .inl (cI, 144, .inl (ia M_wireEarly))), ((a 5), .inl (cI, 144, .inl (ia M_wireLate))), ((a 6), .inl (cI, 144, .inl (ia M_senses))), ((a 7), .inl (cI, 288, .inl (ia M_delayEarly))), ((a 8), .inl (cI, 288, .inl (ia M_delayLate))), ((a 12), .inl (cI, 48, .inl (ia M_wayCount_28))), ((a 13), .inl (cI, 384, .inl (ia M_wayBase_29))), ((a 14), .inl (cI, 384, .inl (ia M_wayEarly_30))), ((a 15), .inl (cI, 384, .inl (ia M_wayLate_31))), ((a 16), .inl (cI, 384, .inl (ia M_wayLast_32))), ((a 17), .inl (cI, 384, .inl (ia M_waySize_33))), ((a 18), .inl (cI, 18816, .inl (ia M_wayRows_34))), ((a 19), .inl (cI, 18816, .inl (ia M_waySpread_35))), ((a 20), .inl (cI, 96, .inl (ia M_clockWays))), ((a 28), .inl (cI, 60, .inl (ia M_atNode_13))), ((a 29), .inl (cI, 60, .inl (ia M_atChange_14))), ((a 30), .inl (cI, 60, .inl (ia M_atNext_15))), ((a 33), .inl (cI, 160, .inl (ia M_row_27)))]) (va_runV (As := [.int (iI x1), .int (iI v3)]) (rest := []) ⟨hx, hb, hml, hown, hts⟩ (c_M_keepWay l D cI cJ cZ F a M_thrown M_period M_width M_nodes M_analysed M_gates M_startNode M_startChange M_startWay M_startBase M_startEarly M_startLate M_worstWith M_worstWithout M_all M_rowSize M_wireEarly M_wireLate M_delayEarly M_delayLate M_wayCount_5 M_wayBase_6 M_wayEarly_7 M_wayLate_8 M_wayLast_9 M_waySize_10 M_wayRows_11 M_waySpread_12 M_row_27 x1 v3 M_wayCount_28 M_wayBase_29 M_wayEarly_30 M_wayLate_31 M_wayLast_32 M_waySize_33 M_wayRows_34 M_waySpread_35 H.size hcall) (cwV 2 hts (gd_V m1274 m1271 m1273 sl_M_keepWay m12) rfl rfl rfl ⟨rfl, hc_M_keepWay⟩ ⟨Nat.le_of_ble_eq_true rfl, Nat.le_of_ble_eq_true rfl⟩) (pc_V 0 10 [.int (iI x1), .int (iI v3)] hP hK hD hN [0, 3, 4, 6, 7, 8, 9, 10, 11, 12, 13, 14, 15, 20] rfl rfl rfl rfl rfl) rfl rfl hl.1 rfl (lv_room (Nat.le_of_ble_eq_true rfl)) d_M_findWays_89 ⟨Nat.le_refl 0, Nat.le_refl 0⟩) hP hD hS hA [0, 3, 4, 6, 7, 8, 9, 10, 11, 12, 13, 14, 15, 20] [1, 2, 5, 16, 17, 18, 19] [7, 0, 1, 8, 9, 2, 10, 11, 12, 13, 14, 15, 16, 17, 18, 19, 3, 4, 5, 6, 20] rfl rfl rfl (by decide) rfl rfl rfl (fun H locs hP hD hS => ?_)
              refine lv_iinc (v := iI (v3 + (-1))) (k := 3) (lv' := [(3, .int (iI (v3 + (-1)))), (4, .int (iI v4)), (0, .ref (a 0)), (1, .int (iI x1))]) hx hb d_M_findWays_92 hl rfl (iI_add _ _) (by decide) rfl (fun ls hl => ?_)
              refine lv_goto hx hb d_M_findWays_95 rfl ?_
              exact ih57 (v3 + (-1)) M_wayCount_28 M_wayBase_29 M_wayEarly_30 M_wayLate_31 M_wayLast_32 M_waySize_33 M_wayRows_34 M_waySpread_35 M_atNode_13 M_atChange_14 M_atNext_15 M_row_27 H locs ls hP hD hS (lv_sub hl [2, 3, 0] rfl) h
      exact hl57 F 0 M_wayCount_1 M_wayBase M_wayEarly M_wayLate M_wayLast M_waySize M_wayRows M_waySpread M_atNode_2 M_atChange_3 M_atNext_4 M_row H locs ls hP hD hS (lv_sub hl [2, 3, 0] rfl) h
    · replace h := if_t hc h
      obtain ⟨e1, e2, e3, e4, e5, e6, e7, e8, e9, e10, e11, e12⟩ := so12 h
      rw [hQ, e1, e2, e3, e4, e5, e6, e7, e8, e9, e10, e11, e12]; rw [hAe] at hD hS; exact W.vret hx hb hr (fun t ht hW => ⟨⟨(), rfl, trivial, by rw [ht]; exact hP, va_K.moved hW.alike hK, hD⟩, hS.F ht⟩) hS.2.2 d_M_findWays_33
