abbrev rm_M_isGate : Room := { frames := 0, cells := 0, slots := 0, locals := 0 }
set_option maxHeartbeats 4000000 in
set_option maxRecDepth 100000 in
theorem c_M_isGate (l : Launch) (D : va_G) (cI cJ cZ : ClassId) (F : Nat) (a : Nat → Nat) (M_thrown : Int) (M_period : Int) (M_width : Int) (M_nodes : Int) (M_analysed : Int) (M_gates : Int) (M_startNode : Int) (M_startChange : Int) (M_startWay : Int) (M_startBase : Int) (M_startEarly : Int) (M_startLate : Int) (M_worstWith : Int) (M_worstWithout : Int) (M_all : Int64) (M_rowSize : Int) (M_kinds : Int → Int) (x1 : Int) (r : Int) (sz : Nat) (h : f_M_isGate F M_kinds x1 = some (r)) : Met l y_M_isGate w_M_isGate rm_M_isGate (PC D [(cI, .int), (cJ, .long), (cZ, .boolean)] [.ref (a 0), .int (iI x1)] ([(o_M a M_thrown M_period M_width M_nodes M_analysed M_gates M_startNode M_startChange M_startWay M_startBase M_startEarly M_startLate M_worstWith M_worstWithout M_all M_rowSize), ((a 1), .inl (cI, 48, .inl (ia M_kinds)))]) sz) (QcRead (iI r)) 0 0 (fun _ => False) := by
  refine Met.ofW (cc := prog_12_method_17_code) (maxL := 2) (ret := (Option.some Jvm.ClassFile.FieldType.boolean)) (by decide) rfl ?_
  intro p e s m args below meth c s₁ B hml hv
  obtain ⟨rfl, hsz, hP, hK, hD0, hN⟩ := hv
  have hx := B.exec
  have hb := B.bytes
  have hr := B.returns
  have hts := atoms_spec (ws := w_M_isGate) B.pre
  have hown : s.vm.findClass R_M = some m.cls := findClass_of_methodNamed B.named
  have hlocks := B.notSynchronized
  subst hsz
  have hl := lv_entry ([.ref (a 0), .int (iI x1)]) (n := 2) (Nat.le_of_ble_eq_true rfl)
  rw [lg_entry_eq]
  generalize (lg_sl ([.ref (a 0), .int (iI x1)]) ++ List.replicate (2 - (lg_sl ([.ref (a 0), .int (iI x1)])).length) Slot.unset).toArray = ls at hl ⊢
  have hl : lv_has ls 2 [(0, .ref (a 0)), (1, .int (iI x1))] := hl
  generalize (List.toArray ([.ref (a 0), .int (iI x1)] : List Value)) = args at hts ⊢
  have hT : ∀ w ∈ Tg, w.before args s = true := fun w h => hts w (List.mem_cons_of_mem _ h)
  obtain ⟨Q, hQ⟩ : ∃ Q, Q = MQ below (QcRead (iI r)) args s 0 0 (fun _ => False) := ⟨_, rfl⟩
  rw [← hQ]
  rw [f_M_isGate] at h
  refine lv_iload_n hx hb d_M_isGate_0 rfl (lv_at hl 1 rfl) ?_
  have hj18 : ∀  (ls : Array Slot), lv_has ls 2 [] → f_M_isGate_j18 F = some (r) → W p l e (headSpec w_M_isGate rm_M_isGate).room s m args below meth c s.heap [] 0 0 Q (F0 m 18 ls []) := by
    intro  ls hl h
    rw [f_M_isGate_j18] at h
    refine zv_iconst hx hb d_M_isGate_18 ?_
    obtain ⟨hbo, h⟩ := gb_e h
    have e1 := so1 h
    rw [hQ, e1]; exact W.zret (ty := .boolean) hx hb hr (gb_n hbo) (fun t ht hW => ⟨rfl, ht⟩) (fun q h => nomatch h) d_M_isGate_19
  obtain ⟨hg0, h⟩ := gr_e h
  refine zi_lt hx hb d_M_isGate_1 rfl hg0 (fun hc => ?_) (fun hc => ?_)
  · replace h := if_t hc h
    exact hj18  ls (lv_sub hl [] rfl) h
  · replace h := if_f hc h
    refine lv_aload_n hx hb d_M_isGate_4 rfl (lv_at hl 0 rfl) ?_
    refine va_get (D := D) (ci := 10) (v := .ref (a 1)) (C := R_M) (T := F_M) (N := 53) hx hb hT in_M hown hK hP 0 rfl rfl 4 (by decide) (hT _ m1025) (fun _ h9 => h9) rfl d_M_isGate_5 ?_
    refine lv_iload_n hx hb d_M_isGate_8 rfl (lv_at hl 1 rfl) ?_
    obtain ⟨hin, h⟩ := gi_e h
    refine zv_iald hx hb hK hP 1 0 rfl rfl (Nat.le_of_ble_eq_true rfl) hin d_M_isGate_9 ?_
    refine zv_iconst hx hb d_M_isGate_10 ?_
    obtain ⟨hg0, h⟩ := gr_e h
    refine zc_ne hx hb d_M_isGate_11 rfl hg0 (by decide) (fun hc => ?_) (fun hc => ?_)
    · replace h := if_f hc h
      exact hj18  ls (lv_sub hl [] rfl) h
    · replace h := if_t hc h
      refine zv_iconst hx hb d_M_isGate_14 ?_
      refine lv_goto hx hb d_M_isGate_15 rfl ?_
      obtain ⟨hbo, h⟩ := gb_e h
      have e1 := so1 h
      rw [hQ, e1]; exact W.zret (ty := .boolean) hx hb hr (gb_n hbo) (fun t ht hW => ⟨rfl, ht⟩) (fun q h => nomatch h) d_M_isGate_19
abbrev rm_M_isRound : Room := { frames := 1, cells := 0, slots := 0, locals := 21 }
set_option maxHeartbeats 4000000 in
set_option maxRecDepth 100000 in
theorem c_M_isRound (l : Launch) (D : va_G) (cI cJ cZ : ClassId) (F : Nat) (a : Nat → Nat) (M_thrown : Int) (M_period : Int) (M_width : Int) (M_nodes : Int) (M_analysed : Int) (M_gates : Int) (M_startNode : Int) (M_startChange : Int) (M_startWay : Int) (M_startBase : Int) (M_startEarly : Int) (M_startLate : Int) (M_worstWith : Int) (M_worstWithout : Int) (M_all : Int64) (M_rowSize : Int) (M_kinds : Int → Int) (M_pins : Int → Int) (M_froms : Int → Int) (M_there : Int → Int) (x1 : Int) (r : Int) (z_M_there : Int → Int) (sz : Nat) (h : f_M_isRound F M_nodes M_kinds M_pins M_froms M_there x1 = some (r, z_M_there)) : Met l y_M_isRound w_M_isRound rm_M_isRound (PC D [(cI, .int), (cJ, .long), (cZ, .boolean)] [.ref (a 0), .int (iI x1)] ([(o_M a M_thrown M_period M_width M_nodes M_analysed M_gates M_startNode M_startChange M_startWay M_startBase M_startEarly M_startLate M_worstWith M_worstWithout M_all M_rowSize), ((a 1), .inl (cI, 48, .inl (ia M_kinds))), ((a 2), .inl (cI, 48, .inl (ia M_pins))), ((a 3), .inl (cI, 144, .inl (ia M_froms))), ((a 21), .inl (cZ, 96, .inl (ia M_there)))]) sz) (QI D [(cI, .int), (cJ, .long), (cZ, .boolean)] ([(o_M a M_thrown M_period M_width M_nodes M_analysed M_gates M_startNode M_startChange M_startWay M_startBase M_startEarly M_startLate M_worstWith M_worstWithout M_all M_rowSize), ((a 1), .inl (cI, 48, .inl (ia M_kinds))), ((a 2), .inl (cI, 48, .inl (ia M_pins))), ((a 3), .inl (cI, 144, .inl (ia M_froms))), ((a 21), .inl (cZ, 96, .inl (ia M_there)))]) sz r ([(o_M a M_thrown M_period M_width M_nodes M_analysed M_gates M_startNode M_startChange M_startWay M_startBase M_startEarly M_startLate M_worstWith M_worstWithout M_all M_rowSize), ((a 1), .inl (cI, 48, .inl (ia M_kinds))), ((a 2), .inl (cI, 48, .inl (ia M_pins))), ((a 3), .inl (cI, 144, .inl (ia M_froms))), ((a 21), .inl (cZ, 96, .inl (ia z_M_there)))])) 0 0 (va_A ([(o_M a M_thrown M_period M_width M_nodes M_analysed M_gates M_startNode M_startChange M_startWay M_startBase M_startEarly M_startLate M_worstWith M_worstWithout M_all M_rowSize), ((a 1), .inl (cI, 48, .inl (ia M_kinds))), ((a 2), .inl (cI, 48, .inl (ia M_pins))), ((a 3), .inl (cI, 144, .inl (ia M_froms))), ((a 21), .inl (cZ, 96, .inl (ia M_there)))]) sz) := by
  refine Met.ofW (cc := prog_12_method_18_code) (maxL := 6) (ret := (Option.some Jvm.ClassFile.FieldType.boolean)) (by decide) rfl ?_
  intro p e s m args below meth c s₁ B hml hv
  obtain ⟨rfl, hsz, hP, hK, hD0, hN⟩ := hv
  have hx := B.exec
  have hb := B.bytes
  have hr := B.returns
  have hts := atoms_spec (ws := w_M_isRound) B.pre
  have hown : s.vm.findClass R_M = some m.cls := findClass_of_methodNamed B.named
  have hlocks := B.notSynchronized
  subst hsz
  have hD := hD0.self (sz := s.heap.size)
  obtain ⟨A, hAe⟩ : ∃ A, A = va_A ([(o_M a M_thrown M_period M_width M_nodes M_analysed M_gates M_startNode M_startChange M_startWay M_startBase M_startEarly M_startLate M_worstWith M_worstWithout M_all M_rowSize), ((a 1), .inl (cI, 48, .inl (ia M_kinds))), ((a 2), .inl (cI, 48, .inl (ia M_pins))), ((a 3), .inl (cI, 144, .inl (ia M_froms))), ((a 21), .inl (cZ, 96, .inl (ia M_there)))]) s.heap.size := ⟨_, rfl⟩
  rw [← hAe] at hD
  have hA : ∀ q : Nat, s.heap.size ≤ q → A q := fun q h => by rw [hAe]; exact Or.inr h
  have hS : va_S A s.heap s.heap [] := va_S.rf
  have hl := lv_entry ([.ref (a 0), .int (iI x1)]) (n := 6) (Nat.le_of_ble_eq_true rfl)
  rw [lg_entry_eq]
  generalize (lg_sl ([.ref (a 0), .int (iI x1)]) ++ List.replicate (6 - (lg_sl ([.ref (a 0), .int (iI x1)])).length) Slot.unset).toArray = ls at hl ⊢
  have hl : lv_has ls 6 [(0, .ref (a 0)), (1, .int (iI x1))] := hl
  generalize (List.toArray ([.ref (a 0), .int (iI x1)] : List Value)) = args at hts ⊢
  have hT : ∀ w ∈ Tg, w.before args s = true := fun w h => hts w (List.mem_cons_of_mem _ h)
  obtain ⟨Q, hQ⟩ : ∃ Q, Q = MQ below (QI D [(cI, .int), (cJ, .long), (cZ, .boolean)] ([(o_M a M_thrown M_period M_width M_nodes M_analysed M_gates M_startNode M_startChange M_startWay M_startBase M_startEarly M_startLate M_worstWith M_worstWithout M_all M_rowSize), ((a 1), .inl (cI, 48, .inl (ia M_kinds))), ((a 2), .inl (cI, 48, .inl (ia M_pins))), ((a 3), .inl (cI, 144, .inl (ia M_froms))), ((a 21), .inl (cZ, 96, .inl (ia M_there)))]) s.heap.size r ([(o_M a M_thrown M_period M_width M_nodes M_analysed M_gates M_startNode M_startChange M_startWay M_startBase M_startEarly M_startLate M_worstWith M_worstWithout M_all M_rowSize), ((a 1), .inl (cI, 48, .inl (ia M_kinds))), ((a 2), .inl (cI, 48, .inl (ia M_pins))), ((a 3), .inl (cI, 144, .inl (ia M_froms))), ((a 21), .inl (cZ, 96, .inl (ia z_M_there)))])) args s 0 0 (va_A ([(o_M a M_thrown M_period M_width M_nodes M_analysed M_gates M_startNode M_startChange M_startWay M_startBase M_startEarly M_startLate M_worstWith M_worstWithout M_all M_rowSize), ((a 1), .inl (cI, 48, .inl (ia M_kinds))), ((a 2), .inl (cI, 48, .inl (ia M_pins))), ((a 3), .inl (cI, 144, .inl (ia M_froms))), ((a 21), .inl (cZ, 96, .inl (ia M_there)))]) s.heap.size) := ⟨_, rfl⟩
  rw [← hQ]
  suffices hW : ∀ (H : Heap) (locs : List Loc), va_P D vwCl ([(o_M a M_thrown M_period M_width M_nodes M_analysed M_gates M_startNode M_startChange M_startWay M_startBase M_startEarly M_startLate M_worstWith M_worstWithout M_all M_rowSize), ((a 1), .inl (cI, 48, .inl (ia M_kinds))), ((a 2), .inl (cI, 48, .inl (ia M_pins))), ((a 3), .inl (cI, 144, .inl (ia M_froms))), ((a 21), .inl (cZ, 96, .inl (ia M_there)))]) H → va_D A ([(o_M a M_thrown M_period M_width M_nodes M_analysed M_gates M_startNode M_startChange M_startWay M_startBase M_startEarly M_startLate M_worstWith M_worstWithout M_all M_rowSize), ((a 1), .inl (cI, 48, .inl (ia M_kinds))), ((a 2), .inl (cI, 48, .inl (ia M_pins))), ((a 3), .inl (cI, 144, .inl (ia M_froms))), ((a 21), .inl (cZ, 96, .inl (ia M_there)))]) → va_S A s.heap H locs → W p l e (headSpec w_M_isRound rm_M_isRound).room s m args below meth c H locs 0 0 Q (F0 m 0 ls []) from hW s.heap [] hP hD hS
  clear hP hD hS
  intro H locs hP hD hS
  rw [f_M_isRound] at h
  refine zv_iconst hx hb d_M_isRound_0 ?_
  refine lv_istore_n (lv' := [(2, .int (iI 0)), (0, .ref (a 0)), (1, .int (iI x1))]) hx hb d_M_isRound_1 rfl hl (by decide) rfl (fun ls hl => ?_)
  have hl2 : ∀ (nf : Nat) (v2 : Int) (M_there_1 : Int → Int) (H : Heap) (locs : List Loc) (ls : Array Slot), va_P D vwCl [(o_M a M_thrown M_period M_width M_nodes M_analysed M_gates M_startNode M_startChange M_startWay M_startBase M_startEarly M_startLate M_worstWith M_worstWithout M_all M_rowSize), ((a 1), .inl (cI, 48, .inl (ia M_kinds))), ((a 2), .inl (cI, 48, .inl (ia M_pins))), ((a 3), .inl (cI, 144, .inl (ia M_froms))), ((a 21), .inl (cZ, 96, .inl (ia M_there_1)))] H → va_D A [(o_M a M_thrown M_period M_width M_nodes M_analysed M_gates M_startNode M_startChange M_startWay M_startBase M_startEarly M_startLate M_worstWith M_worstWithout M_all M_rowSize), ((a 1), .inl (cI, 48, .inl (ia M_kinds))), ((a 2), .inl (cI, 48, .inl (ia M_pins))), ((a 3), .inl (cI, 144, .inl (ia M_froms))), ((a 21), .inl (cZ, 96, .inl (ia M_there_1)))] → va_S A s.heap H locs → lv_has ls 6 [(0, .ref (a 0)), (1, .int (iI x1)), (2, .int (iI v2))] → lq2 (f_M_isRound_b2 F M_nodes M_kinds M_pins M_froms x1) nf v2 M_there_1 = some (r, z_M_there) → W p l e (headSpec w_M_isRound rm_M_isRound).room s m args below meth c H locs 0 0 Q (F0 m 2 ls []) := by
    intro n2
    induction n2 with
    | zero => intro v2 M_there_1 H locs ls hP hD hS hl h; exact no_some h
    | succ n2 ih2 =>
      intro v2 M_there_1 H locs ls hP hD hS hl h
      replace h : f_M_isRound_b2 F M_nodes M_kinds M_pins M_froms x1 (lq2 (f_M_isRound_b2 F M_nodes M_kinds M_pins M_froms x1) n2) v2 M_there_1 = some (r, z_M_there) := h
      obtain ⟨self2, hs2⟩ : ∃ z, z = lq2 (f_M_isRound_b2 F M_nodes M_kinds M_pins M_froms x1) n2 := ⟨_, rfl⟩
      rw [← hs2] at h ih2
      rw [f_M_isRound_b2] at h
      refine lv_iload_n hx hb d_M_isRound_2 rfl (lv_at hl 2 rfl) ?_
      refine lv_bipush (v := iI 96) hx hb d_M_isRound_3 (by decide) ?_
      obtain ⟨hg0, h⟩ := gr_e h
      refine zc_ge hx hb d_M_isRound_5 rfl hg0 (by decide) (fun hc => ?_) (fun hc => ?_)
      · replace h := if_t hc h
        refine lv_aload_n hx hb d_M_isRound_21 rfl (lv_at hl 0 rfl) ?_
        refine va_get (D := D) (ci := 10) (v := .ref (a 21)) (C := R_M) (T := F_M) (N := 53) hx hb hT in_M hown hK hP 0 rfl rfl 26 (by decide) (hT _ m1047) (fun _ h9 => h9) rfl d_M_isRound_22 ?_
        refine lv_iload_n hx hb d_M_isRound_25 rfl (lv_at hl 1 rfl) ?_
        refine zv_iconst hx hb d_M_isRound_26 ?_
        obtain ⟨hin, h⟩ := gi_e h
        refine zv_zast hx hb hK hP hD hS 4 2 rfl rfl (Nat.le_of_ble_eq_true rfl) hin (Or.inr rfl) d_M_isRound_27 (fun H locs hP hD hS => ?_)
        obtain ⟨M_there_2, hv⟩ : ∃ z, z = (ui M_there_1 x1 1) := ⟨_, rfl⟩
        replace h := bd_e hv h
        have hP : va_P D vwCl [(o_M a M_thrown M_period M_width M_nodes M_analysed M_gates M_startNode M_startChange M_startWay M_startBase M_startEarly M_startLate M_worstWith M_worstWithout M_all M_rowSize), ((a 1), .inl (cI, 48, .inl (ia M_kinds))), ((a 2), .inl (cI, 48, .inl (ia M_pins))), ((a 3), .inl (cI, 144, .inl (ia M_froms))), ((a 21), .inl (cZ, 96, .inl (ia M_there_2)))] H := by rw [hv]; exact hP
        have hD : va_D A [(o_M a M_thrown M_period M_width M_nodes M_analysed M_gates M_startNode M_startChange M_startWay M_startBase M_startEarly M_startLate M_worstWith M_worstWithout M_all M_rowSize), ((a 1), .inl (cI, 48, .inl (ia M_kinds))), ((a 2), .inl (cI, 48, .inl (ia M_pins))), ((a 3), .inl (cI, 144, .inl (ia M_froms))), ((a 21), .inl (cZ, 96, .inl (ia M_there_2)))] := by rw [hv]; exact hD
        refine zv_iconst hx hb d_M_isRound_28 ?_
        refine lv_istore_n (lv' := [(2, .int (iI 1)), (0, .ref (a 0)), (1, .int (iI x1))]) hx hb d_M_isRound_29 rfl hl (by decide) rfl (fun ls hl => ?_)
        have hl30 : ∀ (nf : Nat) (v2_3 : Int) (M_there_4 : Int → Int) (H : Heap) (locs : List Loc) (ls : Array Slot), va_P D vwCl [(o_M a M_thrown M_period M_width M_nodes M_analysed M_gates M_startNode M_startChange M_startWay M_startBase M_startEarly M_startLate M_worstWith M_worstWithout M_all M_rowSize), ((a 1), .inl (cI, 48, .inl (ia M_kinds))), ((a 2), .inl (cI, 48, .inl (ia M_pins))), ((a 3), .inl (cI, 144, .inl (ia M_froms))), ((a 21), .inl (cZ, 96, .inl (ia M_there_4)))] H → va_D A [(o_M a M_thrown M_period M_width M_nodes M_analysed M_gates M_startNode M_startChange M_startWay M_startBase M_startEarly M_startLate M_worstWith M_worstWithout M_all M_rowSize), ((a 1), .inl (cI, 48, .inl (ia M_kinds))), ((a 2), .inl (cI, 48, .inl (ia M_pins))), ((a 3), .inl (cI, 144, .inl (ia M_froms))), ((a 21), .inl (cZ, 96, .inl (ia M_there_4)))] → va_S A s.heap H locs → lv_has ls 6 [(0, .ref (a 0)), (1, .int (iI x1)), (2, .int (iI v2_3))] → lq2 (f_M_isRound_b30 F M_nodes M_kinds M_pins M_froms x1) nf v2_3 M_there_4 = some (r, z_M_there) → W p l e (headSpec w_M_isRound rm_M_isRound).room s m args below meth c H locs 0 0 Q (F0 m 30 ls []) := by
          intro n30
          induction n30 with
          | zero => intro v2_3 M_there_4 H locs ls hP hD hS hl h; exact no_some h
          | succ n30 ih30 =>
            intro v2_3 M_there_4 H locs ls hP hD hS hl h
            replace h : f_M_isRound_b30 F M_nodes M_kinds M_pins M_froms x1 (lq2 (f_M_isRound_b30 F M_nodes M_kinds M_pins M_froms x1) n30) v2_3 M_there_4 = some (r, z_M_there) := h
            obtain ⟨self30, hs30⟩ : ∃ z, z = lq2 (f_M_isRound_b30 F M_nodes M_kinds M_pins M_froms x1) n30 := ⟨_, rfl⟩
            rw [← hs30] at h ih30
            rw [f_M_isRound_b30] at h
            refine lv_iload_n hx hb d_M_isRound_30 rfl (lv_at hl 2 rfl) ?_
            obtain ⟨hg0, h⟩ := gr_e h
            refine zi_eq hx hb d_M_isRound_31 rfl hg0 (fun hc => ?_) (fun hc => ?_)
            · replace h := if_t hc h
              refine zv_iconst hx hb d_M_isRound_154 ?_
              obtain ⟨hbo, h⟩ := gb_e h
              obtain ⟨e1, e2⟩ := so2 h
              rw [hQ, e1, e2]; rw [hAe] at hD hS; exact W.zret (ty := .boolean) hx hb hr (gb_n hbo) (fun t ht hW => ⟨⟨_, (), rfl, rfl, by rw [ht]; exact hP, va_K.moved hW.alike hK, hD⟩, hS.F ht⟩) hS.2.2 d_M_isRound_155
            · replace h := if_f hc h
              refine zv_iconst hx hb d_M_isRound_34 ?_
              refine lv_istore_n (lv' := [(2, .int (iI 0)), (0, .ref (a 0)), (1, .int (iI x1))]) hx hb d_M_isRound_35 rfl hl (by decide) rfl (fun ls hl => ?_)
              refine zv_iconst hx hb d_M_isRound_36 ?_
              refine lv_istore_n (lv' := [(3, .int (iI 0)), (2, .int (iI 0)), (0, .ref (a 0)), (1, .int (iI x1))]) hx hb d_M_isRound_37 rfl hl (by decide) rfl (fun ls hl => ?_)
              have hl38 : ∀ (nf : Nat) (v2_5 : Int) (v3 : Int) (M_there_6 : Int → Int) (H : Heap) (locs : List Loc) (ls : Array Slot), va_P D vwCl [(o_M a M_thrown M_period M_width M_nodes M_analysed M_gates M_startNode M_startChange M_startWay M_startBase M_startEarly M_startLate M_worstWith M_worstWithout M_all M_rowSize), ((a 1), .inl (cI, 48, .inl (ia M_kinds))), ((a 2), .inl (cI, 48, .inl (ia M_pins))), ((a 3), .inl (cI, 144, .inl (ia M_froms))), ((a 21), .inl (cZ, 96, .inl (ia M_there_6)))] H → va_D A [(o_M a M_thrown M_period M_width M_nodes M_analysed M_gates M_startNode M_startChange M_startWay M_startBase M_startEarly M_startLate M_worstWith M_worstWithout M_all M_rowSize), ((a 1), .inl (cI, 48, .inl (ia M_kinds))), ((a 2), .inl (cI, 48, .inl (ia M_pins))), ((a 3), .inl (cI, 144, .inl (ia M_froms))), ((a 21), .inl (cZ, 96, .inl (ia M_there_6)))] → va_S A s.heap H locs → lv_has ls 6 [(0, .ref (a 0)), (1, .int (iI x1)), (2, .int (iI v2_5)), (3, .int (iI v3))] → lq3 (f_M_isRound_b38 F M_nodes M_kinds M_pins M_froms x1 self30) nf v2_5 v3 M_there_6 = some (r, z_M_there) → W p l e (headSpec w_M_isRound rm_M_isRound).room s m args below meth c H locs 0 0 Q (F0 m 38 ls []) := by
                intro n38
                induction n38 with
                | zero => intro v2_5 v3 M_there_6 H locs ls hP hD hS hl h; exact no_some h
                | succ n38 ih38 =>
                  intro v2_5 v3 M_there_6 H locs ls hP hD hS hl h
                  replace h : f_M_isRound_b38 F M_nodes M_kinds M_pins M_froms x1 self30 (lq3 (f_M_isRound_b38 F M_nodes M_kinds M_pins M_froms x1 self30) n38) v2_5 v3 M_there_6 = some (r, z_M_there) := h
                  obtain ⟨self38, hs38⟩ : ∃ z, z = lq3 (f_M_isRound_b38 F M_nodes M_kinds M_pins M_froms x1 self30) n38 := ⟨_, rfl⟩
                  rw [← hs38] at h ih38
                  rw [f_M_isRound_b38] at h
                  refine lv_iload_n hx hb d_M_isRound_38 rfl (lv_at hl 3 rfl) ?_
                  refine lv_aload_n hx hb d_M_isRound_39 rfl (lv_at hl 0 rfl) ?_
                  refine va_get (D := D) (ci := 10) (v := .int (iI M_nodes)) (C := R_M) (T := F_M) (N := 53) hx hb hT in_M hown hK hP 0 rfl rfl 3 (by decide) (hT _ m1024) (fun _ h9 => h9) rfl d_M_isRound_40 ?_
                  obtain ⟨hg0, h⟩ := gr_e h
                  obtain ⟨hg1, h⟩ := gr_e h
                  refine zc_ge hx hb d_M_isRound_43 rfl hg0 hg1 (fun hc => ?_) (fun hc => ?_)
                  · replace h := if_t hc h
                    refine lv_goto hx hb d_M_isRound_151 rfl ?_
                    exact ih30 v2_5 M_there_6 H locs ls hP hD hS (lv_sub hl [0, 1, 2] rfl) h
                  · replace h := if_f hc h
                    refine zv_iconst hx hb d_M_isRound_46 ?_
                    refine lv_istore (lv' := [(4, .int (iI 0)), (0, .ref (a 0)), (1, .int (iI x1)), (2, .int (iI v2_5)), (3, .int (iI v3))]) hx hb d_M_isRound_47 hl (by decide) rfl (fun ls hl => ?_)
                    have hl49 : ∀ (nf : Nat) (v2_7 : Int) (v4 : Int) (M_there_8 : Int → Int) (H : Heap) (locs : List Loc) (ls : Array Slot), va_P D vwCl [(o_M a M_thrown M_period M_width M_nodes M_analysed M_gates M_startNode M_startChange M_startWay M_startBase M_startEarly M_startLate M_worstWith M_worstWithout M_all M_rowSize), ((a 1), .inl (cI, 48, .inl (ia M_kinds))), ((a 2), .inl (cI, 48, .inl (ia M_pins))), ((a 3), .inl (cI, 144, .inl (ia M_froms))), ((a 21), .inl (cZ, 96, .inl (ia M_there_8)))] H → va_D A [(o_M a M_thrown M_period M_width M_nodes M_analysed M_gates M_startNode M_startChange M_startWay M_startBase M_startEarly M_startLate M_worstWith M_worstWithout M_all M_rowSize), ((a 1), .inl (cI, 48, .inl (ia M_kinds))), ((a 2), .inl (cI, 48, .inl (ia M_pins))), ((a 3), .inl (cI, 144, .inl (ia M_froms))), ((a 21), .inl (cZ, 96, .inl (ia M_there_8)))] → va_S A s.heap H locs → lv_has ls 6 [(0, .ref (a 0)), (1, .int (iI x1)), (2, .int (iI v2_7)), (3, .int (iI v3)), (4, .int (iI v4))] → lq3 (f_M_isRound_b49 F M_kinds M_pins M_froms x1 v3 self38) nf v2_7 v4 M_there_8 = some (r, z_M_there) → W p l e (headSpec w_M_isRound rm_M_isRound).room s m args below meth c H locs 0 0 Q (F0 m 49 ls []) := by
                      intro n49
                      induction n49 with
                      | zero => intro v2_7 v4 M_there_8 H locs ls hP hD hS hl h; exact no_some h
                      | succ n49 ih49 =>
                        intro v2_7 v4 M_there_8 H locs ls hP hD hS hl h
                        replace h : f_M_isRound_b49 F M_kinds M_pins M_froms x1 v3 self38 (lq3 (f_M_isRound_b49 F M_kinds M_pins M_froms x1 v3 self38) n49) v2_7 v4 M_there_8 = some (r, z_M_there) := h
                        obtain ⟨self49, hs49⟩ : ∃ z, z = lq3 (f_M_isRound_b49 F M_kinds M_pins M_froms x1 v3 self38) n49 := ⟨_, rfl⟩
                        rw [← hs49] at h ih49
                        rw [f_M_isRound_b49] at h
                        refine lv_iload hx hb d_M_isRound_49 (lv_at hl 4 rfl) ?_
                        refine zv_iconst hx hb d_M_isRound_51 ?_
                        obtain ⟨hg0, h⟩ := gr_e h
                        refine zc_ge hx hb d_M_isRound_52 rfl hg0 (by decide) (fun hc => ?_) (fun hc => ?_)
                        · replace h := if_t hc h
                          refine lv_iinc (v := iI (v3 + 1)) (k := 3) (lv' := [(3, .int (iI (v3 + 1))), (0, .ref (a 0)), (1, .int (iI x1)), (2, .int (iI v2_7)), (4, .int (iI v4))]) hx hb d_M_isRound_145 hl rfl (iI_add _ _) (by decide) rfl (fun ls hl => ?_)
                          refine lv_goto hx hb d_M_isRound_148 rfl ?_
                          exact ih38 v2_7 (v3 + 1) M_there_8 H locs ls hP hD hS (lv_sub hl [1, 2, 3, 0] rfl) h
                        · replace h := if_f hc h
                          refine lv_aload_n hx hb d_M_isRound_55 rfl (lv_at hl 0 rfl) ?_
                          refine va_get (D := D) (ci := 10) (v := .ref (a 3)) (C := R_M) (T := F_M) (N := 53) hx hb hT in_M hown hK hP 0 rfl rfl 6 (by decide) (hT _ m1027) (fun _ h9 => h9) rfl d_M_isRound_56 ?_
                          refine zv_iconst hx hb d_M_isRound_59 ?_
                          refine lv_iload_n hx hb d_M_isRound_60 rfl (lv_at hl 3 rfl) ?_
                          refine zv_imul hx hb d_M_isRound_61 ?_
                          refine lv_iload hx hb d_M_isRound_62 (lv_at hl 4 rfl) ?_
                          refine zv_iadd hx hb d_M_isRound_64 ?_
                          obtain ⟨hin, h⟩ := gi_e h
                          refine zv_iald hx hb hK hP 3 0 rfl rfl (Nat.le_of_ble_eq_true rfl) hin d_M_isRound_65 ?_
                          refine zv_top (fun v5 hv => ?_)
                          replace h := bd_e hv h
                          refine lv_istore (lv' := [(5, .int (iI v5)), (0, .ref (a 0)), (1, .int (iI x1)), (2, .int (iI v2_7)), (3, .int (iI v3)), (4, .int (iI v4))]) hx hb d_M_isRound_66 hl (by decide) rfl (fun ls hl => ?_)
                          refine lv_aload_n hx hb d_M_isRound_68 rfl (lv_at hl 1 rfl) ?_
                          refine lv_iload_n hx hb d_M_isRound_69 rfl (lv_at hl 4 rfl) ?_
                          obtain ⟨r70, hcall, h⟩ := ob1_e h
                          refine ro_i (va_Run.run (va_runV (As := [.int (iI v3)]) (rest := []) ⟨hx, hb, hml, hown, hts⟩ (c_M_isGate l D cI cJ cZ F a M_thrown M_period M_width M_nodes M_analysed M_gates M_startNode M_startChange M_startWay M_startBase M_startEarly M_startLate M_worstWith M_worstWithout M_all M_rowSize M_kinds v3 r70 H.size hcall) (cwV 1 hts (gd_V m1245 m1242 m1244 sl_M_isGate m12) rfl rfl rfl ⟨rfl, hc_M_isGate⟩ ⟨Nat.le_of_ble_eq_true rfl, Nat.le_of_ble_eq_true rfl⟩) (pc_V 0 10 [.int (iI v3)] hP hK hD hN [0, 1] rfl rfl rfl rfl rfl) rfl rfl hl.1 rfl (lv_room (Nat.le_of_ble_eq_true rfl)) d_M_isRound_70 ⟨Nat.le_refl 0, Nat.le_refl 0⟩)) (W.eq (g2 := F0 m 73 ls [.int (iI r70)]) rfl ?_)
                          have hj139 : ∀ (v2_9 : Int) (M_there_10 : Int → Int) (H : Heap) (locs : List Loc) (ls : Array Slot), va_P D vwCl [(o_M a M_thrown M_period M_width M_nodes M_analysed M_gates M_startNode M_startChange M_startWay M_startBase M_startEarly M_startLate M_worstWith M_worstWithout M_all M_rowSize), ((a 1), .inl (cI, 48, .inl (ia M_kinds))), ((a 2), .inl (cI, 48, .inl (ia M_pins))), ((a 3), .inl (cI, 144, .inl (ia M_froms))), ((a 21), .inl (cZ, 96, .inl (ia M_there_10)))] H → va_D A [(o_M a M_thrown M_period M_width M_nodes M_analysed M_gates M_startNode M_startChange M_startWay M_startBase M_startEarly M_startLate M_worstWith M_worstWithout M_all M_rowSize), ((a 1), .inl (cI, 48, .inl (ia M_kinds))), ((a 2), .inl (cI, 48, .inl (ia M_pins))), ((a 3), .inl (cI, 144, .inl (ia M_froms))), ((a 21), .inl (cZ, 96, .inl (ia M_there_10)))] → va_S A s.heap H locs → lv_has ls 6 [(0, .ref (a 0)), (1, .int (iI x1)), (2, .int (iI v2_9)), (3, .int (iI v3)), (4, .int (iI v4))] → f_M_isRound_j139 F v4 self49 v2_9 M_there_10 = some (r, z_M_there) → W p l e (headSpec w_M_isRound rm_M_isRound).room s m args below meth c H locs 0 0 Q (F0 m 139 ls []) := by
                            intro v2_9 M_there_10 H locs ls hP hD hS hl h
                            rw [f_M_isRound_j139] at h
                            refine lv_iinc (v := iI (v4 + 1)) (k := 4) (lv' := [(4, .int (iI (v4 + 1))), (0, .ref (a 0)), (1, .int (iI x1)), (2, .int (iI v2_9)), (3, .int (iI v3))]) hx hb d_M_isRound_139 hl rfl (iI_add _ _) (by decide) rfl (fun ls hl => ?_)
                            refine lv_goto hx hb d_M_isRound_142 rfl ?_
                            exact ih49 v2_9 (v4 + 1) M_there_10 H locs ls hP hD hS (lv_sub hl [1, 2, 3, 4, 0] rfl) h
                          obtain ⟨hg0, h⟩ := gr_e h
                          refine zi_eq hx hb d_M_isRound_73 rfl hg0 (fun hc => ?_) (fun hc => ?_)
                          · replace h := if_t hc h
                            exact hj139 v2_7 M_there_8 H locs ls hP hD hS (lv_sub hl [1, 2, 3, 4, 5] rfl) h
                          · replace h := if_f hc h
                            refine lv_iload hx hb d_M_isRound_76 (lv_at hl 5 rfl) ?_
                            refine lv_aload_n hx hb d_M_isRound_78 rfl (lv_at hl 1 rfl) ?_
                            refine va_get (D := D) (ci := 10) (v := .ref (a 2)) (C := R_M) (T := F_M) (N := 53) hx hb hT in_M hown hK hP 0 rfl rfl 5 (by decide) (hT _ m1026) (fun _ h9 => h9) rfl d_M_isRound_79 ?_
                            refine lv_iload_n hx hb d_M_isRound_82 rfl (lv_at hl 4 rfl) ?_
                            obtain ⟨hin, h⟩ := gi_e h
                            refine zv_iald hx hb hK hP 2 0 rfl rfl (Nat.le_of_ble_eq_true rfl) hin d_M_isRound_83 ?_
                            obtain ⟨hg0, h⟩ := gr_e h
                            obtain ⟨hg1, h⟩ := gr_e h
                            refine zc_ge hx hb d_M_isRound_84 rfl hg0 hg1 (fun hc => ?_) (fun hc => ?_)
                            · replace h := if_t hc h
                              exact hj139 v2_7 M_there_8 H locs ls hP hD hS (lv_sub hl [1, 2, 3, 4, 5] rfl) h
                            · replace h := if_f hc h
                              refine lv_aload_n hx hb d_M_isRound_87 rfl (lv_at hl 1 rfl) ?_
                              refine lv_iload hx hb d_M_isRound_88 (lv_at hl 0 rfl) ?_
                              obtain ⟨r90, hcall, h⟩ := ob1_e h
                              refine ro_i (va_Run.run (va_runV (As := [.int (iI v5)]) (rest := []) ⟨hx, hb, hml, hown, hts⟩ (c_M_isGate l D cI cJ cZ F a M_thrown M_period M_width M_nodes M_analysed M_gates M_startNode M_startChange M_startWay M_startBase M_startEarly M_startLate M_worstWith M_worstWithout M_all M_rowSize M_kinds v5 r90 H.size hcall) (cwV 1 hts (gd_V m1245 m1242 m1244 sl_M_isGate m12) rfl rfl rfl ⟨rfl, hc_M_isGate⟩ ⟨Nat.le_of_ble_eq_true rfl, Nat.le_of_ble_eq_true rfl⟩) (pc_V 0 10 [.int (iI v5)] hP hK hD hN [0, 1] rfl rfl rfl rfl rfl) rfl rfl hl.1 rfl (lv_room (Nat.le_of_ble_eq_true rfl)) d_M_isRound_90 ⟨Nat.le_refl 0, Nat.le_refl 0⟩)) (W.eq (g2 := F0 m 93 ls [.int (iI r90)]) rfl ?_)
                              obtain ⟨hg0, h⟩ := gr_e h
                              refine zi_eq hx hb d_M_isRound_93 rfl hg0 (fun hc => ?_) (fun hc => ?_)
                              · replace h := if_t hc h
                                exact hj139 v2_7 M_there_8 H locs ls hP hD hS (lv_sub hl [1, 2, 3, 4, 5] rfl) h
                              · replace h := if_f hc h
                                refine lv_aload_n hx hb d_M_isRound_96 rfl (lv_at hl 1 rfl) ?_
                                refine va_get (D := D) (ci := 10) (v := .ref (a 21)) (C := R_M) (T := F_M) (N := 53) hx hb hT in_M hown hK hP 0 rfl rfl 26 (by decide) (hT _ m1047) (fun _ h9 => h9) rfl d_M_isRound_97 ?_
                                refine lv_iload hx hb d_M_isRound_100 (lv_at hl 0 rfl) ?_
                                obtain ⟨hin, h⟩ := gi_e h
                                refine zv_zald hx hb hK hP 4 2 rfl rfl (Nat.le_of_ble_eq_true rfl) hin d_M_isRound_102 ?_
                                obtain ⟨hg0, h⟩ := gr_e h
                                refine zi_eq hx hb d_M_isRound_103 rfl hg0 (fun hc => ?_) (fun hc => ?_)
                                · replace h := if_t hc h
                                  exact hj139 v2_7 M_there_8 H locs ls hP hD hS (lv_sub hl [1, 2, 3, 4, 5] rfl) h
                                · replace h := if_f hc h
                                  refine lv_iload_n hx hb d_M_isRound_106 rfl (lv_at hl 4 rfl) ?_
                                  refine lv_iload_n hx hb d_M_isRound_107 rfl (lv_at hl 2 rfl) ?_
                                  obtain ⟨hg0, h⟩ := gr_e h
                                  obtain ⟨hg1, h⟩ := gr_e h
                                  refine zc_ne hx hb d_M_isRound_108 rfl hg0 hg1 (fun hc => ?_) (fun hc => ?_)
                                  · replace h := if_f hc h
                                    refine lv_iload_n hx hb d_M_isRound_113 rfl (lv_at hl 3 rfl) ?_
                                    have hj131 : ∀ (q0 : Int) (H : Heap) (locs : List Loc) (ls : Array Slot), va_P D vwCl [(o_M a M_thrown M_period M_width M_nodes M_analysed M_gates M_startNode M_startChange M_startWay M_startBase M_startEarly M_startLate M_worstWith M_worstWithout M_all M_rowSize), ((a 1), .inl (cI, 48, .inl (ia M_kinds))), ((a 2), .inl (cI, 48, .inl (ia M_pins))), ((a 3), .inl (cI, 144, .inl (ia M_froms))), ((a 21), .inl (cZ, 96, .inl (ia M_there_8)))] H → va_D A [(o_M a M_thrown M_period M_width M_nodes M_analysed M_gates M_startNode M_startChange M_startWay M_startBase M_startEarly M_startLate M_worstWith M_worstWithout M_all M_rowSize), ((a 1), .inl (cI, 48, .inl (ia M_kinds))), ((a 2), .inl (cI, 48, .inl (ia M_pins))), ((a 3), .inl (cI, 144, .inl (ia M_froms))), ((a 21), .inl (cZ, 96, .inl (ia M_there_8)))] → va_S A s.heap H locs → lv_has ls 6 [(0, .ref (a 0)), (1, .int (iI x1)), (3, .int (iI v3)), (4, .int (iI v4))] → f_M_isRound_j131 F v3 v4 M_there_8 self49 q0 = some (r, z_M_there) → W p l e (headSpec w_M_isRound rm_M_isRound).room s m args below meth c H locs 0 0 Q (F0 m 131 ls [.int (iI q0)]) := by
                                      intro q0 H locs ls hP hD hS hl h
                                      rw [f_M_isRound_j131] at h
                                      refine lv_istore_n (lv' := [(2, .int (iI q0)), (0, .ref (a 0)), (1, .int (iI x1)), (3, .int (iI v3)), (4, .int (iI v4))]) hx hb d_M_isRound_131 rfl hl (by decide) rfl (fun ls hl => ?_)
                                      refine lv_aload_n hx hb d_M_isRound_132 rfl (lv_at hl 1 rfl) ?_
                                      refine va_get (D := D) (ci := 10) (v := .ref (a 21)) (C := R_M) (T := F_M) (N := 53) hx hb hT in_M hown hK hP 0 rfl rfl 26 (by decide) (hT _ m1047) (fun _ h9 => h9) rfl d_M_isRound_133 ?_
                                      refine lv_iload_n hx hb d_M_isRound_136 rfl (lv_at hl 3 rfl) ?_
                                      refine zv_iconst hx hb d_M_isRound_137 ?_
                                      obtain ⟨hin, h⟩ := gi_e h
                                      refine zv_zast hx hb hK hP hD hS 4 2 rfl rfl (Nat.le_of_ble_eq_true rfl) hin (Or.inr rfl) d_M_isRound_138 (fun H locs hP hD hS => ?_)
                                      obtain ⟨M_there_11, hv⟩ : ∃ z, z = (ui M_there_8 v3 1) := ⟨_, rfl⟩
                                      replace h := bd_e hv h
                                      have hP : va_P D vwCl [(o_M a M_thrown M_period M_width M_nodes M_analysed M_gates M_startNode M_startChange M_startWay M_startBase M_startEarly M_startLate M_worstWith M_worstWithout M_all M_rowSize), ((a 1), .inl (cI, 48, .inl (ia M_kinds))), ((a 2), .inl (cI, 48, .inl (ia M_pins))), ((a 3), .inl (cI, 144, .inl (ia M_froms))), ((a 21), .inl (cZ, 96, .inl (ia M_there_11)))] H := by rw [hv]; exact hP
                                      have hD : va_D A [(o_M a M_thrown M_period M_width M_nodes M_analysed M_gates M_startNode M_startChange M_startWay M_startBase M_startEarly M_startLate M_worstWith M_worstWithout M_all M_rowSize), ((a 1), .inl (cI, 48, .inl (ia M_kinds))), ((a 2), .inl (cI, 48, .inl (ia M_pins))), ((a 3), .inl (cI, 144, .inl (ia M_froms))), ((a 21), .inl (cZ, 96, .inl (ia M_there_11)))] := by rw [hv]; exact hD
                                      exact hj139 q0 M_there_11 H locs ls hP hD hS (lv_sub hl [1, 2, 0, 3, 4] rfl) h
                                    have hj126 : ∀  (H : Heap) (locs : List Loc) (ls : Array Slot), va_P D vwCl [(o_M a M_thrown M_period M_width M_nodes M_analysed M_gates M_startNode M_startChange M_startWay M_startBase M_startEarly M_startLate M_worstWith M_worstWithout M_all M_rowSize), ((a 1), .inl (cI, 48, .inl (ia M_kinds))), ((a 2), .inl (cI, 48, .inl (ia M_pins))), ((a 3), .inl (cI, 144, .inl (ia M_froms))), ((a 21), .inl (cZ, 96, .inl (ia M_there_8)))] H → va_D A [(o_M a M_thrown M_period M_width M_nodes M_analysed M_gates M_startNode M_startChange M_startWay M_startBase M_startEarly M_startLate M_worstWith M_worstWithout M_all M_rowSize), ((a 1), .inl (cI, 48, .inl (ia M_kinds))), ((a 2), .inl (cI, 48, .inl (ia M_pins))), ((a 3), .inl (cI, 144, .inl (ia M_froms))), ((a 21), .inl (cZ, 96, .inl (ia M_there_8)))] → va_S A s.heap H locs → lv_has ls 6 [(0, .ref (a 0)), (1, .int (iI x1)), (3, .int (iI v3)), (4, .int (iI v4))] → f_M_isRound_j126 F v3 v4 M_there_8 self49 = some (r, z_M_there) → W p l e (headSpec w_M_isRound rm_M_isRound).room s m args below meth c H locs 0 0 Q (F0 m 126 ls []) := by
                                      intro  H locs ls hP hD hS hl h
                                      rw [f_M_isRound_j126] at h
                                      refine zv_iconst hx hb d_M_isRound_126 ?_
                                      refine lv_goto hx hb d_M_isRound_127 rfl ?_
                                      exact hj131 1 H locs ls hP hD hS (lv_sub hl [0, 1, 2, 3] rfl) h
                                    obtain ⟨hg0, h⟩ := gr_e h
                                    refine zi_ne hx hb d_M_isRound_114 rfl hg0 (fun hc => ?_) (fun hc => ?_)
                                    · replace h := if_f hc h
                                      exact hj126  H locs ls hP hD hS (lv_sub hl [1, 2, 4, 5] rfl) h
                                    · replace h := if_t hc h
                                      refine lv_aload_n hx hb d_M_isRound_117 rfl (lv_at hl 1 rfl) ?_
                                      refine va_get (D := D) (ci := 10) (v := .ref (a 21)) (C := R_M) (T := F_M) (N := 53) hx hb hT in_M hown hK hP 0 rfl rfl 26 (by decide) (hT _ m1047) (fun _ h9 => h9) rfl d_M_isRound_118 ?_
                                      refine lv_iload_n hx hb d_M_isRound_121 rfl (lv_at hl 4 rfl) ?_
                                      obtain ⟨hin, h⟩ := gi_e h
                                      refine zv_zald hx hb hK hP 4 2 rfl rfl (Nat.le_of_ble_eq_true rfl) hin d_M_isRound_122 ?_
                                      obtain ⟨hg0, h⟩ := gr_e h
                                      refine zi_ne hx hb d_M_isRound_123 rfl hg0 (fun hc => ?_) (fun hc => ?_)
                                      · replace h := if_f hc h
                                        refine zv_iconst hx hb d_M_isRound_130 ?_
                                        exact hj131 0 H locs ls hP hD hS (lv_sub hl [1, 2, 4, 5] rfl) h
                                      · replace h := if_t hc h
                                        exact hj126  H locs ls hP hD hS (lv_sub hl [1, 2, 4, 5] rfl) h
                                  · replace h := if_t hc h
                                    refine zv_iconst hx hb d_M_isRound_111 ?_
                                    obtain ⟨hbo, h⟩ := gb_e h
                                    obtain ⟨e1, e2⟩ := so2 h
                                    rw [hQ, e1, e2]; rw [hAe] at hD hS; exact W.zret (ty := .boolean) hx hb hr (gb_n hbo) (fun t ht hW => ⟨⟨_, (), rfl, rfl, by rw [ht]; exact hP, va_K.moved hW.alike hK, hD⟩, hS.F ht⟩) hS.2.2 d_M_isRound_112
                    exact hl49 F v2_5 0 M_there_6 H locs ls hP hD hS (lv_sub hl [1, 2, 3, 4, 0] rfl) h
              exact hl38 F 0 0 M_there_4 H locs ls hP hD hS (lv_sub hl [2, 3, 1, 0] rfl) h
        exact hl30 F 1 M_there_2 H locs ls hP hD hS (lv_sub hl [1, 2, 0] rfl) h
      · replace h := if_f hc h
        refine lv_aload_n hx hb d_M_isRound_8 rfl (lv_at hl 0 rfl) ?_
        refine va_get (D := D) (ci := 10) (v := .ref (a 21)) (C := R_M) (T := F_M) (N := 53) hx hb hT in_M hown hK hP 0 rfl rfl 26 (by decide) (hT _ m1047) (fun _ h9 => h9) rfl d_M_isRound_9 ?_
        refine lv_iload_n hx hb d_M_isRound_12 rfl (lv_at hl 2 rfl) ?_
        refine zv_iconst hx hb d_M_isRound_13 ?_
        obtain ⟨hin, h⟩ := gi_e h
        refine zv_zast hx hb hK hP hD hS 4 2 rfl rfl (Nat.le_of_ble_eq_true rfl) hin (Or.inl rfl) d_M_isRound_14 (fun H locs hP hD hS => ?_)
        obtain ⟨M_there_12, hv⟩ : ∃ z, z = (ui M_there_1 v2 0) := ⟨_, rfl⟩
        replace h := bd_e hv h
        have hP : va_P D vwCl [(o_M a M_thrown M_period M_width M_nodes M_analysed M_gates M_startNode M_startChange M_startWay M_startBase M_startEarly M_startLate M_worstWith M_worstWithout M_all M_rowSize), ((a 1), .inl (cI, 48, .inl (ia M_kinds))), ((a 2), .inl (cI, 48, .inl (ia M_pins))), ((a 3), .inl (cI, 144, .inl (ia M_froms))), ((a 21), .inl (cZ, 96, .inl (ia M_there_12)))] H := by rw [hv]; exact hP
        have hD : va_D A [(o_M a M_thrown M_period M_width M_nodes M_analysed M_gates M_startNode M_startChange M_startWay M_startBase M_startEarly M_startLate M_worstWith M_worstWithout M_all M_rowSize), ((a 1), .inl (cI, 48, .inl (ia M_kinds))), ((a 2), .inl (cI, 48, .inl (ia M_pins))), ((a 3), .inl (cI, 144, .inl (ia M_froms))), ((a 21), .inl (cZ, 96, .inl (ia M_there_12)))] := by rw [hv]; exact hD
        refine lv_iinc (v := iI (v2 + 1)) (k := 2) (lv' := [(2, .int (iI (v2 + 1))), (0, .ref (a 0)), (1, .int (iI x1))]) hx hb d_M_isRound_15 hl rfl (iI_add _ _) (by decide) rfl (fun ls hl => ?_)
        refine lv_goto hx hb d_M_isRound_18 rfl ?_
        exact ih2 (v2 + 1) M_there_12 H locs ls hP hD hS (lv_sub hl [1, 2, 0] rfl) h
  exact hl2 F 0 M_there H locs ls hP hD hS (lv_sub hl [1, 2, 0] rfl) h
abbrev rm_M_cycle : Room := { frames := 2, cells := 0, slots := 0, locals := 46 }
set_option maxHeartbeats 4000000 in
set_option maxRecDepth 100000 in
theorem c_M_cycle (l : Launch) (D : va_G) (cI cJ cZ : ClassId) (F : Nat) (a : Nat → Nat) (M_thrown : Int) (M_period : Int) (M_width : Int) (M_nodes : Int) (M_analysed : Int) (M_gates : Int) (M_startNode : Int) (M_startChange : Int) (M_startWay : Int) (M_startBase : Int) (M_startEarly : Int) (M_startLate : Int) (M_worstWith : Int) (M_worstWithout : Int) (M_all : Int64) (M_rowSize : Int) (M_kinds : Int → Int) (M_pins : Int → Int) (M_froms : Int → Int) (M_there : Int → Int) (r : Int) (z_M_thrown : Int) (z_M_there : Int → Int) (sz : Nat) (h : f_M_cycle F M_nodes M_kinds M_pins M_froms M_there = some (r, z_M_thrown, z_M_there)) : Met l y_M_cycle w_M_cycle rm_M_cycle (PC D [(cI, .int), (cJ, .long), (cZ, .boolean)] [.ref (a 0)] ([(o_M a M_thrown M_period M_width M_nodes M_analysed M_gates M_startNode M_startChange M_startWay M_startBase M_startEarly M_startLate M_worstWith M_worstWithout M_all M_rowSize), ((a 1), .inl (cI, 48, .inl (ia M_kinds))), ((a 2), .inl (cI, 48, .inl (ia M_pins))), ((a 3), .inl (cI, 144, .inl (ia M_froms))), ((a 21), .inl (cZ, 96, .inl (ia M_there)))]) sz) (QI D [(cI, .int), (cJ, .long), (cZ, .boolean)] ([(o_M a M_thrown M_period M_width M_nodes M_analysed M_gates M_startNode M_startChange M_startWay M_startBase M_startEarly M_startLate M_worstWith M_worstWithout M_all M_rowSize), ((a 1), .inl (cI, 48, .inl (ia M_kinds))), ((a 2), .inl (cI, 48, .inl (ia M_pins))), ((a 3), .inl (cI, 144, .inl (ia M_froms))), ((a 21), .inl (cZ, 96, .inl (ia M_there)))]) sz r ([(o_M a z_M_thrown M_period M_width M_nodes M_analysed M_gates M_startNode M_startChange M_startWay M_startBase M_startEarly M_startLate M_worstWith M_worstWithout M_all M_rowSize), ((a 1), .inl (cI, 48, .inl (ia M_kinds))), ((a 2), .inl (cI, 48, .inl (ia M_pins))), ((a 3), .inl (cI, 144, .inl (ia M_froms))), ((a 21), .inl (cZ, 96, .inl (ia z_M_there)))])) 0 0 (va_A ([(o_M a M_thrown M_period M_width M_nodes M_analysed M_gates M_startNode M_startChange M_startWay M_startBase M_startEarly M_startLate M_worstWith M_worstWithout M_all M_rowSize), ((a 1), .inl (cI, 48, .inl (ia M_kinds))), ((a 2), .inl (cI, 48, .inl (ia M_pins))), ((a 3), .inl (cI, 144, .inl (ia M_froms))), ((a 21), .inl (cZ, 96, .inl (ia M_there)))]) sz) := by
  refine Met.ofW (cc := prog_12_method_19_code) (maxL := 2) (ret := (Option.some Jvm.ClassFile.FieldType.int)) (by decide) rfl ?_
  intro p e s m args below meth c s₁ B hml hv
  obtain ⟨rfl, hsz, hP, hK, hD0, hN⟩ := hv
  have hx := B.exec
  have hb := B.bytes
  have hr := B.returns
  have hts := atoms_spec (ws := w_M_cycle) B.pre
  have hown : s.vm.findClass R_M = some m.cls := findClass_of_methodNamed B.named
  have hlocks := B.notSynchronized
  subst hsz
  have hD := hD0.self (sz := s.heap.size)
  obtain ⟨A, hAe⟩ : ∃ A, A = va_A ([(o_M a M_thrown M_period M_width M_nodes M_analysed M_gates M_startNode M_startChange M_startWay M_startBase M_startEarly M_startLate M_worstWith M_worstWithout M_all M_rowSize), ((a 1), .inl (cI, 48, .inl (ia M_kinds))), ((a 2), .inl (cI, 48, .inl (ia M_pins))), ((a 3), .inl (cI, 144, .inl (ia M_froms))), ((a 21), .inl (cZ, 96, .inl (ia M_there)))]) s.heap.size := ⟨_, rfl⟩
  rw [← hAe] at hD
  have hA : ∀ q : Nat, s.heap.size ≤ q → A q := fun q h => by rw [hAe]; exact Or.inr h
  have hS : va_S A s.heap s.heap [] := va_S.rf
  have hl := lv_entry ([.ref (a 0)]) (n := 2) (Nat.le_of_ble_eq_true rfl)
  rw [lg_entry_eq]
  generalize (lg_sl ([.ref (a 0)]) ++ List.replicate (2 - (lg_sl ([.ref (a 0)])).length) Slot.unset).toArray = ls at hl ⊢
  have hl : lv_has ls 2 [(0, .ref (a 0))] := hl
  generalize (List.toArray ([.ref (a 0)] : List Value)) = args at hts ⊢
  have hT : ∀ w ∈ Tg, w.before args s = true := fun w h => hts w (List.mem_cons_of_mem _ h)
  obtain ⟨Q, hQ⟩ : ∃ Q, Q = MQ below (QI D [(cI, .int), (cJ, .long), (cZ, .boolean)] ([(o_M a M_thrown M_period M_width M_nodes M_analysed M_gates M_startNode M_startChange M_startWay M_startBase M_startEarly M_startLate M_worstWith M_worstWithout M_all M_rowSize), ((a 1), .inl (cI, 48, .inl (ia M_kinds))), ((a 2), .inl (cI, 48, .inl (ia M_pins))), ((a 3), .inl (cI, 144, .inl (ia M_froms))), ((a 21), .inl (cZ, 96, .inl (ia M_there)))]) s.heap.size r ([(o_M a z_M_thrown M_period M_width M_nodes M_analysed M_gates M_startNode M_startChange M_startWay M_startBase M_startEarly M_startLate M_worstWith M_worstWithout M_all M_rowSize), ((a 1), .inl (cI, 48, .inl (ia M_kinds))), ((a 2), .inl (cI, 48, .inl (ia M_pins))), ((a 3), .inl (cI, 144, .inl (ia M_froms))), ((a 21), .inl (cZ, 96, .inl (ia z_M_there)))])) args s 0 0 (va_A ([(o_M a M_thrown M_period M_width M_nodes M_analysed M_gates M_startNode M_startChange M_startWay M_startBase M_startEarly M_startLate M_worstWith M_worstWithout M_all M_rowSize), ((a 1), .inl (cI, 48, .inl (ia M_kinds))), ((a 2), .inl (cI, 48, .inl (ia M_pins))), ((a 3), .inl (cI, 144, .inl (ia M_froms))), ((a 21), .inl (cZ, 96, .inl (ia M_there)))]) s.heap.size) := ⟨_, rfl⟩
  rw [← hQ]
  suffices hW : ∀ (H : Heap) (locs : List Loc), va_P D vwCl ([(o_M a M_thrown M_period M_width M_nodes M_analysed M_gates M_startNode M_startChange M_startWay M_startBase M_startEarly M_startLate M_worstWith M_worstWithout M_all M_rowSize), ((a 1), .inl (cI, 48, .inl (ia M_kinds))), ((a 2), .inl (cI, 48, .inl (ia M_pins))), ((a 3), .inl (cI, 144, .inl (ia M_froms))), ((a 21), .inl (cZ, 96, .inl (ia M_there)))]) H → va_D A ([(o_M a M_thrown M_period M_width M_nodes M_analysed M_gates M_startNode M_startChange M_startWay M_startBase M_startEarly M_startLate M_worstWith M_worstWithout M_all M_rowSize), ((a 1), .inl (cI, 48, .inl (ia M_kinds))), ((a 2), .inl (cI, 48, .inl (ia M_pins))), ((a 3), .inl (cI, 144, .inl (ia M_froms))), ((a 21), .inl (cZ, 96, .inl (ia M_there)))]) → va_S A s.heap H locs → W p l e (headSpec w_M_cycle rm_M_cycle).room s m args below meth c H locs 0 0 Q (F0 m 0 ls []) from hW s.heap [] hP hD hS
  clear hP hD hS
  intro H locs hP hD hS
  have hk0 := (show (Cond.constant "PathTimingModel" 140 (iI (-2147483648))).before args s = true from by rw [show iI (-2147483648) = ((-2147483648) : Int32) from by decide]; exact hT _ m1020)
  rw [f_M_cycle] at h
  refine lv_aload_n hx hb d_M_cycle_0 rfl (lv_at hl 0 rfl) ?_
  refine zv_iconst hx hb d_M_cycle_1 ?_
  refine va_put (D := D) (ci := 10) (v := .int (iI 0)) (ty := .int) (C := R_M) (T := F_M) (N := 53) hx hb hT in_M ty_M ty_M_ok n_M hown hK hP hD hS 0 rfl rfl 0 (by decide) (hT _ m1021) (fun _ h9 => h9) rfl (by decide +kernel) rfl rfl (Nat.le_of_ble_eq_true rfl) d_M_cycle_2 (fun H locs hP hD hS => ?_)
  have hP : va_P D vwCl [(o_M a 0 M_period M_width M_nodes M_analysed M_gates M_startNode M_startChange M_startWay M_startBase M_startEarly M_startLate M_worstWith M_worstWithout M_all M_rowSize), ((a 1), .inl (cI, 48, .inl (ia M_kinds))), ((a 2), .inl (cI, 48, .inl (ia M_pins))), ((a 3), .inl (cI, 144, .inl (ia M_froms))), ((a 21), .inl (cZ, 96, .inl (ia M_there)))] H := hP
  have hD : va_D A [(o_M a 0 M_period M_width M_nodes M_analysed M_gates M_startNode M_startChange M_startWay M_startBase M_startEarly M_startLate M_worstWith M_worstWithout M_all M_rowSize), ((a 1), .inl (cI, 48, .inl (ia M_kinds))), ((a 2), .inl (cI, 48, .inl (ia M_pins))), ((a 3), .inl (cI, 144, .inl (ia M_froms))), ((a 21), .inl (cZ, 96, .inl (ia M_there)))] := hD
  refine zv_iconst hx hb d_M_cycle_5 ?_
  refine lv_istore_n (lv' := [(1, .int (iI 0)), (0, .ref (a 0))]) hx hb d_M_cycle_6 rfl hl (by decide) rfl (fun ls hl => ?_)
  have hl7 : ∀ (nf : Nat) (v1 : Int) (M_there_1 : Int → Int) (H : Heap) (locs : List Loc) (ls : Array Slot), va_P D vwCl [(o_M a 0 M_period M_width M_nodes M_analysed M_gates M_startNode M_startChange M_startWay M_startBase M_startEarly M_startLate M_worstWith M_worstWithout M_all M_rowSize), ((a 1), .inl (cI, 48, .inl (ia M_kinds))), ((a 2), .inl (cI, 48, .inl (ia M_pins))), ((a 3), .inl (cI, 144, .inl (ia M_froms))), ((a 21), .inl (cZ, 96, .inl (ia M_there_1)))] H → va_D A [(o_M a 0 M_period M_width M_nodes M_analysed M_gates M_startNode M_startChange M_startWay M_startBase M_startEarly M_startLate M_worstWith M_worstWithout M_all M_rowSize), ((a 1), .inl (cI, 48, .inl (ia M_kinds))), ((a 2), .inl (cI, 48, .inl (ia M_pins))), ((a 3), .inl (cI, 144, .inl (ia M_froms))), ((a 21), .inl (cZ, 96, .inl (ia M_there_1)))] → va_S A s.heap H locs → lv_has ls 2 [(0, .ref (a 0)), (1, .int (iI v1))] → lq2 (f_M_cycle_b7 F M_nodes M_kinds M_pins M_froms) nf v1 M_there_1 = some (r, z_M_thrown, z_M_there) → W p l e (headSpec w_M_cycle rm_M_cycle).room s m args below meth c H locs 0 0 Q (F0 m 7 ls []) := by
    intro n7
    induction n7 with
    | zero => intro v1 M_there_1 H locs ls hP hD hS hl h; exact no_some h
    | succ n7 ih7 =>
      intro v1 M_there_1 H locs ls hP hD hS hl h
      replace h : f_M_cycle_b7 F M_nodes M_kinds M_pins M_froms (lq2 (f_M_cycle_b7 F M_nodes M_kinds M_pins M_froms) n7) v1 M_there_1 = some (r, z_M_thrown, z_M_there) := h
      obtain ⟨self7, hs7⟩ : ∃ z, z = lq2 (f_M_cycle_b7 F M_nodes M_kinds M_pins M_froms) n7 := ⟨_, rfl⟩
      rw [← hs7] at h ih7
      rw [f_M_cycle_b7] at h
      refine lv_iload_n hx hb d_M_cycle_7 rfl (lv_at hl 1 rfl) ?_
      refine lv_aload_n hx hb d_M_cycle_8 rfl (lv_at hl 0 rfl) ?_
      refine va_get (D := D) (ci := 10) (v := .int (iI M_nodes)) (C := R_M) (T := F_M) (N := 53) hx hb hT in_M hown hK hP 0 rfl rfl 3 (by decide) (hT _ m1024) (fun _ h9 => h9) rfl d_M_cycle_9 ?_
      obtain ⟨hg0, h⟩ := gr_e h
      obtain ⟨hg1, h⟩ := gr_e h
      refine zc_ge hx hb d_M_cycle_12 rfl hg0 hg1 (fun hc => ?_) (fun hc => ?_)
      · replace h := if_t hc h
        refine lv_ldc hx hb hown hk0 d_M_cycle_39 ?_
        obtain ⟨e1, e2, e3⟩ := so3 h
        rw [hQ, e1, e2, e3]; rw [hAe] at hD hS; exact W.iret hx hb hr (fun t ht hW => ⟨⟨_, (), rfl, rfl, by rw [ht]; exact hP, va_K.moved hW.alike hK, hD⟩, hS.F ht⟩) hS.2.2 d_M_cycle_41
      · replace h := if_f hc h
        refine lv_aload_n hx hb d_M_cycle_15 rfl (lv_at hl 0 rfl) ?_
        refine lv_iload_n hx hb d_M_cycle_16 rfl (lv_at hl 1 rfl) ?_
        obtain ⟨r17, hcall, h⟩ := ob1_e h
        refine ro_i (va_Run.run (va_runV (As := [.int (iI v1)]) (rest := []) ⟨hx, hb, hml, hown, hts⟩ (c_M_isGate l D cI cJ cZ F a 0 M_period M_width M_nodes M_analysed M_gates M_startNode M_startChange M_startWay M_startBase M_startEarly M_startLate M_worstWith M_worstWithout M_all M_rowSize M_kinds v1 r17 H.size hcall) (cwV 1 hts (gd_V m1245 m1242 m1244 sl_M_isGate m12) rfl rfl rfl ⟨rfl, hc_M_isGate⟩ ⟨Nat.le_of_ble_eq_true rfl, Nat.le_of_ble_eq_true rfl⟩) (pc_V 0 10 [.int (iI v1)] hP hK hD hN [0, 1] rfl rfl rfl rfl rfl) rfl rfl hl.1 rfl (lv_room (Nat.le_of_ble_eq_true rfl)) d_M_cycle_17 ⟨Nat.le_refl 0, Nat.le_refl 0⟩)) (W.eq (g2 := F0 m 20 ls [.int (iI r17)]) rfl ?_)
        have hj33 : ∀ (M_there_2 : Int → Int) (H : Heap) (locs : List Loc) (ls : Array Slot), va_P D vwCl [(o_M a 0 M_period M_width M_nodes M_analysed M_gates M_startNode M_startChange M_startWay M_startBase M_startEarly M_startLate M_worstWith M_worstWithout M_all M_rowSize), ((a 1), .inl (cI, 48, .inl (ia M_kinds))), ((a 2), .inl (cI, 48, .inl (ia M_pins))), ((a 3), .inl (cI, 144, .inl (ia M_froms))), ((a 21), .inl (cZ, 96, .inl (ia M_there_2)))] H → va_D A [(o_M a 0 M_period M_width M_nodes M_analysed M_gates M_startNode M_startChange M_startWay M_startBase M_startEarly M_startLate M_worstWith M_worstWithout M_all M_rowSize), ((a 1), .inl (cI, 48, .inl (ia M_kinds))), ((a 2), .inl (cI, 48, .inl (ia M_pins))), ((a 3), .inl (cI, 144, .inl (ia M_froms))), ((a 21), .inl (cZ, 96, .inl (ia M_there_2)))] → va_S A s.heap H locs → lv_has ls 2 [(0, .ref (a 0)), (1, .int (iI v1))] → f_M_cycle_j33 F v1 self7 M_there_2 = some (r, z_M_thrown, z_M_there) → W p l e (headSpec w_M_cycle rm_M_cycle).room s m args below meth c H locs 0 0 Q (F0 m 33 ls []) := by
          intro M_there_2 H locs ls hP hD hS hl h
          rw [f_M_cycle_j33] at h
          refine lv_iinc (v := iI (v1 + 1)) (k := 1) (lv' := [(1, .int (iI (v1 + 1))), (0, .ref (a 0))]) hx hb d_M_cycle_33 hl rfl (iI_add _ _) (by decide) rfl (fun ls hl => ?_)
          refine lv_goto hx hb d_M_cycle_36 rfl ?_
          exact ih7 (v1 + 1) M_there_2 H locs ls hP hD hS (lv_sub hl [1, 0] rfl) h
        obtain ⟨hg0, h⟩ := gr_e h
        refine zi_eq hx hb d_M_cycle_20 rfl hg0 (fun hc => ?_) (fun hc => ?_)
        · replace h := if_t hc h
          exact hj33 M_there_1 H locs ls hP hD hS (lv_sub hl [0, 1] rfl) h
        · replace h := if_f hc h
          refine lv_aload_n hx hb d_M_cycle_23 rfl (lv_at hl 0 rfl) ?_
          refine lv_iload_n hx hb d_M_cycle_24 rfl (lv_at hl 1 rfl) ?_
          obtain ⟨r25, M_there_3, hcall, h⟩ := ob2_e h
          refine ca_i (w2 := [(o_M a 0 M_period M_width M_nodes M_analysed M_gates M_startNode M_startChange M_startWay M_startBase M_startEarly M_startLate M_worstWith M_worstWithout M_all M_rowSize), ((a 1), .inl (cI, 48, .inl (ia M_kinds))), ((a 2), .inl (cI, 48, .inl (ia M_pins))), ((a 3), .inl (cI, 144, .inl (ia M_froms))), ((a 21), .inl (cZ, 96, .inl (ia M_there_3)))]) (va_runV (As := [.int (iI v1)]) (rest := []) ⟨hx, hb, hml, hown, hts⟩ (c_M_isRound l D cI cJ cZ F a 0 M_period M_width M_nodes M_analysed M_gates M_startNode M_startChange M_startWay M_startBase M_startEarly M_startLate M_worstWith M_worstWithout M_all M_rowSize M_kinds M_pins M_froms M_there_1 v1 r25 M_there_3 H.size hcall) (cwV 1 hts (gd_V m1249 m1246 m1248 sl_M_isRound m12) rfl rfl rfl ⟨rfl, hc_M_isRound⟩ ⟨Nat.le_of_ble_eq_true rfl, Nat.le_of_ble_eq_true rfl⟩) (pc_V 0 10 [.int (iI v1)] hP hK hD hN [0, 1, 2, 3, 4] rfl rfl rfl rfl rfl) rfl rfl hl.1 rfl (lv_room (Nat.le_of_ble_eq_true rfl)) d_M_cycle_25 ⟨Nat.le_refl 0, Nat.le_refl 0⟩) hP hD hS hA [0, 1, 2, 3, 4] [] [0, 1, 2, 3, 4] rfl rfl rfl (by decide) rfl rfl rfl (fun H locs hP hD hS => ?_)
          obtain ⟨hg0, h⟩ := gr_e h
          refine zi_eq hx hb d_M_cycle_28 rfl hg0 (fun hc => ?_) (fun hc => ?_)
          · replace h := if_t hc h
            exact hj33 M_there_3 H locs ls hP hD hS (lv_sub hl [0, 1] rfl) h
          · replace h := if_f hc h
            refine lv_iload_n hx hb d_M_cycle_31 rfl (lv_at hl 1 rfl) ?_
            obtain ⟨e1, e2, e3⟩ := so3 h
            rw [hQ, e1, e2, e3]; rw [hAe] at hD hS; exact W.iret hx hb hr (fun t ht hW => ⟨⟨_, (), rfl, rfl, by rw [ht]; exact hP, va_K.moved hW.alike hK, hD⟩, hS.F ht⟩) hS.2.2 d_M_cycle_32
  exact hl7 F 0 M_there H locs ls hP hD hS (lv_sub hl [1, 0] rfl) h
abbrev rm_M_sort : Room := { frames := 1, cells := 0, slots := 0, locals := 21 }
set_option maxHeartbeats 4000000 in
set_option maxRecDepth 100000 in
theorem c_M_sort (l : Launch) (D : va_G) (cI cJ cZ : ClassId) (F : Nat) (a : Nat → Nat) (M_thrown : Int) (M_period : Int) (M_width : Int) (M_nodes : Int) (M_analysed : Int) (M_gates : Int) (M_startNode : Int) (M_startChange : Int) (M_startWay : Int) (M_startBase : Int) (M_startEarly : Int) (M_startLate : Int) (M_worstWith : Int) (M_worstWithout : Int) (M_all : Int64) (M_rowSize : Int) (M_kinds : Int → Int) (M_pins : Int → Int) (M_froms : Int → Int) (M_order : Int → Int) (M_there : Int → Int) (z_M_order : Int → Int) (z_M_gates : Int) (z_M_there : Int → Int) (sz : Nat) (h : f_M_sort F M_nodes M_kinds M_pins M_froms M_order M_there = some (z_M_order, z_M_gates, z_M_there)) : Met l y_M_sort w_M_sort rm_M_sort (PC D [(cI, .int), (cJ, .long), (cZ, .boolean)] [.ref (a 0)] ([(o_M a M_thrown M_period M_width M_nodes M_analysed M_gates M_startNode M_startChange M_startWay M_startBase M_startEarly M_startLate M_worstWith M_worstWithout M_all M_rowSize), ((a 1), .inl (cI, 48, .inl (ia M_kinds))), ((a 2), .inl (cI, 48, .inl (ia M_pins))), ((a 3), .inl (cI, 144, .inl (ia M_froms))), ((a 11), .inl (cI, 48, .inl (ia M_order))), ((a 21), .inl (cZ, 96, .inl (ia M_there)))]) sz) (QV D [(cI, .int), (cJ, .long), (cZ, .boolean)] ([(o_M a M_thrown M_period M_width M_nodes M_analysed M_gates M_startNode M_startChange M_startWay M_startBase M_startEarly M_startLate M_worstWith M_worstWithout M_all M_rowSize), ((a 1), .inl (cI, 48, .inl (ia M_kinds))), ((a 2), .inl (cI, 48, .inl (ia M_pins))), ((a 3), .inl (cI, 144, .inl (ia M_froms))), ((a 11), .inl (cI, 48, .inl (ia M_order))), ((a 21), .inl (cZ, 96, .inl (ia M_there)))]) sz ([(o_M a M_thrown M_period M_width M_nodes M_analysed z_M_gates M_startNode M_startChange M_startWay M_startBase M_startEarly M_startLate M_worstWith M_worstWithout M_all M_rowSize), ((a 1), .inl (cI, 48, .inl (ia M_kinds))), ((a 2), .inl (cI, 48, .inl (ia M_pins))), ((a 3), .inl (cI, 144, .inl (ia M_froms))), ((a 11), .inl (cI, 48, .inl (ia z_M_order))), ((a 21), .inl (cZ, 96, .inl (ia z_M_there)))])) 0 0 (va_A ([(o_M a M_thrown M_period M_width M_nodes M_analysed M_gates M_startNode M_startChange M_startWay M_startBase M_startEarly M_startLate M_worstWith M_worstWithout M_all M_rowSize), ((a 1), .inl (cI, 48, .inl (ia M_kinds))), ((a 2), .inl (cI, 48, .inl (ia M_pins))), ((a 3), .inl (cI, 144, .inl (ia M_froms))), ((a 11), .inl (cI, 48, .inl (ia M_order))), ((a 21), .inl (cZ, 96, .inl (ia M_there)))]) sz) := by
  refine Met.ofW (cc := prog_12_method_20_code) (maxL := 6) (ret := (Option.none : Option Jvm.ClassFile.FieldType)) (by decide) rfl ?_
  intro p e s m args below meth c s₁ B hml hv
  obtain ⟨rfl, hsz, hP, hK, hD0, hN⟩ := hv
  have hx := B.exec
  have hb := B.bytes
  have hr := B.returns
  have hts := atoms_spec (ws := w_M_sort) B.pre
  have hown : s.vm.findClass R_M = some m.cls := findClass_of_methodNamed B.named
  have hlocks := B.notSynchronized
  subst hsz
  have hD := hD0.self (sz := s.heap.size)
  obtain ⟨A, hAe⟩ : ∃ A, A = va_A ([(o_M a M_thrown M_period M_width M_nodes M_analysed M_gates M_startNode M_startChange M_startWay M_startBase M_startEarly M_startLate M_worstWith M_worstWithout M_all M_rowSize), ((a 1), .inl (cI, 48, .inl (ia M_kinds))), ((a 2), .inl (cI, 48, .inl (ia M_pins))), ((a 3), .inl (cI, 144, .inl (ia M_froms))), ((a 11), .inl (cI, 48, .inl (ia M_order))), ((a 21), .inl (cZ, 96, .inl (ia M_there)))]) s.heap.size := ⟨_, rfl⟩
  rw [← hAe] at hD
  have hA : ∀ q : Nat, s.heap.size ≤ q → A q := fun q h => by rw [hAe]; exact Or.inr h
  have hS : va_S A s.heap s.heap [] := va_S.rf
  have hl := lv_entry ([.ref (a 0)]) (n := 6) (Nat.le_of_ble_eq_true rfl)
  rw [lg_entry_eq]
  generalize (lg_sl ([.ref (a 0)]) ++ List.replicate (6 - (lg_sl ([.ref (a 0)])).length) Slot.unset).toArray = ls at hl ⊢
  have hl : lv_has ls 6 [(0, .ref (a 0))] := hl
  generalize (List.toArray ([.ref (a 0)] : List Value)) = args at hts ⊢
  have hT : ∀ w ∈ Tg, w.before args s = true := fun w h => hts w (List.mem_cons_of_mem _ h)
  obtain ⟨Q, hQ⟩ : ∃ Q, Q = MQ below (QV D [(cI, .int), (cJ, .long), (cZ, .boolean)] ([(o_M a M_thrown M_period M_width M_nodes M_analysed M_gates M_startNode M_startChange M_startWay M_startBase M_startEarly M_startLate M_worstWith M_worstWithout M_all M_rowSize), ((a 1), .inl (cI, 48, .inl (ia M_kinds))), ((a 2), .inl (cI, 48, .inl (ia M_pins))), ((a 3), .inl (cI, 144, .inl (ia M_froms))), ((a 11), .inl (cI, 48, .inl (ia M_order))), ((a 21), .inl (cZ, 96, .inl (ia M_there)))]) s.heap.size ([(o_M a M_thrown M_period M_width M_nodes M_analysed z_M_gates M_startNode M_startChange M_startWay M_startBase M_startEarly M_startLate M_worstWith M_worstWithout M_all M_rowSize), ((a 1), .inl (cI, 48, .inl (ia M_kinds))), ((a 2), .inl (cI, 48, .inl (ia M_pins))), ((a 3), .inl (cI, 144, .inl (ia M_froms))), ((a 11), .inl (cI, 48, .inl (ia z_M_order))), ((a 21), .inl (cZ, 96, .inl (ia z_M_there)))])) args s 0 0 (va_A ([(o_M a M_thrown M_period M_width M_nodes M_analysed M_gates M_startNode M_startChange M_startWay M_startBase M_startEarly M_startLate M_worstWith M_worstWithout M_all M_rowSize), ((a 1), .inl (cI, 48, .inl (ia M_kinds))), ((a 2), .inl (cI, 48, .inl (ia M_pins))), ((a 3), .inl (cI, 144, .inl (ia M_froms))), ((a 11), .inl (cI, 48, .inl (ia M_order))), ((a 21), .inl (cZ, 96, .inl (ia M_there)))]) s.heap.size) := ⟨_, rfl⟩
  rw [← hQ]
  suffices hW : ∀ (H : Heap) (locs : List Loc), va_P D vwCl ([(o_M a M_thrown M_period M_width M_nodes M_analysed M_gates M_startNode M_startChange M_startWay M_startBase M_startEarly M_startLate M_worstWith M_worstWithout M_all M_rowSize), ((a 1), .inl (cI, 48, .inl (ia M_kinds))), ((a 2), .inl (cI, 48, .inl (ia M_pins))), ((a 3), .inl (cI, 144, .inl (ia M_froms))), ((a 11), .inl (cI, 48, .inl (ia M_order))), ((a 21), .inl (cZ, 96, .inl (ia M_there)))]) H → va_D A ([(o_M a M_thrown M_period M_width M_nodes M_analysed M_gates M_startNode M_startChange M_startWay M_startBase M_startEarly M_startLate M_worstWith M_worstWithout M_all M_rowSize), ((a 1), .inl (cI, 48, .inl (ia M_kinds))), ((a 2), .inl (cI, 48, .inl (ia M_pins))), ((a 3), .inl (cI, 144, .inl (ia M_froms))), ((a 11), .inl (cI, 48, .inl (ia M_order))), ((a 21), .inl (cZ, 96, .inl (ia M_there)))]) → va_S A s.heap H locs → W p l e (headSpec w_M_sort rm_M_sort).room s m args below meth c H locs 0 0 Q (F0 m 0 ls []) from hW s.heap [] hP hD hS
  clear hP hD hS
  intro H locs hP hD hS
  rw [f_M_sort] at h
  refine lv_aload_n hx hb d_M_sort_0 rfl (lv_at hl 0 rfl) ?_
  refine zv_iconst hx hb d_M_sort_1 ?_
  refine va_put (D := D) (ci := 10) (v := .int (iI 0)) (ty := .int) (C := R_M) (T := F_M) (N := 53) hx hb hT in_M ty_M ty_M_ok n_M hown hK hP hD hS 0 rfl rfl 16 (by decide) (hT _ m1037) (fun _ h9 => h9) rfl (by decide +kernel) rfl rfl (Nat.le_of_ble_eq_true rfl) d_M_sort_2 (fun H locs hP hD hS => ?_)
  have hP : va_P D vwCl [(o_M a M_thrown M_period M_width M_nodes M_analysed 0 M_startNode M_startChange M_startWay M_startBase M_startEarly M_startLate M_worstWith M_worstWithout M_all M_rowSize), ((a 1), .inl (cI, 48, .inl (ia M_kinds))), ((a 2), .inl (cI, 48, .inl (ia M_pins))), ((a 3), .inl (cI, 144, .inl (ia M_froms))), ((a 11), .inl (cI, 48, .inl (ia M_order))), ((a 21), .inl (cZ, 96, .inl (ia M_there)))] H := hP
  have hD : va_D A [(o_M a M_thrown M_period M_width M_nodes M_analysed 0 M_startNode M_startChange M_startWay M_startBase M_startEarly M_startLate M_worstWith M_worstWithout M_all M_rowSize), ((a 1), .inl (cI, 48, .inl (ia M_kinds))), ((a 2), .inl (cI, 48, .inl (ia M_pins))), ((a 3), .inl (cI, 144, .inl (ia M_froms))), ((a 11), .inl (cI, 48, .inl (ia M_order))), ((a 21), .inl (cZ, 96, .inl (ia M_there)))] := hD
  refine zv_iconst hx hb d_M_sort_5 ?_
  refine lv_istore_n (lv' := [(1, .int (iI 0)), (0, .ref (a 0))]) hx hb d_M_sort_6 rfl hl (by decide) rfl (fun ls hl => ?_)
  have hl7 : ∀ (nf : Nat) (v1 : Int) (M_there_1 : Int → Int) (H : Heap) (locs : List Loc) (ls : Array Slot), va_P D vwCl [(o_M a M_thrown M_period M_width M_nodes M_analysed 0 M_startNode M_startChange M_startWay M_startBase M_startEarly M_startLate M_worstWith M_worstWithout M_all M_rowSize), ((a 1), .inl (cI, 48, .inl (ia M_kinds))), ((a 2), .inl (cI, 48, .inl (ia M_pins))), ((a 3), .inl (cI, 144, .inl (ia M_froms))), ((a 11), .inl (cI, 48, .inl (ia M_order))), ((a 21), .inl (cZ, 96, .inl (ia M_there_1)))] H → va_D A [(o_M a M_thrown M_period M_width M_nodes M_analysed 0 M_startNode M_startChange M_startWay M_startBase M_startEarly M_startLate M_worstWith M_worstWithout M_all M_rowSize), ((a 1), .inl (cI, 48, .inl (ia M_kinds))), ((a 2), .inl (cI, 48, .inl (ia M_pins))), ((a 3), .inl (cI, 144, .inl (ia M_froms))), ((a 11), .inl (cI, 48, .inl (ia M_order))), ((a 21), .inl (cZ, 96, .inl (ia M_there_1)))] → va_S A s.heap H locs → lv_has ls 6 [(0, .ref (a 0)), (1, .int (iI v1))] → lq2 (f_M_sort_b7 F M_nodes M_kinds M_pins M_froms M_order) nf v1 M_there_1 = some (z_M_order, z_M_gates, z_M_there) → W p l e (headSpec w_M_sort rm_M_sort).room s m args below meth c H locs 0 0 Q (F0 m 7 ls []) := by
    intro n7
    induction n7 with
    | zero => intro v1 M_there_1 H locs ls hP hD hS hl h; exact no_some h
    | succ n7 ih7 =>
      intro v1 M_there_1 H locs ls hP hD hS hl h
      replace h : f_M_sort_b7 F M_nodes M_kinds M_pins M_froms M_order (lq2 (f_M_sort_b7 F M_nodes M_kinds M_pins M_froms M_order) n7) v1 M_there_1 = some (z_M_order, z_M_gates, z_M_there) := h
      obtain ⟨self7, hs7⟩ : ∃ z, z = lq2 (f_M_sort_b7 F M_nodes M_kinds M_pins M_froms M_order) n7 := ⟨_, rfl⟩
      rw [← hs7] at h ih7
      rw [f_M_sort_b7] at h
      refine lv_iload_n hx hb d_M_sort_7 rfl (lv_at hl 1 rfl) ?_
      refine lv_bipush (v := iI 96) hx hb d_M_sort_8 (by decide) ?_
      obtain ⟨hg0, h⟩ := gr_e h
      refine zc_ge hx hb d_M_sort_10 rfl hg0 (by decide) (fun hc => ?_) (fun hc => ?_)
      · replace h := if_t hc h
        refine zv_iconst hx hb d_M_sort_26 ?_
        refine lv_istore_n (lv' := [(1, .int (iI 0)), (0, .ref (a 0))]) hx hb d_M_sort_27 rfl hl (by decide) rfl (fun ls hl => ?_)
        have hl28 : ∀ (nf : Nat) (v1_2 : Int) (M_order_3 : Int → Int) (M_gates_4 : Int) (M_there_5 : Int → Int) (H : Heap) (locs : List Loc) (ls : Array Slot), va_P D vwCl [(o_M a M_thrown M_period M_width M_nodes M_analysed M_gates_4 M_startNode M_startChange M_startWay M_startBase M_startEarly M_startLate M_worstWith M_worstWithout M_all M_rowSize), ((a 1), .inl (cI, 48, .inl (ia M_kinds))), ((a 2), .inl (cI, 48, .inl (ia M_pins))), ((a 3), .inl (cI, 144, .inl (ia M_froms))), ((a 11), .inl (cI, 48, .inl (ia M_order_3))), ((a 21), .inl (cZ, 96, .inl (ia M_there_5)))] H → va_D A [(o_M a M_thrown M_period M_width M_nodes M_analysed M_gates_4 M_startNode M_startChange M_startWay M_startBase M_startEarly M_startLate M_worstWith M_worstWithout M_all M_rowSize), ((a 1), .inl (cI, 48, .inl (ia M_kinds))), ((a 2), .inl (cI, 48, .inl (ia M_pins))), ((a 3), .inl (cI, 144, .inl (ia M_froms))), ((a 11), .inl (cI, 48, .inl (ia M_order_3))), ((a 21), .inl (cZ, 96, .inl (ia M_there_5)))] → va_S A s.heap H locs → lv_has ls 6 [(0, .ref (a 0)), (1, .int (iI v1_2))] → lq4 (f_M_sort_b28 F M_nodes M_kinds M_pins M_froms) nf v1_2 M_order_3 M_gates_4 M_there_5 = some (z_M_order, z_M_gates, z_M_there) → W p l e (headSpec w_M_sort rm_M_sort).room s m args below meth c H locs 0 0 Q (F0 m 28 ls []) := by
          intro n28
          induction n28 with
          | zero => intro v1_2 M_order_3 M_gates_4 M_there_5 H locs ls hP hD hS hl h; exact no_some h
          | succ n28 ih28 =>
            intro v1_2 M_order_3 M_gates_4 M_there_5 H locs ls hP hD hS hl h
            replace h : f_M_sort_b28 F M_nodes M_kinds M_pins M_froms (lq4 (f_M_sort_b28 F M_nodes M_kinds M_pins M_froms) n28) v1_2 M_order_3 M_gates_4 M_there_5 = some (z_M_order, z_M_gates, z_M_there) := h
            obtain ⟨self28, hs28⟩ : ∃ z, z = lq4 (f_M_sort_b28 F M_nodes M_kinds M_pins M_froms) n28 := ⟨_, rfl⟩
            rw [← hs28] at h ih28
            rw [f_M_sort_b28] at h
            refine lv_iload_n hx hb d_M_sort_28 rfl (lv_at hl 1 rfl) ?_
            refine lv_aload_n hx hb d_M_sort_29 rfl (lv_at hl 0 rfl) ?_
            refine va_get (D := D) (ci := 10) (v := .int (iI M_nodes)) (C := R_M) (T := F_M) (N := 53) hx hb hT in_M hown hK hP 0 rfl rfl 3 (by decide) (hT _ m1024) (fun _ h9 => h9) rfl d_M_sort_30 ?_
            obtain ⟨hg0, h⟩ := gr_e h
            obtain ⟨hg1, h⟩ := gr_e h
            refine zc_ge hx hb d_M_sort_33 rfl hg0 hg1 (fun hc => ?_) (fun hc => ?_)
            · replace h := if_t hc h
              obtain ⟨e1, e2, e3⟩ := so3 h
              rw [hQ, e1, e2, e3]; rw [hAe] at hD hS; exact W.vret hx hb hr (fun t ht hW => ⟨⟨(), rfl, trivial, by rw [ht]; exact hP, va_K.moved hW.alike hK, hD⟩, hS.F ht⟩) hS.2.2 d_M_sort_174
            · replace h := if_f hc h
              refine zv_iconst hx hb d_M_sort_36 ?_
              refine lv_istore_n (lv' := [(2, .int (iI 0)), (0, .ref (a 0)), (1, .int (iI v1_2))]) hx hb d_M_sort_37 rfl hl (by decide) rfl (fun ls hl => ?_)
              have hl38 : ∀ (nf : Nat) (v2 : Int) (M_order_6 : Int → Int) (M_gates_7 : Int) (M_there_8 : Int → Int) (H : Heap) (locs : List Loc) (ls : Array Slot), va_P D vwCl [(o_M a M_thrown M_period M_width M_nodes M_analysed M_gates_7 M_startNode M_startChange M_startWay M_startBase M_startEarly M_startLate M_worstWith M_worstWithout M_all M_rowSize), ((a 1), .inl (cI, 48, .inl (ia M_kinds))), ((a 2), .inl (cI, 48, .inl (ia M_pins))), ((a 3), .inl (cI, 144, .inl (ia M_froms))), ((a 11), .inl (cI, 48, .inl (ia M_order_6))), ((a 21), .inl (cZ, 96, .inl (ia M_there_8)))] H → va_D A [(o_M a M_thrown M_period M_width M_nodes M_analysed M_gates_7 M_startNode M_startChange M_startWay M_startBase M_startEarly M_startLate M_worstWith M_worstWithout M_all M_rowSize), ((a 1), .inl (cI, 48, .inl (ia M_kinds))), ((a 2), .inl (cI, 48, .inl (ia M_pins))), ((a 3), .inl (cI, 144, .inl (ia M_froms))), ((a 11), .inl (cI, 48, .inl (ia M_order_6))), ((a 21), .inl (cZ, 96, .inl (ia M_there_8)))] → va_S A s.heap H locs → lv_has ls 6 [(0, .ref (a 0)), (1, .int (iI v1_2)), (2, .int (iI v2))] → lq4 (f_M_sort_b38 F M_nodes M_kinds M_pins M_froms v1_2 self28) nf v2 M_order_6 M_gates_7 M_there_8 = some (z_M_order, z_M_gates, z_M_there) → W p l e (headSpec w_M_sort rm_M_sort).room s m args below meth c H locs 0 0 Q (F0 m 38 ls []) := by
                intro n38
                induction n38 with
                | zero => intro v2 M_order_6 M_gates_7 M_there_8 H locs ls hP hD hS hl h; exact no_some h
                | succ n38 ih38 =>
                  intro v2 M_order_6 M_gates_7 M_there_8 H locs ls hP hD hS hl h
                  replace h : f_M_sort_b38 F M_nodes M_kinds M_pins M_froms v1_2 self28 (lq4 (f_M_sort_b38 F M_nodes M_kinds M_pins M_froms v1_2 self28) n38) v2 M_order_6 M_gates_7 M_there_8 = some (z_M_order, z_M_gates, z_M_there) := h
                  obtain ⟨self38, hs38⟩ : ∃ z, z = lq4 (f_M_sort_b38 F M_nodes M_kinds M_pins M_froms v1_2 self28) n38 := ⟨_, rfl⟩
                  rw [← hs38] at h ih38
                  rw [f_M_sort_b38] at h
                  refine lv_iload_n hx hb d_M_sort_38 rfl (lv_at hl 2 rfl) ?_
                  refine lv_aload_n hx hb d_M_sort_39 rfl (lv_at hl 0 rfl) ?_
                  refine va_get (D := D) (ci := 10) (v := .int (iI M_nodes)) (C := R_M) (T := F_M) (N := 53) hx hb hT in_M hown hK hP 0 rfl rfl 3 (by decide) (hT _ m1024) (fun _ h9 => h9) rfl d_M_sort_40 ?_
                  obtain ⟨hg0, h⟩ := gr_e h
                  obtain ⟨hg1, h⟩ := gr_e h
                  refine zc_ge hx hb d_M_sort_43 rfl hg0 hg1 (fun hc => ?_) (fun hc => ?_)
                  · replace h := if_t hc h
                    refine lv_iinc (v := iI (v1_2 + 1)) (k := 1) (lv' := [(1, .int (iI (v1_2 + 1))), (0, .ref (a 0)), (2, .int (iI v2))]) hx hb d_M_sort_168 hl rfl (iI_add _ _) (by decide) rfl (fun ls hl => ?_)
                    refine lv_goto hx hb d_M_sort_171 rfl ?_
                    exact ih28 (v1_2 + 1) M_order_6 M_gates_7 M_there_8 H locs ls hP hD hS (lv_sub hl [1, 0] rfl) h
                  · replace h := if_f hc h
                    refine lv_aload_n hx hb d_M_sort_46 rfl (lv_at hl 0 rfl) ?_
                    refine lv_iload_n hx hb d_M_sort_47 rfl (lv_at hl 2 rfl) ?_
                    obtain ⟨r48, hcall, h⟩ := ob1_e h
                    refine ro_i (va_Run.run (va_runV (As := [.int (iI v2)]) (rest := []) ⟨hx, hb, hml, hown, hts⟩ (c_M_isGate l D cI cJ cZ F a M_thrown M_period M_width M_nodes M_analysed M_gates_7 M_startNode M_startChange M_startWay M_startBase M_startEarly M_startLate M_worstWith M_worstWithout M_all M_rowSize M_kinds v2 r48 H.size hcall) (cwV 1 hts (gd_V m1245 m1242 m1244 sl_M_isGate m12) rfl rfl rfl ⟨rfl, hc_M_isGate⟩ ⟨Nat.le_of_ble_eq_true rfl, Nat.le_of_ble_eq_true rfl⟩) (pc_V 0 10 [.int (iI v2)] hP hK hD hN [0, 1] rfl rfl rfl rfl rfl) rfl rfl hl.1 rfl (lv_room (Nat.le_of_ble_eq_true rfl)) d_M_sort_48 ⟨Nat.le_refl 0, Nat.le_refl 0⟩)) (W.eq (g2 := F0 m 51 ls [.int (iI r48)]) rfl ?_)
                    have hj68 : ∀ (q0 : Int) (H : Heap) (locs : List Loc) (ls : Array Slot), va_P D vwCl [(o_M a M_thrown M_period M_width M_nodes M_analysed M_gates_7 M_startNode M_startChange M_startWay M_startBase M_startEarly M_startLate M_worstWith M_worstWithout M_all M_rowSize), ((a 1), .inl (cI, 48, .inl (ia M_kinds))), ((a 2), .inl (cI, 48, .inl (ia M_pins))), ((a 3), .inl (cI, 144, .inl (ia M_froms))), ((a 11), .inl (cI, 48, .inl (ia M_order_6))), ((a 21), .inl (cZ, 96, .inl (ia M_there_8)))] H → va_D A [(o_M a M_thrown M_period M_width M_nodes M_analysed M_gates_7 M_startNode M_startChange M_startWay M_startBase M_startEarly M_startLate M_worstWith M_worstWithout M_all M_rowSize), ((a 1), .inl (cI, 48, .inl (ia M_kinds))), ((a 2), .inl (cI, 48, .inl (ia M_pins))), ((a 3), .inl (cI, 144, .inl (ia M_froms))), ((a 11), .inl (cI, 48, .inl (ia M_order_6))), ((a 21), .inl (cZ, 96, .inl (ia M_there_8)))] → va_S A s.heap H locs → lv_has ls 6 [(0, .ref (a 0)), (1, .int (iI v1_2)), (2, .int (iI v2))] → f_M_sort_j68 F M_kinds M_pins M_froms v2 M_order_6 M_gates_7 M_there_8 self38 q0 = some (z_M_order, z_M_gates, z_M_there) → W p l e (headSpec w_M_sort rm_M_sort).room s m args below meth c H locs 0 0 Q (F0 m 68 ls [.int (iI q0)]) := by
                      intro q0 H locs ls hP hD hS hl h
                      rw [f_M_sort_j68] at h
                      refine lv_istore_n (lv' := [(3, .int (iI q0)), (0, .ref (a 0)), (1, .int (iI v1_2)), (2, .int (iI v2))]) hx hb d_M_sort_68 rfl hl (by decide) rfl (fun ls hl => ?_)
                      refine zv_iconst hx hb d_M_sort_69 ?_
                      refine lv_istore (lv' := [(4, .int (iI 0)), (3, .int (iI q0)), (0, .ref (a 0)), (1, .int (iI v1_2)), (2, .int (iI v2))]) hx hb d_M_sort_70 hl (by decide) rfl (fun ls hl => ?_)
                      have hl72 : ∀ (nf : Nat) (v3 : Int) (v4 : Int) (H : Heap) (locs : List Loc) (ls : Array Slot), va_P D vwCl [(o_M a M_thrown M_period M_width M_nodes M_analysed M_gates_7 M_startNode M_startChange M_startWay M_startBase M_startEarly M_startLate M_worstWith M_worstWithout M_all M_rowSize), ((a 1), .inl (cI, 48, .inl (ia M_kinds))), ((a 2), .inl (cI, 48, .inl (ia M_pins))), ((a 3), .inl (cI, 144, .inl (ia M_froms))), ((a 11), .inl (cI, 48, .inl (ia M_order_6))), ((a 21), .inl (cZ, 96, .inl (ia M_there_8)))] H → va_D A [(o_M a M_thrown M_period M_width M_nodes M_analysed M_gates_7 M_startNode M_startChange M_startWay M_startBase M_startEarly M_startLate M_worstWith M_worstWithout M_all M_rowSize), ((a 1), .inl (cI, 48, .inl (ia M_kinds))), ((a 2), .inl (cI, 48, .inl (ia M_pins))), ((a 3), .inl (cI, 144, .inl (ia M_froms))), ((a 11), .inl (cI, 48, .inl (ia M_order_6))), ((a 21), .inl (cZ, 96, .inl (ia M_there_8)))] → va_S A s.heap H locs → lv_has ls 6 [(0, .ref (a 0)), (1, .int (iI v1_2)), (2, .int (iI v2)), (3, .int (iI v3)), (4, .int (iI v4))] → lq2 (f_M_sort_b72 F M_kinds M_pins M_froms v2 M_order_6 M_gates_7 M_there_8 self38) nf v3 v4 = some (z_M_order, z_M_gates, z_M_there) → W p l e (headSpec w_M_sort rm_M_sort).room s m args below meth c H locs 0 0 Q (F0 m 72 ls []) := by
                        intro n72
                        induction n72 with
                        | zero => intro v3 v4 H locs ls hP hD hS hl h; exact no_some h
                        | succ n72 ih72 =>
                          intro v3 v4 H locs ls hP hD hS hl h
                          replace h : f_M_sort_b72 F M_kinds M_pins M_froms v2 M_order_6 M_gates_7 M_there_8 self38 (lq2 (f_M_sort_b72 F M_kinds M_pins M_froms v2 M_order_6 M_gates_7 M_there_8 self38) n72) v3 v4 = some (z_M_order, z_M_gates, z_M_there) := h
                          obtain ⟨self72, hs72⟩ : ∃ z, z = lq2 (f_M_sort_b72 F M_kinds M_pins M_froms v2 M_order_6 M_gates_7 M_there_8 self38) n72 := ⟨_, rfl⟩
                          rw [← hs72] at h ih72
                          rw [f_M_sort_b72] at h
                          refine lv_iload hx hb d_M_sort_72 (lv_at hl 4 rfl) ?_
                          refine lv_aload_n hx hb d_M_sort_74 rfl (lv_at hl 0 rfl) ?_
                          refine va_get (D := D) (ci := 10) (v := .ref (a 2)) (C := R_M) (T := F_M) (N := 53) hx hb hT in_M hown hK hP 0 rfl rfl 5 (by decide) (hT _ m1026) (fun _ h9 => h9) rfl d_M_sort_75 ?_
                          refine lv_iload_n hx hb d_M_sort_78 rfl (lv_at hl 2 rfl) ?_
                          obtain ⟨hin, h⟩ := gi_e h
                          refine zv_iald hx hb hK hP 2 0 rfl rfl (Nat.le_of_ble_eq_true rfl) hin d_M_sort_79 ?_
                          have hj131 : ∀  (H : Heap) (locs : List Loc) (ls : Array Slot), va_P D vwCl [(o_M a M_thrown M_period M_width M_nodes M_analysed M_gates_7 M_startNode M_startChange M_startWay M_startBase M_startEarly M_startLate M_worstWith M_worstWithout M_all M_rowSize), ((a 1), .inl (cI, 48, .inl (ia M_kinds))), ((a 2), .inl (cI, 48, .inl (ia M_pins))), ((a 3), .inl (cI, 144, .inl (ia M_froms))), ((a 11), .inl (cI, 48, .inl (ia M_order_6))), ((a 21), .inl (cZ, 96, .inl (ia M_there_8)))] H → va_D A [(o_M a M_thrown M_period M_width M_nodes M_analysed M_gates_7 M_startNode M_startChange M_startWay M_startBase M_startEarly M_startLate M_worstWith M_worstWithout M_all M_rowSize), ((a 1), .inl (cI, 48, .inl (ia M_kinds))), ((a 2), .inl (cI, 48, .inl (ia M_pins))), ((a 3), .inl (cI, 144, .inl (ia M_froms))), ((a 11), .inl (cI, 48, .inl (ia M_order_6))), ((a 21), .inl (cZ, 96, .inl (ia M_there_8)))] → va_S A s.heap H locs → lv_has ls 6 [(0, .ref (a 0)), (1, .int (iI v1_2)), (2, .int (iI v2)), (3, .int (iI v3))] → f_M_sort_j131 F v2 M_order_6 M_gates_7 M_there_8 self38 v3 = some (z_M_order, z_M_gates, z_M_there) → W p l e (headSpec w_M_sort rm_M_sort).room s m args below meth c H locs 0 0 Q (F0 m 131 ls []) := by
                            intro  H locs ls hP hD hS hl h
                            rw [f_M_sort_j131] at h
                            refine lv_iload_n hx hb d_M_sort_131 rfl (lv_at hl 3 rfl) ?_
                            have hj162 : ∀ (M_order_9 : Int → Int) (M_gates_10 : Int) (M_there_11 : Int → Int) (H : Heap) (locs : List Loc) (ls : Array Slot), va_P D vwCl [(o_M a M_thrown M_period M_width M_nodes M_analysed M_gates_10 M_startNode M_startChange M_startWay M_startBase M_startEarly M_startLate M_worstWith M_worstWithout M_all M_rowSize), ((a 1), .inl (cI, 48, .inl (ia M_kinds))), ((a 2), .inl (cI, 48, .inl (ia M_pins))), ((a 3), .inl (cI, 144, .inl (ia M_froms))), ((a 11), .inl (cI, 48, .inl (ia M_order_9))), ((a 21), .inl (cZ, 96, .inl (ia M_there_11)))] H → va_D A [(o_M a M_thrown M_period M_width M_nodes M_analysed M_gates_10 M_startNode M_startChange M_startWay M_startBase M_startEarly M_startLate M_worstWith M_worstWithout M_all M_rowSize), ((a 1), .inl (cI, 48, .inl (ia M_kinds))), ((a 2), .inl (cI, 48, .inl (ia M_pins))), ((a 3), .inl (cI, 144, .inl (ia M_froms))), ((a 11), .inl (cI, 48, .inl (ia M_order_9))), ((a 21), .inl (cZ, 96, .inl (ia M_there_11)))] → va_S A s.heap H locs → lv_has ls 6 [(0, .ref (a 0)), (1, .int (iI v1_2)), (2, .int (iI v2))] → f_M_sort_j162 F v2 self38 M_order_9 M_gates_10 M_there_11 = some (z_M_order, z_M_gates, z_M_there) → W p l e (headSpec w_M_sort rm_M_sort).room s m args below meth c H locs 0 0 Q (F0 m 162 ls []) := by
                              intro M_order_9 M_gates_10 M_there_11 H locs ls hP hD hS hl h
                              rw [f_M_sort_j162] at h
                              refine lv_iinc (v := iI (v2 + 1)) (k := 2) (lv' := [(2, .int (iI (v2 + 1))), (0, .ref (a 0)), (1, .int (iI v1_2))]) hx hb d_M_sort_162 hl rfl (iI_add _ _) (by decide) rfl (fun ls hl => ?_)
                              refine lv_goto hx hb d_M_sort_165 rfl ?_
                              exact ih38 (v2 + 1) M_order_9 M_gates_10 M_there_11 H locs ls hP hD hS (lv_sub hl [1, 2, 0] rfl) h
                            obtain ⟨hg0, h⟩ := gr_e h
                            refine zi_eq hx hb d_M_sort_132 rfl hg0 (fun hc => ?_) (fun hc => ?_)
                            · replace h := if_t hc h
                              exact hj162 M_order_6 M_gates_7 M_there_8 H locs ls hP hD hS (lv_sub hl [0, 1, 2] rfl) h
                            · replace h := if_f hc h
                              refine lv_aload_n hx hb d_M_sort_135 rfl (lv_at hl 0 rfl) ?_
                              refine va_get (D := D) (ci := 10) (v := .ref (a 21)) (C := R_M) (T := F_M) (N := 53) hx hb hT in_M hown hK hP 0 rfl rfl 26 (by decide) (hT _ m1047) (fun _ h9 => h9) rfl d_M_sort_136 ?_
                              refine lv_iload_n hx hb d_M_sort_139 rfl (lv_at hl 2 rfl) ?_
                              refine zv_iconst hx hb d_M_sort_140 ?_
                              obtain ⟨hin, h⟩ := gi_e h
                              refine zv_zast hx hb hK hP hD hS 5 2 rfl rfl (Nat.le_of_ble_eq_true rfl) hin (Or.inr rfl) d_M_sort_141 (fun H locs hP hD hS => ?_)
                              obtain ⟨M_there_12, hv⟩ : ∃ z, z = (ui M_there_8 v2 1) := ⟨_, rfl⟩
                              replace h := bd_e hv h
                              have hP : va_P D vwCl [(o_M a M_thrown M_period M_width M_nodes M_analysed M_gates_7 M_startNode M_startChange M_startWay M_startBase M_startEarly M_startLate M_worstWith M_worstWithout M_all M_rowSize), ((a 1), .inl (cI, 48, .inl (ia M_kinds))), ((a 2), .inl (cI, 48, .inl (ia M_pins))), ((a 3), .inl (cI, 144, .inl (ia M_froms))), ((a 11), .inl (cI, 48, .inl (ia M_order_6))), ((a 21), .inl (cZ, 96, .inl (ia M_there_12)))] H := by rw [hv]; exact hP
                              have hD : va_D A [(o_M a M_thrown M_period M_width M_nodes M_analysed M_gates_7 M_startNode M_startChange M_startWay M_startBase M_startEarly M_startLate M_worstWith M_worstWithout M_all M_rowSize), ((a 1), .inl (cI, 48, .inl (ia M_kinds))), ((a 2), .inl (cI, 48, .inl (ia M_pins))), ((a 3), .inl (cI, 144, .inl (ia M_froms))), ((a 11), .inl (cI, 48, .inl (ia M_order_6))), ((a 21), .inl (cZ, 96, .inl (ia M_there_12)))] := by rw [hv]; exact hD
                              refine lv_aload_n hx hb d_M_sort_142 rfl (lv_at hl 0 rfl) ?_
                              refine va_get (D := D) (ci := 10) (v := .ref (a 11)) (C := R_M) (T := F_M) (N := 53) hx hb hT in_M hown hK hP 0 rfl rfl 15 (by decide) (hT _ m1036) (fun _ h9 => h9) rfl d_M_sort_143 ?_
                              refine lv_aload_n hx hb d_M_sort_146 rfl (lv_at hl 0 rfl) ?_
                              refine va_get (D := D) (ci := 10) (v := .int (iI M_gates_7)) (C := R_M) (T := F_M) (N := 53) hx hb hT in_M hown hK hP 0 rfl rfl 16 (by decide) (hT _ m1037) (fun _ h9 => h9) rfl d_M_sort_147 ?_
                              refine lv_iload_n hx hb d_M_sort_150 rfl (lv_at hl 2 rfl) ?_
                              obtain ⟨hin, h⟩ := gi_e h
                              refine zv_iast hx hb hK hP hD hS 4 0 rfl rfl (Nat.le_of_ble_eq_true rfl) hin d_M_sort_151 (fun H locs hP hD hS => ?_)
                              obtain ⟨M_order_13, hv⟩ : ∃ z, z = (ui M_order_6 M_gates_7 v2) := ⟨_, rfl⟩
                              replace h := bd_e hv h
                              have hP : va_P D vwCl [(o_M a M_thrown M_period M_width M_nodes M_analysed M_gates_7 M_startNode M_startChange M_startWay M_startBase M_startEarly M_startLate M_worstWith M_worstWithout M_all M_rowSize), ((a 1), .inl (cI, 48, .inl (ia M_kinds))), ((a 2), .inl (cI, 48, .inl (ia M_pins))), ((a 3), .inl (cI, 144, .inl (ia M_froms))), ((a 11), .inl (cI, 48, .inl (ia M_order_13))), ((a 21), .inl (cZ, 96, .inl (ia M_there_12)))] H := by rw [hv]; exact hP
                              have hD : va_D A [(o_M a M_thrown M_period M_width M_nodes M_analysed M_gates_7 M_startNode M_startChange M_startWay M_startBase M_startEarly M_startLate M_worstWith M_worstWithout M_all M_rowSize), ((a 1), .inl (cI, 48, .inl (ia M_kinds))), ((a 2), .inl (cI, 48, .inl (ia M_pins))), ((a 3), .inl (cI, 144, .inl (ia M_froms))), ((a 11), .inl (cI, 48, .inl (ia M_order_13))), ((a 21), .inl (cZ, 96, .inl (ia M_there_12)))] := by rw [hv]; exact hD
                              refine lv_aload_n hx hb d_M_sort_152 rfl (lv_at hl 0 rfl) ?_
                              refine lv_dup hx hb d_M_sort_153 rfl ?_
                              refine va_get (D := D) (ci := 10) (v := .int (iI M_gates_7)) (C := R_M) (T := F_M) (N := 53) hx hb hT in_M hown hK hP 0 rfl rfl 16 (by decide) (hT _ m1037) (fun _ h9 => h9) rfl d_M_sort_154 ?_
                              refine zv_iconst hx hb d_M_sort_157 ?_
                              refine zv_iadd hx hb d_M_sort_158 ?_
                              refine va_put (D := D) (ci := 10) (v := .int (iI (M_gates_7 + 1))) (ty := .int) (C := R_M) (T := F_M) (N := 53) hx hb hT in_M ty_M ty_M_ok n_M hown hK hP hD hS 0 rfl rfl 16 (by decide) (hT _ m1037) (fun _ h9 => h9) rfl (by decide +kernel) rfl rfl (Nat.le_of_ble_eq_true rfl) d_M_sort_159 (fun H locs hP hD hS => ?_)
                              have hP : va_P D vwCl [(o_M a M_thrown M_period M_width M_nodes M_analysed (M_gates_7 + 1) M_startNode M_startChange M_startWay M_startBase M_startEarly M_startLate M_worstWith M_worstWithout M_all M_rowSize), ((a 1), .inl (cI, 48, .inl (ia M_kinds))), ((a 2), .inl (cI, 48, .inl (ia M_pins))), ((a 3), .inl (cI, 144, .inl (ia M_froms))), ((a 11), .inl (cI, 48, .inl (ia M_order_13))), ((a 21), .inl (cZ, 96, .inl (ia M_there_12)))] H := hP
                              have hD : va_D A [(o_M a M_thrown M_period M_width M_nodes M_analysed (M_gates_7 + 1) M_startNode M_startChange M_startWay M_startBase M_startEarly M_startLate M_worstWith M_worstWithout M_all M_rowSize), ((a 1), .inl (cI, 48, .inl (ia M_kinds))), ((a 2), .inl (cI, 48, .inl (ia M_pins))), ((a 3), .inl (cI, 144, .inl (ia M_froms))), ((a 11), .inl (cI, 48, .inl (ia M_order_13))), ((a 21), .inl (cZ, 96, .inl (ia M_there_12)))] := hD
                              exact hj162 M_order_13 (M_gates_7 + 1) M_there_12 H locs ls hP hD hS (lv_sub hl [0, 1, 2] rfl) h
                          obtain ⟨hg0, h⟩ := gr_e h
                          obtain ⟨hg1, h⟩ := gr_e h
                          refine zc_ge hx hb d_M_sort_80 rfl hg0 hg1 (fun hc => ?_) (fun hc => ?_)
                          · replace h := if_t hc h
                            exact hj131  H locs ls hP hD hS (lv_sub hl [0, 1, 2, 3] rfl) h
                          · replace h := if_f hc h
                            refine lv_iload_n hx hb d_M_sort_83 rfl (lv_at hl 3 rfl) ?_
                            obtain ⟨hg0, h⟩ := gr_e h
                            refine zi_eq hx hb d_M_sort_84 rfl hg0 (fun hc => ?_) (fun hc => ?_)
                            · replace h := if_t hc h
                              exact hj131  H locs ls hP hD hS (lv_sub hl [0, 1, 2, 3] rfl) h
                            · replace h := if_f hc h
                              refine lv_aload_n hx hb d_M_sort_87 rfl (lv_at hl 0 rfl) ?_
                              refine va_get (D := D) (ci := 10) (v := .ref (a 3)) (C := R_M) (T := F_M) (N := 53) hx hb hT in_M hown hK hP 0 rfl rfl 6 (by decide) (hT _ m1027) (fun _ h9 => h9) rfl d_M_sort_88 ?_
                              refine zv_iconst hx hb d_M_sort_91 ?_
                              refine lv_iload_n hx hb d_M_sort_92 rfl (lv_at hl 2 rfl) ?_
                              refine zv_imul hx hb d_M_sort_93 ?_
                              refine lv_iload hx hb d_M_sort_94 (lv_at hl 4 rfl) ?_
                              refine zv_iadd hx hb d_M_sort_96 ?_
                              obtain ⟨hin, h⟩ := gi_e h
                              refine zv_iald hx hb hK hP 3 0 rfl rfl (Nat.le_of_ble_eq_true rfl) hin d_M_sort_97 ?_
                              refine zv_top (fun v5 hv => ?_)
                              replace h := bd_e hv h
                              refine lv_istore (lv' := [(5, .int (iI v5)), (0, .ref (a 0)), (1, .int (iI v1_2)), (2, .int (iI v2)), (3, .int (iI v3)), (4, .int (iI v4))]) hx hb d_M_sort_98 hl (by decide) rfl (fun ls hl => ?_)
                              refine lv_aload_n hx hb d_M_sort_100 rfl (lv_at hl 1 rfl) ?_
                              refine lv_iload hx hb d_M_sort_101 (lv_at hl 0 rfl) ?_
                              obtain ⟨r103, hcall, h⟩ := ob1_e h
                              refine ro_i (va_Run.run (va_runV (As := [.int (iI v5)]) (rest := []) ⟨hx, hb, hml, hown, hts⟩ (c_M_isGate l D cI cJ cZ F a M_thrown M_period M_width M_nodes M_analysed M_gates_7 M_startNode M_startChange M_startWay M_startBase M_startEarly M_startLate M_worstWith M_worstWithout M_all M_rowSize M_kinds v5 r103 H.size hcall) (cwV 1 hts (gd_V m1245 m1242 m1244 sl_M_isGate m12) rfl rfl rfl ⟨rfl, hc_M_isGate⟩ ⟨Nat.le_of_ble_eq_true rfl, Nat.le_of_ble_eq_true rfl⟩) (pc_V 0 10 [.int (iI v5)] hP hK hD hN [0, 1] rfl rfl rfl rfl rfl) rfl rfl hl.1 rfl (lv_room (Nat.le_of_ble_eq_true rfl)) d_M_sort_103 ⟨Nat.le_refl 0, Nat.le_refl 0⟩)) (W.eq (g2 := F0 m 106 ls [.int (iI r103)]) rfl ?_)
                              have hj124 : ∀ (q0_14 : Int) (H : Heap) (locs : List Loc) (ls : Array Slot), va_P D vwCl [(o_M a M_thrown M_period M_width M_nodes M_analysed M_gates_7 M_startNode M_startChange M_startWay M_startBase M_startEarly M_startLate M_worstWith M_worstWithout M_all M_rowSize), ((a 1), .inl (cI, 48, .inl (ia M_kinds))), ((a 2), .inl (cI, 48, .inl (ia M_pins))), ((a 3), .inl (cI, 144, .inl (ia M_froms))), ((a 11), .inl (cI, 48, .inl (ia M_order_6))), ((a 21), .inl (cZ, 96, .inl (ia M_there_8)))] H → va_D A [(o_M a M_thrown M_period M_width M_nodes M_analysed M_gates_7 M_startNode M_startChange M_startWay M_startBase M_startEarly M_startLate M_worstWith M_worstWithout M_all M_rowSize), ((a 1), .inl (cI, 48, .inl (ia M_kinds))), ((a 2), .inl (cI, 48, .inl (ia M_pins))), ((a 3), .inl (cI, 144, .inl (ia M_froms))), ((a 11), .inl (cI, 48, .inl (ia M_order_6))), ((a 21), .inl (cZ, 96, .inl (ia M_there_8)))] → va_S A s.heap H locs → lv_has ls 6 [(0, .ref (a 0)), (1, .int (iI v1_2)), (2, .int (iI v2)), (4, .int (iI v4))] → f_M_sort_j124 F v4 self72 q0_14 = some (z_M_order, z_M_gates, z_M_there) → W p l e (headSpec w_M_sort rm_M_sort).room s m args below meth c H locs 0 0 Q (F0 m 124 ls [.int (iI q0_14)]) := by
                                intro q0_14 H locs ls hP hD hS hl h
                                rw [f_M_sort_j124] at h
                                refine lv_istore_n (lv' := [(3, .int (iI q0_14)), (0, .ref (a 0)), (1, .int (iI v1_2)), (2, .int (iI v2)), (4, .int (iI v4))]) hx hb d_M_sort_124 rfl hl (by decide) rfl (fun ls hl => ?_)
                                refine lv_iinc (v := iI (v4 + 1)) (k := 4) (lv' := [(4, .int (iI (v4 + 1))), (3, .int (iI q0_14)), (0, .ref (a 0)), (1, .int (iI v1_2)), (2, .int (iI v2))]) hx hb d_M_sort_125 hl rfl (iI_add _ _) (by decide) rfl (fun ls hl => ?_)
                                refine lv_goto hx hb d_M_sort_128 rfl ?_
                                exact ih72 q0_14 (v4 + 1) H locs ls hP hD hS (lv_sub hl [2, 3, 4, 1, 0] rfl) h
                              have hj119 : ∀  (H : Heap) (locs : List Loc) (ls : Array Slot), va_P D vwCl [(o_M a M_thrown M_period M_width M_nodes M_analysed M_gates_7 M_startNode M_startChange M_startWay M_startBase M_startEarly M_startLate M_worstWith M_worstWithout M_all M_rowSize), ((a 1), .inl (cI, 48, .inl (ia M_kinds))), ((a 2), .inl (cI, 48, .inl (ia M_pins))), ((a 3), .inl (cI, 144, .inl (ia M_froms))), ((a 11), .inl (cI, 48, .inl (ia M_order_6))), ((a 21), .inl (cZ, 96, .inl (ia M_there_8)))] H → va_D A [(o_M a M_thrown M_period M_width M_nodes M_analysed M_gates_7 M_startNode M_startChange M_startWay M_startBase M_startEarly M_startLate M_worstWith M_worstWithout M_all M_rowSize), ((a 1), .inl (cI, 48, .inl (ia M_kinds))), ((a 2), .inl (cI, 48, .inl (ia M_pins))), ((a 3), .inl (cI, 144, .inl (ia M_froms))), ((a 11), .inl (cI, 48, .inl (ia M_order_6))), ((a 21), .inl (cZ, 96, .inl (ia M_there_8)))] → va_S A s.heap H locs → lv_has ls 6 [(0, .ref (a 0)), (1, .int (iI v1_2)), (2, .int (iI v2)), (4, .int (iI v4))] → f_M_sort_j119 F v4 self72 = some (z_M_order, z_M_gates, z_M_there) → W p l e (headSpec w_M_sort rm_M_sort).room s m args below meth c H locs 0 0 Q (F0 m 119 ls []) := by
                                intro  H locs ls hP hD hS hl h
                                rw [f_M_sort_j119] at h
                                refine zv_iconst hx hb d_M_sort_119 ?_
                                refine lv_goto hx hb d_M_sort_120 rfl ?_
                                exact hj124 1 H locs ls hP hD hS (lv_sub hl [0, 1, 2, 3] rfl) h
                              obtain ⟨hg0, h⟩ := gr_e h
                              refine zi_eq hx hb d_M_sort_106 rfl hg0 (fun hc => ?_) (fun hc => ?_)
                              · replace h := if_t hc h
                                exact hj119  H locs ls hP hD hS (lv_sub hl [1, 2, 3, 5] rfl) h
                              · replace h := if_f hc h
                                refine lv_aload_n hx hb d_M_sort_109 rfl (lv_at hl 1 rfl) ?_
                                refine va_get (D := D) (ci := 10) (v := .ref (a 21)) (C := R_M) (T := F_M) (N := 53) hx hb hT in_M hown hK hP 0 rfl rfl 26 (by decide) (hT _ m1047) (fun _ h9 => h9) rfl d_M_sort_110 ?_
                                refine lv_iload hx hb d_M_sort_113 (lv_at hl 0 rfl) ?_
                                obtain ⟨hin, h⟩ := gi_e h
                                refine zv_zald hx hb hK hP 5 2 rfl rfl (Nat.le_of_ble_eq_true rfl) hin d_M_sort_115 ?_
                                obtain ⟨hg0, h⟩ := gr_e h
                                refine zi_eq hx hb d_M_sort_116 rfl hg0 (fun hc => ?_) (fun hc => ?_)
                                · replace h := if_t hc h
                                  refine zv_iconst hx hb d_M_sort_123 ?_
                                  exact hj124 0 H locs ls hP hD hS (lv_sub hl [1, 2, 3, 5] rfl) h
                                · replace h := if_f hc h
                                  exact hj119  H locs ls hP hD hS (lv_sub hl [1, 2, 3, 5] rfl) h
                      exact hl72 F q0 0 H locs ls hP hD hS (lv_sub hl [2, 3, 4, 1, 0] rfl) h
                    have hj67 : ∀  (H : Heap) (locs : List Loc) (ls : Array Slot), va_P D vwCl [(o_M a M_thrown M_period M_width M_nodes M_analysed M_gates_7 M_startNode M_startChange M_startWay M_startBase M_startEarly M_startLate M_worstWith M_worstWithout M_all M_rowSize), ((a 1), .inl (cI, 48, .inl (ia M_kinds))), ((a 2), .inl (cI, 48, .inl (ia M_pins))), ((a 3), .inl (cI, 144, .inl (ia M_froms))), ((a 11), .inl (cI, 48, .inl (ia M_order_6))), ((a 21), .inl (cZ, 96, .inl (ia M_there_8)))] H → va_D A [(o_M a M_thrown M_period M_width M_nodes M_analysed M_gates_7 M_startNode M_startChange M_startWay M_startBase M_startEarly M_startLate M_worstWith M_worstWithout M_all M_rowSize), ((a 1), .inl (cI, 48, .inl (ia M_kinds))), ((a 2), .inl (cI, 48, .inl (ia M_pins))), ((a 3), .inl (cI, 144, .inl (ia M_froms))), ((a 11), .inl (cI, 48, .inl (ia M_order_6))), ((a 21), .inl (cZ, 96, .inl (ia M_there_8)))] → va_S A s.heap H locs → lv_has ls 6 [(0, .ref (a 0)), (1, .int (iI v1_2)), (2, .int (iI v2))] → f_M_sort_j67 F M_kinds M_pins M_froms v2 M_order_6 M_gates_7 M_there_8 self38 = some (z_M_order, z_M_gates, z_M_there) → W p l e (headSpec w_M_sort rm_M_sort).room s m args below meth c H locs 0 0 Q (F0 m 67 ls []) := by
                      intro  H locs ls hP hD hS hl h
                      rw [f_M_sort_j67] at h
                      refine zv_iconst hx hb d_M_sort_67 ?_
                      exact hj68 0 H locs ls hP hD hS (lv_sub hl [0, 1, 2] rfl) h
                    obtain ⟨hg0, h⟩ := gr_e h
                    refine zi_eq hx hb d_M_sort_51 rfl hg0 (fun hc => ?_) (fun hc => ?_)
                    · replace h := if_t hc h
                      exact hj67  H locs ls hP hD hS (lv_sub hl [0, 1, 2] rfl) h
                    · replace h := if_f hc h
                      refine lv_aload_n hx hb d_M_sort_54 rfl (lv_at hl 0 rfl) ?_
                      refine va_get (D := D) (ci := 10) (v := .ref (a 21)) (C := R_M) (T := F_M) (N := 53) hx hb hT in_M hown hK hP 0 rfl rfl 26 (by decide) (hT _ m1047) (fun _ h9 => h9) rfl d_M_sort_55 ?_
                      refine lv_iload_n hx hb d_M_sort_58 rfl (lv_at hl 2 rfl) ?_
                      obtain ⟨hin, h⟩ := gi_e h
                      refine zv_zald hx hb hK hP 5 2 rfl rfl (Nat.le_of_ble_eq_true rfl) hin d_M_sort_59 ?_
                      obtain ⟨hg0, h⟩ := gr_e h
                      refine zi_ne hx hb d_M_sort_60 rfl hg0 (fun hc => ?_) (fun hc => ?_)
                      · replace h := if_f hc h
                        exact hj67  H locs ls hP hD hS (lv_sub hl [0, 1, 2] rfl) h
                      · replace h := if_t hc h
                        refine zv_iconst hx hb d_M_sort_63 ?_
                        refine lv_goto hx hb d_M_sort_64 rfl ?_
                        exact hj68 1 H locs ls hP hD hS (lv_sub hl [0, 1, 2] rfl) h
              exact hl38 F 0 M_order_3 M_gates_4 M_there_5 H locs ls hP hD hS (lv_sub hl [1, 2, 0] rfl) h
        exact hl28 F 0 M_order 0 M_there_1 H locs ls hP hD hS (lv_sub hl [1, 0] rfl) h
      · replace h := if_f hc h
        refine lv_aload_n hx hb d_M_sort_13 rfl (lv_at hl 0 rfl) ?_
        refine va_get (D := D) (ci := 10) (v := .ref (a 21)) (C := R_M) (T := F_M) (N := 53) hx hb hT in_M hown hK hP 0 rfl rfl 26 (by decide) (hT _ m1047) (fun _ h9 => h9) rfl d_M_sort_14 ?_
        refine lv_iload_n hx hb d_M_sort_17 rfl (lv_at hl 1 rfl) ?_
        refine zv_iconst hx hb d_M_sort_18 ?_
        obtain ⟨hin, h⟩ := gi_e h
        refine zv_zast hx hb hK hP hD hS 5 2 rfl rfl (Nat.le_of_ble_eq_true rfl) hin (Or.inl rfl) d_M_sort_19 (fun H locs hP hD hS => ?_)
        obtain ⟨M_there_15, hv⟩ : ∃ z, z = (ui M_there_1 v1 0) := ⟨_, rfl⟩
        replace h := bd_e hv h
        have hP : va_P D vwCl [(o_M a M_thrown M_period M_width M_nodes M_analysed 0 M_startNode M_startChange M_startWay M_startBase M_startEarly M_startLate M_worstWith M_worstWithout M_all M_rowSize), ((a 1), .inl (cI, 48, .inl (ia M_kinds))), ((a 2), .inl (cI, 48, .inl (ia M_pins))), ((a 3), .inl (cI, 144, .inl (ia M_froms))), ((a 11), .inl (cI, 48, .inl (ia M_order))), ((a 21), .inl (cZ, 96, .inl (ia M_there_15)))] H := by rw [hv]; exact hP
        have hD : va_D A [(o_M a M_thrown M_period M_width M_nodes M_analysed 0 M_startNode M_startChange M_startWay M_startBase M_startEarly M_startLate M_worstWith M_worstWithout M_all M_rowSize), ((a 1), .inl (cI, 48, .inl (ia M_kinds))), ((a 2), .inl (cI, 48, .inl (ia M_pins))), ((a 3), .inl (cI, 144, .inl (ia M_froms))), ((a 11), .inl (cI, 48, .inl (ia M_order))), ((a 21), .inl (cZ, 96, .inl (ia M_there_15)))] := by rw [hv]; exact hD
        refine lv_iinc (v := iI (v1 + 1)) (k := 1) (lv' := [(1, .int (iI (v1 + 1))), (0, .ref (a 0))]) hx hb d_M_sort_20 hl rfl (iI_add _ _) (by decide) rfl (fun ls hl => ?_)
        refine lv_goto hx hb d_M_sort_23 rfl ?_
        exact ih7 (v1 + 1) M_there_15 H locs ls hP hD hS (lv_sub hl [1, 0] rfl) h
  exact hl7 F 0 M_there H locs ls hP hD hS (lv_sub hl [1, 0] rfl) h
abbrev rm_M_lets : Room := { frames := 0, cells := 0, slots := 0, locals := 0 }
set_option maxHeartbeats 4000000 in
set_option maxRecDepth 100000 in
theorem c_M_lets (l : Launch) (D : va_G) (cI cJ cZ : ClassId) (F : Nat) (a : Nat → Nat) (M_thrown : Int) (M_period : Int) (M_width : Int) (M_nodes : Int) (M_analysed : Int) (M_gates : Int) (M_startNode : Int) (M_startChange : Int) (M_startWay : Int) (M_startBase : Int) (M_startEarly : Int) (M_startLate : Int) (M_worstWith : Int) (M_worstWithout : Int) (M_all : Int64) (M_rowSize : Int) (M_senses : Int → Int) (x1 : Int) (x2 : Int) (x3 : Int) (x4 : Int) (r : Int) (sz : Nat) (h : f_M_lets F M_senses x1 x2 x3 x4 = some (r)) : Met l y_M_lets w_M_lets rm_M_lets (PC D [(cI, .int), (cJ, .long), (cZ, .boolean)] [.ref (a 0), .int (iI x1), .int (iI x2), .int (iI x3), .int (iI x4)] ([(o_M a M_thrown M_period M_width M_nodes M_analysed M_gates M_startNode M_startChange M_startWay M_startBase M_startEarly M_startLate M_worstWith M_worstWithout M_all M_rowSize), ((a 6), .inl (cI, 144, .inl (ia M_senses)))]) sz) (QcRead (iI r)) 0 0 (fun _ => False) := by
  refine Met.ofW (cc := prog_12_method_21_code) (maxL := 6) (ret := (Option.some Jvm.ClassFile.FieldType.boolean)) (by decide) rfl ?_
  intro p e s m args below meth c s₁ B hml hv
  obtain ⟨rfl, hsz, hP, hK, hD0, hN⟩ := hv
  have hx := B.exec
  have hb := B.bytes
  have hr := B.returns
  have hts := atoms_spec (ws := w_M_lets) B.pre
  have hown : s.vm.findClass R_M = some m.cls := findClass_of_methodNamed B.named
  have hlocks := B.notSynchronized
  subst hsz
  have hl := lv_entry ([.ref (a 0), .int (iI x1), .int (iI x2), .int (iI x3), .int (iI x4)]) (n := 6) (Nat.le_of_ble_eq_true rfl)
  rw [lg_entry_eq]
  generalize (lg_sl ([.ref (a 0), .int (iI x1), .int (iI x2), .int (iI x3), .int (iI x4)]) ++ List.replicate (6 - (lg_sl ([.ref (a 0), .int (iI x1), .int (iI x2), .int (iI x3), .int (iI x4)])).length) Slot.unset).toArray = ls at hl ⊢
  have hl : lv_has ls 6 [(0, .ref (a 0)), (1, .int (iI x1)), (2, .int (iI x2)), (3, .int (iI x3)), (4, .int (iI x4))] := hl
  generalize (List.toArray ([.ref (a 0), .int (iI x1), .int (iI x2), .int (iI x3), .int (iI x4)] : List Value)) = args at hts ⊢
  have hT : ∀ w ∈ Tg, w.before args s = true := fun w h => hts w (List.mem_cons_of_mem _ h)
  obtain ⟨Q, hQ⟩ : ∃ Q, Q = MQ below (QcRead (iI r)) args s 0 0 (fun _ => False) := ⟨_, rfl⟩
  rw [← hQ]
  rw [f_M_lets] at h
  refine lv_aload_n hx hb d_M_lets_0 rfl (lv_at hl 0 rfl) ?_
  refine va_get (D := D) (ci := 10) (v := .ref (a 6)) (C := R_M) (T := F_M) (N := 53) hx hb hT in_M hown hK hP 0 rfl rfl 9 (by decide) (hT _ m1030) (fun _ h9 => h9) rfl d_M_lets_1 ?_
  refine zv_iconst hx hb d_M_lets_4 ?_
  refine lv_iload_n hx hb d_M_lets_5 rfl (lv_at hl 1 rfl) ?_
  refine zv_imul hx hb d_M_lets_6 ?_
  refine lv_iload_n hx hb d_M_lets_7 rfl (lv_at hl 2 rfl) ?_
  refine zv_iadd hx hb d_M_lets_8 ?_
  obtain ⟨hin, h⟩ := gi_e h
  refine zv_iald hx hb hK hP 1 0 rfl rfl (Nat.le_of_ble_eq_true rfl) hin d_M_lets_9 ?_
  refine zv_top (fun v5 hv => ?_)
  replace h := bd_e hv h
  refine lv_istore (lv' := [(5, .int (iI v5)), (0, .ref (a 0)), (1, .int (iI x1)), (2, .int (iI x2)), (3, .int (iI x3)), (4, .int (iI x4))]) hx hb d_M_lets_10 hl (by decide) rfl (fun ls hl => ?_)
  refine lv_iload hx hb d_M_lets_12 (lv_at hl 0 rfl) ?_
  refine zv_iconst hx hb d_M_lets_14 ?_
  have hj38 : ∀  (ls : Array Slot), lv_has ls 6 [] → f_M_lets_j38 F = some (r) → W p l e (headSpec w_M_lets rm_M_lets).room s m args below meth c s.heap [] 0 0 Q (F0 m 38 ls []) := by
    intro  ls hl h
    rw [f_M_lets_j38] at h
    refine zv_iconst hx hb d_M_lets_38 ?_
    refine lv_goto hx hb d_M_lets_39 rfl ?_
    obtain ⟨hbo, h⟩ := gb_e h
    have e1 := so1 h
    rw [hQ, e1]; exact W.zret (ty := .boolean) hx hb hr (gb_n hbo) (fun t ht hW => ⟨rfl, ht⟩) (fun q h => nomatch h) d_M_lets_43
  obtain ⟨hg0, h⟩ := gr_e h
  refine zc_eq hx hb d_M_lets_15 rfl hg0 (by decide) (fun hc => ?_) (fun hc => ?_)
  · replace h := if_t hc h
    exact hj38  ls (lv_sub hl [] rfl) h
  · replace h := if_f hc h
    refine lv_iload hx hb d_M_lets_18 (lv_at hl 0 rfl) ?_
    have hj42 : ∀  (ls : Array Slot), lv_has ls 6 [] → f_M_lets_j42 F = some (r) → W p l e (headSpec w_M_lets rm_M_lets).room s m args below meth c s.heap [] 0 0 Q (F0 m 42 ls []) := by
      intro  ls hl h
      rw [f_M_lets_j42] at h
      refine zv_iconst hx hb d_M_lets_42 ?_
      obtain ⟨hbo, h⟩ := gb_e h
      have e1 := so1 h
      rw [hQ, e1]; exact W.zret (ty := .boolean) hx hb hr (gb_n hbo) (fun t ht hW => ⟨rfl, ht⟩) (fun q h => nomatch h) d_M_lets_43
    obtain ⟨hg0, h⟩ := gr_e h
    refine zi_ne hx hb d_M_lets_20 rfl hg0 (fun hc => ?_) (fun hc => ?_)
    · replace h := if_f hc h
      refine lv_iload_n hx hb d_M_lets_32 rfl (lv_at hl 4 rfl) ?_
      refine lv_iload hx hb d_M_lets_33 (lv_at hl 5 rfl) ?_
      obtain ⟨hg0, h⟩ := gr_e h
      obtain ⟨hg1, h⟩ := gr_e h
      refine zc_eq hx hb d_M_lets_35 rfl hg0 hg1 (fun hc => ?_) (fun hc => ?_)
      · replace h := if_t hc h
        exact hj42  ls (lv_sub hl [] rfl) h
      · replace h := if_f hc h
        exact hj38  ls (lv_sub hl [] rfl) h
    · replace h := if_t hc h
      refine lv_iload_n hx hb d_M_lets_23 rfl (lv_at hl 4 rfl) ?_
      refine lv_iload hx hb d_M_lets_24 (lv_at hl 5 rfl) ?_
      obtain ⟨hg0, h⟩ := gr_e h
      obtain ⟨hg1, h⟩ := gr_e h
      refine zc_ne hx hb d_M_lets_26 rfl hg0 hg1 (fun hc => ?_) (fun hc => ?_)
      · replace h := if_f hc h
        exact hj42  ls (lv_sub hl [] rfl) h
      · replace h := if_t hc h
        refine lv_goto hx hb d_M_lets_29 rfl ?_
        exact hj38  ls (lv_sub hl [] rfl) h
