abbrev rm_ClockWays_markNeededBy : Room := { frames := 1, cells := 0, slots := 0, locals := 23 }
set_option maxHeartbeats 4000000 in
set_option maxRecDepth 100000 in
theorem c_ClockWays_markNeededBy (l : Launch) (D : va_G) (cI cJ cZ : ClassId) (F : Nat) (a : Nat → Nat) (C_size : Int) (C_needed : Int → Int) (N_period : Int) (N_width : Int) (N_size : Int) (N_source : Int → Int) (N_senses : Int → Int) (x1 : Int) (x2 : Int) (z_C_needed : Int → Int) (sz : Nat) (h : f_ClockWays_markNeededBy F C_needed N_source N_senses x1 x2 = some (z_C_needed)) : Met l y_ClockWays_markNeededBy w_ClockWays_markNeededBy rm_ClockWays_markNeededBy (PC D [(cI, .int), (cJ, .long), (cZ, .boolean)] [.ref (a 10), .int (iI x1), .int (iI x2)] ([(o_C a C_size), ((a 11), .inl (cZ, 96, .inl (ia C_needed))), (o_N a N_period N_width N_size), ((a 46), .inl (cI, 144, .inl (ia N_source))), ((a 49), .inl (cI, 144, .inl (ia N_senses)))]) sz) (QV D [(cI, .int), (cJ, .long), (cZ, .boolean)] ([(o_C a C_size), ((a 11), .inl (cZ, 96, .inl (ia C_needed))), (o_N a N_period N_width N_size), ((a 46), .inl (cI, 144, .inl (ia N_source))), ((a 49), .inl (cI, 144, .inl (ia N_senses)))]) sz ([(o_C a C_size), ((a 11), .inl (cZ, 96, .inl (ia z_C_needed))), (o_N a N_period N_width N_size), ((a 46), .inl (cI, 144, .inl (ia N_source))), ((a 49), .inl (cI, 144, .inl (ia N_senses)))])) 0 0 (va_A ([(o_C a C_size), ((a 11), .inl (cZ, 96, .inl (ia C_needed))), (o_N a N_period N_width N_size), ((a 46), .inl (cI, 144, .inl (ia N_source))), ((a 49), .inl (cI, 144, .inl (ia N_senses)))]) sz) := by
  refine Met.ofW (cc := prog_3_method_9_code) (maxL := 6) (ret := (Option.none : Option Jvm.ClassFile.FieldType)) (by decide) rfl ?_
  intro p e s m args below meth c s₁ B hml hv
  obtain ⟨rfl, hsz, hP, hK, hD0, hN⟩ := hv
  have hx := B.exec
  have hb := B.bytes
  have hr := B.returns
  have hts := atoms_spec (ws := w_ClockWays_markNeededBy) B.pre
  have hown : s.vm.findClass R_ClockWays = some m.cls := findClass_of_methodNamed B.named
  have hlocks := B.notSynchronized
  subst hsz
  have hD := hD0.self (sz := s.heap.size)
  obtain ⟨A, hAe⟩ : ∃ A, A = va_A ([(o_C a C_size), ((a 11), .inl (cZ, 96, .inl (ia C_needed))), (o_N a N_period N_width N_size), ((a 46), .inl (cI, 144, .inl (ia N_source))), ((a 49), .inl (cI, 144, .inl (ia N_senses)))]) s.heap.size := ⟨_, rfl⟩
  rw [← hAe] at hD
  have hA : ∀ q : Nat, s.heap.size ≤ q → A q := fun q h => by rw [hAe]; exact Or.inr h
  have hS : va_S A s.heap s.heap [] := va_S.rf
  have hl := lv_entry ([.ref (a 10), .int (iI x1), .int (iI x2)]) (n := 6) (Nat.le_of_ble_eq_true rfl)
  rw [lg_entry_eq]
  generalize (lg_sl ([.ref (a 10), .int (iI x1), .int (iI x2)]) ++ List.replicate (6 - (lg_sl ([.ref (a 10), .int (iI x1), .int (iI x2)])).length) Slot.unset).toArray = ls at hl ⊢
  have hl : lv_has ls 6 [(0, .ref (a 10)), (1, .int (iI x1)), (2, .int (iI x2))] := hl
  generalize (List.toArray ([.ref (a 10), .int (iI x1), .int (iI x2)] : List Value)) = args at hts ⊢
  have hT : ∀ w ∈ Tg, w.before args s = true := fun w h => hts w (List.mem_cons_of_mem _ h)
  obtain ⟨Q, hQ⟩ : ∃ Q, Q = MQ below (QV D [(cI, .int), (cJ, .long), (cZ, .boolean)] ([(o_C a C_size), ((a 11), .inl (cZ, 96, .inl (ia C_needed))), (o_N a N_period N_width N_size), ((a 46), .inl (cI, 144, .inl (ia N_source))), ((a 49), .inl (cI, 144, .inl (ia N_senses)))]) s.heap.size ([(o_C a C_size), ((a 11), .inl (cZ, 96, .inl (ia z_C_needed))), (o_N a N_period N_width N_size), ((a 46), .inl (cI, 144, .inl (ia N_source))), ((a 49), .inl (cI, 144, .inl (ia N_senses)))])) args s 0 0 (va_A ([(o_C a C_size), ((a 11), .inl (cZ, 96, .inl (ia C_needed))), (o_N a N_period N_width N_size), ((a 46), .inl (cI, 144, .inl (ia N_source))), ((a 49), .inl (cI, 144, .inl (ia N_senses)))]) s.heap.size) := ⟨_, rfl⟩
  rw [← hQ]
  suffices hW : ∀ (H : Heap) (locs : List Loc), va_P D vwCl ([(o_C a C_size), ((a 11), .inl (cZ, 96, .inl (ia C_needed))), (o_N a N_period N_width N_size), ((a 46), .inl (cI, 144, .inl (ia N_source))), ((a 49), .inl (cI, 144, .inl (ia N_senses)))]) H → va_D A ([(o_C a C_size), ((a 11), .inl (cZ, 96, .inl (ia C_needed))), (o_N a N_period N_width N_size), ((a 46), .inl (cI, 144, .inl (ia N_source))), ((a 49), .inl (cI, 144, .inl (ia N_senses)))]) → va_S A s.heap H locs → W p l e (headSpec w_ClockWays_markNeededBy rm_ClockWays_markNeededBy).room s m args below meth c H locs 0 0 Q (F0 m 0 ls []) from hW s.heap [] hP hD hS
  clear hP hD hS
  intro H locs hP hD hS
  rw [f_ClockWays_markNeededBy] at h
  refine lv_iload_n hx hb d_ClockWays_markNeededBy_0 rfl (lv_at hl 1 rfl) ?_
  refine zv_iconst hx hb d_ClockWays_markNeededBy_1 ?_
  refine zv_imul hx hb d_ClockWays_markNeededBy_2 ?_
  refine lv_iload_n hx hb d_ClockWays_markNeededBy_3 rfl (lv_at hl 2 rfl) ?_
  refine zv_iadd hx hb d_ClockWays_markNeededBy_4 ?_
  refine zv_top (fun v3 hv => ?_)
  replace h := bd_e hv h
  refine lv_istore_n (lv' := [(3, .int (iI v3)), (0, .ref (a 10)), (1, .int (iI x1)), (2, .int (iI x2))]) hx hb d_ClockWays_markNeededBy_5 rfl hl (by decide) rfl (fun ls hl => ?_)
  refine lv_aload_n hx hb d_ClockWays_markNeededBy_6 rfl (lv_at hl 1 rfl) ?_
  refine va_get (D := D) (ci := 4) (v := .ref (a 43)) (C := R_ClockWays) (T := F_ClockWays) (N := 17) hx hb hT in_ClockWays hown hK hP 0 rfl rfl 0 (by decide) (hT _ m194) (fun _ h9 => h9) rfl d_ClockWays_markNeededBy_7 ?_
  refine va_get (D := D) (ci := 1) (v := .ref (a 46)) (C := R_Net) (T := F_Net) (N := 15) hx hb hT in_Net hown hK hP 2 rfl rfl 5 (by decide) (hT _ m66) (fun _ h9 => h9) rfl d_ClockWays_markNeededBy_10 ?_
  refine lv_iload_n hx hb d_ClockWays_markNeededBy_13 rfl (lv_at hl 0 rfl) ?_
  obtain ⟨hin, h⟩ := gi_e h
  refine zv_iald hx hb hK hP 3 0 rfl rfl (Nat.le_of_ble_eq_true rfl) hin d_ClockWays_markNeededBy_14 ?_
  obtain ⟨hg0, h⟩ := gr_e h
  refine zi_ge hx hb d_ClockWays_markNeededBy_15 rfl hg0 (fun hc => ?_) (fun hc => ?_)
  · replace h := if_t hc h
    refine zv_iconst hx hb d_ClockWays_markNeededBy_19 ?_
    refine lv_istore (lv' := [(4, .int (iI 0)), (3, .int (iI v3)), (0, .ref (a 10)), (1, .int (iI x1)), (2, .int (iI x2))]) hx hb d_ClockWays_markNeededBy_20 hl (by decide) rfl (fun ls hl => ?_)
    have hl22 : ∀ (nf : Nat) (v4 : Int) (C_needed_1 : Int → Int) (H : Heap) (locs : List Loc) (ls : Array Slot), va_P D vwCl [(o_C a C_size), ((a 11), .inl (cZ, 96, .inl (ia C_needed_1))), (o_N a N_period N_width N_size), ((a 46), .inl (cI, 144, .inl (ia N_source))), ((a 49), .inl (cI, 144, .inl (ia N_senses)))] H → va_D A [(o_C a C_size), ((a 11), .inl (cZ, 96, .inl (ia C_needed_1))), (o_N a N_period N_width N_size), ((a 46), .inl (cI, 144, .inl (ia N_source))), ((a 49), .inl (cI, 144, .inl (ia N_senses)))] → va_S A s.heap H locs → lv_has ls 6 [(0, .ref (a 10)), (1, .int (iI x1)), (3, .int (iI v3)), (4, .int (iI v4))] → lq2 (f_ClockWays_markNeededBy_b22 F N_source N_senses x1 v3) nf v4 C_needed_1 = some (z_C_needed) → W p l e (headSpec w_ClockWays_markNeededBy rm_ClockWays_markNeededBy).room s m args below meth c H locs 0 0 Q (F0 m 22 ls []) := by
      intro n22
      induction n22 with
      | zero => intro v4 C_needed_1 H locs ls hP hD hS hl h; exact no_some h
      | succ n22 ih22 =>
        intro v4 C_needed_1 H locs ls hP hD hS hl h
        replace h : f_ClockWays_markNeededBy_b22 F N_source N_senses x1 v3 (lq2 (f_ClockWays_markNeededBy_b22 F N_source N_senses x1 v3) n22) v4 C_needed_1 = some (z_C_needed) := h
        obtain ⟨self22, hs22⟩ : ∃ z, z = lq2 (f_ClockWays_markNeededBy_b22 F N_source N_senses x1 v3) n22 := ⟨_, rfl⟩
        rw [← hs22] at h ih22
        rw [f_ClockWays_markNeededBy_b22] at h
        refine lv_iload hx hb d_ClockWays_markNeededBy_22 (lv_at hl 3 rfl) ?_
        refine zv_iconst hx hb d_ClockWays_markNeededBy_24 ?_
        obtain ⟨hg0, h⟩ := gr_e h
        refine zc_ge hx hb d_ClockWays_markNeededBy_25 rfl hg0 (by decide) (fun hc => ?_) (fun hc => ?_)
        · replace h := if_t hc h
          have e1 := so1 h
          rw [hQ, e1]; rw [hAe] at hD hS; exact W.vret hx hb hr (fun t ht hW => ⟨⟨(), rfl, trivial, by rw [ht]; exact hP, va_K.moved hW.alike hK, hD⟩, hS.F ht⟩) hS.2.2 d_ClockWays_markNeededBy_98
        · replace h := if_f hc h
          refine zv_iconst hx hb d_ClockWays_markNeededBy_28 ?_
          refine lv_istore (lv' := [(5, .int (iI 0)), (0, .ref (a 10)), (1, .int (iI x1)), (3, .int (iI v3)), (4, .int (iI v4))]) hx hb d_ClockWays_markNeededBy_29 hl (by decide) rfl (fun ls hl => ?_)
          have hl31 : ∀ (nf : Nat) (v5 : Int) (C_needed_2 : Int → Int) (H : Heap) (locs : List Loc) (ls : Array Slot), va_P D vwCl [(o_C a C_size), ((a 11), .inl (cZ, 96, .inl (ia C_needed_2))), (o_N a N_period N_width N_size), ((a 46), .inl (cI, 144, .inl (ia N_source))), ((a 49), .inl (cI, 144, .inl (ia N_senses)))] H → va_D A [(o_C a C_size), ((a 11), .inl (cZ, 96, .inl (ia C_needed_2))), (o_N a N_period N_width N_size), ((a 46), .inl (cI, 144, .inl (ia N_source))), ((a 49), .inl (cI, 144, .inl (ia N_senses)))] → va_S A s.heap H locs → lv_has ls 6 [(0, .ref (a 10)), (1, .int (iI x1)), (3, .int (iI v3)), (4, .int (iI v4)), (5, .int (iI v5))] → lq2 (f_ClockWays_markNeededBy_b31 F N_source N_senses x1 v3 v4 self22) nf v5 C_needed_2 = some (z_C_needed) → W p l e (headSpec w_ClockWays_markNeededBy rm_ClockWays_markNeededBy).room s m args below meth c H locs 0 0 Q (F0 m 31 ls []) := by
            intro n31
            induction n31 with
            | zero => intro v5 C_needed_2 H locs ls hP hD hS hl h; exact no_some h
            | succ n31 ih31 =>
              intro v5 C_needed_2 H locs ls hP hD hS hl h
              replace h : f_ClockWays_markNeededBy_b31 F N_source N_senses x1 v3 v4 self22 (lq2 (f_ClockWays_markNeededBy_b31 F N_source N_senses x1 v3 v4 self22) n31) v5 C_needed_2 = some (z_C_needed) := h
              obtain ⟨self31, hs31⟩ : ∃ z, z = lq2 (f_ClockWays_markNeededBy_b31 F N_source N_senses x1 v3 v4 self22) n31 := ⟨_, rfl⟩
              rw [← hs31] at h ih31
              rw [f_ClockWays_markNeededBy_b31] at h
              refine lv_iload hx hb d_ClockWays_markNeededBy_31 (lv_at hl 4 rfl) ?_
              refine zv_iconst hx hb d_ClockWays_markNeededBy_33 ?_
              obtain ⟨hg0, h⟩ := gr_e h
              refine zc_ge hx hb d_ClockWays_markNeededBy_34 rfl hg0 (by decide) (fun hc => ?_) (fun hc => ?_)
              · replace h := if_t hc h
                refine lv_iinc (v := iI (v4 + 1)) (k := 3) (lv' := [(4, .int (iI (v4 + 1))), (0, .ref (a 10)), (1, .int (iI x1)), (3, .int (iI v3)), (5, .int (iI v5))]) hx hb d_ClockWays_markNeededBy_92 hl rfl (iI_add _ _) (by decide) rfl (fun ls hl => ?_)
                refine lv_goto hx hb d_ClockWays_markNeededBy_95 rfl ?_
                exact ih22 (v4 + 1) C_needed_2 H locs ls hP hD hS (lv_sub hl [1, 2, 3, 0] rfl) h
              · replace h := if_f hc h
                refine lv_aload_n hx hb d_ClockWays_markNeededBy_37 rfl (lv_at hl 0 rfl) ?_
                refine va_get (D := D) (ci := 4) (v := .ref (a 11)) (C := R_ClockWays) (T := F_ClockWays) (N := 17) hx hb hT in_ClockWays hown hK hP 0 rfl rfl 3 (by decide) (hT _ m197) (fun _ h9 => h9) rfl d_ClockWays_markNeededBy_38 ?_
                refine zv_iconst hx hb d_ClockWays_markNeededBy_41 ?_
                refine lv_iload_n hx hb d_ClockWays_markNeededBy_42 rfl (lv_at hl 1 rfl) ?_
                refine zv_imul hx hb d_ClockWays_markNeededBy_43 ?_
                refine lv_iload hx hb d_ClockWays_markNeededBy_44 (lv_at hl 4 rfl) ?_
                refine zv_iadd hx hb d_ClockWays_markNeededBy_46 ?_
                obtain ⟨hin, h⟩ := gi_e h
                refine zv_zald hx hb hK hP 1 2 rfl rfl (Nat.le_of_ble_eq_true rfl) hin d_ClockWays_markNeededBy_47 ?_
                have hj86 : ∀ (C_needed_3 : Int → Int) (H : Heap) (locs : List Loc) (ls : Array Slot), va_P D vwCl [(o_C a C_size), ((a 11), .inl (cZ, 96, .inl (ia C_needed_3))), (o_N a N_period N_width N_size), ((a 46), .inl (cI, 144, .inl (ia N_source))), ((a 49), .inl (cI, 144, .inl (ia N_senses)))] H → va_D A [(o_C a C_size), ((a 11), .inl (cZ, 96, .inl (ia C_needed_3))), (o_N a N_period N_width N_size), ((a 46), .inl (cI, 144, .inl (ia N_source))), ((a 49), .inl (cI, 144, .inl (ia N_senses)))] → va_S A s.heap H locs → lv_has ls 6 [(0, .ref (a 10)), (1, .int (iI x1)), (3, .int (iI v3)), (4, .int (iI v4)), (5, .int (iI v5))] → f_ClockWays_markNeededBy_j86 F v5 self31 C_needed_3 = some (z_C_needed) → W p l e (headSpec w_ClockWays_markNeededBy rm_ClockWays_markNeededBy).room s m args below meth c H locs 0 0 Q (F0 m 86 ls []) := by
                  intro C_needed_3 H locs ls hP hD hS hl h
                  rw [f_ClockWays_markNeededBy_j86] at h
                  refine lv_iinc (v := iI (v5 + 1)) (k := 4) (lv' := [(5, .int (iI (v5 + 1))), (0, .ref (a 10)), (1, .int (iI x1)), (3, .int (iI v3)), (4, .int (iI v4))]) hx hb d_ClockWays_markNeededBy_86 hl rfl (iI_add _ _) (by decide) rfl (fun ls hl => ?_)
                  refine lv_goto hx hb d_ClockWays_markNeededBy_89 rfl ?_
                  exact ih31 (v5 + 1) C_needed_3 H locs ls hP hD hS (lv_sub hl [1, 2, 3, 4, 0] rfl) h
                obtain ⟨hg0, h⟩ := gr_e h
                refine zi_eq hx hb d_ClockWays_markNeededBy_48 rfl hg0 (fun hc => ?_) (fun hc => ?_)
                · replace h := if_t hc h
                  exact hj86 C_needed_2 H locs ls hP hD hS (lv_sub hl [0, 1, 2, 3, 4] rfl) h
                · replace h := if_f hc h
                  refine lv_aload_n hx hb d_ClockWays_markNeededBy_51 rfl (lv_at hl 0 rfl) ?_
                  refine va_get (D := D) (ci := 4) (v := .ref (a 43)) (C := R_ClockWays) (T := F_ClockWays) (N := 17) hx hb hT in_ClockWays hown hK hP 0 rfl rfl 0 (by decide) (hT _ m194) (fun _ h9 => h9) rfl d_ClockWays_markNeededBy_52 ?_
                  refine lv_iload_n hx hb d_ClockWays_markNeededBy_55 rfl (lv_at hl 2 rfl) ?_
                  refine lv_iload hx hb d_ClockWays_markNeededBy_56 (lv_at hl 3 rfl) ?_
                  refine lv_iload hx hb d_ClockWays_markNeededBy_58 (lv_at hl 4 rfl) ?_
                  obtain ⟨r60, hcall, h⟩ := ob1_e h
                  refine ro_i (va_Run.run (va_runV (As := [.int (iI v3), .int (iI v4), .int (iI v5)]) (rest := []) ⟨hx, hb, hml, hown, hts⟩ (c_Net_lets l D cI cJ cZ F a N_period N_width N_size N_senses v3 v4 v5 r60 H.size hcall) (cwV 3 hts (gd_V m509 m527 m507 m508 m2) rfl rfl rfl ⟨rfl, hc_Net_lets⟩ ⟨Nat.le_of_ble_eq_true rfl, Nat.le_of_ble_eq_true rfl⟩) (pc_V 2 1 [.int (iI v3), .int (iI v4), .int (iI v5)] hP hK hD hN [2, 4] rfl rfl rfl rfl rfl) rfl rfl hl.1 rfl (lv_room (Nat.le_of_ble_eq_true rfl)) d_ClockWays_markNeededBy_60 ⟨Nat.le_refl 0, Nat.le_refl 0⟩)) (W.eq (g2 := F0 m 63 ls [.int (iI r60)]) rfl ?_)
                  obtain ⟨hg0, h⟩ := gr_e h
                  refine zi_eq hx hb d_ClockWays_markNeededBy_63 rfl hg0 (fun hc => ?_) (fun hc => ?_)
                  · replace h := if_t hc h
                    exact hj86 C_needed_2 H locs ls hP hD hS (lv_sub hl [0, 1, 2, 3, 4] rfl) h
                  · replace h := if_f hc h
                    refine lv_aload_n hx hb d_ClockWays_markNeededBy_66 rfl (lv_at hl 0 rfl) ?_
                    refine va_get (D := D) (ci := 4) (v := .ref (a 11)) (C := R_ClockWays) (T := F_ClockWays) (N := 17) hx hb hT in_ClockWays hown hK hP 0 rfl rfl 3 (by decide) (hT _ m197) (fun _ h9 => h9) rfl d_ClockWays_markNeededBy_67 ?_
                    refine zv_iconst hx hb d_ClockWays_markNeededBy_70 ?_
                    refine lv_aload_n hx hb d_ClockWays_markNeededBy_71 rfl (lv_at hl 0 rfl) ?_
                    refine va_get (D := D) (ci := 4) (v := .ref (a 43)) (C := R_ClockWays) (T := F_ClockWays) (N := 17) hx hb hT in_ClockWays hown hK hP 0 rfl rfl 0 (by decide) (hT _ m194) (fun _ h9 => h9) rfl d_ClockWays_markNeededBy_72 ?_
                    refine va_get (D := D) (ci := 1) (v := .ref (a 46)) (C := R_Net) (T := F_Net) (N := 15) hx hb hT in_Net hown hK hP 2 rfl rfl 5 (by decide) (hT _ m66) (fun _ h9 => h9) rfl d_ClockWays_markNeededBy_75 ?_
                    refine lv_iload_n hx hb d_ClockWays_markNeededBy_78 rfl (lv_at hl 2 rfl) ?_
                    obtain ⟨hin, h⟩ := gi_e h
                    refine zv_iald hx hb hK hP 3 0 rfl rfl (Nat.le_of_ble_eq_true rfl) hin d_ClockWays_markNeededBy_79 ?_
                    refine zv_imul hx hb d_ClockWays_markNeededBy_80 ?_
                    refine lv_iload hx hb d_ClockWays_markNeededBy_81 (lv_at hl 3 rfl) ?_
                    refine zv_iadd hx hb d_ClockWays_markNeededBy_83 ?_
                    refine zv_iconst hx hb d_ClockWays_markNeededBy_84 ?_
                    obtain ⟨hin, h⟩ := gi_e h
                    refine zv_zast hx hb hK hP hD hS 1 2 rfl rfl (Nat.le_of_ble_eq_true rfl) hin (Or.inr rfl) d_ClockWays_markNeededBy_85 (fun H locs hP hD hS => ?_)
                    obtain ⟨C_needed_4, hv⟩ : ∃ z, z = (ui C_needed_2 ((2 * (N_source v3)) + v4) 1) := ⟨_, rfl⟩
                    replace h := bd_e hv h
                    have hP : va_P D vwCl [(o_C a C_size), ((a 11), .inl (cZ, 96, .inl (ia C_needed_4))), (o_N a N_period N_width N_size), ((a 46), .inl (cI, 144, .inl (ia N_source))), ((a 49), .inl (cI, 144, .inl (ia N_senses)))] H := by rw [hv]; exact hP
                    have hD : va_D A [(o_C a C_size), ((a 11), .inl (cZ, 96, .inl (ia C_needed_4))), (o_N a N_period N_width N_size), ((a 46), .inl (cI, 144, .inl (ia N_source))), ((a 49), .inl (cI, 144, .inl (ia N_senses)))] := by rw [hv]; exact hD
                    exact hj86 C_needed_4 H locs ls hP hD hS (lv_sub hl [0, 1, 2, 3, 4] rfl) h
          exact hl31 F 0 C_needed_1 H locs ls hP hD hS (lv_sub hl [1, 2, 3, 4, 0] rfl) h
    exact hl22 F 0 C_needed H locs ls hP hD hS (lv_sub hl [2, 3, 1, 0] rfl) h
  · replace h := if_f hc h
    have e1 := so1 h
    rw [hQ, e1]; rw [hAe] at hD hS; exact W.vret hx hb hr (fun t ht hW => ⟨⟨(), rfl, trivial, by rw [ht]; exact hP, va_K.moved hW.alike hK, hD⟩, hS.F ht⟩) hS.2.2 d_ClockWays_markNeededBy_18
abbrev rm_ClockWays_markNeeded : Room := { frames := 2, cells := 0, slots := 0, locals := 48 }
set_option maxHeartbeats 4000000 in
set_option maxRecDepth 100000 in
theorem c_ClockWays_markNeeded (l : Launch) (D : va_G) (cI cJ cZ : ClassId) (F : Nat) (a : Nat → Nat) (C_size : Int) (C_needed : Int → Int) (O_count : Int) (O_gates : Int → Int) (N_period : Int) (N_width : Int) (N_size : Int) (N_kind : Int → Int) (N_pins : Int → Int) (N_source : Int → Int) (N_senses : Int → Int) (z_C_needed : Int → Int) (sz : Nat) (h : f_ClockWays_markNeeded F C_needed O_count O_gates N_size N_kind N_pins N_source N_senses = some (z_C_needed)) : Met l y_ClockWays_markNeeded w_ClockWays_markNeeded rm_ClockWays_markNeeded (PC D [(cI, .int), (cJ, .long), (cZ, .boolean)] [.ref (a 10)] ([(o_C a C_size), ((a 11), .inl (cZ, 96, .inl (ia C_needed))), (o_O a O_count), ((a 42), .inl (cI, 48, .inl (ia O_gates))), (o_N a N_period N_width N_size), ((a 44), .inl (cI, 48, .inl (ia N_kind))), ((a 45), .inl (cI, 48, .inl (ia N_pins))), ((a 46), .inl (cI, 144, .inl (ia N_source))), ((a 49), .inl (cI, 144, .inl (ia N_senses)))]) sz) (QV D [(cI, .int), (cJ, .long), (cZ, .boolean)] ([(o_C a C_size), ((a 11), .inl (cZ, 96, .inl (ia C_needed))), (o_O a O_count), ((a 42), .inl (cI, 48, .inl (ia O_gates))), (o_N a N_period N_width N_size), ((a 44), .inl (cI, 48, .inl (ia N_kind))), ((a 45), .inl (cI, 48, .inl (ia N_pins))), ((a 46), .inl (cI, 144, .inl (ia N_source))), ((a 49), .inl (cI, 144, .inl (ia N_senses)))]) sz ([(o_C a C_size), ((a 11), .inl (cZ, 96, .inl (ia z_C_needed))), (o_O a O_count), ((a 42), .inl (cI, 48, .inl (ia O_gates))), (o_N a N_period N_width N_size), ((a 44), .inl (cI, 48, .inl (ia N_kind))), ((a 45), .inl (cI, 48, .inl (ia N_pins))), ((a 46), .inl (cI, 144, .inl (ia N_source))), ((a 49), .inl (cI, 144, .inl (ia N_senses)))])) 0 0 (va_A ([(o_C a C_size), ((a 11), .inl (cZ, 96, .inl (ia C_needed))), (o_O a O_count), ((a 42), .inl (cI, 48, .inl (ia O_gates))), (o_N a N_period N_width N_size), ((a 44), .inl (cI, 48, .inl (ia N_kind))), ((a 45), .inl (cI, 48, .inl (ia N_pins))), ((a 46), .inl (cI, 144, .inl (ia N_source))), ((a 49), .inl (cI, 144, .inl (ia N_senses)))]) sz) := by
  refine Met.ofW (cc := prog_3_method_8_code) (maxL := 3) (ret := (Option.none : Option Jvm.ClassFile.FieldType)) (by decide) rfl ?_
  intro p e s m args below meth c s₁ B hml hv
  obtain ⟨rfl, hsz, hP, hK, hD0, hN⟩ := hv
  have hx := B.exec
  have hb := B.bytes
  have hr := B.returns
  have hts := atoms_spec (ws := w_ClockWays_markNeeded) B.pre
  have hown : s.vm.findClass R_ClockWays = some m.cls := findClass_of_methodNamed B.named
  have hlocks := B.notSynchronized
  subst hsz
  have hD := hD0.self (sz := s.heap.size)
  obtain ⟨A, hAe⟩ : ∃ A, A = va_A ([(o_C a C_size), ((a 11), .inl (cZ, 96, .inl (ia C_needed))), (o_O a O_count), ((a 42), .inl (cI, 48, .inl (ia O_gates))), (o_N a N_period N_width N_size), ((a 44), .inl (cI, 48, .inl (ia N_kind))), ((a 45), .inl (cI, 48, .inl (ia N_pins))), ((a 46), .inl (cI, 144, .inl (ia N_source))), ((a 49), .inl (cI, 144, .inl (ia N_senses)))]) s.heap.size := ⟨_, rfl⟩
  rw [← hAe] at hD
  have hA : ∀ q : Nat, s.heap.size ≤ q → A q := fun q h => by rw [hAe]; exact Or.inr h
  have hS : va_S A s.heap s.heap [] := va_S.rf
  have hl := lv_entry ([.ref (a 10)]) (n := 3) (Nat.le_of_ble_eq_true rfl)
  rw [lg_entry_eq]
  generalize (lg_sl ([.ref (a 10)]) ++ List.replicate (3 - (lg_sl ([.ref (a 10)])).length) Slot.unset).toArray = ls at hl ⊢
  have hl : lv_has ls 3 [(0, .ref (a 10))] := hl
  generalize (List.toArray ([.ref (a 10)] : List Value)) = args at hts ⊢
  have hT : ∀ w ∈ Tg, w.before args s = true := fun w h => hts w (List.mem_cons_of_mem _ h)
  obtain ⟨Q, hQ⟩ : ∃ Q, Q = MQ below (QV D [(cI, .int), (cJ, .long), (cZ, .boolean)] ([(o_C a C_size), ((a 11), .inl (cZ, 96, .inl (ia C_needed))), (o_O a O_count), ((a 42), .inl (cI, 48, .inl (ia O_gates))), (o_N a N_period N_width N_size), ((a 44), .inl (cI, 48, .inl (ia N_kind))), ((a 45), .inl (cI, 48, .inl (ia N_pins))), ((a 46), .inl (cI, 144, .inl (ia N_source))), ((a 49), .inl (cI, 144, .inl (ia N_senses)))]) s.heap.size ([(o_C a C_size), ((a 11), .inl (cZ, 96, .inl (ia z_C_needed))), (o_O a O_count), ((a 42), .inl (cI, 48, .inl (ia O_gates))), (o_N a N_period N_width N_size), ((a 44), .inl (cI, 48, .inl (ia N_kind))), ((a 45), .inl (cI, 48, .inl (ia N_pins))), ((a 46), .inl (cI, 144, .inl (ia N_source))), ((a 49), .inl (cI, 144, .inl (ia N_senses)))])) args s 0 0 (va_A ([(o_C a C_size), ((a 11), .inl (cZ, 96, .inl (ia C_needed))), (o_O a O_count), ((a 42), .inl (cI, 48, .inl (ia O_gates))), (o_N a N_period N_width N_size), ((a 44), .inl (cI, 48, .inl (ia N_kind))), ((a 45), .inl (cI, 48, .inl (ia N_pins))), ((a 46), .inl (cI, 144, .inl (ia N_source))), ((a 49), .inl (cI, 144, .inl (ia N_senses)))]) s.heap.size) := ⟨_, rfl⟩
  rw [← hQ]
  suffices hW : ∀ (H : Heap) (locs : List Loc), va_P D vwCl ([(o_C a C_size), ((a 11), .inl (cZ, 96, .inl (ia C_needed))), (o_O a O_count), ((a 42), .inl (cI, 48, .inl (ia O_gates))), (o_N a N_period N_width N_size), ((a 44), .inl (cI, 48, .inl (ia N_kind))), ((a 45), .inl (cI, 48, .inl (ia N_pins))), ((a 46), .inl (cI, 144, .inl (ia N_source))), ((a 49), .inl (cI, 144, .inl (ia N_senses)))]) H → va_D A ([(o_C a C_size), ((a 11), .inl (cZ, 96, .inl (ia C_needed))), (o_O a O_count), ((a 42), .inl (cI, 48, .inl (ia O_gates))), (o_N a N_period N_width N_size), ((a 44), .inl (cI, 48, .inl (ia N_kind))), ((a 45), .inl (cI, 48, .inl (ia N_pins))), ((a 46), .inl (cI, 144, .inl (ia N_source))), ((a 49), .inl (cI, 144, .inl (ia N_senses)))]) → va_S A s.heap H locs → W p l e (headSpec w_ClockWays_markNeeded rm_ClockWays_markNeeded).room s m args below meth c H locs 0 0 Q (F0 m 0 ls []) from hW s.heap [] hP hD hS
  clear hP hD hS
  intro H locs hP hD hS
  rw [f_ClockWays_markNeeded] at h
  refine zv_iconst hx hb d_ClockWays_markNeeded_0 ?_
  refine lv_istore_n (lv' := [(1, .int (iI 0)), (0, .ref (a 10))]) hx hb d_ClockWays_markNeeded_1 rfl hl (by decide) rfl (fun ls hl => ?_)
  have hl2 : ∀ (nf : Nat) (v1 : Int) (C_needed_1 : Int → Int) (H : Heap) (locs : List Loc) (ls : Array Slot), va_P D vwCl [(o_C a C_size), ((a 11), .inl (cZ, 96, .inl (ia C_needed_1))), (o_O a O_count), ((a 42), .inl (cI, 48, .inl (ia O_gates))), (o_N a N_period N_width N_size), ((a 44), .inl (cI, 48, .inl (ia N_kind))), ((a 45), .inl (cI, 48, .inl (ia N_pins))), ((a 46), .inl (cI, 144, .inl (ia N_source))), ((a 49), .inl (cI, 144, .inl (ia N_senses)))] H → va_D A [(o_C a C_size), ((a 11), .inl (cZ, 96, .inl (ia C_needed_1))), (o_O a O_count), ((a 42), .inl (cI, 48, .inl (ia O_gates))), (o_N a N_period N_width N_size), ((a 44), .inl (cI, 48, .inl (ia N_kind))), ((a 45), .inl (cI, 48, .inl (ia N_pins))), ((a 46), .inl (cI, 144, .inl (ia N_source))), ((a 49), .inl (cI, 144, .inl (ia N_senses)))] → va_S A s.heap H locs → lv_has ls 3 [(0, .ref (a 10)), (1, .int (iI v1))] → lq2 (f_ClockWays_markNeeded_b2 F O_count O_gates N_size N_kind N_pins N_source N_senses) nf v1 C_needed_1 = some (z_C_needed) → W p l e (headSpec w_ClockWays_markNeeded rm_ClockWays_markNeeded).room s m args below meth c H locs 0 0 Q (F0 m 2 ls []) := by
    intro n2
    induction n2 with
    | zero => intro v1 C_needed_1 H locs ls hP hD hS hl h; exact no_some h
    | succ n2 ih2 =>
      intro v1 C_needed_1 H locs ls hP hD hS hl h
      replace h : f_ClockWays_markNeeded_b2 F O_count O_gates N_size N_kind N_pins N_source N_senses (lq2 (f_ClockWays_markNeeded_b2 F O_count O_gates N_size N_kind N_pins N_source N_senses) n2) v1 C_needed_1 = some (z_C_needed) := h
      obtain ⟨self2, hs2⟩ : ∃ z, z = lq2 (f_ClockWays_markNeeded_b2 F O_count O_gates N_size N_kind N_pins N_source N_senses) n2 := ⟨_, rfl⟩
      rw [← hs2] at h ih2
      rw [f_ClockWays_markNeeded_b2] at h
      refine lv_iload_n hx hb d_ClockWays_markNeeded_2 rfl (lv_at hl 1 rfl) ?_
      refine lv_bipush (v := iI 96) hx hb d_ClockWays_markNeeded_3 (by decide) ?_
      obtain ⟨hg0, h⟩ := gr_e h
      refine zc_ge hx hb d_ClockWays_markNeeded_5 rfl hg0 (by decide) (fun hc => ?_) (fun hc => ?_)
      · replace h := if_t hc h
        refine zv_iconst hx hb d_ClockWays_markNeeded_21 ?_
        refine lv_istore_n (lv' := [(1, .int (iI 0)), (0, .ref (a 10))]) hx hb d_ClockWays_markNeeded_22 rfl hl (by decide) rfl (fun ls hl => ?_)
        have hl23 : ∀ (nf : Nat) (v1_2 : Int) (C_needed_3 : Int → Int) (H : Heap) (locs : List Loc) (ls : Array Slot), va_P D vwCl [(o_C a C_size), ((a 11), .inl (cZ, 96, .inl (ia C_needed_3))), (o_O a O_count), ((a 42), .inl (cI, 48, .inl (ia O_gates))), (o_N a N_period N_width N_size), ((a 44), .inl (cI, 48, .inl (ia N_kind))), ((a 45), .inl (cI, 48, .inl (ia N_pins))), ((a 46), .inl (cI, 144, .inl (ia N_source))), ((a 49), .inl (cI, 144, .inl (ia N_senses)))] H → va_D A [(o_C a C_size), ((a 11), .inl (cZ, 96, .inl (ia C_needed_3))), (o_O a O_count), ((a 42), .inl (cI, 48, .inl (ia O_gates))), (o_N a N_period N_width N_size), ((a 44), .inl (cI, 48, .inl (ia N_kind))), ((a 45), .inl (cI, 48, .inl (ia N_pins))), ((a 46), .inl (cI, 144, .inl (ia N_source))), ((a 49), .inl (cI, 144, .inl (ia N_senses)))] → va_S A s.heap H locs → lv_has ls 3 [(0, .ref (a 10)), (1, .int (iI v1_2))] → lq2 (f_ClockWays_markNeeded_b23 F O_count O_gates N_size N_kind N_pins N_source N_senses) nf v1_2 C_needed_3 = some (z_C_needed) → W p l e (headSpec w_ClockWays_markNeeded rm_ClockWays_markNeeded).room s m args below meth c H locs 0 0 Q (F0 m 23 ls []) := by
          intro n23
          induction n23 with
          | zero => intro v1_2 C_needed_3 H locs ls hP hD hS hl h; exact no_some h
          | succ n23 ih23 =>
            intro v1_2 C_needed_3 H locs ls hP hD hS hl h
            replace h : f_ClockWays_markNeeded_b23 F O_count O_gates N_size N_kind N_pins N_source N_senses (lq2 (f_ClockWays_markNeeded_b23 F O_count O_gates N_size N_kind N_pins N_source N_senses) n23) v1_2 C_needed_3 = some (z_C_needed) := h
            obtain ⟨self23, hs23⟩ : ∃ z, z = lq2 (f_ClockWays_markNeeded_b23 F O_count O_gates N_size N_kind N_pins N_source N_senses) n23 := ⟨_, rfl⟩
            rw [← hs23] at h ih23
            rw [f_ClockWays_markNeeded_b23] at h
            refine lv_iload_n hx hb d_ClockWays_markNeeded_23 rfl (lv_at hl 1 rfl) ?_
            refine lv_aload_n hx hb d_ClockWays_markNeeded_24 rfl (lv_at hl 0 rfl) ?_
            refine va_get (D := D) (ci := 4) (v := .ref (a 43)) (C := R_ClockWays) (T := F_ClockWays) (N := 17) hx hb hT in_ClockWays hown hK hP 0 rfl rfl 0 (by decide) (hT _ m194) (fun _ h9 => h9) rfl d_ClockWays_markNeeded_25 ?_
            refine va_get (D := D) (ci := 1) (v := .int (iI N_size)) (C := R_Net) (T := F_Net) (N := 15) hx hb hT in_Net hown hK hP 4 rfl rfl 2 (by decide) (hT _ m50) (fun _ h9 => h9) rfl d_ClockWays_markNeeded_28 ?_
            obtain ⟨hg0, h⟩ := gr_e h
            obtain ⟨hg1, h⟩ := gr_e h
            refine zc_ge hx hb d_ClockWays_markNeeded_31 rfl hg0 hg1 (fun hc => ?_) (fun hc => ?_)
            · replace h := if_t hc h
              refine lv_aload_n hx hb d_ClockWays_markNeeded_82 rfl (lv_at hl 0 rfl) ?_
              refine va_get (D := D) (ci := 4) (v := .ref (a 40)) (C := R_ClockWays) (T := F_ClockWays) (N := 17) hx hb hT in_ClockWays hown hK hP 0 rfl rfl 1 (by decide) (hT _ m195) (fun _ h9 => h9) rfl d_ClockWays_markNeeded_83 ?_
              refine va_get (D := D) (ci := 2) (v := .int (iI O_count)) (C := R_GateOrder) (T := F_GateOrder) (N := 4) hx hb hT in_GateOrder hown hK hP 2 rfl rfl 3 (by decide) (hT _ m146) (fun _ h9 => h9) rfl d_ClockWays_markNeeded_86 ?_
              refine zv_iconst hx hb d_ClockWays_markNeeded_89 ?_
              refine zv_isub hx hb d_ClockWays_markNeeded_90 ?_
              refine zv_top (fun v1_4 hv => ?_)
              replace h := bd_e hv h
              refine lv_istore_n (lv' := [(1, .int (iI v1_4)), (0, .ref (a 10))]) hx hb d_ClockWays_markNeeded_91 rfl hl (by decide) rfl (fun ls hl => ?_)
              have hl92 : ∀ (nf : Nat) (v1_5 : Int) (C_needed_6 : Int → Int) (H : Heap) (locs : List Loc) (ls : Array Slot), va_P D vwCl [(o_C a C_size), ((a 11), .inl (cZ, 96, .inl (ia C_needed_6))), (o_O a O_count), ((a 42), .inl (cI, 48, .inl (ia O_gates))), (o_N a N_period N_width N_size), ((a 44), .inl (cI, 48, .inl (ia N_kind))), ((a 45), .inl (cI, 48, .inl (ia N_pins))), ((a 46), .inl (cI, 144, .inl (ia N_source))), ((a 49), .inl (cI, 144, .inl (ia N_senses)))] H → va_D A [(o_C a C_size), ((a 11), .inl (cZ, 96, .inl (ia C_needed_6))), (o_O a O_count), ((a 42), .inl (cI, 48, .inl (ia O_gates))), (o_N a N_period N_width N_size), ((a 44), .inl (cI, 48, .inl (ia N_kind))), ((a 45), .inl (cI, 48, .inl (ia N_pins))), ((a 46), .inl (cI, 144, .inl (ia N_source))), ((a 49), .inl (cI, 144, .inl (ia N_senses)))] → va_S A s.heap H locs → lv_has ls 3 [(0, .ref (a 10)), (1, .int (iI v1_5))] → lq2 (f_ClockWays_markNeeded_b92 F O_gates N_pins N_source N_senses) nf v1_5 C_needed_6 = some (z_C_needed) → W p l e (headSpec w_ClockWays_markNeeded rm_ClockWays_markNeeded).room s m args below meth c H locs 0 0 Q (F0 m 92 ls []) := by
                intro n92
                induction n92 with
                | zero => intro v1_5 C_needed_6 H locs ls hP hD hS hl h; exact no_some h
                | succ n92 ih92 =>
                  intro v1_5 C_needed_6 H locs ls hP hD hS hl h
                  replace h : f_ClockWays_markNeeded_b92 F O_gates N_pins N_source N_senses (lq2 (f_ClockWays_markNeeded_b92 F O_gates N_pins N_source N_senses) n92) v1_5 C_needed_6 = some (z_C_needed) := h
                  obtain ⟨self92, hs92⟩ : ∃ z, z = lq2 (f_ClockWays_markNeeded_b92 F O_gates N_pins N_source N_senses) n92 := ⟨_, rfl⟩
                  rw [← hs92] at h ih92
                  rw [f_ClockWays_markNeeded_b92] at h
                  refine lv_iload_n hx hb d_ClockWays_markNeeded_92 rfl (lv_at hl 1 rfl) ?_
                  obtain ⟨hg0, h⟩ := gr_e h
                  refine zi_lt hx hb d_ClockWays_markNeeded_93 rfl hg0 (fun hc => ?_) (fun hc => ?_)
                  · replace h := if_t hc h
                    have e1 := so1 h
                    rw [hQ, e1]; rw [hAe] at hD hS; exact W.vret hx hb hr (fun t ht hW => ⟨⟨(), rfl, trivial, by rw [ht]; exact hP, va_K.moved hW.alike hK, hD⟩, hS.F ht⟩) hS.2.2 d_ClockWays_markNeeded_145
                  · replace h := if_f hc h
                    refine zv_iconst hx hb d_ClockWays_markNeeded_96 ?_
                    refine lv_istore_n (lv' := [(2, .int (iI 0)), (0, .ref (a 10)), (1, .int (iI v1_5))]) hx hb d_ClockWays_markNeeded_97 rfl hl (by decide) rfl (fun ls hl => ?_)
                    have hl98 : ∀ (nf : Nat) (v2 : Int) (C_needed_7 : Int → Int) (H : Heap) (locs : List Loc) (ls : Array Slot), va_P D vwCl [(o_C a C_size), ((a 11), .inl (cZ, 96, .inl (ia C_needed_7))), (o_O a O_count), ((a 42), .inl (cI, 48, .inl (ia O_gates))), (o_N a N_period N_width N_size), ((a 44), .inl (cI, 48, .inl (ia N_kind))), ((a 45), .inl (cI, 48, .inl (ia N_pins))), ((a 46), .inl (cI, 144, .inl (ia N_source))), ((a 49), .inl (cI, 144, .inl (ia N_senses)))] H → va_D A [(o_C a C_size), ((a 11), .inl (cZ, 96, .inl (ia C_needed_7))), (o_O a O_count), ((a 42), .inl (cI, 48, .inl (ia O_gates))), (o_N a N_period N_width N_size), ((a 44), .inl (cI, 48, .inl (ia N_kind))), ((a 45), .inl (cI, 48, .inl (ia N_pins))), ((a 46), .inl (cI, 144, .inl (ia N_source))), ((a 49), .inl (cI, 144, .inl (ia N_senses)))] → va_S A s.heap H locs → lv_has ls 3 [(0, .ref (a 10)), (1, .int (iI v1_5)), (2, .int (iI v2))] → lq2 (f_ClockWays_markNeeded_b98 F O_gates N_pins N_source N_senses v1_5 self92) nf v2 C_needed_7 = some (z_C_needed) → W p l e (headSpec w_ClockWays_markNeeded rm_ClockWays_markNeeded).room s m args below meth c H locs 0 0 Q (F0 m 98 ls []) := by
                      intro n98
                      induction n98 with
                      | zero => intro v2 C_needed_7 H locs ls hP hD hS hl h; exact no_some h
                      | succ n98 ih98 =>
                        intro v2 C_needed_7 H locs ls hP hD hS hl h
                        replace h : f_ClockWays_markNeeded_b98 F O_gates N_pins N_source N_senses v1_5 self92 (lq2 (f_ClockWays_markNeeded_b98 F O_gates N_pins N_source N_senses v1_5 self92) n98) v2 C_needed_7 = some (z_C_needed) := h
                        obtain ⟨self98, hs98⟩ : ∃ z, z = lq2 (f_ClockWays_markNeeded_b98 F O_gates N_pins N_source N_senses v1_5 self92) n98 := ⟨_, rfl⟩
                        rw [← hs98] at h ih98
                        rw [f_ClockWays_markNeeded_b98] at h
                        refine lv_iload_n hx hb d_ClockWays_markNeeded_98 rfl (lv_at hl 2 rfl) ?_
                        refine lv_aload_n hx hb d_ClockWays_markNeeded_99 rfl (lv_at hl 0 rfl) ?_
                        refine va_get (D := D) (ci := 4) (v := .ref (a 43)) (C := R_ClockWays) (T := F_ClockWays) (N := 17) hx hb hT in_ClockWays hown hK hP 0 rfl rfl 0 (by decide) (hT _ m194) (fun _ h9 => h9) rfl d_ClockWays_markNeeded_100 ?_
                        refine va_get (D := D) (ci := 1) (v := .ref (a 45)) (C := R_Net) (T := F_Net) (N := 15) hx hb hT in_Net hown hK hP 4 rfl rfl 4 (by decide) (hT _ m63) (fun _ h9 => h9) rfl d_ClockWays_markNeeded_103 ?_
                        refine lv_aload_n hx hb d_ClockWays_markNeeded_106 rfl (lv_at hl 0 rfl) ?_
                        refine va_get (D := D) (ci := 4) (v := .ref (a 40)) (C := R_ClockWays) (T := F_ClockWays) (N := 17) hx hb hT in_ClockWays hown hK hP 0 rfl rfl 1 (by decide) (hT _ m195) (fun _ h9 => h9) rfl d_ClockWays_markNeeded_107 ?_
                        refine va_get (D := D) (ci := 2) (v := .ref (a 42)) (C := R_GateOrder) (T := F_GateOrder) (N := 4) hx hb hT in_GateOrder hown hK hP 2 rfl rfl 2 (by decide) (hT _ m143) (fun _ h9 => h9) rfl d_ClockWays_markNeeded_110 ?_
                        refine lv_iload_n hx hb d_ClockWays_markNeeded_113 rfl (lv_at hl 1 rfl) ?_
                        obtain ⟨hin, h⟩ := gi_e h
                        refine zv_iald hx hb hK hP 3 0 rfl rfl (Nat.le_of_ble_eq_true rfl) hin d_ClockWays_markNeeded_114 ?_
                        obtain ⟨hin, h⟩ := gi_e h
                        refine zv_iald hx hb hK hP 6 0 rfl rfl (Nat.le_of_ble_eq_true rfl) hin d_ClockWays_markNeeded_115 ?_
                        obtain ⟨hg0, h⟩ := gr_e h
                        obtain ⟨hg1, h⟩ := gr_e h
                        refine zc_ge hx hb d_ClockWays_markNeeded_116 rfl hg0 hg1 (fun hc => ?_) (fun hc => ?_)
                        · replace h := if_t hc h
                          refine lv_iinc (v := iI (v1_5 + (-1))) (k := 1) (lv' := [(1, .int (iI (v1_5 + (-1)))), (0, .ref (a 10)), (2, .int (iI v2))]) hx hb d_ClockWays_markNeeded_139 hl rfl (iI_add _ _) (by decide) rfl (fun ls hl => ?_)
                          refine lv_goto hx hb d_ClockWays_markNeeded_142 rfl ?_
                          exact ih92 (v1_5 + (-1)) C_needed_7 H locs ls hP hD hS (lv_sub hl [1, 0] rfl) h
                        · replace h := if_f hc h
                          refine lv_aload_n hx hb d_ClockWays_markNeeded_119 rfl (lv_at hl 0 rfl) ?_
                          refine lv_aload_n hx hb d_ClockWays_markNeeded_120 rfl (lv_at hl 0 rfl) ?_
                          refine va_get (D := D) (ci := 4) (v := .ref (a 40)) (C := R_ClockWays) (T := F_ClockWays) (N := 17) hx hb hT in_ClockWays hown hK hP 0 rfl rfl 1 (by decide) (hT _ m195) (fun _ h9 => h9) rfl d_ClockWays_markNeeded_121 ?_
                          refine va_get (D := D) (ci := 2) (v := .ref (a 42)) (C := R_GateOrder) (T := F_GateOrder) (N := 4) hx hb hT in_GateOrder hown hK hP 2 rfl rfl 2 (by decide) (hT _ m143) (fun _ h9 => h9) rfl d_ClockWays_markNeeded_124 ?_
                          refine lv_iload_n hx hb d_ClockWays_markNeeded_127 rfl (lv_at hl 1 rfl) ?_
                          obtain ⟨hin, h⟩ := gi_e h
                          refine zv_iald hx hb hK hP 3 0 rfl rfl (Nat.le_of_ble_eq_true rfl) hin d_ClockWays_markNeeded_128 ?_
                          refine lv_iload_n hx hb d_ClockWays_markNeeded_129 rfl (lv_at hl 2 rfl) ?_
                          obtain ⟨C_needed_8, hcall, h⟩ := ob1_e h
                          refine ca_v (w2 := [(o_C a C_size), ((a 11), .inl (cZ, 96, .inl (ia C_needed_8))), (o_O a O_count), ((a 42), .inl (cI, 48, .inl (ia O_gates))), (o_N a N_period N_width N_size), ((a 44), .inl (cI, 48, .inl (ia N_kind))), ((a 45), .inl (cI, 48, .inl (ia N_pins))), ((a 46), .inl (cI, 144, .inl (ia N_source))), ((a 49), .inl (cI, 144, .inl (ia N_senses)))]) (va_runV (As := [.int (iI (O_gates v1_5)), .int (iI v2)]) (rest := []) ⟨hx, hb, hml, hown, hts⟩ (c_ClockWays_markNeededBy l D cI cJ cZ F a C_size C_needed_7 N_period N_width N_size N_source N_senses (O_gates v1_5) v2 C_needed_8 H.size hcall) (cwV 2 hts (gd_V m526 m523 m525 sl_ClockWays_markNeededBy m5) rfl rfl rfl ⟨rfl, hc_ClockWays_markNeededBy⟩ ⟨Nat.le_of_ble_eq_true rfl, Nat.le_of_ble_eq_true rfl⟩) (pc_V 0 4 [.int (iI (O_gates v1_5)), .int (iI v2)] hP hK hD hN [0, 1, 4, 7, 8] rfl rfl rfl rfl rfl) rfl rfl hl.1 rfl (lv_room (Nat.le_of_ble_eq_true rfl)) d_ClockWays_markNeeded_130 ⟨Nat.le_refl 0, Nat.le_refl 0⟩) hP hD hS hA [0, 1, 4, 7, 8] [2, 3, 5, 6] [4, 5, 0, 1, 6, 2, 3, 7, 8] rfl rfl rfl (by decide) rfl rfl rfl (fun H locs hP hD hS => ?_)
                          refine lv_iinc (v := iI (v2 + 1)) (k := 2) (lv' := [(2, .int (iI (v2 + 1))), (0, .ref (a 10)), (1, .int (iI v1_5))]) hx hb d_ClockWays_markNeeded_133 hl rfl (iI_add _ _) (by decide) rfl (fun ls hl => ?_)
                          refine lv_goto hx hb d_ClockWays_markNeeded_136 rfl ?_
                          exact ih98 (v2 + 1) C_needed_8 H locs ls hP hD hS (lv_sub hl [1, 2, 0] rfl) h
                    exact hl98 F 0 C_needed_6 H locs ls hP hD hS (lv_sub hl [1, 2, 0] rfl) h
              exact hl92 F v1_4 C_needed_3 H locs ls hP hD hS (lv_sub hl [1, 0] rfl) h
            · replace h := if_f hc h
              refine lv_aload_n hx hb d_ClockWays_markNeeded_34 rfl (lv_at hl 0 rfl) ?_
              refine va_get (D := D) (ci := 4) (v := .ref (a 43)) (C := R_ClockWays) (T := F_ClockWays) (N := 17) hx hb hT in_ClockWays hown hK hP 0 rfl rfl 0 (by decide) (hT _ m194) (fun _ h9 => h9) rfl d_ClockWays_markNeeded_35 ?_
              refine va_get (D := D) (ci := 1) (v := .ref (a 46)) (C := R_Net) (T := F_Net) (N := 15) hx hb hT in_Net hown hK hP 4 rfl rfl 5 (by decide) (hT _ m66) (fun _ h9 => h9) rfl d_ClockWays_markNeeded_38 ?_
              refine lv_iload_n hx hb d_ClockWays_markNeeded_41 rfl (lv_at hl 1 rfl) ?_
              refine zv_iconst hx hb d_ClockWays_markNeeded_42 ?_
              refine zv_imul hx hb d_ClockWays_markNeeded_43 ?_
              refine zv_iconst hx hb d_ClockWays_markNeeded_44 ?_
              refine zv_iadd hx hb d_ClockWays_markNeeded_45 ?_
              obtain ⟨hin, h⟩ := gi_e h
              refine zv_iald hx hb hK hP 7 0 rfl rfl (Nat.le_of_ble_eq_true rfl) hin d_ClockWays_markNeeded_46 ?_
              refine zv_top (fun v2_9 hv => ?_)
              replace h := bd_e hv h
              refine lv_istore_n (lv' := [(2, .int (iI v2_9)), (0, .ref (a 10)), (1, .int (iI v1_2))]) hx hb d_ClockWays_markNeeded_47 rfl hl (by decide) rfl (fun ls hl => ?_)
              refine lv_aload_n hx hb d_ClockWays_markNeeded_48 rfl (lv_at hl 1 rfl) ?_
              refine va_get (D := D) (ci := 4) (v := .ref (a 43)) (C := R_ClockWays) (T := F_ClockWays) (N := 17) hx hb hT in_ClockWays hown hK hP 0 rfl rfl 0 (by decide) (hT _ m194) (fun _ h9 => h9) rfl d_ClockWays_markNeeded_49 ?_
              refine va_get (D := D) (ci := 1) (v := .ref (a 44)) (C := R_Net) (T := F_Net) (N := 15) hx hb hT in_Net hown hK hP 4 rfl rfl 3 (by decide) (hT _ m55) (fun _ h9 => h9) rfl d_ClockWays_markNeeded_52 ?_
              refine lv_iload_n hx hb d_ClockWays_markNeeded_55 rfl (lv_at hl 2 rfl) ?_
              obtain ⟨hin, h⟩ := gi_e h
              refine zv_iald hx hb hK hP 5 0 rfl rfl (Nat.le_of_ble_eq_true rfl) hin d_ClockWays_markNeeded_56 ?_
              refine zv_iconst hx hb d_ClockWays_markNeeded_57 ?_
              have hj76 : ∀ (C_needed_10 : Int → Int) (H : Heap) (locs : List Loc) (ls : Array Slot), va_P D vwCl [(o_C a C_size), ((a 11), .inl (cZ, 96, .inl (ia C_needed_10))), (o_O a O_count), ((a 42), .inl (cI, 48, .inl (ia O_gates))), (o_N a N_period N_width N_size), ((a 44), .inl (cI, 48, .inl (ia N_kind))), ((a 45), .inl (cI, 48, .inl (ia N_pins))), ((a 46), .inl (cI, 144, .inl (ia N_source))), ((a 49), .inl (cI, 144, .inl (ia N_senses)))] H → va_D A [(o_C a C_size), ((a 11), .inl (cZ, 96, .inl (ia C_needed_10))), (o_O a O_count), ((a 42), .inl (cI, 48, .inl (ia O_gates))), (o_N a N_period N_width N_size), ((a 44), .inl (cI, 48, .inl (ia N_kind))), ((a 45), .inl (cI, 48, .inl (ia N_pins))), ((a 46), .inl (cI, 144, .inl (ia N_source))), ((a 49), .inl (cI, 144, .inl (ia N_senses)))] → va_S A s.heap H locs → lv_has ls 3 [(0, .ref (a 10)), (1, .int (iI v1_2))] → f_ClockWays_markNeeded_j76 F v1_2 self23 C_needed_10 = some (z_C_needed) → W p l e (headSpec w_ClockWays_markNeeded rm_ClockWays_markNeeded).room s m args below meth c H locs 0 0 Q (F0 m 76 ls []) := by
                intro C_needed_10 H locs ls hP hD hS hl h
                rw [f_ClockWays_markNeeded_j76] at h
                refine lv_iinc (v := iI (v1_2 + 1)) (k := 1) (lv' := [(1, .int (iI (v1_2 + 1))), (0, .ref (a 10))]) hx hb d_ClockWays_markNeeded_76 hl rfl (iI_add _ _) (by decide) rfl (fun ls hl => ?_)
                refine lv_goto hx hb d_ClockWays_markNeeded_79 rfl ?_
                exact ih23 (v1_2 + 1) C_needed_10 H locs ls hP hD hS (lv_sub hl [1, 0] rfl) h
              obtain ⟨hg0, h⟩ := gr_e h
              refine zc_ne hx hb d_ClockWays_markNeeded_58 rfl hg0 (by decide) (fun hc => ?_) (fun hc => ?_)
              · replace h := if_f hc h
                exact hj76 C_needed_3 H locs ls hP hD hS (lv_sub hl [1, 2] rfl) h
              · replace h := if_t hc h
                refine lv_iload_n hx hb d_ClockWays_markNeeded_61 rfl (lv_at hl 0 rfl) ?_
                obtain ⟨hg0, h⟩ := gr_e h
                refine zi_lt hx hb d_ClockWays_markNeeded_62 rfl hg0 (fun hc => ?_) (fun hc => ?_)
                · replace h := if_t hc h
                  exact hj76 C_needed_3 H locs ls hP hD hS (lv_sub hl [1, 2] rfl) h
                · replace h := if_f hc h
                  refine lv_aload_n hx hb d_ClockWays_markNeeded_65 rfl (lv_at hl 1 rfl) ?_
                  refine va_get (D := D) (ci := 4) (v := .ref (a 11)) (C := R_ClockWays) (T := F_ClockWays) (N := 17) hx hb hT in_ClockWays hown hK hP 0 rfl rfl 3 (by decide) (hT _ m197) (fun _ h9 => h9) rfl d_ClockWays_markNeeded_66 ?_
                  refine zv_iconst hx hb d_ClockWays_markNeeded_69 ?_
                  refine lv_iload_n hx hb d_ClockWays_markNeeded_70 rfl (lv_at hl 0 rfl) ?_
                  refine zv_imul hx hb d_ClockWays_markNeeded_71 ?_
                  refine zv_iconst hx hb d_ClockWays_markNeeded_72 ?_
                  refine zv_iadd hx hb d_ClockWays_markNeeded_73 ?_
                  refine zv_iconst hx hb d_ClockWays_markNeeded_74 ?_
                  obtain ⟨hin, h⟩ := gi_e h
                  refine zv_zast hx hb hK hP hD hS 1 2 rfl rfl (Nat.le_of_ble_eq_true rfl) hin (Or.inr rfl) d_ClockWays_markNeeded_75 (fun H locs hP hD hS => ?_)
                  obtain ⟨C_needed_11, hv⟩ : ∃ z, z = (ui C_needed_3 ((2 * v2_9) + 0) 1) := ⟨_, rfl⟩
                  replace h := bd_e hv h
                  have hP : va_P D vwCl [(o_C a C_size), ((a 11), .inl (cZ, 96, .inl (ia C_needed_11))), (o_O a O_count), ((a 42), .inl (cI, 48, .inl (ia O_gates))), (o_N a N_period N_width N_size), ((a 44), .inl (cI, 48, .inl (ia N_kind))), ((a 45), .inl (cI, 48, .inl (ia N_pins))), ((a 46), .inl (cI, 144, .inl (ia N_source))), ((a 49), .inl (cI, 144, .inl (ia N_senses)))] H := by rw [hv]; exact hP
                  have hD : va_D A [(o_C a C_size), ((a 11), .inl (cZ, 96, .inl (ia C_needed_11))), (o_O a O_count), ((a 42), .inl (cI, 48, .inl (ia O_gates))), (o_N a N_period N_width N_size), ((a 44), .inl (cI, 48, .inl (ia N_kind))), ((a 45), .inl (cI, 48, .inl (ia N_pins))), ((a 46), .inl (cI, 144, .inl (ia N_source))), ((a 49), .inl (cI, 144, .inl (ia N_senses)))] := by rw [hv]; exact hD
                  exact hj76 C_needed_11 H locs ls hP hD hS (lv_sub hl [1, 2] rfl) h
        exact hl23 F 0 C_needed_1 H locs ls hP hD hS (lv_sub hl [1, 0] rfl) h
      · replace h := if_f hc h
        refine lv_aload_n hx hb d_ClockWays_markNeeded_8 rfl (lv_at hl 0 rfl) ?_
        refine va_get (D := D) (ci := 4) (v := .ref (a 11)) (C := R_ClockWays) (T := F_ClockWays) (N := 17) hx hb hT in_ClockWays hown hK hP 0 rfl rfl 3 (by decide) (hT _ m197) (fun _ h9 => h9) rfl d_ClockWays_markNeeded_9 ?_
        refine lv_iload_n hx hb d_ClockWays_markNeeded_12 rfl (lv_at hl 1 rfl) ?_
        refine zv_iconst hx hb d_ClockWays_markNeeded_13 ?_
        obtain ⟨hin, h⟩ := gi_e h
        refine zv_zast hx hb hK hP hD hS 1 2 rfl rfl (Nat.le_of_ble_eq_true rfl) hin (Or.inl rfl) d_ClockWays_markNeeded_14 (fun H locs hP hD hS => ?_)
        obtain ⟨C_needed_12, hv⟩ : ∃ z, z = (ui C_needed_1 v1 0) := ⟨_, rfl⟩
        replace h := bd_e hv h
        have hP : va_P D vwCl [(o_C a C_size), ((a 11), .inl (cZ, 96, .inl (ia C_needed_12))), (o_O a O_count), ((a 42), .inl (cI, 48, .inl (ia O_gates))), (o_N a N_period N_width N_size), ((a 44), .inl (cI, 48, .inl (ia N_kind))), ((a 45), .inl (cI, 48, .inl (ia N_pins))), ((a 46), .inl (cI, 144, .inl (ia N_source))), ((a 49), .inl (cI, 144, .inl (ia N_senses)))] H := by rw [hv]; exact hP
        have hD : va_D A [(o_C a C_size), ((a 11), .inl (cZ, 96, .inl (ia C_needed_12))), (o_O a O_count), ((a 42), .inl (cI, 48, .inl (ia O_gates))), (o_N a N_period N_width N_size), ((a 44), .inl (cI, 48, .inl (ia N_kind))), ((a 45), .inl (cI, 48, .inl (ia N_pins))), ((a 46), .inl (cI, 144, .inl (ia N_source))), ((a 49), .inl (cI, 144, .inl (ia N_senses)))] := by rw [hv]; exact hD
        refine lv_iinc (v := iI (v1 + 1)) (k := 1) (lv' := [(1, .int (iI (v1 + 1))), (0, .ref (a 10))]) hx hb d_ClockWays_markNeeded_15 hl rfl (iI_add _ _) (by decide) rfl (fun ls hl => ?_)
        refine lv_goto hx hb d_ClockWays_markNeeded_18 rfl ?_
        exact ih2 (v1 + 1) C_needed_12 H locs ls hP hD hS (lv_sub hl [1, 0] rfl) h
  exact hl2 F 0 C_needed H locs ls hP hD hS (lv_sub hl [1, 0] rfl) h
abbrev rm_T_elementOf : Room := { frames := 0, cells := 0, slots := 0, locals := 0 }
set_option maxHeartbeats 4000000 in
set_option maxRecDepth 100000 in
theorem c_T_elementOf (l : Launch) (D : va_G) (cI cJ cZ : ClassId) (F : Nat) (a : Nat → Nat) (x0 : Int) (x1 : Int) (x2 : Int) (r : Int) (sz : Nat) (h : f_T_elementOf F x0 x1 x2 = some (r)) : Met l y_T_elementOf w_T_elementOf rm_T_elementOf (PC D [(cI, .int), (cJ, .long), (cZ, .boolean)] [.int (iI x0), .int (iI x1), .int (iI x2)] ([]) sz) (QcRead (iI r)) 0 0 (fun _ => False) := by
  refine Met.ofW (cc := prog_1_method_31_code) (maxL := 3) (ret := (Option.some Jvm.ClassFile.FieldType.int)) (by decide) rfl ?_
  intro p e s m args below meth c s₁ B hml hv
  obtain ⟨rfl, hsz, hP, hK, hD0, hN⟩ := hv
  have hx := B.exec
  have hb := B.bytes
  have hr := B.returns
  have hts := atoms_spec (ws := w_T_elementOf) B.pre
  have hown : s.vm.findClass R_T = some m.cls := findClass_of_methodNamed B.named
  have hlocks := B.notSynchronized
  subst hsz
  have hl := lv_entry ([.int (iI x0), .int (iI x1), .int (iI x2)]) (n := 3) (Nat.le_of_ble_eq_true rfl)
  rw [lg_entry_eq]
  generalize (lg_sl ([.int (iI x0), .int (iI x1), .int (iI x2)]) ++ List.replicate (3 - (lg_sl ([.int (iI x0), .int (iI x1), .int (iI x2)])).length) Slot.unset).toArray = ls at hl ⊢
  have hl : lv_has ls 3 [(0, .int (iI x0)), (1, .int (iI x1)), (2, .int (iI x2))] := hl
  generalize (List.toArray ([.int (iI x0), .int (iI x1), .int (iI x2)] : List Value)) = args at hts ⊢
  have hT : ∀ w ∈ Tg, w.before args s = true := fun w h => hts w (List.mem_cons_of_mem _ h)
  obtain ⟨Q, hQ⟩ : ∃ Q, Q = MQ below (QcRead (iI r)) args s 0 0 (fun _ => False) := ⟨_, rfl⟩
  rw [← hQ]
  rw [f_T_elementOf] at h
  refine lv_bipush (v := iI 8) hx hb d_T_elementOf_0 (by decide) ?_
  refine lv_iload_n hx hb d_T_elementOf_2 rfl (lv_at hl 0 rfl) ?_
  refine zv_imul hx hb d_T_elementOf_3 ?_
  refine zv_iconst hx hb d_T_elementOf_4 ?_
  refine lv_iload_n hx hb d_T_elementOf_5 rfl (lv_at hl 1 rfl) ?_
  refine zv_imul hx hb d_T_elementOf_6 ?_
  refine zv_iadd hx hb d_T_elementOf_7 ?_
  refine lv_iload_n hx hb d_T_elementOf_8 rfl (lv_at hl 2 rfl) ?_
  refine zv_iadd hx hb d_T_elementOf_9 ?_
  have e1 := so1 h
  rw [hQ, e1]; exact W.iret hx hb hr (fun t ht hW => ⟨rfl, ht⟩) (fun q h => nomatch h) d_T_elementOf_10
abbrev rm_ClockWays_grow : Room := { frames := 0, cells := 0, slots := 0, locals := 0 }
set_option maxHeartbeats 4000000 in
set_option maxRecDepth 100000 in
theorem c_ClockWays_grow (l : Launch) (D : va_G) (cI cJ cZ : ClassId) (F : Nat) (a : Nat → Nat) (C_size : Int) (C_elements : Int → Int) (C_parent : Int → Int) (C_length : Int → Int) (C_early : Int → Int) (C_late : Int → Int) (C_firstOf : Int → Int) (C_nextOf : Int → Int) (x1 : Int) (x2 : Int) (x3 : Int) (x4 : Int) (x5 : Int) (z_C_size : Int) (z_C_elements : Int → Int) (z_C_parent : Int → Int) (z_C_length : Int → Int) (z_C_early : Int → Int) (z_C_late : Int → Int) (z_C_firstOf : Int → Int) (z_C_nextOf : Int → Int) (sz : Nat) (h : f_ClockWays_grow F C_size C_elements C_parent C_length C_early C_late C_firstOf C_nextOf x1 x2 x3 x4 x5 = some (z_C_size, z_C_elements, z_C_parent, z_C_length, z_C_early, z_C_late, z_C_firstOf, z_C_nextOf)) : Met l y_ClockWays_grow w_ClockWays_grow rm_ClockWays_grow (PC D [(cI, .int), (cJ, .long), (cZ, .boolean)] [.ref (a 10), .int (iI x1), .int (iI x2), .int (iI x3), .int (iI x4), .int (iI x5)] ([(o_C a C_size), ((a 12), .inl (cI, 770, .inl (ia C_elements))), ((a 13), .inl (cI, 770, .inl (ia C_parent))), ((a 14), .inl (cI, 770, .inl (ia C_length))), ((a 15), .inl (cI, 770, .inl (ia C_early))), ((a 16), .inl (cI, 770, .inl (ia C_late))), ((a 17), .inl (cI, 96, .inl (ia C_firstOf))), ((a 18), .inl (cI, 770, .inl (ia C_nextOf)))]) sz) (QV D [(cI, .int), (cJ, .long), (cZ, .boolean)] ([(o_C a C_size), ((a 12), .inl (cI, 770, .inl (ia C_elements))), ((a 13), .inl (cI, 770, .inl (ia C_parent))), ((a 14), .inl (cI, 770, .inl (ia C_length))), ((a 15), .inl (cI, 770, .inl (ia C_early))), ((a 16), .inl (cI, 770, .inl (ia C_late))), ((a 17), .inl (cI, 96, .inl (ia C_firstOf))), ((a 18), .inl (cI, 770, .inl (ia C_nextOf)))]) sz ([(o_C a z_C_size), ((a 12), .inl (cI, 770, .inl (ia z_C_elements))), ((a 13), .inl (cI, 770, .inl (ia z_C_parent))), ((a 14), .inl (cI, 770, .inl (ia z_C_length))), ((a 15), .inl (cI, 770, .inl (ia z_C_early))), ((a 16), .inl (cI, 770, .inl (ia z_C_late))), ((a 17), .inl (cI, 96, .inl (ia z_C_firstOf))), ((a 18), .inl (cI, 770, .inl (ia z_C_nextOf)))])) 0 0 (va_A ([(o_C a C_size), ((a 12), .inl (cI, 770, .inl (ia C_elements))), ((a 13), .inl (cI, 770, .inl (ia C_parent))), ((a 14), .inl (cI, 770, .inl (ia C_length))), ((a 15), .inl (cI, 770, .inl (ia C_early))), ((a 16), .inl (cI, 770, .inl (ia C_late))), ((a 17), .inl (cI, 96, .inl (ia C_firstOf))), ((a 18), .inl (cI, 770, .inl (ia C_nextOf)))]) sz) := by
  refine Met.ofW (cc := prog_3_method_12_code) (maxL := 6) (ret := (Option.none : Option Jvm.ClassFile.FieldType)) (by decide) rfl ?_
  intro p e s m args below meth c s₁ B hml hv
  obtain ⟨rfl, hsz, hP, hK, hD0, hN⟩ := hv
  have hx := B.exec
  have hb := B.bytes
  have hr := B.returns
  have hts := atoms_spec (ws := w_ClockWays_grow) B.pre
  have hown : s.vm.findClass R_ClockWays = some m.cls := findClass_of_methodNamed B.named
  have hlocks := B.notSynchronized
  subst hsz
  have hD := hD0.self (sz := s.heap.size)
  obtain ⟨A, hAe⟩ : ∃ A, A = va_A ([(o_C a C_size), ((a 12), .inl (cI, 770, .inl (ia C_elements))), ((a 13), .inl (cI, 770, .inl (ia C_parent))), ((a 14), .inl (cI, 770, .inl (ia C_length))), ((a 15), .inl (cI, 770, .inl (ia C_early))), ((a 16), .inl (cI, 770, .inl (ia C_late))), ((a 17), .inl (cI, 96, .inl (ia C_firstOf))), ((a 18), .inl (cI, 770, .inl (ia C_nextOf)))]) s.heap.size := ⟨_, rfl⟩
  rw [← hAe] at hD
  have hA : ∀ q : Nat, s.heap.size ≤ q → A q := fun q h => by rw [hAe]; exact Or.inr h
  have hS : va_S A s.heap s.heap [] := va_S.rf
  have hl := lv_entry ([.ref (a 10), .int (iI x1), .int (iI x2), .int (iI x3), .int (iI x4), .int (iI x5)]) (n := 6) (Nat.le_of_ble_eq_true rfl)
  rw [lg_entry_eq]
  generalize (lg_sl ([.ref (a 10), .int (iI x1), .int (iI x2), .int (iI x3), .int (iI x4), .int (iI x5)]) ++ List.replicate (6 - (lg_sl ([.ref (a 10), .int (iI x1), .int (iI x2), .int (iI x3), .int (iI x4), .int (iI x5)])).length) Slot.unset).toArray = ls at hl ⊢
  have hl : lv_has ls 6 [(0, .ref (a 10)), (1, .int (iI x1)), (2, .int (iI x2)), (3, .int (iI x3)), (4, .int (iI x4)), (5, .int (iI x5))] := hl
  generalize (List.toArray ([.ref (a 10), .int (iI x1), .int (iI x2), .int (iI x3), .int (iI x4), .int (iI x5)] : List Value)) = args at hts ⊢
  have hT : ∀ w ∈ Tg, w.before args s = true := fun w h => hts w (List.mem_cons_of_mem _ h)
  obtain ⟨Q, hQ⟩ : ∃ Q, Q = MQ below (QV D [(cI, .int), (cJ, .long), (cZ, .boolean)] ([(o_C a C_size), ((a 12), .inl (cI, 770, .inl (ia C_elements))), ((a 13), .inl (cI, 770, .inl (ia C_parent))), ((a 14), .inl (cI, 770, .inl (ia C_length))), ((a 15), .inl (cI, 770, .inl (ia C_early))), ((a 16), .inl (cI, 770, .inl (ia C_late))), ((a 17), .inl (cI, 96, .inl (ia C_firstOf))), ((a 18), .inl (cI, 770, .inl (ia C_nextOf)))]) s.heap.size ([(o_C a z_C_size), ((a 12), .inl (cI, 770, .inl (ia z_C_elements))), ((a 13), .inl (cI, 770, .inl (ia z_C_parent))), ((a 14), .inl (cI, 770, .inl (ia z_C_length))), ((a 15), .inl (cI, 770, .inl (ia z_C_early))), ((a 16), .inl (cI, 770, .inl (ia z_C_late))), ((a 17), .inl (cI, 96, .inl (ia z_C_firstOf))), ((a 18), .inl (cI, 770, .inl (ia z_C_nextOf)))])) args s 0 0 (va_A ([(o_C a C_size), ((a 12), .inl (cI, 770, .inl (ia C_elements))), ((a 13), .inl (cI, 770, .inl (ia C_parent))), ((a 14), .inl (cI, 770, .inl (ia C_length))), ((a 15), .inl (cI, 770, .inl (ia C_early))), ((a 16), .inl (cI, 770, .inl (ia C_late))), ((a 17), .inl (cI, 96, .inl (ia C_firstOf))), ((a 18), .inl (cI, 770, .inl (ia C_nextOf)))]) s.heap.size) := ⟨_, rfl⟩
  rw [← hQ]
  suffices hW : ∀ (H : Heap) (locs : List Loc), va_P D vwCl ([(o_C a C_size), ((a 12), .inl (cI, 770, .inl (ia C_elements))), ((a 13), .inl (cI, 770, .inl (ia C_parent))), ((a 14), .inl (cI, 770, .inl (ia C_length))), ((a 15), .inl (cI, 770, .inl (ia C_early))), ((a 16), .inl (cI, 770, .inl (ia C_late))), ((a 17), .inl (cI, 96, .inl (ia C_firstOf))), ((a 18), .inl (cI, 770, .inl (ia C_nextOf)))]) H → va_D A ([(o_C a C_size), ((a 12), .inl (cI, 770, .inl (ia C_elements))), ((a 13), .inl (cI, 770, .inl (ia C_parent))), ((a 14), .inl (cI, 770, .inl (ia C_length))), ((a 15), .inl (cI, 770, .inl (ia C_early))), ((a 16), .inl (cI, 770, .inl (ia C_late))), ((a 17), .inl (cI, 96, .inl (ia C_firstOf))), ((a 18), .inl (cI, 770, .inl (ia C_nextOf)))]) → va_S A s.heap H locs → W p l e (headSpec w_ClockWays_grow rm_ClockWays_grow).room s m args below meth c H locs 0 0 Q (F0 m 0 ls []) from hW s.heap [] hP hD hS
  clear hP hD hS
  intro H locs hP hD hS
  rw [f_ClockWays_grow] at h
  refine lv_aload_n hx hb d_ClockWays_grow_0 rfl (lv_at hl 0 rfl) ?_
  refine va_get (D := D) (ci := 4) (v := .int (iI C_size)) (C := R_ClockWays) (T := F_ClockWays) (N := 17) hx hb hT in_ClockWays hown hK hP 0 rfl rfl 4 (by decide) (hT _ m198) (fun _ h9 => h9) rfl d_ClockWays_grow_1 ?_
  refine lv_sipush (v := iI 770) hx hb d_ClockWays_grow_4 (by decide) ?_
  obtain ⟨hg0, h⟩ := gr_e h
  refine zc_lt hx hb d_ClockWays_grow_7 rfl hg0 (by decide) (fun hc => ?_) (fun hc => ?_)
  · replace h := if_t hc h
    refine lv_aload_n hx hb d_ClockWays_grow_11 rfl (lv_at hl 0 rfl) ?_
    refine va_get (D := D) (ci := 4) (v := .ref (a 12)) (C := R_ClockWays) (T := F_ClockWays) (N := 17) hx hb hT in_ClockWays hown hK hP 0 rfl rfl 5 (by decide) (hT _ m199) (fun _ h9 => h9) rfl d_ClockWays_grow_12 ?_
    refine lv_aload_n hx hb d_ClockWays_grow_15 rfl (lv_at hl 0 rfl) ?_
    refine va_get (D := D) (ci := 4) (v := .int (iI C_size)) (C := R_ClockWays) (T := F_ClockWays) (N := 17) hx hb hT in_ClockWays hown hK hP 0 rfl rfl 4 (by decide) (hT _ m198) (fun _ h9 => h9) rfl d_ClockWays_grow_16 ?_
    refine lv_iload_n hx hb d_ClockWays_grow_19 rfl (lv_at hl 2 rfl) ?_
    obtain ⟨hin, h⟩ := gi_e h
    refine zv_iast hx hb hK hP hD hS 1 0 rfl rfl (Nat.le_of_ble_eq_true rfl) hin d_ClockWays_grow_20 (fun H locs hP hD hS => ?_)
    obtain ⟨C_elements_1, hv⟩ : ∃ z, z = (ui C_elements C_size x2) := ⟨_, rfl⟩
    replace h := bd_e hv h
    have hP : va_P D vwCl [(o_C a C_size), ((a 12), .inl (cI, 770, .inl (ia C_elements_1))), ((a 13), .inl (cI, 770, .inl (ia C_parent))), ((a 14), .inl (cI, 770, .inl (ia C_length))), ((a 15), .inl (cI, 770, .inl (ia C_early))), ((a 16), .inl (cI, 770, .inl (ia C_late))), ((a 17), .inl (cI, 96, .inl (ia C_firstOf))), ((a 18), .inl (cI, 770, .inl (ia C_nextOf)))] H := by rw [hv]; exact hP
    have hD : va_D A [(o_C a C_size), ((a 12), .inl (cI, 770, .inl (ia C_elements_1))), ((a 13), .inl (cI, 770, .inl (ia C_parent))), ((a 14), .inl (cI, 770, .inl (ia C_length))), ((a 15), .inl (cI, 770, .inl (ia C_early))), ((a 16), .inl (cI, 770, .inl (ia C_late))), ((a 17), .inl (cI, 96, .inl (ia C_firstOf))), ((a 18), .inl (cI, 770, .inl (ia C_nextOf)))] := by rw [hv]; exact hD
    refine lv_aload_n hx hb d_ClockWays_grow_21 rfl (lv_at hl 0 rfl) ?_
    refine va_get (D := D) (ci := 4) (v := .ref (a 13)) (C := R_ClockWays) (T := F_ClockWays) (N := 17) hx hb hT in_ClockWays hown hK hP 0 rfl rfl 6 (by decide) (hT _ m200) (fun _ h9 => h9) rfl d_ClockWays_grow_22 ?_
    refine lv_aload_n hx hb d_ClockWays_grow_25 rfl (lv_at hl 0 rfl) ?_
    refine va_get (D := D) (ci := 4) (v := .int (iI C_size)) (C := R_ClockWays) (T := F_ClockWays) (N := 17) hx hb hT in_ClockWays hown hK hP 0 rfl rfl 4 (by decide) (hT _ m198) (fun _ h9 => h9) rfl d_ClockWays_grow_26 ?_
    refine lv_iload_n hx hb d_ClockWays_grow_29 rfl (lv_at hl 3 rfl) ?_
    obtain ⟨hin, h⟩ := gi_e h
    refine zv_iast hx hb hK hP hD hS 2 0 rfl rfl (Nat.le_of_ble_eq_true rfl) hin d_ClockWays_grow_30 (fun H locs hP hD hS => ?_)
    obtain ⟨C_parent_2, hv⟩ : ∃ z, z = (ui C_parent C_size x3) := ⟨_, rfl⟩
    replace h := bd_e hv h
    have hP : va_P D vwCl [(o_C a C_size), ((a 12), .inl (cI, 770, .inl (ia C_elements_1))), ((a 13), .inl (cI, 770, .inl (ia C_parent_2))), ((a 14), .inl (cI, 770, .inl (ia C_length))), ((a 15), .inl (cI, 770, .inl (ia C_early))), ((a 16), .inl (cI, 770, .inl (ia C_late))), ((a 17), .inl (cI, 96, .inl (ia C_firstOf))), ((a 18), .inl (cI, 770, .inl (ia C_nextOf)))] H := by rw [hv]; exact hP
    have hD : va_D A [(o_C a C_size), ((a 12), .inl (cI, 770, .inl (ia C_elements_1))), ((a 13), .inl (cI, 770, .inl (ia C_parent_2))), ((a 14), .inl (cI, 770, .inl (ia C_length))), ((a 15), .inl (cI, 770, .inl (ia C_early))), ((a 16), .inl (cI, 770, .inl (ia C_late))), ((a 17), .inl (cI, 96, .inl (ia C_firstOf))), ((a 18), .inl (cI, 770, .inl (ia C_nextOf)))] := by rw [hv]; exact hD
    refine lv_aload_n hx hb d_ClockWays_grow_31 rfl (lv_at hl 0 rfl) ?_
    refine va_get (D := D) (ci := 4) (v := .ref (a 14)) (C := R_ClockWays) (T := F_ClockWays) (N := 17) hx hb hT in_ClockWays hown hK hP 0 rfl rfl 7 (by decide) (hT _ m201) (fun _ h9 => h9) rfl d_ClockWays_grow_32 ?_
    refine lv_aload_n hx hb d_ClockWays_grow_35 rfl (lv_at hl 0 rfl) ?_
    refine va_get (D := D) (ci := 4) (v := .int (iI C_size)) (C := R_ClockWays) (T := F_ClockWays) (N := 17) hx hb hT in_ClockWays hown hK hP 0 rfl rfl 4 (by decide) (hT _ m198) (fun _ h9 => h9) rfl d_ClockWays_grow_36 ?_
    refine lv_iload_n hx hb d_ClockWays_grow_39 rfl (lv_at hl 3 rfl) ?_
    have hj55 : ∀ (q2 : Int) (H : Heap) (locs : List Loc) (ls : Array Slot), va_P D vwCl [(o_C a C_size), ((a 12), .inl (cI, 770, .inl (ia C_elements_1))), ((a 13), .inl (cI, 770, .inl (ia C_parent_2))), ((a 14), .inl (cI, 770, .inl (ia C_length))), ((a 15), .inl (cI, 770, .inl (ia C_early))), ((a 16), .inl (cI, 770, .inl (ia C_late))), ((a 17), .inl (cI, 96, .inl (ia C_firstOf))), ((a 18), .inl (cI, 770, .inl (ia C_nextOf)))] H → va_D A [(o_C a C_size), ((a 12), .inl (cI, 770, .inl (ia C_elements_1))), ((a 13), .inl (cI, 770, .inl (ia C_parent_2))), ((a 14), .inl (cI, 770, .inl (ia C_length))), ((a 15), .inl (cI, 770, .inl (ia C_early))), ((a 16), .inl (cI, 770, .inl (ia C_late))), ((a 17), .inl (cI, 96, .inl (ia C_firstOf))), ((a 18), .inl (cI, 770, .inl (ia C_nextOf)))] → va_S A s.heap H locs → lv_has ls 6 [(0, .ref (a 10)), (1, .int (iI x1)), (4, .int (iI x4)), (5, .int (iI x5))] → f_ClockWays_grow_j55 F C_size C_length C_early C_late C_firstOf C_nextOf x1 x4 x5 C_elements_1 C_parent_2 q2 = some (z_C_size, z_C_elements, z_C_parent, z_C_length, z_C_early, z_C_late, z_C_firstOf, z_C_nextOf) → W p l e (headSpec w_ClockWays_grow rm_ClockWays_grow).room s m args below meth c H locs 0 0 Q (F0 m 55 ls [.int (iI q2), .int (iI C_size), .ref (a 14)]) := by
      intro q2 H locs ls hP hD hS hl h
      rw [f_ClockWays_grow_j55] at h
      obtain ⟨hin, h⟩ := gi_e h
      refine zv_iast hx hb hK hP hD hS 3 0 rfl rfl (Nat.le_of_ble_eq_true rfl) hin d_ClockWays_grow_55 (fun H locs hP hD hS => ?_)
      obtain ⟨C_length_3, hv⟩ : ∃ z, z = (ui C_length C_size q2) := ⟨_, rfl⟩
      replace h := bd_e hv h
      have hP : va_P D vwCl [(o_C a C_size), ((a 12), .inl (cI, 770, .inl (ia C_elements_1))), ((a 13), .inl (cI, 770, .inl (ia C_parent_2))), ((a 14), .inl (cI, 770, .inl (ia C_length_3))), ((a 15), .inl (cI, 770, .inl (ia C_early))), ((a 16), .inl (cI, 770, .inl (ia C_late))), ((a 17), .inl (cI, 96, .inl (ia C_firstOf))), ((a 18), .inl (cI, 770, .inl (ia C_nextOf)))] H := by rw [hv]; exact hP
      have hD : va_D A [(o_C a C_size), ((a 12), .inl (cI, 770, .inl (ia C_elements_1))), ((a 13), .inl (cI, 770, .inl (ia C_parent_2))), ((a 14), .inl (cI, 770, .inl (ia C_length_3))), ((a 15), .inl (cI, 770, .inl (ia C_early))), ((a 16), .inl (cI, 770, .inl (ia C_late))), ((a 17), .inl (cI, 96, .inl (ia C_firstOf))), ((a 18), .inl (cI, 770, .inl (ia C_nextOf)))] := by rw [hv]; exact hD
      refine lv_aload_n hx hb d_ClockWays_grow_56 rfl (lv_at hl 0 rfl) ?_
      refine va_get (D := D) (ci := 4) (v := .ref (a 15)) (C := R_ClockWays) (T := F_ClockWays) (N := 17) hx hb hT in_ClockWays hown hK hP 0 rfl rfl 8 (by decide) (hT _ m202) (fun _ h9 => h9) rfl d_ClockWays_grow_57 ?_
      refine lv_aload_n hx hb d_ClockWays_grow_60 rfl (lv_at hl 0 rfl) ?_
      refine va_get (D := D) (ci := 4) (v := .int (iI C_size)) (C := R_ClockWays) (T := F_ClockWays) (N := 17) hx hb hT in_ClockWays hown hK hP 0 rfl rfl 4 (by decide) (hT _ m198) (fun _ h9 => h9) rfl d_ClockWays_grow_61 ?_
      refine lv_iload hx hb d_ClockWays_grow_64 (lv_at hl 2 rfl) ?_
      obtain ⟨hin, h⟩ := gi_e h
      refine zv_iast hx hb hK hP hD hS 4 0 rfl rfl (Nat.le_of_ble_eq_true rfl) hin d_ClockWays_grow_66 (fun H locs hP hD hS => ?_)
      obtain ⟨C_early_4, hv⟩ : ∃ z, z = (ui C_early C_size x4) := ⟨_, rfl⟩
      replace h := bd_e hv h
      have hP : va_P D vwCl [(o_C a C_size), ((a 12), .inl (cI, 770, .inl (ia C_elements_1))), ((a 13), .inl (cI, 770, .inl (ia C_parent_2))), ((a 14), .inl (cI, 770, .inl (ia C_length_3))), ((a 15), .inl (cI, 770, .inl (ia C_early_4))), ((a 16), .inl (cI, 770, .inl (ia C_late))), ((a 17), .inl (cI, 96, .inl (ia C_firstOf))), ((a 18), .inl (cI, 770, .inl (ia C_nextOf)))] H := by rw [hv]; exact hP
      have hD : va_D A [(o_C a C_size), ((a 12), .inl (cI, 770, .inl (ia C_elements_1))), ((a 13), .inl (cI, 770, .inl (ia C_parent_2))), ((a 14), .inl (cI, 770, .inl (ia C_length_3))), ((a 15), .inl (cI, 770, .inl (ia C_early_4))), ((a 16), .inl (cI, 770, .inl (ia C_late))), ((a 17), .inl (cI, 96, .inl (ia C_firstOf))), ((a 18), .inl (cI, 770, .inl (ia C_nextOf)))] := by rw [hv]; exact hD
      refine lv_aload_n hx hb d_ClockWays_grow_67 rfl (lv_at hl 0 rfl) ?_
      refine va_get (D := D) (ci := 4) (v := .ref (a 16)) (C := R_ClockWays) (T := F_ClockWays) (N := 17) hx hb hT in_ClockWays hown hK hP 0 rfl rfl 9 (by decide) (hT _ m203) (fun _ h9 => h9) rfl d_ClockWays_grow_68 ?_
      refine lv_aload_n hx hb d_ClockWays_grow_71 rfl (lv_at hl 0 rfl) ?_
      refine va_get (D := D) (ci := 4) (v := .int (iI C_size)) (C := R_ClockWays) (T := F_ClockWays) (N := 17) hx hb hT in_ClockWays hown hK hP 0 rfl rfl 4 (by decide) (hT _ m198) (fun _ h9 => h9) rfl d_ClockWays_grow_72 ?_
      refine lv_iload hx hb d_ClockWays_grow_75 (lv_at hl 3 rfl) ?_
      obtain ⟨hin, h⟩ := gi_e h
      refine zv_iast hx hb hK hP hD hS 5 0 rfl rfl (Nat.le_of_ble_eq_true rfl) hin d_ClockWays_grow_77 (fun H locs hP hD hS => ?_)
      obtain ⟨C_late_5, hv⟩ : ∃ z, z = (ui C_late C_size x5) := ⟨_, rfl⟩
      replace h := bd_e hv h
      have hP : va_P D vwCl [(o_C a C_size), ((a 12), .inl (cI, 770, .inl (ia C_elements_1))), ((a 13), .inl (cI, 770, .inl (ia C_parent_2))), ((a 14), .inl (cI, 770, .inl (ia C_length_3))), ((a 15), .inl (cI, 770, .inl (ia C_early_4))), ((a 16), .inl (cI, 770, .inl (ia C_late_5))), ((a 17), .inl (cI, 96, .inl (ia C_firstOf))), ((a 18), .inl (cI, 770, .inl (ia C_nextOf)))] H := by rw [hv]; exact hP
      have hD : va_D A [(o_C a C_size), ((a 12), .inl (cI, 770, .inl (ia C_elements_1))), ((a 13), .inl (cI, 770, .inl (ia C_parent_2))), ((a 14), .inl (cI, 770, .inl (ia C_length_3))), ((a 15), .inl (cI, 770, .inl (ia C_early_4))), ((a 16), .inl (cI, 770, .inl (ia C_late_5))), ((a 17), .inl (cI, 96, .inl (ia C_firstOf))), ((a 18), .inl (cI, 770, .inl (ia C_nextOf)))] := by rw [hv]; exact hD
      refine lv_aload_n hx hb d_ClockWays_grow_78 rfl (lv_at hl 0 rfl) ?_
      refine va_get (D := D) (ci := 4) (v := .ref (a 18)) (C := R_ClockWays) (T := F_ClockWays) (N := 17) hx hb hT in_ClockWays hown hK hP 0 rfl rfl 11 (by decide) (hT _ m205) (fun _ h9 => h9) rfl d_ClockWays_grow_79 ?_
      refine lv_aload_n hx hb d_ClockWays_grow_82 rfl (lv_at hl 0 rfl) ?_
      refine va_get (D := D) (ci := 4) (v := .int (iI C_size)) (C := R_ClockWays) (T := F_ClockWays) (N := 17) hx hb hT in_ClockWays hown hK hP 0 rfl rfl 4 (by decide) (hT _ m198) (fun _ h9 => h9) rfl d_ClockWays_grow_83 ?_
      refine lv_aload_n hx hb d_ClockWays_grow_86 rfl (lv_at hl 0 rfl) ?_
      refine va_get (D := D) (ci := 4) (v := .ref (a 17)) (C := R_ClockWays) (T := F_ClockWays) (N := 17) hx hb hT in_ClockWays hown hK hP 0 rfl rfl 10 (by decide) (hT _ m204) (fun _ h9 => h9) rfl d_ClockWays_grow_87 ?_
      refine lv_iload_n hx hb d_ClockWays_grow_90 rfl (lv_at hl 1 rfl) ?_
      obtain ⟨hin, h⟩ := gi_e h
      refine zv_iald hx hb hK hP 6 0 rfl rfl (Nat.le_of_ble_eq_true rfl) hin d_ClockWays_grow_91 ?_
      obtain ⟨hin, h⟩ := gi_e h
      refine zv_iast hx hb hK hP hD hS 7 0 rfl rfl (Nat.le_of_ble_eq_true rfl) hin d_ClockWays_grow_92 (fun H locs hP hD hS => ?_)
      obtain ⟨C_nextOf_6, hv⟩ : ∃ z, z = (ui C_nextOf C_size (C_firstOf x1)) := ⟨_, rfl⟩
      replace h := bd_e hv h
      have hP : va_P D vwCl [(o_C a C_size), ((a 12), .inl (cI, 770, .inl (ia C_elements_1))), ((a 13), .inl (cI, 770, .inl (ia C_parent_2))), ((a 14), .inl (cI, 770, .inl (ia C_length_3))), ((a 15), .inl (cI, 770, .inl (ia C_early_4))), ((a 16), .inl (cI, 770, .inl (ia C_late_5))), ((a 17), .inl (cI, 96, .inl (ia C_firstOf))), ((a 18), .inl (cI, 770, .inl (ia C_nextOf_6)))] H := by rw [hv]; exact hP
      have hD : va_D A [(o_C a C_size), ((a 12), .inl (cI, 770, .inl (ia C_elements_1))), ((a 13), .inl (cI, 770, .inl (ia C_parent_2))), ((a 14), .inl (cI, 770, .inl (ia C_length_3))), ((a 15), .inl (cI, 770, .inl (ia C_early_4))), ((a 16), .inl (cI, 770, .inl (ia C_late_5))), ((a 17), .inl (cI, 96, .inl (ia C_firstOf))), ((a 18), .inl (cI, 770, .inl (ia C_nextOf_6)))] := by rw [hv]; exact hD
      refine lv_aload_n hx hb d_ClockWays_grow_93 rfl (lv_at hl 0 rfl) ?_
      refine va_get (D := D) (ci := 4) (v := .ref (a 17)) (C := R_ClockWays) (T := F_ClockWays) (N := 17) hx hb hT in_ClockWays hown hK hP 0 rfl rfl 10 (by decide) (hT _ m204) (fun _ h9 => h9) rfl d_ClockWays_grow_94 ?_
      refine lv_iload_n hx hb d_ClockWays_grow_97 rfl (lv_at hl 1 rfl) ?_
      refine lv_aload_n hx hb d_ClockWays_grow_98 rfl (lv_at hl 0 rfl) ?_
      refine va_get (D := D) (ci := 4) (v := .int (iI C_size)) (C := R_ClockWays) (T := F_ClockWays) (N := 17) hx hb hT in_ClockWays hown hK hP 0 rfl rfl 4 (by decide) (hT _ m198) (fun _ h9 => h9) rfl d_ClockWays_grow_99 ?_
      obtain ⟨hin, h⟩ := gi_e h
      refine zv_iast hx hb hK hP hD hS 6 0 rfl rfl (Nat.le_of_ble_eq_true rfl) hin d_ClockWays_grow_102 (fun H locs hP hD hS => ?_)
      obtain ⟨C_firstOf_7, hv⟩ : ∃ z, z = (ui C_firstOf x1 C_size) := ⟨_, rfl⟩
      replace h := bd_e hv h
      have hP : va_P D vwCl [(o_C a C_size), ((a 12), .inl (cI, 770, .inl (ia C_elements_1))), ((a 13), .inl (cI, 770, .inl (ia C_parent_2))), ((a 14), .inl (cI, 770, .inl (ia C_length_3))), ((a 15), .inl (cI, 770, .inl (ia C_early_4))), ((a 16), .inl (cI, 770, .inl (ia C_late_5))), ((a 17), .inl (cI, 96, .inl (ia C_firstOf_7))), ((a 18), .inl (cI, 770, .inl (ia C_nextOf_6)))] H := by rw [hv]; exact hP
      have hD : va_D A [(o_C a C_size), ((a 12), .inl (cI, 770, .inl (ia C_elements_1))), ((a 13), .inl (cI, 770, .inl (ia C_parent_2))), ((a 14), .inl (cI, 770, .inl (ia C_length_3))), ((a 15), .inl (cI, 770, .inl (ia C_early_4))), ((a 16), .inl (cI, 770, .inl (ia C_late_5))), ((a 17), .inl (cI, 96, .inl (ia C_firstOf_7))), ((a 18), .inl (cI, 770, .inl (ia C_nextOf_6)))] := by rw [hv]; exact hD
      refine lv_aload_n hx hb d_ClockWays_grow_103 rfl (lv_at hl 0 rfl) ?_
      refine lv_dup hx hb d_ClockWays_grow_104 rfl ?_
      refine va_get (D := D) (ci := 4) (v := .int (iI C_size)) (C := R_ClockWays) (T := F_ClockWays) (N := 17) hx hb hT in_ClockWays hown hK hP 0 rfl rfl 4 (by decide) (hT _ m198) (fun _ h9 => h9) rfl d_ClockWays_grow_105 ?_
      refine zv_iconst hx hb d_ClockWays_grow_108 ?_
      refine zv_iadd hx hb d_ClockWays_grow_109 ?_
      refine va_put (D := D) (ci := 4) (v := .int (iI (C_size + 1))) (ty := .int) (C := R_ClockWays) (T := F_ClockWays) (N := 17) hx hb hT in_ClockWays ty_ClockWays ty_ClockWays_ok n_ClockWays hown hK hP hD hS 0 rfl rfl 4 (by decide) (hT _ m198) (fun _ h9 => h9) rfl (by decide +kernel) rfl rfl (Nat.le_of_ble_eq_true rfl) d_ClockWays_grow_110 (fun H locs hP hD hS => ?_)
      have hP : va_P D vwCl [(o_C a (C_size + 1)), ((a 12), .inl (cI, 770, .inl (ia C_elements_1))), ((a 13), .inl (cI, 770, .inl (ia C_parent_2))), ((a 14), .inl (cI, 770, .inl (ia C_length_3))), ((a 15), .inl (cI, 770, .inl (ia C_early_4))), ((a 16), .inl (cI, 770, .inl (ia C_late_5))), ((a 17), .inl (cI, 96, .inl (ia C_firstOf_7))), ((a 18), .inl (cI, 770, .inl (ia C_nextOf_6)))] H := hP
      have hD : va_D A [(o_C a (C_size + 1)), ((a 12), .inl (cI, 770, .inl (ia C_elements_1))), ((a 13), .inl (cI, 770, .inl (ia C_parent_2))), ((a 14), .inl (cI, 770, .inl (ia C_length_3))), ((a 15), .inl (cI, 770, .inl (ia C_early_4))), ((a 16), .inl (cI, 770, .inl (ia C_late_5))), ((a 17), .inl (cI, 96, .inl (ia C_firstOf_7))), ((a 18), .inl (cI, 770, .inl (ia C_nextOf_6)))] := hD
      obtain ⟨e1, e2, e3, e4, e5, e6, e7, e8⟩ := so8 h
      rw [hQ, e1, e2, e3, e4, e5, e6, e7, e8]; rw [hAe] at hD hS; exact W.vret hx hb hr (fun t ht hW => ⟨⟨(), rfl, trivial, by rw [ht]; exact hP, va_K.moved hW.alike hK, hD⟩, hS.F ht⟩) hS.2.2 d_ClockWays_grow_113
    obtain ⟨hg0, h⟩ := gr_e h
    refine zi_ge hx hb d_ClockWays_grow_40 rfl hg0 (fun hc => ?_) (fun hc => ?_)
    · replace h := if_t hc h
      refine lv_aload_n hx hb d_ClockWays_grow_47 rfl (lv_at hl 0 rfl) ?_
      refine va_get (D := D) (ci := 4) (v := .ref (a 14)) (C := R_ClockWays) (T := F_ClockWays) (N := 17) hx hb hT in_ClockWays hown hK hP 0 rfl rfl 7 (by decide) (hT _ m201) (fun _ h9 => h9) rfl d_ClockWays_grow_48 ?_
      refine lv_iload_n hx hb d_ClockWays_grow_51 rfl (lv_at hl 3 rfl) ?_
      obtain ⟨hin, h⟩ := gi_e h
      refine zv_iald hx hb hK hP 3 0 rfl rfl (Nat.le_of_ble_eq_true rfl) hin d_ClockWays_grow_52 ?_
      refine zv_iconst hx hb d_ClockWays_grow_53 ?_
      refine zv_iadd hx hb d_ClockWays_grow_54 ?_
      exact hj55 ((C_length x3) + 1) H locs ls hP hD hS (lv_sub hl [0, 1, 4, 5] rfl) h
    · replace h := if_f hc h
      refine zv_iconst hx hb d_ClockWays_grow_43 ?_
      refine lv_goto hx hb d_ClockWays_grow_44 rfl ?_
      exact hj55 1 H locs ls hP hD hS (lv_sub hl [0, 1, 4, 5] rfl) h
  · replace h := if_f hc h
    obtain ⟨e1, e2, e3, e4, e5, e6, e7, e8⟩ := so8 h
    rw [hQ, e1, e2, e3, e4, e5, e6, e7, e8]; rw [hAe] at hD hS; exact W.vret hx hb hr (fun t ht hW => ⟨⟨(), rfl, trivial, by rw [ht]; exact hP, va_K.moved hW.alike hK, hD⟩, hS.F ht⟩) hS.2.2 d_ClockWays_grow_10
abbrev rm_ClockWays_growBy : Room := { frames := 1, cells := 0, slots := 0, locals := 25 }
set_option maxHeartbeats 4000000 in
set_option maxRecDepth 100000 in
theorem c_ClockWays_growBy (l : Launch) (D : va_G) (cI cJ cZ : ClassId) (F : Nat) (a : Nat → Nat) (C_size : Int) (C_needed : Int → Int) (C_elements : Int → Int) (C_parent : Int → Int) (C_length : Int → Int) (C_early : Int → Int) (C_late : Int → Int) (C_firstOf : Int → Int) (C_nextOf : Int → Int) (N_period : Int) (N_width : Int) (N_size : Int) (N_source : Int → Int) (N_wireEarly : Int → Int) (N_wireLate : Int → Int) (N_senses : Int → Int) (N_gateEarly : Int → Int) (N_gateLate : Int → Int) (x1 : Int) (x2 : Int) (x3 : Int) (z_C_size : Int) (z_C_elements : Int → Int) (z_C_parent : Int → Int) (z_C_length : Int → Int) (z_C_early : Int → Int) (z_C_late : Int → Int) (z_C_firstOf : Int → Int) (z_C_nextOf : Int → Int) (sz : Nat) (h : f_ClockWays_growBy F C_size C_needed C_elements C_parent C_length C_early C_late C_firstOf C_nextOf N_source N_wireEarly N_wireLate N_senses N_gateEarly N_gateLate x1 x2 x3 = some (z_C_size, z_C_elements, z_C_parent, z_C_length, z_C_early, z_C_late, z_C_firstOf, z_C_nextOf)) : Met l y_ClockWays_growBy w_ClockWays_growBy rm_ClockWays_growBy (PC D [(cI, .int), (cJ, .long), (cZ, .boolean)] [.ref (a 10), .int (iI x1), .int (iI x2), .int (iI x3)] ([(o_C a C_size), ((a 11), .inl (cZ, 96, .inl (ia C_needed))), ((a 12), .inl (cI, 770, .inl (ia C_elements))), ((a 13), .inl (cI, 770, .inl (ia C_parent))), ((a 14), .inl (cI, 770, .inl (ia C_length))), ((a 15), .inl (cI, 770, .inl (ia C_early))), ((a 16), .inl (cI, 770, .inl (ia C_late))), ((a 17), .inl (cI, 96, .inl (ia C_firstOf))), ((a 18), .inl (cI, 770, .inl (ia C_nextOf))), (o_N a N_period N_width N_size), ((a 46), .inl (cI, 144, .inl (ia N_source))), ((a 47), .inl (cI, 144, .inl (ia N_wireEarly))), ((a 48), .inl (cI, 144, .inl (ia N_wireLate))), ((a 49), .inl (cI, 144, .inl (ia N_senses))), ((a 50), .inl (cI, 288, .inl (ia N_gateEarly))), ((a 51), .inl (cI, 288, .inl (ia N_gateLate)))]) sz) (QV D [(cI, .int), (cJ, .long), (cZ, .boolean)] ([(o_C a C_size), ((a 11), .inl (cZ, 96, .inl (ia C_needed))), ((a 12), .inl (cI, 770, .inl (ia C_elements))), ((a 13), .inl (cI, 770, .inl (ia C_parent))), ((a 14), .inl (cI, 770, .inl (ia C_length))), ((a 15), .inl (cI, 770, .inl (ia C_early))), ((a 16), .inl (cI, 770, .inl (ia C_late))), ((a 17), .inl (cI, 96, .inl (ia C_firstOf))), ((a 18), .inl (cI, 770, .inl (ia C_nextOf))), (o_N a N_period N_width N_size), ((a 46), .inl (cI, 144, .inl (ia N_source))), ((a 47), .inl (cI, 144, .inl (ia N_wireEarly))), ((a 48), .inl (cI, 144, .inl (ia N_wireLate))), ((a 49), .inl (cI, 144, .inl (ia N_senses))), ((a 50), .inl (cI, 288, .inl (ia N_gateEarly))), ((a 51), .inl (cI, 288, .inl (ia N_gateLate)))]) sz ([(o_C a z_C_size), ((a 11), .inl (cZ, 96, .inl (ia C_needed))), ((a 12), .inl (cI, 770, .inl (ia z_C_elements))), ((a 13), .inl (cI, 770, .inl (ia z_C_parent))), ((a 14), .inl (cI, 770, .inl (ia z_C_length))), ((a 15), .inl (cI, 770, .inl (ia z_C_early))), ((a 16), .inl (cI, 770, .inl (ia z_C_late))), ((a 17), .inl (cI, 96, .inl (ia z_C_firstOf))), ((a 18), .inl (cI, 770, .inl (ia z_C_nextOf))), (o_N a N_period N_width N_size), ((a 46), .inl (cI, 144, .inl (ia N_source))), ((a 47), .inl (cI, 144, .inl (ia N_wireEarly))), ((a 48), .inl (cI, 144, .inl (ia N_wireLate))), ((a 49), .inl (cI, 144, .inl (ia N_senses))), ((a 50), .inl (cI, 288, .inl (ia N_gateEarly))), ((a 51), .inl (cI, 288, .inl (ia N_gateLate)))])) 0 0 (va_A ([(o_C a C_size), ((a 11), .inl (cZ, 96, .inl (ia C_needed))), ((a 12), .inl (cI, 770, .inl (ia C_elements))), ((a 13), .inl (cI, 770, .inl (ia C_parent))), ((a 14), .inl (cI, 770, .inl (ia C_length))), ((a 15), .inl (cI, 770, .inl (ia C_early))), ((a 16), .inl (cI, 770, .inl (ia C_late))), ((a 17), .inl (cI, 96, .inl (ia C_firstOf))), ((a 18), .inl (cI, 770, .inl (ia C_nextOf))), (o_N a N_period N_width N_size), ((a 46), .inl (cI, 144, .inl (ia N_source))), ((a 47), .inl (cI, 144, .inl (ia N_wireEarly))), ((a 48), .inl (cI, 144, .inl (ia N_wireLate))), ((a 49), .inl (cI, 144, .inl (ia N_senses))), ((a 50), .inl (cI, 288, .inl (ia N_gateEarly))), ((a 51), .inl (cI, 288, .inl (ia N_gateLate)))]) sz) := by
  refine Met.ofW (cc := prog_3_method_11_code) (maxL := 10) (ret := (Option.none : Option Jvm.ClassFile.FieldType)) (by decide) rfl ?_
  intro p e s m args below meth c s₁ B hml hv
  obtain ⟨rfl, hsz, hP, hK, hD0, hN⟩ := hv
  have hx := B.exec
  have hb := B.bytes
  have hr := B.returns
  have hts := atoms_spec (ws := w_ClockWays_growBy) B.pre
  have hown : s.vm.findClass R_ClockWays = some m.cls := findClass_of_methodNamed B.named
  have hlocks := B.notSynchronized
  subst hsz
  have hD := hD0.self (sz := s.heap.size)
  obtain ⟨A, hAe⟩ : ∃ A, A = va_A ([(o_C a C_size), ((a 11), .inl (cZ, 96, .inl (ia C_needed))), ((a 12), .inl (cI, 770, .inl (ia C_elements))), ((a 13), .inl (cI, 770, .inl (ia C_parent))), ((a 14), .inl (cI, 770, .inl (ia C_length))), ((a 15), .inl (cI, 770, .inl (ia C_early))), ((a 16), .inl (cI, 770, .inl (ia C_late))), ((a 17), .inl (cI, 96, .inl (ia C_firstOf))), ((a 18), .inl (cI, 770, .inl (ia C_nextOf))), (o_N a N_period N_width N_size), ((a 46), .inl (cI, 144, .inl (ia N_source))), ((a 47), .inl (cI, 144, .inl (ia N_wireEarly))), ((a 48), .inl (cI, 144, .inl (ia N_wireLate))), ((a 49), .inl (cI, 144, .inl (ia N_senses))), ((a 50), .inl (cI, 288, .inl (ia N_gateEarly))), ((a 51), .inl (cI, 288, .inl (ia N_gateLate)))]) s.heap.size := ⟨_, rfl⟩
  rw [← hAe] at hD
  have hA : ∀ q : Nat, s.heap.size ≤ q → A q := fun q h => by rw [hAe]; exact Or.inr h
  have hS : va_S A s.heap s.heap [] := va_S.rf
  have hl := lv_entry ([.ref (a 10), .int (iI x1), .int (iI x2), .int (iI x3)]) (n := 10) (Nat.le_of_ble_eq_true rfl)
  rw [lg_entry_eq]
  generalize (lg_sl ([.ref (a 10), .int (iI x1), .int (iI x2), .int (iI x3)]) ++ List.replicate (10 - (lg_sl ([.ref (a 10), .int (iI x1), .int (iI x2), .int (iI x3)])).length) Slot.unset).toArray = ls at hl ⊢
  have hl : lv_has ls 10 [(0, .ref (a 10)), (1, .int (iI x1)), (2, .int (iI x2)), (3, .int (iI x3))] := hl
  generalize (List.toArray ([.ref (a 10), .int (iI x1), .int (iI x2), .int (iI x3)] : List Value)) = args at hts ⊢
  have hT : ∀ w ∈ Tg, w.before args s = true := fun w h => hts w (List.mem_cons_of_mem _ h)
  obtain ⟨Q, hQ⟩ : ∃ Q, Q = MQ below (QV D [(cI, .int), (cJ, .long), (cZ, .boolean)] ([(o_C a C_size), ((a 11), .inl (cZ, 96, .inl (ia C_needed))), ((a 12), .inl (cI, 770, .inl (ia C_elements))), ((a 13), .inl (cI, 770, .inl (ia C_parent))), ((a 14), .inl (cI, 770, .inl (ia C_length))), ((a 15), .inl (cI, 770, .inl (ia C_early))), ((a 16), .inl (cI, 770, .inl (ia C_late))), ((a 17), .inl (cI, 96, .inl (ia C_firstOf))), ((a 18), .inl (cI, 770, .inl (ia C_nextOf))), (o_N a N_period N_width N_size), ((a 46), .inl (cI, 144, .inl (ia N_source))), ((a 47), .inl (cI, 144, .inl (ia N_wireEarly))), ((a 48), .inl (cI, 144, .inl (ia N_wireLate))), ((a 49), .inl (cI, 144, .inl (ia N_senses))), ((a 50), .inl (cI, 288, .inl (ia N_gateEarly))), ((a 51), .inl (cI, 288, .inl (ia N_gateLate)))]) s.heap.size ([(o_C a z_C_size), ((a 11), .inl (cZ, 96, .inl (ia C_needed))), ((a 12), .inl (cI, 770, .inl (ia z_C_elements))), ((a 13), .inl (cI, 770, .inl (ia z_C_parent))), ((a 14), .inl (cI, 770, .inl (ia z_C_length))), ((a 15), .inl (cI, 770, .inl (ia z_C_early))), ((a 16), .inl (cI, 770, .inl (ia z_C_late))), ((a 17), .inl (cI, 96, .inl (ia z_C_firstOf))), ((a 18), .inl (cI, 770, .inl (ia z_C_nextOf))), (o_N a N_period N_width N_size), ((a 46), .inl (cI, 144, .inl (ia N_source))), ((a 47), .inl (cI, 144, .inl (ia N_wireEarly))), ((a 48), .inl (cI, 144, .inl (ia N_wireLate))), ((a 49), .inl (cI, 144, .inl (ia N_senses))), ((a 50), .inl (cI, 288, .inl (ia N_gateEarly))), ((a 51), .inl (cI, 288, .inl (ia N_gateLate)))])) args s 0 0 (va_A ([(o_C a C_size), ((a 11), .inl (cZ, 96, .inl (ia C_needed))), ((a 12), .inl (cI, 770, .inl (ia C_elements))), ((a 13), .inl (cI, 770, .inl (ia C_parent))), ((a 14), .inl (cI, 770, .inl (ia C_length))), ((a 15), .inl (cI, 770, .inl (ia C_early))), ((a 16), .inl (cI, 770, .inl (ia C_late))), ((a 17), .inl (cI, 96, .inl (ia C_firstOf))), ((a 18), .inl (cI, 770, .inl (ia C_nextOf))), (o_N a N_period N_width N_size), ((a 46), .inl (cI, 144, .inl (ia N_source))), ((a 47), .inl (cI, 144, .inl (ia N_wireEarly))), ((a 48), .inl (cI, 144, .inl (ia N_wireLate))), ((a 49), .inl (cI, 144, .inl (ia N_senses))), ((a 50), .inl (cI, 288, .inl (ia N_gateEarly))), ((a 51), .inl (cI, 288, .inl (ia N_gateLate)))]) s.heap.size) := ⟨_, rfl⟩
  rw [← hQ]
  suffices hW : ∀ (H : Heap) (locs : List Loc), va_P D vwCl ([(o_C a C_size), ((a 11), .inl (cZ, 96, .inl (ia C_needed))), ((a 12), .inl (cI, 770, .inl (ia C_elements))), ((a 13), .inl (cI, 770, .inl (ia C_parent))), ((a 14), .inl (cI, 770, .inl (ia C_length))), ((a 15), .inl (cI, 770, .inl (ia C_early))), ((a 16), .inl (cI, 770, .inl (ia C_late))), ((a 17), .inl (cI, 96, .inl (ia C_firstOf))), ((a 18), .inl (cI, 770, .inl (ia C_nextOf))), (o_N a N_period N_width N_size), ((a 46), .inl (cI, 144, .inl (ia N_source))), ((a 47), .inl (cI, 144, .inl (ia N_wireEarly))), ((a 48), .inl (cI, 144, .inl (ia N_wireLate))), ((a 49), .inl (cI, 144, .inl (ia N_senses))), ((a 50), .inl (cI, 288, .inl (ia N_gateEarly))), ((a 51), .inl (cI, 288, .inl (ia N_gateLate)))]) H → va_D A ([(o_C a C_size), ((a 11), .inl (cZ, 96, .inl (ia C_needed))), ((a 12), .inl (cI, 770, .inl (ia C_elements))), ((a 13), .inl (cI, 770, .inl (ia C_parent))), ((a 14), .inl (cI, 770, .inl (ia C_length))), ((a 15), .inl (cI, 770, .inl (ia C_early))), ((a 16), .inl (cI, 770, .inl (ia C_late))), ((a 17), .inl (cI, 96, .inl (ia C_firstOf))), ((a 18), .inl (cI, 770, .inl (ia C_nextOf))), (o_N a N_period N_width N_size), ((a 46), .inl (cI, 144, .inl (ia N_source))), ((a 47), .inl (cI, 144, .inl (ia N_wireEarly))), ((a 48), .inl (cI, 144, .inl (ia N_wireLate))), ((a 49), .inl (cI, 144, .inl (ia N_senses))), ((a 50), .inl (cI, 288, .inl (ia N_gateEarly))), ((a 51), .inl (cI, 288, .inl (ia N_gateLate)))]) → va_S A s.heap H locs → W p l e (headSpec w_ClockWays_growBy rm_ClockWays_growBy).room s m args below meth c H locs 0 0 Q (F0 m 0 ls []) from hW s.heap [] hP hD hS
  clear hP hD hS
  intro H locs hP hD hS
  rw [f_ClockWays_growBy] at h
  refine lv_iload_n hx hb d_ClockWays_growBy_0 rfl (lv_at hl 1 rfl) ?_
  refine zv_iconst hx hb d_ClockWays_growBy_1 ?_
  refine zv_imul hx hb d_ClockWays_growBy_2 ?_
  refine lv_iload_n hx hb d_ClockWays_growBy_3 rfl (lv_at hl 2 rfl) ?_
  refine zv_iadd hx hb d_ClockWays_growBy_4 ?_
  refine zv_top (fun v4 hv => ?_)
  replace h := bd_e hv h
  refine lv_istore (lv' := [(4, .int (iI v4)), (0, .ref (a 10)), (1, .int (iI x1)), (2, .int (iI x2)), (3, .int (iI x3))]) hx hb d_ClockWays_growBy_5 hl (by decide) rfl (fun ls hl => ?_)
  refine lv_aload_n hx hb d_ClockWays_growBy_7 rfl (lv_at hl 1 rfl) ?_
  refine va_get (D := D) (ci := 4) (v := .ref (a 43)) (C := R_ClockWays) (T := F_ClockWays) (N := 17) hx hb hT in_ClockWays hown hK hP 0 rfl rfl 0 (by decide) (hT _ m194) (fun _ h9 => h9) rfl d_ClockWays_growBy_8 ?_
  refine va_get (D := D) (ci := 1) (v := .ref (a 46)) (C := R_Net) (T := F_Net) (N := 15) hx hb hT in_Net hown hK hP 9 rfl rfl 5 (by decide) (hT _ m66) (fun _ h9 => h9) rfl d_ClockWays_growBy_11 ?_
  refine lv_iload hx hb d_ClockWays_growBy_14 (lv_at hl 0 rfl) ?_
  obtain ⟨hin, h⟩ := gi_e h
  refine zv_iald hx hb hK hP 10 0 rfl rfl (Nat.le_of_ble_eq_true rfl) hin d_ClockWays_growBy_16 ?_
  obtain ⟨hg0, h⟩ := gr_e h
  refine zi_lt hx hb d_ClockWays_growBy_17 rfl hg0 (fun hc => ?_) (fun hc => ?_)
  · replace h := if_t hc h
    obtain ⟨e1, e2, e3, e4, e5, e6, e7, e8⟩ := so8 h
    rw [hQ, e1, e2, e3, e4, e5, e6, e7, e8]; rw [hAe] at hD hS; exact W.vret hx hb hr (fun t ht hW => ⟨⟨(), rfl, trivial, by rw [ht]; exact hP, va_K.moved hW.alike hK, hD⟩, hS.F ht⟩) hS.2.2 d_ClockWays_growBy_33
  · replace h := if_f hc h
    refine lv_aload_n hx hb d_ClockWays_growBy_20 rfl (lv_at hl 1 rfl) ?_
    refine va_get (D := D) (ci := 4) (v := .ref (a 11)) (C := R_ClockWays) (T := F_ClockWays) (N := 17) hx hb hT in_ClockWays hown hK hP 0 rfl rfl 3 (by decide) (hT _ m197) (fun _ h9 => h9) rfl d_ClockWays_growBy_21 ?_
    refine zv_iconst hx hb d_ClockWays_growBy_24 ?_
    refine lv_iload_n hx hb d_ClockWays_growBy_25 rfl (lv_at hl 2 rfl) ?_
    refine zv_imul hx hb d_ClockWays_growBy_26 ?_
    refine lv_iload_n hx hb d_ClockWays_growBy_27 rfl (lv_at hl 4 rfl) ?_
    refine zv_iadd hx hb d_ClockWays_growBy_28 ?_
    obtain ⟨hin, h⟩ := gi_e h
    refine zv_zald hx hb hK hP 1 2 rfl rfl (Nat.le_of_ble_eq_true rfl) hin d_ClockWays_growBy_29 ?_
    obtain ⟨hg0, h⟩ := gr_e h
    refine zi_ne hx hb d_ClockWays_growBy_30 rfl hg0 (fun hc => ?_) (fun hc => ?_)
    · replace h := if_f hc h
      refine lv_aload_n hx hb d_ClockWays_growBy_34 rfl (lv_at hl 1 rfl) ?_
      refine va_get (D := D) (ci := 4) (v := .ref (a 43)) (C := R_ClockWays) (T := F_ClockWays) (N := 17) hx hb hT in_ClockWays hown hK hP 0 rfl rfl 0 (by decide) (hT _ m194) (fun _ h9 => h9) rfl d_ClockWays_growBy_35 ?_
      refine lv_iload hx hb d_ClockWays_growBy_38 (lv_at hl 0 rfl) ?_
      refine lv_iload_n hx hb d_ClockWays_growBy_40 rfl (lv_at hl 4 rfl) ?_
      obtain ⟨r41, hcall, h⟩ := ob1_e h
      refine ro_i (va_Run.run (va_runV (As := [.int (iI v4), .int (iI x3)]) (rest := []) ⟨hx, hb, hml, hown, hts⟩ (c_Net_stepEarly l D cI cJ cZ F a N_period N_width N_size N_wireEarly N_gateEarly v4 x3 r41 H.size hcall) (cwV 2 hts (gd_V m513 m544 m511 m512 m2) rfl rfl rfl ⟨rfl, hc_Net_stepEarly⟩ ⟨Nat.le_of_ble_eq_true rfl, Nat.le_of_ble_eq_true rfl⟩) (pc_V 9 1 [.int (iI v4), .int (iI x3)] hP hK hD hN [9, 11, 14] rfl rfl rfl rfl rfl) rfl rfl hl.1 rfl (lv_room (Nat.le_of_ble_eq_true rfl)) d_ClockWays_growBy_41 ⟨Nat.le_refl 0, Nat.le_refl 0⟩)) (W.eq (g2 := F0 m 44 ls [.int (iI r41)]) rfl ?_)
      refine lv_istore (lv' := [(5, .int (iI r41)), (4, .int (iI v4)), (0, .ref (a 10)), (1, .int (iI x1)), (2, .int (iI x2)), (3, .int (iI x3))]) hx hb d_ClockWays_growBy_44 hl (by decide) rfl (fun ls hl => ?_)
      refine lv_aload_n hx hb d_ClockWays_growBy_46 rfl (lv_at hl 2 rfl) ?_
      refine va_get (D := D) (ci := 4) (v := .ref (a 43)) (C := R_ClockWays) (T := F_ClockWays) (N := 17) hx hb hT in_ClockWays hown hK hP 0 rfl rfl 0 (by decide) (hT _ m194) (fun _ h9 => h9) rfl d_ClockWays_growBy_47 ?_
      refine lv_iload hx hb d_ClockWays_growBy_50 (lv_at hl 1 rfl) ?_
      refine lv_iload_n hx hb d_ClockWays_growBy_52 rfl (lv_at hl 5 rfl) ?_
      obtain ⟨r53, hcall, h⟩ := ob1_e h
      refine ro_i (va_Run.run (va_runV (As := [.int (iI v4), .int (iI x3)]) (rest := []) ⟨hx, hb, hml, hown, hts⟩ (c_Net_stepLate l D cI cJ cZ F a N_period N_width N_size N_wireLate N_gateLate v4 x3 r53 H.size hcall) (cwV 2 hts (gd_V m517 m545 m515 m516 m2) rfl rfl rfl ⟨rfl, hc_Net_stepLate⟩ ⟨Nat.le_of_ble_eq_true rfl, Nat.le_of_ble_eq_true rfl⟩) (pc_V 9 1 [.int (iI v4), .int (iI x3)] hP hK hD hN [9, 12, 15] rfl rfl rfl rfl rfl) rfl rfl hl.1 rfl (lv_room (Nat.le_of_ble_eq_true rfl)) d_ClockWays_growBy_53 ⟨Nat.le_refl 0, Nat.le_refl 0⟩)) (W.eq (g2 := F0 m 56 ls [.int (iI r53)]) rfl ?_)
      refine lv_istore (lv' := [(6, .int (iI r53)), (5, .int (iI r41)), (4, .int (iI v4)), (0, .ref (a 10)), (1, .int (iI x1)), (2, .int (iI x2)), (3, .int (iI x3))]) hx hb d_ClockWays_growBy_56 hl (by decide) rfl (fun ls hl => ?_)
      refine zv_iconst hx hb d_ClockWays_growBy_58 ?_
      refine lv_istore (lv' := [(7, .int (iI 0)), (6, .int (iI r53)), (5, .int (iI r41)), (4, .int (iI v4)), (0, .ref (a 10)), (1, .int (iI x1)), (2, .int (iI x2)), (3, .int (iI x3))]) hx hb d_ClockWays_growBy_59 hl (by decide) rfl (fun ls hl => ?_)
      have hl61 : ∀ (nf : Nat) (v7 : Int) (C_size_1 : Int) (C_elements_2 : Int → Int) (C_parent_3 : Int → Int) (C_length_4 : Int → Int) (C_early_5 : Int → Int) (C_late_6 : Int → Int) (C_firstOf_7 : Int → Int) (C_nextOf_8 : Int → Int) (H : Heap) (locs : List Loc) (ls : Array Slot), va_P D vwCl [(o_C a C_size_1), ((a 11), .inl (cZ, 96, .inl (ia C_needed))), ((a 12), .inl (cI, 770, .inl (ia C_elements_2))), ((a 13), .inl (cI, 770, .inl (ia C_parent_3))), ((a 14), .inl (cI, 770, .inl (ia C_length_4))), ((a 15), .inl (cI, 770, .inl (ia C_early_5))), ((a 16), .inl (cI, 770, .inl (ia C_late_6))), ((a 17), .inl (cI, 96, .inl (ia C_firstOf_7))), ((a 18), .inl (cI, 770, .inl (ia C_nextOf_8))), (o_N a N_period N_width N_size), ((a 46), .inl (cI, 144, .inl (ia N_source))), ((a 47), .inl (cI, 144, .inl (ia N_wireEarly))), ((a 48), .inl (cI, 144, .inl (ia N_wireLate))), ((a 49), .inl (cI, 144, .inl (ia N_senses))), ((a 50), .inl (cI, 288, .inl (ia N_gateEarly))), ((a 51), .inl (cI, 288, .inl (ia N_gateLate)))] H → va_D A [(o_C a C_size_1), ((a 11), .inl (cZ, 96, .inl (ia C_needed))), ((a 12), .inl (cI, 770, .inl (ia C_elements_2))), ((a 13), .inl (cI, 770, .inl (ia C_parent_3))), ((a 14), .inl (cI, 770, .inl (ia C_length_4))), ((a 15), .inl (cI, 770, .inl (ia C_early_5))), ((a 16), .inl (cI, 770, .inl (ia C_late_6))), ((a 17), .inl (cI, 96, .inl (ia C_firstOf_7))), ((a 18), .inl (cI, 770, .inl (ia C_nextOf_8))), (o_N a N_period N_width N_size), ((a 46), .inl (cI, 144, .inl (ia N_source))), ((a 47), .inl (cI, 144, .inl (ia N_wireEarly))), ((a 48), .inl (cI, 144, .inl (ia N_wireLate))), ((a 49), .inl (cI, 144, .inl (ia N_senses))), ((a 50), .inl (cI, 288, .inl (ia N_gateEarly))), ((a 51), .inl (cI, 288, .inl (ia N_gateLate)))] → va_S A s.heap H locs → lv_has ls 10 [(0, .ref (a 10)), (1, .int (iI x1)), (2, .int (iI x2)), (3, .int (iI x3)), (4, .int (iI v4)), (5, .int (iI r41)), (6, .int (iI r53)), (7, .int (iI v7))] → lq9 (f_ClockWays_growBy_b61 F N_source N_senses x1 x2 x3 v4 r41 r53) nf v7 C_size_1 C_elements_2 C_parent_3 C_length_4 C_early_5 C_late_6 C_firstOf_7 C_nextOf_8 = some (z_C_size, z_C_elements, z_C_parent, z_C_length, z_C_early, z_C_late, z_C_firstOf, z_C_nextOf) → W p l e (headSpec w_ClockWays_growBy rm_ClockWays_growBy).room s m args below meth c H locs 0 0 Q (F0 m 61 ls []) := by
        intro n61
        induction n61 with
        | zero => intro v7 C_size_1 C_elements_2 C_parent_3 C_length_4 C_early_5 C_late_6 C_firstOf_7 C_nextOf_8 H locs ls hP hD hS hl h; exact no_some h
        | succ n61 ih61 =>
          intro v7 C_size_1 C_elements_2 C_parent_3 C_length_4 C_early_5 C_late_6 C_firstOf_7 C_nextOf_8 H locs ls hP hD hS hl h
          replace h : f_ClockWays_growBy_b61 F N_source N_senses x1 x2 x3 v4 r41 r53 (lq9 (f_ClockWays_growBy_b61 F N_source N_senses x1 x2 x3 v4 r41 r53) n61) v7 C_size_1 C_elements_2 C_parent_3 C_length_4 C_early_5 C_late_6 C_firstOf_7 C_nextOf_8 = some (z_C_size, z_C_elements, z_C_parent, z_C_length, z_C_early, z_C_late, z_C_firstOf, z_C_nextOf) := h
          obtain ⟨self61, hs61⟩ : ∃ z, z = lq9 (f_ClockWays_growBy_b61 F N_source N_senses x1 x2 x3 v4 r41 r53) n61 := ⟨_, rfl⟩
          rw [← hs61] at h ih61
          rw [f_ClockWays_growBy_b61] at h
          refine lv_iload hx hb d_ClockWays_growBy_61 (lv_at hl 7 rfl) ?_
          refine zv_iconst hx hb d_ClockWays_growBy_63 ?_
          obtain ⟨hg0, h⟩ := gr_e h
          refine zc_ge hx hb d_ClockWays_growBy_64 rfl hg0 (by decide) (fun hc => ?_) (fun hc => ?_)
          · replace h := if_t hc h
            obtain ⟨e1, e2, e3, e4, e5, e6, e7, e8⟩ := so8 h
            rw [hQ, e1, e2, e3, e4, e5, e6, e7, e8]; rw [hAe] at hD hS; exact W.vret hx hb hr (fun t ht hW => ⟨⟨(), rfl, trivial, by rw [ht]; exact hP, va_K.moved hW.alike hK, hD⟩, hS.F ht⟩) hS.2.2 d_ClockWays_growBy_181
          · replace h := if_f hc h
            refine lv_aload_n hx hb d_ClockWays_growBy_67 rfl (lv_at hl 0 rfl) ?_
            refine va_get (D := D) (ci := 4) (v := .ref (a 43)) (C := R_ClockWays) (T := F_ClockWays) (N := 17) hx hb hT in_ClockWays hown hK hP 0 rfl rfl 0 (by decide) (hT _ m194) (fun _ h9 => h9) rfl d_ClockWays_growBy_68 ?_
            refine lv_iload hx hb d_ClockWays_growBy_71 (lv_at hl 4 rfl) ?_
            refine lv_iload hx hb d_ClockWays_growBy_73 (lv_at hl 7 rfl) ?_
            refine lv_iload_n hx hb d_ClockWays_growBy_75 rfl (lv_at hl 3 rfl) ?_
            obtain ⟨r76, hcall, h⟩ := ob1_e h
            refine ro_i (va_Run.run (va_runV (As := [.int (iI v4), .int (iI v7), .int (iI x3)]) (rest := []) ⟨hx, hb, hml, hown, hts⟩ (c_Net_lets l D cI cJ cZ F a N_period N_width N_size N_senses v4 v7 x3 r76 H.size hcall) (cwV 3 hts (gd_V m509 m527 m507 m508 m2) rfl rfl rfl ⟨rfl, hc_Net_lets⟩ ⟨Nat.le_of_ble_eq_true rfl, Nat.le_of_ble_eq_true rfl⟩) (pc_V 9 1 [.int (iI v4), .int (iI v7), .int (iI x3)] hP hK hD hN [9, 13] rfl rfl rfl rfl rfl) rfl rfl hl.1 rfl (lv_room (Nat.le_of_ble_eq_true rfl)) d_ClockWays_growBy_76 ⟨Nat.le_refl 0, Nat.le_refl 0⟩)) (W.eq (g2 := F0 m 79 ls [.int (iI r76)]) rfl ?_)
            have hj106 : ∀ (q0 : Int) (H : Heap) (locs : List Loc) (ls : Array Slot), va_P D vwCl [(o_C a C_size_1), ((a 11), .inl (cZ, 96, .inl (ia C_needed))), ((a 12), .inl (cI, 770, .inl (ia C_elements_2))), ((a 13), .inl (cI, 770, .inl (ia C_parent_3))), ((a 14), .inl (cI, 770, .inl (ia C_length_4))), ((a 15), .inl (cI, 770, .inl (ia C_early_5))), ((a 16), .inl (cI, 770, .inl (ia C_late_6))), ((a 17), .inl (cI, 96, .inl (ia C_firstOf_7))), ((a 18), .inl (cI, 770, .inl (ia C_nextOf_8))), (o_N a N_period N_width N_size), ((a 46), .inl (cI, 144, .inl (ia N_source))), ((a 47), .inl (cI, 144, .inl (ia N_wireEarly))), ((a 48), .inl (cI, 144, .inl (ia N_wireLate))), ((a 49), .inl (cI, 144, .inl (ia N_senses))), ((a 50), .inl (cI, 288, .inl (ia N_gateEarly))), ((a 51), .inl (cI, 288, .inl (ia N_gateLate)))] H → va_D A [(o_C a C_size_1), ((a 11), .inl (cZ, 96, .inl (ia C_needed))), ((a 12), .inl (cI, 770, .inl (ia C_elements_2))), ((a 13), .inl (cI, 770, .inl (ia C_parent_3))), ((a 14), .inl (cI, 770, .inl (ia C_length_4))), ((a 15), .inl (cI, 770, .inl (ia C_early_5))), ((a 16), .inl (cI, 770, .inl (ia C_late_6))), ((a 17), .inl (cI, 96, .inl (ia C_firstOf_7))), ((a 18), .inl (cI, 770, .inl (ia C_nextOf_8))), (o_N a N_period N_width N_size), ((a 46), .inl (cI, 144, .inl (ia N_source))), ((a 47), .inl (cI, 144, .inl (ia N_wireEarly))), ((a 48), .inl (cI, 144, .inl (ia N_wireLate))), ((a 49), .inl (cI, 144, .inl (ia N_senses))), ((a 50), .inl (cI, 288, .inl (ia N_gateEarly))), ((a 51), .inl (cI, 288, .inl (ia N_gateLate)))] → va_S A s.heap H locs → lv_has ls 10 [(0, .ref (a 10)), (1, .int (iI x1)), (2, .int (iI x2)), (3, .int (iI x3)), (4, .int (iI v4)), (5, .int (iI r41)), (6, .int (iI r53)), (7, .int (iI v7))] → f_ClockWays_growBy_j106 F x1 x2 x3 r41 r53 v7 C_size_1 C_elements_2 C_parent_3 C_length_4 C_early_5 C_late_6 C_firstOf_7 C_nextOf_8 self61 q0 = some (z_C_size, z_C_elements, z_C_parent, z_C_length, z_C_early, z_C_late, z_C_firstOf, z_C_nextOf) → W p l e (headSpec w_ClockWays_growBy rm_ClockWays_growBy).room s m args below meth c H locs 0 0 Q (F0 m 106 ls [.int (iI q0)]) := by
              intro q0 H locs ls hP hD hS hl h
              rw [f_ClockWays_growBy_j106] at h
              refine lv_istore (lv' := [(8, .int (iI q0)), (0, .ref (a 10)), (1, .int (iI x1)), (2, .int (iI x2)), (3, .int (iI x3)), (4, .int (iI v4)), (5, .int (iI r41)), (6, .int (iI r53)), (7, .int (iI v7))]) hx hb d_ClockWays_growBy_106 hl (by decide) rfl (fun ls hl => ?_)
              refine zv_iconst hx hb d_ClockWays_growBy_108 ?_
              refine lv_istore (lv' := [(9, .int (iI 0)), (8, .int (iI q0)), (0, .ref (a 10)), (1, .int (iI x1)), (2, .int (iI x2)), (3, .int (iI x3)), (4, .int (iI v4)), (5, .int (iI r41)), (6, .int (iI r53)), (7, .int (iI v7))]) hx hb d_ClockWays_growBy_109 hl (by decide) rfl (fun ls hl => ?_)
              have hl111 : ∀ (nf : Nat) (v8 : Int) (v9 : Int) (C_size_9 : Int) (C_elements_10 : Int → Int) (C_parent_11 : Int → Int) (C_length_12 : Int → Int) (C_early_13 : Int → Int) (C_late_14 : Int → Int) (C_firstOf_15 : Int → Int) (C_nextOf_16 : Int → Int) (H : Heap) (locs : List Loc) (ls : Array Slot), va_P D vwCl [(o_C a C_size_9), ((a 11), .inl (cZ, 96, .inl (ia C_needed))), ((a 12), .inl (cI, 770, .inl (ia C_elements_10))), ((a 13), .inl (cI, 770, .inl (ia C_parent_11))), ((a 14), .inl (cI, 770, .inl (ia C_length_12))), ((a 15), .inl (cI, 770, .inl (ia C_early_13))), ((a 16), .inl (cI, 770, .inl (ia C_late_14))), ((a 17), .inl (cI, 96, .inl (ia C_firstOf_15))), ((a 18), .inl (cI, 770, .inl (ia C_nextOf_16))), (o_N a N_period N_width N_size), ((a 46), .inl (cI, 144, .inl (ia N_source))), ((a 47), .inl (cI, 144, .inl (ia N_wireEarly))), ((a 48), .inl (cI, 144, .inl (ia N_wireLate))), ((a 49), .inl (cI, 144, .inl (ia N_senses))), ((a 50), .inl (cI, 288, .inl (ia N_gateEarly))), ((a 51), .inl (cI, 288, .inl (ia N_gateLate)))] H → va_D A [(o_C a C_size_9), ((a 11), .inl (cZ, 96, .inl (ia C_needed))), ((a 12), .inl (cI, 770, .inl (ia C_elements_10))), ((a 13), .inl (cI, 770, .inl (ia C_parent_11))), ((a 14), .inl (cI, 770, .inl (ia C_length_12))), ((a 15), .inl (cI, 770, .inl (ia C_early_13))), ((a 16), .inl (cI, 770, .inl (ia C_late_14))), ((a 17), .inl (cI, 96, .inl (ia C_firstOf_15))), ((a 18), .inl (cI, 770, .inl (ia C_nextOf_16))), (o_N a N_period N_width N_size), ((a 46), .inl (cI, 144, .inl (ia N_source))), ((a 47), .inl (cI, 144, .inl (ia N_wireEarly))), ((a 48), .inl (cI, 144, .inl (ia N_wireLate))), ((a 49), .inl (cI, 144, .inl (ia N_senses))), ((a 50), .inl (cI, 288, .inl (ia N_gateEarly))), ((a 51), .inl (cI, 288, .inl (ia N_gateLate)))] → va_S A s.heap H locs → lv_has ls 10 [(0, .ref (a 10)), (1, .int (iI x1)), (2, .int (iI x2)), (3, .int (iI x3)), (4, .int (iI v4)), (5, .int (iI r41)), (6, .int (iI r53)), (7, .int (iI v7)), (8, .int (iI v8)), (9, .int (iI v9))] → lq10 (f_ClockWays_growBy_b111 F x1 x2 x3 r41 r53 v7 self61) nf v8 v9 C_size_9 C_elements_10 C_parent_11 C_length_12 C_early_13 C_late_14 C_firstOf_15 C_nextOf_16 = some (z_C_size, z_C_elements, z_C_parent, z_C_length, z_C_early, z_C_late, z_C_firstOf, z_C_nextOf) → W p l e (headSpec w_ClockWays_growBy rm_ClockWays_growBy).room s m args below meth c H locs 0 0 Q (F0 m 111 ls []) := by
                intro n111
                induction n111 with
                | zero => intro v8 v9 C_size_9 C_elements_10 C_parent_11 C_length_12 C_early_13 C_late_14 C_firstOf_15 C_nextOf_16 H locs ls hP hD hS hl h; exact no_some h
                | succ n111 ih111 =>
                  intro v8 v9 C_size_9 C_elements_10 C_parent_11 C_length_12 C_early_13 C_late_14 C_firstOf_15 C_nextOf_16 H locs ls hP hD hS hl h
                  replace h : f_ClockWays_growBy_b111 F x1 x2 x3 r41 r53 v7 self61 (lq10 (f_ClockWays_growBy_b111 F x1 x2 x3 r41 r53 v7 self61) n111) v8 v9 C_size_9 C_elements_10 C_parent_11 C_length_12 C_early_13 C_late_14 C_firstOf_15 C_nextOf_16 = some (z_C_size, z_C_elements, z_C_parent, z_C_length, z_C_early, z_C_late, z_C_firstOf, z_C_nextOf) := h
                  obtain ⟨self111, hs111⟩ : ∃ z, z = lq10 (f_ClockWays_growBy_b111 F x1 x2 x3 r41 r53 v7 self61) n111 := ⟨_, rfl⟩
                  rw [← hs111] at h ih111
                  rw [f_ClockWays_growBy_b111] at h
                  refine lv_iload hx hb d_ClockWays_growBy_111 (lv_at hl 9 rfl) ?_
                  refine lv_bipush (v := iI 8) hx hb d_ClockWays_growBy_113 (by decide) ?_
                  have hj175 : ∀  (H : Heap) (locs : List Loc) (ls : Array Slot), va_P D vwCl [(o_C a C_size_9), ((a 11), .inl (cZ, 96, .inl (ia C_needed))), ((a 12), .inl (cI, 770, .inl (ia C_elements_10))), ((a 13), .inl (cI, 770, .inl (ia C_parent_11))), ((a 14), .inl (cI, 770, .inl (ia C_length_12))), ((a 15), .inl (cI, 770, .inl (ia C_early_13))), ((a 16), .inl (cI, 770, .inl (ia C_late_14))), ((a 17), .inl (cI, 96, .inl (ia C_firstOf_15))), ((a 18), .inl (cI, 770, .inl (ia C_nextOf_16))), (o_N a N_period N_width N_size), ((a 46), .inl (cI, 144, .inl (ia N_source))), ((a 47), .inl (cI, 144, .inl (ia N_wireEarly))), ((a 48), .inl (cI, 144, .inl (ia N_wireLate))), ((a 49), .inl (cI, 144, .inl (ia N_senses))), ((a 50), .inl (cI, 288, .inl (ia N_gateEarly))), ((a 51), .inl (cI, 288, .inl (ia N_gateLate)))] H → va_D A [(o_C a C_size_9), ((a 11), .inl (cZ, 96, .inl (ia C_needed))), ((a 12), .inl (cI, 770, .inl (ia C_elements_10))), ((a 13), .inl (cI, 770, .inl (ia C_parent_11))), ((a 14), .inl (cI, 770, .inl (ia C_length_12))), ((a 15), .inl (cI, 770, .inl (ia C_early_13))), ((a 16), .inl (cI, 770, .inl (ia C_late_14))), ((a 17), .inl (cI, 96, .inl (ia C_firstOf_15))), ((a 18), .inl (cI, 770, .inl (ia C_nextOf_16))), (o_N a N_period N_width N_size), ((a 46), .inl (cI, 144, .inl (ia N_source))), ((a 47), .inl (cI, 144, .inl (ia N_wireEarly))), ((a 48), .inl (cI, 144, .inl (ia N_wireLate))), ((a 49), .inl (cI, 144, .inl (ia N_senses))), ((a 50), .inl (cI, 288, .inl (ia N_gateEarly))), ((a 51), .inl (cI, 288, .inl (ia N_gateLate)))] → va_S A s.heap H locs → lv_has ls 10 [(0, .ref (a 10)), (1, .int (iI x1)), (2, .int (iI x2)), (3, .int (iI x3)), (4, .int (iI v4)), (5, .int (iI r41)), (6, .int (iI r53)), (7, .int (iI v7))] → f_ClockWays_growBy_j175 F v7 self61 C_size_9 C_elements_10 C_parent_11 C_length_12 C_early_13 C_late_14 C_firstOf_15 C_nextOf_16 = some (z_C_size, z_C_elements, z_C_parent, z_C_length, z_C_early, z_C_late, z_C_firstOf, z_C_nextOf) → W p l e (headSpec w_ClockWays_growBy rm_ClockWays_growBy).room s m args below meth c H locs 0 0 Q (F0 m 175 ls []) := by
                    intro  H locs ls hP hD hS hl h
                    rw [f_ClockWays_growBy_j175] at h
                    refine lv_iinc (v := iI (v7 + 1)) (k := 7) (lv' := [(7, .int (iI (v7 + 1))), (0, .ref (a 10)), (1, .int (iI x1)), (2, .int (iI x2)), (3, .int (iI x3)), (4, .int (iI v4)), (5, .int (iI r41)), (6, .int (iI r53))]) hx hb d_ClockWays_growBy_175 hl rfl (iI_add _ _) (by decide) rfl (fun ls hl => ?_)
                    refine lv_goto hx hb d_ClockWays_growBy_178 rfl ?_
                    exact ih61 (v7 + 1) C_size_9 C_elements_10 C_parent_11 C_length_12 C_early_13 C_late_14 C_firstOf_15 C_nextOf_16 H locs ls hP hD hS (lv_sub hl [1, 2, 3, 4, 5, 6, 7, 0] rfl) h
                  obtain ⟨hg0, h⟩ := gr_e h
                  refine zc_ge hx hb d_ClockWays_growBy_115 rfl hg0 (by decide) (fun hc => ?_) (fun hc => ?_)
                  · replace h := if_t hc h
                    exact hj175  H locs ls hP hD hS (lv_sub hl [0, 1, 2, 3, 4, 5, 6, 7] rfl) h
                  · replace h := if_f hc h
                    refine lv_iload hx hb d_ClockWays_growBy_118 (lv_at hl 8 rfl) ?_
                    obtain ⟨hg0, h⟩ := gr_e h
                    refine zi_lt hx hb d_ClockWays_growBy_120 rfl hg0 (fun hc => ?_) (fun hc => ?_)
                    · replace h := if_t hc h
                      exact hj175  H locs ls hP hD hS (lv_sub hl [0, 1, 2, 3, 4, 5, 6, 7] rfl) h
                    · replace h := if_f hc h
                      refine lv_aload_n hx hb d_ClockWays_growBy_123 rfl (lv_at hl 0 rfl) ?_
                      refine zv_iconst hx hb d_ClockWays_growBy_124 ?_
                      refine lv_iload_n hx hb d_ClockWays_growBy_125 rfl (lv_at hl 1 rfl) ?_
                      refine zv_imul hx hb d_ClockWays_growBy_126 ?_
                      refine lv_iload_n hx hb d_ClockWays_growBy_127 rfl (lv_at hl 3 rfl) ?_
                      refine zv_iadd hx hb d_ClockWays_growBy_128 ?_
                      refine lv_iload_n hx hb d_ClockWays_growBy_129 rfl (lv_at hl 1 rfl) ?_
                      refine lv_iload_n hx hb d_ClockWays_growBy_130 rfl (lv_at hl 2 rfl) ?_
                      refine lv_iload_n hx hb d_ClockWays_growBy_131 rfl (lv_at hl 3 rfl) ?_
                      obtain ⟨r132, hcall, h⟩ := ob1_e h
                      refine ro_i (va_Run.run (va_runSN (As := [.int (iI x1), .int (iI x2), .int (iI x3)]) (rest := [.int (iI ((2 * x1) + x3)), .ref (a 10)]) ⟨hx, hb, hml, hown, hts⟩ (c_T_elementOf l D cI cJ cZ F a x1 x2 x3 r132 H.size hcall) ⟨va_cnB 3 hts (gd_in m535) rfl rfl rfl hN.2.1 (hT _ m1) hc_T_elementOf ⟨Nat.le_of_ble_eq_true rfl, Nat.le_of_ble_eq_true rfl⟩, hT _ m534, trivial⟩ (pc_S [.int (iI x1), .int (iI x2), .int (iI x3)] hP hK hD hN [] rfl rfl rfl) rfl rfl hl.1 rfl (lv_room (Nat.le_of_ble_eq_true rfl)) d_ClockWays_growBy_132 ⟨Nat.le_refl 0, Nat.le_refl 0⟩)) (W.eq (g2 := F0 m 135 ls [.int (iI r132), .int (iI ((2 * x1) + x3)), .ref (a 10)]) rfl ?_)
                      refine lv_iload hx hb d_ClockWays_growBy_135 (lv_at hl 8 rfl) ?_
                      refine lv_aload_n hx hb d_ClockWays_growBy_137 rfl (lv_at hl 0 rfl) ?_
                      refine va_get (D := D) (ci := 4) (v := .ref (a 15)) (C := R_ClockWays) (T := F_ClockWays) (N := 17) hx hb hT in_ClockWays hown hK hP 0 rfl rfl 8 (by decide) (hT _ m202) (fun _ h9 => h9) rfl d_ClockWays_growBy_138 ?_
                      refine lv_iload hx hb d_ClockWays_growBy_141 (lv_at hl 8 rfl) ?_
                      obtain ⟨hin, h⟩ := gi_e h
                      refine zv_iald hx hb hK hP 5 0 rfl rfl (Nat.le_of_ble_eq_true rfl) hin d_ClockWays_growBy_143 ?_
                      refine lv_iload hx hb d_ClockWays_growBy_144 (lv_at hl 5 rfl) ?_
                      refine zv_iadd hx hb d_ClockWays_growBy_146 ?_
                      refine lv_aload_n hx hb d_ClockWays_growBy_147 rfl (lv_at hl 0 rfl) ?_
                      refine va_get (D := D) (ci := 4) (v := .ref (a 16)) (C := R_ClockWays) (T := F_ClockWays) (N := 17) hx hb hT in_ClockWays hown hK hP 0 rfl rfl 9 (by decide) (hT _ m203) (fun _ h9 => h9) rfl d_ClockWays_growBy_148 ?_
                      refine lv_iload hx hb d_ClockWays_growBy_151 (lv_at hl 8 rfl) ?_
                      obtain ⟨hin, h⟩ := gi_e h
                      refine zv_iald hx hb hK hP 6 0 rfl rfl (Nat.le_of_ble_eq_true rfl) hin d_ClockWays_growBy_153 ?_
                      refine lv_iload hx hb d_ClockWays_growBy_154 (lv_at hl 6 rfl) ?_
                      refine zv_iadd hx hb d_ClockWays_growBy_156 ?_
                      obtain ⟨C_size_17, C_elements_18, C_parent_19, C_length_20, C_early_21, C_late_22, C_firstOf_23, C_nextOf_24, hcall, h⟩ := ob8_e h
                      refine ca_v (w2 := [(o_C a C_size_17), ((a 11), .inl (cZ, 96, .inl (ia C_needed))), ((a 12), .inl (cI, 770, .inl (ia C_elements_18))), ((a 13), .inl (cI, 770, .inl (ia C_parent_19))), ((a 14), .inl (cI, 770, .inl (ia C_length_20))), ((a 15), .inl (cI, 770, .inl (ia C_early_21))), ((a 16), .inl (cI, 770, .inl (ia C_late_22))), ((a 17), .inl (cI, 96, .inl (ia C_firstOf_23))), ((a 18), .inl (cI, 770, .inl (ia C_nextOf_24))), (o_N a N_period N_width N_size), ((a 46), .inl (cI, 144, .inl (ia N_source))), ((a 47), .inl (cI, 144, .inl (ia N_wireEarly))), ((a 48), .inl (cI, 144, .inl (ia N_wireLate))), ((a 49), .inl (cI, 144, .inl (ia N_senses))), ((a 50), .inl (cI, 288, .inl (ia N_gateEarly))), ((a 51), .inl (cI, 288, .inl (ia N_gateLate)))]) (va_runV (As := [.int (iI ((2 * x1) + x3)), .int (iI r132), .int (iI v8), .int (iI ((C_early_13 v8) + r41)), .int (iI ((C_late_14 v8) + r53))]) (rest := []) ⟨hx, hb, hml, hown, hts⟩ (c_ClockWays_grow l D cI cJ cZ F a C_size_9 C_elements_10 C_parent_11 C_length_12 C_early_13 C_late_14 C_firstOf_15 C_nextOf_16 ((2 * x1) + x3) r132 v8 ((C_early_13 v8) + r41) ((C_late_14 v8) + r53) C_size_17 C_elements_18 C_parent_19 C_length_20 C_early_21 C_late_22 C_firstOf_23 C_nextOf_24 H.size hcall) (cwV 5 hts (gd_V m539 m536 m538 sl_ClockWays_grow m5) rfl rfl rfl ⟨rfl, hc_ClockWays_grow⟩ ⟨Nat.le_of_ble_eq_true rfl, Nat.le_of_ble_eq_true rfl⟩) (pc_V 0 4 [.int (iI ((2 * x1) + x3)), .int (iI r132), .int (iI v8), .int (iI ((C_early_13 v8) + r41)), .int (iI ((C_late_14 v8) + r53))] hP hK hD hN [0, 2, 3, 4, 5, 6, 7, 8] rfl rfl rfl rfl rfl) rfl rfl hl.1 rfl (lv_room (Nat.le_of_ble_eq_true rfl)) d_ClockWays_growBy_157 ⟨Nat.le_refl 0, Nat.le_refl 0⟩) hP hD hS hA [0, 2, 3, 4, 5, 6, 7, 8] [1, 9, 10, 11, 12, 13, 14, 15] [8, 0, 9, 10, 11, 12, 13, 14, 15, 1, 2, 3, 4, 5, 6, 7] rfl rfl rfl (by decide) rfl rfl rfl (fun H locs hP hD hS => ?_)
                      refine lv_aload_n hx hb d_ClockWays_growBy_160 rfl (lv_at hl 0 rfl) ?_
                      refine va_get (D := D) (ci := 4) (v := .ref (a 18)) (C := R_ClockWays) (T := F_ClockWays) (N := 17) hx hb hT in_ClockWays hown hK hP 0 rfl rfl 11 (by decide) (hT _ m205) (fun _ h9 => h9) rfl d_ClockWays_growBy_161 ?_
                      refine lv_iload hx hb d_ClockWays_growBy_164 (lv_at hl 8 rfl) ?_
                      obtain ⟨hin, h⟩ := gi_e h
                      refine zv_iald hx hb hK hP 8 0 rfl rfl (Nat.le_of_ble_eq_true rfl) hin d_ClockWays_growBy_166 ?_
                      refine zv_top (fun v8_25 hv => ?_)
                      replace h := bd_e hv h
                      refine lv_istore (lv' := [(8, .int (iI v8_25)), (0, .ref (a 10)), (1, .int (iI x1)), (2, .int (iI x2)), (3, .int (iI x3)), (4, .int (iI v4)), (5, .int (iI r41)), (6, .int (iI r53)), (7, .int (iI v7)), (9, .int (iI v9))]) hx hb d_ClockWays_growBy_167 hl (by decide) rfl (fun ls hl => ?_)
                      refine lv_iinc (v := iI (v9 + 1)) (k := 9) (lv' := [(9, .int (iI (v9 + 1))), (8, .int (iI v8_25)), (0, .ref (a 10)), (1, .int (iI x1)), (2, .int (iI x2)), (3, .int (iI x3)), (4, .int (iI v4)), (5, .int (iI r41)), (6, .int (iI r53)), (7, .int (iI v7))]) hx hb d_ClockWays_growBy_169 hl rfl (iI_add _ _) (by decide) rfl (fun ls hl => ?_)
                      refine lv_goto hx hb d_ClockWays_growBy_172 rfl ?_
                      exact ih111 v8_25 (v9 + 1) C_size_17 C_elements_18 C_parent_19 C_length_20 C_early_21 C_late_22 C_firstOf_23 C_nextOf_24 H locs ls hP hD hS (lv_sub hl [2, 3, 4, 5, 6, 7, 8, 9, 1, 0] rfl) h
              exact hl111 F q0 0 C_size_1 C_elements_2 C_parent_3 C_length_4 C_early_5 C_late_6 C_firstOf_7 C_nextOf_8 H locs ls hP hD hS (lv_sub hl [2, 3, 4, 5, 6, 7, 8, 9, 1, 0] rfl) h
            obtain ⟨hg0, h⟩ := gr_e h
            refine zi_eq hx hb d_ClockWays_growBy_79 rfl hg0 (fun hc => ?_) (fun hc => ?_)
            · replace h := if_t hc h
              refine zv_iconst hx hb d_ClockWays_growBy_105 ?_
              exact hj106 (-1) H locs ls hP hD hS (lv_sub hl [0, 1, 2, 3, 4, 5, 6, 7] rfl) h
            · replace h := if_f hc h
              refine lv_aload_n hx hb d_ClockWays_growBy_82 rfl (lv_at hl 0 rfl) ?_
              refine va_get (D := D) (ci := 4) (v := .ref (a 17)) (C := R_ClockWays) (T := F_ClockWays) (N := 17) hx hb hT in_ClockWays hown hK hP 0 rfl rfl 10 (by decide) (hT _ m204) (fun _ h9 => h9) rfl d_ClockWays_growBy_83 ?_
              refine zv_iconst hx hb d_ClockWays_growBy_86 ?_
              refine lv_aload_n hx hb d_ClockWays_growBy_87 rfl (lv_at hl 0 rfl) ?_
              refine va_get (D := D) (ci := 4) (v := .ref (a 43)) (C := R_ClockWays) (T := F_ClockWays) (N := 17) hx hb hT in_ClockWays hown hK hP 0 rfl rfl 0 (by decide) (hT _ m194) (fun _ h9 => h9) rfl d_ClockWays_growBy_88 ?_
              refine va_get (D := D) (ci := 1) (v := .ref (a 46)) (C := R_Net) (T := F_Net) (N := 15) hx hb hT in_Net hown hK hP 9 rfl rfl 5 (by decide) (hT _ m66) (fun _ h9 => h9) rfl d_ClockWays_growBy_91 ?_
              refine lv_iload hx hb d_ClockWays_growBy_94 (lv_at hl 4 rfl) ?_
              obtain ⟨hin, h⟩ := gi_e h
              refine zv_iald hx hb hK hP 10 0 rfl rfl (Nat.le_of_ble_eq_true rfl) hin d_ClockWays_growBy_96 ?_
              refine zv_imul hx hb d_ClockWays_growBy_97 ?_
              refine lv_iload hx hb d_ClockWays_growBy_98 (lv_at hl 7 rfl) ?_
              refine zv_iadd hx hb d_ClockWays_growBy_100 ?_
              obtain ⟨hin, h⟩ := gi_e h
              refine zv_iald hx hb hK hP 7 0 rfl rfl (Nat.le_of_ble_eq_true rfl) hin d_ClockWays_growBy_101 ?_
              refine lv_goto hx hb d_ClockWays_growBy_102 rfl ?_
              exact hj106 (C_firstOf_7 ((2 * (N_source v4)) + v7)) H locs ls hP hD hS (lv_sub hl [0, 1, 2, 3, 4, 5, 6, 7] rfl) h
      exact hl61 F 0 C_size C_elements C_parent C_length C_early C_late C_firstOf C_nextOf H locs ls hP hD hS (lv_sub hl [4, 5, 6, 7, 3, 2, 1, 0] rfl) h
    · replace h := if_t hc h
      obtain ⟨e1, e2, e3, e4, e5, e6, e7, e8⟩ := so8 h
      rw [hQ, e1, e2, e3, e4, e5, e6, e7, e8]; rw [hAe] at hD hS; exact W.vret hx hb hr (fun t ht hW => ⟨⟨(), rfl, trivial, by rw [ht]; exact hP, va_K.moved hW.alike hK, hD⟩, hS.F ht⟩) hS.2.2 d_ClockWays_growBy_33
