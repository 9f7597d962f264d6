abbrev rm_T_isWithin : Room := { frames := 0, cells := 0, slots := 0, locals := 0 }
set_option maxHeartbeats 4000000 in
set_option maxRecDepth 100000 in
theorem c_T_isWithin (l : Launch) (D : va_G) (cI cJ cZ : ClassId) (F : Nat) (a : Nat → Nat) (x0 : Int) (x1 : Int) (x2 : Int) (r : Int) (sz : Nat) (h : f_T_isWithin F x0 x1 x2 = some (r)) : Met l y_T_isWithin w_T_isWithin rm_T_isWithin (PC D [(cI, .int), (cJ, .long), (cZ, .boolean)] [.int (iI x0), .int (iI x1), .int (iI x2)] ([]) sz) (QcRead (iI r)) 0 0 (fun _ => False) := by
  refine Met.ofW (cc := prog_1_method_27_code) (maxL := 3) (ret := (Option.some Jvm.ClassFile.FieldType.boolean)) (by decide) rfl ?_
  intro p e s m args below meth c s₁ B hml hv
  obtain ⟨rfl, hsz, hP, hK, hD0, hN⟩ := hv
  have hx := B.exec
  have hb := B.bytes
  have hr := B.returns
  have hts := atoms_spec (ws := w_T_isWithin) B.pre
  have hown : s.vm.findClass R_T = some m.cls := findClass_of_methodNamed B.named
  have hlocks := B.notSynchronized
  subst hsz
  have hl := lv_entry ([.int (iI x0), .int (iI x1), .int (iI x2)]) (n := 3) (Nat.le_of_ble_eq_true rfl)
  rw [lg_entry_eq]
  generalize (lg_sl ([.int (iI x0), .int (iI x1), .int (iI x2)]) ++ List.replicate (3 - (lg_sl ([.int (iI x0), .int (iI x1), .int (iI x2)])).length) Slot.unset).toArray = ls at hl ⊢
  have hl : lv_has ls 3 [(0, .int (iI x0)), (1, .int (iI x1)), (2, .int (iI x2))] := hl
  generalize (List.toArray ([.int (iI x0), .int (iI x1), .int (iI x2)] : List Value)) = args at hts ⊢
  have hT : ∀ w ∈ Tg, w.before args s = true := fun w h => hts w (List.mem_cons_of_mem _ h)
  obtain ⟨Q, hQ⟩ : ∃ Q, Q = MQ below (QcRead (iI r)) args s 0 0 (fun _ => False) := ⟨_, rfl⟩
  rw [← hQ]
  rw [f_T_isWithin] at h
  refine lv_iload_n hx hb d_T_isWithin_0 rfl (lv_at hl 0 rfl) ?_
  refine lv_iload_n hx hb d_T_isWithin_1 rfl (lv_at hl 1 rfl) ?_
  have hj14 : ∀  (ls : Array Slot), lv_has ls 3 [] → f_T_isWithin_j14 F = some (r) → W p l e (headSpec w_T_isWithin rm_T_isWithin).room s m args below meth c s.heap [] 0 0 Q (F0 m 14 ls []) := by
    intro  ls hl h
    rw [f_T_isWithin_j14] at h
    refine zv_iconst hx hb d_T_isWithin_14 ?_
    obtain ⟨hbo, h⟩ := gb_e h
    have e1 := so1 h
    rw [hQ, e1]; exact W.zret (ty := .boolean) hx hb hr (gb_n hbo) (fun t ht hW => ⟨rfl, ht⟩) (fun q h => nomatch h) d_T_isWithin_15
  obtain ⟨hg0, h⟩ := gr_e h
  obtain ⟨hg1, h⟩ := gr_e h
  refine zc_lt hx hb d_T_isWithin_2 rfl hg0 hg1 (fun hc => ?_) (fun hc => ?_)
  · replace h := if_t hc h
    exact hj14  ls (lv_sub hl [] rfl) h
  · replace h := if_f hc h
    refine lv_iload_n hx hb d_T_isWithin_5 rfl (lv_at hl 0 rfl) ?_
    refine lv_iload_n hx hb d_T_isWithin_6 rfl (lv_at hl 2 rfl) ?_
    obtain ⟨hg0, h⟩ := gr_e h
    obtain ⟨hg1, h⟩ := gr_e h
    refine zc_gt hx hb d_T_isWithin_7 rfl hg0 hg1 (fun hc => ?_) (fun hc => ?_)
    · replace h := if_t hc h
      exact hj14  ls (lv_sub hl [] rfl) h
    · replace h := if_f hc h
      refine zv_iconst hx hb d_T_isWithin_10 ?_
      refine lv_goto hx hb d_T_isWithin_11 rfl ?_
      obtain ⟨hbo, h⟩ := gb_e h
      have e1 := so1 h
      rw [hQ, e1]; exact W.zret (ty := .boolean) hx hb hr (gb_n hbo) (fun t ht hW => ⟨rfl, ht⟩) (fun q h => nomatch h) d_T_isWithin_15
abbrev rm_T_clock : Room := { frames := 6, cells := 0, slots := 0, locals := 110 }
set_option maxHeartbeats 4000000 in
set_option maxRecDepth 100000 in
theorem c_T_clock (l : Launch) (D : va_G) (cI cJ cZ : ClassId) (F : Nat) (a : Nat → Nat) (T_analysed : Int) (N_period : Int) (N_width : Int) (N_size : Int) (x1 : Int) (x2 : Int) (z_T_analysed : Int) (z_N_period : Int) (z_N_width : Int) (sz : Nat) (h : f_T_clock F x1 x2 = some (z_T_analysed, z_N_period, z_N_width)) : Met l y_T_clock w_T_clock rm_T_clock (PC D [(cI, .int), (cJ, .long), (cZ, .boolean)] [.ref (a 0), .int (iI x1), .int (iI x2)] ([(o_T a T_analysed), (o_N a N_period N_width N_size)]) sz) (QV D [(cI, .int), (cJ, .long), (cZ, .boolean)] ([(o_T a T_analysed), (o_N a N_period N_width N_size)]) sz ([(o_T a z_T_analysed), (o_N a z_N_period z_N_width N_size)])) 0 0 (va_A ([(o_T a T_analysed), (o_N a N_period N_width N_size)]) sz) := by
  refine Met.ofW (cc := prog_1_method_2_code) (maxL := 3) (ret := (Option.none : Option Jvm.ClassFile.FieldType)) (by decide) rfl ?_
  intro p e s m args below meth c s₁ B hml hv
  obtain ⟨rfl, hsz, hP, hK, hD0, hN⟩ := hv
  have hx := B.exec
  have hb := B.bytes
  have hr := B.returns
  have hts := atoms_spec (ws := w_T_clock) B.pre
  have hown : s.vm.findClass R_T = some m.cls := findClass_of_methodNamed B.named
  have hlocks := B.notSynchronized
  subst hsz
  have hD := hD0.self (sz := s.heap.size)
  obtain ⟨A, hAe⟩ : ∃ A, A = va_A ([(o_T a T_analysed), (o_N a N_period N_width N_size)]) s.heap.size := ⟨_, rfl⟩
  rw [← hAe] at hD
  have hA : ∀ q : Nat, s.heap.size ≤ q → A q := fun q h => by rw [hAe]; exact Or.inr h
  have hS : va_S A s.heap s.heap [] := va_S.rf
  have hl := lv_entry ([.ref (a 0), .int (iI x1), .int (iI x2)]) (n := 3) (Nat.le_of_ble_eq_true rfl)
  rw [lg_entry_eq]
  generalize (lg_sl ([.ref (a 0), .int (iI x1), .int (iI x2)]) ++ List.replicate (3 - (lg_sl ([.ref (a 0), .int (iI x1), .int (iI x2)])).length) Slot.unset).toArray = ls at hl ⊢
  have hl : lv_has ls 3 [(0, .ref (a 0)), (1, .int (iI x1)), (2, .int (iI x2))] := hl
  generalize (List.toArray ([.ref (a 0), .int (iI x1), .int (iI x2)] : List Value)) = args at hts ⊢
  have hT : ∀ w ∈ Tg, w.before args s = true := fun w h => hts w (List.mem_cons_of_mem _ h)
  obtain ⟨Q, hQ⟩ : ∃ Q, Q = MQ below (QV D [(cI, .int), (cJ, .long), (cZ, .boolean)] ([(o_T a T_analysed), (o_N a N_period N_width N_size)]) s.heap.size ([(o_T a z_T_analysed), (o_N a z_N_period z_N_width N_size)])) args s 0 0 (va_A ([(o_T a T_analysed), (o_N a N_period N_width N_size)]) s.heap.size) := ⟨_, rfl⟩
  rw [← hQ]
  suffices hW : ∀ (H : Heap) (locs : List Loc), va_P D vwCl ([(o_T a T_analysed), (o_N a N_period N_width N_size)]) H → va_D A ([(o_T a T_analysed), (o_N a N_period N_width N_size)]) → va_S A s.heap H locs → W p l e (headSpec w_T_clock rm_T_clock).room s m args below meth c H locs 0 0 Q (F0 m 0 ls []) from hW s.heap [] hP hD hS
  clear hP hD hS
  intro H locs hP hD hS
  have hk0 := (show (Cond.constant "PathTiming" 67 (iI 1000000)).before args s = true from by rw [show iI 1000000 = (1000000 : Int32) from by decide]; exact hT _ m656)
  rw [f_T_clock] at h
  refine lv_iload_n hx hb d_T_clock_0 rfl (lv_at hl 1 rfl) ?_
  refine zv_iconst hx hb d_T_clock_1 ?_
  refine lv_ldc hx hb hown hk0 d_T_clock_2 ?_
  obtain ⟨r4, hcall, h⟩ := ob1_e h
  refine ro_i (va_Run.run (va_runS (As := [.int (iI x1), .int (iI 2), .int (iI 1000000)]) (rest := []) ⟨hx, hb, hml, hown, hts⟩ (c_T_isWithin l D cI cJ cZ F a x1 2 1000000 r4 H.size hcall) (cwS 3 hts (gd_S m573 m657 m572 m1) rfl rfl rfl ⟨rfl, hc_T_isWithin⟩ ⟨Nat.le_of_ble_eq_true rfl, Nat.le_of_ble_eq_true rfl⟩) (pc_S [.int (iI x1), .int (iI 2), .int (iI 1000000)] hP hK hD hN [] rfl rfl rfl) rfl rfl hl.1 rfl (lv_room (Nat.le_of_ble_eq_true rfl)) d_T_clock_4 ⟨Nat.le_refl 0, Nat.le_refl 0⟩)) (W.eq (g2 := F0 m 7 ls [.int (iI r4)]) rfl ?_)
  have hj21 : ∀  (H : Heap) (locs : List Loc) (ls : Array Slot), va_P D vwCl [(o_T a T_analysed), (o_N a N_period N_width N_size)] H → va_D A [(o_T a T_analysed), (o_N a N_period N_width N_size)] → va_S A s.heap H locs → lv_has ls 3 [] → f_T_clock_j21 F = some (z_T_analysed, z_N_period, z_N_width) → W p l e (headSpec w_T_clock rm_T_clock).room s m args below meth c H locs 0 0 Q (F0 m 21 ls []) := by
    intro  H locs ls hP hD hS hl h
    rw [f_T_clock_j21] at h
    exact no_some h
  obtain ⟨hg0, h⟩ := gr_e h
  refine zi_eq hx hb d_T_clock_7 rfl hg0 (fun hc => ?_) (fun hc => ?_)
  · replace h := if_t hc h
    exact hj21  H locs ls hP hD hS (lv_sub hl [] rfl) h
  · replace h := if_f hc h
    refine lv_iload_n hx hb d_T_clock_10 rfl (lv_at hl 2 rfl) ?_
    refine zv_iconst hx hb d_T_clock_11 ?_
    refine lv_iload_n hx hb d_T_clock_12 rfl (lv_at hl 1 rfl) ?_
    refine zv_iconst hx hb d_T_clock_13 ?_
    refine zv_isub hx hb d_T_clock_14 ?_
    obtain ⟨r15, hcall, h⟩ := ob1_e h
    refine ro_i (va_Run.run (va_runS (As := [.int (iI x2), .int (iI 1), .int (iI (x1 - 1))]) (rest := []) ⟨hx, hb, hml, hown, hts⟩ (c_T_isWithin l D cI cJ cZ F a x2 1 (x1 - 1) r15 H.size hcall) (cwS 3 hts (gd_S m573 m657 m572 m1) rfl rfl rfl ⟨rfl, hc_T_isWithin⟩ ⟨Nat.le_of_ble_eq_true rfl, Nat.le_of_ble_eq_true rfl⟩) (pc_S [.int (iI x2), .int (iI 1), .int (iI (x1 - 1))] hP hK hD hN [] rfl rfl rfl) rfl rfl hl.1 rfl (lv_room (Nat.le_of_ble_eq_true rfl)) d_T_clock_15 ⟨Nat.le_refl 0, Nat.le_refl 0⟩)) (W.eq (g2 := F0 m 18 ls [.int (iI r15)]) rfl ?_)
    obtain ⟨hg0, h⟩ := gr_e h
    refine zi_ne hx hb d_T_clock_18 rfl hg0 (fun hc => ?_) (fun hc => ?_)
    · replace h := if_f hc h
      refine lv_aload_n hx hb d_T_clock_29 rfl (lv_at hl 0 rfl) ?_
      refine va_get (D := D) (ci := 0) (v := .ref (a 43)) (C := R_T) (T := F_T) (N := 7) hx hb hT in_T hown hK hP 0 rfl rfl 0 (by decide) (hT _ m409) (fun _ h9 => h9) rfl d_T_clock_30 ?_
      refine lv_iload_n hx hb d_T_clock_33 rfl (lv_at hl 1 rfl) ?_
      refine va_put (D := D) (ci := 1) (v := .int (iI x1)) (ty := .int) (C := R_Net) (T := F_Net) (N := 15) hx hb hT in_Net ty_Net ty_Net_ok n_Net hown hK hP hD hS 1 rfl rfl 0 (by decide) (hT _ m40) (fun _ h9 => h9) rfl (by decide +kernel) rfl rfl (Nat.le_of_ble_eq_true rfl) d_T_clock_34 (fun H locs hP hD hS => ?_)
      have hP : va_P D vwCl [(o_T a T_analysed), (o_N a x1 N_width N_size)] H := hP
      have hD : va_D A [(o_T a T_analysed), (o_N a x1 N_width N_size)] := hD
      refine lv_aload_n hx hb d_T_clock_37 rfl (lv_at hl 0 rfl) ?_
      refine va_get (D := D) (ci := 0) (v := .ref (a 43)) (C := R_T) (T := F_T) (N := 7) hx hb hT in_T hown hK hP 0 rfl rfl 0 (by decide) (hT _ m409) (fun _ h9 => h9) rfl d_T_clock_38 ?_
      refine lv_iload_n hx hb d_T_clock_41 rfl (lv_at hl 2 rfl) ?_
      refine va_put (D := D) (ci := 1) (v := .int (iI x2)) (ty := .int) (C := R_Net) (T := F_Net) (N := 15) hx hb hT in_Net ty_Net ty_Net_ok n_Net hown hK hP hD hS 1 rfl rfl 1 (by decide) (hT _ m44) (fun _ h9 => h9) rfl (by decide +kernel) rfl rfl (Nat.le_of_ble_eq_true rfl) d_T_clock_42 (fun H locs hP hD hS => ?_)
      have hP : va_P D vwCl [(o_T a T_analysed), (o_N a x1 x2 N_size)] H := hP
      have hD : va_D A [(o_T a T_analysed), (o_N a x1 x2 N_size)] := hD
      refine lv_aload_n hx hb d_T_clock_45 rfl (lv_at hl 0 rfl) ?_
      refine zv_iconst hx hb d_T_clock_46 ?_
      refine va_put (D := D) (ci := 0) (v := .int (iI 0)) (ty := .boolean) (C := R_T) (T := F_T) (N := 7) hx hb hT in_T ty_T ty_T_ok n_T hown hK hP hD hS 0 rfl rfl 6 (by decide) (hT _ m415) (fun _ h9 => h9) rfl (by decide +kernel) rfl rfl (Nat.le_of_ble_eq_true rfl) d_T_clock_47 (fun H locs hP hD hS => ?_)
      have hP : va_P D vwCl [(o_T a 0), (o_N a x1 x2 N_size)] H := hP
      have hD : va_D A [(o_T a 0), (o_N a x1 x2 N_size)] := hD
      obtain ⟨e1, e2, e3⟩ := so3 h
      rw [hQ, e1, e2, e3]; rw [hAe] at hD hS; exact W.vret hx hb hr (fun t ht hW => ⟨⟨(), rfl, trivial, by rw [ht]; exact hP, va_K.moved hW.alike hK, hD⟩, hS.F ht⟩) hS.2.2 d_T_clock_50
    · replace h := if_t hc h
      exact hj21  H locs ls hP hD hS (lv_sub hl [] rfl) h
abbrev rm_T_isInputTime : Room := { frames := 0, cells := 0, slots := 0, locals := 0 }
set_option maxHeartbeats 4000000 in
set_option maxRecDepth 100000 in
theorem c_T_isInputTime (l : Launch) (D : va_G) (cI cJ cZ : ClassId) (F : Nat) (a : Nat → Nat) (x0 : Int) (x1 : Int) (r : Int) (sz : Nat) (h : f_T_isInputTime F x0 x1 = some (r)) : Met l y_T_isInputTime w_T_isInputTime rm_T_isInputTime (PC D [(cI, .int), (cJ, .long), (cZ, .boolean)] [.int (iI x0), .int (iI x1)] ([]) sz) (QcRead (iI r)) 0 0 (fun _ => False) := by
  refine Met.ofW (cc := prog_1_method_29_code) (maxL := 2) (ret := (Option.some Jvm.ClassFile.FieldType.boolean)) (by decide) rfl ?_
  intro p e s m args below meth c s₁ B hml hv
  obtain ⟨rfl, hsz, hP, hK, hD0, hN⟩ := hv
  have hx := B.exec
  have hb := B.bytes
  have hr := B.returns
  have hts := atoms_spec (ws := w_T_isInputTime) B.pre
  have hown : s.vm.findClass R_T = some m.cls := findClass_of_methodNamed B.named
  have hlocks := B.notSynchronized
  subst hsz
  have hl := lv_entry ([.int (iI x0), .int (iI x1)]) (n := 2) (Nat.le_of_ble_eq_true rfl)
  rw [lg_entry_eq]
  generalize (lg_sl ([.int (iI x0), .int (iI x1)]) ++ List.replicate (2 - (lg_sl ([.int (iI x0), .int (iI x1)])).length) Slot.unset).toArray = ls at hl ⊢
  have hl : lv_has ls 2 [(0, .int (iI x0)), (1, .int (iI x1))] := hl
  generalize (List.toArray ([.int (iI x0), .int (iI x1)] : List Value)) = args at hts ⊢
  have hT : ∀ w ∈ Tg, w.before args s = true := fun w h => hts w (List.mem_cons_of_mem _ h)
  obtain ⟨Q, hQ⟩ : ∃ Q, Q = MQ below (QcRead (iI r)) args s 0 0 (fun _ => False) := ⟨_, rfl⟩
  rw [← hQ]
  have hk0 := (show (Cond.constant "PathTiming" 230 (iI (-1000000))).before args s = true from by rw [show iI (-1000000) = ((-1000000) : Int32) from by decide]; exact hT _ m731)
  have hk1 := (show (Cond.constant "PathTiming" 67 (iI 1000000)).before args s = true from by rw [show iI 1000000 = (1000000 : Int32) from by decide]; exact hT _ m656)
  rw [f_T_isInputTime] at h
  refine lv_iload_n hx hb d_T_isInputTime_0 rfl (lv_at hl 0 rfl) ?_
  refine lv_ldc hx hb hown hk0 d_T_isInputTime_1 ?_
  have hj21 : ∀  (ls : Array Slot), lv_has ls 2 [] → f_T_isInputTime_j21 F = some (r) → W p l e (headSpec w_T_isInputTime rm_T_isInputTime).room s m args below meth c s.heap [] 0 0 Q (F0 m 21 ls []) := by
    intro  ls hl h
    rw [f_T_isInputTime_j21] at h
    refine zv_iconst hx hb d_T_isInputTime_21 ?_
    obtain ⟨hbo, h⟩ := gb_e h
    have e1 := so1 h
    rw [hQ, e1]; exact W.zret (ty := .boolean) hx hb hr (gb_n hbo) (fun t ht hW => ⟨rfl, ht⟩) (fun q h => nomatch h) d_T_isInputTime_22
  obtain ⟨hg0, h⟩ := gr_e h
  refine zc_lt hx hb d_T_isInputTime_3 rfl hg0 (by decide) (fun hc => ?_) (fun hc => ?_)
  · replace h := if_t hc h
    exact hj21  ls (lv_sub hl [] rfl) h
  · replace h := if_f hc h
    refine lv_iload_n hx hb d_T_isInputTime_6 rfl (lv_at hl 1 rfl) ?_
    refine lv_ldc hx hb hown hk1 d_T_isInputTime_7 ?_
    obtain ⟨hg0, h⟩ := gr_e h
    refine zc_gt hx hb d_T_isInputTime_9 rfl hg0 (by decide) (fun hc => ?_) (fun hc => ?_)
    · replace h := if_t hc h
      exact hj21  ls (lv_sub hl [] rfl) h
    · replace h := if_f hc h
      refine lv_iload_n hx hb d_T_isInputTime_12 rfl (lv_at hl 0 rfl) ?_
      refine lv_iload_n hx hb d_T_isInputTime_13 rfl (lv_at hl 1 rfl) ?_
      obtain ⟨hg0, h⟩ := gr_e h
      obtain ⟨hg1, h⟩ := gr_e h
      refine zc_gt hx hb d_T_isInputTime_14 rfl hg0 hg1 (fun hc => ?_) (fun hc => ?_)
      · replace h := if_t hc h
        exact hj21  ls (lv_sub hl [] rfl) h
      · replace h := if_f hc h
        refine zv_iconst hx hb d_T_isInputTime_17 ?_
        refine lv_goto hx hb d_T_isInputTime_18 rfl ?_
        obtain ⟨hbo, h⟩ := gb_e h
        have e1 := so1 h
        rw [hQ, e1]; exact W.zret (ty := .boolean) hx hb hr (gb_n hbo) (fun t ht hW => ⟨rfl, ht⟩) (fun q h => nomatch h) d_T_isInputTime_22
abbrev rm_Net_add : Room := { frames := 0, cells := 0, slots := 0, locals := 0 }
set_option maxHeartbeats 4000000 in
set_option maxRecDepth 100000 in
theorem c_Net_add (l : Launch) (D : va_G) (cI cJ cZ : ClassId) (F : Nat) (a : Nat → Nat) (N_period : Int) (N_width : Int) (N_size : Int) (N_kind : Int → Int) (N_pins : Int → Int) (x1 : Int) (x2 : Int) (r : Int) (z_N_size : Int) (z_N_kind : Int → Int) (z_N_pins : Int → Int) (sz : Nat) (h : f_Net_add F N_size N_kind N_pins x1 x2 = some (r, z_N_size, z_N_kind, z_N_pins)) : Met l y_Net_add w_Net_add rm_Net_add (PC D [(cI, .int), (cJ, .long), (cZ, .boolean)] [.ref (a 43), .int (iI x1), .int (iI x2)] ([(o_N a N_period N_width N_size), ((a 44), .inl (cI, 48, .inl (ia N_kind))), ((a 45), .inl (cI, 48, .inl (ia N_pins)))]) sz) (QI D [(cI, .int), (cJ, .long), (cZ, .boolean)] ([(o_N a N_period N_width N_size), ((a 44), .inl (cI, 48, .inl (ia N_kind))), ((a 45), .inl (cI, 48, .inl (ia N_pins)))]) sz r ([(o_N a N_period N_width z_N_size), ((a 44), .inl (cI, 48, .inl (ia z_N_kind))), ((a 45), .inl (cI, 48, .inl (ia z_N_pins)))])) 0 0 (va_A ([(o_N a N_period N_width N_size), ((a 44), .inl (cI, 48, .inl (ia N_kind))), ((a 45), .inl (cI, 48, .inl (ia N_pins)))]) sz) := by
  refine Met.ofW (cc := prog_5_method_2_code) (maxL := 3) (ret := (Option.some Jvm.ClassFile.FieldType.int)) (by decide) rfl ?_
  intro p e s m args below meth c s₁ B hml hv
  obtain ⟨rfl, hsz, hP, hK, hD0, hN⟩ := hv
  have hx := B.exec
  have hb := B.bytes
  have hr := B.returns
  have hts := atoms_spec (ws := w_Net_add) B.pre
  have hown : s.vm.findClass R_Net = some m.cls := findClass_of_methodNamed B.named
  have hlocks := B.notSynchronized
  subst hsz
  have hD := hD0.self (sz := s.heap.size)
  obtain ⟨A, hAe⟩ : ∃ A, A = va_A ([(o_N a N_period N_width N_size), ((a 44), .inl (cI, 48, .inl (ia N_kind))), ((a 45), .inl (cI, 48, .inl (ia N_pins)))]) s.heap.size := ⟨_, rfl⟩
  rw [← hAe] at hD
  have hA : ∀ q : Nat, s.heap.size ≤ q → A q := fun q h => by rw [hAe]; exact Or.inr h
  have hS : va_S A s.heap s.heap [] := va_S.rf
  have hl := lv_entry ([.ref (a 43), .int (iI x1), .int (iI x2)]) (n := 3) (Nat.le_of_ble_eq_true rfl)
  rw [lg_entry_eq]
  generalize (lg_sl ([.ref (a 43), .int (iI x1), .int (iI x2)]) ++ List.replicate (3 - (lg_sl ([.ref (a 43), .int (iI x1), .int (iI x2)])).length) Slot.unset).toArray = ls at hl ⊢
  have hl : lv_has ls 3 [(0, .ref (a 43)), (1, .int (iI x1)), (2, .int (iI x2))] := hl
  generalize (List.toArray ([.ref (a 43), .int (iI x1), .int (iI x2)] : List Value)) = args at hts ⊢
  have hT : ∀ w ∈ Tg, w.before args s = true := fun w h => hts w (List.mem_cons_of_mem _ h)
  obtain ⟨Q, hQ⟩ : ∃ Q, Q = MQ below (QI D [(cI, .int), (cJ, .long), (cZ, .boolean)] ([(o_N a N_period N_width N_size), ((a 44), .inl (cI, 48, .inl (ia N_kind))), ((a 45), .inl (cI, 48, .inl (ia N_pins)))]) s.heap.size r ([(o_N a N_period N_width z_N_size), ((a 44), .inl (cI, 48, .inl (ia z_N_kind))), ((a 45), .inl (cI, 48, .inl (ia z_N_pins)))])) args s 0 0 (va_A ([(o_N a N_period N_width N_size), ((a 44), .inl (cI, 48, .inl (ia N_kind))), ((a 45), .inl (cI, 48, .inl (ia N_pins)))]) s.heap.size) := ⟨_, rfl⟩
  rw [← hQ]
  suffices hW : ∀ (H : Heap) (locs : List Loc), va_P D vwCl ([(o_N a N_period N_width N_size), ((a 44), .inl (cI, 48, .inl (ia N_kind))), ((a 45), .inl (cI, 48, .inl (ia N_pins)))]) H → va_D A ([(o_N a N_period N_width N_size), ((a 44), .inl (cI, 48, .inl (ia N_kind))), ((a 45), .inl (cI, 48, .inl (ia N_pins)))]) → va_S A s.heap H locs → W p l e (headSpec w_Net_add rm_Net_add).room s m args below meth c H locs 0 0 Q (F0 m 0 ls []) from hW s.heap [] hP hD hS
  clear hP hD hS
  intro H locs hP hD hS
  rw [f_Net_add] at h
  refine lv_aload_n hx hb d_Net_add_0 rfl (lv_at hl 0 rfl) ?_
  refine va_get (D := D) (ci := 1) (v := .ref (a 44)) (C := R_Net) (T := F_Net) (N := 15) hx hb hT in_Net hown hK hP 0 rfl rfl 3 (by decide) (hT _ m54) (fun _ h9 => h9) rfl d_Net_add_1 ?_
  refine lv_aload_n hx hb d_Net_add_4 rfl (lv_at hl 0 rfl) ?_
  refine va_get (D := D) (ci := 1) (v := .int (iI N_size)) (C := R_Net) (T := F_Net) (N := 15) hx hb hT in_Net hown hK hP 0 rfl rfl 2 (by decide) (hT _ m47) (fun _ h9 => h9) rfl d_Net_add_5 ?_
  refine lv_iload_n hx hb d_Net_add_8 rfl (lv_at hl 1 rfl) ?_
  obtain ⟨hin, h⟩ := gi_e h
  refine zv_iast hx hb hK hP hD hS 1 0 rfl rfl (Nat.le_of_ble_eq_true rfl) hin d_Net_add_9 (fun H locs hP hD hS => ?_)
  obtain ⟨N_kind_1, hv⟩ : ∃ z, z = (ui N_kind N_size x1) := ⟨_, rfl⟩
  replace h := bd_e hv h
  have hP : va_P D vwCl [(o_N a N_period N_width N_size), ((a 44), .inl (cI, 48, .inl (ia N_kind_1))), ((a 45), .inl (cI, 48, .inl (ia N_pins)))] H := by rw [hv]; exact hP
  have hD : va_D A [(o_N a N_period N_width N_size), ((a 44), .inl (cI, 48, .inl (ia N_kind_1))), ((a 45), .inl (cI, 48, .inl (ia N_pins)))] := by rw [hv]; exact hD
  refine lv_aload_n hx hb d_Net_add_10 rfl (lv_at hl 0 rfl) ?_
  refine va_get (D := D) (ci := 1) (v := .ref (a 45)) (C := R_Net) (T := F_Net) (N := 15) hx hb hT in_Net hown hK hP 0 rfl rfl 4 (by decide) (hT _ m59) (fun _ h9 => h9) rfl d_Net_add_11 ?_
  refine lv_aload_n hx hb d_Net_add_14 rfl (lv_at hl 0 rfl) ?_
  refine va_get (D := D) (ci := 1) (v := .int (iI N_size)) (C := R_Net) (T := F_Net) (N := 15) hx hb hT in_Net hown hK hP 0 rfl rfl 2 (by decide) (hT _ m47) (fun _ h9 => h9) rfl d_Net_add_15 ?_
  refine lv_iload_n hx hb d_Net_add_18 rfl (lv_at hl 2 rfl) ?_
  obtain ⟨hin, h⟩ := gi_e h
  refine zv_iast hx hb hK hP hD hS 2 0 rfl rfl (Nat.le_of_ble_eq_true rfl) hin d_Net_add_19 (fun H locs hP hD hS => ?_)
  obtain ⟨N_pins_2, hv⟩ : ∃ z, z = (ui N_pins N_size x2) := ⟨_, rfl⟩
  replace h := bd_e hv h
  have hP : va_P D vwCl [(o_N a N_period N_width N_size), ((a 44), .inl (cI, 48, .inl (ia N_kind_1))), ((a 45), .inl (cI, 48, .inl (ia N_pins_2)))] H := by rw [hv]; exact hP
  have hD : va_D A [(o_N a N_period N_width N_size), ((a 44), .inl (cI, 48, .inl (ia N_kind_1))), ((a 45), .inl (cI, 48, .inl (ia N_pins_2)))] := by rw [hv]; exact hD
  refine lv_aload_n hx hb d_Net_add_20 rfl (lv_at hl 0 rfl) ?_
  refine lv_dup hx hb d_Net_add_21 rfl ?_
  refine va_get (D := D) (ci := 1) (v := .int (iI N_size)) (C := R_Net) (T := F_Net) (N := 15) hx hb hT in_Net hown hK hP 0 rfl rfl 2 (by decide) (hT _ m47) (fun _ h9 => h9) rfl d_Net_add_22 ?_
  refine zv_iconst hx hb d_Net_add_25 ?_
  refine zv_iadd hx hb d_Net_add_26 ?_
  refine va_put (D := D) (ci := 1) (v := .int (iI (N_size + 1))) (ty := .int) (C := R_Net) (T := F_Net) (N := 15) hx hb hT in_Net ty_Net ty_Net_ok n_Net hown hK hP hD hS 0 rfl rfl 2 (by decide) (hT _ m47) (fun _ h9 => h9) rfl (by decide +kernel) rfl rfl (Nat.le_of_ble_eq_true rfl) d_Net_add_27 (fun H locs hP hD hS => ?_)
  have hP : va_P D vwCl [(o_N a N_period N_width (N_size + 1)), ((a 44), .inl (cI, 48, .inl (ia N_kind_1))), ((a 45), .inl (cI, 48, .inl (ia N_pins_2)))] H := hP
  have hD : va_D A [(o_N a N_period N_width (N_size + 1)), ((a 44), .inl (cI, 48, .inl (ia N_kind_1))), ((a 45), .inl (cI, 48, .inl (ia N_pins_2)))] := hD
  refine lv_aload_n hx hb d_Net_add_30 rfl (lv_at hl 0 rfl) ?_
  refine va_get (D := D) (ci := 1) (v := .int (iI (N_size + 1))) (C := R_Net) (T := F_Net) (N := 15) hx hb hT in_Net hown hK hP 0 rfl rfl 2 (by decide) (hT _ m47) (fun _ h9 => h9) rfl d_Net_add_31 ?_
  refine zv_iconst hx hb d_Net_add_34 ?_
  refine zv_isub hx hb d_Net_add_35 ?_
  obtain ⟨e1, e2, e3, e4⟩ := so4 h
  rw [hQ, e1, e2, e3, e4]; rw [hAe] at hD hS; exact W.iret hx hb hr (fun t ht hW => ⟨⟨_, (), rfl, rfl, by rw [ht]; exact hP, va_K.moved hW.alike hK, hD⟩, hS.F ht⟩) hS.2.2 d_Net_add_36
abbrev rm_T_addNode : Room := { frames := 1, cells := 0, slots := 0, locals := 22 }
set_option maxHeartbeats 4000000 in
set_option maxRecDepth 100000 in
theorem c_T_addNode (l : Launch) (D : va_G) (cI cJ cZ : ClassId) (F : Nat) (a : Nat → Nat) (T_analysed : Int) (N_period : Int) (N_width : Int) (N_size : Int) (N_kind : Int → Int) (N_pins : Int → Int) (x1 : Int) (x2 : Int) (r : Int) (z_T_analysed : Int) (z_N_size : Int) (z_N_kind : Int → Int) (z_N_pins : Int → Int) (sz : Nat) (h : f_T_addNode F T_analysed N_size N_kind N_pins x1 x2 = some (r, z_T_analysed, z_N_size, z_N_kind, z_N_pins)) : Met l y_T_addNode w_T_addNode rm_T_addNode (PC D [(cI, .int), (cJ, .long), (cZ, .boolean)] [.ref (a 0), .int (iI x1), .int (iI x2)] ([(o_T a T_analysed), (o_N a N_period N_width N_size), ((a 44), .inl (cI, 48, .inl (ia N_kind))), ((a 45), .inl (cI, 48, .inl (ia N_pins)))]) sz) (QI D [(cI, .int), (cJ, .long), (cZ, .boolean)] ([(o_T a T_analysed), (o_N a N_period N_width N_size), ((a 44), .inl (cI, 48, .inl (ia N_kind))), ((a 45), .inl (cI, 48, .inl (ia N_pins)))]) sz r ([(o_T a z_T_analysed), (o_N a N_period N_width z_N_size), ((a 44), .inl (cI, 48, .inl (ia z_N_kind))), ((a 45), .inl (cI, 48, .inl (ia z_N_pins)))])) 0 0 (va_A ([(o_T a T_analysed), (o_N a N_period N_width N_size), ((a 44), .inl (cI, 48, .inl (ia N_kind))), ((a 45), .inl (cI, 48, .inl (ia N_pins)))]) sz) := by
  refine Met.ofW (cc := prog_1_method_22_code) (maxL := 3) (ret := (Option.some Jvm.ClassFile.FieldType.int)) (by decide) rfl ?_
  intro p e s m args below meth c s₁ B hml hv
  obtain ⟨rfl, hsz, hP, hK, hD0, hN⟩ := hv
  have hx := B.exec
  have hb := B.bytes
  have hr := B.returns
  have hts := atoms_spec (ws := w_T_addNode) B.pre
  have hown : s.vm.findClass R_T = some m.cls := findClass_of_methodNamed B.named
  have hlocks := B.notSynchronized
  subst hsz
  have hD := hD0.self (sz := s.heap.size)
  obtain ⟨A, hAe⟩ : ∃ A, A = va_A ([(o_T a T_analysed), (o_N a N_period N_width N_size), ((a 44), .inl (cI, 48, .inl (ia N_kind))), ((a 45), .inl (cI, 48, .inl (ia N_pins)))]) s.heap.size := ⟨_, rfl⟩
  rw [← hAe] at hD
  have hA : ∀ q : Nat, s.heap.size ≤ q → A q := fun q h => by rw [hAe]; exact Or.inr h
  have hS : va_S A s.heap s.heap [] := va_S.rf
  have hl := lv_entry ([.ref (a 0), .int (iI x1), .int (iI x2)]) (n := 3) (Nat.le_of_ble_eq_true rfl)
  rw [lg_entry_eq]
  generalize (lg_sl ([.ref (a 0), .int (iI x1), .int (iI x2)]) ++ List.replicate (3 - (lg_sl ([.ref (a 0), .int (iI x1), .int (iI x2)])).length) Slot.unset).toArray = ls at hl ⊢
  have hl : lv_has ls 3 [(0, .ref (a 0)), (1, .int (iI x1)), (2, .int (iI x2))] := hl
  generalize (List.toArray ([.ref (a 0), .int (iI x1), .int (iI x2)] : List Value)) = args at hts ⊢
  have hT : ∀ w ∈ Tg, w.before args s = true := fun w h => hts w (List.mem_cons_of_mem _ h)
  obtain ⟨Q, hQ⟩ : ∃ Q, Q = MQ below (QI D [(cI, .int), (cJ, .long), (cZ, .boolean)] ([(o_T a T_analysed), (o_N a N_period N_width N_size), ((a 44), .inl (cI, 48, .inl (ia N_kind))), ((a 45), .inl (cI, 48, .inl (ia N_pins)))]) s.heap.size r ([(o_T a z_T_analysed), (o_N a N_period N_width z_N_size), ((a 44), .inl (cI, 48, .inl (ia z_N_kind))), ((a 45), .inl (cI, 48, .inl (ia z_N_pins)))])) args s 0 0 (va_A ([(o_T a T_analysed), (o_N a N_period N_width N_size), ((a 44), .inl (cI, 48, .inl (ia N_kind))), ((a 45), .inl (cI, 48, .inl (ia N_pins)))]) s.heap.size) := ⟨_, rfl⟩
  rw [← hQ]
  suffices hW : ∀ (H : Heap) (locs : List Loc), va_P D vwCl ([(o_T a T_analysed), (o_N a N_period N_width N_size), ((a 44), .inl (cI, 48, .inl (ia N_kind))), ((a 45), .inl (cI, 48, .inl (ia N_pins)))]) H → va_D A ([(o_T a T_analysed), (o_N a N_period N_width N_size), ((a 44), .inl (cI, 48, .inl (ia N_kind))), ((a 45), .inl (cI, 48, .inl (ia N_pins)))]) → va_S A s.heap H locs → W p l e (headSpec w_T_addNode rm_T_addNode).room s m args below meth c H locs 0 0 Q (F0 m 0 ls []) from hW s.heap [] hP hD hS
  clear hP hD hS
  intro H locs hP hD hS
  have hk0 := (show (Cond.constant "PathTiming" 94 (iI (-2147483648))).before args s = true from by rw [show iI (-2147483648) = ((-2147483648) : Int32) from by decide]; exact hT _ m439)
  rw [f_T_addNode] at h
  refine lv_aload_n hx hb d_T_addNode_0 rfl (lv_at hl 0 rfl) ?_
  refine va_get (D := D) (ci := 0) (v := .ref (a 43)) (C := R_T) (T := F_T) (N := 7) hx hb hT in_T hown hK hP 0 rfl rfl 0 (by decide) (hT _ m409) (fun _ h9 => h9) rfl d_T_addNode_1 ?_
  refine va_get (D := D) (ci := 1) (v := .int (iI N_size)) (C := R_Net) (T := F_Net) (N := 15) hx hb hT in_Net hown hK hP 1 rfl rfl 2 (by decide) (hT _ m53) (fun _ h9 => h9) rfl d_T_addNode_4 ?_
  refine lv_bipush (v := iI 48) hx hb d_T_addNode_7 (by decide) ?_
  obtain ⟨hg0, h⟩ := gr_e h
  refine zc_lt hx hb d_T_addNode_9 rfl hg0 (by decide) (fun hc => ?_) (fun hc => ?_)
  · replace h := if_t hc h
    refine lv_aload_n hx hb d_T_addNode_15 rfl (lv_at hl 0 rfl) ?_
    refine zv_iconst hx hb d_T_addNode_16 ?_
    refine va_put (D := D) (ci := 0) (v := .int (iI 0)) (ty := .boolean) (C := R_T) (T := F_T) (N := 7) hx hb hT in_T ty_T ty_T_ok n_T hown hK hP hD hS 0 rfl rfl 6 (by decide) (hT _ m415) (fun _ h9 => h9) rfl (by decide +kernel) rfl rfl (Nat.le_of_ble_eq_true rfl) d_T_addNode_17 (fun H locs hP hD hS => ?_)
    have hP : va_P D vwCl [(o_T a 0), (o_N a N_period N_width N_size), ((a 44), .inl (cI, 48, .inl (ia N_kind))), ((a 45), .inl (cI, 48, .inl (ia N_pins)))] H := hP
    have hD : va_D A [(o_T a 0), (o_N a N_period N_width N_size), ((a 44), .inl (cI, 48, .inl (ia N_kind))), ((a 45), .inl (cI, 48, .inl (ia N_pins)))] := hD
    refine lv_aload_n hx hb d_T_addNode_20 rfl (lv_at hl 0 rfl) ?_
    refine va_get (D := D) (ci := 0) (v := .ref (a 43)) (C := R_T) (T := F_T) (N := 7) hx hb hT in_T hown hK hP 0 rfl rfl 0 (by decide) (hT _ m409) (fun _ h9 => h9) rfl d_T_addNode_21 ?_
    refine lv_iload_n hx hb d_T_addNode_24 rfl (lv_at hl 1 rfl) ?_
    refine lv_iload_n hx hb d_T_addNode_25 rfl (lv_at hl 2 rfl) ?_
    obtain ⟨r26, N_size_1, N_kind_2, N_pins_3, hcall, h⟩ := ob4_e h
    refine ca_i (w2 := [(o_T a 0), (o_N a N_period N_width N_size_1), ((a 44), .inl (cI, 48, .inl (ia N_kind_2))), ((a 45), .inl (cI, 48, .inl (ia N_pins_3)))]) (va_runV (As := [.int (iI x1), .int (iI x2)]) (rest := []) ⟨hx, hb, hml, hown, hts⟩ (c_Net_add l D cI cJ cZ F a N_period N_width N_size N_kind N_pins x1 x2 r26 N_size_1 N_kind_2 N_pins_3 H.size hcall) (cwV 2 hts (gd_V m443 m440 m441 m442 m2) rfl rfl rfl ⟨rfl, hc_Net_add⟩ ⟨Nat.le_of_ble_eq_true rfl, Nat.le_of_ble_eq_true rfl⟩) (pc_V 1 1 [.int (iI x1), .int (iI x2)] hP hK hD hN [1, 2, 3] rfl rfl rfl rfl rfl) rfl rfl hl.1 rfl (lv_room (Nat.le_of_ble_eq_true rfl)) d_T_addNode_26 ⟨Nat.le_refl 0, Nat.le_refl 0⟩) hP hD hS hA [1, 2, 3] [0] [0, 1, 2, 3] rfl rfl rfl (by decide) rfl rfl rfl (fun H locs hP hD hS => ?_)
    obtain ⟨e1, e2, e3, e4, e5⟩ := so5 h
    rw [hQ, e1, e2, e3, e4, e5]; rw [hAe] at hD hS; exact W.iret hx hb hr (fun t ht hW => ⟨⟨_, (), rfl, rfl, by rw [ht]; exact hP, va_K.moved hW.alike hK, hD⟩, hS.F ht⟩) hS.2.2 d_T_addNode_29
  · replace h := if_f hc h
    refine lv_ldc hx hb hown hk0 d_T_addNode_12 ?_
    obtain ⟨e1, e2, e3, e4, e5⟩ := so5 h
    rw [hQ, e1, e2, e3, e4, e5]; rw [hAe] at hD hS; exact W.iret hx hb hr (fun t ht hW => ⟨⟨_, (), rfl, rfl, by rw [ht]; exact hP, va_K.moved hW.alike hK, hD⟩, hS.F ht⟩) hS.2.2 d_T_addNode_14
abbrev rm_Net_setStart : Room := { frames := 0, cells := 0, slots := 0, locals := 0 }
set_option maxHeartbeats 4000000 in
set_option maxRecDepth 100000 in
theorem c_Net_setStart (l : Launch) (D : va_G) (cI cJ cZ : ClassId) (F : Nat) (a : Nat → Nat) (N_period : Int) (N_width : Int) (N_size : Int) (N_startEarly : Int → Int) (N_startLate : Int → Int) (x1 : Int) (x2 : Int) (x3 : Int) (x4 : Int) (z_N_startEarly : Int → Int) (z_N_startLate : Int → Int) (sz : Nat) (h : f_Net_setStart F N_startEarly N_startLate x1 x2 x3 x4 = some (z_N_startEarly, z_N_startLate)) : Met l y_Net_setStart w_Net_setStart rm_Net_setStart (PC D [(cI, .int), (cJ, .long), (cZ, .boolean)] [.ref (a 43), .int (iI x1), .int (iI x2), .int (iI x3), .int (iI x4)] ([(o_N a N_period N_width N_size), ((a 52), .inl (cI, 96, .inl (ia N_startEarly))), ((a 53), .inl (cI, 96, .inl (ia N_startLate)))]) sz) (QV D [(cI, .int), (cJ, .long), (cZ, .boolean)] ([(o_N a N_period N_width N_size), ((a 52), .inl (cI, 96, .inl (ia N_startEarly))), ((a 53), .inl (cI, 96, .inl (ia N_startLate)))]) sz ([(o_N a N_period N_width N_size), ((a 52), .inl (cI, 96, .inl (ia z_N_startEarly))), ((a 53), .inl (cI, 96, .inl (ia z_N_startLate)))])) 0 0 (va_A ([(o_N a N_period N_width N_size), ((a 52), .inl (cI, 96, .inl (ia N_startEarly))), ((a 53), .inl (cI, 96, .inl (ia N_startLate)))]) sz) := by
  refine Met.ofW (cc := prog_5_method_11_code) (maxL := 5) (ret := (Option.none : Option Jvm.ClassFile.FieldType)) (by decide) rfl ?_
  intro p e s m args below meth c s₁ B hml hv
  obtain ⟨rfl, hsz, hP, hK, hD0, hN⟩ := hv
  have hx := B.exec
  have hb := B.bytes
  have hr := B.returns
  have hts := atoms_spec (ws := w_Net_setStart) B.pre
  have hown : s.vm.findClass R_Net = some m.cls := findClass_of_methodNamed B.named
  have hlocks := B.notSynchronized
  subst hsz
  have hD := hD0.self (sz := s.heap.size)
  obtain ⟨A, hAe⟩ : ∃ A, A = va_A ([(o_N a N_period N_width N_size), ((a 52), .inl (cI, 96, .inl (ia N_startEarly))), ((a 53), .inl (cI, 96, .inl (ia N_startLate)))]) s.heap.size := ⟨_, rfl⟩
  rw [← hAe] at hD
  have hA : ∀ q : Nat, s.heap.size ≤ q → A q := fun q h => by rw [hAe]; exact Or.inr h
  have hS : va_S A s.heap s.heap [] := va_S.rf
  have hl := lv_entry ([.ref (a 43), .int (iI x1), .int (iI x2), .int (iI x3), .int (iI x4)]) (n := 5) (Nat.le_of_ble_eq_true rfl)
  rw [lg_entry_eq]
  generalize (lg_sl ([.ref (a 43), .int (iI x1), .int (iI x2), .int (iI x3), .int (iI x4)]) ++ List.replicate (5 - (lg_sl ([.ref (a 43), .int (iI x1), .int (iI x2), .int (iI x3), .int (iI x4)])).length) Slot.unset).toArray = ls at hl ⊢
  have hl : lv_has ls 5 [(0, .ref (a 43)), (1, .int (iI x1)), (2, .int (iI x2)), (3, .int (iI x3)), (4, .int (iI x4))] := hl
  generalize (List.toArray ([.ref (a 43), .int (iI x1), .int (iI x2), .int (iI x3), .int (iI x4)] : List Value)) = args at hts ⊢
  have hT : ∀ w ∈ Tg, w.before args s = true := fun w h => hts w (List.mem_cons_of_mem _ h)
  obtain ⟨Q, hQ⟩ : ∃ Q, Q = MQ below (QV D [(cI, .int), (cJ, .long), (cZ, .boolean)] ([(o_N a N_period N_width N_size), ((a 52), .inl (cI, 96, .inl (ia N_startEarly))), ((a 53), .inl (cI, 96, .inl (ia N_startLate)))]) s.heap.size ([(o_N a N_period N_width N_size), ((a 52), .inl (cI, 96, .inl (ia z_N_startEarly))), ((a 53), .inl (cI, 96, .inl (ia z_N_startLate)))])) args s 0 0 (va_A ([(o_N a N_period N_width N_size), ((a 52), .inl (cI, 96, .inl (ia N_startEarly))), ((a 53), .inl (cI, 96, .inl (ia N_startLate)))]) s.heap.size) := ⟨_, rfl⟩
  rw [← hQ]
  suffices hW : ∀ (H : Heap) (locs : List Loc), va_P D vwCl ([(o_N a N_period N_width N_size), ((a 52), .inl (cI, 96, .inl (ia N_startEarly))), ((a 53), .inl (cI, 96, .inl (ia N_startLate)))]) H → va_D A ([(o_N a N_period N_width N_size), ((a 52), .inl (cI, 96, .inl (ia N_startEarly))), ((a 53), .inl (cI, 96, .inl (ia N_startLate)))]) → va_S A s.heap H locs → W p l e (headSpec w_Net_setStart rm_Net_setStart).room s m args below meth c H locs 0 0 Q (F0 m 0 ls []) from hW s.heap [] hP hD hS
  clear hP hD hS
  intro H locs hP hD hS
  rw [f_Net_setStart] at h
  refine lv_aload_n hx hb d_Net_setStart_0 rfl (lv_at hl 0 rfl) ?_
  refine va_get (D := D) (ci := 1) (v := .ref (a 52)) (C := R_Net) (T := F_Net) (N := 15) hx hb hT in_Net hown hK hP 0 rfl rfl 11 (by decide) (hT _ m85) (fun _ h9 => h9) rfl d_Net_setStart_1 ?_
  refine zv_iconst hx hb d_Net_setStart_4 ?_
  refine lv_iload_n hx hb d_Net_setStart_5 rfl (lv_at hl 1 rfl) ?_
  refine zv_imul hx hb d_Net_setStart_6 ?_
  refine lv_iload_n hx hb d_Net_setStart_7 rfl (lv_at hl 2 rfl) ?_
  refine zv_iadd hx hb d_Net_setStart_8 ?_
  refine lv_iload_n hx hb d_Net_setStart_9 rfl (lv_at hl 3 rfl) ?_
  obtain ⟨hin, h⟩ := gi_e h
  refine zv_iast hx hb hK hP hD hS 1 0 rfl rfl (Nat.le_of_ble_eq_true rfl) hin d_Net_setStart_10 (fun H locs hP hD hS => ?_)
  obtain ⟨N_startEarly_1, hv⟩ : ∃ z, z = (ui N_startEarly ((2 * x1) + x2) x3) := ⟨_, rfl⟩
  replace h := bd_e hv h
  have hP : va_P D vwCl [(o_N a N_period N_width N_size), ((a 52), .inl (cI, 96, .inl (ia N_startEarly_1))), ((a 53), .inl (cI, 96, .inl (ia N_startLate)))] H := by rw [hv]; exact hP
  have hD : va_D A [(o_N a N_period N_width N_size), ((a 52), .inl (cI, 96, .inl (ia N_startEarly_1))), ((a 53), .inl (cI, 96, .inl (ia N_startLate)))] := by rw [hv]; exact hD
  refine lv_aload_n hx hb d_Net_setStart_11 rfl (lv_at hl 0 rfl) ?_
  refine va_get (D := D) (ci := 1) (v := .ref (a 53)) (C := R_Net) (T := F_Net) (N := 15) hx hb hT in_Net hown hK hP 0 rfl rfl 12 (by decide) (hT _ m89) (fun _ h9 => h9) rfl d_Net_setStart_12 ?_
  refine zv_iconst hx hb d_Net_setStart_15 ?_
  refine lv_iload_n hx hb d_Net_setStart_16 rfl (lv_at hl 1 rfl) ?_
  refine zv_imul hx hb d_Net_setStart_17 ?_
  refine lv_iload_n hx hb d_Net_setStart_18 rfl (lv_at hl 2 rfl) ?_
  refine zv_iadd hx hb d_Net_setStart_19 ?_
  refine lv_iload hx hb d_Net_setStart_20 (lv_at hl 4 rfl) ?_
  obtain ⟨hin, h⟩ := gi_e h
  refine zv_iast hx hb hK hP hD hS 2 0 rfl rfl (Nat.le_of_ble_eq_true rfl) hin d_Net_setStart_22 (fun H locs hP hD hS => ?_)
  obtain ⟨N_startLate_2, hv⟩ : ∃ z, z = (ui N_startLate ((2 * x1) + x2) x4) := ⟨_, rfl⟩
  replace h := bd_e hv h
  have hP : va_P D vwCl [(o_N a N_period N_width N_size), ((a 52), .inl (cI, 96, .inl (ia N_startEarly_1))), ((a 53), .inl (cI, 96, .inl (ia N_startLate_2)))] H := by rw [hv]; exact hP
  have hD : va_D A [(o_N a N_period N_width N_size), ((a 52), .inl (cI, 96, .inl (ia N_startEarly_1))), ((a 53), .inl (cI, 96, .inl (ia N_startLate_2)))] := by rw [hv]; exact hD
  obtain ⟨e1, e2⟩ := so2 h
  rw [hQ, e1, e2]; rw [hAe] at hD hS; exact W.vret hx hb hr (fun t ht hW => ⟨⟨(), rfl, trivial, by rw [ht]; exact hP, va_K.moved hW.alike hK, hD⟩, hS.F ht⟩) hS.2.2 d_Net_setStart_23
abbrev rm_T_input : Room := { frames := 6, cells := 0, slots := 0, locals := 110 }
set_option maxHeartbeats 4000000 in
set_option maxRecDepth 100000 in
theorem c_T_input (l : Launch) (D : va_G) (cI cJ cZ : ClassId) (F : Nat) (a : Nat → Nat) (T_analysed : Int) (N_period : Int) (N_width : Int) (N_size : Int) (N_kind : Int → Int) (N_pins : Int → Int) (N_startEarly : Int → Int) (N_startLate : Int → Int) (x1 : Int) (x2 : Int) (x3 : Int) (x4 : Int) (r : Int) (z_T_analysed : Int) (z_N_size : Int) (z_N_kind : Int → Int) (z_N_pins : Int → Int) (z_N_startEarly : Int → Int) (z_N_startLate : Int → Int) (sz : Nat) (h : f_T_input F T_analysed N_size N_kind N_pins N_startEarly N_startLate x1 x2 x3 x4 = some (r, z_T_analysed, z_N_size, z_N_kind, z_N_pins, z_N_startEarly, z_N_startLate)) : Met l y_T_input w_T_input rm_T_input (PC D [(cI, .int), (cJ, .long), (cZ, .boolean)] [.ref (a 0), .int (iI x1), .int (iI x2), .int (iI x3), .int (iI x4)] ([(o_T a T_analysed), (o_N a N_period N_width N_size), ((a 44), .inl (cI, 48, .inl (ia N_kind))), ((a 45), .inl (cI, 48, .inl (ia N_pins))), ((a 52), .inl (cI, 96, .inl (ia N_startEarly))), ((a 53), .inl (cI, 96, .inl (ia N_startLate)))]) sz) (QI D [(cI, .int), (cJ, .long), (cZ, .boolean)] ([(o_T a T_analysed), (o_N a N_period N_width N_size), ((a 44), .inl (cI, 48, .inl (ia N_kind))), ((a 45), .inl (cI, 48, .inl (ia N_pins))), ((a 52), .inl (cI, 96, .inl (ia N_startEarly))), ((a 53), .inl (cI, 96, .inl (ia N_startLate)))]) sz r ([(o_T a z_T_analysed), (o_N a N_period N_width z_N_size), ((a 44), .inl (cI, 48, .inl (ia z_N_kind))), ((a 45), .inl (cI, 48, .inl (ia z_N_pins))), ((a 52), .inl (cI, 96, .inl (ia z_N_startEarly))), ((a 53), .inl (cI, 96, .inl (ia z_N_startLate)))])) 0 0 (va_A ([(o_T a T_analysed), (o_N a N_period N_width N_size), ((a 44), .inl (cI, 48, .inl (ia N_kind))), ((a 45), .inl (cI, 48, .inl (ia N_pins))), ((a 52), .inl (cI, 96, .inl (ia N_startEarly))), ((a 53), .inl (cI, 96, .inl (ia N_startLate)))]) sz) := by
  refine Met.ofW (cc := prog_1_method_3_code) (maxL := 6) (ret := (Option.some Jvm.ClassFile.FieldType.int)) (by decide) rfl ?_
  intro p e s m args below meth c s₁ B hml hv
  obtain ⟨rfl, hsz, hP, hK, hD0, hN⟩ := hv
  have hx := B.exec
  have hb := B.bytes
  have hr := B.returns
  have hts := atoms_spec (ws := w_T_input) B.pre
  have hown : s.vm.findClass R_T = some m.cls := findClass_of_methodNamed B.named
  have hlocks := B.notSynchronized
  subst hsz
  have hD := hD0.self (sz := s.heap.size)
  obtain ⟨A, hAe⟩ : ∃ A, A = va_A ([(o_T a T_analysed), (o_N a N_period N_width N_size), ((a 44), .inl (cI, 48, .inl (ia N_kind))), ((a 45), .inl (cI, 48, .inl (ia N_pins))), ((a 52), .inl (cI, 96, .inl (ia N_startEarly))), ((a 53), .inl (cI, 96, .inl (ia N_startLate)))]) s.heap.size := ⟨_, rfl⟩
  rw [← hAe] at hD
  have hA : ∀ q : Nat, s.heap.size ≤ q → A q := fun q h => by rw [hAe]; exact Or.inr h
  have hS : va_S A s.heap s.heap [] := va_S.rf
  have hl := lv_entry ([.ref (a 0), .int (iI x1), .int (iI x2), .int (iI x3), .int (iI x4)]) (n := 6) (Nat.le_of_ble_eq_true rfl)
  rw [lg_entry_eq]
  generalize (lg_sl ([.ref (a 0), .int (iI x1), .int (iI x2), .int (iI x3), .int (iI x4)]) ++ List.replicate (6 - (lg_sl ([.ref (a 0), .int (iI x1), .int (iI x2), .int (iI x3), .int (iI x4)])).length) Slot.unset).toArray = ls at hl ⊢
  have hl : lv_has ls 6 [(0, .ref (a 0)), (1, .int (iI x1)), (2, .int (iI x2)), (3, .int (iI x3)), (4, .int (iI x4))] := hl
  generalize (List.toArray ([.ref (a 0), .int (iI x1), .int (iI x2), .int (iI x3), .int (iI x4)] : List Value)) = args at hts ⊢
  have hT : ∀ w ∈ Tg, w.before args s = true := fun w h => hts w (List.mem_cons_of_mem _ h)
  obtain ⟨Q, hQ⟩ : ∃ Q, Q = MQ below (QI D [(cI, .int), (cJ, .long), (cZ, .boolean)] ([(o_T a T_analysed), (o_N a N_period N_width N_size), ((a 44), .inl (cI, 48, .inl (ia N_kind))), ((a 45), .inl (cI, 48, .inl (ia N_pins))), ((a 52), .inl (cI, 96, .inl (ia N_startEarly))), ((a 53), .inl (cI, 96, .inl (ia N_startLate)))]) s.heap.size r ([(o_T a z_T_analysed), (o_N a N_period N_width z_N_size), ((a 44), .inl (cI, 48, .inl (ia z_N_kind))), ((a 45), .inl (cI, 48, .inl (ia z_N_pins))), ((a 52), .inl (cI, 96, .inl (ia z_N_startEarly))), ((a 53), .inl (cI, 96, .inl (ia z_N_startLate)))])) args s 0 0 (va_A ([(o_T a T_analysed), (o_N a N_period N_width N_size), ((a 44), .inl (cI, 48, .inl (ia N_kind))), ((a 45), .inl (cI, 48, .inl (ia N_pins))), ((a 52), .inl (cI, 96, .inl (ia N_startEarly))), ((a 53), .inl (cI, 96, .inl (ia N_startLate)))]) s.heap.size) := ⟨_, rfl⟩
  rw [← hQ]
  suffices hW : ∀ (H : Heap) (locs : List Loc), va_P D vwCl ([(o_T a T_analysed), (o_N a N_period N_width N_size), ((a 44), .inl (cI, 48, .inl (ia N_kind))), ((a 45), .inl (cI, 48, .inl (ia N_pins))), ((a 52), .inl (cI, 96, .inl (ia N_startEarly))), ((a 53), .inl (cI, 96, .inl (ia N_startLate)))]) H → va_D A ([(o_T a T_analysed), (o_N a N_period N_width N_size), ((a 44), .inl (cI, 48, .inl (ia N_kind))), ((a 45), .inl (cI, 48, .inl (ia N_pins))), ((a 52), .inl (cI, 96, .inl (ia N_startEarly))), ((a 53), .inl (cI, 96, .inl (ia N_startLate)))]) → va_S A s.heap H locs → W p l e (headSpec w_T_input rm_T_input).room s m args below meth c H locs 0 0 Q (F0 m 0 ls []) from hW s.heap [] hP hD hS
  clear hP hD hS
  intro H locs hP hD hS
  have hk0 := (show (Cond.constant "PathTiming" 94 (iI (-2147483648))).before args s = true from by rw [show iI (-2147483648) = ((-2147483648) : Int32) from by decide]; exact hT _ m439)
  rw [f_T_input] at h
  refine lv_iload_n hx hb d_T_input_0 rfl (lv_at hl 1 rfl) ?_
  refine lv_iload_n hx hb d_T_input_1 rfl (lv_at hl 2 rfl) ?_
  obtain ⟨r2, hcall, h⟩ := ob1_e h
  refine ro_i (va_Run.run (va_runS (As := [.int (iI x1), .int (iI x2)]) (rest := []) ⟨hx, hb, hml, hown, hts⟩ (c_T_isInputTime l D cI cJ cZ F a x1 x2 r2 H.size hcall) (cwS 2 hts (gd_S m730 m728 m729 m1) rfl rfl rfl ⟨rfl, hc_T_isInputTime⟩ ⟨Nat.le_of_ble_eq_true rfl, Nat.le_of_ble_eq_true rfl⟩) (pc_S [.int (iI x1), .int (iI x2)] hP hK hD hN [] rfl rfl rfl) rfl rfl hl.1 rfl (lv_room (Nat.le_of_ble_eq_true rfl)) d_T_input_2 ⟨Nat.le_refl 0, Nat.le_refl 0⟩)) (W.eq (g2 := F0 m 5 ls [.int (iI r2)]) rfl ?_)
  have hj17 : ∀  (H : Heap) (locs : List Loc) (ls : Array Slot), va_P D vwCl [(o_T a T_analysed), (o_N a N_period N_width N_size), ((a 44), .inl (cI, 48, .inl (ia N_kind))), ((a 45), .inl (cI, 48, .inl (ia N_pins))), ((a 52), .inl (cI, 96, .inl (ia N_startEarly))), ((a 53), .inl (cI, 96, .inl (ia N_startLate)))] H → va_D A [(o_T a T_analysed), (o_N a N_period N_width N_size), ((a 44), .inl (cI, 48, .inl (ia N_kind))), ((a 45), .inl (cI, 48, .inl (ia N_pins))), ((a 52), .inl (cI, 96, .inl (ia N_startEarly))), ((a 53), .inl (cI, 96, .inl (ia N_startLate)))] → va_S A s.heap H locs → lv_has ls 6 [] → f_T_input_j17 F = some (r, z_T_analysed, z_N_size, z_N_kind, z_N_pins, z_N_startEarly, z_N_startLate) → W p l e (headSpec w_T_input rm_T_input).room s m args below meth c H locs 0 0 Q (F0 m 17 ls []) := by
    intro  H locs ls hP hD hS hl h
    rw [f_T_input_j17] at h
    exact no_some h
  obtain ⟨hg0, h⟩ := gr_e h
  refine zi_eq hx hb d_T_input_5 rfl hg0 (fun hc => ?_) (fun hc => ?_)
  · replace h := if_t hc h
    exact hj17  H locs ls hP hD hS (lv_sub hl [] rfl) h
  · replace h := if_f hc h
    refine lv_iload_n hx hb d_T_input_8 rfl (lv_at hl 3 rfl) ?_
    refine lv_iload hx hb d_T_input_9 (lv_at hl 4 rfl) ?_
    obtain ⟨r11, hcall, h⟩ := ob1_e h
    refine ro_i (va_Run.run (va_runS (As := [.int (iI x3), .int (iI x4)]) (rest := []) ⟨hx, hb, hml, hown, hts⟩ (c_T_isInputTime l D cI cJ cZ F a x3 x4 r11 H.size hcall) (cwS 2 hts (gd_S m730 m728 m729 m1) rfl rfl rfl ⟨rfl, hc_T_isInputTime⟩ ⟨Nat.le_of_ble_eq_true rfl, Nat.le_of_ble_eq_true rfl⟩) (pc_S [.int (iI x3), .int (iI x4)] hP hK hD hN [] rfl rfl rfl) rfl rfl hl.1 rfl (lv_room (Nat.le_of_ble_eq_true rfl)) d_T_input_11 ⟨Nat.le_refl 0, Nat.le_refl 0⟩)) (W.eq (g2 := F0 m 14 ls [.int (iI r11)]) rfl ?_)
    obtain ⟨hg0, h⟩ := gr_e h
    refine zi_ne hx hb d_T_input_14 rfl hg0 (fun hc => ?_) (fun hc => ?_)
    · replace h := if_f hc h
      refine lv_aload_n hx hb d_T_input_25 rfl (lv_at hl 0 rfl) ?_
      refine zv_iconst hx hb d_T_input_26 ?_
      refine zv_iconst hx hb d_T_input_27 ?_
      obtain ⟨r28, T_analysed_1, N_size_2, N_kind_3, N_pins_4, hcall, h⟩ := ob5_e h
      refine ca_i (w2 := [(o_T a T_analysed_1), (o_N a N_period N_width N_size_2), ((a 44), .inl (cI, 48, .inl (ia N_kind_3))), ((a 45), .inl (cI, 48, .inl (ia N_pins_4))), ((a 52), .inl (cI, 96, .inl (ia N_startEarly))), ((a 53), .inl (cI, 96, .inl (ia N_startLate)))]) (va_runV (As := [.int (iI 1), .int (iI 0)]) (rest := []) ⟨hx, hb, hml, hown, hts⟩ (c_T_addNode l D cI cJ cZ F a T_analysed N_period N_width N_size N_kind N_pins 1 0 r28 T_analysed_1 N_size_2 N_kind_3 N_pins_4 H.size hcall) (cwV 2 hts (gd_V m438 m435 m437 sl_T_addNode m1) rfl rfl rfl ⟨rfl, hc_T_addNode⟩ ⟨Nat.le_of_ble_eq_true rfl, Nat.le_of_ble_eq_true rfl⟩) (pc_V 0 0 [.int (iI 1), .int (iI 0)] hP hK hD hN [0, 1, 2, 3] rfl rfl rfl rfl rfl) rfl rfl hl.1 rfl (lv_room (Nat.le_of_ble_eq_true rfl)) d_T_input_28 ⟨Nat.le_refl 0, Nat.le_refl 0⟩) hP hD hS hA [0, 1, 2, 3] [4, 5] [2, 3, 4, 5, 0, 1] rfl rfl rfl (by decide) rfl rfl rfl (fun H locs hP hD hS => ?_)
      refine lv_istore (lv' := [(5, .int (iI r28)), (0, .ref (a 0)), (1, .int (iI x1)), (2, .int (iI x2)), (3, .int (iI x3)), (4, .int (iI x4))]) hx hb d_T_input_31 hl (by decide) rfl (fun ls hl => ?_)
      refine lv_iload hx hb d_T_input_33 (lv_at hl 0 rfl) ?_
      refine lv_ldc hx hb hown hk0 d_T_input_35 ?_
      have hj65 : ∀ (N_startEarly_5 : Int → Int) (N_startLate_6 : Int → Int) (H : Heap) (locs : List Loc) (ls : Array Slot), va_P D vwCl [(o_T a T_analysed_1), (o_N a N_period N_width N_size_2), ((a 44), .inl (cI, 48, .inl (ia N_kind_3))), ((a 45), .inl (cI, 48, .inl (ia N_pins_4))), ((a 52), .inl (cI, 96, .inl (ia N_startEarly_5))), ((a 53), .inl (cI, 96, .inl (ia N_startLate_6)))] H → va_D A [(o_T a T_analysed_1), (o_N a N_period N_width N_size_2), ((a 44), .inl (cI, 48, .inl (ia N_kind_3))), ((a 45), .inl (cI, 48, .inl (ia N_pins_4))), ((a 52), .inl (cI, 96, .inl (ia N_startEarly_5))), ((a 53), .inl (cI, 96, .inl (ia N_startLate_6)))] → va_S A s.heap H locs → lv_has ls 6 [(5, .int (iI r28))] → f_T_input_j65 F r28 T_analysed_1 N_size_2 N_kind_3 N_pins_4 N_startEarly_5 N_startLate_6 = some (r, z_T_analysed, z_N_size, z_N_kind, z_N_pins, z_N_startEarly, z_N_startLate) → W p l e (headSpec w_T_input rm_T_input).room s m args below meth c H locs 0 0 Q (F0 m 65 ls []) := by
        intro N_startEarly_5 N_startLate_6 H locs ls hP hD hS hl h
        rw [f_T_input_j65] at h
        refine lv_iload hx hb d_T_input_65 (lv_at hl 0 rfl) ?_
        obtain ⟨e1, e2, e3, e4, e5, e6, e7⟩ := so7 h
        rw [hQ, e1, e2, e3, e4, e5, e6, e7]; rw [hAe] at hD hS; exact W.iret hx hb hr (fun t ht hW => ⟨⟨_, (), rfl, rfl, by rw [ht]; exact hP, va_K.moved hW.alike hK, hD⟩, hS.F ht⟩) hS.2.2 d_T_input_67
      obtain ⟨hg0, h⟩ := gr_e h
      refine zc_eq hx hb d_T_input_37 rfl hg0 (by decide) (fun hc => ?_) (fun hc => ?_)
      · replace h := if_t hc h
        exact hj65 N_startEarly N_startLate H locs ls hP hD hS (lv_sub hl [0] rfl) h
      · replace h := if_f hc h
        refine lv_aload_n hx hb d_T_input_40 rfl (lv_at hl 1 rfl) ?_
        refine va_get (D := D) (ci := 0) (v := .ref (a 43)) (C := R_T) (T := F_T) (N := 7) hx hb hT in_T hown hK hP 0 rfl rfl 0 (by decide) (hT _ m409) (fun _ h9 => h9) rfl d_T_input_41 ?_
        refine lv_iload hx hb d_T_input_44 (lv_at hl 0 rfl) ?_
        refine zv_iconst hx hb d_T_input_46 ?_
        refine lv_iload_n hx hb d_T_input_47 rfl (lv_at hl 2 rfl) ?_
        refine lv_iload_n hx hb d_T_input_48 rfl (lv_at hl 3 rfl) ?_
        obtain ⟨N_startEarly_7, N_startLate_8, hcall, h⟩ := ob2_e h
        refine ca_v (w2 := [(o_T a T_analysed_1), (o_N a N_period N_width N_size_2), ((a 44), .inl (cI, 48, .inl (ia N_kind_3))), ((a 45), .inl (cI, 48, .inl (ia N_pins_4))), ((a 52), .inl (cI, 96, .inl (ia N_startEarly_7))), ((a 53), .inl (cI, 96, .inl (ia N_startLate_8)))]) (va_runV (As := [.int (iI r28), .int (iI 0), .int (iI x1), .int (iI x2)]) (rest := []) ⟨hx, hb, hml, hown, hts⟩ (c_Net_setStart l D cI cJ cZ F a N_period N_width N_size_2 N_startEarly N_startLate r28 0 x1 x2 N_startEarly_7 N_startLate_8 H.size hcall) (cwV 4 hts (gd_V m735 m732 m733 m734 m2) rfl rfl rfl ⟨rfl, hc_Net_setStart⟩ ⟨Nat.le_of_ble_eq_true rfl, Nat.le_of_ble_eq_true rfl⟩) (pc_V 1 1 [.int (iI r28), .int (iI 0), .int (iI x1), .int (iI x2)] hP hK hD hN [1, 4, 5] rfl rfl rfl rfl rfl) rfl rfl hl.1 rfl (lv_room (Nat.le_of_ble_eq_true rfl)) d_T_input_49 ⟨Nat.le_refl 0, Nat.le_refl 0⟩) hP hD hS hA [1, 4, 5] [0, 2, 3] [0, 3, 1, 2, 4, 5] rfl rfl rfl (by decide) rfl rfl rfl (fun H locs hP hD hS => ?_)
        refine lv_aload_n hx hb d_T_input_52 rfl (lv_at hl 1 rfl) ?_
        refine va_get (D := D) (ci := 0) (v := .ref (a 43)) (C := R_T) (T := F_T) (N := 7) hx hb hT in_T hown hK hP 0 rfl rfl 0 (by decide) (hT _ m409) (fun _ h9 => h9) rfl d_T_input_53 ?_
        refine lv_iload hx hb d_T_input_56 (lv_at hl 0 rfl) ?_
        refine zv_iconst hx hb d_T_input_58 ?_
        refine lv_iload_n hx hb d_T_input_59 rfl (lv_at hl 4 rfl) ?_
        refine lv_iload hx hb d_T_input_60 (lv_at hl 5 rfl) ?_
        obtain ⟨N_startEarly_9, N_startLate_10, hcall, h⟩ := ob2_e h
        refine ca_v (w2 := [(o_T a T_analysed_1), (o_N a N_period N_width N_size_2), ((a 44), .inl (cI, 48, .inl (ia N_kind_3))), ((a 45), .inl (cI, 48, .inl (ia N_pins_4))), ((a 52), .inl (cI, 96, .inl (ia N_startEarly_9))), ((a 53), .inl (cI, 96, .inl (ia N_startLate_10)))]) (va_runV (As := [.int (iI r28), .int (iI 1), .int (iI x3), .int (iI x4)]) (rest := []) ⟨hx, hb, hml, hown, hts⟩ (c_Net_setStart l D cI cJ cZ F a N_period N_width N_size_2 N_startEarly_7 N_startLate_8 r28 1 x3 x4 N_startEarly_9 N_startLate_10 H.size hcall) (cwV 4 hts (gd_V m735 m732 m733 m734 m2) rfl rfl rfl ⟨rfl, hc_Net_setStart⟩ ⟨Nat.le_of_ble_eq_true rfl, Nat.le_of_ble_eq_true rfl⟩) (pc_V 1 1 [.int (iI r28), .int (iI 1), .int (iI x3), .int (iI x4)] hP hK hD hN [1, 4, 5] rfl rfl rfl rfl rfl) rfl rfl hl.1 rfl (lv_room (Nat.le_of_ble_eq_true rfl)) d_T_input_62 ⟨Nat.le_refl 0, Nat.le_refl 0⟩) hP hD hS hA [1, 4, 5] [0, 2, 3] [0, 3, 1, 2, 4, 5] rfl rfl rfl (by decide) rfl rfl rfl (fun H locs hP hD hS => ?_)
        exact hj65 N_startEarly_9 N_startLate_10 H locs ls hP hD hS (lv_sub hl [0] rfl) h
    · replace h := if_t hc h
      exact hj17  H locs ls hP hD hS (lv_sub hl [] rfl) h
abbrev rm_T_gate : Room := { frames := 6, cells := 0, slots := 0, locals := 110 }
set_option maxHeartbeats 4000000 in
set_option maxRecDepth 100000 in
theorem c_T_gate (l : Launch) (D : va_G) (cI cJ cZ : ClassId) (F : Nat) (a : Nat → Nat) (T_analysed : Int) (N_period : Int) (N_width : Int) (N_size : Int) (N_kind : Int → Int) (N_pins : Int → Int) (x1 : Int) (r : Int) (z_T_analysed : Int) (z_N_size : Int) (z_N_kind : Int → Int) (z_N_pins : Int → Int) (sz : Nat) (h : f_T_gate F T_analysed N_size N_kind N_pins x1 = some (r, z_T_analysed, z_N_size, z_N_kind, z_N_pins)) : Met l y_T_gate w_T_gate rm_T_gate (PC D [(cI, .int), (cJ, .long), (cZ, .boolean)] [.ref (a 0), .int (iI x1)] ([(o_T a T_analysed), (o_N a N_period N_width N_size), ((a 44), .inl (cI, 48, .inl (ia N_kind))), ((a 45), .inl (cI, 48, .inl (ia N_pins)))]) sz) (QI D [(cI, .int), (cJ, .long), (cZ, .boolean)] ([(o_T a T_analysed), (o_N a N_period N_width N_size), ((a 44), .inl (cI, 48, .inl (ia N_kind))), ((a 45), .inl (cI, 48, .inl (ia N_pins)))]) sz r ([(o_T a z_T_analysed), (o_N a N_period N_width z_N_size), ((a 44), .inl (cI, 48, .inl (ia z_N_kind))), ((a 45), .inl (cI, 48, .inl (ia z_N_pins)))])) 0 0 (va_A ([(o_T a T_analysed), (o_N a N_period N_width N_size), ((a 44), .inl (cI, 48, .inl (ia N_kind))), ((a 45), .inl (cI, 48, .inl (ia N_pins)))]) sz) := by
  refine Met.ofW (cc := prog_1_method_4_code) (maxL := 2) (ret := (Option.some Jvm.ClassFile.FieldType.int)) (by decide) rfl ?_
  intro p e s m args below meth c s₁ B hml hv
  obtain ⟨rfl, hsz, hP, hK, hD0, hN⟩ := hv
  have hx := B.exec
  have hb := B.bytes
  have hr := B.returns
  have hts := atoms_spec (ws := w_T_gate) B.pre
  have hown : s.vm.findClass R_T = some m.cls := findClass_of_methodNamed B.named
  have hlocks := B.notSynchronized
  subst hsz
  have hD := hD0.self (sz := s.heap.size)
  obtain ⟨A, hAe⟩ : ∃ A, A = va_A ([(o_T a T_analysed), (o_N a N_period N_width N_size), ((a 44), .inl (cI, 48, .inl (ia N_kind))), ((a 45), .inl (cI, 48, .inl (ia N_pins)))]) s.heap.size := ⟨_, rfl⟩
  rw [← hAe] at hD
  have hA : ∀ q : Nat, s.heap.size ≤ q → A q := fun q h => by rw [hAe]; exact Or.inr h
  have hS : va_S A s.heap s.heap [] := va_S.rf
  have hl := lv_entry ([.ref (a 0), .int (iI x1)]) (n := 2) (Nat.le_of_ble_eq_true rfl)
  rw [lg_entry_eq]
  generalize (lg_sl ([.ref (a 0), .int (iI x1)]) ++ List.replicate (2 - (lg_sl ([.ref (a 0), .int (iI x1)])).length) Slot.unset).toArray = ls at hl ⊢
  have hl : lv_has ls 2 [(0, .ref (a 0)), (1, .int (iI x1))] := hl
  generalize (List.toArray ([.ref (a 0), .int (iI x1)] : List Value)) = args at hts ⊢
  have hT : ∀ w ∈ Tg, w.before args s = true := fun w h => hts w (List.mem_cons_of_mem _ h)
  obtain ⟨Q, hQ⟩ : ∃ Q, Q = MQ below (QI D [(cI, .int), (cJ, .long), (cZ, .boolean)] ([(o_T a T_analysed), (o_N a N_period N_width N_size), ((a 44), .inl (cI, 48, .inl (ia N_kind))), ((a 45), .inl (cI, 48, .inl (ia N_pins)))]) s.heap.size r ([(o_T a z_T_analysed), (o_N a N_period N_width z_N_size), ((a 44), .inl (cI, 48, .inl (ia z_N_kind))), ((a 45), .inl (cI, 48, .inl (ia z_N_pins)))])) args s 0 0 (va_A ([(o_T a T_analysed), (o_N a N_period N_width N_size), ((a 44), .inl (cI, 48, .inl (ia N_kind))), ((a 45), .inl (cI, 48, .inl (ia N_pins)))]) s.heap.size) := ⟨_, rfl⟩
  rw [← hQ]
  suffices hW : ∀ (H : Heap) (locs : List Loc), va_P D vwCl ([(o_T a T_analysed), (o_N a N_period N_width N_size), ((a 44), .inl (cI, 48, .inl (ia N_kind))), ((a 45), .inl (cI, 48, .inl (ia N_pins)))]) H → va_D A ([(o_T a T_analysed), (o_N a N_period N_width N_size), ((a 44), .inl (cI, 48, .inl (ia N_kind))), ((a 45), .inl (cI, 48, .inl (ia N_pins)))]) → va_S A s.heap H locs → W p l e (headSpec w_T_gate rm_T_gate).room s m args below meth c H locs 0 0 Q (F0 m 0 ls []) from hW s.heap [] hP hD hS
  clear hP hD hS
  intro H locs hP hD hS
  rw [f_T_gate] at h
  refine lv_iload_n hx hb d_T_gate_0 rfl (lv_at hl 1 rfl) ?_
  refine zv_iconst hx hb d_T_gate_1 ?_
  refine zv_iconst hx hb d_T_gate_2 ?_
  obtain ⟨r3, hcall, h⟩ := ob1_e h
  refine ro_i (va_Run.run (va_runS (As := [.int (iI x1), .int (iI 1), .int (iI 3)]) (rest := []) ⟨hx, hb, hml, hown, hts⟩ (c_T_isWithin l D cI cJ cZ F a x1 1 3 r3 H.size hcall) (cwS 3 hts (gd_S m573 m657 m572 m1) rfl rfl rfl ⟨rfl, hc_T_isWithin⟩ ⟨Nat.le_of_ble_eq_true rfl, Nat.le_of_ble_eq_true rfl⟩) (pc_S [.int (iI x1), .int (iI 1), .int (iI 3)] hP hK hD hN [] rfl rfl rfl) rfl rfl hl.1 rfl (lv_room (Nat.le_of_ble_eq_true rfl)) d_T_gate_3 ⟨Nat.le_refl 0, Nat.le_refl 0⟩)) (W.eq (g2 := F0 m 6 ls [.int (iI r3)]) rfl ?_)
  obtain ⟨hg0, h⟩ := gr_e h
  refine zi_ne hx hb d_T_gate_6 rfl hg0 (fun hc => ?_) (fun hc => ?_)
  · replace h := if_f hc h
    refine lv_aload_n hx hb d_T_gate_17 rfl (lv_at hl 0 rfl) ?_
    refine zv_iconst hx hb d_T_gate_18 ?_
    refine lv_iload_n hx hb d_T_gate_19 rfl (lv_at hl 1 rfl) ?_
    obtain ⟨r20, T_analysed_1, N_size_2, N_kind_3, N_pins_4, hcall, h⟩ := ob5_e h
    refine ca_i (w2 := [(o_T a T_analysed_1), (o_N a N_period N_width N_size_2), ((a 44), .inl (cI, 48, .inl (ia N_kind_3))), ((a 45), .inl (cI, 48, .inl (ia N_pins_4)))]) (va_runV (As := [.int (iI 2), .int (iI x1)]) (rest := []) ⟨hx, hb, hml, hown, hts⟩ (c_T_addNode l D cI cJ cZ F a T_analysed N_period N_width N_size N_kind N_pins 2 x1 r20 T_analysed_1 N_size_2 N_kind_3 N_pins_4 H.size hcall) (cwV 2 hts (gd_V m438 m435 m437 sl_T_addNode m1) rfl rfl rfl ⟨rfl, hc_T_addNode⟩ ⟨Nat.le_of_ble_eq_true rfl, Nat.le_of_ble_eq_true rfl⟩) (pc_V 0 0 [.int (iI 2), .int (iI x1)] hP hK hD hN [0, 1, 2, 3] rfl rfl rfl rfl rfl) rfl rfl hl.1 rfl (lv_room (Nat.le_of_ble_eq_true rfl)) d_T_gate_20 ⟨Nat.le_refl 0, Nat.le_refl 0⟩) hP hD hS hA [0, 1, 2, 3] [] [0, 1, 2, 3] rfl rfl rfl (by decide) rfl rfl rfl (fun H locs hP hD hS => ?_)
    obtain ⟨e1, e2, e3, e4, e5⟩ := so5 h
    rw [hQ, e1, e2, e3, e4, e5]; rw [hAe] at hD hS; exact W.iret hx hb hr (fun t ht hW => ⟨⟨_, (), rfl, rfl, by rw [ht]; exact hP, va_K.moved hW.alike hK, hD⟩, hS.F ht⟩) hS.2.2 d_T_gate_23
  · replace h := if_t hc h
    exact no_some h
abbrev rm_T_register : Room := { frames := 2, cells := 0, slots := 0, locals := 44 }
set_option maxHeartbeats 4000000 in
set_option maxRecDepth 100000 in
theorem c_T_register (l : Launch) (D : va_G) (cI cJ cZ : ClassId) (F : Nat) (a : Nat → Nat) (T_analysed : Int) (N_period : Int) (N_width : Int) (N_size : Int) (N_kind : Int → Int) (N_pins : Int → Int) (r : Int) (z_T_analysed : Int) (z_N_size : Int) (z_N_kind : Int → Int) (z_N_pins : Int → Int) (sz : Nat) (h : f_T_register F T_analysed N_size N_kind N_pins = some (r, z_T_analysed, z_N_size, z_N_kind, z_N_pins)) : Met l y_T_register w_T_register rm_T_register (PC D [(cI, .int), (cJ, .long), (cZ, .boolean)] [.ref (a 0)] ([(o_T a T_analysed), (o_N a N_period N_width N_size), ((a 44), .inl (cI, 48, .inl (ia N_kind))), ((a 45), .inl (cI, 48, .inl (ia N_pins)))]) sz) (QI D [(cI, .int), (cJ, .long), (cZ, .boolean)] ([(o_T a T_analysed), (o_N a N_period N_width N_size), ((a 44), .inl (cI, 48, .inl (ia N_kind))), ((a 45), .inl (cI, 48, .inl (ia N_pins)))]) sz r ([(o_T a z_T_analysed), (o_N a N_period N_width z_N_size), ((a 44), .inl (cI, 48, .inl (ia z_N_kind))), ((a 45), .inl (cI, 48, .inl (ia z_N_pins)))])) 0 0 (va_A ([(o_T a T_analysed), (o_N a N_period N_width N_size), ((a 44), .inl (cI, 48, .inl (ia N_kind))), ((a 45), .inl (cI, 48, .inl (ia N_pins)))]) sz) := by
  refine Met.ofW (cc := prog_1_method_5_code) (maxL := 1) (ret := (Option.some Jvm.ClassFile.FieldType.int)) (by decide) rfl ?_
  intro p e s m args below meth c s₁ B hml hv
  obtain ⟨rfl, hsz, hP, hK, hD0, hN⟩ := hv
  have hx := B.exec
  have hb := B.bytes
  have hr := B.returns
  have hts := atoms_spec (ws := w_T_register) B.pre
  have hown : s.vm.findClass R_T = some m.cls := findClass_of_methodNamed B.named
  have hlocks := B.notSynchronized
  subst hsz
  have hD := hD0.self (sz := s.heap.size)
  obtain ⟨A, hAe⟩ : ∃ A, A = va_A ([(o_T a T_analysed), (o_N a N_period N_width N_size), ((a 44), .inl (cI, 48, .inl (ia N_kind))), ((a 45), .inl (cI, 48, .inl (ia N_pins)))]) s.heap.size := ⟨_, rfl⟩
  rw [← hAe] at hD
  have hA : ∀ q : Nat, s.heap.size ≤ q → A q := fun q h => by rw [hAe]; exact Or.inr h
  have hS : va_S A s.heap s.heap [] := va_S.rf
  have hl := lv_entry ([.ref (a 0)]) (n := 1) (Nat.le_of_ble_eq_true rfl)
  rw [lg_entry_eq]
  generalize (lg_sl ([.ref (a 0)]) ++ List.replicate (1 - (lg_sl ([.ref (a 0)])).length) Slot.unset).toArray = ls at hl ⊢
  have hl : lv_has ls 1 [(0, .ref (a 0))] := hl
  generalize (List.toArray ([.ref (a 0)] : List Value)) = args at hts ⊢
  have hT : ∀ w ∈ Tg, w.before args s = true := fun w h => hts w (List.mem_cons_of_mem _ h)
  obtain ⟨Q, hQ⟩ : ∃ Q, Q = MQ below (QI D [(cI, .int), (cJ, .long), (cZ, .boolean)] ([(o_T a T_analysed), (o_N a N_period N_width N_size), ((a 44), .inl (cI, 48, .inl (ia N_kind))), ((a 45), .inl (cI, 48, .inl (ia N_pins)))]) s.heap.size r ([(o_T a z_T_analysed), (o_N a N_period N_width z_N_size), ((a 44), .inl (cI, 48, .inl (ia z_N_kind))), ((a 45), .inl (cI, 48, .inl (ia z_N_pins)))])) args s 0 0 (va_A ([(o_T a T_analysed), (o_N a N_period N_width N_size), ((a 44), .inl (cI, 48, .inl (ia N_kind))), ((a 45), .inl (cI, 48, .inl (ia N_pins)))]) s.heap.size) := ⟨_, rfl⟩
  rw [← hQ]
  suffices hW : ∀ (H : Heap) (locs : List Loc), va_P D vwCl ([(o_T a T_analysed), (o_N a N_period N_width N_size), ((a 44), .inl (cI, 48, .inl (ia N_kind))), ((a 45), .inl (cI, 48, .inl (ia N_pins)))]) H → va_D A ([(o_T a T_analysed), (o_N a N_period N_width N_size), ((a 44), .inl (cI, 48, .inl (ia N_kind))), ((a 45), .inl (cI, 48, .inl (ia N_pins)))]) → va_S A s.heap H locs → W p l e (headSpec w_T_register rm_T_register).room s m args below meth c H locs 0 0 Q (F0 m 0 ls []) from hW s.heap [] hP hD hS
  clear hP hD hS
  intro H locs hP hD hS
  rw [f_T_register] at h
  refine lv_aload_n hx hb d_T_register_0 rfl (lv_at hl 0 rfl) ?_
  refine zv_iconst hx hb d_T_register_1 ?_
  refine zv_iconst hx hb d_T_register_2 ?_
  obtain ⟨r3, T_analysed_1, N_size_2, N_kind_3, N_pins_4, hcall, h⟩ := ob5_e h
  refine ca_i (w2 := [(o_T a T_analysed_1), (o_N a N_period N_width N_size_2), ((a 44), .inl (cI, 48, .inl (ia N_kind_3))), ((a 45), .inl (cI, 48, .inl (ia N_pins_4)))]) (va_runV (As := [.int (iI 3), .int (iI 2)]) (rest := []) ⟨hx, hb, hml, hown, hts⟩ (c_T_addNode l D cI cJ cZ F a T_analysed N_period N_width N_size N_kind N_pins 3 2 r3 T_analysed_1 N_size_2 N_kind_3 N_pins_4 H.size hcall) (cwV 2 hts (gd_V m438 m435 m437 sl_T_addNode m1) rfl rfl rfl ⟨rfl, hc_T_addNode⟩ ⟨Nat.le_of_ble_eq_true rfl, Nat.le_of_ble_eq_true rfl⟩) (pc_V 0 0 [.int (iI 3), .int (iI 2)] hP hK hD hN [0, 1, 2, 3] rfl rfl rfl rfl rfl) rfl rfl hl.1 rfl (lv_room (Nat.le_of_ble_eq_true rfl)) d_T_register_3 ⟨Nat.le_refl 0, Nat.le_refl 0⟩) hP hD hS hA [0, 1, 2, 3] [] [0, 1, 2, 3] rfl rfl rfl (by decide) rfl rfl rfl (fun H locs hP hD hS => ?_)
  obtain ⟨e1, e2, e3, e4, e5⟩ := so5 h
  rw [hQ, e1, e2, e3, e4, e5]; rw [hAe] at hD hS; exact W.iret hx hb hr (fun t ht hW => ⟨⟨_, (), rfl, rfl, by rw [ht]; exact hP, va_K.moved hW.alike hK, hD⟩, hS.F ht⟩) hS.2.2 d_T_register_6
abbrev rm_T_output : Room := { frames := 2, cells := 0, slots := 0, locals := 44 }
set_option maxHeartbeats 4000000 in
set_option maxRecDepth 100000 in
theorem c_T_output (l : Launch) (D : va_G) (cI cJ cZ : ClassId) (F : Nat) (a : Nat → Nat) (T_analysed : Int) (N_period : Int) (N_width : Int) (N_size : Int) (N_kind : Int → Int) (N_pins : Int → Int) (r : Int) (z_T_analysed : Int) (z_N_size : Int) (z_N_kind : Int → Int) (z_N_pins : Int → Int) (sz : Nat) (h : f_T_output F T_analysed N_size N_kind N_pins = some (r, z_T_analysed, z_N_size, z_N_kind, z_N_pins)) : Met l y_T_output w_T_output rm_T_output (PC D [(cI, .int), (cJ, .long), (cZ, .boolean)] [.ref (a 0)] ([(o_T a T_analysed), (o_N a N_period N_width N_size), ((a 44), .inl (cI, 48, .inl (ia N_kind))), ((a 45), .inl (cI, 48, .inl (ia N_pins)))]) sz) (QI D [(cI, .int), (cJ, .long), (cZ, .boolean)] ([(o_T a T_analysed), (o_N a N_period N_width N_size), ((a 44), .inl (cI, 48, .inl (ia N_kind))), ((a 45), .inl (cI, 48, .inl (ia N_pins)))]) sz r ([(o_T a z_T_analysed), (o_N a N_period N_width z_N_size), ((a 44), .inl (cI, 48, .inl (ia z_N_kind))), ((a 45), .inl (cI, 48, .inl (ia z_N_pins)))])) 0 0 (va_A ([(o_T a T_analysed), (o_N a N_period N_width N_size), ((a 44), .inl (cI, 48, .inl (ia N_kind))), ((a 45), .inl (cI, 48, .inl (ia N_pins)))]) sz) := by
  refine Met.ofW (cc := prog_1_method_6_code) (maxL := 1) (ret := (Option.some Jvm.ClassFile.FieldType.int)) (by decide) rfl ?_
  intro p e s m args below meth c s₁ B hml hv
  obtain ⟨rfl, hsz, hP, hK, hD0, hN⟩ := hv
  have hx := B.exec
  have hb := B.bytes
  have hr := B.returns
  have hts := atoms_spec (ws := w_T_output) B.pre
  have hown : s.vm.findClass R_T = some m.cls := findClass_of_methodNamed B.named
  have hlocks := B.notSynchronized
  subst hsz
  have hD := hD0.self (sz := s.heap.size)
  obtain ⟨A, hAe⟩ : ∃ A, A = va_A ([(o_T a T_analysed), (o_N a N_period N_width N_size), ((a 44), .inl (cI, 48, .inl (ia N_kind))), ((a 45), .inl (cI, 48, .inl (ia N_pins)))]) s.heap.size := ⟨_, rfl⟩
  rw [← hAe] at hD
  have hA : ∀ q : Nat, s.heap.size ≤ q → A q := fun q h => by rw [hAe]; exact Or.inr h
  have hS : va_S A s.heap s.heap [] := va_S.rf
  have hl := lv_entry ([.ref (a 0)]) (n := 1) (Nat.le_of_ble_eq_true rfl)
  rw [lg_entry_eq]
  generalize (lg_sl ([.ref (a 0)]) ++ List.replicate (1 - (lg_sl ([.ref (a 0)])).length) Slot.unset).toArray = ls at hl ⊢
  have hl : lv_has ls 1 [(0, .ref (a 0))] := hl
  generalize (List.toArray ([.ref (a 0)] : List Value)) = args at hts ⊢
  have hT : ∀ w ∈ Tg, w.before args s = true := fun w h => hts w (List.mem_cons_of_mem _ h)
  obtain ⟨Q, hQ⟩ : ∃ Q, Q = MQ below (QI D [(cI, .int), (cJ, .long), (cZ, .boolean)] ([(o_T a T_analysed), (o_N a N_period N_width N_size), ((a 44), .inl (cI, 48, .inl (ia N_kind))), ((a 45), .inl (cI, 48, .inl (ia N_pins)))]) s.heap.size r ([(o_T a z_T_analysed), (o_N a N_period N_width z_N_size), ((a 44), .inl (cI, 48, .inl (ia z_N_kind))), ((a 45), .inl (cI, 48, .inl (ia z_N_pins)))])) args s 0 0 (va_A ([(o_T a T_analysed), (o_N a N_period N_width N_size), ((a 44), .inl (cI, 48, .inl (ia N_kind))), ((a 45), .inl (cI, 48, .inl (ia N_pins)))]) s.heap.size) := ⟨_, rfl⟩
  rw [← hQ]
  suffices hW : ∀ (H : Heap) (locs : List Loc), va_P D vwCl ([(o_T a T_analysed), (o_N a N_period N_width N_size), ((a 44), .inl (cI, 48, .inl (ia N_kind))), ((a 45), .inl (cI, 48, .inl (ia N_pins)))]) H → va_D A ([(o_T a T_analysed), (o_N a N_period N_width N_size), ((a 44), .inl (cI, 48, .inl (ia N_kind))), ((a 45), .inl (cI, 48, .inl (ia N_pins)))]) → va_S A s.heap H locs → W p l e (headSpec w_T_output rm_T_output).room s m args below meth c H locs 0 0 Q (F0 m 0 ls []) from hW s.heap [] hP hD hS
  clear hP hD hS
  intro H locs hP hD hS
  rw [f_T_output] at h
  refine lv_aload_n hx hb d_T_output_0 rfl (lv_at hl 0 rfl) ?_
  refine zv_iconst hx hb d_T_output_1 ?_
  refine zv_iconst hx hb d_T_output_2 ?_
  obtain ⟨r3, T_analysed_1, N_size_2, N_kind_3, N_pins_4, hcall, h⟩ := ob5_e h
  refine ca_i (w2 := [(o_T a T_analysed_1), (o_N a N_period N_width N_size_2), ((a 44), .inl (cI, 48, .inl (ia N_kind_3))), ((a 45), .inl (cI, 48, .inl (ia N_pins_4)))]) (va_runV (As := [.int (iI 4), .int (iI 1)]) (rest := []) ⟨hx, hb, hml, hown, hts⟩ (c_T_addNode l D cI cJ cZ F a T_analysed N_period N_width N_size N_kind N_pins 4 1 r3 T_analysed_1 N_size_2 N_kind_3 N_pins_4 H.size hcall) (cwV 2 hts (gd_V m438 m435 m437 sl_T_addNode m1) rfl rfl rfl ⟨rfl, hc_T_addNode⟩ ⟨Nat.le_of_ble_eq_true rfl, Nat.le_of_ble_eq_true rfl⟩) (pc_V 0 0 [.int (iI 4), .int (iI 1)] hP hK hD hN [0, 1, 2, 3] rfl rfl rfl rfl rfl) rfl rfl hl.1 rfl (lv_room (Nat.le_of_ble_eq_true rfl)) d_T_output_3 ⟨Nat.le_refl 0, Nat.le_refl 0⟩) hP hD hS hA [0, 1, 2, 3] [] [0, 1, 2, 3] rfl rfl rfl (by decide) rfl rfl rfl (fun H locs hP hD hS => ?_)
  obtain ⟨e1, e2, e3, e4, e5⟩ := so5 h
  rw [hQ, e1, e2, e3, e4, e5]; rw [hAe] at hD hS; exact W.iret hx hb hr (fun t ht hW => ⟨⟨_, (), rfl, rfl, by rw [ht]; exact hP, va_K.moved hW.alike hK, hD⟩, hS.F ht⟩) hS.2.2 d_T_output_6
abbrev rm_Net_isNode : Room := { frames := 1, cells := 0, slots := 0, locals := 22 }
set_option maxHeartbeats 4000000 in
set_option maxRecDepth 100000 in
theorem c_Net_isNode (l : Launch) (D : va_G) (cI cJ cZ : ClassId) (F : Nat) (a : Nat → Nat) (N_period : Int) (N_width : Int) (N_size : Int) (x1 : Int) (r : Int) (sz : Nat) (h : f_Net_isNode F N_size x1 = some (r)) : Met l y_Net_isNode w_Net_isNode rm_Net_isNode (PC D [(cI, .int), (cJ, .long), (cZ, .boolean)] [.ref (a 43), .int (iI x1)] ([(o_N a N_period N_width N_size)]) sz) (QcRead (iI r)) 0 0 (fun _ => False) := by
  refine Met.ofW (cc := prog_5_method_3_code) (maxL := 2) (ret := (Option.some Jvm.ClassFile.FieldType.boolean)) (by decide) rfl ?_
  intro p e s m args below meth c s₁ B hml hv
  obtain ⟨rfl, hsz, hP, hK, hD0, hN⟩ := hv
  have hx := B.exec
  have hb := B.bytes
  have hr := B.returns
  have hts := atoms_spec (ws := w_Net_isNode) B.pre
  have hown : s.vm.findClass R_Net = some m.cls := findClass_of_methodNamed B.named
  have hlocks := B.notSynchronized
  subst hsz
  have hl := lv_entry ([.ref (a 43), .int (iI x1)]) (n := 2) (Nat.le_of_ble_eq_true rfl)
  rw [lg_entry_eq]
  generalize (lg_sl ([.ref (a 43), .int (iI x1)]) ++ List.replicate (2 - (lg_sl ([.ref (a 43), .int (iI x1)])).length) Slot.unset).toArray = ls at hl ⊢
  have hl : lv_has ls 2 [(0, .ref (a 43)), (1, .int (iI x1))] := hl
  generalize (List.toArray ([.ref (a 43), .int (iI x1)] : List Value)) = args at hts ⊢
  have hT : ∀ w ∈ Tg, w.before args s = true := fun w h => hts w (List.mem_cons_of_mem _ h)
  obtain ⟨Q, hQ⟩ : ∃ Q, Q = MQ below (QcRead (iI r)) args s 0 0 (fun _ => False) := ⟨_, rfl⟩
  rw [← hQ]
  rw [f_Net_isNode] at h
  refine lv_iload_n hx hb d_Net_isNode_0 rfl (lv_at hl 1 rfl) ?_
  refine zv_iconst hx hb d_Net_isNode_1 ?_
  refine lv_aload_n hx hb d_Net_isNode_2 rfl (lv_at hl 0 rfl) ?_
  refine va_get (D := D) (ci := 1) (v := .int (iI N_size)) (C := R_Net) (T := F_Net) (N := 15) hx hb hT in_Net hown hK hP 0 rfl rfl 2 (by decide) (hT _ m47) (fun _ h9 => h9) rfl d_Net_isNode_3 ?_
  refine zv_iconst hx hb d_Net_isNode_6 ?_
  refine zv_isub hx hb d_Net_isNode_7 ?_
  obtain ⟨r8, hcall, h⟩ := ob1_e h
  refine ro_i (va_Run.run (va_runSN (As := [.int (iI x1), .int (iI 0), .int (iI (N_size - 1))]) (rest := []) ⟨hx, hb, hml, hown, hts⟩ (c_T_isWithin l D cI cJ cZ F a x1 0 (N_size - 1) r8 s.heap.size hcall) ⟨va_cnB 3 hts (gd_in m573) rfl rfl rfl hN.2.2.1 (hT _ m1) hc_T_isWithin ⟨Nat.le_of_ble_eq_true rfl, Nat.le_of_ble_eq_true rfl⟩, hT _ m572, trivial⟩ (pc_S [.int (iI x1), .int (iI 0), .int (iI (N_size - 1))] hP hK hD0 hN [] rfl rfl rfl) rfl rfl hl.1 rfl (lv_room (Nat.le_of_ble_eq_true rfl)) d_Net_isNode_8 ⟨Nat.le_refl 0, Nat.le_refl 0⟩)) (W.eq (g2 := F0 m 11 ls [.int (iI r8)]) rfl ?_)
  obtain ⟨hbo, h⟩ := gb_e h
  have e1 := so1 h
  rw [hQ, e1]; exact W.zret (ty := .boolean) hx hb hr (gb_n hbo) (fun t ht hW => ⟨rfl, ht⟩) (fun q h => nomatch h) d_Net_isNode_11
abbrev rm_Net_hasPin : Room := { frames := 2, cells := 0, slots := 0, locals := 43 }
set_option maxHeartbeats 4000000 in
set_option maxRecDepth 100000 in
theorem c_Net_hasPin (l : Launch) (D : va_G) (cI cJ cZ : ClassId) (F : Nat) (a : Nat → Nat) (N_period : Int) (N_width : Int) (N_size : Int) (N_pins : Int → Int) (x1 : Int) (x2 : Int) (r : Int) (sz : Nat) (h : f_Net_hasPin F N_size N_pins x1 x2 = some (r)) : Met l y_Net_hasPin w_Net_hasPin rm_Net_hasPin (PC D [(cI, .int), (cJ, .long), (cZ, .boolean)] [.ref (a 43), .int (iI x1), .int (iI x2)] ([(o_N a N_period N_width N_size), ((a 45), .inl (cI, 48, .inl (ia N_pins)))]) sz) (QcRead (iI r)) 0 0 (fun _ => False) := by
  refine Met.ofW (cc := prog_5_method_4_code) (maxL := 3) (ret := (Option.some Jvm.ClassFile.FieldType.boolean)) (by decide) rfl ?_
  intro p e s m args below meth c s₁ B hml hv
  obtain ⟨rfl, hsz, hP, hK, hD0, hN⟩ := hv
  have hx := B.exec
  have hb := B.bytes
  have hr := B.returns
  have hts := atoms_spec (ws := w_Net_hasPin) B.pre
  have hown : s.vm.findClass R_Net = some m.cls := findClass_of_methodNamed B.named
  have hlocks := B.notSynchronized
  subst hsz
  have hl := lv_entry ([.ref (a 43), .int (iI x1), .int (iI x2)]) (n := 3) (Nat.le_of_ble_eq_true rfl)
  rw [lg_entry_eq]
  generalize (lg_sl ([.ref (a 43), .int (iI x1), .int (iI x2)]) ++ List.replicate (3 - (lg_sl ([.ref (a 43), .int (iI x1), .int (iI x2)])).length) Slot.unset).toArray = ls at hl ⊢
  have hl : lv_has ls 3 [(0, .ref (a 43)), (1, .int (iI x1)), (2, .int (iI x2))] := hl
  generalize (List.toArray ([.ref (a 43), .int (iI x1), .int (iI x2)] : List Value)) = args at hts ⊢
  have hT : ∀ w ∈ Tg, w.before args s = true := fun w h => hts w (List.mem_cons_of_mem _ h)
  obtain ⟨Q, hQ⟩ : ∃ Q, Q = MQ below (QcRead (iI r)) args s 0 0 (fun _ => False) := ⟨_, rfl⟩
  rw [← hQ]
  rw [f_Net_hasPin] at h
  refine lv_aload_n hx hb d_Net_hasPin_0 rfl (lv_at hl 0 rfl) ?_
  refine lv_iload_n hx hb d_Net_hasPin_1 rfl (lv_at hl 1 rfl) ?_
  obtain ⟨r2, hcall, h⟩ := ob1_e h
  refine ro_i (va_Run.run (va_runV (As := [.int (iI x1)]) (rest := []) ⟨hx, hb, hml, hown, hts⟩ (c_Net_isNode l D cI cJ cZ F a N_period N_width N_size x1 r2 s.heap.size hcall) (cwV 1 hts (gd_V m570 m567 m568 m569 m2) rfl rfl rfl ⟨rfl, hc_Net_isNode⟩ ⟨Nat.le_of_ble_eq_true rfl, Nat.le_of_ble_eq_true rfl⟩) (pc_V 0 1 [.int (iI x1)] hP hK hD0 hN [0] rfl rfl rfl rfl rfl) rfl rfl hl.1 rfl (lv_room (Nat.le_of_ble_eq_true rfl)) d_Net_hasPin_2 ⟨Nat.le_refl 0, Nat.le_refl 0⟩)) (W.eq (g2 := F0 m 5 ls [.int (iI r2)]) rfl ?_)
  have hj28 : ∀  (ls : Array Slot), lv_has ls 3 [] → f_Net_hasPin_j28 F = some (r) → W p l e (headSpec w_Net_hasPin rm_Net_hasPin).room s m args below meth c s.heap [] 0 0 Q (F0 m 28 ls []) := by
    intro  ls hl h
    rw [f_Net_hasPin_j28] at h
    refine zv_iconst hx hb d_Net_hasPin_28 ?_
    obtain ⟨hbo, h⟩ := gb_e h
    have e1 := so1 h
    rw [hQ, e1]; exact W.zret (ty := .boolean) hx hb hr (gb_n hbo) (fun t ht hW => ⟨rfl, ht⟩) (fun q h => nomatch h) d_Net_hasPin_29
  obtain ⟨hg0, h⟩ := gr_e h
  refine zi_eq hx hb d_Net_hasPin_5 rfl hg0 (fun hc => ?_) (fun hc => ?_)
  · replace h := if_t hc h
    exact hj28  ls (lv_sub hl [] rfl) h
  · replace h := if_f hc h
    refine lv_iload_n hx hb d_Net_hasPin_8 rfl (lv_at hl 2 rfl) ?_
    refine zv_iconst hx hb d_Net_hasPin_9 ?_
    refine lv_aload_n hx hb d_Net_hasPin_10 rfl (lv_at hl 0 rfl) ?_
    refine va_get (D := D) (ci := 1) (v := .ref (a 45)) (C := R_Net) (T := F_Net) (N := 15) hx hb hT in_Net hown hK hP 0 rfl rfl 4 (by decide) (hT _ m59) (fun _ h9 => h9) rfl d_Net_hasPin_11 ?_
    refine lv_iload_n hx hb d_Net_hasPin_14 rfl (lv_at hl 1 rfl) ?_
    obtain ⟨hin, h⟩ := gi_e h
    refine zv_iald hx hb hK hP 1 0 rfl rfl (Nat.le_of_ble_eq_true rfl) hin d_Net_hasPin_15 ?_
    refine zv_iconst hx hb d_Net_hasPin_16 ?_
    refine zv_isub hx hb d_Net_hasPin_17 ?_
    obtain ⟨r18, hcall, h⟩ := ob1_e h
    refine ro_i (va_Run.run (va_runSN (As := [.int (iI x2), .int (iI 0), .int (iI ((N_pins x1) - 1))]) (rest := []) ⟨hx, hb, hml, hown, hts⟩ (c_T_isWithin l D cI cJ cZ F a x2 0 ((N_pins x1) - 1) r18 s.heap.size hcall) ⟨va_cnB 3 hts (gd_in m573) rfl rfl rfl hN.2.2.1 (hT _ m1) hc_T_isWithin ⟨Nat.le_of_ble_eq_true rfl, Nat.le_of_ble_eq_true rfl⟩, hT _ m572, trivial⟩ (pc_S [.int (iI x2), .int (iI 0), .int (iI ((N_pins x1) - 1))] hP hK hD0 hN [] rfl rfl rfl) rfl rfl hl.1 rfl (lv_room (Nat.le_of_ble_eq_true rfl)) d_Net_hasPin_18 ⟨Nat.le_refl 0, Nat.le_refl 0⟩)) (W.eq (g2 := F0 m 21 ls [.int (iI r18)]) rfl ?_)
    obtain ⟨hg0, h⟩ := gr_e h
    refine zi_eq hx hb d_Net_hasPin_21 rfl hg0 (fun hc => ?_) (fun hc => ?_)
    · replace h := if_t hc h
      exact hj28  ls (lv_sub hl [] rfl) h
    · replace h := if_f hc h
      refine zv_iconst hx hb d_Net_hasPin_24 ?_
      refine lv_goto hx hb d_Net_hasPin_25 rfl ?_
      obtain ⟨hbo, h⟩ := gb_e h
      have e1 := so1 h
      rw [hQ, e1]; exact W.zret (ty := .boolean) hx hb hr (gb_n hbo) (fun t ht hW => ⟨rfl, ht⟩) (fun q h => nomatch h) d_Net_hasPin_29
abbrev rm_Net_maySend : Room := { frames := 2, cells := 0, slots := 0, locals := 43 }
set_option maxHeartbeats 4000000 in
set_option maxRecDepth 100000 in
theorem c_Net_maySend (l : Launch) (D : va_G) (cI cJ cZ : ClassId) (F : Nat) (a : Nat → Nat) (N_period : Int) (N_width : Int) (N_size : Int) (N_kind : Int → Int) (x1 : Int) (r : Int) (sz : Nat) (h : f_Net_maySend F N_size N_kind x1 = some (r)) : Met l y_Net_maySend w_Net_maySend rm_Net_maySend (PC D [(cI, .int), (cJ, .long), (cZ, .boolean)] [.ref (a 43), .int (iI x1)] ([(o_N a N_period N_width N_size), ((a 44), .inl (cI, 48, .inl (ia N_kind)))]) sz) (QcRead (iI r)) 0 0 (fun _ => False) := by
  refine Met.ofW (cc := prog_5_method_6_code) (maxL := 2) (ret := (Option.some Jvm.ClassFile.FieldType.boolean)) (by decide) rfl ?_
  intro p e s m args below meth c s₁ B hml hv
  obtain ⟨rfl, hsz, hP, hK, hD0, hN⟩ := hv
  have hx := B.exec
  have hb := B.bytes
  have hr := B.returns
  have hts := atoms_spec (ws := w_Net_maySend) B.pre
  have hown : s.vm.findClass R_Net = some m.cls := findClass_of_methodNamed B.named
  have hlocks := B.notSynchronized
  subst hsz
  have hl := lv_entry ([.ref (a 43), .int (iI x1)]) (n := 2) (Nat.le_of_ble_eq_true rfl)
  rw [lg_entry_eq]
  generalize (lg_sl ([.ref (a 43), .int (iI x1)]) ++ List.replicate (2 - (lg_sl ([.ref (a 43), .int (iI x1)])).length) Slot.unset).toArray = ls at hl ⊢
  have hl : lv_has ls 2 [(0, .ref (a 43)), (1, .int (iI x1))] := hl
  generalize (List.toArray ([.ref (a 43), .int (iI x1)] : List Value)) = args at hts ⊢
  have hT : ∀ w ∈ Tg, w.before args s = true := fun w h => hts w (List.mem_cons_of_mem _ h)
  obtain ⟨Q, hQ⟩ : ∃ Q, Q = MQ below (QcRead (iI r)) args s 0 0 (fun _ => False) := ⟨_, rfl⟩
  rw [← hQ]
  rw [f_Net_maySend] at h
  refine lv_aload_n hx hb d_Net_maySend_0 rfl (lv_at hl 0 rfl) ?_
  refine lv_iload_n hx hb d_Net_maySend_1 rfl (lv_at hl 1 rfl) ?_
  obtain ⟨r2, hcall, h⟩ := ob1_e h
  refine ro_i (va_Run.run (va_runV (As := [.int (iI x1)]) (rest := []) ⟨hx, hb, hml, hown, hts⟩ (c_Net_isNode l D cI cJ cZ F a N_period N_width N_size x1 r2 s.heap.size hcall) (cwV 1 hts (gd_V m570 m567 m568 m569 m2) rfl rfl rfl ⟨rfl, hc_Net_isNode⟩ ⟨Nat.le_of_ble_eq_true rfl, Nat.le_of_ble_eq_true rfl⟩) (pc_V 0 1 [.int (iI x1)] hP hK hD0 hN [0] rfl rfl rfl rfl rfl) rfl rfl hl.1 rfl (lv_room (Nat.le_of_ble_eq_true rfl)) d_Net_maySend_2 ⟨Nat.le_refl 0, Nat.le_refl 0⟩)) (W.eq (g2 := F0 m 5 ls [.int (iI r2)]) rfl ?_)
  have hj22 : ∀  (ls : Array Slot), lv_has ls 2 [] → f_Net_maySend_j22 F = some (r) → W p l e (headSpec w_Net_maySend rm_Net_maySend).room s m args below meth c s.heap [] 0 0 Q (F0 m 22 ls []) := by
    intro  ls hl h
    rw [f_Net_maySend_j22] at h
    refine zv_iconst hx hb d_Net_maySend_22 ?_
    obtain ⟨hbo, h⟩ := gb_e h
    have e1 := so1 h
    rw [hQ, e1]; exact W.zret (ty := .boolean) hx hb hr (gb_n hbo) (fun t ht hW => ⟨rfl, ht⟩) (fun q h => nomatch h) d_Net_maySend_23
  obtain ⟨hg0, h⟩ := gr_e h
  refine zi_eq hx hb d_Net_maySend_5 rfl hg0 (fun hc => ?_) (fun hc => ?_)
  · replace h := if_t hc h
    exact hj22  ls (lv_sub hl [] rfl) h
  · replace h := if_f hc h
    refine lv_aload_n hx hb d_Net_maySend_8 rfl (lv_at hl 0 rfl) ?_
    refine va_get (D := D) (ci := 1) (v := .ref (a 44)) (C := R_Net) (T := F_Net) (N := 15) hx hb hT in_Net hown hK hP 0 rfl rfl 3 (by decide) (hT _ m54) (fun _ h9 => h9) rfl d_Net_maySend_9 ?_
    refine lv_iload_n hx hb d_Net_maySend_12 rfl (lv_at hl 1 rfl) ?_
    obtain ⟨hin, h⟩ := gi_e h
    refine zv_iald hx hb hK hP 1 0 rfl rfl (Nat.le_of_ble_eq_true rfl) hin d_Net_maySend_13 ?_
    refine zv_iconst hx hb d_Net_maySend_14 ?_
    obtain ⟨hg0, h⟩ := gr_e h
    refine zc_eq hx hb d_Net_maySend_15 rfl hg0 (by decide) (fun hc => ?_) (fun hc => ?_)
    · replace h := if_t hc h
      exact hj22  ls (lv_sub hl [] rfl) h
    · replace h := if_f hc h
      refine zv_iconst hx hb d_Net_maySend_18 ?_
      refine lv_goto hx hb d_Net_maySend_19 rfl ?_
      obtain ⟨hbo, h⟩ := gb_e h
      have e1 := so1 h
      rw [hQ, e1]; exact W.zret (ty := .boolean) hx hb hr (gb_n hbo) (fun t ht hW => ⟨rfl, ht⟩) (fun q h => nomatch h) d_Net_maySend_23
