abbrev rm_M_setStart : Room := { frames := 0, cells := 0, slots := 0, locals := 0 }
set_option maxHeartbeats 4000000 in
set_option maxRecDepth 100000 in
theorem c_M_setStart (l : Launch) (D : va_G) (cI cJ cZ : ClassId) (F : Nat) (a : Nat → Nat) (M_thrown : Int) (M_period : Int) (M_width : Int) (M_nodes : Int) (M_analysed : Int) (M_gates : Int) (M_startNode : Int) (M_startChange : Int) (M_startWay : Int) (M_startBase : Int) (M_startEarly : Int) (M_startLate : Int) (M_worstWith : Int) (M_worstWithout : Int) (M_all : Int64) (M_rowSize : Int) (M_kinds : Int → Int) (M_delayEarly : Int → Int) (M_delayLate : Int → Int) (M_firstOf : Int → Int) (M_secondOf : Int → Int) (M_wayBase : Int → Int) (M_wayEarly : Int → Int) (M_wayLate : Int → Int) (x1 : Int) (x2 : Int) (z_M_startNode : Int) (z_M_startChange : Int) (z_M_startWay : Int) (z_M_startBase : Int) (z_M_startEarly : Int) (z_M_startLate : Int) (sz : Nat) (h : f_M_setStart F M_kinds M_delayEarly M_delayLate M_firstOf M_secondOf M_wayBase M_wayEarly M_wayLate x1 x2 = some (z_M_startNode, z_M_startChange, z_M_startWay, z_M_startBase, z_M_startEarly, z_M_startLate)) : Met l y_M_setStart w_M_setStart rm_M_setStart (PC D [(cI, .int), (cJ, .long), (cZ, .boolean)] [.ref (a 0), .int (iI x1), .int (iI x2)] ([(o_M a M_thrown M_period M_width M_nodes M_analysed M_gates M_startNode M_startChange M_startWay M_startBase M_startEarly M_startLate M_worstWith M_worstWithout M_all M_rowSize), ((a 1), .inl (cI, 48, .inl (ia M_kinds))), ((a 7), .inl (cI, 288, .inl (ia M_delayEarly))), ((a 8), .inl (cI, 288, .inl (ia M_delayLate))), ((a 9), .inl (cI, 96, .inl (ia M_firstOf))), ((a 10), .inl (cI, 96, .inl (ia M_secondOf))), ((a 13), .inl (cI, 384, .inl (ia M_wayBase))), ((a 14), .inl (cI, 384, .inl (ia M_wayEarly))), ((a 15), .inl (cI, 384, .inl (ia M_wayLate)))]) sz) (QV D [(cI, .int), (cJ, .long), (cZ, .boolean)] ([(o_M a M_thrown M_period M_width M_nodes M_analysed M_gates M_startNode M_startChange M_startWay M_startBase M_startEarly M_startLate M_worstWith M_worstWithout M_all M_rowSize), ((a 1), .inl (cI, 48, .inl (ia M_kinds))), ((a 7), .inl (cI, 288, .inl (ia M_delayEarly))), ((a 8), .inl (cI, 288, .inl (ia M_delayLate))), ((a 9), .inl (cI, 96, .inl (ia M_firstOf))), ((a 10), .inl (cI, 96, .inl (ia M_secondOf))), ((a 13), .inl (cI, 384, .inl (ia M_wayBase))), ((a 14), .inl (cI, 384, .inl (ia M_wayEarly))), ((a 15), .inl (cI, 384, .inl (ia M_wayLate)))]) sz ([(o_M a M_thrown M_period M_width M_nodes M_analysed M_gates z_M_startNode z_M_startChange z_M_startWay z_M_startBase z_M_startEarly z_M_startLate M_worstWith M_worstWithout M_all M_rowSize), ((a 1), .inl (cI, 48, .inl (ia M_kinds))), ((a 7), .inl (cI, 288, .inl (ia M_delayEarly))), ((a 8), .inl (cI, 288, .inl (ia M_delayLate))), ((a 9), .inl (cI, 96, .inl (ia M_firstOf))), ((a 10), .inl (cI, 96, .inl (ia M_secondOf))), ((a 13), .inl (cI, 384, .inl (ia M_wayBase))), ((a 14), .inl (cI, 384, .inl (ia M_wayEarly))), ((a 15), .inl (cI, 384, .inl (ia M_wayLate)))])) 0 0 (va_A ([(o_M a M_thrown M_period M_width M_nodes M_analysed M_gates M_startNode M_startChange M_startWay M_startBase M_startEarly M_startLate M_worstWith M_worstWithout M_all M_rowSize), ((a 1), .inl (cI, 48, .inl (ia M_kinds))), ((a 7), .inl (cI, 288, .inl (ia M_delayEarly))), ((a 8), .inl (cI, 288, .inl (ia M_delayLate))), ((a 9), .inl (cI, 96, .inl (ia M_firstOf))), ((a 10), .inl (cI, 96, .inl (ia M_secondOf))), ((a 13), .inl (cI, 384, .inl (ia M_wayBase))), ((a 14), .inl (cI, 384, .inl (ia M_wayEarly))), ((a 15), .inl (cI, 384, .inl (ia M_wayLate)))]) sz) := by
  refine Met.ofW (cc := prog_12_method_35_code) (maxL := 3) (ret := (Option.none : Option Jvm.ClassFile.FieldType)) (by decide) rfl ?_
  intro p e s m args below meth c s₁ B hml hv
  obtain ⟨rfl, hsz, hP, hK, hD0, hN⟩ := hv
  have hx := B.exec
  have hb := B.bytes
  have hr := B.returns
  have hts := atoms_spec (ws := w_M_setStart) B.pre
  have hown : s.vm.findClass R_M = some m.cls := findClass_of_methodNamed B.named
  have hlocks := B.notSynchronized
  subst hsz
  have hD := hD0.self (sz := s.heap.size)
  obtain ⟨A, hAe⟩ : ∃ A, A = va_A ([(o_M a M_thrown M_period M_width M_nodes M_analysed M_gates M_startNode M_startChange M_startWay M_startBase M_startEarly M_startLate M_worstWith M_worstWithout M_all M_rowSize), ((a 1), .inl (cI, 48, .inl (ia M_kinds))), ((a 7), .inl (cI, 288, .inl (ia M_delayEarly))), ((a 8), .inl (cI, 288, .inl (ia M_delayLate))), ((a 9), .inl (cI, 96, .inl (ia M_firstOf))), ((a 10), .inl (cI, 96, .inl (ia M_secondOf))), ((a 13), .inl (cI, 384, .inl (ia M_wayBase))), ((a 14), .inl (cI, 384, .inl (ia M_wayEarly))), ((a 15), .inl (cI, 384, .inl (ia M_wayLate)))]) s.heap.size := ⟨_, rfl⟩
  rw [← hAe] at hD
  have hA : ∀ q : Nat, s.heap.size ≤ q → A q := fun q h => by rw [hAe]; exact Or.inr h
  have hS : va_S A s.heap s.heap [] := va_S.rf
  have hl := lv_entry ([.ref (a 0), .int (iI x1), .int (iI x2)]) (n := 3) (Nat.le_of_ble_eq_true rfl)
  rw [lg_entry_eq]
  generalize (lg_sl ([.ref (a 0), .int (iI x1), .int (iI x2)]) ++ List.replicate (3 - (lg_sl ([.ref (a 0), .int (iI x1), .int (iI x2)])).length) Slot.unset).toArray = ls at hl ⊢
  have hl : lv_has ls 3 [(0, .ref (a 0)), (1, .int (iI x1)), (2, .int (iI x2))] := hl
  generalize (List.toArray ([.ref (a 0), .int (iI x1), .int (iI x2)] : List Value)) = args at hts ⊢
  have hT : ∀ w ∈ Tg, w.before args s = true := fun w h => hts w (List.mem_cons_of_mem _ h)
  obtain ⟨Q, hQ⟩ : ∃ Q, Q = MQ below (QV D [(cI, .int), (cJ, .long), (cZ, .boolean)] ([(o_M a M_thrown M_period M_width M_nodes M_analysed M_gates M_startNode M_startChange M_startWay M_startBase M_startEarly M_startLate M_worstWith M_worstWithout M_all M_rowSize), ((a 1), .inl (cI, 48, .inl (ia M_kinds))), ((a 7), .inl (cI, 288, .inl (ia M_delayEarly))), ((a 8), .inl (cI, 288, .inl (ia M_delayLate))), ((a 9), .inl (cI, 96, .inl (ia M_firstOf))), ((a 10), .inl (cI, 96, .inl (ia M_secondOf))), ((a 13), .inl (cI, 384, .inl (ia M_wayBase))), ((a 14), .inl (cI, 384, .inl (ia M_wayEarly))), ((a 15), .inl (cI, 384, .inl (ia M_wayLate)))]) s.heap.size ([(o_M a M_thrown M_period M_width M_nodes M_analysed M_gates z_M_startNode z_M_startChange z_M_startWay z_M_startBase z_M_startEarly z_M_startLate M_worstWith M_worstWithout M_all M_rowSize), ((a 1), .inl (cI, 48, .inl (ia M_kinds))), ((a 7), .inl (cI, 288, .inl (ia M_delayEarly))), ((a 8), .inl (cI, 288, .inl (ia M_delayLate))), ((a 9), .inl (cI, 96, .inl (ia M_firstOf))), ((a 10), .inl (cI, 96, .inl (ia M_secondOf))), ((a 13), .inl (cI, 384, .inl (ia M_wayBase))), ((a 14), .inl (cI, 384, .inl (ia M_wayEarly))), ((a 15), .inl (cI, 384, .inl (ia M_wayLate)))])) args s 0 0 (va_A ([(o_M a M_thrown M_period M_width M_nodes M_analysed M_gates M_startNode M_startChange M_startWay M_startBase M_startEarly M_startLate M_worstWith M_worstWithout M_all M_rowSize), ((a 1), .inl (cI, 48, .inl (ia M_kinds))), ((a 7), .inl (cI, 288, .inl (ia M_delayEarly))), ((a 8), .inl (cI, 288, .inl (ia M_delayLate))), ((a 9), .inl (cI, 96, .inl (ia M_firstOf))), ((a 10), .inl (cI, 96, .inl (ia M_secondOf))), ((a 13), .inl (cI, 384, .inl (ia M_wayBase))), ((a 14), .inl (cI, 384, .inl (ia M_wayEarly))), ((a 15), .inl (cI, 384, .inl (ia M_wayLate)))]) s.heap.size) := ⟨_, rfl⟩
  rw [← hQ]
  suffices hW : ∀ (H : Heap) (locs : List Loc), va_P D vwCl ([(o_M a M_thrown M_period M_width M_nodes M_analysed M_gates M_startNode M_startChange M_startWay M_startBase M_startEarly M_startLate M_worstWith M_worstWithout M_all M_rowSize), ((a 1), .inl (cI, 48, .inl (ia M_kinds))), ((a 7), .inl (cI, 288, .inl (ia M_delayEarly))), ((a 8), .inl (cI, 288, .inl (ia M_delayLate))), ((a 9), .inl (cI, 96, .inl (ia M_firstOf))), ((a 10), .inl (cI, 96, .inl (ia M_secondOf))), ((a 13), .inl (cI, 384, .inl (ia M_wayBase))), ((a 14), .inl (cI, 384, .inl (ia M_wayEarly))), ((a 15), .inl (cI, 384, .inl (ia M_wayLate)))]) H → va_D A ([(o_M a M_thrown M_period M_width M_nodes M_analysed M_gates M_startNode M_startChange M_startWay M_startBase M_startEarly M_startLate M_worstWith M_worstWithout M_all M_rowSize), ((a 1), .inl (cI, 48, .inl (ia M_kinds))), ((a 7), .inl (cI, 288, .inl (ia M_delayEarly))), ((a 8), .inl (cI, 288, .inl (ia M_delayLate))), ((a 9), .inl (cI, 96, .inl (ia M_firstOf))), ((a 10), .inl (cI, 96, .inl (ia M_secondOf))), ((a 13), .inl (cI, 384, .inl (ia M_wayBase))), ((a 14), .inl (cI, 384, .inl (ia M_wayEarly))), ((a 15), .inl (cI, 384, .inl (ia M_wayLate)))]) → va_S A s.heap H locs → W p l e (headSpec w_M_setStart rm_M_setStart).room s m args below meth c H locs 0 0 Q (F0 m 0 ls []) from hW s.heap [] hP hD hS
  clear hP hD hS
  intro H locs hP hD hS
  have hk0 := (show (Cond.constant "PathTimingModel" 140 (iI (-2147483648))).before args s = true from by rw [show iI (-2147483648) = ((-2147483648) : Int32) from by decide]; exact hT _ m1020)
  rw [f_M_setStart] at h
  refine lv_aload_n hx hb d_M_setStart_0 rfl (lv_at hl 0 rfl) ?_
  refine lv_iload_n hx hb d_M_setStart_1 rfl (lv_at hl 1 rfl) ?_
  refine va_put (D := D) (ci := 10) (v := .int (iI x1)) (ty := .int) (C := R_M) (T := F_M) (N := 53) hx hb hT in_M ty_M ty_M_ok n_M hown hK hP hD hS 0 rfl rfl 29 (by decide) (hT _ m1050) (fun _ h9 => h9) rfl (by decide +kernel) rfl rfl (Nat.le_of_ble_eq_true rfl) d_M_setStart_2 (fun H locs hP hD hS => ?_)
  have hP : va_P D vwCl [(o_M a M_thrown M_period M_width M_nodes M_analysed M_gates x1 M_startChange M_startWay M_startBase M_startEarly M_startLate M_worstWith M_worstWithout M_all M_rowSize), ((a 1), .inl (cI, 48, .inl (ia M_kinds))), ((a 7), .inl (cI, 288, .inl (ia M_delayEarly))), ((a 8), .inl (cI, 288, .inl (ia M_delayLate))), ((a 9), .inl (cI, 96, .inl (ia M_firstOf))), ((a 10), .inl (cI, 96, .inl (ia M_secondOf))), ((a 13), .inl (cI, 384, .inl (ia M_wayBase))), ((a 14), .inl (cI, 384, .inl (ia M_wayEarly))), ((a 15), .inl (cI, 384, .inl (ia M_wayLate)))] H := hP
  have hD : va_D A [(o_M a M_thrown M_period M_width M_nodes M_analysed M_gates x1 M_startChange M_startWay M_startBase M_startEarly M_startLate M_worstWith M_worstWithout M_all M_rowSize), ((a 1), .inl (cI, 48, .inl (ia M_kinds))), ((a 7), .inl (cI, 288, .inl (ia M_delayEarly))), ((a 8), .inl (cI, 288, .inl (ia M_delayLate))), ((a 9), .inl (cI, 96, .inl (ia M_firstOf))), ((a 10), .inl (cI, 96, .inl (ia M_secondOf))), ((a 13), .inl (cI, 384, .inl (ia M_wayBase))), ((a 14), .inl (cI, 384, .inl (ia M_wayEarly))), ((a 15), .inl (cI, 384, .inl (ia M_wayLate)))] := hD
  refine lv_aload_n hx hb d_M_setStart_5 rfl (lv_at hl 0 rfl) ?_
  refine lv_iload_n hx hb d_M_setStart_6 rfl (lv_at hl 2 rfl) ?_
  refine zv_iconst hx hb d_M_setStart_7 ?_
  obtain ⟨hg, h⟩ := gp_e h
  refine zv_irem hx hb d_M_setStart_8 hg (by decide) ?_
  refine va_put (D := D) (ci := 10) (v := .int (iI (x2 % 2))) (ty := .int) (C := R_M) (T := F_M) (N := 53) hx hb hT in_M ty_M ty_M_ok n_M hown hK hP hD hS 0 rfl rfl 30 (by decide) (hT _ m1051) (fun _ h9 => h9) rfl (by decide +kernel) rfl rfl (Nat.le_of_ble_eq_true rfl) d_M_setStart_9 (fun H locs hP hD hS => ?_)
  have hP : va_P D vwCl [(o_M a M_thrown M_period M_width M_nodes M_analysed M_gates x1 (x2 % 2) M_startWay M_startBase M_startEarly M_startLate M_worstWith M_worstWithout M_all M_rowSize), ((a 1), .inl (cI, 48, .inl (ia M_kinds))), ((a 7), .inl (cI, 288, .inl (ia M_delayEarly))), ((a 8), .inl (cI, 288, .inl (ia M_delayLate))), ((a 9), .inl (cI, 96, .inl (ia M_firstOf))), ((a 10), .inl (cI, 96, .inl (ia M_secondOf))), ((a 13), .inl (cI, 384, .inl (ia M_wayBase))), ((a 14), .inl (cI, 384, .inl (ia M_wayEarly))), ((a 15), .inl (cI, 384, .inl (ia M_wayLate)))] H := hP
  have hD : va_D A [(o_M a M_thrown M_period M_width M_nodes M_analysed M_gates x1 (x2 % 2) M_startWay M_startBase M_startEarly M_startLate M_worstWith M_worstWithout M_all M_rowSize), ((a 1), .inl (cI, 48, .inl (ia M_kinds))), ((a 7), .inl (cI, 288, .inl (ia M_delayEarly))), ((a 8), .inl (cI, 288, .inl (ia M_delayLate))), ((a 9), .inl (cI, 96, .inl (ia M_firstOf))), ((a 10), .inl (cI, 96, .inl (ia M_secondOf))), ((a 13), .inl (cI, 384, .inl (ia M_wayBase))), ((a 14), .inl (cI, 384, .inl (ia M_wayEarly))), ((a 15), .inl (cI, 384, .inl (ia M_wayLate)))] := hD
  refine lv_aload_n hx hb d_M_setStart_12 rfl (lv_at hl 0 rfl) ?_
  refine va_get (D := D) (ci := 10) (v := .ref (a 1)) (C := R_M) (T := F_M) (N := 53) hx hb hT in_M hown hK hP 0 rfl rfl 4 (by decide) (hT _ m1025) (fun _ h9 => h9) rfl d_M_setStart_13 ?_
  refine lv_iload_n hx hb d_M_setStart_16 rfl (lv_at hl 1 rfl) ?_
  obtain ⟨hin, h⟩ := gi_e h
  refine zv_iald hx hb hK hP 1 0 rfl rfl (Nat.le_of_ble_eq_true rfl) hin d_M_setStart_17 ?_
  refine zv_iconst hx hb d_M_setStart_18 ?_
  obtain ⟨hg0, h⟩ := gr_e h
  refine zc_ne hx hb d_M_setStart_19 rfl hg0 (by decide) (fun hc => ?_) (fun hc => ?_)
  · replace h := if_f hc h
    refine lv_aload_n hx hb d_M_setStart_68 rfl (lv_at hl 0 rfl) ?_
    refine lv_bipush (v := iI 8) hx hb d_M_setStart_69 (by decide) ?_
    refine lv_iload_n hx hb d_M_setStart_71 rfl (lv_at hl 1 rfl) ?_
    refine zv_imul hx hb d_M_setStart_72 ?_
    refine lv_iload_n hx hb d_M_setStart_73 rfl (lv_at hl 2 rfl) ?_
    refine zv_iconst hx hb d_M_setStart_74 ?_
    obtain ⟨hg, h⟩ := gp_e h
    refine zv_idiv hx hb d_M_setStart_75 hg (by decide) ?_
    refine zv_iadd hx hb d_M_setStart_76 ?_
    refine va_put (D := D) (ci := 10) (v := .int (iI ((8 * x1) + (x2 / 2)))) (ty := .int) (C := R_M) (T := F_M) (N := 53) hx hb hT in_M ty_M ty_M_ok n_M hown hK hP hD hS 0 rfl rfl 31 (by decide) (hT _ m1052) (fun _ h9 => h9) rfl (by decide +kernel) rfl rfl (Nat.le_of_ble_eq_true rfl) d_M_setStart_77 (fun H locs hP hD hS => ?_)
    have hP : va_P D vwCl [(o_M a M_thrown M_period M_width M_nodes M_analysed M_gates x1 (x2 % 2) ((8 * x1) + (x2 / 2)) M_startBase M_startEarly M_startLate M_worstWith M_worstWithout M_all M_rowSize), ((a 1), .inl (cI, 48, .inl (ia M_kinds))), ((a 7), .inl (cI, 288, .inl (ia M_delayEarly))), ((a 8), .inl (cI, 288, .inl (ia M_delayLate))), ((a 9), .inl (cI, 96, .inl (ia M_firstOf))), ((a 10), .inl (cI, 96, .inl (ia M_secondOf))), ((a 13), .inl (cI, 384, .inl (ia M_wayBase))), ((a 14), .inl (cI, 384, .inl (ia M_wayEarly))), ((a 15), .inl (cI, 384, .inl (ia M_wayLate)))] H := hP
    have hD : va_D A [(o_M a M_thrown M_period M_width M_nodes M_analysed M_gates x1 (x2 % 2) ((8 * x1) + (x2 / 2)) M_startBase M_startEarly M_startLate M_worstWith M_worstWithout M_all M_rowSize), ((a 1), .inl (cI, 48, .inl (ia M_kinds))), ((a 7), .inl (cI, 288, .inl (ia M_delayEarly))), ((a 8), .inl (cI, 288, .inl (ia M_delayLate))), ((a 9), .inl (cI, 96, .inl (ia M_firstOf))), ((a 10), .inl (cI, 96, .inl (ia M_secondOf))), ((a 13), .inl (cI, 384, .inl (ia M_wayBase))), ((a 14), .inl (cI, 384, .inl (ia M_wayEarly))), ((a 15), .inl (cI, 384, .inl (ia M_wayLate)))] := hD
    refine lv_aload_n hx hb d_M_setStart_80 rfl (lv_at hl 0 rfl) ?_
    refine lv_aload_n hx hb d_M_setStart_81 rfl (lv_at hl 0 rfl) ?_
    refine va_get (D := D) (ci := 10) (v := .ref (a 13)) (C := R_M) (T := F_M) (N := 53) hx hb hT in_M hown hK hP 0 rfl rfl 18 (by decide) (hT _ m1039) (fun _ h9 => h9) rfl d_M_setStart_82 ?_
    refine lv_aload_n hx hb d_M_setStart_85 rfl (lv_at hl 0 rfl) ?_
    refine va_get (D := D) (ci := 10) (v := .int (iI ((8 * x1) + (x2 / 2)))) (C := R_M) (T := F_M) (N := 53) hx hb hT in_M hown hK hP 0 rfl rfl 31 (by decide) (hT _ m1052) (fun _ h9 => h9) rfl d_M_setStart_86 ?_
    obtain ⟨hin, h⟩ := gi_e h
    refine zv_iald hx hb hK hP 6 0 rfl rfl (Nat.le_of_ble_eq_true rfl) hin d_M_setStart_89 ?_
    refine va_put (D := D) (ci := 10) (v := .int (iI (M_wayBase ((8 * x1) + (x2 / 2))))) (ty := .int) (C := R_M) (T := F_M) (N := 53) hx hb hT in_M ty_M ty_M_ok n_M hown hK hP hD hS 0 rfl rfl 32 (by decide) (hT _ m1053) (fun _ h9 => h9) rfl (by decide +kernel) rfl rfl (Nat.le_of_ble_eq_true rfl) d_M_setStart_90 (fun H locs hP hD hS => ?_)
    have hP : va_P D vwCl [(o_M a M_thrown M_period M_width M_nodes M_analysed M_gates x1 (x2 % 2) ((8 * x1) + (x2 / 2)) (M_wayBase ((8 * x1) + (x2 / 2))) M_startEarly M_startLate M_worstWith M_worstWithout M_all M_rowSize), ((a 1), .inl (cI, 48, .inl (ia M_kinds))), ((a 7), .inl (cI, 288, .inl (ia M_delayEarly))), ((a 8), .inl (cI, 288, .inl (ia M_delayLate))), ((a 9), .inl (cI, 96, .inl (ia M_firstOf))), ((a 10), .inl (cI, 96, .inl (ia M_secondOf))), ((a 13), .inl (cI, 384, .inl (ia M_wayBase))), ((a 14), .inl (cI, 384, .inl (ia M_wayEarly))), ((a 15), .inl (cI, 384, .inl (ia M_wayLate)))] H := hP
    have hD : va_D A [(o_M a M_thrown M_period M_width M_nodes M_analysed M_gates x1 (x2 % 2) ((8 * x1) + (x2 / 2)) (M_wayBase ((8 * x1) + (x2 / 2))) M_startEarly M_startLate M_worstWith M_worstWithout M_all M_rowSize), ((a 1), .inl (cI, 48, .inl (ia M_kinds))), ((a 7), .inl (cI, 288, .inl (ia M_delayEarly))), ((a 8), .inl (cI, 288, .inl (ia M_delayLate))), ((a 9), .inl (cI, 96, .inl (ia M_firstOf))), ((a 10), .inl (cI, 96, .inl (ia M_secondOf))), ((a 13), .inl (cI, 384, .inl (ia M_wayBase))), ((a 14), .inl (cI, 384, .inl (ia M_wayEarly))), ((a 15), .inl (cI, 384, .inl (ia M_wayLate)))] := hD
    refine lv_aload_n hx hb d_M_setStart_93 rfl (lv_at hl 0 rfl) ?_
    refine lv_aload_n hx hb d_M_setStart_94 rfl (lv_at hl 0 rfl) ?_
    refine va_get (D := D) (ci := 10) (v := .int (iI (M_wayBase ((8 * x1) + (x2 / 2))))) (C := R_M) (T := F_M) (N := 53) hx hb hT in_M hown hK hP 0 rfl rfl 32 (by decide) (hT _ m1053) (fun _ h9 => h9) rfl d_M_setStart_95 ?_
    refine lv_aload_n hx hb d_M_setStart_98 rfl (lv_at hl 0 rfl) ?_
    refine va_get (D := D) (ci := 10) (v := .ref (a 14)) (C := R_M) (T := F_M) (N := 53) hx hb hT in_M hown hK hP 0 rfl rfl 19 (by decide) (hT _ m1040) (fun _ h9 => h9) rfl d_M_setStart_99 ?_
    refine lv_aload_n hx hb d_M_setStart_102 rfl (lv_at hl 0 rfl) ?_
    refine va_get (D := D) (ci := 10) (v := .int (iI ((8 * x1) + (x2 / 2)))) (C := R_M) (T := F_M) (N := 53) hx hb hT in_M hown hK hP 0 rfl rfl 31 (by decide) (hT _ m1052) (fun _ h9 => h9) rfl d_M_setStart_103 ?_
    obtain ⟨hin, h⟩ := gi_e h
    refine zv_iald hx hb hK hP 7 0 rfl rfl (Nat.le_of_ble_eq_true rfl) hin d_M_setStart_106 ?_
    refine zv_iadd hx hb d_M_setStart_107 ?_
    refine lv_aload_n hx hb d_M_setStart_108 rfl (lv_at hl 0 rfl) ?_
    refine va_get (D := D) (ci := 10) (v := .ref (a 7)) (C := R_M) (T := F_M) (N := 53) hx hb hT in_M hown hK hP 0 rfl rfl 10 (by decide) (hT _ m1031) (fun _ h9 => h9) rfl d_M_setStart_109 ?_
    refine lv_bipush (v := iI 6) hx hb d_M_setStart_112 (by decide) ?_
    refine lv_iload_n hx hb d_M_setStart_114 rfl (lv_at hl 1 rfl) ?_
    refine zv_imul hx hb d_M_setStart_115 ?_
    refine zv_iconst hx hb d_M_setStart_116 ?_
    refine zv_iadd hx hb d_M_setStart_117 ?_
    refine lv_iload_n hx hb d_M_setStart_118 rfl (lv_at hl 2 rfl) ?_
    refine zv_iconst hx hb d_M_setStart_119 ?_
    obtain ⟨hg, h⟩ := gp_e h
    refine zv_irem hx hb d_M_setStart_120 hg (by decide) ?_
    refine zv_iadd hx hb d_M_setStart_121 ?_
    obtain ⟨hin, h⟩ := gi_e h
    refine zv_iald hx hb hK hP 2 0 rfl rfl (Nat.le_of_ble_eq_true rfl) hin d_M_setStart_122 ?_
    refine zv_iadd hx hb d_M_setStart_123 ?_
    refine va_put (D := D) (ci := 10) (v := .int (iI (((M_wayBase ((8 * x1) + (x2 / 2))) + (M_wayEarly ((8 * x1) + (x2 / 2)))) + (M_delayEarly (((6 * x1) + 2) + (x2 % 2)))))) (ty := .int) (C := R_M) (T := F_M) (N := 53) hx hb hT in_M ty_M ty_M_ok n_M hown hK hP hD hS 0 rfl rfl 33 (by decide) (hT _ m1054) (fun _ h9 => h9) rfl (by decide +kernel) rfl rfl (Nat.le_of_ble_eq_true rfl) d_M_setStart_124 (fun H locs hP hD hS => ?_)
    have hP : va_P D vwCl [(o_M a M_thrown M_period M_width M_nodes M_analysed M_gates x1 (x2 % 2) ((8 * x1) + (x2 / 2)) (M_wayBase ((8 * x1) + (x2 / 2))) (((M_wayBase ((8 * x1) + (x2 / 2))) + (M_wayEarly ((8 * x1) + (x2 / 2)))) + (M_delayEarly (((6 * x1) + 2) + (x2 % 2)))) M_startLate M_worstWith M_worstWithout M_all M_rowSize), ((a 1), .inl (cI, 48, .inl (ia M_kinds))), ((a 7), .inl (cI, 288, .inl (ia M_delayEarly))), ((a 8), .inl (cI, 288, .inl (ia M_delayLate))), ((a 9), .inl (cI, 96, .inl (ia M_firstOf))), ((a 10), .inl (cI, 96, .inl (ia M_secondOf))), ((a 13), .inl (cI, 384, .inl (ia M_wayBase))), ((a 14), .inl (cI, 384, .inl (ia M_wayEarly))), ((a 15), .inl (cI, 384, .inl (ia M_wayLate)))] H := hP
    have hD : va_D A [(o_M a M_thrown M_period M_width M_nodes M_analysed M_gates x1 (x2 % 2) ((8 * x1) + (x2 / 2)) (M_wayBase ((8 * x1) + (x2 / 2))) (((M_wayBase ((8 * x1) + (x2 / 2))) + (M_wayEarly ((8 * x1) + (x2 / 2)))) + (M_delayEarly (((6 * x1) + 2) + (x2 % 2)))) M_startLate M_worstWith M_worstWithout M_all M_rowSize), ((a 1), .inl (cI, 48, .inl (ia M_kinds))), ((a 7), .inl (cI, 288, .inl (ia M_delayEarly))), ((a 8), .inl (cI, 288, .inl (ia M_delayLate))), ((a 9), .inl (cI, 96, .inl (ia M_firstOf))), ((a 10), .inl (cI, 96, .inl (ia M_secondOf))), ((a 13), .inl (cI, 384, .inl (ia M_wayBase))), ((a 14), .inl (cI, 384, .inl (ia M_wayEarly))), ((a 15), .inl (cI, 384, .inl (ia M_wayLate)))] := hD
    refine lv_aload_n hx hb d_M_setStart_127 rfl (lv_at hl 0 rfl) ?_
    refine lv_aload_n hx hb d_M_setStart_128 rfl (lv_at hl 0 rfl) ?_
    refine va_get (D := D) (ci := 10) (v := .int (iI (M_wayBase ((8 * x1) + (x2 / 2))))) (C := R_M) (T := F_M) (N := 53) hx hb hT in_M hown hK hP 0 rfl rfl 32 (by decide) (hT _ m1053) (fun _ h9 => h9) rfl d_M_setStart_129 ?_
    refine lv_aload_n hx hb d_M_setStart_132 rfl (lv_at hl 0 rfl) ?_
    refine va_get (D := D) (ci := 10) (v := .ref (a 15)) (C := R_M) (T := F_M) (N := 53) hx hb hT in_M hown hK hP 0 rfl rfl 20 (by decide) (hT _ m1041) (fun _ h9 => h9) rfl d_M_setStart_133 ?_
    refine lv_aload_n hx hb d_M_setStart_136 rfl (lv_at hl 0 rfl) ?_
    refine va_get (D := D) (ci := 10) (v := .int (iI ((8 * x1) + (x2 / 2)))) (C := R_M) (T := F_M) (N := 53) hx hb hT in_M hown hK hP 0 rfl rfl 31 (by decide) (hT _ m1052) (fun _ h9 => h9) rfl d_M_setStart_137 ?_
    obtain ⟨hin, h⟩ := gi_e h
    refine zv_iald hx hb hK hP 8 0 rfl rfl (Nat.le_of_ble_eq_true rfl) hin d_M_setStart_140 ?_
    refine zv_iadd hx hb d_M_setStart_141 ?_
    refine lv_aload_n hx hb d_M_setStart_142 rfl (lv_at hl 0 rfl) ?_
    refine va_get (D := D) (ci := 10) (v := .ref (a 8)) (C := R_M) (T := F_M) (N := 53) hx hb hT in_M hown hK hP 0 rfl rfl 11 (by decide) (hT _ m1032) (fun _ h9 => h9) rfl d_M_setStart_143 ?_
    refine lv_bipush (v := iI 6) hx hb d_M_setStart_146 (by decide) ?_
    refine lv_iload_n hx hb d_M_setStart_148 rfl (lv_at hl 1 rfl) ?_
    refine zv_imul hx hb d_M_setStart_149 ?_
    refine zv_iconst hx hb d_M_setStart_150 ?_
    refine zv_iadd hx hb d_M_setStart_151 ?_
    refine lv_iload_n hx hb d_M_setStart_152 rfl (lv_at hl 2 rfl) ?_
    refine zv_iconst hx hb d_M_setStart_153 ?_
    obtain ⟨hg, h⟩ := gp_e h
    refine zv_irem hx hb d_M_setStart_154 hg (by decide) ?_
    refine zv_iadd hx hb d_M_setStart_155 ?_
    obtain ⟨hin, h⟩ := gi_e h
    refine zv_iald hx hb hK hP 3 0 rfl rfl (Nat.le_of_ble_eq_true rfl) hin d_M_setStart_156 ?_
    refine zv_iadd hx hb d_M_setStart_157 ?_
    refine va_put (D := D) (ci := 10) (v := .int (iI (((M_wayBase ((8 * x1) + (x2 / 2))) + (M_wayLate ((8 * x1) + (x2 / 2)))) + (M_delayLate (((6 * x1) + 2) + (x2 % 2)))))) (ty := .int) (C := R_M) (T := F_M) (N := 53) hx hb hT in_M ty_M ty_M_ok n_M hown hK hP hD hS 0 rfl rfl 34 (by decide) (hT _ m1055) (fun _ h9 => h9) rfl (by decide +kernel) rfl rfl (Nat.le_of_ble_eq_true rfl) d_M_setStart_158 (fun H locs hP hD hS => ?_)
    have hP : va_P D vwCl [(o_M a M_thrown M_period M_width M_nodes M_analysed M_gates x1 (x2 % 2) ((8 * x1) + (x2 / 2)) (M_wayBase ((8 * x1) + (x2 / 2))) (((M_wayBase ((8 * x1) + (x2 / 2))) + (M_wayEarly ((8 * x1) + (x2 / 2)))) + (M_delayEarly (((6 * x1) + 2) + (x2 % 2)))) (((M_wayBase ((8 * x1) + (x2 / 2))) + (M_wayLate ((8 * x1) + (x2 / 2)))) + (M_delayLate (((6 * x1) + 2) + (x2 % 2)))) M_worstWith M_worstWithout M_all M_rowSize), ((a 1), .inl (cI, 48, .inl (ia M_kinds))), ((a 7), .inl (cI, 288, .inl (ia M_delayEarly))), ((a 8), .inl (cI, 288, .inl (ia M_delayLate))), ((a 9), .inl (cI, 96, .inl (ia M_firstOf))), ((a 10), .inl (cI, 96, .inl (ia M_secondOf))), ((a 13), .inl (cI, 384, .inl (ia M_wayBase))), ((a 14), .inl (cI, 384, .inl (ia M_wayEarly))), ((a 15), .inl (cI, 384, .inl (ia M_wayLate)))] H := hP
    have hD : va_D A [(o_M a M_thrown M_period M_width M_nodes M_analysed M_gates x1 (x2 % 2) ((8 * x1) + (x2 / 2)) (M_wayBase ((8 * x1) + (x2 / 2))) (((M_wayBase ((8 * x1) + (x2 / 2))) + (M_wayEarly ((8 * x1) + (x2 / 2)))) + (M_delayEarly (((6 * x1) + 2) + (x2 % 2)))) (((M_wayBase ((8 * x1) + (x2 / 2))) + (M_wayLate ((8 * x1) + (x2 / 2)))) + (M_delayLate (((6 * x1) + 2) + (x2 % 2)))) M_worstWith M_worstWithout M_all M_rowSize), ((a 1), .inl (cI, 48, .inl (ia M_kinds))), ((a 7), .inl (cI, 288, .inl (ia M_delayEarly))), ((a 8), .inl (cI, 288, .inl (ia M_delayLate))), ((a 9), .inl (cI, 96, .inl (ia M_firstOf))), ((a 10), .inl (cI, 96, .inl (ia M_secondOf))), ((a 13), .inl (cI, 384, .inl (ia M_wayBase))), ((a 14), .inl (cI, 384, .inl (ia M_wayEarly))), ((a 15), .inl (cI, 384, .inl (ia M_wayLate)))] := hD
    obtain ⟨e1, e2, e3, e4, e5, e6⟩ := so6 h
    rw [hQ, e1, e2, e3, e4, e5, e6]; rw [hAe] at hD hS; exact W.vret hx hb hr (fun t ht hW => ⟨⟨(), rfl, trivial, by rw [ht]; exact hP, va_K.moved hW.alike hK, hD⟩, hS.F ht⟩) hS.2.2 d_M_setStart_161
  · replace h := if_t hc h
    refine lv_aload_n hx hb d_M_setStart_22 rfl (lv_at hl 0 rfl) ?_
    refine lv_ldc hx hb hown hk0 d_M_setStart_23 ?_
    refine va_put (D := D) (ci := 10) (v := .int (iI (-2147483648))) (ty := .int) (C := R_M) (T := F_M) (N := 53) hx hb hT in_M ty_M ty_M_ok n_M hown hK hP hD hS 0 rfl rfl 31 (by decide) (hT _ m1052) (fun _ h9 => h9) rfl (by decide +kernel) rfl rfl (Nat.le_of_ble_eq_true rfl) d_M_setStart_25 (fun H locs hP hD hS => ?_)
    have hP : va_P D vwCl [(o_M a M_thrown M_period M_width M_nodes M_analysed M_gates x1 (x2 % 2) (-2147483648) M_startBase M_startEarly M_startLate M_worstWith M_worstWithout M_all M_rowSize), ((a 1), .inl (cI, 48, .inl (ia M_kinds))), ((a 7), .inl (cI, 288, .inl (ia M_delayEarly))), ((a 8), .inl (cI, 288, .inl (ia M_delayLate))), ((a 9), .inl (cI, 96, .inl (ia M_firstOf))), ((a 10), .inl (cI, 96, .inl (ia M_secondOf))), ((a 13), .inl (cI, 384, .inl (ia M_wayBase))), ((a 14), .inl (cI, 384, .inl (ia M_wayEarly))), ((a 15), .inl (cI, 384, .inl (ia M_wayLate)))] H := hP
    have hD : va_D A [(o_M a M_thrown M_period M_width M_nodes M_analysed M_gates x1 (x2 % 2) (-2147483648) M_startBase M_startEarly M_startLate M_worstWith M_worstWithout M_all M_rowSize), ((a 1), .inl (cI, 48, .inl (ia M_kinds))), ((a 7), .inl (cI, 288, .inl (ia M_delayEarly))), ((a 8), .inl (cI, 288, .inl (ia M_delayLate))), ((a 9), .inl (cI, 96, .inl (ia M_firstOf))), ((a 10), .inl (cI, 96, .inl (ia M_secondOf))), ((a 13), .inl (cI, 384, .inl (ia M_wayBase))), ((a 14), .inl (cI, 384, .inl (ia M_wayEarly))), ((a 15), .inl (cI, 384, .inl (ia M_wayLate)))] := hD
    refine lv_aload_n hx hb d_M_setStart_28 rfl (lv_at hl 0 rfl) ?_
    refine zv_iconst hx hb d_M_setStart_29 ?_
    refine va_put (D := D) (ci := 10) (v := .int (iI 0)) (ty := .int) (C := R_M) (T := F_M) (N := 53) hx hb hT in_M ty_M ty_M_ok n_M hown hK hP hD hS 0 rfl rfl 32 (by decide) (hT _ m1053) (fun _ h9 => h9) rfl (by decide +kernel) rfl rfl (Nat.le_of_ble_eq_true rfl) d_M_setStart_30 (fun H locs hP hD hS => ?_)
    have hP : va_P D vwCl [(o_M a M_thrown M_period M_width M_nodes M_analysed M_gates x1 (x2 % 2) (-2147483648) 0 M_startEarly M_startLate M_worstWith M_worstWithout M_all M_rowSize), ((a 1), .inl (cI, 48, .inl (ia M_kinds))), ((a 7), .inl (cI, 288, .inl (ia M_delayEarly))), ((a 8), .inl (cI, 288, .inl (ia M_delayLate))), ((a 9), .inl (cI, 96, .inl (ia M_firstOf))), ((a 10), .inl (cI, 96, .inl (ia M_secondOf))), ((a 13), .inl (cI, 384, .inl (ia M_wayBase))), ((a 14), .inl (cI, 384, .inl (ia M_wayEarly))), ((a 15), .inl (cI, 384, .inl (ia M_wayLate)))] H := hP
    have hD : va_D A [(o_M a M_thrown M_period M_width M_nodes M_analysed M_gates x1 (x2 % 2) (-2147483648) 0 M_startEarly M_startLate M_worstWith M_worstWithout M_all M_rowSize), ((a 1), .inl (cI, 48, .inl (ia M_kinds))), ((a 7), .inl (cI, 288, .inl (ia M_delayEarly))), ((a 8), .inl (cI, 288, .inl (ia M_delayLate))), ((a 9), .inl (cI, 96, .inl (ia M_firstOf))), ((a 10), .inl (cI, 96, .inl (ia M_secondOf))), ((a 13), .inl (cI, 384, .inl (ia M_wayBase))), ((a 14), .inl (cI, 384, .inl (ia M_wayEarly))), ((a 15), .inl (cI, 384, .inl (ia M_wayLate)))] := hD
    refine lv_aload_n hx hb d_M_setStart_33 rfl (lv_at hl 0 rfl) ?_
    refine lv_aload_n hx hb d_M_setStart_34 rfl (lv_at hl 0 rfl) ?_
    refine va_get (D := D) (ci := 10) (v := .ref (a 9)) (C := R_M) (T := F_M) (N := 53) hx hb hT in_M hown hK hP 0 rfl rfl 12 (by decide) (hT _ m1033) (fun _ h9 => h9) rfl d_M_setStart_35 ?_
    refine zv_iconst hx hb d_M_setStart_38 ?_
    refine lv_iload_n hx hb d_M_setStart_39 rfl (lv_at hl 1 rfl) ?_
    refine zv_imul hx hb d_M_setStart_40 ?_
    refine lv_iload_n hx hb d_M_setStart_41 rfl (lv_at hl 2 rfl) ?_
    refine zv_iconst hx hb d_M_setStart_42 ?_
    obtain ⟨hg, h⟩ := gp_e h
    refine zv_irem hx hb d_M_setStart_43 hg (by decide) ?_
    refine zv_iadd hx hb d_M_setStart_44 ?_
    obtain ⟨hin, h⟩ := gi_e h
    refine zv_iald hx hb hK hP 4 0 rfl rfl (Nat.le_of_ble_eq_true rfl) hin d_M_setStart_45 ?_
    refine va_put (D := D) (ci := 10) (v := .int (iI (M_firstOf ((2 * x1) + (x2 % 2))))) (ty := .int) (C := R_M) (T := F_M) (N := 53) hx hb hT in_M ty_M ty_M_ok n_M hown hK hP hD hS 0 rfl rfl 33 (by decide) (hT _ m1054) (fun _ h9 => h9) rfl (by decide +kernel) rfl rfl (Nat.le_of_ble_eq_true rfl) d_M_setStart_46 (fun H locs hP hD hS => ?_)
    have hP : va_P D vwCl [(o_M a M_thrown M_period M_width M_nodes M_analysed M_gates x1 (x2 % 2) (-2147483648) 0 (M_firstOf ((2 * x1) + (x2 % 2))) M_startLate M_worstWith M_worstWithout M_all M_rowSize), ((a 1), .inl (cI, 48, .inl (ia M_kinds))), ((a 7), .inl (cI, 288, .inl (ia M_delayEarly))), ((a 8), .inl (cI, 288, .inl (ia M_delayLate))), ((a 9), .inl (cI, 96, .inl (ia M_firstOf))), ((a 10), .inl (cI, 96, .inl (ia M_secondOf))), ((a 13), .inl (cI, 384, .inl (ia M_wayBase))), ((a 14), .inl (cI, 384, .inl (ia M_wayEarly))), ((a 15), .inl (cI, 384, .inl (ia M_wayLate)))] H := hP
    have hD : va_D A [(o_M a M_thrown M_period M_width M_nodes M_analysed M_gates x1 (x2 % 2) (-2147483648) 0 (M_firstOf ((2 * x1) + (x2 % 2))) M_startLate M_worstWith M_worstWithout M_all M_rowSize), ((a 1), .inl (cI, 48, .inl (ia M_kinds))), ((a 7), .inl (cI, 288, .inl (ia M_delayEarly))), ((a 8), .inl (cI, 288, .inl (ia M_delayLate))), ((a 9), .inl (cI, 96, .inl (ia M_firstOf))), ((a 10), .inl (cI, 96, .inl (ia M_secondOf))), ((a 13), .inl (cI, 384, .inl (ia M_wayBase))), ((a 14), .inl (cI, 384, .inl (ia M_wayEarly))), ((a 15), .inl (cI, 384, .inl (ia M_wayLate)))] := hD
    refine lv_aload_n hx hb d_M_setStart_49 rfl (lv_at hl 0 rfl) ?_
    refine lv_aload_n hx hb d_M_setStart_50 rfl (lv_at hl 0 rfl) ?_
    refine va_get (D := D) (ci := 10) (v := .ref (a 10)) (C := R_M) (T := F_M) (N := 53) hx hb hT in_M hown hK hP 0 rfl rfl 13 (by decide) (hT _ m1034) (fun _ h9 => h9) rfl d_M_setStart_51 ?_
    refine zv_iconst hx hb d_M_setStart_54 ?_
    refine lv_iload_n hx hb d_M_setStart_55 rfl (lv_at hl 1 rfl) ?_
    refine zv_imul hx hb d_M_setStart_56 ?_
    refine lv_iload_n hx hb d_M_setStart_57 rfl (lv_at hl 2 rfl) ?_
    refine zv_iconst hx hb d_M_setStart_58 ?_
    obtain ⟨hg, h⟩ := gp_e h
    refine zv_irem hx hb d_M_setStart_59 hg (by decide) ?_
    refine zv_iadd hx hb d_M_setStart_60 ?_
    obtain ⟨hin, h⟩ := gi_e h
    refine zv_iald hx hb hK hP 5 0 rfl rfl (Nat.le_of_ble_eq_true rfl) hin d_M_setStart_61 ?_
    refine va_put (D := D) (ci := 10) (v := .int (iI (M_secondOf ((2 * x1) + (x2 % 2))))) (ty := .int) (C := R_M) (T := F_M) (N := 53) hx hb hT in_M ty_M ty_M_ok n_M hown hK hP hD hS 0 rfl rfl 34 (by decide) (hT _ m1055) (fun _ h9 => h9) rfl (by decide +kernel) rfl rfl (Nat.le_of_ble_eq_true rfl) d_M_setStart_62 (fun H locs hP hD hS => ?_)
    have hP : va_P D vwCl [(o_M a M_thrown M_period M_width M_nodes M_analysed M_gates x1 (x2 % 2) (-2147483648) 0 (M_firstOf ((2 * x1) + (x2 % 2))) (M_secondOf ((2 * x1) + (x2 % 2))) M_worstWith M_worstWithout M_all M_rowSize), ((a 1), .inl (cI, 48, .inl (ia M_kinds))), ((a 7), .inl (cI, 288, .inl (ia M_delayEarly))), ((a 8), .inl (cI, 288, .inl (ia M_delayLate))), ((a 9), .inl (cI, 96, .inl (ia M_firstOf))), ((a 10), .inl (cI, 96, .inl (ia M_secondOf))), ((a 13), .inl (cI, 384, .inl (ia M_wayBase))), ((a 14), .inl (cI, 384, .inl (ia M_wayEarly))), ((a 15), .inl (cI, 384, .inl (ia M_wayLate)))] H := hP
    have hD : va_D A [(o_M a M_thrown M_period M_width M_nodes M_analysed M_gates x1 (x2 % 2) (-2147483648) 0 (M_firstOf ((2 * x1) + (x2 % 2))) (M_secondOf ((2 * x1) + (x2 % 2))) M_worstWith M_worstWithout M_all M_rowSize), ((a 1), .inl (cI, 48, .inl (ia M_kinds))), ((a 7), .inl (cI, 288, .inl (ia M_delayEarly))), ((a 8), .inl (cI, 288, .inl (ia M_delayLate))), ((a 9), .inl (cI, 96, .inl (ia M_firstOf))), ((a 10), .inl (cI, 96, .inl (ia M_secondOf))), ((a 13), .inl (cI, 384, .inl (ia M_wayBase))), ((a 14), .inl (cI, 384, .inl (ia M_wayEarly))), ((a 15), .inl (cI, 384, .inl (ia M_wayLate)))] := hD
    refine lv_goto hx hb d_M_setStart_65 rfl ?_
    obtain ⟨e1, e2, e3, e4, e5, e6⟩ := so6 h
    rw [hQ, e1, e2, e3, e4, e5, e6]; rw [hAe] at hD hS; exact W.vret hx hb hr (fun t ht hW => ⟨⟨(), rfl, trivial, by rw [ht]; exact hP, va_K.moved hW.alike hK, hD⟩, hS.F ht⟩) hS.2.2 d_M_setStart_161
abbrev rm_M_starts : Room := { frames := 0, cells := 0, slots := 0, locals := 0 }
set_option maxHeartbeats 4000000 in
set_option maxRecDepth 100000 in
theorem c_M_starts (l : Launch) (D : va_G) (cI cJ cZ : ClassId) (F : Nat) (a : Nat → Nat) (M_thrown : Int) (M_period : Int) (M_width : Int) (M_nodes : Int) (M_analysed : Int) (M_gates : Int) (M_startNode : Int) (M_startChange : Int) (M_startWay : Int) (M_startBase : Int) (M_startEarly : Int) (M_startLate : Int) (M_worstWith : Int) (M_worstWithout : Int) (M_all : Int64) (M_rowSize : Int) (M_kinds : Int → Int) (M_wayCount : Int → Int) (x1 : Int) (r : Int) (sz : Nat) (h : f_M_starts F M_kinds M_wayCount x1 = some (r)) : Met l y_M_starts w_M_starts rm_M_starts (PC D [(cI, .int), (cJ, .long), (cZ, .boolean)] [.ref (a 0), .int (iI x1)] ([(o_M a M_thrown M_period M_width M_nodes M_analysed M_gates M_startNode M_startChange M_startWay M_startBase M_startEarly M_startLate M_worstWith M_worstWithout M_all M_rowSize), ((a 1), .inl (cI, 48, .inl (ia M_kinds))), ((a 12), .inl (cI, 48, .inl (ia M_wayCount)))]) sz) (QcRead (iI r)) 0 0 (fun _ => False) := by
  refine Met.ofW (cc := prog_12_method_36_code) (maxL := 2) (ret := (Option.some Jvm.ClassFile.FieldType.int)) (by decide) rfl ?_
  intro p e s m args below meth c s₁ B hml hv
  obtain ⟨rfl, hsz, hP, hK, hD0, hN⟩ := hv
  have hx := B.exec
  have hb := B.bytes
  have hr := B.returns
  have hts := atoms_spec (ws := w_M_starts) B.pre
  have hown : s.vm.findClass R_M = some m.cls := findClass_of_methodNamed B.named
  have hlocks := B.notSynchronized
  subst hsz
  have hl := lv_entry ([.ref (a 0), .int (iI x1)]) (n := 2) (Nat.le_of_ble_eq_true rfl)
  rw [lg_entry_eq]
  generalize (lg_sl ([.ref (a 0), .int (iI x1)]) ++ List.replicate (2 - (lg_sl ([.ref (a 0), .int (iI x1)])).length) Slot.unset).toArray = ls at hl ⊢
  have hl : lv_has ls 2 [(0, .ref (a 0)), (1, .int (iI x1))] := hl
  generalize (List.toArray ([.ref (a 0), .int (iI x1)] : List Value)) = args at hts ⊢
  have hT : ∀ w ∈ Tg, w.before args s = true := fun w h => hts w (List.mem_cons_of_mem _ h)
  obtain ⟨Q, hQ⟩ : ∃ Q, Q = MQ below (QcRead (iI r)) args s 0 0 (fun _ => False) := ⟨_, rfl⟩
  rw [← hQ]
  rw [f_M_starts] at h
  refine lv_aload_n hx hb d_M_starts_0 rfl (lv_at hl 0 rfl) ?_
  refine va_get (D := D) (ci := 10) (v := .ref (a 1)) (C := R_M) (T := F_M) (N := 53) hx hb hT in_M hown hK hP 0 rfl rfl 4 (by decide) (hT _ m1025) (fun _ h9 => h9) rfl d_M_starts_1 ?_
  refine lv_iload_n hx hb d_M_starts_4 rfl (lv_at hl 1 rfl) ?_
  obtain ⟨hin, h⟩ := gi_e h
  refine zv_iald hx hb hK hP 1 0 rfl rfl (Nat.le_of_ble_eq_true rfl) hin d_M_starts_5 ?_
  refine zv_iconst hx hb d_M_starts_6 ?_
  obtain ⟨hg0, h⟩ := gr_e h
  refine zc_ne hx hb d_M_starts_7 rfl hg0 (by decide) (fun hc => ?_) (fun hc => ?_)
  · replace h := if_f hc h
    refine lv_aload_n hx hb d_M_starts_14 rfl (lv_at hl 0 rfl) ?_
    refine va_get (D := D) (ci := 10) (v := .ref (a 1)) (C := R_M) (T := F_M) (N := 53) hx hb hT in_M hown hK hP 0 rfl rfl 4 (by decide) (hT _ m1025) (fun _ h9 => h9) rfl d_M_starts_15 ?_
    refine lv_iload_n hx hb d_M_starts_18 rfl (lv_at hl 1 rfl) ?_
    obtain ⟨hin, h⟩ := gi_e h
    refine zv_iald hx hb hK hP 1 0 rfl rfl (Nat.le_of_ble_eq_true rfl) hin d_M_starts_19 ?_
    refine zv_iconst hx hb d_M_starts_20 ?_
    obtain ⟨hg0, h⟩ := gr_e h
    refine zc_ne hx hb d_M_starts_21 rfl hg0 (by decide) (fun hc => ?_) (fun hc => ?_)
    · replace h := if_f hc h
      refine zv_iconst hx hb d_M_starts_35 ?_
      have e1 := so1 h
      rw [hQ, e1]; exact W.iret hx hb hr (fun t ht hW => ⟨rfl, ht⟩) (fun q h => nomatch h) d_M_starts_36
    · replace h := if_t hc h
      refine zv_iconst hx hb d_M_starts_24 ?_
      refine lv_aload_n hx hb d_M_starts_25 rfl (lv_at hl 0 rfl) ?_
      refine va_get (D := D) (ci := 10) (v := .ref (a 12)) (C := R_M) (T := F_M) (N := 53) hx hb hT in_M hown hK hP 0 rfl rfl 17 (by decide) (hT _ m1038) (fun _ h9 => h9) rfl d_M_starts_26 ?_
      refine lv_iload_n hx hb d_M_starts_29 rfl (lv_at hl 1 rfl) ?_
      obtain ⟨hin, h⟩ := gi_e h
      refine zv_iald hx hb hK hP 2 0 rfl rfl (Nat.le_of_ble_eq_true rfl) hin d_M_starts_30 ?_
      refine zv_imul hx hb d_M_starts_31 ?_
      refine lv_goto hx hb d_M_starts_32 rfl ?_
      have e1 := so1 h
      rw [hQ, e1]; exact W.iret hx hb hr (fun t ht hW => ⟨rfl, ht⟩) (fun q h => nomatch h) d_M_starts_36
  · replace h := if_t hc h
    refine zv_iconst hx hb d_M_starts_10 ?_
    refine lv_goto hx hb d_M_starts_11 rfl ?_
    have e1 := so1 h
    rw [hQ, e1]; exact W.iret hx hb hr (fun t ht hW => ⟨rfl, ht⟩) (fun q h => nomatch h) d_M_starts_36
abbrev rm_M_countGoals : Room := { frames := 1, cells := 0, slots := 0, locals := 25 }
set_option maxHeartbeats 4000000 in
set_option maxRecDepth 100000 in
theorem c_M_countGoals (l : Launch) (D : va_G) (cI cJ cZ : ClassId) (F : Nat) (a : Nat → Nat) (M_thrown : Int) (M_period : Int) (M_width : Int) (M_nodes : Int) (M_analysed : Int) (M_gates : Int) (M_startNode : Int) (M_startChange : Int) (M_startWay : Int) (M_startBase : Int) (M_startEarly : Int) (M_startLate : Int) (M_worstWith : Int) (M_worstWithout : Int) (M_all : Int64) (M_rowSize : Int) (M_kinds : Int → Int) (M_pins : Int → Int) (M_froms : Int → Int) (M_senses : Int → Int) (M_order : Int → Int) (M_wayCount : Int → Int) (M_goals : Int → Int64) (z_M_goals : Int → Int64) (z_M_all : Int64) (sz : Nat) (h : f_M_countGoals F M_nodes M_gates M_kinds M_pins M_froms M_senses M_order M_wayCount M_goals = some (z_M_goals, z_M_all)) : Met l y_M_countGoals w_M_countGoals rm_M_countGoals (PC D [(cI, .int), (cJ, .long), (cZ, .boolean)] [.ref (a 0)] ([(o_M a M_thrown M_period M_width M_nodes M_analysed M_gates M_startNode M_startChange M_startWay M_startBase M_startEarly M_startLate M_worstWith M_worstWithout M_all M_rowSize), ((a 1), .inl (cI, 48, .inl (ia M_kinds))), ((a 2), .inl (cI, 48, .inl (ia M_pins))), ((a 3), .inl (cI, 144, .inl (ia M_froms))), ((a 6), .inl (cI, 144, .inl (ia M_senses))), ((a 11), .inl (cI, 48, .inl (ia M_order))), ((a 12), .inl (cI, 48, .inl (ia M_wayCount))), ((a 27), .inl (cJ, 96, .inr (.inl (la M_goals))))]) sz) (QV D [(cI, .int), (cJ, .long), (cZ, .boolean)] ([(o_M a M_thrown M_period M_width M_nodes M_analysed M_gates M_startNode M_startChange M_startWay M_startBase M_startEarly M_startLate M_worstWith M_worstWithout M_all M_rowSize), ((a 1), .inl (cI, 48, .inl (ia M_kinds))), ((a 2), .inl (cI, 48, .inl (ia M_pins))), ((a 3), .inl (cI, 144, .inl (ia M_froms))), ((a 6), .inl (cI, 144, .inl (ia M_senses))), ((a 11), .inl (cI, 48, .inl (ia M_order))), ((a 12), .inl (cI, 48, .inl (ia M_wayCount))), ((a 27), .inl (cJ, 96, .inr (.inl (la M_goals))))]) sz ([(o_M a M_thrown M_period M_width M_nodes M_analysed M_gates M_startNode M_startChange M_startWay M_startBase M_startEarly M_startLate M_worstWith M_worstWithout z_M_all M_rowSize), ((a 1), .inl (cI, 48, .inl (ia M_kinds))), ((a 2), .inl (cI, 48, .inl (ia M_pins))), ((a 3), .inl (cI, 144, .inl (ia M_froms))), ((a 6), .inl (cI, 144, .inl (ia M_senses))), ((a 11), .inl (cI, 48, .inl (ia M_order))), ((a 12), .inl (cI, 48, .inl (ia M_wayCount))), ((a 27), .inl (cJ, 96, .inr (.inl (la z_M_goals))))])) 0 0 (va_A ([(o_M a M_thrown M_period M_width M_nodes M_analysed M_gates M_startNode M_startChange M_startWay M_startBase M_startEarly M_startLate M_worstWith M_worstWithout M_all M_rowSize), ((a 1), .inl (cI, 48, .inl (ia M_kinds))), ((a 2), .inl (cI, 48, .inl (ia M_pins))), ((a 3), .inl (cI, 144, .inl (ia M_froms))), ((a 6), .inl (cI, 144, .inl (ia M_senses))), ((a 11), .inl (cI, 48, .inl (ia M_order))), ((a 12), .inl (cI, 48, .inl (ia M_wayCount))), ((a 27), .inl (cJ, 96, .inr (.inl (la M_goals))))]) sz) := by
  refine Met.ofW (cc := prog_12_method_37_code) (maxL := 7) (ret := (Option.none : Option Jvm.ClassFile.FieldType)) (by decide) rfl ?_
  intro p e s m args below meth c s₁ B hml hv
  obtain ⟨rfl, hsz, hP, hK, hD0, hN⟩ := hv
  have hx := B.exec
  have hb := B.bytes
  have hr := B.returns
  have hts := atoms_spec (ws := w_M_countGoals) B.pre
  have hown : s.vm.findClass R_M = some m.cls := findClass_of_methodNamed B.named
  have hlocks := B.notSynchronized
  subst hsz
  have hD := hD0.self (sz := s.heap.size)
  obtain ⟨A, hAe⟩ : ∃ A, A = va_A ([(o_M a M_thrown M_period M_width M_nodes M_analysed M_gates M_startNode M_startChange M_startWay M_startBase M_startEarly M_startLate M_worstWith M_worstWithout M_all M_rowSize), ((a 1), .inl (cI, 48, .inl (ia M_kinds))), ((a 2), .inl (cI, 48, .inl (ia M_pins))), ((a 3), .inl (cI, 144, .inl (ia M_froms))), ((a 6), .inl (cI, 144, .inl (ia M_senses))), ((a 11), .inl (cI, 48, .inl (ia M_order))), ((a 12), .inl (cI, 48, .inl (ia M_wayCount))), ((a 27), .inl (cJ, 96, .inr (.inl (la M_goals))))]) s.heap.size := ⟨_, rfl⟩
  rw [← hAe] at hD
  have hA : ∀ q : Nat, s.heap.size ≤ q → A q := fun q h => by rw [hAe]; exact Or.inr h
  have hS : va_S A s.heap s.heap [] := va_S.rf
  have hl := lv_entry ([.ref (a 0)]) (n := 7) (Nat.le_of_ble_eq_true rfl)
  rw [lg_entry_eq]
  generalize (lg_sl ([.ref (a 0)]) ++ List.replicate (7 - (lg_sl ([.ref (a 0)])).length) Slot.unset).toArray = ls at hl ⊢
  have hl : lv_has ls 7 [(0, .ref (a 0))] := hl
  generalize (List.toArray ([.ref (a 0)] : List Value)) = args at hts ⊢
  have hT : ∀ w ∈ Tg, w.before args s = true := fun w h => hts w (List.mem_cons_of_mem _ h)
  obtain ⟨Q, hQ⟩ : ∃ Q, Q = MQ below (QV D [(cI, .int), (cJ, .long), (cZ, .boolean)] ([(o_M a M_thrown M_period M_width M_nodes M_analysed M_gates M_startNode M_startChange M_startWay M_startBase M_startEarly M_startLate M_worstWith M_worstWithout M_all M_rowSize), ((a 1), .inl (cI, 48, .inl (ia M_kinds))), ((a 2), .inl (cI, 48, .inl (ia M_pins))), ((a 3), .inl (cI, 144, .inl (ia M_froms))), ((a 6), .inl (cI, 144, .inl (ia M_senses))), ((a 11), .inl (cI, 48, .inl (ia M_order))), ((a 12), .inl (cI, 48, .inl (ia M_wayCount))), ((a 27), .inl (cJ, 96, .inr (.inl (la M_goals))))]) s.heap.size ([(o_M a M_thrown M_period M_width M_nodes M_analysed M_gates M_startNode M_startChange M_startWay M_startBase M_startEarly M_startLate M_worstWith M_worstWithout z_M_all M_rowSize), ((a 1), .inl (cI, 48, .inl (ia M_kinds))), ((a 2), .inl (cI, 48, .inl (ia M_pins))), ((a 3), .inl (cI, 144, .inl (ia M_froms))), ((a 6), .inl (cI, 144, .inl (ia M_senses))), ((a 11), .inl (cI, 48, .inl (ia M_order))), ((a 12), .inl (cI, 48, .inl (ia M_wayCount))), ((a 27), .inl (cJ, 96, .inr (.inl (la z_M_goals))))])) args s 0 0 (va_A ([(o_M a M_thrown M_period M_width M_nodes M_analysed M_gates M_startNode M_startChange M_startWay M_startBase M_startEarly M_startLate M_worstWith M_worstWithout M_all M_rowSize), ((a 1), .inl (cI, 48, .inl (ia M_kinds))), ((a 2), .inl (cI, 48, .inl (ia M_pins))), ((a 3), .inl (cI, 144, .inl (ia M_froms))), ((a 6), .inl (cI, 144, .inl (ia M_senses))), ((a 11), .inl (cI, 48, .inl (ia M_order))), ((a 12), .inl (cI, 48, .inl (ia M_wayCount))), ((a 27), .inl (cJ, 96, .inr (.inl (la M_goals))))]) s.heap.size) := ⟨_, rfl⟩
  rw [← hQ]
  suffices hW : ∀ (H : Heap) (locs : List Loc), va_P D vwCl ([(o_M a M_thrown M_period M_width M_nodes M_analysed M_gates M_startNode M_startChange M_startWay M_startBase M_startEarly M_startLate M_worstWith M_worstWithout M_all M_rowSize), ((a 1), .inl (cI, 48, .inl (ia M_kinds))), ((a 2), .inl (cI, 48, .inl (ia M_pins))), ((a 3), .inl (cI, 144, .inl (ia M_froms))), ((a 6), .inl (cI, 144, .inl (ia M_senses))), ((a 11), .inl (cI, 48, .inl (ia M_order))), ((a 12), .inl (cI, 48, .inl (ia M_wayCount))), ((a 27), .inl (cJ, 96, .inr (.inl (la M_goals))))]) H → va_D A ([(o_M a M_thrown M_period M_width M_nodes M_analysed M_gates M_startNode M_startChange M_startWay M_startBase M_startEarly M_startLate M_worstWith M_worstWithout M_all M_rowSize), ((a 1), .inl (cI, 48, .inl (ia M_kinds))), ((a 2), .inl (cI, 48, .inl (ia M_pins))), ((a 3), .inl (cI, 144, .inl (ia M_froms))), ((a 6), .inl (cI, 144, .inl (ia M_senses))), ((a 11), .inl (cI, 48, .inl (ia M_order))), ((a 12), .inl (cI, 48, .inl (ia M_wayCount))), ((a 27), .inl (cJ, 96, .inr (.inl (la M_goals))))]) → va_S A s.heap H locs → W p l e (headSpec w_M_countGoals rm_M_countGoals).room s m args below meth c H locs 0 0 Q (F0 m 0 ls []) from hW s.heap [] hP hD hS
  clear hP hD hS
  intro H locs hP hD hS
  have hk0 := hT _ m1283
  rw [f_M_countGoals] at h
  refine zv_iconst hx hb d_M_countGoals_0 ?_
  refine lv_istore_n (lv' := [(1, .int (iI 0)), (0, .ref (a 0))]) hx hb d_M_countGoals_1 rfl hl (by decide) rfl (fun ls hl => ?_)
  have hl2 : ∀ (nf : Nat) (v1 : Int) (M_goals_1 : Int → Int64) (H : Heap) (locs : List Loc) (ls : Array Slot), va_P D vwCl [(o_M a M_thrown M_period M_width M_nodes M_analysed M_gates M_startNode M_startChange M_startWay M_startBase M_startEarly M_startLate M_worstWith M_worstWithout M_all M_rowSize), ((a 1), .inl (cI, 48, .inl (ia M_kinds))), ((a 2), .inl (cI, 48, .inl (ia M_pins))), ((a 3), .inl (cI, 144, .inl (ia M_froms))), ((a 6), .inl (cI, 144, .inl (ia M_senses))), ((a 11), .inl (cI, 48, .inl (ia M_order))), ((a 12), .inl (cI, 48, .inl (ia M_wayCount))), ((a 27), .inl (cJ, 96, .inr (.inl (la M_goals_1))))] H → va_D A [(o_M a M_thrown M_period M_width M_nodes M_analysed M_gates M_startNode M_startChange M_startWay M_startBase M_startEarly M_startLate M_worstWith M_worstWithout M_all M_rowSize), ((a 1), .inl (cI, 48, .inl (ia M_kinds))), ((a 2), .inl (cI, 48, .inl (ia M_pins))), ((a 3), .inl (cI, 144, .inl (ia M_froms))), ((a 6), .inl (cI, 144, .inl (ia M_senses))), ((a 11), .inl (cI, 48, .inl (ia M_order))), ((a 12), .inl (cI, 48, .inl (ia M_wayCount))), ((a 27), .inl (cJ, 96, .inr (.inl (la M_goals_1))))] → va_S A s.heap H locs → lv_has ls 7 [(0, .ref (a 0)), (1, .int (iI v1))] → lq2 (f_M_countGoals_b2 F M_nodes M_gates M_kinds M_pins M_froms M_senses M_order M_wayCount) nf v1 M_goals_1 = some (z_M_goals, z_M_all) → W p l e (headSpec w_M_countGoals rm_M_countGoals).room s m args below meth c H locs 0 0 Q (F0 m 2 ls []) := by
    intro n2
    induction n2 with
    | zero => intro v1 M_goals_1 H locs ls hP hD hS hl h; exact no_some h
    | succ n2 ih2 =>
      intro v1 M_goals_1 H locs ls hP hD hS hl h
      replace h : f_M_countGoals_b2 F M_nodes M_gates M_kinds M_pins M_froms M_senses M_order M_wayCount (lq2 (f_M_countGoals_b2 F M_nodes M_gates M_kinds M_pins M_froms M_senses M_order M_wayCount) n2) v1 M_goals_1 = some (z_M_goals, z_M_all) := h
      obtain ⟨self2, hs2⟩ : ∃ z, z = lq2 (f_M_countGoals_b2 F M_nodes M_gates M_kinds M_pins M_froms M_senses M_order M_wayCount) n2 := ⟨_, rfl⟩
      rw [← hs2] at h ih2
      rw [f_M_countGoals_b2] at h
      refine lv_iload_n hx hb d_M_countGoals_2 rfl (lv_at hl 1 rfl) ?_
      refine lv_bipush (v := iI 96) hx hb d_M_countGoals_3 (by decide) ?_
      obtain ⟨hg0, h⟩ := gr_e h
      refine zc_ge hx hb d_M_countGoals_5 rfl hg0 (by decide) (fun hc => ?_) (fun hc => ?_)
      · replace h := if_t hc h
        refine zv_iconst hx hb d_M_countGoals_21 ?_
        refine lv_istore_n (lv' := [(1, .int (iI 0)), (0, .ref (a 0))]) hx hb d_M_countGoals_22 rfl hl (by decide) rfl (fun ls hl => ?_)
        have hl23 : ∀ (nf : Nat) (v1_2 : Int) (M_goals_3 : Int → Int64) (H : Heap) (locs : List Loc) (ls : Array Slot), va_P D vwCl [(o_M a M_thrown M_period M_width M_nodes M_analysed M_gates M_startNode M_startChange M_startWay M_startBase M_startEarly M_startLate M_worstWith M_worstWithout M_all M_rowSize), ((a 1), .inl (cI, 48, .inl (ia M_kinds))), ((a 2), .inl (cI, 48, .inl (ia M_pins))), ((a 3), .inl (cI, 144, .inl (ia M_froms))), ((a 6), .inl (cI, 144, .inl (ia M_senses))), ((a 11), .inl (cI, 48, .inl (ia M_order))), ((a 12), .inl (cI, 48, .inl (ia M_wayCount))), ((a 27), .inl (cJ, 96, .inr (.inl (la M_goals_3))))] H → va_D A [(o_M a M_thrown M_period M_width M_nodes M_analysed M_gates M_startNode M_startChange M_startWay M_startBase M_startEarly M_startLate M_worstWith M_worstWithout M_all M_rowSize), ((a 1), .inl (cI, 48, .inl (ia M_kinds))), ((a 2), .inl (cI, 48, .inl (ia M_pins))), ((a 3), .inl (cI, 144, .inl (ia M_froms))), ((a 6), .inl (cI, 144, .inl (ia M_senses))), ((a 11), .inl (cI, 48, .inl (ia M_order))), ((a 12), .inl (cI, 48, .inl (ia M_wayCount))), ((a 27), .inl (cJ, 96, .inr (.inl (la M_goals_3))))] → va_S A s.heap H locs → lv_has ls 7 [(0, .ref (a 0)), (1, .int (iI v1_2))] → lq2 (f_M_countGoals_b23 F M_nodes M_gates M_kinds M_pins M_froms M_senses M_order M_wayCount) nf v1_2 M_goals_3 = some (z_M_goals, z_M_all) → W p l e (headSpec w_M_countGoals rm_M_countGoals).room s m args below meth c H locs 0 0 Q (F0 m 23 ls []) := by
          intro n23
          induction n23 with
          | zero => intro v1_2 M_goals_3 H locs ls hP hD hS hl h; exact no_some h
          | succ n23 ih23 =>
            intro v1_2 M_goals_3 H locs ls hP hD hS hl h
            replace h : f_M_countGoals_b23 F M_nodes M_gates M_kinds M_pins M_froms M_senses M_order M_wayCount (lq2 (f_M_countGoals_b23 F M_nodes M_gates M_kinds M_pins M_froms M_senses M_order M_wayCount) n23) v1_2 M_goals_3 = some (z_M_goals, z_M_all) := h
            obtain ⟨self23, hs23⟩ : ∃ z, z = lq2 (f_M_countGoals_b23 F M_nodes M_gates M_kinds M_pins M_froms M_senses M_order M_wayCount) n23 := ⟨_, rfl⟩
            rw [← hs23] at h ih23
            rw [f_M_countGoals_b23] at h
            refine lv_iload_n hx hb d_M_countGoals_23 rfl (lv_at hl 1 rfl) ?_
            refine lv_aload_n hx hb d_M_countGoals_24 rfl (lv_at hl 0 rfl) ?_
            refine va_get (D := D) (ci := 10) (v := .int (iI M_nodes)) (C := R_M) (T := F_M) (N := 53) hx hb hT in_M hown hK hP 0 rfl rfl 3 (by decide) (hT _ m1024) (fun _ h9 => h9) rfl d_M_countGoals_25 ?_
            obtain ⟨hg0, h⟩ := gr_e h
            obtain ⟨hg1, h⟩ := gr_e h
            refine zc_ge hx hb d_M_countGoals_28 rfl hg0 hg1 (fun hc => ?_) (fun hc => ?_)
            · replace h := if_t hc h
              refine lv_aload_n hx hb d_M_countGoals_105 rfl (lv_at hl 0 rfl) ?_
              refine va_get (D := D) (ci := 10) (v := .int (iI M_gates)) (C := R_M) (T := F_M) (N := 53) hx hb hT in_M hown hK hP 0 rfl rfl 16 (by decide) (hT _ m1037) (fun _ h9 => h9) rfl d_M_countGoals_106 ?_
              refine zv_iconst hx hb d_M_countGoals_109 ?_
              refine zv_isub hx hb d_M_countGoals_110 ?_
              refine zv_top (fun v1_4 hv => ?_)
              replace h := bd_e hv h
              refine lv_istore_n (lv' := [(1, .int (iI v1_4)), (0, .ref (a 0))]) hx hb d_M_countGoals_111 rfl hl (by decide) rfl (fun ls hl => ?_)
              have hl112 : ∀ (nf : Nat) (v1_5 : Int) (M_goals_6 : Int → Int64) (H : Heap) (locs : List Loc) (ls : Array Slot), va_P D vwCl [(o_M a M_thrown M_period M_width M_nodes M_analysed M_gates M_startNode M_startChange M_startWay M_startBase M_startEarly M_startLate M_worstWith M_worstWithout M_all M_rowSize), ((a 1), .inl (cI, 48, .inl (ia M_kinds))), ((a 2), .inl (cI, 48, .inl (ia M_pins))), ((a 3), .inl (cI, 144, .inl (ia M_froms))), ((a 6), .inl (cI, 144, .inl (ia M_senses))), ((a 11), .inl (cI, 48, .inl (ia M_order))), ((a 12), .inl (cI, 48, .inl (ia M_wayCount))), ((a 27), .inl (cJ, 96, .inr (.inl (la M_goals_6))))] H → va_D A [(o_M a M_thrown M_period M_width M_nodes M_analysed M_gates M_startNode M_startChange M_startWay M_startBase M_startEarly M_startLate M_worstWith M_worstWithout M_all M_rowSize), ((a 1), .inl (cI, 48, .inl (ia M_kinds))), ((a 2), .inl (cI, 48, .inl (ia M_pins))), ((a 3), .inl (cI, 144, .inl (ia M_froms))), ((a 6), .inl (cI, 144, .inl (ia M_senses))), ((a 11), .inl (cI, 48, .inl (ia M_order))), ((a 12), .inl (cI, 48, .inl (ia M_wayCount))), ((a 27), .inl (cJ, 96, .inr (.inl (la M_goals_6))))] → va_S A s.heap H locs → lv_has ls 7 [(0, .ref (a 0)), (1, .int (iI v1_5))] → lq2 (f_M_countGoals_b112 F M_nodes M_kinds M_pins M_froms M_senses M_order M_wayCount) nf v1_5 M_goals_6 = some (z_M_goals, z_M_all) → W p l e (headSpec w_M_countGoals rm_M_countGoals).room s m args below meth c H locs 0 0 Q (F0 m 112 ls []) := by
                intro n112
                induction n112 with
                | zero => intro v1_5 M_goals_6 H locs ls hP hD hS hl h; exact no_some h
                | succ n112 ih112 =>
                  intro v1_5 M_goals_6 H locs ls hP hD hS hl h
                  replace h : f_M_countGoals_b112 F M_nodes M_kinds M_pins M_froms M_senses M_order M_wayCount (lq2 (f_M_countGoals_b112 F M_nodes M_kinds M_pins M_froms M_senses M_order M_wayCount) n112) v1_5 M_goals_6 = some (z_M_goals, z_M_all) := h
                  obtain ⟨self112, hs112⟩ : ∃ z, z = lq2 (f_M_countGoals_b112 F M_nodes M_kinds M_pins M_froms M_senses M_order M_wayCount) n112 := ⟨_, rfl⟩
                  rw [← hs112] at h ih112
                  rw [f_M_countGoals_b112] at h
                  refine lv_iload_n hx hb d_M_countGoals_112 rfl (lv_at hl 1 rfl) ?_
                  obtain ⟨hg0, h⟩ := gr_e h
                  refine zi_lt hx hb d_M_countGoals_113 rfl hg0 (fun hc => ?_) (fun hc => ?_)
                  · replace h := if_t hc h
                    refine lv_aload_n hx hb d_M_countGoals_249 rfl (lv_at hl 0 rfl) ?_
                    refine lv_lconst (v := 0) hx hb d_M_countGoals_250 (by decide) ?_
                    refine va_put (D := D) (ci := 10) (v := .long 0) (ty := .long) (C := R_M) (T := F_M) (N := 53) hx hb hT in_M ty_M ty_M_ok n_M hown hK hP hD hS 0 rfl rfl 41 (by decide) (hT _ m1062) (fun _ h9 => h9) rfl (by decide +kernel) rfl rfl (Nat.le_of_ble_eq_true rfl) d_M_countGoals_251 (fun H locs hP hD hS => ?_)
                    have hP : va_P D vwCl [(o_M a M_thrown M_period M_width M_nodes M_analysed M_gates M_startNode M_startChange M_startWay M_startBase M_startEarly M_startLate M_worstWith M_worstWithout 0 M_rowSize), ((a 1), .inl (cI, 48, .inl (ia M_kinds))), ((a 2), .inl (cI, 48, .inl (ia M_pins))), ((a 3), .inl (cI, 144, .inl (ia M_froms))), ((a 6), .inl (cI, 144, .inl (ia M_senses))), ((a 11), .inl (cI, 48, .inl (ia M_order))), ((a 12), .inl (cI, 48, .inl (ia M_wayCount))), ((a 27), .inl (cJ, 96, .inr (.inl (la M_goals_6))))] H := hP
                    have hD : va_D A [(o_M a M_thrown M_period M_width M_nodes M_analysed M_gates M_startNode M_startChange M_startWay M_startBase M_startEarly M_startLate M_worstWith M_worstWithout 0 M_rowSize), ((a 1), .inl (cI, 48, .inl (ia M_kinds))), ((a 2), .inl (cI, 48, .inl (ia M_pins))), ((a 3), .inl (cI, 144, .inl (ia M_froms))), ((a 6), .inl (cI, 144, .inl (ia M_senses))), ((a 11), .inl (cI, 48, .inl (ia M_order))), ((a 12), .inl (cI, 48, .inl (ia M_wayCount))), ((a 27), .inl (cJ, 96, .inr (.inl (la M_goals_6))))] := hD
                    refine zv_iconst hx hb d_M_countGoals_254 ?_
                    refine lv_istore_n (lv' := [(1, .int (iI 0)), (0, .ref (a 0))]) hx hb d_M_countGoals_255 rfl hl (by decide) rfl (fun ls hl => ?_)
                    have hl256 : ∀ (nf : Nat) (v1_7 : Int) (M_all_8 : Int64) (H : Heap) (locs : List Loc) (ls : Array Slot), va_P D vwCl [(o_M a M_thrown M_period M_width M_nodes M_analysed M_gates M_startNode M_startChange M_startWay M_startBase M_startEarly M_startLate M_worstWith M_worstWithout M_all_8 M_rowSize), ((a 1), .inl (cI, 48, .inl (ia M_kinds))), ((a 2), .inl (cI, 48, .inl (ia M_pins))), ((a 3), .inl (cI, 144, .inl (ia M_froms))), ((a 6), .inl (cI, 144, .inl (ia M_senses))), ((a 11), .inl (cI, 48, .inl (ia M_order))), ((a 12), .inl (cI, 48, .inl (ia M_wayCount))), ((a 27), .inl (cJ, 96, .inr (.inl (la M_goals_6))))] H → va_D A [(o_M a M_thrown M_period M_width M_nodes M_analysed M_gates M_startNode M_startChange M_startWay M_startBase M_startEarly M_startLate M_worstWith M_worstWithout M_all_8 M_rowSize), ((a 1), .inl (cI, 48, .inl (ia M_kinds))), ((a 2), .inl (cI, 48, .inl (ia M_pins))), ((a 3), .inl (cI, 144, .inl (ia M_froms))), ((a 6), .inl (cI, 144, .inl (ia M_senses))), ((a 11), .inl (cI, 48, .inl (ia M_order))), ((a 12), .inl (cI, 48, .inl (ia M_wayCount))), ((a 27), .inl (cJ, 96, .inr (.inl (la M_goals_6))))] → va_S A s.heap H locs → lv_has ls 7 [(0, .ref (a 0)), (1, .int (iI v1_7))] → lq2 (f_M_countGoals_b256 F M_nodes M_kinds M_wayCount M_goals_6) nf v1_7 M_all_8 = some (z_M_goals, z_M_all) → W p l e (headSpec w_M_countGoals rm_M_countGoals).room s m args below meth c H locs 0 0 Q (F0 m 256 ls []) := by
                      intro n256
                      induction n256 with
                      | zero => intro v1_7 M_all_8 H locs ls hP hD hS hl h; exact no_some h
                      | succ n256 ih256 =>
                        intro v1_7 M_all_8 H locs ls hP hD hS hl h
                        replace h : f_M_countGoals_b256 F M_nodes M_kinds M_wayCount M_goals_6 (lq2 (f_M_countGoals_b256 F M_nodes M_kinds M_wayCount M_goals_6) n256) v1_7 M_all_8 = some (z_M_goals, z_M_all) := h
                        obtain ⟨self256, hs256⟩ : ∃ z, z = lq2 (f_M_countGoals_b256 F M_nodes M_kinds M_wayCount M_goals_6) n256 := ⟨_, rfl⟩
                        rw [← hs256] at h ih256
                        rw [f_M_countGoals_b256] at h
                        refine lv_iload_n hx hb d_M_countGoals_256 rfl (lv_at hl 1 rfl) ?_
                        refine lv_aload_n hx hb d_M_countGoals_257 rfl (lv_at hl 0 rfl) ?_
                        refine va_get (D := D) (ci := 10) (v := .int (iI M_nodes)) (C := R_M) (T := F_M) (N := 53) hx hb hT in_M hown hK hP 0 rfl rfl 3 (by decide) (hT _ m1024) (fun _ h9 => h9) rfl d_M_countGoals_258 ?_
                        obtain ⟨hg0, h⟩ := gr_e h
                        obtain ⟨hg1, h⟩ := gr_e h
                        refine zc_ge hx hb d_M_countGoals_261 rfl hg0 hg1 (fun hc => ?_) (fun hc => ?_)
                        · replace h := if_t hc h
                          obtain ⟨e1, e2⟩ := so2 h
                          rw [hQ, e1, e2]; rw [hAe] at hD hS; exact W.vret hx hb hr (fun t ht hW => ⟨⟨(), rfl, trivial, by rw [ht]; exact hP, va_K.moved hW.alike hK, hD⟩, hS.F ht⟩) hS.2.2 d_M_countGoals_308
                        · replace h := if_f hc h
                          refine zv_iconst hx hb d_M_countGoals_264 ?_
                          refine lv_istore_n (lv' := [(2, .int (iI 0)), (0, .ref (a 0)), (1, .int (iI v1_7))]) hx hb d_M_countGoals_265 rfl hl (by decide) rfl (fun ls hl => ?_)
                          have hl266 : ∀ (nf : Nat) (v2 : Int) (M_all_9 : Int64) (H : Heap) (locs : List Loc) (ls : Array Slot), va_P D vwCl [(o_M a M_thrown M_period M_width M_nodes M_analysed M_gates M_startNode M_startChange M_startWay M_startBase M_startEarly M_startLate M_worstWith M_worstWithout M_all_9 M_rowSize), ((a 1), .inl (cI, 48, .inl (ia M_kinds))), ((a 2), .inl (cI, 48, .inl (ia M_pins))), ((a 3), .inl (cI, 144, .inl (ia M_froms))), ((a 6), .inl (cI, 144, .inl (ia M_senses))), ((a 11), .inl (cI, 48, .inl (ia M_order))), ((a 12), .inl (cI, 48, .inl (ia M_wayCount))), ((a 27), .inl (cJ, 96, .inr (.inl (la M_goals_6))))] H → va_D A [(o_M a M_thrown M_period M_width M_nodes M_analysed M_gates M_startNode M_startChange M_startWay M_startBase M_startEarly M_startLate M_worstWith M_worstWithout M_all_9 M_rowSize), ((a 1), .inl (cI, 48, .inl (ia M_kinds))), ((a 2), .inl (cI, 48, .inl (ia M_pins))), ((a 3), .inl (cI, 144, .inl (ia M_froms))), ((a 6), .inl (cI, 144, .inl (ia M_senses))), ((a 11), .inl (cI, 48, .inl (ia M_order))), ((a 12), .inl (cI, 48, .inl (ia M_wayCount))), ((a 27), .inl (cJ, 96, .inr (.inl (la M_goals_6))))] → va_S A s.heap H locs → lv_has ls 7 [(0, .ref (a 0)), (1, .int (iI v1_7)), (2, .int (iI v2))] → lq2 (f_M_countGoals_b266 F M_kinds M_wayCount M_goals_6 v1_7 self256) nf v2 M_all_9 = some (z_M_goals, z_M_all) → W p l e (headSpec w_M_countGoals rm_M_countGoals).room s m args below meth c H locs 0 0 Q (F0 m 266 ls []) := by
                            intro n266
                            induction n266 with
                            | zero => intro v2 M_all_9 H locs ls hP hD hS hl h; exact no_some h
                            | succ n266 ih266 =>
                              intro v2 M_all_9 H locs ls hP hD hS hl h
                              replace h : f_M_countGoals_b266 F M_kinds M_wayCount M_goals_6 v1_7 self256 (lq2 (f_M_countGoals_b266 F M_kinds M_wayCount M_goals_6 v1_7 self256) n266) v2 M_all_9 = some (z_M_goals, z_M_all) := h
                              obtain ⟨self266, hs266⟩ : ∃ z, z = lq2 (f_M_countGoals_b266 F M_kinds M_wayCount M_goals_6 v1_7 self256) n266 := ⟨_, rfl⟩
                              rw [← hs266] at h ih266
                              rw [f_M_countGoals_b266] at h
                              refine lv_iload_n hx hb d_M_countGoals_266 rfl (lv_at hl 2 rfl) ?_
                              refine lv_aload_n hx hb d_M_countGoals_267 rfl (lv_at hl 0 rfl) ?_
                              refine lv_iload_n hx hb d_M_countGoals_268 rfl (lv_at hl 1 rfl) ?_
                              obtain ⟨r269, hcall, h⟩ := ob1_e h
                              refine ro_i (va_Run.run (va_runV (As := [.int (iI v1_7)]) (rest := [.int (iI v2)]) ⟨hx, hb, hml, hown, hts⟩ (c_M_starts l D cI cJ cZ F a M_thrown M_period M_width M_nodes M_analysed M_gates M_startNode M_startChange M_startWay M_startBase M_startEarly M_startLate M_worstWith M_worstWithout M_all_9 M_rowSize M_kinds M_wayCount v1_7 r269 H.size hcall) (cwV 1 hts (gd_V m1287 m1284 m1286 sl_M_starts m12) rfl rfl rfl ⟨rfl, hc_M_starts⟩ ⟨Nat.le_of_ble_eq_true rfl, Nat.le_of_ble_eq_true rfl⟩) (pc_V 0 10 [.int (iI v1_7)] hP hK hD hN [0, 1, 6] rfl rfl rfl rfl rfl) rfl rfl hl.1 rfl (lv_room (Nat.le_of_ble_eq_true rfl)) d_M_countGoals_269 ⟨Nat.le_refl 0, Nat.le_refl 0⟩)) (W.eq (g2 := F0 m 272 ls [.int (iI r269), .int (iI v2)]) rfl ?_)
                              obtain ⟨hg0, h⟩ := gr_e h
                              obtain ⟨hg1, h⟩ := gr_e h
                              refine zc_ge hx hb d_M_countGoals_272 rfl hg0 hg1 (fun hc => ?_) (fun hc => ?_)
                              · replace h := if_t hc h
                                refine lv_iinc (v := iI (v1_7 + 1)) (k := 1) (lv' := [(1, .int (iI (v1_7 + 1))), (0, .ref (a 0)), (2, .int (iI v2))]) hx hb d_M_countGoals_302 hl rfl (iI_add _ _) (by decide) rfl (fun ls hl => ?_)
                                refine lv_goto hx hb d_M_countGoals_305 rfl ?_
                                exact ih256 (v1_7 + 1) M_all_9 H locs ls hP hD hS (lv_sub hl [1, 0] rfl) h
                              · replace h := if_f hc h
                                refine lv_aload_n hx hb d_M_countGoals_275 rfl (lv_at hl 0 rfl) ?_
                                refine lv_dup hx hb d_M_countGoals_276 rfl ?_
                                refine va_get (D := D) (ci := 10) (v := .long M_all_9) (C := R_M) (T := F_M) (N := 53) hx hb hT in_M hown hK hP 0 rfl rfl 41 (by decide) (hT _ m1062) (fun _ h9 => h9) rfl d_M_countGoals_277 ?_
                                refine lv_aload_n hx hb d_M_countGoals_280 rfl (lv_at hl 0 rfl) ?_
                                refine va_get (D := D) (ci := 10) (v := .ref (a 27)) (C := R_M) (T := F_M) (N := 53) hx hb hT in_M hown hK hP 0 rfl rfl 40 (by decide) (hT _ m1061) (fun _ h9 => h9) rfl d_M_countGoals_281 ?_
                                refine zv_iconst hx hb d_M_countGoals_284 ?_
                                refine lv_iload_n hx hb d_M_countGoals_285 rfl (lv_at hl 1 rfl) ?_
                                refine zv_imul hx hb d_M_countGoals_286 ?_
                                refine lv_iload_n hx hb d_M_countGoals_287 rfl (lv_at hl 2 rfl) ?_
                                refine zv_iconst hx hb d_M_countGoals_288 ?_
                                obtain ⟨hg, h⟩ := gp_e h
                                refine zv_irem hx hb d_M_countGoals_289 hg (by decide) ?_
                                refine zv_iadd hx hb d_M_countGoals_290 ?_
                                obtain ⟨hin, h⟩ := gi_e h
                                refine zv_lald hx hb hK hP 7 1 rfl rfl (Nat.le_of_ble_eq_true rfl) hin d_M_countGoals_291 ?_
                                refine lv_ladd hx hb d_M_countGoals_292 ?_
                                refine va_put (D := D) (ci := 10) (v := .long (M_all_9 + (M_goals_6 ((2 * v1_7) + (v2 % 2))))) (ty := .long) (C := R_M) (T := F_M) (N := 53) hx hb hT in_M ty_M ty_M_ok n_M hown hK hP hD hS 0 rfl rfl 41 (by decide) (hT _ m1062) (fun _ h9 => h9) rfl (by decide +kernel) rfl rfl (Nat.le_of_ble_eq_true rfl) d_M_countGoals_293 (fun H locs hP hD hS => ?_)
                                have hP : va_P D vwCl [(o_M a M_thrown M_period M_width M_nodes M_analysed M_gates M_startNode M_startChange M_startWay M_startBase M_startEarly M_startLate M_worstWith M_worstWithout (M_all_9 + (M_goals_6 ((2 * v1_7) + (v2 % 2)))) M_rowSize), ((a 1), .inl (cI, 48, .inl (ia M_kinds))), ((a 2), .inl (cI, 48, .inl (ia M_pins))), ((a 3), .inl (cI, 144, .inl (ia M_froms))), ((a 6), .inl (cI, 144, .inl (ia M_senses))), ((a 11), .inl (cI, 48, .inl (ia M_order))), ((a 12), .inl (cI, 48, .inl (ia M_wayCount))), ((a 27), .inl (cJ, 96, .inr (.inl (la M_goals_6))))] H := hP
                                have hD : va_D A [(o_M a M_thrown M_period M_width M_nodes M_analysed M_gates M_startNode M_startChange M_startWay M_startBase M_startEarly M_startLate M_worstWith M_worstWithout (M_all_9 + (M_goals_6 ((2 * v1_7) + (v2 % 2)))) M_rowSize), ((a 1), .inl (cI, 48, .inl (ia M_kinds))), ((a 2), .inl (cI, 48, .inl (ia M_pins))), ((a 3), .inl (cI, 144, .inl (ia M_froms))), ((a 6), .inl (cI, 144, .inl (ia M_senses))), ((a 11), .inl (cI, 48, .inl (ia M_order))), ((a 12), .inl (cI, 48, .inl (ia M_wayCount))), ((a 27), .inl (cJ, 96, .inr (.inl (la M_goals_6))))] := hD
                                refine lv_iinc (v := iI (v2 + 1)) (k := 2) (lv' := [(2, .int (iI (v2 + 1))), (0, .ref (a 0)), (1, .int (iI v1_7))]) hx hb d_M_countGoals_296 hl rfl (iI_add _ _) (by decide) rfl (fun ls hl => ?_)
                                refine lv_goto hx hb d_M_countGoals_299 rfl ?_
                                exact ih266 (v2 + 1) (M_all_9 + (M_goals_6 ((2 * v1_7) + (v2 % 2)))) H locs ls hP hD hS (lv_sub hl [1, 2, 0] rfl) h
                          exact hl266 F 0 M_all_8 H locs ls hP hD hS (lv_sub hl [1, 2, 0] rfl) h
                    exact hl256 F 0 0 H locs ls hP hD hS (lv_sub hl [1, 0] rfl) h
                  · replace h := if_f hc h
                    refine lv_aload_n hx hb d_M_countGoals_116 rfl (lv_at hl 0 rfl) ?_
                    refine va_get (D := D) (ci := 10) (v := .ref (a 11)) (C := R_M) (T := F_M) (N := 53) hx hb hT in_M hown hK hP 0 rfl rfl 15 (by decide) (hT _ m1036) (fun _ h9 => h9) rfl d_M_countGoals_117 ?_
                    refine lv_iload_n hx hb d_M_countGoals_120 rfl (lv_at hl 1 rfl) ?_
                    obtain ⟨hin, h⟩ := gi_e h
                    refine zv_iald hx hb hK hP 5 0 rfl rfl (Nat.le_of_ble_eq_true rfl) hin d_M_countGoals_121 ?_
                    refine zv_top (fun v2_10 hv => ?_)
                    replace h := bd_e hv h
                    refine lv_istore_n (lv' := [(2, .int (iI v2_10)), (0, .ref (a 0)), (1, .int (iI v1_5))]) hx hb d_M_countGoals_122 rfl hl (by decide) rfl (fun ls hl => ?_)
                    refine zv_iconst hx hb d_M_countGoals_123 ?_
                    refine lv_istore_n (lv' := [(3, .int (iI 0)), (2, .int (iI v2_10)), (0, .ref (a 0)), (1, .int (iI v1_5))]) hx hb d_M_countGoals_124 rfl hl (by decide) rfl (fun ls hl => ?_)
                    have hl125 : ∀ (nf : Nat) (v3 : Int) (M_goals_11 : Int → Int64) (H : Heap) (locs : List Loc) (ls : Array Slot), va_P D vwCl [(o_M a M_thrown M_period M_width M_nodes M_analysed M_gates M_startNode M_startChange M_startWay M_startBase M_startEarly M_startLate M_worstWith M_worstWithout M_all M_rowSize), ((a 1), .inl (cI, 48, .inl (ia M_kinds))), ((a 2), .inl (cI, 48, .inl (ia M_pins))), ((a 3), .inl (cI, 144, .inl (ia M_froms))), ((a 6), .inl (cI, 144, .inl (ia M_senses))), ((a 11), .inl (cI, 48, .inl (ia M_order))), ((a 12), .inl (cI, 48, .inl (ia M_wayCount))), ((a 27), .inl (cJ, 96, .inr (.inl (la M_goals_11))))] H → va_D A [(o_M a M_thrown M_period M_width M_nodes M_analysed M_gates M_startNode M_startChange M_startWay M_startBase M_startEarly M_startLate M_worstWith M_worstWithout M_all M_rowSize), ((a 1), .inl (cI, 48, .inl (ia M_kinds))), ((a 2), .inl (cI, 48, .inl (ia M_pins))), ((a 3), .inl (cI, 144, .inl (ia M_froms))), ((a 6), .inl (cI, 144, .inl (ia M_senses))), ((a 11), .inl (cI, 48, .inl (ia M_order))), ((a 12), .inl (cI, 48, .inl (ia M_wayCount))), ((a 27), .inl (cJ, 96, .inr (.inl (la M_goals_11))))] → va_S A s.heap H locs → lv_has ls 7 [(0, .ref (a 0)), (1, .int (iI v1_5)), (2, .int (iI v2_10)), (3, .int (iI v3))] → lq2 (f_M_countGoals_b125 F M_pins M_froms M_senses v1_5 self112 v2_10) nf v3 M_goals_11 = some (z_M_goals, z_M_all) → W p l e (headSpec w_M_countGoals rm_M_countGoals).room s m args below meth c H locs 0 0 Q (F0 m 125 ls []) := by
                      intro n125
                      induction n125 with
                      | zero => intro v3 M_goals_11 H locs ls hP hD hS hl h; exact no_some h
                      | succ n125 ih125 =>
                        intro v3 M_goals_11 H locs ls hP hD hS hl h
                        replace h : f_M_countGoals_b125 F M_pins M_froms M_senses v1_5 self112 v2_10 (lq2 (f_M_countGoals_b125 F M_pins M_froms M_senses v1_5 self112 v2_10) n125) v3 M_goals_11 = some (z_M_goals, z_M_all) := h
                        obtain ⟨self125, hs125⟩ : ∃ z, z = lq2 (f_M_countGoals_b125 F M_pins M_froms M_senses v1_5 self112 v2_10) n125 := ⟨_, rfl⟩
                        rw [← hs125] at h ih125
                        rw [f_M_countGoals_b125] at h
                        refine lv_iload_n hx hb d_M_countGoals_125 rfl (lv_at hl 3 rfl) ?_
                        refine zv_iconst hx hb d_M_countGoals_126 ?_
                        refine lv_aload_n hx hb d_M_countGoals_127 rfl (lv_at hl 0 rfl) ?_
                        refine va_get (D := D) (ci := 10) (v := .ref (a 2)) (C := R_M) (T := F_M) (N := 53) hx hb hT in_M hown hK hP 0 rfl rfl 5 (by decide) (hT _ m1026) (fun _ h9 => h9) rfl d_M_countGoals_128 ?_
                        refine lv_iload_n hx hb d_M_countGoals_131 rfl (lv_at hl 2 rfl) ?_
                        obtain ⟨hin, h⟩ := gi_e h
                        refine zv_iald hx hb hK hP 2 0 rfl rfl (Nat.le_of_ble_eq_true rfl) hin d_M_countGoals_132 ?_
                        refine zv_imul hx hb d_M_countGoals_133 ?_
                        obtain ⟨hg0, h⟩ := gr_e h
                        obtain ⟨hg1, h⟩ := gr_e h
                        refine zc_ge hx hb d_M_countGoals_134 rfl hg0 hg1 (fun hc => ?_) (fun hc => ?_)
                        · replace h := if_t hc h
                          refine lv_iinc (v := iI (v1_5 + (-1))) (k := 1) (lv' := [(1, .int (iI (v1_5 + (-1)))), (0, .ref (a 0)), (2, .int (iI v2_10)), (3, .int (iI v3))]) hx hb d_M_countGoals_243 hl rfl (iI_add _ _) (by decide) rfl (fun ls hl => ?_)
                          refine lv_goto hx hb d_M_countGoals_246 rfl ?_
                          exact ih112 (v1_5 + (-1)) M_goals_11 H locs ls hP hD hS (lv_sub hl [1, 0] rfl) h
                        · replace h := if_f hc h
                          refine lv_aload_n hx hb d_M_countGoals_137 rfl (lv_at hl 0 rfl) ?_
                          refine va_get (D := D) (ci := 10) (v := .ref (a 3)) (C := R_M) (T := F_M) (N := 53) hx hb hT in_M hown hK hP 0 rfl rfl 6 (by decide) (hT _ m1027) (fun _ h9 => h9) rfl d_M_countGoals_138 ?_
                          refine zv_iconst hx hb d_M_countGoals_141 ?_
                          refine lv_iload_n hx hb d_M_countGoals_142 rfl (lv_at hl 2 rfl) ?_
                          refine zv_imul hx hb d_M_countGoals_143 ?_
                          refine lv_iload_n hx hb d_M_countGoals_144 rfl (lv_at hl 3 rfl) ?_
                          refine zv_iconst hx hb d_M_countGoals_145 ?_
                          obtain ⟨hg, h⟩ := gp_e h
                          refine zv_idiv hx hb d_M_countGoals_146 hg (by decide) ?_
                          refine zv_iadd hx hb d_M_countGoals_147 ?_
                          obtain ⟨hin, h⟩ := gi_e h
                          refine zv_iald hx hb hK hP 3 0 rfl rfl (Nat.le_of_ble_eq_true rfl) hin d_M_countGoals_148 ?_
                          refine zv_top (fun v4 hv => ?_)
                          replace h := bd_e hv h
                          refine lv_istore (lv' := [(4, .int (iI v4)), (0, .ref (a 0)), (1, .int (iI v1_5)), (2, .int (iI v2_10)), (3, .int (iI v3))]) hx hb d_M_countGoals_149 hl (by decide) rfl (fun ls hl => ?_)
                          refine lv_iload hx hb d_M_countGoals_151 (lv_at hl 0 rfl) ?_
                          have hj237 : ∀ (M_goals_12 : Int → Int64) (H : Heap) (locs : List Loc) (ls : Array Slot), va_P D vwCl [(o_M a M_thrown M_period M_width M_nodes M_analysed M_gates M_startNode M_startChange M_startWay M_startBase M_startEarly M_startLate M_worstWith M_worstWithout M_all M_rowSize), ((a 1), .inl (cI, 48, .inl (ia M_kinds))), ((a 2), .inl (cI, 48, .inl (ia M_pins))), ((a 3), .inl (cI, 144, .inl (ia M_froms))), ((a 6), .inl (cI, 144, .inl (ia M_senses))), ((a 11), .inl (cI, 48, .inl (ia M_order))), ((a 12), .inl (cI, 48, .inl (ia M_wayCount))), ((a 27), .inl (cJ, 96, .inr (.inl (la M_goals_12))))] H → va_D A [(o_M a M_thrown M_period M_width M_nodes M_analysed M_gates M_startNode M_startChange M_startWay M_startBase M_startEarly M_startLate M_worstWith M_worstWithout M_all M_rowSize), ((a 1), .inl (cI, 48, .inl (ia M_kinds))), ((a 2), .inl (cI, 48, .inl (ia M_pins))), ((a 3), .inl (cI, 144, .inl (ia M_froms))), ((a 6), .inl (cI, 144, .inl (ia M_senses))), ((a 11), .inl (cI, 48, .inl (ia M_order))), ((a 12), .inl (cI, 48, .inl (ia M_wayCount))), ((a 27), .inl (cJ, 96, .inr (.inl (la M_goals_12))))] → va_S A s.heap H locs → lv_has ls 7 [(0, .ref (a 0)), (1, .int (iI v1_5)), (2, .int (iI v2_10)), (3, .int (iI v3))] → f_M_countGoals_j237 F v3 self125 M_goals_12 = some (z_M_goals, z_M_all) → W p l e (headSpec w_M_countGoals rm_M_countGoals).room s m args below meth c H locs 0 0 Q (F0 m 237 ls []) := by
                            intro M_goals_12 H locs ls hP hD hS hl h
                            rw [f_M_countGoals_j237] at h
                            refine lv_iinc (v := iI (v3 + 1)) (k := 3) (lv' := [(3, .int (iI (v3 + 1))), (0, .ref (a 0)), (1, .int (iI v1_5)), (2, .int (iI v2_10))]) hx hb d_M_countGoals_237 hl rfl (iI_add _ _) (by decide) rfl (fun ls hl => ?_)
                            refine lv_goto hx hb d_M_countGoals_240 rfl ?_
                            exact ih125 (v3 + 1) M_goals_12 H locs ls hP hD hS (lv_sub hl [1, 2, 3, 0] rfl) h
                          obtain ⟨hg0, h⟩ := gr_e h
                          refine zi_lt hx hb d_M_countGoals_153 rfl hg0 (fun hc => ?_) (fun hc => ?_)
                          · replace h := if_t hc h
                            exact hj237 M_goals_11 H locs ls hP hD hS (lv_sub hl [1, 2, 3, 4] rfl) h
                          · replace h := if_f hc h
                            refine lv_aload_n hx hb d_M_countGoals_156 rfl (lv_at hl 1 rfl) ?_
                            refine lv_iload_n hx hb d_M_countGoals_157 rfl (lv_at hl 3 rfl) ?_
                            refine lv_iload_n hx hb d_M_countGoals_158 rfl (lv_at hl 4 rfl) ?_
                            refine zv_iconst hx hb d_M_countGoals_159 ?_
                            obtain ⟨hg, h⟩ := gp_e h
                            refine zv_idiv hx hb d_M_countGoals_160 hg (by decide) ?_
                            refine lv_iload_n hx hb d_M_countGoals_161 rfl (lv_at hl 4 rfl) ?_
                            refine zv_iconst hx hb d_M_countGoals_162 ?_
                            obtain ⟨hg, h⟩ := gp_e h
                            refine zv_idiv hx hb d_M_countGoals_163 hg (by decide) ?_
                            refine zv_iconst hx hb d_M_countGoals_164 ?_
                            obtain ⟨hg, h⟩ := gp_e h
                            refine zv_irem hx hb d_M_countGoals_165 hg (by decide) ?_
                            refine lv_iload_n hx hb d_M_countGoals_166 rfl (lv_at hl 4 rfl) ?_
                            refine zv_iconst hx hb d_M_countGoals_167 ?_
                            obtain ⟨hg, h⟩ := gp_e h
                            refine zv_irem hx hb d_M_countGoals_168 hg (by decide) ?_
                            obtain ⟨r169, hcall, h⟩ := ob1_e h
                            refine ro_i (va_Run.run (va_runV (As := [.int (iI v2_10), .int (iI (v3 / 4)), .int (iI ((v3 / 2) % 2)), .int (iI (v3 % 2))]) (rest := []) ⟨hx, hb, hml, hown, hts⟩ (c_M_lets l D cI cJ cZ F a M_thrown M_period M_width M_nodes M_analysed M_gates M_startNode M_startChange M_startWay M_startBase M_startEarly M_startLate M_worstWith M_worstWithout M_all M_rowSize M_senses v2_10 (v3 / 4) ((v3 / 2) % 2) (v3 % 2) r169 H.size hcall) (cwV 4 hts (gd_V m1266 m1263 m1265 sl_M_lets m12) rfl rfl rfl ⟨rfl, hc_M_lets⟩ ⟨Nat.le_of_ble_eq_true rfl, Nat.le_of_ble_eq_true rfl⟩) (pc_V 0 10 [.int (iI v2_10), .int (iI (v3 / 4)), .int (iI ((v3 / 2) % 2)), .int (iI (v3 % 2))] hP hK hD hN [0, 4] rfl rfl rfl rfl rfl) rfl rfl hl.1 rfl (lv_room (Nat.le_of_ble_eq_true rfl)) d_M_countGoals_169 ⟨Nat.le_refl 0, Nat.le_refl 0⟩)) (W.eq (g2 := F0 m 172 ls [.int (iI r169)]) rfl ?_)
                            obtain ⟨hg0, h⟩ := gr_e h
                            refine zi_eq hx hb d_M_countGoals_172 rfl hg0 (fun hc => ?_) (fun hc => ?_)
                            · replace h := if_t hc h
                              exact hj237 M_goals_11 H locs ls hP hD hS (lv_sub hl [1, 2, 3, 4] rfl) h
                            · replace h := if_f hc h
                              refine lv_aload_n hx hb d_M_countGoals_175 rfl (lv_at hl 1 rfl) ?_
                              refine va_get (D := D) (ci := 10) (v := .ref (a 27)) (C := R_M) (T := F_M) (N := 53) hx hb hT in_M hown hK hP 0 rfl rfl 40 (by decide) (hT _ m1061) (fun _ h9 => h9) rfl d_M_countGoals_176 ?_
                              refine zv_iconst hx hb d_M_countGoals_179 ?_
                              refine lv_iload hx hb d_M_countGoals_180 (lv_at hl 0 rfl) ?_
                              refine zv_imul hx hb d_M_countGoals_182 ?_
                              refine lv_iload_n hx hb d_M_countGoals_183 rfl (lv_at hl 4 rfl) ?_
                              refine zv_iconst hx hb d_M_countGoals_184 ?_
                              obtain ⟨hg, h⟩ := gp_e h
                              refine zv_idiv hx hb d_M_countGoals_185 hg (by decide) ?_
                              refine zv_iconst hx hb d_M_countGoals_186 ?_
                              obtain ⟨hg, h⟩ := gp_e h
                              refine zv_irem hx hb d_M_countGoals_187 hg (by decide) ?_
                              refine zv_iadd hx hb d_M_countGoals_188 ?_
                              obtain ⟨hin, h⟩ := gi_e h
                              refine zv_lald hx hb hK hP 7 1 rfl rfl (Nat.le_of_ble_eq_true rfl) hin d_M_countGoals_189 ?_
                              refine lv_aload_n hx hb d_M_countGoals_190 rfl (lv_at hl 1 rfl) ?_
                              refine va_get (D := D) (ci := 10) (v := .ref (a 27)) (C := R_M) (T := F_M) (N := 53) hx hb hT in_M hown hK hP 0 rfl rfl 40 (by decide) (hT _ m1061) (fun _ h9 => h9) rfl d_M_countGoals_191 ?_
                              refine zv_iconst hx hb d_M_countGoals_194 ?_
                              refine lv_iload_n hx hb d_M_countGoals_195 rfl (lv_at hl 3 rfl) ?_
                              refine zv_imul hx hb d_M_countGoals_196 ?_
                              refine lv_iload_n hx hb d_M_countGoals_197 rfl (lv_at hl 4 rfl) ?_
                              refine zv_iconst hx hb d_M_countGoals_198 ?_
                              obtain ⟨hg, h⟩ := gp_e h
                              refine zv_irem hx hb d_M_countGoals_199 hg (by decide) ?_
                              refine zv_iadd hx hb d_M_countGoals_200 ?_
                              obtain ⟨hin, h⟩ := gi_e h
                              refine zv_lald hx hb hK hP 7 1 rfl rfl (Nat.le_of_ble_eq_true rfl) hin d_M_countGoals_201 ?_
                              refine lv_ladd hx hb d_M_countGoals_202 ?_
                              refine lv_topl (fun v5 hv => ?_)
                              replace h := bd_e hv h
                              refine lv_lstore (lv' := [(5, .long v5), (4, .int (iI v4)), (0, .ref (a 0)), (1, .int (iI v1_5)), (2, .int (iI v2_10)), (3, .int (iI v3))]) hx hb d_M_countGoals_203 hl (by decide) rfl (fun ls hl => ?_)
                              refine lv_aload_n hx hb d_M_countGoals_205 rfl (lv_at hl 2 rfl) ?_
                              refine va_get (D := D) (ci := 10) (v := .ref (a 27)) (C := R_M) (T := F_M) (N := 53) hx hb hT in_M hown hK hP 0 rfl rfl 40 (by decide) (hT _ m1061) (fun _ h9 => h9) rfl d_M_countGoals_206 ?_
                              refine zv_iconst hx hb d_M_countGoals_209 ?_
                              refine lv_iload hx hb d_M_countGoals_210 (lv_at hl 1 rfl) ?_
                              refine zv_imul hx hb d_M_countGoals_212 ?_
                              refine lv_iload_n hx hb d_M_countGoals_213 rfl (lv_at hl 5 rfl) ?_
                              refine zv_iconst hx hb d_M_countGoals_214 ?_
                              obtain ⟨hg, h⟩ := gp_e h
                              refine zv_idiv hx hb d_M_countGoals_215 hg (by decide) ?_
                              refine zv_iconst hx hb d_M_countGoals_216 ?_
                              obtain ⟨hg, h⟩ := gp_e h
                              refine zv_irem hx hb d_M_countGoals_217 hg (by decide) ?_
                              refine zv_iadd hx hb d_M_countGoals_218 ?_
                              refine lv_lload hx hb d_M_countGoals_219 (lv_at hl 0 rfl) ?_
                              refine lv_ldc2 hx hb hown hk0 d_M_countGoals_221 ?_
                              refine zv_lcmp hx hb d_M_countGoals_224 ?_
                              have hj236 : ∀ (q2 : Int64) (H : Heap) (locs : List Loc) (ls : Array Slot), va_P D vwCl [(o_M a M_thrown M_period M_width M_nodes M_analysed M_gates M_startNode M_startChange M_startWay M_startBase M_startEarly M_startLate M_worstWith M_worstWithout M_all M_rowSize), ((a 1), .inl (cI, 48, .inl (ia M_kinds))), ((a 2), .inl (cI, 48, .inl (ia M_pins))), ((a 3), .inl (cI, 144, .inl (ia M_froms))), ((a 6), .inl (cI, 144, .inl (ia M_senses))), ((a 11), .inl (cI, 48, .inl (ia M_order))), ((a 12), .inl (cI, 48, .inl (ia M_wayCount))), ((a 27), .inl (cJ, 96, .inr (.inl (la M_goals_11))))] H → va_D A [(o_M a M_thrown M_period M_width M_nodes M_analysed M_gates M_startNode M_startChange M_startWay M_startBase M_startEarly M_startLate M_worstWith M_worstWithout M_all M_rowSize), ((a 1), .inl (cI, 48, .inl (ia M_kinds))), ((a 2), .inl (cI, 48, .inl (ia M_pins))), ((a 3), .inl (cI, 144, .inl (ia M_froms))), ((a 6), .inl (cI, 144, .inl (ia M_senses))), ((a 11), .inl (cI, 48, .inl (ia M_order))), ((a 12), .inl (cI, 48, .inl (ia M_wayCount))), ((a 27), .inl (cJ, 96, .inr (.inl (la M_goals_11))))] → va_S A s.heap H locs → lv_has ls 7 [(0, .ref (a 0)), (1, .int (iI v1_5)), (2, .int (iI v2_10)), (3, .int (iI v3))] → f_M_countGoals_j236 F v3 M_goals_11 self125 v4 q2 = some (z_M_goals, z_M_all) → W p l e (headSpec w_M_countGoals rm_M_countGoals).room s m args below meth c H locs 0 0 Q (F0 m 236 ls [.long q2, .int (iI ((2 * v4) + ((v3 / 2) % 2))), .ref (a 27)]) := by
                                intro q2 H locs ls hP hD hS hl h
                                rw [f_M_countGoals_j236] at h
                                obtain ⟨hin, h⟩ := gi_e h
                                refine zv_last hx hb hK hP hD hS 7 1 rfl rfl (Nat.le_of_ble_eq_true rfl) hin d_M_countGoals_236 (fun H locs hP hD hS => ?_)
                                obtain ⟨M_goals_13, hv⟩ : ∃ z, z = (ul M_goals_11 ((2 * v4) + ((v3 / 2) % 2)) q2) := ⟨_, rfl⟩
                                replace h := bd_e hv h
                                have hP : va_P D vwCl [(o_M a M_thrown M_period M_width M_nodes M_analysed M_gates M_startNode M_startChange M_startWay M_startBase M_startEarly M_startLate M_worstWith M_worstWithout M_all M_rowSize), ((a 1), .inl (cI, 48, .inl (ia M_kinds))), ((a 2), .inl (cI, 48, .inl (ia M_pins))), ((a 3), .inl (cI, 144, .inl (ia M_froms))), ((a 6), .inl (cI, 144, .inl (ia M_senses))), ((a 11), .inl (cI, 48, .inl (ia M_order))), ((a 12), .inl (cI, 48, .inl (ia M_wayCount))), ((a 27), .inl (cJ, 96, .inr (.inl (la M_goals_13))))] H := by rw [hv]; exact hP
                                have hD : va_D A [(o_M a M_thrown M_period M_width M_nodes M_analysed M_gates M_startNode M_startChange M_startWay M_startBase M_startEarly M_startLate M_worstWith M_worstWithout M_all M_rowSize), ((a 1), .inl (cI, 48, .inl (ia M_kinds))), ((a 2), .inl (cI, 48, .inl (ia M_pins))), ((a 3), .inl (cI, 144, .inl (ia M_froms))), ((a 6), .inl (cI, 144, .inl (ia M_senses))), ((a 11), .inl (cI, 48, .inl (ia M_order))), ((a 12), .inl (cI, 48, .inl (ia M_wayCount))), ((a 27), .inl (cJ, 96, .inr (.inl (la M_goals_13))))] := by rw [hv]; exact hD
                                exact hj237 M_goals_13 H locs ls hP hD hS (lv_sub hl [0, 1, 2, 3] rfl) h
                              obtain ⟨hg0, h⟩ := gr_e h
                              refine zi_le hx hb d_M_countGoals_225 rfl hg0 (fun hc => ?_) (fun hc => ?_)
                              · replace h := if_t hc h
                                refine lv_lload hx hb d_M_countGoals_234 (lv_at hl 0 rfl) ?_
                                exact hj236 v5 H locs ls hP hD hS (lv_sub hl [2, 3, 4, 5] rfl) h
                              · replace h := if_f hc h
                                refine lv_ldc2 hx hb hown hk0 d_M_countGoals_228 ?_
                                refine lv_goto hx hb d_M_countGoals_231 rfl ?_
                                exact hj236 1000000 H locs ls hP hD hS (lv_sub hl [2, 3, 4, 5] rfl) h
                    exact hl125 F 0 M_goals_6 H locs ls hP hD hS (lv_sub hl [2, 3, 1, 0] rfl) h
              exact hl112 F v1_4 M_goals_3 H locs ls hP hD hS (lv_sub hl [1, 0] rfl) h
            · replace h := if_f hc h
              refine lv_aload_n hx hb d_M_countGoals_31 rfl (lv_at hl 0 rfl) ?_
              refine va_get (D := D) (ci := 10) (v := .ref (a 3)) (C := R_M) (T := F_M) (N := 53) hx hb hT in_M hown hK hP 0 rfl rfl 6 (by decide) (hT _ m1027) (fun _ h9 => h9) rfl d_M_countGoals_32 ?_
              refine zv_iconst hx hb d_M_countGoals_35 ?_
              refine lv_iload_n hx hb d_M_countGoals_36 rfl (lv_at hl 1 rfl) ?_
              refine zv_imul hx hb d_M_countGoals_37 ?_
              obtain ⟨hin, h⟩ := gi_e h
              refine zv_iald hx hb hK hP 3 0 rfl rfl (Nat.le_of_ble_eq_true rfl) hin d_M_countGoals_38 ?_
              refine zv_top (fun v2_14 hv => ?_)
              replace h := bd_e hv h
              refine lv_istore_n (lv' := [(2, .int (iI v2_14)), (0, .ref (a 0)), (1, .int (iI v1_2))]) hx hb d_M_countGoals_39 rfl hl (by decide) rfl (fun ls hl => ?_)
              refine zv_iconst hx hb d_M_countGoals_40 ?_
              refine lv_istore_n (lv' := [(3, .int (iI 0)), (2, .int (iI v2_14)), (0, .ref (a 0)), (1, .int (iI v1_2))]) hx hb d_M_countGoals_41 rfl hl (by decide) rfl (fun ls hl => ?_)
              have hl42 : ∀ (nf : Nat) (v3_15 : Int) (M_goals_16 : Int → Int64) (H : Heap) (locs : List Loc) (ls : Array Slot), va_P D vwCl [(o_M a M_thrown M_period M_width M_nodes M_analysed M_gates M_startNode M_startChange M_startWay M_startBase M_startEarly M_startLate M_worstWith M_worstWithout M_all M_rowSize), ((a 1), .inl (cI, 48, .inl (ia M_kinds))), ((a 2), .inl (cI, 48, .inl (ia M_pins))), ((a 3), .inl (cI, 144, .inl (ia M_froms))), ((a 6), .inl (cI, 144, .inl (ia M_senses))), ((a 11), .inl (cI, 48, .inl (ia M_order))), ((a 12), .inl (cI, 48, .inl (ia M_wayCount))), ((a 27), .inl (cJ, 96, .inr (.inl (la M_goals_16))))] H → va_D A [(o_M a M_thrown M_period M_width M_nodes M_analysed M_gates M_startNode M_startChange M_startWay M_startBase M_startEarly M_startLate M_worstWith M_worstWithout M_all M_rowSize), ((a 1), .inl (cI, 48, .inl (ia M_kinds))), ((a 2), .inl (cI, 48, .inl (ia M_pins))), ((a 3), .inl (cI, 144, .inl (ia M_froms))), ((a 6), .inl (cI, 144, .inl (ia M_senses))), ((a 11), .inl (cI, 48, .inl (ia M_order))), ((a 12), .inl (cI, 48, .inl (ia M_wayCount))), ((a 27), .inl (cJ, 96, .inr (.inl (la M_goals_16))))] → va_S A s.heap H locs → lv_has ls 7 [(0, .ref (a 0)), (1, .int (iI v1_2)), (2, .int (iI v2_14)), (3, .int (iI v3_15))] → lq2 (f_M_countGoals_b42 F M_nodes M_kinds M_wayCount v1_2 self23 v2_14) nf v3_15 M_goals_16 = some (z_M_goals, z_M_all) → W p l e (headSpec w_M_countGoals rm_M_countGoals).room s m args below meth c H locs 0 0 Q (F0 m 42 ls []) := by
                intro n42
                induction n42 with
                | zero => intro v3_15 M_goals_16 H locs ls hP hD hS hl h; exact no_some h
                | succ n42 ih42 =>
                  intro v3_15 M_goals_16 H locs ls hP hD hS hl h
                  replace h : f_M_countGoals_b42 F M_nodes M_kinds M_wayCount v1_2 self23 v2_14 (lq2 (f_M_countGoals_b42 F M_nodes M_kinds M_wayCount v1_2 self23 v2_14) n42) v3_15 M_goals_16 = some (z_M_goals, z_M_all) := h
                  obtain ⟨self42, hs42⟩ : ∃ z, z = lq2 (f_M_countGoals_b42 F M_nodes M_kinds M_wayCount v1_2 self23 v2_14) n42 := ⟨_, rfl⟩
                  rw [← hs42] at h ih42
                  rw [f_M_countGoals_b42] at h
                  refine lv_iload_n hx hb d_M_countGoals_42 rfl (lv_at hl 3 rfl) ?_
                  refine zv_iconst hx hb d_M_countGoals_43 ?_
                  have hj99 : ∀  (H : Heap) (locs : List Loc) (ls : Array Slot), va_P D vwCl [(o_M a M_thrown M_period M_width M_nodes M_analysed M_gates M_startNode M_startChange M_startWay M_startBase M_startEarly M_startLate M_worstWith M_worstWithout M_all M_rowSize), ((a 1), .inl (cI, 48, .inl (ia M_kinds))), ((a 2), .inl (cI, 48, .inl (ia M_pins))), ((a 3), .inl (cI, 144, .inl (ia M_froms))), ((a 6), .inl (cI, 144, .inl (ia M_senses))), ((a 11), .inl (cI, 48, .inl (ia M_order))), ((a 12), .inl (cI, 48, .inl (ia M_wayCount))), ((a 27), .inl (cJ, 96, .inr (.inl (la M_goals_16))))] H → va_D A [(o_M a M_thrown M_period M_width M_nodes M_analysed M_gates M_startNode M_startChange M_startWay M_startBase M_startEarly M_startLate M_worstWith M_worstWithout M_all M_rowSize), ((a 1), .inl (cI, 48, .inl (ia M_kinds))), ((a 2), .inl (cI, 48, .inl (ia M_pins))), ((a 3), .inl (cI, 144, .inl (ia M_froms))), ((a 6), .inl (cI, 144, .inl (ia M_senses))), ((a 11), .inl (cI, 48, .inl (ia M_order))), ((a 12), .inl (cI, 48, .inl (ia M_wayCount))), ((a 27), .inl (cJ, 96, .inr (.inl (la M_goals_16))))] → va_S A s.heap H locs → lv_has ls 7 [(0, .ref (a 0)), (1, .int (iI v1_2))] → f_M_countGoals_j99 F v1_2 self23 M_goals_16 = some (z_M_goals, z_M_all) → W p l e (headSpec w_M_countGoals rm_M_countGoals).room s m args below meth c H locs 0 0 Q (F0 m 99 ls []) := by
                    intro  H locs ls hP hD hS hl h
                    rw [f_M_countGoals_j99] at h
                    refine lv_iinc (v := iI (v1_2 + 1)) (k := 1) (lv' := [(1, .int (iI (v1_2 + 1))), (0, .ref (a 0))]) hx hb d_M_countGoals_99 hl rfl (iI_add _ _) (by decide) rfl (fun ls hl => ?_)
                    refine lv_goto hx hb d_M_countGoals_102 rfl ?_
                    exact ih23 (v1_2 + 1) M_goals_16 H locs ls hP hD hS (lv_sub hl [1, 0] rfl) h
                  obtain ⟨hg0, h⟩ := gr_e h
                  refine zc_ge hx hb d_M_countGoals_44 rfl hg0 (by decide) (fun hc => ?_) (fun hc => ?_)
                  · replace h := if_t hc h
                    exact hj99  H locs ls hP hD hS (lv_sub hl [0, 1] rfl) h
                  · replace h := if_f hc h
                    refine lv_aload_n hx hb d_M_countGoals_47 rfl (lv_at hl 0 rfl) ?_
                    refine lv_iload_n hx hb d_M_countGoals_48 rfl (lv_at hl 1 rfl) ?_
                    obtain ⟨r49, hcall, h⟩ := ob1_e h
                    refine ro_i (va_Run.run (va_runV (As := [.int (iI v1_2)]) (rest := []) ⟨hx, hb, hml, hown, hts⟩ (c_M_isEnd l D cI cJ cZ F a M_thrown M_period M_width M_nodes M_analysed M_gates M_startNode M_startChange M_startWay M_startBase M_startEarly M_startLate M_worstWith M_worstWithout M_all M_rowSize M_kinds v1_2 r49 H.size hcall) (cwV 1 hts (gd_V m1237 m1234 m1236 sl_M_isEnd m12) rfl rfl rfl ⟨rfl, hc_M_isEnd⟩ ⟨Nat.le_of_ble_eq_true rfl, Nat.le_of_ble_eq_true rfl⟩) (pc_V 0 10 [.int (iI v1_2)] hP hK hD hN [0, 1] rfl rfl rfl rfl rfl) rfl rfl hl.1 rfl (lv_room (Nat.le_of_ble_eq_true rfl)) d_M_countGoals_49 ⟨Nat.le_refl 0, Nat.le_refl 0⟩)) (W.eq (g2 := F0 m 52 ls [.int (iI r49)]) rfl ?_)
                    obtain ⟨hg0, h⟩ := gr_e h
                    refine zi_eq hx hb d_M_countGoals_52 rfl hg0 (fun hc => ?_) (fun hc => ?_)
                    · replace h := if_t hc h
                      exact hj99  H locs ls hP hD hS (lv_sub hl [0, 1] rfl) h
                    · replace h := if_f hc h
                      refine lv_iload_n hx hb d_M_countGoals_55 rfl (lv_at hl 2 rfl) ?_
                      obtain ⟨hg0, h⟩ := gr_e h
                      refine zi_lt hx hb d_M_countGoals_56 rfl hg0 (fun hc => ?_) (fun hc => ?_)
                      · replace h := if_t hc h
                        exact hj99  H locs ls hP hD hS (lv_sub hl [0, 1] rfl) h
                      · replace h := if_f hc h
                        refine lv_aload_n hx hb d_M_countGoals_59 rfl (lv_at hl 0 rfl) ?_
                        refine va_get (D := D) (ci := 10) (v := .ref (a 27)) (C := R_M) (T := F_M) (N := 53) hx hb hT in_M hown hK hP 0 rfl rfl 40 (by decide) (hT _ m1061) (fun _ h9 => h9) rfl d_M_countGoals_60 ?_
                        refine zv_iconst hx hb d_M_countGoals_63 ?_
                        refine lv_iload_n hx hb d_M_countGoals_64 rfl (lv_at hl 2 rfl) ?_
                        refine zv_imul hx hb d_M_countGoals_65 ?_
                        refine lv_iload_n hx hb d_M_countGoals_66 rfl (lv_at hl 3 rfl) ?_
                        refine zv_iadd hx hb d_M_countGoals_67 ?_
                        refine lv_dup2_11 hx hb d_M_countGoals_68 rfl rfl ?_
                        obtain ⟨hin, h⟩ := gi_e h
                        refine zv_lald hx hb hK hP 7 1 rfl rfl (Nat.le_of_ble_eq_true rfl) hin d_M_countGoals_69 ?_
                        refine lv_aload_n hx hb d_M_countGoals_70 rfl (lv_at hl 0 rfl) ?_
                        refine va_get (D := D) (ci := 10) (v := .ref (a 1)) (C := R_M) (T := F_M) (N := 53) hx hb hT in_M hown hK hP 0 rfl rfl 4 (by decide) (hT _ m1025) (fun _ h9 => h9) rfl d_M_countGoals_71 ?_
                        refine lv_iload_n hx hb d_M_countGoals_74 rfl (lv_at hl 1 rfl) ?_
                        obtain ⟨hin, h⟩ := gi_e h
                        refine zv_iald hx hb hK hP 1 0 rfl rfl (Nat.le_of_ble_eq_true rfl) hin d_M_countGoals_75 ?_
                        refine zv_iconst hx hb d_M_countGoals_76 ?_
                        have hj91 : ∀ (q3 : Int64) (H : Heap) (locs : List Loc) (ls : Array Slot), va_P D vwCl [(o_M a M_thrown M_period M_width M_nodes M_analysed M_gates M_startNode M_startChange M_startWay M_startBase M_startEarly M_startLate M_worstWith M_worstWithout M_all M_rowSize), ((a 1), .inl (cI, 48, .inl (ia M_kinds))), ((a 2), .inl (cI, 48, .inl (ia M_pins))), ((a 3), .inl (cI, 144, .inl (ia M_froms))), ((a 6), .inl (cI, 144, .inl (ia M_senses))), ((a 11), .inl (cI, 48, .inl (ia M_order))), ((a 12), .inl (cI, 48, .inl (ia M_wayCount))), ((a 27), .inl (cJ, 96, .inr (.inl (la M_goals_16))))] H → va_D A [(o_M a M_thrown M_period M_width M_nodes M_analysed M_gates M_startNode M_startChange M_startWay M_startBase M_startEarly M_startLate M_worstWith M_worstWithout M_all M_rowSize), ((a 1), .inl (cI, 48, .inl (ia M_kinds))), ((a 2), .inl (cI, 48, .inl (ia M_pins))), ((a 3), .inl (cI, 144, .inl (ia M_froms))), ((a 6), .inl (cI, 144, .inl (ia M_senses))), ((a 11), .inl (cI, 48, .inl (ia M_order))), ((a 12), .inl (cI, 48, .inl (ia M_wayCount))), ((a 27), .inl (cJ, 96, .inr (.inl (la M_goals_16))))] → va_S A s.heap H locs → lv_has ls 7 [(0, .ref (a 0)), (1, .int (iI v1_2)), (2, .int (iI v2_14)), (3, .int (iI v3_15))] → f_M_countGoals_j91 F v2_14 v3_15 M_goals_16 self42 q3 = some (z_M_goals, z_M_all) → W p l e (headSpec w_M_countGoals rm_M_countGoals).room s m args below meth c H locs 0 0 Q (F0 m 91 ls [.long q3, .long (M_goals_16 ((2 * v2_14) + v3_15)), .int (iI ((2 * v2_14) + v3_15)), .ref (a 27)]) := by
                          intro q3 H locs ls hP hD hS hl h
                          rw [f_M_countGoals_j91] at h
                          refine lv_ladd hx hb d_M_countGoals_91 ?_
                          obtain ⟨hin, h⟩ := gi_e h
                          refine zv_last hx hb hK hP hD hS 7 1 rfl rfl (Nat.le_of_ble_eq_true rfl) hin d_M_countGoals_92 (fun H locs hP hD hS => ?_)
                          obtain ⟨M_goals_17, hv⟩ : ∃ z, z = (ul M_goals_16 ((2 * v2_14) + v3_15) ((M_goals_16 ((2 * v2_14) + v3_15)) + q3)) := ⟨_, rfl⟩
                          replace h := bd_e hv h
                          have hP : va_P D vwCl [(o_M a M_thrown M_period M_width M_nodes M_analysed M_gates M_startNode M_startChange M_startWay M_startBase M_startEarly M_startLate M_worstWith M_worstWithout M_all M_rowSize), ((a 1), .inl (cI, 48, .inl (ia M_kinds))), ((a 2), .inl (cI, 48, .inl (ia M_pins))), ((a 3), .inl (cI, 144, .inl (ia M_froms))), ((a 6), .inl (cI, 144, .inl (ia M_senses))), ((a 11), .inl (cI, 48, .inl (ia M_order))), ((a 12), .inl (cI, 48, .inl (ia M_wayCount))), ((a 27), .inl (cJ, 96, .inr (.inl (la M_goals_17))))] H := by rw [hv]; exact hP
                          have hD : va_D A [(o_M a M_thrown M_period M_width M_nodes M_analysed M_gates M_startNode M_startChange M_startWay M_startBase M_startEarly M_startLate M_worstWith M_worstWithout M_all M_rowSize), ((a 1), .inl (cI, 48, .inl (ia M_kinds))), ((a 2), .inl (cI, 48, .inl (ia M_pins))), ((a 3), .inl (cI, 144, .inl (ia M_froms))), ((a 6), .inl (cI, 144, .inl (ia M_senses))), ((a 11), .inl (cI, 48, .inl (ia M_order))), ((a 12), .inl (cI, 48, .inl (ia M_wayCount))), ((a 27), .inl (cJ, 96, .inr (.inl (la M_goals_17))))] := by rw [hv]; exact hD
                          refine lv_iinc (v := iI (v3_15 + 1)) (k := 3) (lv' := [(3, .int (iI (v3_15 + 1))), (0, .ref (a 0)), (1, .int (iI v1_2)), (2, .int (iI v2_14))]) hx hb d_M_countGoals_93 hl rfl (iI_add _ _) (by decide) rfl (fun ls hl => ?_)
                          refine lv_goto hx hb d_M_countGoals_96 rfl ?_
                          exact ih42 (v3_15 + 1) M_goals_17 H locs ls hP hD hS (lv_sub hl [1, 2, 3, 0] rfl) h
                        obtain ⟨hg0, h⟩ := gr_e h
                        refine zc_ne hx hb d_M_countGoals_77 rfl hg0 (by decide) (fun hc => ?_) (fun hc => ?_)
                        · replace h := if_f hc h
                          refine lv_aload_n hx hb d_M_countGoals_84 rfl (lv_at hl 0 rfl) ?_
                          refine va_get (D := D) (ci := 10) (v := .ref (a 12)) (C := R_M) (T := F_M) (N := 53) hx hb hT in_M hown hK hP 0 rfl rfl 17 (by decide) (hT _ m1038) (fun _ h9 => h9) rfl d_M_countGoals_85 ?_
                          refine lv_iload_n hx hb d_M_countGoals_88 rfl (lv_at hl 1 rfl) ?_
                          obtain ⟨hin, h⟩ := gi_e h
                          refine zv_iald hx hb hK hP 6 0 rfl rfl (Nat.le_of_ble_eq_true rfl) hin d_M_countGoals_89 ?_
                          refine lv_i2l (v := (Int32.toInt64 (iI (M_wayCount v1_2)))) hx hb d_M_countGoals_90 rfl ?_
                          exact hj91 (Int32.toInt64 (iI (M_wayCount v1_2))) H locs ls hP hD hS (lv_sub hl [0, 1, 2, 3] rfl) h
                        · replace h := if_t hc h
                          refine lv_lconst (v := 1) hx hb d_M_countGoals_80 (by decide) ?_
                          refine lv_goto hx hb d_M_countGoals_81 rfl ?_
                          exact hj91 1 H locs ls hP hD hS (lv_sub hl [0, 1, 2, 3] rfl) h
              exact hl42 F 0 M_goals_3 H locs ls hP hD hS (lv_sub hl [2, 3, 1, 0] rfl) h
        exact hl23 F 0 M_goals_1 H locs ls hP hD hS (lv_sub hl [1, 0] rfl) h
      · replace h := if_f hc h
        refine lv_aload_n hx hb d_M_countGoals_8 rfl (lv_at hl 0 rfl) ?_
        refine va_get (D := D) (ci := 10) (v := .ref (a 27)) (C := R_M) (T := F_M) (N := 53) hx hb hT in_M hown hK hP 0 rfl rfl 40 (by decide) (hT _ m1061) (fun _ h9 => h9) rfl d_M_countGoals_9 ?_
        refine lv_iload_n hx hb d_M_countGoals_12 rfl (lv_at hl 1 rfl) ?_
        refine lv_lconst (v := 0) hx hb d_M_countGoals_13 (by decide) ?_
        obtain ⟨hin, h⟩ := gi_e h
        refine zv_last hx hb hK hP hD hS 7 1 rfl rfl (Nat.le_of_ble_eq_true rfl) hin d_M_countGoals_14 (fun H locs hP hD hS => ?_)
        obtain ⟨M_goals_18, hv⟩ : ∃ z, z = (ul M_goals_1 v1 0) := ⟨_, rfl⟩
        replace h := bd_e hv h
        have hP : va_P D vwCl [(o_M a M_thrown M_period M_width M_nodes M_analysed M_gates M_startNode M_startChange M_startWay M_startBase M_startEarly M_startLate M_worstWith M_worstWithout M_all M_rowSize), ((a 1), .inl (cI, 48, .inl (ia M_kinds))), ((a 2), .inl (cI, 48, .inl (ia M_pins))), ((a 3), .inl (cI, 144, .inl (ia M_froms))), ((a 6), .inl (cI, 144, .inl (ia M_senses))), ((a 11), .inl (cI, 48, .inl (ia M_order))), ((a 12), .inl (cI, 48, .inl (ia M_wayCount))), ((a 27), .inl (cJ, 96, .inr (.inl (la M_goals_18))))] H := by rw [hv]; exact hP
        have hD : va_D A [(o_M a M_thrown M_period M_width M_nodes M_analysed M_gates M_startNode M_startChange M_startWay M_startBase M_startEarly M_startLate M_worstWith M_worstWithout M_all M_rowSize), ((a 1), .inl (cI, 48, .inl (ia M_kinds))), ((a 2), .inl (cI, 48, .inl (ia M_pins))), ((a 3), .inl (cI, 144, .inl (ia M_froms))), ((a 6), .inl (cI, 144, .inl (ia M_senses))), ((a 11), .inl (cI, 48, .inl (ia M_order))), ((a 12), .inl (cI, 48, .inl (ia M_wayCount))), ((a 27), .inl (cJ, 96, .inr (.inl (la M_goals_18))))] := by rw [hv]; exact hD
        refine lv_iinc (v := iI (v1 + 1)) (k := 1) (lv' := [(1, .int (iI (v1 + 1))), (0, .ref (a 0))]) hx hb d_M_countGoals_15 hl rfl (iI_add _ _) (by decide) rfl (fun ls hl => ?_)
        refine lv_goto hx hb d_M_countGoals_18 rfl ?_
        exact ih2 (v1 + 1) M_goals_18 H locs ls hP hD hS (lv_sub hl [1, 0] rfl) h
  exact hl2 F 0 M_goals H locs ls hP hD hS (lv_sub hl [1, 0] rfl) h
abbrev rm_M_isBefore : Room := { frames := 0, cells := 0, slots := 0, locals := 0 }
set_option maxHeartbeats 4000000 in
set_option maxRecDepth 100000 in
theorem c_M_isBefore (l : Launch) (D : va_G) (cI cJ cZ : ClassId) (F : Nat) (a : Nat → Nat) (M_thrown : Int) (M_period : Int) (M_width : Int) (M_nodes : Int) (M_analysed : Int) (M_gates : Int) (M_startNode : Int) (M_startChange : Int) (M_startWay : Int) (M_startBase : Int) (M_startEarly : Int) (M_startLate : Int) (M_worstWith : Int) (M_worstWithout : Int) (M_all : Int64) (M_rowSize : Int) (M_row : Int → Int) (M_listSlack : Int → Int) (M_listSize : Int → Int) (M_listRows : Int → Int) (x1 : Int) (x2 : Int) (r : Int) (sz : Nat) (h : f_M_isBefore F M_rowSize M_row M_listSlack M_listSize M_listRows x1 x2 = some (r)) : Met l y_M_isBefore w_M_isBefore rm_M_isBefore (PC D [(cI, .int), (cJ, .long), (cZ, .boolean)] [.ref (a 0), .int (iI x1), .int (iI x2)] ([(o_M a M_thrown M_period M_width M_nodes M_analysed M_gates M_startNode M_startChange M_startWay M_startBase M_startEarly M_startLate M_worstWith M_worstWithout M_all M_rowSize), ((a 33), .inl (cI, 160, .inl (ia M_row))), ((a 35), .inl (cI, 42, .inl (ia M_listSlack))), ((a 36), .inl (cI, 42, .inl (ia M_listSize))), ((a 37), .inl (cI, 6720, .inl (ia M_listRows)))]) sz) (QcRead (iI r)) 0 0 (fun _ => False) := by
  refine Met.ofW (cc := prog_12_method_38_code) (maxL := 4) (ret := (Option.some Jvm.ClassFile.FieldType.boolean)) (by decide) rfl ?_
  intro p e s m args below meth c s₁ B hml hv
  obtain ⟨rfl, hsz, hP, hK, hD0, hN⟩ := hv
  have hx := B.exec
  have hb := B.bytes
  have hr := B.returns
  have hts := atoms_spec (ws := w_M_isBefore) B.pre
  have hown : s.vm.findClass R_M = some m.cls := findClass_of_methodNamed B.named
  have hlocks := B.notSynchronized
  subst hsz
  have hl := lv_entry ([.ref (a 0), .int (iI x1), .int (iI x2)]) (n := 4) (Nat.le_of_ble_eq_true rfl)
  rw [lg_entry_eq]
  generalize (lg_sl ([.ref (a 0), .int (iI x1), .int (iI x2)]) ++ List.replicate (4 - (lg_sl ([.ref (a 0), .int (iI x1), .int (iI x2)])).length) Slot.unset).toArray = ls at hl ⊢
  have hl : lv_has ls 4 [(0, .ref (a 0)), (1, .int (iI x1)), (2, .int (iI x2))] := hl
  generalize (List.toArray ([.ref (a 0), .int (iI x1), .int (iI x2)] : List Value)) = args at hts ⊢
  have hT : ∀ w ∈ Tg, w.before args s = true := fun w h => hts w (List.mem_cons_of_mem _ h)
  obtain ⟨Q, hQ⟩ : ∃ Q, Q = MQ below (QcRead (iI r)) args s 0 0 (fun _ => False) := ⟨_, rfl⟩
  rw [← hQ]
  rw [f_M_isBefore] at h
  refine lv_iload_n hx hb d_M_isBefore_0 rfl (lv_at hl 1 rfl) ?_
  refine lv_aload_n hx hb d_M_isBefore_1 rfl (lv_at hl 0 rfl) ?_
  refine va_get (D := D) (ci := 10) (v := .ref (a 35)) (C := R_M) (T := F_M) (N := 53) hx hb hT in_M hown hK hP 0 rfl rfl 50 (by decide) (hT _ m1071) (fun _ h9 => h9) rfl d_M_isBefore_2 ?_
  refine lv_iload_n hx hb d_M_isBefore_5 rfl (lv_at hl 2 rfl) ?_
  obtain ⟨hin, h⟩ := gi_e h
  refine zv_iald hx hb hK hP 2 0 rfl rfl (Nat.le_of_ble_eq_true rfl) hin d_M_isBefore_6 ?_
  obtain ⟨hg0, h⟩ := gr_e h
  obtain ⟨hg1, h⟩ := gr_e h
  refine zc_eq hx hb d_M_isBefore_7 rfl hg0 hg1 (fun hc => ?_) (fun hc => ?_)
  · replace h := if_t hc h
    refine zv_iconst hx hb d_M_isBefore_26 ?_
    refine lv_istore_n (lv' := [(3, .int (iI 0)), (0, .ref (a 0)), (1, .int (iI x1)), (2, .int (iI x2))]) hx hb d_M_isBefore_27 rfl hl (by decide) rfl (fun ls hl => ?_)
    have hl28 : ∀ (nf : Nat) (v3 : Int) (ls : Array Slot), lv_has ls 4 [(0, .ref (a 0)), (2, .int (iI x2)), (3, .int (iI v3))] → lq1 (f_M_isBefore_b28 F M_rowSize M_row M_listSize M_listRows x2) nf v3 = some (r) → W p l e (headSpec w_M_isBefore rm_M_isBefore).room s m args below meth c s.heap [] 0 0 Q (F0 m 28 ls []) := by
      intro n28
      induction n28 with
      | zero => intro v3 ls hl h; exact no_some h
      | succ n28 ih28 =>
        intro v3 ls hl h
        replace h : f_M_isBefore_b28 F M_rowSize M_row M_listSize M_listRows x2 (lq1 (f_M_isBefore_b28 F M_rowSize M_row M_listSize M_listRows x2) n28) v3 = some (r) := h
        obtain ⟨self28, hs28⟩ : ∃ z, z = lq1 (f_M_isBefore_b28 F M_rowSize M_row M_listSize M_listRows x2) n28 := ⟨_, rfl⟩
        rw [← hs28] at h ih28
        rw [f_M_isBefore_b28] at h
        refine lv_iload_n hx hb d_M_isBefore_28 rfl (lv_at hl 2 rfl) ?_
        refine lv_aload_n hx hb d_M_isBefore_29 rfl (lv_at hl 0 rfl) ?_
        refine va_get (D := D) (ci := 10) (v := .int (iI M_rowSize)) (C := R_M) (T := F_M) (N := 53) hx hb hT in_M hown hK hP 0 rfl rfl 48 (by decide) (hT _ m1069) (fun _ h9 => h9) rfl d_M_isBefore_30 ?_
        have hj100 : ∀  (ls : Array Slot), lv_has ls 4 [(0, .ref (a 0)), (2, .int (iI x2))] → f_M_isBefore_j100 F M_rowSize M_listSize x2 = some (r) → W p l e (headSpec w_M_isBefore rm_M_isBefore).room s m args below meth c s.heap [] 0 0 Q (F0 m 100 ls []) := by
          intro  ls hl h
          rw [f_M_isBefore_j100] at h
          refine lv_aload_n hx hb d_M_isBefore_100 rfl (lv_at hl 0 rfl) ?_
          refine va_get (D := D) (ci := 10) (v := .int (iI M_rowSize)) (C := R_M) (T := F_M) (N := 53) hx hb hT in_M hown hK hP 0 rfl rfl 48 (by decide) (hT _ m1069) (fun _ h9 => h9) rfl d_M_isBefore_101 ?_
          refine lv_aload_n hx hb d_M_isBefore_104 rfl (lv_at hl 0 rfl) ?_
          refine va_get (D := D) (ci := 10) (v := .ref (a 36)) (C := R_M) (T := F_M) (N := 53) hx hb hT in_M hown hK hP 0 rfl rfl 51 (by decide) (hT _ m1072) (fun _ h9 => h9) rfl d_M_isBefore_105 ?_
          refine lv_iload_n hx hb d_M_isBefore_108 rfl (lv_at hl 1 rfl) ?_
          obtain ⟨hin, h⟩ := gi_e h
          refine zv_iald hx hb hK hP 3 0 rfl rfl (Nat.le_of_ble_eq_true rfl) hin d_M_isBefore_109 ?_
          obtain ⟨hg0, h⟩ := gr_e h
          obtain ⟨hg1, h⟩ := gr_e h
          refine zc_ge hx hb d_M_isBefore_110 rfl hg0 hg1 (fun hc => ?_) (fun hc => ?_)
          · replace h := if_t hc h
            refine zv_iconst hx hb d_M_isBefore_117 ?_
            obtain ⟨hbo, h⟩ := gb_e h
            have e1 := so1 h
            rw [hQ, e1]; exact W.zret (ty := .boolean) hx hb hr (gb_n hbo) (fun t ht hW => ⟨rfl, ht⟩) (fun q h => nomatch h) d_M_isBefore_118
          · replace h := if_f hc h
            refine zv_iconst hx hb d_M_isBefore_113 ?_
            refine lv_goto hx hb d_M_isBefore_114 rfl ?_
            obtain ⟨hbo, h⟩ := gb_e h
            have e1 := so1 h
            rw [hQ, e1]; exact W.zret (ty := .boolean) hx hb hr (gb_n hbo) (fun t ht hW => ⟨rfl, ht⟩) (fun q h => nomatch h) d_M_isBefore_118
        obtain ⟨hg0, h⟩ := gr_e h
        obtain ⟨hg1, h⟩ := gr_e h
        refine zc_ge hx hb d_M_isBefore_33 rfl hg0 hg1 (fun hc => ?_) (fun hc => ?_)
        · replace h := if_t hc h
          exact hj100  ls (lv_sub hl [0, 1] rfl) h
        · replace h := if_f hc h
          refine lv_iload_n hx hb d_M_isBefore_36 rfl (lv_at hl 2 rfl) ?_
          refine lv_aload_n hx hb d_M_isBefore_37 rfl (lv_at hl 0 rfl) ?_
          refine va_get (D := D) (ci := 10) (v := .ref (a 36)) (C := R_M) (T := F_M) (N := 53) hx hb hT in_M hown hK hP 0 rfl rfl 51 (by decide) (hT _ m1072) (fun _ h9 => h9) rfl d_M_isBefore_38 ?_
          refine lv_iload_n hx hb d_M_isBefore_41 rfl (lv_at hl 1 rfl) ?_
          obtain ⟨hin, h⟩ := gi_e h
          refine zv_iald hx hb hK hP 3 0 rfl rfl (Nat.le_of_ble_eq_true rfl) hin d_M_isBefore_42 ?_
          obtain ⟨hg0, h⟩ := gr_e h
          obtain ⟨hg1, h⟩ := gr_e h
          refine zc_ge hx hb d_M_isBefore_43 rfl hg0 hg1 (fun hc => ?_) (fun hc => ?_)
          · replace h := if_t hc h
            exact hj100  ls (lv_sub hl [0, 1] rfl) h
          · replace h := if_f hc h
            refine lv_aload_n hx hb d_M_isBefore_46 rfl (lv_at hl 0 rfl) ?_
            refine va_get (D := D) (ci := 10) (v := .ref (a 33)) (C := R_M) (T := F_M) (N := 53) hx hb hT in_M hown hK hP 0 rfl rfl 47 (by decide) (hT _ m1068) (fun _ h9 => h9) rfl d_M_isBefore_47 ?_
            refine lv_iload_n hx hb d_M_isBefore_50 rfl (lv_at hl 2 rfl) ?_
            obtain ⟨hin, h⟩ := gi_e h
            refine zv_iald hx hb hK hP 1 0 rfl rfl (Nat.le_of_ble_eq_true rfl) hin d_M_isBefore_51 ?_
            refine lv_aload_n hx hb d_M_isBefore_52 rfl (lv_at hl 0 rfl) ?_
            refine va_get (D := D) (ci := 10) (v := .ref (a 37)) (C := R_M) (T := F_M) (N := 53) hx hb hT in_M hown hK hP 0 rfl rfl 52 (by decide) (hT _ m1073) (fun _ h9 => h9) rfl d_M_isBefore_53 ?_
            refine lv_sipush (v := iI 160) hx hb d_M_isBefore_56 (by decide) ?_
            refine lv_iload_n hx hb d_M_isBefore_59 rfl (lv_at hl 1 rfl) ?_
            refine zv_imul hx hb d_M_isBefore_60 ?_
            refine lv_iload_n hx hb d_M_isBefore_61 rfl (lv_at hl 2 rfl) ?_
            refine zv_iadd hx hb d_M_isBefore_62 ?_
            obtain ⟨hin, h⟩ := gi_e h
            refine zv_iald hx hb hK hP 4 0 rfl rfl (Nat.le_of_ble_eq_true rfl) hin d_M_isBefore_63 ?_
            obtain ⟨hg0, h⟩ := gr_e h
            obtain ⟨hg1, h⟩ := gr_e h
            refine zc_eq hx hb d_M_isBefore_64 rfl hg0 hg1 (fun hc => ?_) (fun hc => ?_)
            · replace h := if_t hc h
              refine lv_iinc (v := iI (v3 + 1)) (k := 2) (lv' := [(3, .int (iI (v3 + 1))), (0, .ref (a 0)), (2, .int (iI x2))]) hx hb d_M_isBefore_94 hl rfl (iI_add _ _) (by decide) rfl (fun ls hl => ?_)
              refine lv_goto hx hb d_M_isBefore_97 rfl ?_
              exact ih28 (v3 + 1) ls (lv_sub hl [1, 2, 0] rfl) h
            · replace h := if_f hc h
              refine lv_aload_n hx hb d_M_isBefore_67 rfl (lv_at hl 0 rfl) ?_
              refine va_get (D := D) (ci := 10) (v := .ref (a 33)) (C := R_M) (T := F_M) (N := 53) hx hb hT in_M hown hK hP 0 rfl rfl 47 (by decide) (hT _ m1068) (fun _ h9 => h9) rfl d_M_isBefore_68 ?_
              refine lv_iload_n hx hb d_M_isBefore_71 rfl (lv_at hl 2 rfl) ?_
              obtain ⟨hin, h⟩ := gi_e h
              refine zv_iald hx hb hK hP 1 0 rfl rfl (Nat.le_of_ble_eq_true rfl) hin d_M_isBefore_72 ?_
              refine lv_aload_n hx hb d_M_isBefore_73 rfl (lv_at hl 0 rfl) ?_
              refine va_get (D := D) (ci := 10) (v := .ref (a 37)) (C := R_M) (T := F_M) (N := 53) hx hb hT in_M hown hK hP 0 rfl rfl 52 (by decide) (hT _ m1073) (fun _ h9 => h9) rfl d_M_isBefore_74 ?_
              refine lv_sipush (v := iI 160) hx hb d_M_isBefore_77 (by decide) ?_
              refine lv_iload_n hx hb d_M_isBefore_80 rfl (lv_at hl 1 rfl) ?_
              refine zv_imul hx hb d_M_isBefore_81 ?_
              refine lv_iload_n hx hb d_M_isBefore_82 rfl (lv_at hl 2 rfl) ?_
              refine zv_iadd hx hb d_M_isBefore_83 ?_
              obtain ⟨hin, h⟩ := gi_e h
              refine zv_iald hx hb hK hP 4 0 rfl rfl (Nat.le_of_ble_eq_true rfl) hin d_M_isBefore_84 ?_
              obtain ⟨hg0, h⟩ := gr_e h
              obtain ⟨hg1, h⟩ := gr_e h
              refine zc_ge hx hb d_M_isBefore_85 rfl hg0 hg1 (fun hc => ?_) (fun hc => ?_)
              · replace h := if_t hc h
                refine zv_iconst hx hb d_M_isBefore_92 ?_
                obtain ⟨hbo, h⟩ := gb_e h
                have e1 := so1 h
                rw [hQ, e1]; exact W.zret (ty := .boolean) hx hb hr (gb_n hbo) (fun t ht hW => ⟨rfl, ht⟩) (fun q h => nomatch h) d_M_isBefore_93
              · replace h := if_f hc h
                refine zv_iconst hx hb d_M_isBefore_88 ?_
                refine lv_goto hx hb d_M_isBefore_89 rfl ?_
                obtain ⟨hbo, h⟩ := gb_e h
                have e1 := so1 h
                rw [hQ, e1]; exact W.zret (ty := .boolean) hx hb hr (gb_n hbo) (fun t ht hW => ⟨rfl, ht⟩) (fun q h => nomatch h) d_M_isBefore_93
    exact hl28 F 0 ls (lv_sub hl [1, 3, 0] rfl) h
  · replace h := if_f hc h
    refine lv_iload_n hx hb d_M_isBefore_10 rfl (lv_at hl 1 rfl) ?_
    refine lv_aload_n hx hb d_M_isBefore_11 rfl (lv_at hl 0 rfl) ?_
    refine va_get (D := D) (ci := 10) (v := .ref (a 35)) (C := R_M) (T := F_M) (N := 53) hx hb hT in_M hown hK hP 0 rfl rfl 50 (by decide) (hT _ m1071) (fun _ h9 => h9) rfl d_M_isBefore_12 ?_
    refine lv_iload_n hx hb d_M_isBefore_15 rfl (lv_at hl 2 rfl) ?_
    obtain ⟨hin, h⟩ := gi_e h
    refine zv_iald hx hb hK hP 2 0 rfl rfl (Nat.le_of_ble_eq_true rfl) hin d_M_isBefore_16 ?_
    obtain ⟨hg0, h⟩ := gr_e h
    obtain ⟨hg1, h⟩ := gr_e h
    refine zc_ge hx hb d_M_isBefore_17 rfl hg0 hg1 (fun hc => ?_) (fun hc => ?_)
    · replace h := if_t hc h
      refine zv_iconst hx hb d_M_isBefore_24 ?_
      obtain ⟨hbo, h⟩ := gb_e h
      have e1 := so1 h
      rw [hQ, e1]; exact W.zret (ty := .boolean) hx hb hr (gb_n hbo) (fun t ht hW => ⟨rfl, ht⟩) (fun q h => nomatch h) d_M_isBefore_25
    · replace h := if_f hc h
      refine zv_iconst hx hb d_M_isBefore_20 ?_
      refine lv_goto hx hb d_M_isBefore_21 rfl ?_
      obtain ⟨hbo, h⟩ := gb_e h
      have e1 := so1 h
      rw [hQ, e1]; exact W.zret (ty := .boolean) hx hb hr (gb_n hbo) (fun t ht hW => ⟨rfl, ht⟩) (fun q h => nomatch h) d_M_isBefore_25
