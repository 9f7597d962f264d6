abbrev rm_Rooms_init : Room := { frames := 1, cells := 2, slots := 128, locals := 20 }
set_option maxHeartbeats 4000000 in
set_option maxRecDepth 100000 in
theorem k_Rooms_init (l : Launch) (D : va_G) (cI cJ cZ : ClassId) (F : Nat) (h b1 b2 : Nat)  (sz : Nat)  : Met l y_Rooms_init w_Rooms_init rm_Rooms_init (PC D [(cI, .int), (cJ, .long), (cZ, .boolean)] [.ref h, .ref b1, .ref b2] ([(h, .inr (6, [.null, .null, .null, .null, .int (iI 0), .int (iI 0), .int (iI 0)]))]) sz) (QN D [(cI, .int), (cJ, .long), (cZ, .boolean)] ([(h, .inr (6, [.null, .null, .null, .null, .int (iI 0), .int (iI 0), .int (iI 0)]))]) sz (fun u => [(h, .inr (6, [.ref b1, .ref b2, .ref (u 1), .ref (u 2), .int (iI 0), .int (iI 0), .int (iI 0)])), ((u 1), .inl (cI, 64, .inl (ia (fun _ => 0)))), ((u 2), .inl (cI, 64, .inl (ia (fun _ => 0))))])) 2 128 (va_A ([(h, .inr (6, [.null, .null, .null, .null, .int (iI 0), .int (iI 0), .int (iI 0)]))]) sz) := by
  refine Met.ofW (cc := prog_7_method_1_code) (maxL := 3) (ret := (Option.none : Option Jvm.ClassFile.FieldType)) (by decide) rfl ?_
  intro p e s m args below meth c s₁ B hml hv
  obtain ⟨rfl, hsz, hP, hK, hD0, hN⟩ := hv
  have hx := B.exec
  have hb := B.bytes
  have hr := B.returns
  have hts := atoms_spec (ws := w_Rooms_init) B.pre
  have hown : s.vm.findClass R_Rooms = some m.cls := findClass_of_methodNamed B.named
  have hlocks := B.notSynchronized
  have hin : meth.name = "<init>" := (name_of_methodNamed B.named B.method).1
  subst hsz
  have hD := hD0.self (sz := s.heap.size)
  obtain ⟨A, hAe⟩ : ∃ A, A = va_A ([(h, .inr (6, [.null, .null, .null, .null, .int (iI 0), .int (iI 0), .int (iI 0)]))]) s.heap.size := ⟨_, rfl⟩
  rw [← hAe] at hD
  have hA : ∀ q : Nat, s.heap.size ≤ q → A q := fun q h => by rw [hAe]; exact Or.inr h
  have hS : va_S A s.heap s.heap [] := va_S.rf
  have hl := lv_entry ([.ref h, .ref b1, .ref b2]) (n := 3) (Nat.le_of_ble_eq_true rfl)
  rw [lg_entry_eq]
  generalize (lg_sl ([.ref h, .ref b1, .ref b2]) ++ List.replicate (3 - (lg_sl ([.ref h, .ref b1, .ref b2])).length) Slot.unset).toArray = ls at hl ⊢
  have hl : lv_has ls 3 [(0, .ref h), (1, .ref b1), (2, .ref b2)] := hl
  generalize (List.toArray ([.ref h, .ref b1, .ref b2] : List Value)) = args at hts ⊢
  have hT : ∀ w ∈ Tg, w.before args s = true := fun w h => hts w (List.mem_cons_of_mem _ h)
  obtain ⟨Q, hQ⟩ : ∃ Q, Q = MQ below (QN D [(cI, .int), (cJ, .long), (cZ, .boolean)] ([(h, .inr (6, [.null, .null, .null, .null, .int (iI 0), .int (iI 0), .int (iI 0)]))]) s.heap.size (fun u => [(h, .inr (6, [.ref b1, .ref b2, .ref (u 1), .ref (u 2), .int (iI 0), .int (iI 0), .int (iI 0)])), ((u 1), .inl (cI, 64, .inl (ia (fun _ => 0)))), ((u 2), .inl (cI, 64, .inl (ia (fun _ => 0))))])) args s 2 128 (va_A ([(h, .inr (6, [.null, .null, .null, .null, .int (iI 0), .int (iI 0), .int (iI 0)]))]) s.heap.size) := ⟨_, rfl⟩
  rw [← hQ]
  suffices hW : ∀ (H : Heap), va_P D vwCl [(h, .inr (6, [.null, .null, .null, .null, .int (iI 0), .int (iI 0), .int (iI 0)]))] H → va_S A s.heap H [] → W p l e (headSpec w_Rooms_init rm_Rooms_init).room s m args below meth c H [] 0 0 Q (F0 m 0 ls []) from hW s.heap hP hS
  clear hP hS
  intro H hP hS
  refine lv_aload_n hx hb d_Rooms_init_0 rfl (lv_at hl 0 rfl) ?_
  refine W.objInit hx hb hown (hT _ m264) (hT _ m28) (hT _ m_code_objinit) rfl (by rw [hml]; exact hl.1) rfl d_Rooms_init_1 (Nat.le_of_ble_eq_true rfl) (Nat.le_of_ble_eq_true rfl) ?_
  refine W.eq (g2 := F0 m 4 ls []) rfl ?_
  refine lv_aload_n hx hb d_Rooms_init_4 rfl (lv_at hl 0 rfl) ?_
  refine lv_bipush (v := iI 64) hx hb d_Rooms_init_5 (by decide) ?_
  refine zn_new (atype := .int) (a0 := (64, .inl (ia (fun _ => 0)))) hx hb (hT _ m132) rfl rfl hK (t0 := 0) rfl hP hD hS hA (fun _ => rfl) (by decide) (by decide) (by decide) (Nat.le_of_ble_eq_true rfl) (Nat.le_of_ble_eq_true rfl) d_Rooms_init_7 (fun q7 H hP hD hS => ?_)
  have hP : va_P D vwCl [(h, .inr (6, [.null, .null, .null, .null, .int (iI 0), .int (iI 0), .int (iI 0)])), (q7, .inl (cI, 64, .inl (ia (fun _ => 0))))] H := hP
  have hD : va_D A [(h, .inr (6, [.null, .null, .null, .null, .int (iI 0), .int (iI 0), .int (iI 0)])), (q7, .inl (cI, 64, .inl (ia (fun _ => 0))))] := hD
  refine W.widen (k := 1) (n := 64) (Nat.le_of_ble_eq_true rfl) (Nat.le_of_ble_eq_true rfl) ?_
  refine va_putF (D := D) (ci := 6) (v := .ref q7) (ty := (.array .int)) (C := R_Rooms) (T := F_Rooms) (N := 7) hx hb hT in_Rooms ty_Rooms ty_Rooms_ok n_Rooms hown hK hP hD hS 0 rfl rfl 2 (by decide) (hT _ m267) (fun _ h9 => h9) rfl hin rfl (by decide +kernel) rfl rfl (Nat.le_of_ble_eq_true rfl) d_Rooms_init_9 (fun H locs hP hD hS => ?_)
  have hP : va_P D vwCl [(h, .inr (6, [.null, .null, .ref q7, .null, .int (iI 0), .int (iI 0), .int (iI 0)])), (q7, .inl (cI, 64, .inl (ia (fun _ => 0))))] H := hP
  have hD : va_D A [(h, .inr (6, [.null, .null, .ref q7, .null, .int (iI 0), .int (iI 0), .int (iI 0)])), (q7, .inl (cI, 64, .inl (ia (fun _ => 0))))] := hD
  refine lv_aload_n hx hb d_Rooms_init_12 rfl (lv_at hl 0 rfl) ?_
  refine lv_bipush (v := iI 64) hx hb d_Rooms_init_13 (by decide) ?_
  refine zn_new (atype := .int) (a0 := (64, .inl (ia (fun _ => 0)))) hx hb (hT _ m132) rfl rfl hK (t0 := 0) rfl hP hD hS hA (fun _ => rfl) (by decide) (by decide) (by decide) (Nat.le_of_ble_eq_true rfl) (Nat.le_of_ble_eq_true rfl) d_Rooms_init_15 (fun q15 H hP hD hS => ?_)
  have hP : va_P D vwCl [(h, .inr (6, [.null, .null, .ref q7, .null, .int (iI 0), .int (iI 0), .int (iI 0)])), (q7, .inl (cI, 64, .inl (ia (fun _ => 0)))), (q15, .inl (cI, 64, .inl (ia (fun _ => 0))))] H := hP
  have hD : va_D A [(h, .inr (6, [.null, .null, .ref q7, .null, .int (iI 0), .int (iI 0), .int (iI 0)])), (q7, .inl (cI, 64, .inl (ia (fun _ => 0)))), (q15, .inl (cI, 64, .inl (ia (fun _ => 0))))] := hD
  refine W.widen (k := 2) (n := 128) (Nat.le_of_ble_eq_true rfl) (Nat.le_of_ble_eq_true rfl) ?_
  refine va_putF (D := D) (ci := 6) (v := .ref q15) (ty := (.array .int)) (C := R_Rooms) (T := F_Rooms) (N := 7) hx hb hT in_Rooms ty_Rooms ty_Rooms_ok n_Rooms hown hK hP hD hS 0 rfl rfl 3 (by decide) (hT _ m269) (fun _ h9 => h9) rfl hin rfl (by decide +kernel) rfl rfl (Nat.le_of_ble_eq_true rfl) d_Rooms_init_17 (fun H locs hP hD hS => ?_)
  have hP : va_P D vwCl [(h, .inr (6, [.null, .null, .ref q7, .ref q15, .int (iI 0), .int (iI 0), .int (iI 0)])), (q7, .inl (cI, 64, .inl (ia (fun _ => 0)))), (q15, .inl (cI, 64, .inl (ia (fun _ => 0))))] H := hP
  have hD : va_D A [(h, .inr (6, [.null, .null, .ref q7, .ref q15, .int (iI 0), .int (iI 0), .int (iI 0)])), (q7, .inl (cI, 64, .inl (ia (fun _ => 0)))), (q15, .inl (cI, 64, .inl (ia (fun _ => 0))))] := hD
  refine lv_aload_n hx hb d_Rooms_init_20 rfl (lv_at hl 0 rfl) ?_
  refine lv_aload_n hx hb d_Rooms_init_21 rfl (lv_at hl 1 rfl) ?_
  refine va_putF (D := D) (ci := 6) (v := .ref b1) (ty := (.object "PathTiming$Net")) (C := R_Rooms) (T := F_Rooms) (N := 7) hx hb hT in_Rooms ty_Rooms ty_Rooms_ok n_Rooms hown hK hP hD hS 0 rfl rfl 0 (by decide) (hT _ m265) (fun _ h9 => h9) rfl hin rfl (by decide +kernel) rfl rfl (Nat.le_of_ble_eq_true rfl) d_Rooms_init_22 (fun H locs hP hD hS => ?_)
  have hP : va_P D vwCl [(h, .inr (6, [.ref b1, .null, .ref q7, .ref q15, .int (iI 0), .int (iI 0), .int (iI 0)])), (q7, .inl (cI, 64, .inl (ia (fun _ => 0)))), (q15, .inl (cI, 64, .inl (ia (fun _ => 0))))] H := hP
  have hD : va_D A [(h, .inr (6, [.ref b1, .null, .ref q7, .ref q15, .int (iI 0), .int (iI 0), .int (iI 0)])), (q7, .inl (cI, 64, .inl (ia (fun _ => 0)))), (q15, .inl (cI, 64, .inl (ia (fun _ => 0))))] := hD
  refine lv_aload_n hx hb d_Rooms_init_25 rfl (lv_at hl 0 rfl) ?_
  refine lv_aload_n hx hb d_Rooms_init_26 rfl (lv_at hl 2 rfl) ?_
  refine va_putF (D := D) (ci := 6) (v := .ref b2) (ty := (.object "PathTiming$ClockWays")) (C := R_Rooms) (T := F_Rooms) (N := 7) hx hb hT in_Rooms ty_Rooms ty_Rooms_ok n_Rooms hown hK hP hD hS 0 rfl rfl 1 (by decide) (hT _ m266) (fun _ h9 => h9) rfl hin rfl (by decide +kernel) rfl rfl (Nat.le_of_ble_eq_true rfl) d_Rooms_init_27 (fun H locs hP hD hS => ?_)
  have hP : va_P D vwCl [(h, .inr (6, [.ref b1, .ref b2, .ref q7, .ref q15, .int (iI 0), .int (iI 0), .int (iI 0)])), (q7, .inl (cI, 64, .inl (ia (fun _ => 0)))), (q15, .inl (cI, 64, .inl (ia (fun _ => 0))))] H := hP
  have hD : va_D A [(h, .inr (6, [.ref b1, .ref b2, .ref q7, .ref q15, .int (iI 0), .int (iI 0), .int (iI 0)])), (q7, .inl (cI, 64, .inl (ia (fun _ => 0)))), (q15, .inl (cI, 64, .inl (ia (fun _ => 0))))] := hD
  obtain ⟨u, hu1, hu2⟩ : ∃ u : Nat → Nat, q7 = u 1 ∧ q15 = u 2 := ⟨fun k => List.getD [0, q7, q15] k 0, rfl, rfl⟩
  rw [hu1, hu2] at hP hD
  rw [hQ]; rw [hAe] at hD hS; exact W.vret hx hb hr (fun t ht hW => ⟨⟨u, rfl, trivial, by rw [ht]; exact hP, va_K.moved hW.alike hK, hD⟩, hS.F ht⟩) hS.2.2 d_Rooms_init_30
