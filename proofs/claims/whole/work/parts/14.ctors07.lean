abbrev rm_Slacks_init : Room := { frames := 1, cells := 1, slots := 96, locals := 20 }
set_option maxHeartbeats 4000000 in
set_option maxRecDepth 100000 in
theorem k_Slacks_init (l : Launch) (D : va_G) (cI cJ cZ : ClassId) (F : Nat) (h b1 b2 b3 b4 : Nat)  (sz : Nat)  : Met l y_Slacks_init w_Slacks_init rm_Slacks_init (PC D [(cI, .int), (cJ, .long), (cZ, .boolean)] [.ref h, .ref b1, .ref b2, .ref b3, .ref b4] ([(h, .inr (7, [.null, .null, .null, .null, .null, .int (iI 0), .int (iI 0), .int (iI 0)]))]) sz) (QN D [(cI, .int), (cJ, .long), (cZ, .boolean)] ([(h, .inr (7, [.null, .null, .null, .null, .null, .int (iI 0), .int (iI 0), .int (iI 0)]))]) sz (fun u => [(h, .inr (7, [.ref b1, .ref b2, .ref b3, .ref b4, .ref (u 1), .int (iI 0), .int (iI 0), .int (iI 0)])), ((u 1), .inl (cI, 96, .inl (ia (fun _ => 0))))])) 1 96 (va_A ([(h, .inr (7, [.null, .null, .null, .null, .null, .int (iI 0), .int (iI 0), .int (iI 0)]))]) sz) := by
  refine Met.ofW (cc := prog_8_method_1_code) (maxL := 5) (ret := (Option.none : Option Jvm.ClassFile.FieldType)) (by decide) rfl ?_
  intro p e s m args below meth c s₁ B hml hv
  obtain ⟨rfl, hsz, hP, hK, hD0, hN⟩ := hv
  have hx := B.exec
  have hb := B.bytes
  have hr := B.returns
  have hts := atoms_spec (ws := w_Slacks_init) B.pre
  have hown : s.vm.findClass R_Slacks = some m.cls := findClass_of_methodNamed B.named
  have hlocks := B.notSynchronized
  have hin : meth.name = "<init>" := (name_of_methodNamed B.named B.method).1
  subst hsz
  have hD := hD0.self (sz := s.heap.size)
  obtain ⟨A, hAe⟩ : ∃ A, A = va_A ([(h, .inr (7, [.null, .null, .null, .null, .null, .int (iI 0), .int (iI 0), .int (iI 0)]))]) s.heap.size := ⟨_, rfl⟩
  rw [← hAe] at hD
  have hA : ∀ q : Nat, s.heap.size ≤ q → A q := fun q h => by rw [hAe]; exact Or.inr h
  have hS : va_S A s.heap s.heap [] := va_S.rf
  have hl := lv_entry ([.ref h, .ref b1, .ref b2, .ref b3, .ref b4]) (n := 5) (Nat.le_of_ble_eq_true rfl)
  rw [lg_entry_eq]
  generalize (lg_sl ([.ref h, .ref b1, .ref b2, .ref b3, .ref b4]) ++ List.replicate (5 - (lg_sl ([.ref h, .ref b1, .ref b2, .ref b3, .ref b4])).length) Slot.unset).toArray = ls at hl ⊢
  have hl : lv_has ls 5 [(0, .ref h), (1, .ref b1), (2, .ref b2), (3, .ref b3), (4, .ref b4)] := hl
  generalize (List.toArray ([.ref h, .ref b1, .ref b2, .ref b3, .ref b4] : List Value)) = args at hts ⊢
  have hT : ∀ w ∈ Tg, w.before args s = true := fun w h => hts w (List.mem_cons_of_mem _ h)
  obtain ⟨Q, hQ⟩ : ∃ Q, Q = MQ below (QN D [(cI, .int), (cJ, .long), (cZ, .boolean)] ([(h, .inr (7, [.null, .null, .null, .null, .null, .int (iI 0), .int (iI 0), .int (iI 0)]))]) s.heap.size (fun u => [(h, .inr (7, [.ref b1, .ref b2, .ref b3, .ref b4, .ref (u 1), .int (iI 0), .int (iI 0), .int (iI 0)])), ((u 1), .inl (cI, 96, .inl (ia (fun _ => 0))))])) args s 1 96 (va_A ([(h, .inr (7, [.null, .null, .null, .null, .null, .int (iI 0), .int (iI 0), .int (iI 0)]))]) s.heap.size) := ⟨_, rfl⟩
  rw [← hQ]
  suffices hW : ∀ (H : Heap), va_P D vwCl [(h, .inr (7, [.null, .null, .null, .null, .null, .int (iI 0), .int (iI 0), .int (iI 0)]))] H → va_S A s.heap H [] → W p l e (headSpec w_Slacks_init rm_Slacks_init).room s m args below meth c H [] 0 0 Q (F0 m 0 ls []) from hW s.heap hP hS
  clear hP hS
  intro H hP hS
  refine lv_aload_n hx hb d_Slacks_init_0 rfl (lv_at hl 0 rfl) ?_
  refine W.objInit hx hb hown (hT _ m316) (hT _ m28) (hT _ m_code_objinit) rfl (by rw [hml]; exact hl.1) rfl d_Slacks_init_1 (Nat.le_of_ble_eq_true rfl) (Nat.le_of_ble_eq_true rfl) ?_
  refine W.eq (g2 := F0 m 4 ls []) rfl ?_
  refine lv_aload_n hx hb d_Slacks_init_4 rfl (lv_at hl 0 rfl) ?_
  refine lv_bipush (v := iI 96) hx hb d_Slacks_init_5 (by decide) ?_
  refine zn_new (atype := .int) (a0 := (96, .inl (ia (fun _ => 0)))) hx hb (hT _ m132) rfl rfl hK (t0 := 0) rfl hP hD hS hA (fun _ => rfl) (by decide) (by decide) (by decide) (Nat.le_of_ble_eq_true rfl) (Nat.le_of_ble_eq_true rfl) d_Slacks_init_7 (fun q7 H hP hD hS => ?_)
  have hP : va_P D vwCl [(h, .inr (7, [.null, .null, .null, .null, .null, .int (iI 0), .int (iI 0), .int (iI 0)])), (q7, .inl (cI, 96, .inl (ia (fun _ => 0))))] H := hP
  have hD : va_D A [(h, .inr (7, [.null, .null, .null, .null, .null, .int (iI 0), .int (iI 0), .int (iI 0)])), (q7, .inl (cI, 96, .inl (ia (fun _ => 0))))] := hD
  refine W.widen (k := 1) (n := 96) (Nat.le_of_ble_eq_true rfl) (Nat.le_of_ble_eq_true rfl) ?_
  refine va_putF (D := D) (ci := 7) (v := .ref q7) (ty := (.array .int)) (C := R_Slacks) (T := F_Slacks) (N := 8) hx hb hT in_Slacks ty_Slacks ty_Slacks_ok n_Slacks hown hK hP hD hS 0 rfl rfl 4 (by decide) (hT _ m321) (fun _ h9 => h9) rfl hin rfl (by decide +kernel) rfl rfl (Nat.le_of_ble_eq_true rfl) d_Slacks_init_9 (fun H locs hP hD hS => ?_)
  have hP : va_P D vwCl [(h, .inr (7, [.null, .null, .null, .null, .ref q7, .int (iI 0), .int (iI 0), .int (iI 0)])), (q7, .inl (cI, 96, .inl (ia (fun _ => 0))))] H := hP
  have hD : va_D A [(h, .inr (7, [.null, .null, .null, .null, .ref q7, .int (iI 0), .int (iI 0), .int (iI 0)])), (q7, .inl (cI, 96, .inl (ia (fun _ => 0))))] := hD
  refine lv_aload_n hx hb d_Slacks_init_12 rfl (lv_at hl 0 rfl) ?_
  refine lv_aload_n hx hb d_Slacks_init_13 rfl (lv_at hl 1 rfl) ?_
  refine va_putF (D := D) (ci := 7) (v := .ref b1) (ty := (.object "PathTiming$Net")) (C := R_Slacks) (T := F_Slacks) (N := 8) hx hb hT in_Slacks ty_Slacks ty_Slacks_ok n_Slacks hown hK hP hD hS 0 rfl rfl 0 (by decide) (hT _ m317) (fun _ h9 => h9) rfl hin rfl (by decide +kernel) rfl rfl (Nat.le_of_ble_eq_true rfl) d_Slacks_init_14 (fun H locs hP hD hS => ?_)
  have hP : va_P D vwCl [(h, .inr (7, [.ref b1, .null, .null, .null, .ref q7, .int (iI 0), .int (iI 0), .int (iI 0)])), (q7, .inl (cI, 96, .inl (ia (fun _ => 0))))] H := hP
  have hD : va_D A [(h, .inr (7, [.ref b1, .null, .null, .null, .ref q7, .int (iI 0), .int (iI 0), .int (iI 0)])), (q7, .inl (cI, 96, .inl (ia (fun _ => 0))))] := hD
  refine lv_aload_n hx hb d_Slacks_init_17 rfl (lv_at hl 0 rfl) ?_
  refine lv_aload_n hx hb d_Slacks_init_18 rfl (lv_at hl 2 rfl) ?_
  refine va_putF (D := D) (ci := 7) (v := .ref b2) (ty := (.object "PathTiming$ClockWays")) (C := R_Slacks) (T := F_Slacks) (N := 8) hx hb hT in_Slacks ty_Slacks ty_Slacks_ok n_Slacks hown hK hP hD hS 0 rfl rfl 1 (by decide) (hT _ m318) (fun _ h9 => h9) rfl hin rfl (by decide +kernel) rfl rfl (Nat.le_of_ble_eq_true rfl) d_Slacks_init_19 (fun H locs hP hD hS => ?_)
  have hP : va_P D vwCl [(h, .inr (7, [.ref b1, .ref b2, .null, .null, .ref q7, .int (iI 0), .int (iI 0), .int (iI 0)])), (q7, .inl (cI, 96, .inl (ia (fun _ => 0))))] H := hP
  have hD : va_D A [(h, .inr (7, [.ref b1, .ref b2, .null, .null, .ref q7, .int (iI 0), .int (iI 0), .int (iI 0)])), (q7, .inl (cI, 96, .inl (ia (fun _ => 0))))] := hD
  refine lv_aload_n hx hb d_Slacks_init_22 rfl (lv_at hl 0 rfl) ?_
  refine lv_aload_n hx hb d_Slacks_init_23 rfl (lv_at hl 3 rfl) ?_
  refine va_putF (D := D) (ci := 7) (v := .ref b3) (ty := (.object "PathTiming$Spread")) (C := R_Slacks) (T := F_Slacks) (N := 8) hx hb hT in_Slacks ty_Slacks ty_Slacks_ok n_Slacks hown hK hP hD hS 0 rfl rfl 2 (by decide) (hT _ m319) (fun _ h9 => h9) rfl hin rfl (by decide +kernel) rfl rfl (Nat.le_of_ble_eq_true rfl) d_Slacks_init_24 (fun H locs hP hD hS => ?_)
  have hP : va_P D vwCl [(h, .inr (7, [.ref b1, .ref b2, .ref b3, .null, .ref q7, .int (iI 0), .int (iI 0), .int (iI 0)])), (q7, .inl (cI, 96, .inl (ia (fun _ => 0))))] H := hP
  have hD : va_D A [(h, .inr (7, [.ref b1, .ref b2, .ref b3, .null, .ref q7, .int (iI 0), .int (iI 0), .int (iI 0)])), (q7, .inl (cI, 96, .inl (ia (fun _ => 0))))] := hD
  refine lv_aload_n hx hb d_Slacks_init_27 rfl (lv_at hl 0 rfl) ?_
  refine lv_aload hx hb d_Slacks_init_28 (lv_at hl 4 rfl) ?_
  refine va_putF (D := D) (ci := 7) (v := .ref b4) (ty := (.object "PathTiming$Rooms")) (C := R_Slacks) (T := F_Slacks) (N := 8) hx hb hT in_Slacks ty_Slacks ty_Slacks_ok n_Slacks hown hK hP hD hS 0 rfl rfl 3 (by decide) (hT _ m320) (fun _ h9 => h9) rfl hin rfl (by decide +kernel) rfl rfl (Nat.le_of_ble_eq_true rfl) d_Slacks_init_30 (fun H locs hP hD hS => ?_)
  have hP : va_P D vwCl [(h, .inr (7, [.ref b1, .ref b2, .ref b3, .ref b4, .ref q7, .int (iI 0), .int (iI 0), .int (iI 0)])), (q7, .inl (cI, 96, .inl (ia (fun _ => 0))))] H := hP
  have hD : va_D A [(h, .inr (7, [.ref b1, .ref b2, .ref b3, .ref b4, .ref q7, .int (iI 0), .int (iI 0), .int (iI 0)])), (q7, .inl (cI, 96, .inl (ia (fun _ => 0))))] := hD
  obtain ⟨u, hu1⟩ : ∃ u : Nat → Nat, q7 = u 1 := ⟨fun k => List.getD [0, q7] k 0, rfl⟩
  rw [hu1] at hP hD
  rw [hQ]; rw [hAe] at hD hS; exact W.vret hx hb hr (fun t ht hW => ⟨⟨u, rfl, trivial, by rw [ht]; exact hP, va_K.moved hW.alike hK, hD⟩, hS.F ht⟩) hS.2.2 d_Slacks_init_33
