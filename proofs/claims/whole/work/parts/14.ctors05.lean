abbrev rm_Arrivals_init : Room := { frames := 1, cells := 0, slots := 0, locals := 20 }
set_option maxHeartbeats 4000000 in
set_option maxRecDepth 100000 in
theorem k_Arrivals_init (l : Launch) (D : va_G) (cI cJ cZ : ClassId) (F : Nat) (h b1 b2 b3 b4 : Nat)  (sz : Nat)  : Met l y_Arrivals_init w_Arrivals_init rm_Arrivals_init (PC D [(cI, .int), (cJ, .long), (cZ, .boolean)] [.ref h, .ref b1, .ref b2, .ref b3, .ref b4] ([(h, .inr (5, [.null, .null, .null, .null]))]) sz) (QN D [(cI, .int), (cJ, .long), (cZ, .boolean)] ([(h, .inr (5, [.null, .null, .null, .null]))]) sz (fun u => [(h, .inr (5, [.ref b1, .ref b2, .ref b3, .ref b4]))])) 0 0 (va_A ([(h, .inr (5, [.null, .null, .null, .null]))]) sz) := by
  refine Met.ofW (cc := prog_2_method_1_code) (maxL := 5) (ret := (Option.none : Option Jvm.ClassFile.FieldType)) (by decide) rfl ?_
  intro p e s m args below meth c s₁ B hml hv
  obtain ⟨rfl, hsz, hP, hK, hD0, hN⟩ := hv
  have hx := B.exec
  have hb := B.bytes
  have hr := B.returns
  have hts := atoms_spec (ws := w_Arrivals_init) B.pre
  have hown : s.vm.findClass R_Arrivals = some m.cls := findClass_of_methodNamed B.named
  have hlocks := B.notSynchronized
  have hin : meth.name = "<init>" := (name_of_methodNamed B.named B.method).1
  subst hsz
  have hD := hD0.self (sz := s.heap.size)
  obtain ⟨A, hAe⟩ : ∃ A, A = va_A ([(h, .inr (5, [.null, .null, .null, .null]))]) s.heap.size := ⟨_, rfl⟩
  rw [← hAe] at hD
  have hA : ∀ q : Nat, s.heap.size ≤ q → A q := fun q h => by rw [hAe]; exact Or.inr h
  have hS : va_S A s.heap s.heap [] := va_S.rf
  have hl := lv_entry ([.ref h, .ref b1, .ref b2, .ref b3, .ref b4]) (n := 5) (Nat.le_of_ble_eq_true rfl)
  rw [lg_entry_eq]
  generalize (lg_sl ([.ref h, .ref b1, .ref b2, .ref b3, .ref b4]) ++ List.replicate (5 - (lg_sl ([.ref h, .ref b1, .ref b2, .ref b3, .ref b4])).length) Slot.unset).toArray = ls at hl ⊢
  have hl : lv_has ls 5 [(0, .ref h), (1, .ref b1), (2, .ref b2), (3, .ref b3), (4, .ref b4)] := hl
  generalize (List.toArray ([.ref h, .ref b1, .ref b2, .ref b3, .ref b4] : List Value)) = args at hts ⊢
  have hT : ∀ w ∈ Tg, w.before args s = true := fun w h => hts w (List.mem_cons_of_mem _ h)
  obtain ⟨Q, hQ⟩ : ∃ Q, Q = MQ below (QN D [(cI, .int), (cJ, .long), (cZ, .boolean)] ([(h, .inr (5, [.null, .null, .null, .null]))]) s.heap.size (fun u => [(h, .inr (5, [.ref b1, .ref b2, .ref b3, .ref b4]))])) args s 0 0 (va_A ([(h, .inr (5, [.null, .null, .null, .null]))]) s.heap.size) := ⟨_, rfl⟩
  rw [← hQ]
  suffices hW : ∀ (H : Heap), va_P D vwCl [(h, .inr (5, [.null, .null, .null, .null]))] H → va_S A s.heap H [] → W p l e (headSpec w_Arrivals_init rm_Arrivals_init).room s m args below meth c H [] 0 0 Q (F0 m 0 ls []) from hW s.heap hP hS
  clear hP hS
  intro H hP hS
  refine lv_aload_n hx hb d_Arrivals_init_0 rfl (lv_at hl 0 rfl) ?_
  refine W.objInit hx hb hown (hT _ m297) (hT _ m28) (hT _ m_code_objinit) rfl (by rw [hml]; exact hl.1) rfl d_Arrivals_init_1 (Nat.le_of_ble_eq_true rfl) (Nat.le_of_ble_eq_true rfl) ?_
  refine W.eq (g2 := F0 m 4 ls []) rfl ?_
  refine lv_aload_n hx hb d_Arrivals_init_4 rfl (lv_at hl 0 rfl) ?_
  refine lv_aload_n hx hb d_Arrivals_init_5 rfl (lv_at hl 1 rfl) ?_
  refine va_putF (D := D) (ci := 5) (v := .ref b1) (ty := (.object "PathTiming$Net")) (C := R_Arrivals) (T := F_Arrivals) (N := 4) hx hb hT in_Arrivals ty_Arrivals ty_Arrivals_ok n_Arrivals hown hK hP hD hS 0 rfl rfl 0 (by decide) (hT _ m298) (fun _ h9 => h9) rfl hin rfl (by decide +kernel) rfl rfl (Nat.le_of_ble_eq_true rfl) d_Arrivals_init_6 (fun H locs hP hD hS => ?_)
  have hP : va_P D vwCl [(h, .inr (5, [.ref b1, .null, .null, .null]))] H := hP
  have hD : va_D A [(h, .inr (5, [.ref b1, .null, .null, .null]))] := hD
  refine lv_aload_n hx hb d_Arrivals_init_9 rfl (lv_at hl 0 rfl) ?_
  refine lv_aload_n hx hb d_Arrivals_init_10 rfl (lv_at hl 2 rfl) ?_
  refine va_putF (D := D) (ci := 5) (v := .ref b2) (ty := (.object "PathTiming$ClockWays")) (C := R_Arrivals) (T := F_Arrivals) (N := 4) hx hb hT in_Arrivals ty_Arrivals ty_Arrivals_ok n_Arrivals hown hK hP hD hS 0 rfl rfl 1 (by decide) (hT _ m299) (fun _ h9 => h9) rfl hin rfl (by decide +kernel) rfl rfl (Nat.le_of_ble_eq_true rfl) d_Arrivals_init_11 (fun H locs hP hD hS => ?_)
  have hP : va_P D vwCl [(h, .inr (5, [.ref b1, .ref b2, .null, .null]))] H := hP
  have hD : va_D A [(h, .inr (5, [.ref b1, .ref b2, .null, .null]))] := hD
  refine lv_aload_n hx hb d_Arrivals_init_14 rfl (lv_at hl 0 rfl) ?_
  refine lv_aload_n hx hb d_Arrivals_init_15 rfl (lv_at hl 3 rfl) ?_
  refine va_putF (D := D) (ci := 5) (v := .ref b3) (ty := (.object "PathTiming$Spread")) (C := R_Arrivals) (T := F_Arrivals) (N := 4) hx hb hT in_Arrivals ty_Arrivals ty_Arrivals_ok n_Arrivals hown hK hP hD hS 0 rfl rfl 2 (by decide) (hT _ m300) (fun _ h9 => h9) rfl hin rfl (by decide +kernel) rfl rfl (Nat.le_of_ble_eq_true rfl) d_Arrivals_init_16 (fun H locs hP hD hS => ?_)
  have hP : va_P D vwCl [(h, .inr (5, [.ref b1, .ref b2, .ref b3, .null]))] H := hP
  have hD : va_D A [(h, .inr (5, [.ref b1, .ref b2, .ref b3, .null]))] := hD
  refine lv_aload_n hx hb d_Arrivals_init_19 rfl (lv_at hl 0 rfl) ?_
  refine lv_aload hx hb d_Arrivals_init_20 (lv_at hl 4 rfl) ?_
  refine va_putF (D := D) (ci := 5) (v := .ref b4) (ty := (.object "PathTiming$Spread")) (C := R_Arrivals) (T := F_Arrivals) (N := 4) hx hb hT in_Arrivals ty_Arrivals ty_Arrivals_ok n_Arrivals hown hK hP hD hS 0 rfl rfl 3 (by decide) (hT _ m301) (fun _ h9 => h9) rfl hin rfl (by decide +kernel) rfl rfl (Nat.le_of_ble_eq_true rfl) d_Arrivals_init_22 (fun H locs hP hD hS => ?_)
  have hP : va_P D vwCl [(h, .inr (5, [.ref b1, .ref b2, .ref b3, .ref b4]))] H := hP
  have hD : va_D A [(h, .inr (5, [.ref b1, .ref b2, .ref b3, .ref b4]))] := hD
  rw [hQ]; rw [hAe] at hD hS; exact W.vret hx hb hr (fun t ht hW => ⟨⟨(fun _ => 0), rfl, trivial, by rw [ht]; exact hP, va_K.moved hW.alike hK, hD⟩, hS.F ht⟩) hS.2.2 d_Arrivals_init_25
