abbrev rm_PathList_init : Room := { frames := 1, cells := 4, slots := 2940, locals := 20 }
set_option maxHeartbeats 4000000 in
set_option maxRecDepth 100000 in
theorem k_PathList_init (l : Launch) (D : va_G) (cI cJ cZ : ClassId) (F : Nat) (h : Nat)  (sz : Nat)  : Met l y_PathList_init w_PathList_init rm_PathList_init (PC D [(cI, .int), (cJ, .long), (cZ, .boolean)] [.ref h] ([(h, .inr (9, [.int (iI 0), .null, .null, .null, .null]))]) sz) (QN D [(cI, .int), (cJ, .long), (cZ, .boolean)] ([(h, .inr (9, [.int (iI 0), .null, .null, .null, .null]))]) sz (fun u => [(h, .inr (9, [.int (iI 0), .ref (u 1), .ref (u 2), .ref (u 3), .ref (u 4)])), ((u 1), .inl (cI, 20, .inl (ia (fun _ => 0)))), ((u 2), .inl (cI, 20, .inl (ia (fun _ => 0)))), ((u 3), .inl (cI, 20, .inl (ia (fun _ => 0)))), ((u 4), .inl (cI, 2880, .inl (ia (fun _ => 0))))])) 4 2940 (va_A ([(h, .inr (9, [.int (iI 0), .null, .null, .null, .null]))]) sz) := by
  refine Met.ofW (cc := prog_6_method_1_code) (maxL := 1) (ret := (Option.none : Option Jvm.ClassFile.FieldType)) (by decide) rfl ?_
  intro p e s m args below meth c s₁ B hml hv
  obtain ⟨rfl, hsz, hP, hK, hD0, hN⟩ := hv
  have hx := B.exec
  have hb := B.bytes
  have hr := B.returns
  have hts := atoms_spec (ws := w_PathList_init) B.pre
  have hown : s.vm.findClass R_PathList = some m.cls := findClass_of_methodNamed B.named
  have hlocks := B.notSynchronized
  have hin : meth.name = "<init>" := (name_of_methodNamed B.named B.method).1
  subst hsz
  have hD := hD0.self (sz := s.heap.size)
  obtain ⟨A, hAe⟩ : ∃ A, A = va_A ([(h, .inr (9, [.int (iI 0), .null, .null, .null, .null]))]) s.heap.size := ⟨_, rfl⟩
  rw [← hAe] at hD
  have hA : ∀ q : Nat, s.heap.size ≤ q → A q := fun q h => by rw [hAe]; exact Or.inr h
  have hS : va_S A s.heap s.heap [] := va_S.rf
  have hl := lv_entry ([.ref h]) (n := 1) (Nat.le_of_ble_eq_true rfl)
  rw [lg_entry_eq]
  generalize (lg_sl ([.ref h]) ++ List.replicate (1 - (lg_sl ([.ref h])).length) Slot.unset).toArray = ls at hl ⊢
  have hl : lv_has ls 1 [(0, .ref h)] := hl
  generalize (List.toArray ([.ref h] : List Value)) = args at hts ⊢
  have hT : ∀ w ∈ Tg, w.before args s = true := fun w h => hts w (List.mem_cons_of_mem _ h)
  obtain ⟨Q, hQ⟩ : ∃ Q, Q = MQ below (QN D [(cI, .int), (cJ, .long), (cZ, .boolean)] ([(h, .inr (9, [.int (iI 0), .null, .null, .null, .null]))]) s.heap.size (fun u => [(h, .inr (9, [.int (iI 0), .ref (u 1), .ref (u 2), .ref (u 3), .ref (u 4)])), ((u 1), .inl (cI, 20, .inl (ia (fun _ => 0)))), ((u 2), .inl (cI, 20, .inl (ia (fun _ => 0)))), ((u 3), .inl (cI, 20, .inl (ia (fun _ => 0)))), ((u 4), .inl (cI, 2880, .inl (ia (fun _ => 0))))])) args s 4 2940 (va_A ([(h, .inr (9, [.int (iI 0), .null, .null, .null, .null]))]) s.heap.size) := ⟨_, rfl⟩
  rw [← hQ]
  suffices hW : ∀ (H : Heap), va_P D vwCl [(h, .inr (9, [.int (iI 0), .null, .null, .null, .null]))] H → va_S A s.heap H [] → W p l e (headSpec w_PathList_init rm_PathList_init).room s m args below meth c H [] 0 0 Q (F0 m 0 ls []) from hW s.heap hP hS
  clear hP hS
  intro H hP hS
  refine lv_aload_n hx hb d_PathList_init_0 rfl (lv_at hl 0 rfl) ?_
  refine W.objInit hx hb hown (hT _ m354) (hT _ m28) (hT _ m_code_objinit) rfl (by rw [hml]; exact hl.1) rfl d_PathList_init_1 (Nat.le_of_ble_eq_true rfl) (Nat.le_of_ble_eq_true rfl) ?_
  refine W.eq (g2 := F0 m 4 ls []) rfl ?_
  refine lv_aload_n hx hb d_PathList_init_4 rfl (lv_at hl 0 rfl) ?_
  refine lv_bipush (v := iI 20) hx hb d_PathList_init_5 (by decide) ?_
  refine zn_new (atype := .int) (a0 := (20, .inl (ia (fun _ => 0)))) hx hb (hT _ m132) rfl rfl hK (t0 := 0) rfl hP hD hS hA (fun _ => rfl) (by decide) (by decide) (by decide) (Nat.le_of_ble_eq_true rfl) (Nat.le_of_ble_eq_true rfl) d_PathList_init_7 (fun q7 H hP hD hS => ?_)
  have hP : va_P D vwCl [(h, .inr (9, [.int (iI 0), .null, .null, .null, .null])), (q7, .inl (cI, 20, .inl (ia (fun _ => 0))))] H := hP
  have hD : va_D A [(h, .inr (9, [.int (iI 0), .null, .null, .null, .null])), (q7, .inl (cI, 20, .inl (ia (fun _ => 0))))] := hD
  refine W.widen (k := 1) (n := 20) (Nat.le_of_ble_eq_true rfl) (Nat.le_of_ble_eq_true rfl) ?_
  refine va_putF (D := D) (ci := 9) (v := .ref q7) (ty := (.array .int)) (C := R_PathList) (T := F_PathList) (N := 5) hx hb hT in_PathList ty_PathList ty_PathList_ok n_PathList hown hK hP hD hS 0 rfl rfl 1 (by decide) (hT _ m357) (fun _ h9 => h9) rfl hin rfl (by decide +kernel) rfl rfl (Nat.le_of_ble_eq_true rfl) d_PathList_init_9 (fun H locs hP hD hS => ?_)
  have hP : va_P D vwCl [(h, .inr (9, [.int (iI 0), .ref q7, .null, .null, .null])), (q7, .inl (cI, 20, .inl (ia (fun _ => 0))))] H := hP
  have hD : va_D A [(h, .inr (9, [.int (iI 0), .ref q7, .null, .null, .null])), (q7, .inl (cI, 20, .inl (ia (fun _ => 0))))] := hD
  refine lv_aload_n hx hb d_PathList_init_12 rfl (lv_at hl 0 rfl) ?_
  refine lv_bipush (v := iI 20) hx hb d_PathList_init_13 (by decide) ?_
  refine zn_new (atype := .int) (a0 := (20, .inl (ia (fun _ => 0)))) hx hb (hT _ m132) rfl rfl hK (t0 := 0) rfl hP hD hS hA (fun _ => rfl) (by decide) (by decide) (by decide) (Nat.le_of_ble_eq_true rfl) (Nat.le_of_ble_eq_true rfl) d_PathList_init_15 (fun q15 H hP hD hS => ?_)
  have hP : va_P D vwCl [(h, .inr (9, [.int (iI 0), .ref q7, .null, .null, .null])), (q7, .inl (cI, 20, .inl (ia (fun _ => 0)))), (q15, .inl (cI, 20, .inl (ia (fun _ => 0))))] H := hP
  have hD : va_D A [(h, .inr (9, [.int (iI 0), .ref q7, .null, .null, .null])), (q7, .inl (cI, 20, .inl (ia (fun _ => 0)))), (q15, .inl (cI, 20, .inl (ia (fun _ => 0))))] := hD
  refine W.widen (k := 2) (n := 40) (Nat.le_of_ble_eq_true rfl) (Nat.le_of_ble_eq_true rfl) ?_
  refine va_putF (D := D) (ci := 9) (v := .ref q15) (ty := (.array .int)) (C := R_PathList) (T := F_PathList) (N := 5) hx hb hT in_PathList ty_PathList ty_PathList_ok n_PathList hown hK hP hD hS 0 rfl rfl 2 (by decide) (hT _ m358) (fun _ h9 => h9) rfl hin rfl (by decide +kernel) rfl rfl (Nat.le_of_ble_eq_true rfl) d_PathList_init_17 (fun H locs hP hD hS => ?_)
  have hP : va_P D vwCl [(h, .inr (9, [.int (iI 0), .ref q7, .ref q15, .null, .null])), (q7, .inl (cI, 20, .inl (ia (fun _ => 0)))), (q15, .inl (cI, 20, .inl (ia (fun _ => 0))))] H := hP
  have hD : va_D A [(h, .inr (9, [.int (iI 0), .ref q7, .ref q15, .null, .null])), (q7, .inl (cI, 20, .inl (ia (fun _ => 0)))), (q15, .inl (cI, 20, .inl (ia (fun _ => 0))))] := hD
  refine lv_aload_n hx hb d_PathList_init_20 rfl (lv_at hl 0 rfl) ?_
  refine lv_bipush (v := iI 20) hx hb d_PathList_init_21 (by decide) ?_
  refine zn_new (atype := .int) (a0 := (20, .inl (ia (fun _ => 0)))) hx hb (hT _ m132) rfl rfl hK (t0 := 0) rfl hP hD hS hA (fun _ => rfl) (by decide) (by decide) (by decide) (Nat.le_of_ble_eq_true rfl) (Nat.le_of_ble_eq_true rfl) d_PathList_init_23 (fun q23 H hP hD hS => ?_)
  have hP : va_P D vwCl [(h, .inr (9, [.int (iI 0), .ref q7, .ref q15, .null, .null])), (q7, .inl (cI, 20, .inl (ia (fun _ => 0)))), (q15, .inl (cI, 20, .inl (ia (fun _ => 0)))), (q23, .inl (cI, 20, .inl (ia (fun _ => 0))))] H := hP
  have hD : va_D A [(h, .inr (9, [.int (iI 0), .ref q7, .ref q15, .null, .null])), (q7, .inl (cI, 20, .inl (ia (fun _ => 0)))), (q15, .inl (cI, 20, .inl (ia (fun _ => 0)))), (q23, .inl (cI, 20, .inl (ia (fun _ => 0))))] := hD
  refine W.widen (k := 3) (n := 60) (Nat.le_of_ble_eq_true rfl) (Nat.le_of_ble_eq_true rfl) ?_
  refine va_putF (D := D) (ci := 9) (v := .ref q23) (ty := (.array .int)) (C := R_PathList) (T := F_PathList) (N := 5) hx hb hT in_PathList ty_PathList ty_PathList_ok n_PathList hown hK hP hD hS 0 rfl rfl 3 (by decide) (hT _ m359) (fun _ h9 => h9) rfl hin rfl (by decide +kernel) rfl rfl (Nat.le_of_ble_eq_true rfl) d_PathList_init_25 (fun H locs hP hD hS => ?_)
  have hP : va_P D vwCl [(h, .inr (9, [.int (iI 0), .ref q7, .ref q15, .ref q23, .null])), (q7, .inl (cI, 20, .inl (ia (fun _ => 0)))), (q15, .inl (cI, 20, .inl (ia (fun _ => 0)))), (q23, .inl (cI, 20, .inl (ia (fun _ => 0))))] H := hP
  have hD : va_D A [(h, .inr (9, [.int (iI 0), .ref q7, .ref q15, .ref q23, .null])), (q7, .inl (cI, 20, .inl (ia (fun _ => 0)))), (q15, .inl (cI, 20, .inl (ia (fun _ => 0)))), (q23, .inl (cI, 20, .inl (ia (fun _ => 0))))] := hD
  refine lv_aload_n hx hb d_PathList_init_28 rfl (lv_at hl 0 rfl) ?_
  refine lv_sipush (v := iI 2880) hx hb d_PathList_init_29 (by decide) ?_
  refine zn_new (atype := .int) (a0 := (2880, .inl (ia (fun _ => 0)))) hx hb (hT _ m132) rfl rfl hK (t0 := 0) rfl hP hD hS hA (fun _ => rfl) (by decide) (by decide) (by decide) (Nat.le_of_ble_eq_true rfl) (Nat.le_of_ble_eq_true rfl) d_PathList_init_32 (fun q32 H hP hD hS => ?_)
  have hP : va_P D vwCl [(h, .inr (9, [.int (iI 0), .ref q7, .ref q15, .ref q23, .null])), (q7, .inl (cI, 20, .inl (ia (fun _ => 0)))), (q15, .inl (cI, 20, .inl (ia (fun _ => 0)))), (q23, .inl (cI, 20, .inl (ia (fun _ => 0)))), (q32, .inl (cI, 2880, .inl (ia (fun _ => 0))))] H := hP
  have hD : va_D A [(h, .inr (9, [.int (iI 0), .ref q7, .ref q15, .ref q23, .null])), (q7, .inl (cI, 20, .inl (ia (fun _ => 0)))), (q15, .inl (cI, 20, .inl (ia (fun _ => 0)))), (q23, .inl (cI, 20, .inl (ia (fun _ => 0)))), (q32, .inl (cI, 2880, .inl (ia (fun _ => 0))))] := hD
  refine W.widen (k := 4) (n := 2940) (Nat.le_of_ble_eq_true rfl) (Nat.le_of_ble_eq_true rfl) ?_
  refine va_putF (D := D) (ci := 9) (v := .ref q32) (ty := (.array .int)) (C := R_PathList) (T := F_PathList) (N := 5) hx hb hT in_PathList ty_PathList ty_PathList_ok n_PathList hown hK hP hD hS 0 rfl rfl 4 (by decide) (hT _ m360) (fun _ h9 => h9) rfl hin rfl (by decide +kernel) rfl rfl (Nat.le_of_ble_eq_true rfl) d_PathList_init_34 (fun H locs hP hD hS => ?_)
  have hP : va_P D vwCl [(h, .inr (9, [.int (iI 0), .ref q7, .ref q15, .ref q23, .ref q32])), (q7, .inl (cI, 20, .inl (ia (fun _ => 0)))), (q15, .inl (cI, 20, .inl (ia (fun _ => 0)))), (q23, .inl (cI, 20, .inl (ia (fun _ => 0)))), (q32, .inl (cI, 2880, .inl (ia (fun _ => 0))))] H := hP
  have hD : va_D A [(h, .inr (9, [.int (iI 0), .ref q7, .ref q15, .ref q23, .ref q32])), (q7, .inl (cI, 20, .inl (ia (fun _ => 0)))), (q15, .inl (cI, 20, .inl (ia (fun _ => 0)))), (q23, .inl (cI, 20, .inl (ia (fun _ => 0)))), (q32, .inl (cI, 2880, .inl (ia (fun _ => 0))))] := hD
  obtain ⟨u, hu1, hu2, hu3, hu4⟩ : ∃ u : Nat → Nat, q7 = u 1 ∧ q15 = u 2 ∧ q23 = u 3 ∧ q32 = u 4 := ⟨fun k => List.getD [0, q7, q15, q23, q32] k 0, rfl, rfl, rfl, rfl⟩
  rw [hu1, hu2, hu3, hu4] at hP hD
  rw [hQ]; rw [hAe] at hD hS; exact W.vret hx hb hr (fun t ht hW => ⟨⟨u, rfl, trivial, by rw [ht]; exact hP, va_K.moved hW.alike hK, hD⟩, hS.F ht⟩) hS.2.2 d_PathList_init_37
