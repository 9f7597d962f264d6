abbrev rm_Spread_join : Room := { frames := 1, cells := 0, slots := 0, locals := 24 }
set_option maxHeartbeats 4000000 in
set_option maxRecDepth 100000 in
theorem c_Spread_join (l : Launch) (D : va_G) (cI cJ cZ : ClassId) (F : Nat) (a : Nat → Nat) (aX aX_count aX_early aX_late : Nat) (X_count : Int → Int) (X_early : Int → Int) (X_late : Int → Int) (x1 : Int) (x2 : Int) (x3 : Int) (x4 : Int) (z_X_count : Int → Int) (z_X_early : Int → Int) (z_X_late : Int → Int) (sz : Nat) (h : f_Spread_join F X_count X_early X_late x1 x2 x3 x4 = some (z_X_count, z_X_early, z_X_late)) : Met l y_Spread_join w_Spread_join rm_Spread_join (PC D [(cI, .int), (cJ, .long), (cZ, .boolean)] [.ref aX, .int (iI x1), .int (iI x2), .int (iI x3), .int (iI x4)] ([(o_X aX aX_count aX_early aX_late (a 43) (a 40)), (aX_count, .inl (cI, 96, .inl (ia X_count))), (aX_early, .inl (cI, 96, .inl (ia X_early))), (aX_late, .inl (cI, 96, .inl (ia X_late)))]) sz) (QV D [(cI, .int), (cJ, .long), (cZ, .boolean)] ([(o_X aX aX_count aX_early aX_late (a 43) (a 40)), (aX_count, .inl (cI, 96, .inl (ia X_count))), (aX_early, .inl (cI, 96, .inl (ia X_early))), (aX_late, .inl (cI, 96, .inl (ia X_late)))]) sz ([(o_X aX aX_count aX_early aX_late (a 43) (a 40)), (aX_count, .inl (cI, 96, .inl (ia z_X_count))), (aX_early, .inl (cI, 96, .inl (ia z_X_early))), (aX_late, .inl (cI, 96, .inl (ia z_X_late)))])) 0 0 (va_A ([(o_X aX aX_count aX_early aX_late (a 43) (a 40)), (aX_count, .inl (cI, 96, .inl (ia X_count))), (aX_early, .inl (cI, 96, .inl (ia X_early))), (aX_late, .inl (cI, 96, .inl (ia X_late)))]) sz) := by
  refine Met.ofW (cc := prog_9_method_4_code) (maxL := 6) (ret := (Option.none : Option Jvm.ClassFile.FieldType)) (by decide) rfl ?_
  intro p e s m args below meth c s₁ B hml hv
  obtain ⟨rfl, hsz, hP, hK, hD0, hN⟩ := hv
  have hx := B.exec
  have hb := B.bytes
  have hr := B.returns
  have hts := atoms_spec (ws := w_Spread_join) B.pre
  have hown : s.vm.findClass R_Spread = some m.cls := findClass_of_methodNamed B.named
  have hlocks := B.notSynchronized
  subst hsz
  have hD := hD0.self (sz := s.heap.size)
  obtain ⟨A, hAe⟩ : ∃ A, A = va_A ([(o_X aX aX_count aX_early aX_late (a 43) (a 40)), (aX_count, .inl (cI, 96, .inl (ia X_count))), (aX_early, .inl (cI, 96, .inl (ia X_early))), (aX_late, .inl (cI, 96, .inl (ia X_late)))]) s.heap.size := ⟨_, rfl⟩
  rw [← hAe] at hD
  have hA : ∀ q : Nat, s.heap.size ≤ q → A q := fun q h => by rw [hAe]; exact Or.inr h
  have hS : va_S A s.heap s.heap [] := va_S.rf
  have hl := lv_entry ([.ref aX, .int (iI x1), .int (iI x2), .int (iI x3), .int (iI x4)]) (n := 6) (Nat.le_of_ble_eq_true rfl)
  rw [lg_entry_eq]
  generalize (lg_sl ([.ref aX, .int (iI x1), .int (iI x2), .int (iI x3), .int (iI x4)]) ++ List.replicate (6 - (lg_sl ([.ref aX, .int (iI x1), .int (iI x2), .int (iI x3), .int (iI x4)])).length) Slot.unset).toArray = ls at hl ⊢
  have hl : lv_has ls 6 [(0, .ref aX), (1, .int (iI x1)), (2, .int (iI x2)), (3, .int (iI x3)), (4, .int (iI x4))] := hl
  generalize (List.toArray ([.ref aX, .int (iI x1), .int (iI x2), .int (iI x3), .int (iI x4)] : List Value)) = args at hts ⊢
  have hT : ∀ w ∈ Tg, w.before args s = true := fun w h => hts w (List.mem_cons_of_mem _ h)
  obtain ⟨Q, hQ⟩ : ∃ Q, Q = MQ below (QV D [(cI, .int), (cJ, .long), (cZ, .boolean)] ([(o_X aX aX_count aX_early aX_late (a 43) (a 40)), (aX_count, .inl (cI, 96, .inl (ia X_count))), (aX_early, .inl (cI, 96, .inl (ia X_early))), (aX_late, .inl (cI, 96, .inl (ia X_late)))]) s.heap.size ([(o_X aX aX_count aX_early aX_late (a 43) (a 40)), (aX_count, .inl (cI, 96, .inl (ia z_X_count))), (aX_early, .inl (cI, 96, .inl (ia z_X_early))), (aX_late, .inl (cI, 96, .inl (ia z_X_late)))])) args s 0 0 (va_A ([(o_X aX aX_count aX_early aX_late (a 43) (a 40)), (aX_count, .inl (cI, 96, .inl (ia X_count))), (aX_early, .inl (cI, 96, .inl (ia X_early))), (aX_late, .inl (cI, 96, .inl (ia X_late)))]) s.heap.size) := ⟨_, rfl⟩
  rw [← hQ]
  suffices hW : ∀ (H : Heap) (locs : List Loc), va_P D vwCl ([(o_X aX aX_count aX_early aX_late (a 43) (a 40)), (aX_count, .inl (cI, 96, .inl (ia X_count))), (aX_early, .inl (cI, 96, .inl (ia X_early))), (aX_late, .inl (cI, 96, .inl (ia X_late)))]) H → va_D A ([(o_X aX aX_count aX_early aX_late (a 43) (a 40)), (aX_count, .inl (cI, 96, .inl (ia X_count))), (aX_early, .inl (cI, 96, .inl (ia X_early))), (aX_late, .inl (cI, 96, .inl (ia X_late)))]) → va_S A s.heap H locs → W p l e (headSpec w_Spread_join rm_Spread_join).room s m args below meth c H locs 0 0 Q (F0 m 0 ls []) from hW s.heap [] hP hD hS
  clear hP hD hS
  intro H locs hP hD hS
  rw [f_Spread_join] at h
  refine lv_aload_n hx hb d_Spread_join_0 rfl (lv_at hl 0 rfl) ?_
  refine va_get (D := D) (ci := 3) (v := .ref aX_count) (C := R_Spread) (T := F_Spread) (N := 5) hx hb hT in_Spread hown hK hP 0 rfl rfl 2 (by decide) (hT _ m171) (fun _ h9 => h9) rfl d_Spread_join_1 ?_
  refine lv_iload_n hx hb d_Spread_join_4 rfl (lv_at hl 1 rfl) ?_
  obtain ⟨hin, h⟩ := gi_e h
  refine zv_iald hx hb hK hP 1 0 rfl rfl (Nat.le_of_ble_eq_true rfl) hin d_Spread_join_5 ?_
  have hj14 : ∀ (q0 : Int) (H : Heap) (locs : List Loc) (ls : Array Slot), va_P D vwCl [(o_X aX aX_count aX_early aX_late (a 43) (a 40)), (aX_count, .inl (cI, 96, .inl (ia X_count))), (aX_early, .inl (cI, 96, .inl (ia X_early))), (aX_late, .inl (cI, 96, .inl (ia X_late)))] H → va_D A [(o_X aX aX_count aX_early aX_late (a 43) (a 40)), (aX_count, .inl (cI, 96, .inl (ia X_count))), (aX_early, .inl (cI, 96, .inl (ia X_early))), (aX_late, .inl (cI, 96, .inl (ia X_late)))] → va_S A s.heap H locs → lv_has ls 6 [(0, .ref aX), (1, .int (iI x1)), (2, .int (iI x2)), (3, .int (iI x3)), (4, .int (iI x4))] → f_Spread_join_j14 F X_count X_early X_late x1 x2 x3 x4 q0 = some (z_X_count, z_X_early, z_X_late) → W p l e (headSpec w_Spread_join rm_Spread_join).room s m args below meth c H locs 0 0 Q (F0 m 14 ls [.int (iI q0)]) := by
    intro q0 H locs ls hP hD hS hl h
    rw [f_Spread_join_j14] at h
    refine lv_istore (lv' := [(5, .int (iI q0)), (0, .ref aX), (1, .int (iI x1)), (2, .int (iI x2)), (3, .int (iI x3)), (4, .int (iI x4))]) hx hb d_Spread_join_14 hl (by decide) rfl (fun ls hl => ?_)
    refine lv_iload hx hb d_Spread_join_16 (lv_at hl 0 rfl) ?_
    have hj38 : ∀ (X_early_1 : Int → Int) (H : Heap) (locs : List Loc) (ls : Array Slot), va_P D vwCl [(o_X aX aX_count aX_early aX_late (a 43) (a 40)), (aX_count, .inl (cI, 96, .inl (ia X_count))), (aX_early, .inl (cI, 96, .inl (ia X_early_1))), (aX_late, .inl (cI, 96, .inl (ia X_late)))] H → va_D A [(o_X aX aX_count aX_early aX_late (a 43) (a 40)), (aX_count, .inl (cI, 96, .inl (ia X_count))), (aX_early, .inl (cI, 96, .inl (ia X_early_1))), (aX_late, .inl (cI, 96, .inl (ia X_late)))] → va_S A s.heap H locs → lv_has ls 6 [(0, .ref aX), (1, .int (iI x1)), (2, .int (iI x2)), (4, .int (iI x4)), (5, .int (iI q0))] → f_Spread_join_j38 F X_count X_late x1 x2 x4 q0 X_early_1 = some (z_X_count, z_X_early, z_X_late) → W p l e (headSpec w_Spread_join rm_Spread_join).room s m args below meth c H locs 0 0 Q (F0 m 38 ls []) := by
      intro X_early_1 H locs ls hP hD hS hl h
      rw [f_Spread_join_j38] at h
      refine lv_iload hx hb d_Spread_join_38 (lv_at hl 4 rfl) ?_
      have hj62 : ∀ (X_late_2 : Int → Int) (H : Heap) (locs : List Loc) (ls : Array Slot), va_P D vwCl [(o_X aX aX_count aX_early aX_late (a 43) (a 40)), (aX_count, .inl (cI, 96, .inl (ia X_count))), (aX_early, .inl (cI, 96, .inl (ia X_early_1))), (aX_late, .inl (cI, 96, .inl (ia X_late_2)))] H → va_D A [(o_X aX aX_count aX_early aX_late (a 43) (a 40)), (aX_count, .inl (cI, 96, .inl (ia X_count))), (aX_early, .inl (cI, 96, .inl (ia X_early_1))), (aX_late, .inl (cI, 96, .inl (ia X_late_2)))] → va_S A s.heap H locs → lv_has ls 6 [(0, .ref aX), (1, .int (iI x1)), (2, .int (iI x2))] → f_Spread_join_j62 F X_count x1 x2 X_early_1 X_late_2 = some (z_X_count, z_X_early, z_X_late) → W p l e (headSpec w_Spread_join rm_Spread_join).room s m args below meth c H locs 0 0 Q (F0 m 62 ls []) := by
        intro X_late_2 H locs ls hP hD hS hl h
        rw [f_Spread_join_j62] at h
        refine lv_aload_n hx hb d_Spread_join_62 rfl (lv_at hl 0 rfl) ?_
        refine va_get (D := D) (ci := 3) (v := .ref aX_count) (C := R_Spread) (T := F_Spread) (N := 5) hx hb hT in_Spread hown hK hP 0 rfl rfl 2 (by decide) (hT _ m171) (fun _ h9 => h9) rfl d_Spread_join_63 ?_
        refine lv_iload_n hx hb d_Spread_join_66 rfl (lv_at hl 1 rfl) ?_
        refine lv_aload_n hx hb d_Spread_join_67 rfl (lv_at hl 0 rfl) ?_
        refine va_get (D := D) (ci := 3) (v := .ref aX_count) (C := R_Spread) (T := F_Spread) (N := 5) hx hb hT in_Spread hown hK hP 0 rfl rfl 2 (by decide) (hT _ m171) (fun _ h9 => h9) rfl d_Spread_join_68 ?_
        refine lv_iload_n hx hb d_Spread_join_71 rfl (lv_at hl 1 rfl) ?_
        obtain ⟨hin, h⟩ := gi_e h
        refine zv_iald hx hb hK hP 1 0 rfl rfl (Nat.le_of_ble_eq_true rfl) hin d_Spread_join_72 ?_
        refine lv_iload_n hx hb d_Spread_join_73 rfl (lv_at hl 2 rfl) ?_
        refine zv_iadd hx hb d_Spread_join_74 ?_
        refine lv_sipush (v := iI 4001) hx hb d_Spread_join_75 (by decide) ?_
        obtain ⟨hg0, h⟩ := gr_e h
        refine zv_mmin hx hb (hml.trans hl.1.symm) hown (hT _ m495) (hT _ m496) (hT _ m18) (hT _ m_code_Math_min) (Nat.le_of_ble_eq_true rfl) (Nat.le_of_ble_eq_true rfl) (Nat.zero_le _) (Nat.zero_le _) hg0 (by decide) d_Spread_join_78 ?_
        obtain ⟨hin, h⟩ := gi_e h
        refine zv_iast hx hb hK hP hD hS 1 0 rfl rfl (Nat.le_of_ble_eq_true rfl) hin d_Spread_join_81 (fun H locs hP hD hS => ?_)
        obtain ⟨X_count_3, hv⟩ : ∃ z, z = (ui X_count x1 (min ((X_count x1) + x2) 4001)) := ⟨_, rfl⟩
        replace h := bd_e hv h
        have hP : va_P D vwCl [(o_X aX aX_count aX_early aX_late (a 43) (a 40)), (aX_count, .inl (cI, 96, .inl (ia X_count_3))), (aX_early, .inl (cI, 96, .inl (ia X_early_1))), (aX_late, .inl (cI, 96, .inl (ia X_late_2)))] H := by rw [hv]; exact hP
        have hD : va_D A [(o_X aX aX_count aX_early aX_late (a 43) (a 40)), (aX_count, .inl (cI, 96, .inl (ia X_count_3))), (aX_early, .inl (cI, 96, .inl (ia X_early_1))), (aX_late, .inl (cI, 96, .inl (ia X_late_2)))] := by rw [hv]; exact hD
        obtain ⟨e1, e2, e3⟩ := so3 h
        rw [hQ, e1, e2, e3]; rw [hAe] at hD hS; exact W.vret hx hb hr (fun t ht hW => ⟨⟨(), rfl, trivial, by rw [ht]; exact hP, va_K.moved hW.alike hK, hD⟩, hS.F ht⟩) hS.2.2 d_Spread_join_82
      have hj54 : ∀  (H : Heap) (locs : List Loc) (ls : Array Slot), va_P D vwCl [(o_X aX aX_count aX_early aX_late (a 43) (a 40)), (aX_count, .inl (cI, 96, .inl (ia X_count))), (aX_early, .inl (cI, 96, .inl (ia X_early_1))), (aX_late, .inl (cI, 96, .inl (ia X_late)))] H → va_D A [(o_X aX aX_count aX_early aX_late (a 43) (a 40)), (aX_count, .inl (cI, 96, .inl (ia X_count))), (aX_early, .inl (cI, 96, .inl (ia X_early_1))), (aX_late, .inl (cI, 96, .inl (ia X_late)))] → va_S A s.heap H locs → lv_has ls 6 [(0, .ref aX), (1, .int (iI x1)), (2, .int (iI x2)), (4, .int (iI x4))] → f_Spread_join_j54 F X_count X_late x1 x2 x4 X_early_1 = some (z_X_count, z_X_early, z_X_late) → W p l e (headSpec w_Spread_join rm_Spread_join).room s m args below meth c H locs 0 0 Q (F0 m 54 ls []) := by
        intro  H locs ls hP hD hS hl h
        rw [f_Spread_join_j54] at h
        refine lv_aload_n hx hb d_Spread_join_54 rfl (lv_at hl 0 rfl) ?_
        refine va_get (D := D) (ci := 3) (v := .ref aX_late) (C := R_Spread) (T := F_Spread) (N := 5) hx hb hT in_Spread hown hK hP 0 rfl rfl 4 (by decide) (hT _ m179) (fun _ h9 => h9) rfl d_Spread_join_55 ?_
        refine lv_iload_n hx hb d_Spread_join_58 rfl (lv_at hl 1 rfl) ?_
        refine lv_iload hx hb d_Spread_join_59 (lv_at hl 3 rfl) ?_
        obtain ⟨hin, h⟩ := gi_e h
        refine zv_iast hx hb hK hP hD hS 3 0 rfl rfl (Nat.le_of_ble_eq_true rfl) hin d_Spread_join_61 (fun H locs hP hD hS => ?_)
        obtain ⟨X_late_4, hv⟩ : ∃ z, z = (ui X_late x1 x4) := ⟨_, rfl⟩
        replace h := bd_e hv h
        have hP : va_P D vwCl [(o_X aX aX_count aX_early aX_late (a 43) (a 40)), (aX_count, .inl (cI, 96, .inl (ia X_count))), (aX_early, .inl (cI, 96, .inl (ia X_early_1))), (aX_late, .inl (cI, 96, .inl (ia X_late_4)))] H := by rw [hv]; exact hP
        have hD : va_D A [(o_X aX aX_count aX_early aX_late (a 43) (a 40)), (aX_count, .inl (cI, 96, .inl (ia X_count))), (aX_early, .inl (cI, 96, .inl (ia X_early_1))), (aX_late, .inl (cI, 96, .inl (ia X_late_4)))] := by rw [hv]; exact hD
        exact hj62 X_late_4 H locs ls hP hD hS (lv_sub hl [0, 1, 2] rfl) h
      obtain ⟨hg0, h⟩ := gr_e h
      refine zi_ne hx hb d_Spread_join_40 rfl hg0 (fun hc => ?_) (fun hc => ?_)
      · replace h := if_f hc h
        exact hj54  H locs ls hP hD hS (lv_sub hl [0, 1, 2, 3] rfl) h
      · replace h := if_t hc h
        refine lv_iload hx hb d_Spread_join_43 (lv_at hl 3 rfl) ?_
        refine lv_aload_n hx hb d_Spread_join_45 rfl (lv_at hl 0 rfl) ?_
        refine va_get (D := D) (ci := 3) (v := .ref aX_late) (C := R_Spread) (T := F_Spread) (N := 5) hx hb hT in_Spread hown hK hP 0 rfl rfl 4 (by decide) (hT _ m179) (fun _ h9 => h9) rfl d_Spread_join_46 ?_
        refine lv_iload_n hx hb d_Spread_join_49 rfl (lv_at hl 1 rfl) ?_
        obtain ⟨hin, h⟩ := gi_e h
        refine zv_iald hx hb hK hP 3 0 rfl rfl (Nat.le_of_ble_eq_true rfl) hin d_Spread_join_50 ?_
        obtain ⟨hg0, h⟩ := gr_e h
        obtain ⟨hg1, h⟩ := gr_e h
        refine zc_le hx hb d_Spread_join_51 rfl hg0 hg1 (fun hc => ?_) (fun hc => ?_)
        · replace h := if_t hc h
          exact hj62 X_late H locs ls hP hD hS (lv_sub hl [0, 1, 2] rfl) h
        · replace h := if_f hc h
          exact hj54  H locs ls hP hD hS (lv_sub hl [0, 1, 2, 3] rfl) h
    have hj31 : ∀  (H : Heap) (locs : List Loc) (ls : Array Slot), va_P D vwCl [(o_X aX aX_count aX_early aX_late (a 43) (a 40)), (aX_count, .inl (cI, 96, .inl (ia X_count))), (aX_early, .inl (cI, 96, .inl (ia X_early))), (aX_late, .inl (cI, 96, .inl (ia X_late)))] H → va_D A [(o_X aX aX_count aX_early aX_late (a 43) (a 40)), (aX_count, .inl (cI, 96, .inl (ia X_count))), (aX_early, .inl (cI, 96, .inl (ia X_early))), (aX_late, .inl (cI, 96, .inl (ia X_late)))] → va_S A s.heap H locs → lv_has ls 6 [(0, .ref aX), (1, .int (iI x1)), (2, .int (iI x2)), (3, .int (iI x3)), (4, .int (iI x4)), (5, .int (iI q0))] → f_Spread_join_j31 F X_count X_early X_late x1 x2 x3 x4 q0 = some (z_X_count, z_X_early, z_X_late) → W p l e (headSpec w_Spread_join rm_Spread_join).room s m args below meth c H locs 0 0 Q (F0 m 31 ls []) := by
      intro  H locs ls hP hD hS hl h
      rw [f_Spread_join_j31] at h
      refine lv_aload_n hx hb d_Spread_join_31 rfl (lv_at hl 0 rfl) ?_
      refine va_get (D := D) (ci := 3) (v := .ref aX_early) (C := R_Spread) (T := F_Spread) (N := 5) hx hb hT in_Spread hown hK hP 0 rfl rfl 3 (by decide) (hT _ m176) (fun _ h9 => h9) rfl d_Spread_join_32 ?_
      refine lv_iload_n hx hb d_Spread_join_35 rfl (lv_at hl 1 rfl) ?_
      refine lv_iload_n hx hb d_Spread_join_36 rfl (lv_at hl 3 rfl) ?_
      obtain ⟨hin, h⟩ := gi_e h
      refine zv_iast hx hb hK hP hD hS 2 0 rfl rfl (Nat.le_of_ble_eq_true rfl) hin d_Spread_join_37 (fun H locs hP hD hS => ?_)
      obtain ⟨X_early_5, hv⟩ : ∃ z, z = (ui X_early x1 x3) := ⟨_, rfl⟩
      replace h := bd_e hv h
      have hP : va_P D vwCl [(o_X aX aX_count aX_early aX_late (a 43) (a 40)), (aX_count, .inl (cI, 96, .inl (ia X_count))), (aX_early, .inl (cI, 96, .inl (ia X_early_5))), (aX_late, .inl (cI, 96, .inl (ia X_late)))] H := by rw [hv]; exact hP
      have hD : va_D A [(o_X aX aX_count aX_early aX_late (a 43) (a 40)), (aX_count, .inl (cI, 96, .inl (ia X_count))), (aX_early, .inl (cI, 96, .inl (ia X_early_5))), (aX_late, .inl (cI, 96, .inl (ia X_late)))] := by rw [hv]; exact hD
      exact hj38 X_early_5 H locs ls hP hD hS (lv_sub hl [0, 1, 2, 4, 5] rfl) h
    obtain ⟨hg0, h⟩ := gr_e h
    refine zi_ne hx hb d_Spread_join_18 rfl hg0 (fun hc => ?_) (fun hc => ?_)
    · replace h := if_f hc h
      exact hj31  H locs ls hP hD hS (lv_sub hl [1, 2, 3, 4, 5, 0] rfl) h
    · replace h := if_t hc h
      refine lv_iload_n hx hb d_Spread_join_21 rfl (lv_at hl 4 rfl) ?_
      refine lv_aload_n hx hb d_Spread_join_22 rfl (lv_at hl 1 rfl) ?_
      refine va_get (D := D) (ci := 3) (v := .ref aX_early) (C := R_Spread) (T := F_Spread) (N := 5) hx hb hT in_Spread hown hK hP 0 rfl rfl 3 (by decide) (hT _ m176) (fun _ h9 => h9) rfl d_Spread_join_23 ?_
      refine lv_iload_n hx hb d_Spread_join_26 rfl (lv_at hl 2 rfl) ?_
      obtain ⟨hin, h⟩ := gi_e h
      refine zv_iald hx hb hK hP 2 0 rfl rfl (Nat.le_of_ble_eq_true rfl) hin d_Spread_join_27 ?_
      obtain ⟨hg0, h⟩ := gr_e h
      obtain ⟨hg1, h⟩ := gr_e h
      refine zc_ge hx hb d_Spread_join_28 rfl hg0 hg1 (fun hc => ?_) (fun hc => ?_)
      · replace h := if_t hc h
        exact hj38 X_early H locs ls hP hD hS (lv_sub hl [1, 2, 3, 5, 0] rfl) h
      · replace h := if_f hc h
        exact hj31  H locs ls hP hD hS (lv_sub hl [1, 2, 3, 4, 5, 0] rfl) h
  obtain ⟨hg0, h⟩ := gr_e h
  refine zi_ne hx hb d_Spread_join_6 rfl hg0 (fun hc => ?_) (fun hc => ?_)
  · replace h := if_f hc h
    refine zv_iconst hx hb d_Spread_join_13 ?_
    exact hj14 0 H locs ls hP hD hS (lv_sub hl [0, 1, 2, 3, 4] rfl) h
  · replace h := if_t hc h
    refine zv_iconst hx hb d_Spread_join_9 ?_
    refine lv_goto hx hb d_Spread_join_10 rfl ?_
    exact hj14 1 H locs ls hP hD hS (lv_sub hl [0, 1, 2, 3, 4] rfl) h
abbrev rm_Net_lets : Room := { frames := 0, cells := 0, slots := 0, locals := 0 }
set_option maxHeartbeats 4000000 in
set_option maxRecDepth 100000 in
theorem c_Net_lets (l : Launch) (D : va_G) (cI cJ cZ : ClassId) (F : Nat) (a : Nat → Nat) (N_period : Int) (N_width : Int) (N_size : Int) (N_senses : Int → Int) (x1 : Int) (x2 : Int) (x3 : Int) (r : Int) (sz : Nat) (h : f_Net_lets F N_senses x1 x2 x3 = some (r)) : Met l y_Net_lets w_Net_lets rm_Net_lets (PC D [(cI, .int), (cJ, .long), (cZ, .boolean)] [.ref (a 43), .int (iI x1), .int (iI x2), .int (iI x3)] ([(o_N a N_period N_width N_size), ((a 49), .inl (cI, 144, .inl (ia N_senses)))]) sz) (QcRead (iI r)) 0 0 (fun _ => False) := by
  refine Met.ofW (cc := prog_5_method_12_code) (maxL := 4) (ret := (Option.some Jvm.ClassFile.FieldType.boolean)) (by decide) rfl ?_
  intro p e s m args below meth c s₁ B hml hv
  obtain ⟨rfl, hsz, hP, hK, hD0, hN⟩ := hv
  have hx := B.exec
  have hb := B.bytes
  have hr := B.returns
  have hts := atoms_spec (ws := w_Net_lets) B.pre
  have hown : s.vm.findClass R_Net = some m.cls := findClass_of_methodNamed B.named
  have hlocks := B.notSynchronized
  subst hsz
  have hl := lv_entry ([.ref (a 43), .int (iI x1), .int (iI x2), .int (iI x3)]) (n := 4) (Nat.le_of_ble_eq_true rfl)
  rw [lg_entry_eq]
  generalize (lg_sl ([.ref (a 43), .int (iI x1), .int (iI x2), .int (iI x3)]) ++ List.replicate (4 - (lg_sl ([.ref (a 43), .int (iI x1), .int (iI x2), .int (iI x3)])).length) Slot.unset).toArray = ls at hl ⊢
  have hl : lv_has ls 4 [(0, .ref (a 43)), (1, .int (iI x1)), (2, .int (iI x2)), (3, .int (iI x3))] := hl
  generalize (List.toArray ([.ref (a 43), .int (iI x1), .int (iI x2), .int (iI x3)] : List Value)) = args at hts ⊢
  have hT : ∀ w ∈ Tg, w.before args s = true := fun w h => hts w (List.mem_cons_of_mem _ h)
  obtain ⟨Q, hQ⟩ : ∃ Q, Q = MQ below (QcRead (iI r)) args s 0 0 (fun _ => False) := ⟨_, rfl⟩
  rw [← hQ]
  rw [f_Net_lets] at h
  refine lv_aload_n hx hb d_Net_lets_0 rfl (lv_at hl 0 rfl) ?_
  refine va_get (D := D) (ci := 1) (v := .ref (a 49)) (C := R_Net) (T := F_Net) (N := 15) hx hb hT in_Net hown hK hP 0 rfl rfl 8 (by decide) (hT _ m81) (fun _ h9 => h9) rfl d_Net_lets_1 ?_
  refine lv_iload_n hx hb d_Net_lets_4 rfl (lv_at hl 1 rfl) ?_
  obtain ⟨hin, h⟩ := gi_e h
  refine zv_iald hx hb hK hP 1 0 rfl rfl (Nat.le_of_ble_eq_true rfl) hin d_Net_lets_5 ?_
  refine zv_iconst hx hb d_Net_lets_6 ?_
  obtain ⟨hg0, h⟩ := gr_e h
  refine zc_ne hx hb d_Net_lets_7 rfl hg0 (by decide) (fun hc => ?_) (fun hc => ?_)
  · replace h := if_f hc h
    refine lv_aload_n hx hb d_Net_lets_12 rfl (lv_at hl 0 rfl) ?_
    refine va_get (D := D) (ci := 1) (v := .ref (a 49)) (C := R_Net) (T := F_Net) (N := 15) hx hb hT in_Net hown hK hP 0 rfl rfl 8 (by decide) (hT _ m81) (fun _ h9 => h9) rfl d_Net_lets_13 ?_
    refine lv_iload_n hx hb d_Net_lets_16 rfl (lv_at hl 1 rfl) ?_
    obtain ⟨hin, h⟩ := gi_e h
    refine zv_iald hx hb hK hP 1 0 rfl rfl (Nat.le_of_ble_eq_true rfl) hin d_Net_lets_17 ?_
    refine zv_iconst hx hb d_Net_lets_18 ?_
    have hj27 : ∀ (q0 : Int) (ls : Array Slot), lv_has ls 4 [(2, .int (iI x2)), (3, .int (iI x3))] → f_Net_lets_j27 F x2 x3 q0 = some (r) → W p l e (headSpec w_Net_lets rm_Net_lets).room s m args below meth c s.heap [] 0 0 Q (F0 m 27 ls [.int (iI q0)]) := by
      intro q0 ls hl h
      rw [f_Net_lets_j27] at h
      refine lv_iload_n hx hb d_Net_lets_27 rfl (lv_at hl 0 rfl) ?_
      refine lv_iload_n hx hb d_Net_lets_28 rfl (lv_at hl 1 rfl) ?_
      have hj37 : ∀ (q1 : Int) (ls : Array Slot), lv_has ls 4 [] → f_Net_lets_j37 F q0 q1 = some (r) → W p l e (headSpec w_Net_lets rm_Net_lets).room s m args below meth c s.heap [] 0 0 Q (F0 m 37 ls [.int (iI q1), .int (iI q0)]) := by
        intro q1 ls hl h
        rw [f_Net_lets_j37] at h
        obtain ⟨hg0, h⟩ := gr_e h
        obtain ⟨hg1, h⟩ := gr_e h
        refine zc_ne hx hb d_Net_lets_37 rfl hg0 hg1 (fun hc => ?_) (fun hc => ?_)
        · replace h := if_f hc h
          refine zv_iconst hx hb d_Net_lets_44 ?_
          obtain ⟨hbo, h⟩ := gb_e h
          have e1 := so1 h
          rw [hQ, e1]; exact W.zret (ty := .boolean) hx hb hr (gb_n hbo) (fun t ht hW => ⟨rfl, ht⟩) (fun q h => nomatch h) d_Net_lets_45
        · replace h := if_t hc h
          refine zv_iconst hx hb d_Net_lets_40 ?_
          refine lv_goto hx hb d_Net_lets_41 rfl ?_
          obtain ⟨hbo, h⟩ := gb_e h
          have e1 := so1 h
          rw [hQ, e1]; exact W.zret (ty := .boolean) hx hb hr (gb_n hbo) (fun t ht hW => ⟨rfl, ht⟩) (fun q h => nomatch h) d_Net_lets_45
      obtain ⟨hg0, h⟩ := gr_e h
      obtain ⟨hg1, h⟩ := gr_e h
      refine zc_eq hx hb d_Net_lets_29 rfl hg0 hg1 (fun hc => ?_) (fun hc => ?_)
      · replace h := if_t hc h
        refine zv_iconst hx hb d_Net_lets_36 ?_
        exact hj37 0 ls (lv_sub hl [] rfl) h
      · replace h := if_f hc h
        refine zv_iconst hx hb d_Net_lets_32 ?_
        refine lv_goto hx hb d_Net_lets_33 rfl ?_
        exact hj37 1 ls (lv_sub hl [] rfl) h
    obtain ⟨hg0, h⟩ := gr_e h
    refine zc_ne hx hb d_Net_lets_19 rfl hg0 (by decide) (fun hc => ?_) (fun hc => ?_)
    · replace h := if_f hc h
      refine zv_iconst hx hb d_Net_lets_26 ?_
      exact hj27 0 ls (lv_sub hl [2, 3] rfl) h
    · replace h := if_t hc h
      refine zv_iconst hx hb d_Net_lets_22 ?_
      refine lv_goto hx hb d_Net_lets_23 rfl ?_
      exact hj27 1 ls (lv_sub hl [2, 3] rfl) h
  · replace h := if_t hc h
    refine zv_iconst hx hb d_Net_lets_10 ?_
    obtain ⟨hbo, h⟩ := gb_e h
    have e1 := so1 h
    rw [hQ, e1]; exact W.zret (ty := .boolean) hx hb hr (gb_n hbo) (fun t ht hW => ⟨rfl, ht⟩) (fun q h => nomatch h) d_Net_lets_11
abbrev rm_Net_stepEarly : Room := { frames := 0, cells := 0, slots := 0, locals := 0 }
set_option maxHeartbeats 4000000 in
set_option maxRecDepth 100000 in
theorem c_Net_stepEarly (l : Launch) (D : va_G) (cI cJ cZ : ClassId) (F : Nat) (a : Nat → Nat) (N_period : Int) (N_width : Int) (N_size : Int) (N_wireEarly : Int → Int) (N_gateEarly : Int → Int) (x1 : Int) (x2 : Int) (r : Int) (sz : Nat) (h : f_Net_stepEarly F N_wireEarly N_gateEarly x1 x2 = some (r)) : Met l y_Net_stepEarly w_Net_stepEarly rm_Net_stepEarly (PC D [(cI, .int), (cJ, .long), (cZ, .boolean)] [.ref (a 43), .int (iI x1), .int (iI x2)] ([(o_N a N_period N_width N_size), ((a 47), .inl (cI, 144, .inl (ia N_wireEarly))), ((a 50), .inl (cI, 288, .inl (ia N_gateEarly)))]) sz) (QcRead (iI r)) 0 0 (fun _ => False) := by
  refine Met.ofW (cc := prog_5_method_13_code) (maxL := 3) (ret := (Option.some Jvm.ClassFile.FieldType.int)) (by decide) rfl ?_
  intro p e s m args below meth c s₁ B hml hv
  obtain ⟨rfl, hsz, hP, hK, hD0, hN⟩ := hv
  have hx := B.exec
  have hb := B.bytes
  have hr := B.returns
  have hts := atoms_spec (ws := w_Net_stepEarly) B.pre
  have hown : s.vm.findClass R_Net = some m.cls := findClass_of_methodNamed B.named
  have hlocks := B.notSynchronized
  subst hsz
  have hl := lv_entry ([.ref (a 43), .int (iI x1), .int (iI x2)]) (n := 3) (Nat.le_of_ble_eq_true rfl)
  rw [lg_entry_eq]
  generalize (lg_sl ([.ref (a 43), .int (iI x1), .int (iI x2)]) ++ List.replicate (3 - (lg_sl ([.ref (a 43), .int (iI x1), .int (iI x2)])).length) Slot.unset).toArray = ls at hl ⊢
  have hl : lv_has ls 3 [(0, .ref (a 43)), (1, .int (iI x1)), (2, .int (iI x2))] := hl
  generalize (List.toArray ([.ref (a 43), .int (iI x1), .int (iI x2)] : List Value)) = args at hts ⊢
  have hT : ∀ w ∈ Tg, w.before args s = true := fun w h => hts w (List.mem_cons_of_mem _ h)
  obtain ⟨Q, hQ⟩ : ∃ Q, Q = MQ below (QcRead (iI r)) args s 0 0 (fun _ => False) := ⟨_, rfl⟩
  rw [← hQ]
  rw [f_Net_stepEarly] at h
  refine lv_aload_n hx hb d_Net_stepEarly_0 rfl (lv_at hl 0 rfl) ?_
  refine va_get (D := D) (ci := 1) (v := .ref (a 47)) (C := R_Net) (T := F_Net) (N := 15) hx hb hT in_Net hown hK hP 0 rfl rfl 6 (by decide) (hT _ m71) (fun _ h9 => h9) rfl d_Net_stepEarly_1 ?_
  refine lv_iload_n hx hb d_Net_stepEarly_4 rfl (lv_at hl 1 rfl) ?_
  obtain ⟨hin, h⟩ := gi_e h
  refine zv_iald hx hb hK hP 1 0 rfl rfl (Nat.le_of_ble_eq_true rfl) hin d_Net_stepEarly_5 ?_
  refine lv_aload_n hx hb d_Net_stepEarly_6 rfl (lv_at hl 0 rfl) ?_
  refine va_get (D := D) (ci := 1) (v := .ref (a 50)) (C := R_Net) (T := F_Net) (N := 15) hx hb hT in_Net hown hK hP 0 rfl rfl 9 (by decide) (hT _ m83) (fun _ h9 => h9) rfl d_Net_stepEarly_7 ?_
  refine zv_iconst hx hb d_Net_stepEarly_10 ?_
  refine lv_iload_n hx hb d_Net_stepEarly_11 rfl (lv_at hl 1 rfl) ?_
  refine zv_imul hx hb d_Net_stepEarly_12 ?_
  refine lv_iload_n hx hb d_Net_stepEarly_13 rfl (lv_at hl 2 rfl) ?_
  refine zv_iadd hx hb d_Net_stepEarly_14 ?_
  obtain ⟨hin, h⟩ := gi_e h
  refine zv_iald hx hb hK hP 2 0 rfl rfl (Nat.le_of_ble_eq_true rfl) hin d_Net_stepEarly_15 ?_
  refine zv_iadd hx hb d_Net_stepEarly_16 ?_
  have e1 := so1 h
  rw [hQ, e1]; exact W.iret hx hb hr (fun t ht hW => ⟨rfl, ht⟩) (fun q h => nomatch h) d_Net_stepEarly_17
abbrev rm_Net_stepLate : Room := { frames := 0, cells := 0, slots := 0, locals := 0 }
set_option maxHeartbeats 4000000 in
set_option maxRecDepth 100000 in
theorem c_Net_stepLate (l : Launch) (D : va_G) (cI cJ cZ : ClassId) (F : Nat) (a : Nat → Nat) (N_period : Int) (N_width : Int) (N_size : Int) (N_wireLate : Int → Int) (N_gateLate : Int → Int) (x1 : Int) (x2 : Int) (r : Int) (sz : Nat) (h : f_Net_stepLate F N_wireLate N_gateLate x1 x2 = some (r)) : Met l y_Net_stepLate w_Net_stepLate rm_Net_stepLate (PC D [(cI, .int), (cJ, .long), (cZ, .boolean)] [.ref (a 43), .int (iI x1), .int (iI x2)] ([(o_N a N_period N_width N_size), ((a 48), .inl (cI, 144, .inl (ia N_wireLate))), ((a 51), .inl (cI, 288, .inl (ia N_gateLate)))]) sz) (QcRead (iI r)) 0 0 (fun _ => False) := by
  refine Met.ofW (cc := prog_5_method_14_code) (maxL := 3) (ret := (Option.some Jvm.ClassFile.FieldType.int)) (by decide) rfl ?_
  intro p e s m args below meth c s₁ B hml hv
  obtain ⟨rfl, hsz, hP, hK, hD0, hN⟩ := hv
  have hx := B.exec
  have hb := B.bytes
  have hr := B.returns
  have hts := atoms_spec (ws := w_Net_stepLate) B.pre
  have hown : s.vm.findClass R_Net = some m.cls := findClass_of_methodNamed B.named
  have hlocks := B.notSynchronized
  subst hsz
  have hl := lv_entry ([.ref (a 43), .int (iI x1), .int (iI x2)]) (n := 3) (Nat.le_of_ble_eq_true rfl)
  rw [lg_entry_eq]
  generalize (lg_sl ([.ref (a 43), .int (iI x1), .int (iI x2)]) ++ List.replicate (3 - (lg_sl ([.ref (a 43), .int (iI x1), .int (iI x2)])).length) Slot.unset).toArray = ls at hl ⊢
  have hl : lv_has ls 3 [(0, .ref (a 43)), (1, .int (iI x1)), (2, .int (iI x2))] := hl
  generalize (List.toArray ([.ref (a 43), .int (iI x1), .int (iI x2)] : List Value)) = args at hts ⊢
  have hT : ∀ w ∈ Tg, w.before args s = true := fun w h => hts w (List.mem_cons_of_mem _ h)
  obtain ⟨Q, hQ⟩ : ∃ Q, Q = MQ below (QcRead (iI r)) args s 0 0 (fun _ => False) := ⟨_, rfl⟩
  rw [← hQ]
  rw [f_Net_stepLate] at h
  refine lv_aload_n hx hb d_Net_stepLate_0 rfl (lv_at hl 0 rfl) ?_
  refine va_get (D := D) (ci := 1) (v := .ref (a 48)) (C := R_Net) (T := F_Net) (N := 15) hx hb hT in_Net hown hK hP 0 rfl rfl 7 (by decide) (hT _ m76) (fun _ h9 => h9) rfl d_Net_stepLate_1 ?_
  refine lv_iload_n hx hb d_Net_stepLate_4 rfl (lv_at hl 1 rfl) ?_
  obtain ⟨hin, h⟩ := gi_e h
  refine zv_iald hx hb hK hP 1 0 rfl rfl (Nat.le_of_ble_eq_true rfl) hin d_Net_stepLate_5 ?_
  refine lv_aload_n hx hb d_Net_stepLate_6 rfl (lv_at hl 0 rfl) ?_
  refine va_get (D := D) (ci := 1) (v := .ref (a 51)) (C := R_Net) (T := F_Net) (N := 15) hx hb hT in_Net hown hK hP 0 rfl rfl 10 (by decide) (hT _ m84) (fun _ h9 => h9) rfl d_Net_stepLate_7 ?_
  refine zv_iconst hx hb d_Net_stepLate_10 ?_
  refine lv_iload_n hx hb d_Net_stepLate_11 rfl (lv_at hl 1 rfl) ?_
  refine zv_imul hx hb d_Net_stepLate_12 ?_
  refine lv_iload_n hx hb d_Net_stepLate_13 rfl (lv_at hl 2 rfl) ?_
  refine zv_iadd hx hb d_Net_stepLate_14 ?_
  obtain ⟨hin, h⟩ := gi_e h
  refine zv_iald hx hb hK hP 2 0 rfl rfl (Nat.le_of_ble_eq_true rfl) hin d_Net_stepLate_15 ?_
  refine zv_iadd hx hb d_Net_stepLate_16 ?_
  have e1 := so1 h
  rw [hQ, e1]; exact W.iret hx hb hr (fun t ht hW => ⟨rfl, ht⟩) (fun q h => nomatch h) d_Net_stepLate_17
abbrev rm_Spread_spreadBy : Room := { frames := 2, cells := 0, slots := 0, locals := 49 }
set_option maxHeartbeats 4000000 in
set_option maxRecDepth 100000 in
theorem c_Spread_spreadBy (l : Launch) (D : va_G) (cI cJ cZ : ClassId) (F : Nat) (a : Nat → Nat) (aX aX_count aX_early aX_late : Nat) (X_count : Int → Int) (X_early : Int → Int) (X_late : Int → Int) (N_period : Int) (N_width : Int) (N_size : Int) (N_source : Int → Int) (N_wireEarly : Int → Int) (N_wireLate : Int → Int) (N_senses : Int → Int) (N_gateEarly : Int → Int) (N_gateLate : Int → Int) (x1 : Int) (x2 : Int) (z_X_count : Int → Int) (z_X_early : Int → Int) (z_X_late : Int → Int) (sz : Nat) (h : f_Spread_spreadBy F X_count X_early X_late N_source N_wireEarly N_wireLate N_senses N_gateEarly N_gateLate x1 x2 = some (z_X_count, z_X_early, z_X_late)) : Met l y_Spread_spreadBy w_Spread_spreadBy rm_Spread_spreadBy (PC D [(cI, .int), (cJ, .long), (cZ, .boolean)] [.ref aX, .int (iI x1), .int (iI x2)] ([(o_X aX aX_count aX_early aX_late (a 43) (a 40)), (aX_count, .inl (cI, 96, .inl (ia X_count))), (aX_early, .inl (cI, 96, .inl (ia X_early))), (aX_late, .inl (cI, 96, .inl (ia X_late))), (o_N a N_period N_width N_size), ((a 46), .inl (cI, 144, .inl (ia N_source))), ((a 47), .inl (cI, 144, .inl (ia N_wireEarly))), ((a 48), .inl (cI, 144, .inl (ia N_wireLate))), ((a 49), .inl (cI, 144, .inl (ia N_senses))), ((a 50), .inl (cI, 288, .inl (ia N_gateEarly))), ((a 51), .inl (cI, 288, .inl (ia N_gateLate)))]) sz) (QV D [(cI, .int), (cJ, .long), (cZ, .boolean)] ([(o_X aX aX_count aX_early aX_late (a 43) (a 40)), (aX_count, .inl (cI, 96, .inl (ia X_count))), (aX_early, .inl (cI, 96, .inl (ia X_early))), (aX_late, .inl (cI, 96, .inl (ia X_late))), (o_N a N_period N_width N_size), ((a 46), .inl (cI, 144, .inl (ia N_source))), ((a 47), .inl (cI, 144, .inl (ia N_wireEarly))), ((a 48), .inl (cI, 144, .inl (ia N_wireLate))), ((a 49), .inl (cI, 144, .inl (ia N_senses))), ((a 50), .inl (cI, 288, .inl (ia N_gateEarly))), ((a 51), .inl (cI, 288, .inl (ia N_gateLate)))]) sz ([(o_X aX aX_count aX_early aX_late (a 43) (a 40)), (aX_count, .inl (cI, 96, .inl (ia z_X_count))), (aX_early, .inl (cI, 96, .inl (ia z_X_early))), (aX_late, .inl (cI, 96, .inl (ia z_X_late))), (o_N a N_period N_width N_size), ((a 46), .inl (cI, 144, .inl (ia N_source))), ((a 47), .inl (cI, 144, .inl (ia N_wireEarly))), ((a 48), .inl (cI, 144, .inl (ia N_wireLate))), ((a 49), .inl (cI, 144, .inl (ia N_senses))), ((a 50), .inl (cI, 288, .inl (ia N_gateEarly))), ((a 51), .inl (cI, 288, .inl (ia N_gateLate)))])) 0 0 (va_A ([(o_X aX aX_count aX_early aX_late (a 43) (a 40)), (aX_count, .inl (cI, 96, .inl (ia X_count))), (aX_early, .inl (cI, 96, .inl (ia X_early))), (aX_late, .inl (cI, 96, .inl (ia X_late))), (o_N a N_period N_width N_size), ((a 46), .inl (cI, 144, .inl (ia N_source))), ((a 47), .inl (cI, 144, .inl (ia N_wireEarly))), ((a 48), .inl (cI, 144, .inl (ia N_wireLate))), ((a 49), .inl (cI, 144, .inl (ia N_senses))), ((a 50), .inl (cI, 288, .inl (ia N_gateEarly))), ((a 51), .inl (cI, 288, .inl (ia N_gateLate)))]) sz) := by
  refine Met.ofW (cc := prog_9_method_7_code) (maxL := 7) (ret := (Option.none : Option Jvm.ClassFile.FieldType)) (by decide) rfl ?_
  intro p e s m args below meth c s₁ B hml hv
  obtain ⟨rfl, hsz, hP, hK, hD0, hN⟩ := hv
  have hx := B.exec
  have hb := B.bytes
  have hr := B.returns
  have hts := atoms_spec (ws := w_Spread_spreadBy) B.pre
  have hown : s.vm.findClass R_Spread = some m.cls := findClass_of_methodNamed B.named
  have hlocks := B.notSynchronized
  subst hsz
  have hD := hD0.self (sz := s.heap.size)
  obtain ⟨A, hAe⟩ : ∃ A, A = va_A ([(o_X aX aX_count aX_early aX_late (a 43) (a 40)), (aX_count, .inl (cI, 96, .inl (ia X_count))), (aX_early, .inl (cI, 96, .inl (ia X_early))), (aX_late, .inl (cI, 96, .inl (ia X_late))), (o_N a N_period N_width N_size), ((a 46), .inl (cI, 144, .inl (ia N_source))), ((a 47), .inl (cI, 144, .inl (ia N_wireEarly))), ((a 48), .inl (cI, 144, .inl (ia N_wireLate))), ((a 49), .inl (cI, 144, .inl (ia N_senses))), ((a 50), .inl (cI, 288, .inl (ia N_gateEarly))), ((a 51), .inl (cI, 288, .inl (ia N_gateLate)))]) s.heap.size := ⟨_, rfl⟩
  rw [← hAe] at hD
  have hA : ∀ q : Nat, s.heap.size ≤ q → A q := fun q h => by rw [hAe]; exact Or.inr h
  have hS : va_S A s.heap s.heap [] := va_S.rf
  have hl := lv_entry ([.ref aX, .int (iI x1), .int (iI x2)]) (n := 7) (Nat.le_of_ble_eq_true rfl)
  rw [lg_entry_eq]
  generalize (lg_sl ([.ref aX, .int (iI x1), .int (iI x2)]) ++ List.replicate (7 - (lg_sl ([.ref aX, .int (iI x1), .int (iI x2)])).length) Slot.unset).toArray = ls at hl ⊢
  have hl : lv_has ls 7 [(0, .ref aX), (1, .int (iI x1)), (2, .int (iI x2))] := hl
  generalize (List.toArray ([.ref aX, .int (iI x1), .int (iI x2)] : List Value)) = args at hts ⊢
  have hT : ∀ w ∈ Tg, w.before args s = true := fun w h => hts w (List.mem_cons_of_mem _ h)
  obtain ⟨Q, hQ⟩ : ∃ Q, Q = MQ below (QV D [(cI, .int), (cJ, .long), (cZ, .boolean)] ([(o_X aX aX_count aX_early aX_late (a 43) (a 40)), (aX_count, .inl (cI, 96, .inl (ia X_count))), (aX_early, .inl (cI, 96, .inl (ia X_early))), (aX_late, .inl (cI, 96, .inl (ia X_late))), (o_N a N_period N_width N_size), ((a 46), .inl (cI, 144, .inl (ia N_source))), ((a 47), .inl (cI, 144, .inl (ia N_wireEarly))), ((a 48), .inl (cI, 144, .inl (ia N_wireLate))), ((a 49), .inl (cI, 144, .inl (ia N_senses))), ((a 50), .inl (cI, 288, .inl (ia N_gateEarly))), ((a 51), .inl (cI, 288, .inl (ia N_gateLate)))]) s.heap.size ([(o_X aX aX_count aX_early aX_late (a 43) (a 40)), (aX_count, .inl (cI, 96, .inl (ia z_X_count))), (aX_early, .inl (cI, 96, .inl (ia z_X_early))), (aX_late, .inl (cI, 96, .inl (ia z_X_late))), (o_N a N_period N_width N_size), ((a 46), .inl (cI, 144, .inl (ia N_source))), ((a 47), .inl (cI, 144, .inl (ia N_wireEarly))), ((a 48), .inl (cI, 144, .inl (ia N_wireLate))), ((a 49), .inl (cI, 144, .inl (ia N_senses))), ((a 50), .inl (cI, 288, .inl (ia N_gateEarly))), ((a 51), .inl (cI, 288, .inl (ia N_gateLate)))])) args s 0 0 (va_A ([(o_X aX aX_count aX_early aX_late (a 43) (a 40)), (aX_count, .inl (cI, 96, .inl (ia X_count))), (aX_early, .inl (cI, 96, .inl (ia X_early))), (aX_late, .inl (cI, 96, .inl (ia X_late))), (o_N a N_period N_width N_size), ((a 46), .inl (cI, 144, .inl (ia N_source))), ((a 47), .inl (cI, 144, .inl (ia N_wireEarly))), ((a 48), .inl (cI, 144, .inl (ia N_wireLate))), ((a 49), .inl (cI, 144, .inl (ia N_senses))), ((a 50), .inl (cI, 288, .inl (ia N_gateEarly))), ((a 51), .inl (cI, 288, .inl (ia N_gateLate)))]) s.heap.size) := ⟨_, rfl⟩
  rw [← hQ]
  suffices hW : ∀ (H : Heap) (locs : List Loc), va_P D vwCl ([(o_X aX aX_count aX_early aX_late (a 43) (a 40)), (aX_count, .inl (cI, 96, .inl (ia X_count))), (aX_early, .inl (cI, 96, .inl (ia X_early))), (aX_late, .inl (cI, 96, .inl (ia X_late))), (o_N a N_period N_width N_size), ((a 46), .inl (cI, 144, .inl (ia N_source))), ((a 47), .inl (cI, 144, .inl (ia N_wireEarly))), ((a 48), .inl (cI, 144, .inl (ia N_wireLate))), ((a 49), .inl (cI, 144, .inl (ia N_senses))), ((a 50), .inl (cI, 288, .inl (ia N_gateEarly))), ((a 51), .inl (cI, 288, .inl (ia N_gateLate)))]) H → va_D A ([(o_X aX aX_count aX_early aX_late (a 43) (a 40)), (aX_count, .inl (cI, 96, .inl (ia X_count))), (aX_early, .inl (cI, 96, .inl (ia X_early))), (aX_late, .inl (cI, 96, .inl (ia X_late))), (o_N a N_period N_width N_size), ((a 46), .inl (cI, 144, .inl (ia N_source))), ((a 47), .inl (cI, 144, .inl (ia N_wireEarly))), ((a 48), .inl (cI, 144, .inl (ia N_wireLate))), ((a 49), .inl (cI, 144, .inl (ia N_senses))), ((a 50), .inl (cI, 288, .inl (ia N_gateEarly))), ((a 51), .inl (cI, 288, .inl (ia N_gateLate)))]) → va_S A s.heap H locs → W p l e (headSpec w_Spread_spreadBy rm_Spread_spreadBy).room s m args below meth c H locs 0 0 Q (F0 m 0 ls []) from hW s.heap [] hP hD hS
  clear hP hD hS
  intro H locs hP hD hS
  rw [f_Spread_spreadBy] at h
  refine lv_iload_n hx hb d_Spread_spreadBy_0 rfl (lv_at hl 1 rfl) ?_
  refine zv_iconst hx hb d_Spread_spreadBy_1 ?_
  refine zv_imul hx hb d_Spread_spreadBy_2 ?_
  refine lv_iload_n hx hb d_Spread_spreadBy_3 rfl (lv_at hl 2 rfl) ?_
  refine zv_iadd hx hb d_Spread_spreadBy_4 ?_
  refine zv_top (fun v3 hv => ?_)
  replace h := bd_e hv h
  refine lv_istore_n (lv' := [(3, .int (iI v3)), (0, .ref aX), (1, .int (iI x1)), (2, .int (iI x2))]) hx hb d_Spread_spreadBy_5 rfl hl (by decide) rfl (fun ls hl => ?_)
  refine lv_aload_n hx hb d_Spread_spreadBy_6 rfl (lv_at hl 1 rfl) ?_
  refine va_get (D := D) (ci := 3) (v := .ref (a 43)) (C := R_Spread) (T := F_Spread) (N := 5) hx hb hT in_Spread hown hK hP 0 rfl rfl 0 (by decide) (hT _ m169) (fun _ h9 => h9) rfl d_Spread_spreadBy_7 ?_
  refine va_get (D := D) (ci := 1) (v := .ref (a 46)) (C := R_Net) (T := F_Net) (N := 15) hx hb hT in_Net hown hK hP 4 rfl rfl 5 (by decide) (hT _ m69) (fun _ h9 => h9) rfl d_Spread_spreadBy_10 ?_
  refine lv_iload_n hx hb d_Spread_spreadBy_13 rfl (lv_at hl 0 rfl) ?_
  obtain ⟨hin, h⟩ := gi_e h
  refine zv_iald hx hb hK hP 5 0 rfl rfl (Nat.le_of_ble_eq_true rfl) hin d_Spread_spreadBy_14 ?_
  obtain ⟨hg0, h⟩ := gr_e h
  refine zi_ge hx hb d_Spread_spreadBy_15 rfl hg0 (fun hc => ?_) (fun hc => ?_)
  · replace h := if_t hc h
    refine zv_iconst hx hb d_Spread_spreadBy_19 ?_
    refine lv_istore (lv' := [(4, .int (iI 0)), (3, .int (iI v3)), (0, .ref aX), (1, .int (iI x1)), (2, .int (iI x2))]) hx hb d_Spread_spreadBy_20 hl (by decide) rfl (fun ls hl => ?_)
    have hl22 : ∀ (nf : Nat) (v4 : Int) (X_count_1 : Int → Int) (X_early_2 : Int → Int) (X_late_3 : Int → Int) (H : Heap) (locs : List Loc) (ls : Array Slot), va_P D vwCl [(o_X aX aX_count aX_early aX_late (a 43) (a 40)), (aX_count, .inl (cI, 96, .inl (ia X_count_1))), (aX_early, .inl (cI, 96, .inl (ia X_early_2))), (aX_late, .inl (cI, 96, .inl (ia X_late_3))), (o_N a N_period N_width N_size), ((a 46), .inl (cI, 144, .inl (ia N_source))), ((a 47), .inl (cI, 144, .inl (ia N_wireEarly))), ((a 48), .inl (cI, 144, .inl (ia N_wireLate))), ((a 49), .inl (cI, 144, .inl (ia N_senses))), ((a 50), .inl (cI, 288, .inl (ia N_gateEarly))), ((a 51), .inl (cI, 288, .inl (ia N_gateLate)))] H → va_D A [(o_X aX aX_count aX_early aX_late (a 43) (a 40)), (aX_count, .inl (cI, 96, .inl (ia X_count_1))), (aX_early, .inl (cI, 96, .inl (ia X_early_2))), (aX_late, .inl (cI, 96, .inl (ia X_late_3))), (o_N a N_period N_width N_size), ((a 46), .inl (cI, 144, .inl (ia N_source))), ((a 47), .inl (cI, 144, .inl (ia N_wireEarly))), ((a 48), .inl (cI, 144, .inl (ia N_wireLate))), ((a 49), .inl (cI, 144, .inl (ia N_senses))), ((a 50), .inl (cI, 288, .inl (ia N_gateEarly))), ((a 51), .inl (cI, 288, .inl (ia N_gateLate)))] → va_S A s.heap H locs → lv_has ls 7 [(0, .ref aX), (1, .int (iI x1)), (3, .int (iI v3)), (4, .int (iI v4))] → lq4 (f_Spread_spreadBy_b22 F N_source N_wireEarly N_wireLate N_senses N_gateEarly N_gateLate x1 v3) nf v4 X_count_1 X_early_2 X_late_3 = some (z_X_count, z_X_early, z_X_late) → W p l e (headSpec w_Spread_spreadBy rm_Spread_spreadBy).room s m args below meth c H locs 0 0 Q (F0 m 22 ls []) := by
      intro n22
      induction n22 with
      | zero => intro v4 X_count_1 X_early_2 X_late_3 H locs ls hP hD hS hl h; exact no_some h
      | succ n22 ih22 =>
        intro v4 X_count_1 X_early_2 X_late_3 H locs ls hP hD hS hl h
        replace h : f_Spread_spreadBy_b22 F N_source N_wireEarly N_wireLate N_senses N_gateEarly N_gateLate x1 v3 (lq4 (f_Spread_spreadBy_b22 F N_source N_wireEarly N_wireLate N_senses N_gateEarly N_gateLate x1 v3) n22) v4 X_count_1 X_early_2 X_late_3 = some (z_X_count, z_X_early, z_X_late) := h
        obtain ⟨self22, hs22⟩ : ∃ z, z = lq4 (f_Spread_spreadBy_b22 F N_source N_wireEarly N_wireLate N_senses N_gateEarly N_gateLate x1 v3) n22 := ⟨_, rfl⟩
        rw [← hs22] at h ih22
        rw [f_Spread_spreadBy_b22] at h
        refine lv_iload hx hb d_Spread_spreadBy_22 (lv_at hl 3 rfl) ?_
        refine zv_iconst hx hb d_Spread_spreadBy_24 ?_
        obtain ⟨hg0, h⟩ := gr_e h
        refine zc_ge hx hb d_Spread_spreadBy_25 rfl hg0 (by decide) (fun hc => ?_) (fun hc => ?_)
        · replace h := if_t hc h
          obtain ⟨e1, e2, e3⟩ := so3 h
          rw [hQ, e1, e2, e3]; rw [hAe] at hD hS; exact W.vret hx hb hr (fun t ht hW => ⟨⟨(), rfl, trivial, by rw [ht]; exact hP, va_K.moved hW.alike hK, hD⟩, hS.F ht⟩) hS.2.2 d_Spread_spreadBy_143
        · replace h := if_f hc h
          refine zv_iconst hx hb d_Spread_spreadBy_28 ?_
          refine lv_aload_n hx hb d_Spread_spreadBy_29 rfl (lv_at hl 0 rfl) ?_
          refine va_get (D := D) (ci := 3) (v := .ref (a 43)) (C := R_Spread) (T := F_Spread) (N := 5) hx hb hT in_Spread hown hK hP 0 rfl rfl 0 (by decide) (hT _ m169) (fun _ h9 => h9) rfl d_Spread_spreadBy_30 ?_
          refine va_get (D := D) (ci := 1) (v := .ref (a 46)) (C := R_Net) (T := F_Net) (N := 15) hx hb hT in_Net hown hK hP 4 rfl rfl 5 (by decide) (hT _ m69) (fun _ h9 => h9) rfl d_Spread_spreadBy_33 ?_
          refine lv_iload_n hx hb d_Spread_spreadBy_36 rfl (lv_at hl 2 rfl) ?_
          obtain ⟨hin, h⟩ := gi_e h
          refine zv_iald hx hb hK hP 5 0 rfl rfl (Nat.le_of_ble_eq_true rfl) hin d_Spread_spreadBy_37 ?_
          refine zv_imul hx hb d_Spread_spreadBy_38 ?_
          refine lv_iload hx hb d_Spread_spreadBy_39 (lv_at hl 3 rfl) ?_
          refine zv_iadd hx hb d_Spread_spreadBy_41 ?_
          refine zv_top (fun v5 hv => ?_)
          replace h := bd_e hv h
          refine lv_istore (lv' := [(5, .int (iI v5)), (0, .ref aX), (1, .int (iI x1)), (3, .int (iI v3)), (4, .int (iI v4))]) hx hb d_Spread_spreadBy_42 hl (by decide) rfl (fun ls hl => ?_)
          refine zv_iconst hx hb d_Spread_spreadBy_44 ?_
          refine lv_istore (lv' := [(6, .int (iI 0)), (5, .int (iI v5)), (0, .ref aX), (1, .int (iI x1)), (3, .int (iI v3)), (4, .int (iI v4))]) hx hb d_Spread_spreadBy_45 hl (by decide) rfl (fun ls hl => ?_)
          have hl47 : ∀ (nf : Nat) (v6 : Int) (X_count_4 : Int → Int) (X_early_5 : Int → Int) (X_late_6 : Int → Int) (H : Heap) (locs : List Loc) (ls : Array Slot), va_P D vwCl [(o_X aX aX_count aX_early aX_late (a 43) (a 40)), (aX_count, .inl (cI, 96, .inl (ia X_count_4))), (aX_early, .inl (cI, 96, .inl (ia X_early_5))), (aX_late, .inl (cI, 96, .inl (ia X_late_6))), (o_N a N_period N_width N_size), ((a 46), .inl (cI, 144, .inl (ia N_source))), ((a 47), .inl (cI, 144, .inl (ia N_wireEarly))), ((a 48), .inl (cI, 144, .inl (ia N_wireLate))), ((a 49), .inl (cI, 144, .inl (ia N_senses))), ((a 50), .inl (cI, 288, .inl (ia N_gateEarly))), ((a 51), .inl (cI, 288, .inl (ia N_gateLate)))] H → va_D A [(o_X aX aX_count aX_early aX_late (a 43) (a 40)), (aX_count, .inl (cI, 96, .inl (ia X_count_4))), (aX_early, .inl (cI, 96, .inl (ia X_early_5))), (aX_late, .inl (cI, 96, .inl (ia X_late_6))), (o_N a N_period N_width N_size), ((a 46), .inl (cI, 144, .inl (ia N_source))), ((a 47), .inl (cI, 144, .inl (ia N_wireEarly))), ((a 48), .inl (cI, 144, .inl (ia N_wireLate))), ((a 49), .inl (cI, 144, .inl (ia N_senses))), ((a 50), .inl (cI, 288, .inl (ia N_gateEarly))), ((a 51), .inl (cI, 288, .inl (ia N_gateLate)))] → va_S A s.heap H locs → lv_has ls 7 [(0, .ref aX), (1, .int (iI x1)), (3, .int (iI v3)), (4, .int (iI v4)), (5, .int (iI v5)), (6, .int (iI v6))] → lq4 (f_Spread_spreadBy_b47 F N_wireEarly N_wireLate N_senses N_gateEarly N_gateLate x1 v3 v4 self22 v5) nf v6 X_count_4 X_early_5 X_late_6 = some (z_X_count, z_X_early, z_X_late) → W p l e (headSpec w_Spread_spreadBy rm_Spread_spreadBy).room s m args below meth c H locs 0 0 Q (F0 m 47 ls []) := by
            intro n47
            induction n47 with
            | zero => intro v6 X_count_4 X_early_5 X_late_6 H locs ls hP hD hS hl h; exact no_some h
            | succ n47 ih47 =>
              intro v6 X_count_4 X_early_5 X_late_6 H locs ls hP hD hS hl h
              replace h : f_Spread_spreadBy_b47 F N_wireEarly N_wireLate N_senses N_gateEarly N_gateLate x1 v3 v4 self22 v5 (lq4 (f_Spread_spreadBy_b47 F N_wireEarly N_wireLate N_senses N_gateEarly N_gateLate x1 v3 v4 self22 v5) n47) v6 X_count_4 X_early_5 X_late_6 = some (z_X_count, z_X_early, z_X_late) := h
              obtain ⟨self47, hs47⟩ : ∃ z, z = lq4 (f_Spread_spreadBy_b47 F N_wireEarly N_wireLate N_senses N_gateEarly N_gateLate x1 v3 v4 self22 v5) n47 := ⟨_, rfl⟩
              rw [← hs47] at h ih47
              rw [f_Spread_spreadBy_b47] at h
              refine lv_iload hx hb d_Spread_spreadBy_47 (lv_at hl 5 rfl) ?_
              refine zv_iconst hx hb d_Spread_spreadBy_49 ?_
              have hj137 : ∀  (H : Heap) (locs : List Loc) (ls : Array Slot), va_P D vwCl [(o_X aX aX_count aX_early aX_late (a 43) (a 40)), (aX_count, .inl (cI, 96, .inl (ia X_count_4))), (aX_early, .inl (cI, 96, .inl (ia X_early_5))), (aX_late, .inl (cI, 96, .inl (ia X_late_6))), (o_N a N_period N_width N_size), ((a 46), .inl (cI, 144, .inl (ia N_source))), ((a 47), .inl (cI, 144, .inl (ia N_wireEarly))), ((a 48), .inl (cI, 144, .inl (ia N_wireLate))), ((a 49), .inl (cI, 144, .inl (ia N_senses))), ((a 50), .inl (cI, 288, .inl (ia N_gateEarly))), ((a 51), .inl (cI, 288, .inl (ia N_gateLate)))] H → va_D A [(o_X aX aX_count aX_early aX_late (a 43) (a 40)), (aX_count, .inl (cI, 96, .inl (ia X_count_4))), (aX_early, .inl (cI, 96, .inl (ia X_early_5))), (aX_late, .inl (cI, 96, .inl (ia X_late_6))), (o_N a N_period N_width N_size), ((a 46), .inl (cI, 144, .inl (ia N_source))), ((a 47), .inl (cI, 144, .inl (ia N_wireEarly))), ((a 48), .inl (cI, 144, .inl (ia N_wireLate))), ((a 49), .inl (cI, 144, .inl (ia N_senses))), ((a 50), .inl (cI, 288, .inl (ia N_gateEarly))), ((a 51), .inl (cI, 288, .inl (ia N_gateLate)))] → va_S A s.heap H locs → lv_has ls 7 [(0, .ref aX), (1, .int (iI x1)), (3, .int (iI v3)), (4, .int (iI v4))] → f_Spread_spreadBy_j137 F v4 self22 X_count_4 X_early_5 X_late_6 = some (z_X_count, z_X_early, z_X_late) → W p l e (headSpec w_Spread_spreadBy rm_Spread_spreadBy).room s m args below meth c H locs 0 0 Q (F0 m 137 ls []) := by
                intro  H locs ls hP hD hS hl h
                rw [f_Spread_spreadBy_j137] at h
                refine lv_iinc (v := iI (v4 + 1)) (k := 3) (lv' := [(4, .int (iI (v4 + 1))), (0, .ref aX), (1, .int (iI x1)), (3, .int (iI v3))]) hx hb d_Spread_spreadBy_137 hl rfl (iI_add _ _) (by decide) rfl (fun ls hl => ?_)
                refine lv_goto hx hb d_Spread_spreadBy_140 rfl ?_
                exact ih22 (v4 + 1) X_count_4 X_early_5 X_late_6 H locs ls hP hD hS (lv_sub hl [1, 2, 3, 0] rfl) h
              obtain ⟨hg0, h⟩ := gr_e h
              refine zc_ge hx hb d_Spread_spreadBy_50 rfl hg0 (by decide) (fun hc => ?_) (fun hc => ?_)
              · replace h := if_t hc h
                exact hj137  H locs ls hP hD hS (lv_sub hl [0, 1, 2, 3] rfl) h
              · replace h := if_f hc h
                refine lv_aload_n hx hb d_Spread_spreadBy_53 rfl (lv_at hl 0 rfl) ?_
                refine va_get (D := D) (ci := 3) (v := .ref aX_count) (C := R_Spread) (T := F_Spread) (N := 5) hx hb hT in_Spread hown hK hP 0 rfl rfl 2 (by decide) (hT _ m171) (fun _ h9 => h9) rfl d_Spread_spreadBy_54 ?_
                refine lv_iload hx hb d_Spread_spreadBy_57 (lv_at hl 4 rfl) ?_
                obtain ⟨hin, h⟩ := gi_e h
                refine zv_iald hx hb hK hP 1 0 rfl rfl (Nat.le_of_ble_eq_true rfl) hin d_Spread_spreadBy_59 ?_
                obtain ⟨hg0, h⟩ := gr_e h
                refine zi_le hx hb d_Spread_spreadBy_60 rfl hg0 (fun hc => ?_) (fun hc => ?_)
                · replace h := if_t hc h
                  exact hj137  H locs ls hP hD hS (lv_sub hl [0, 1, 2, 3] rfl) h
                · replace h := if_f hc h
                  refine lv_aload_n hx hb d_Spread_spreadBy_63 rfl (lv_at hl 0 rfl) ?_
                  refine va_get (D := D) (ci := 3) (v := .ref (a 43)) (C := R_Spread) (T := F_Spread) (N := 5) hx hb hT in_Spread hown hK hP 0 rfl rfl 0 (by decide) (hT _ m169) (fun _ h9 => h9) rfl d_Spread_spreadBy_64 ?_
                  refine lv_iload_n hx hb d_Spread_spreadBy_67 rfl (lv_at hl 2 rfl) ?_
                  refine lv_iload hx hb d_Spread_spreadBy_68 (lv_at hl 3 rfl) ?_
                  refine lv_iload hx hb d_Spread_spreadBy_70 (lv_at hl 5 rfl) ?_
                  obtain ⟨r72, hcall, h⟩ := ob1_e h
                  refine ro_i (va_Run.run (va_runV (As := [.int (iI v3), .int (iI v4), .int (iI v6)]) (rest := []) ⟨hx, hb, hml, hown, hts⟩ (c_Net_lets l D cI cJ cZ F a N_period N_width N_size N_senses v3 v4 v6 r72 H.size hcall) (cwV 3 hts (gd_V m509 m506 m507 m508 m2) rfl rfl rfl ⟨rfl, hc_Net_lets⟩ ⟨Nat.le_of_ble_eq_true rfl, Nat.le_of_ble_eq_true rfl⟩) (pc_V 4 1 [.int (iI v3), .int (iI v4), .int (iI v6)] hP hK hD hN [4, 8] rfl rfl rfl rfl rfl) rfl rfl hl.1 rfl (lv_room (Nat.le_of_ble_eq_true rfl)) d_Spread_spreadBy_72 ⟨Nat.le_refl 0, Nat.le_refl 0⟩)) (W.eq (g2 := F0 m 75 ls [.int (iI r72)]) rfl ?_)
                  have hj131 : ∀ (X_count_7 : Int → Int) (X_early_8 : Int → Int) (X_late_9 : Int → Int) (H : Heap) (locs : List Loc) (ls : Array Slot), va_P D vwCl [(o_X aX aX_count aX_early aX_late (a 43) (a 40)), (aX_count, .inl (cI, 96, .inl (ia X_count_7))), (aX_early, .inl (cI, 96, .inl (ia X_early_8))), (aX_late, .inl (cI, 96, .inl (ia X_late_9))), (o_N a N_period N_width N_size), ((a 46), .inl (cI, 144, .inl (ia N_source))), ((a 47), .inl (cI, 144, .inl (ia N_wireEarly))), ((a 48), .inl (cI, 144, .inl (ia N_wireLate))), ((a 49), .inl (cI, 144, .inl (ia N_senses))), ((a 50), .inl (cI, 288, .inl (ia N_gateEarly))), ((a 51), .inl (cI, 288, .inl (ia N_gateLate)))] H → va_D A [(o_X aX aX_count aX_early aX_late (a 43) (a 40)), (aX_count, .inl (cI, 96, .inl (ia X_count_7))), (aX_early, .inl (cI, 96, .inl (ia X_early_8))), (aX_late, .inl (cI, 96, .inl (ia X_late_9))), (o_N a N_period N_width N_size), ((a 46), .inl (cI, 144, .inl (ia N_source))), ((a 47), .inl (cI, 144, .inl (ia N_wireEarly))), ((a 48), .inl (cI, 144, .inl (ia N_wireLate))), ((a 49), .inl (cI, 144, .inl (ia N_senses))), ((a 50), .inl (cI, 288, .inl (ia N_gateEarly))), ((a 51), .inl (cI, 288, .inl (ia N_gateLate)))] → va_S A s.heap H locs → lv_has ls 7 [(0, .ref aX), (1, .int (iI x1)), (3, .int (iI v3)), (4, .int (iI v4)), (5, .int (iI v5)), (6, .int (iI v6))] → f_Spread_spreadBy_j131 F v6 self47 X_count_7 X_early_8 X_late_9 = some (z_X_count, z_X_early, z_X_late) → W p l e (headSpec w_Spread_spreadBy rm_Spread_spreadBy).room s m args below meth c H locs 0 0 Q (F0 m 131 ls []) := by
                    intro X_count_7 X_early_8 X_late_9 H locs ls hP hD hS hl h
                    rw [f_Spread_spreadBy_j131] at h
                    refine lv_iinc (v := iI (v6 + 1)) (k := 5) (lv' := [(6, .int (iI (v6 + 1))), (0, .ref aX), (1, .int (iI x1)), (3, .int (iI v3)), (4, .int (iI v4)), (5, .int (iI v5))]) hx hb d_Spread_spreadBy_131 hl rfl (iI_add _ _) (by decide) rfl (fun ls hl => ?_)
                    refine lv_goto hx hb d_Spread_spreadBy_134 rfl ?_
                    exact ih47 (v6 + 1) X_count_7 X_early_8 X_late_9 H locs ls hP hD hS (lv_sub hl [1, 2, 3, 4, 5, 0] rfl) h
                  obtain ⟨hg0, h⟩ := gr_e h
                  refine zi_eq hx hb d_Spread_spreadBy_75 rfl hg0 (fun hc => ?_) (fun hc => ?_)
                  · replace h := if_t hc h
                    exact hj131 X_count_4 X_early_5 X_late_6 H locs ls hP hD hS (lv_sub hl [0, 1, 2, 3, 4, 5] rfl) h
                  · replace h := if_f hc h
                    refine lv_aload_n hx hb d_Spread_spreadBy_78 rfl (lv_at hl 0 rfl) ?_
                    refine zv_iconst hx hb d_Spread_spreadBy_79 ?_
                    refine lv_iload_n hx hb d_Spread_spreadBy_80 rfl (lv_at hl 1 rfl) ?_
                    refine zv_imul hx hb d_Spread_spreadBy_81 ?_
                    refine lv_iload hx hb d_Spread_spreadBy_82 (lv_at hl 5 rfl) ?_
                    refine zv_iadd hx hb d_Spread_spreadBy_84 ?_
                    refine lv_aload_n hx hb d_Spread_spreadBy_85 rfl (lv_at hl 0 rfl) ?_
                    refine va_get (D := D) (ci := 3) (v := .ref aX_count) (C := R_Spread) (T := F_Spread) (N := 5) hx hb hT in_Spread hown hK hP 0 rfl rfl 2 (by decide) (hT _ m171) (fun _ h9 => h9) rfl d_Spread_spreadBy_86 ?_
                    refine lv_iload hx hb d_Spread_spreadBy_89 (lv_at hl 4 rfl) ?_
                    obtain ⟨hin, h⟩ := gi_e h
                    refine zv_iald hx hb hK hP 1 0 rfl rfl (Nat.le_of_ble_eq_true rfl) hin d_Spread_spreadBy_91 ?_
                    refine lv_aload_n hx hb d_Spread_spreadBy_92 rfl (lv_at hl 0 rfl) ?_
                    refine va_get (D := D) (ci := 3) (v := .ref aX_early) (C := R_Spread) (T := F_Spread) (N := 5) hx hb hT in_Spread hown hK hP 0 rfl rfl 3 (by decide) (hT _ m176) (fun _ h9 => h9) rfl d_Spread_spreadBy_93 ?_
                    refine lv_iload hx hb d_Spread_spreadBy_96 (lv_at hl 4 rfl) ?_
                    obtain ⟨hin, h⟩ := gi_e h
                    refine zv_iald hx hb hK hP 2 0 rfl rfl (Nat.le_of_ble_eq_true rfl) hin d_Spread_spreadBy_98 ?_
                    refine lv_aload_n hx hb d_Spread_spreadBy_99 rfl (lv_at hl 0 rfl) ?_
                    refine va_get (D := D) (ci := 3) (v := .ref (a 43)) (C := R_Spread) (T := F_Spread) (N := 5) hx hb hT in_Spread hown hK hP 0 rfl rfl 0 (by decide) (hT _ m169) (fun _ h9 => h9) rfl d_Spread_spreadBy_100 ?_
                    refine lv_iload_n hx hb d_Spread_spreadBy_103 rfl (lv_at hl 2 rfl) ?_
                    refine lv_iload hx hb d_Spread_spreadBy_104 (lv_at hl 5 rfl) ?_
                    obtain ⟨r106, hcall, h⟩ := ob1_e h
                    refine ro_i (va_Run.run (va_runV (As := [.int (iI v3), .int (iI v6)]) (rest := [.int (iI (X_early_5 v5)), .int (iI (X_count_4 v5)), .int (iI ((2 * x1) + v6)), .ref aX]) ⟨hx, hb, hml, hown, hts⟩ (c_Net_stepEarly l D cI cJ cZ F a N_period N_width N_size N_wireEarly N_gateEarly v3 v6 r106 H.size hcall) (cwV 2 hts (gd_V m513 m510 m511 m512 m2) rfl rfl rfl ⟨rfl, hc_Net_stepEarly⟩ ⟨Nat.le_of_ble_eq_true rfl, Nat.le_of_ble_eq_true rfl⟩) (pc_V 4 1 [.int (iI v3), .int (iI v6)] hP hK hD hN [4, 6, 9] rfl rfl rfl rfl rfl) rfl rfl hl.1 rfl (lv_room (Nat.le_of_ble_eq_true rfl)) d_Spread_spreadBy_106 ⟨Nat.le_refl 0, Nat.le_refl 0⟩)) (W.eq (g2 := F0 m 109 ls [.int (iI r106), .int (iI (X_early_5 v5)), .int (iI (X_count_4 v5)), .int (iI ((2 * x1) + v6)), .ref aX]) rfl ?_)
                    refine zv_iadd hx hb d_Spread_spreadBy_109 ?_
                    refine lv_aload_n hx hb d_Spread_spreadBy_110 rfl (lv_at hl 0 rfl) ?_
                    refine va_get (D := D) (ci := 3) (v := .ref aX_late) (C := R_Spread) (T := F_Spread) (N := 5) hx hb hT in_Spread hown hK hP 0 rfl rfl 4 (by decide) (hT _ m179) (fun _ h9 => h9) rfl d_Spread_spreadBy_111 ?_
                    refine lv_iload hx hb d_Spread_spreadBy_114 (lv_at hl 4 rfl) ?_
                    obtain ⟨hin, h⟩ := gi_e h
                    refine zv_iald hx hb hK hP 3 0 rfl rfl (Nat.le_of_ble_eq_true rfl) hin d_Spread_spreadBy_116 ?_
                    refine lv_aload_n hx hb d_Spread_spreadBy_117 rfl (lv_at hl 0 rfl) ?_
                    refine va_get (D := D) (ci := 3) (v := .ref (a 43)) (C := R_Spread) (T := F_Spread) (N := 5) hx hb hT in_Spread hown hK hP 0 rfl rfl 0 (by decide) (hT _ m169) (fun _ h9 => h9) rfl d_Spread_spreadBy_118 ?_
                    refine lv_iload_n hx hb d_Spread_spreadBy_121 rfl (lv_at hl 2 rfl) ?_
                    refine lv_iload hx hb d_Spread_spreadBy_122 (lv_at hl 5 rfl) ?_
                    obtain ⟨r124, hcall, h⟩ := ob1_e h
                    refine ro_i (va_Run.run (va_runV (As := [.int (iI v3), .int (iI v6)]) (rest := [.int (iI (X_late_6 v5)), .int (iI ((X_early_5 v5) + r106)), .int (iI (X_count_4 v5)), .int (iI ((2 * x1) + v6)), .ref aX]) ⟨hx, hb, hml, hown, hts⟩ (c_Net_stepLate l D cI cJ cZ F a N_period N_width N_size N_wireLate N_gateLate v3 v6 r124 H.size hcall) (cwV 2 hts (gd_V m517 m514 m515 m516 m2) rfl rfl rfl ⟨rfl, hc_Net_stepLate⟩ ⟨Nat.le_of_ble_eq_true rfl, Nat.le_of_ble_eq_true rfl⟩) (pc_V 4 1 [.int (iI v3), .int (iI v6)] hP hK hD hN [4, 7, 10] rfl rfl rfl rfl rfl) rfl rfl hl.1 rfl (lv_room (Nat.le_of_ble_eq_true rfl)) d_Spread_spreadBy_124 ⟨Nat.le_refl 0, Nat.le_refl 0⟩)) (W.eq (g2 := F0 m 127 ls [.int (iI r124), .int (iI (X_late_6 v5)), .int (iI ((X_early_5 v5) + r106)), .int (iI (X_count_4 v5)), .int (iI ((2 * x1) + v6)), .ref aX]) rfl ?_)
                    refine zv_iadd hx hb d_Spread_spreadBy_127 ?_
                    obtain ⟨X_count_10, X_early_11, X_late_12, hcall, h⟩ := ob3_e h
                    refine ca_v (w2 := [(o_X aX aX_count aX_early aX_late (a 43) (a 40)), (aX_count, .inl (cI, 96, .inl (ia X_count_10))), (aX_early, .inl (cI, 96, .inl (ia X_early_11))), (aX_late, .inl (cI, 96, .inl (ia X_late_12))), (o_N a N_period N_width N_size), ((a 46), .inl (cI, 144, .inl (ia N_source))), ((a 47), .inl (cI, 144, .inl (ia N_wireEarly))), ((a 48), .inl (cI, 144, .inl (ia N_wireLate))), ((a 49), .inl (cI, 144, .inl (ia N_senses))), ((a 50), .inl (cI, 288, .inl (ia N_gateEarly))), ((a 51), .inl (cI, 288, .inl (ia N_gateLate)))]) (va_runV (As := [.int (iI ((2 * x1) + v6)), .int (iI (X_count_4 v5)), .int (iI ((X_early_5 v5) + r106)), .int (iI ((X_late_6 v5) + r124))]) (rest := []) ⟨hx, hb, hml, hown, hts⟩ (c_Spread_join l D cI cJ cZ F a aX aX_count aX_early aX_late X_count_4 X_early_5 X_late_6 ((2 * x1) + v6) (X_count_4 v5) ((X_early_5 v5) + r106) ((X_late_6 v5) + r124) X_count_10 X_early_11 X_late_12 H.size hcall) (cwV 4 hts (gd_V m494 m518 m492 m493 m6) rfl rfl rfl ⟨rfl, hc_Spread_join⟩ ⟨Nat.le_of_ble_eq_true rfl, Nat.le_of_ble_eq_true rfl⟩) (pc_V 0 3 [.int (iI ((2 * x1) + v6)), .int (iI (X_count_4 v5)), .int (iI ((X_early_5 v5) + r106)), .int (iI ((X_late_6 v5) + r124))] hP hK hD hN [0, 1, 2, 3] rfl rfl rfl rfl rfl) rfl rfl hl.1 rfl (lv_room (Nat.le_of_ble_eq_true rfl)) d_Spread_spreadBy_128 ⟨Nat.le_refl 0, Nat.le_refl 0⟩) hP hD hS hA [0, 1, 2, 3] [4, 5, 6, 7, 8, 9, 10] [7, 8, 9, 10, 0, 1, 2, 3, 4, 5, 6] rfl rfl rfl (by decide) rfl rfl rfl (fun H locs hP hD hS => ?_)
                    exact hj131 X_count_10 X_early_11 X_late_12 H locs ls hP hD hS (lv_sub hl [0, 1, 2, 3, 4, 5] rfl) h
          exact hl47 F 0 X_count_1 X_early_2 X_late_3 H locs ls hP hD hS (lv_sub hl [2, 3, 4, 5, 1, 0] rfl) h
    exact hl22 F 0 X_count X_early X_late H locs ls hP hD hS (lv_sub hl [2, 3, 1, 0] rfl) h
  · replace h := if_f hc h
    obtain ⟨e1, e2, e3⟩ := so3 h
    rw [hQ, e1, e2, e3]; rw [hAe] at hD hS; exact W.vret hx hb hr (fun t ht hW => ⟨⟨(), rfl, trivial, by rw [ht]; exact hP, va_K.moved hW.alike hK, hD⟩, hS.F ht⟩) hS.2.2 d_Spread_spreadBy_18
abbrev rm_Spread_spread : Room := { frames := 3, cells := 0, slots := 0, locals := 75 }
set_option maxHeartbeats 4000000 in
set_option maxRecDepth 100000 in
theorem c_Spread_spread (l : Launch) (D : va_G) (cI cJ cZ : ClassId) (F : Nat) (a : Nat → Nat) (aX aX_count aX_early aX_late : Nat) (X_count : Int → Int) (X_early : Int → Int) (X_late : Int → Int) (O_count : Int) (O_gates : Int → Int) (N_period : Int) (N_width : Int) (N_size : Int) (N_pins : Int → Int) (N_source : Int → Int) (N_wireEarly : Int → Int) (N_wireLate : Int → Int) (N_senses : Int → Int) (N_gateEarly : Int → Int) (N_gateLate : Int → Int) (z_X_count : Int → Int) (z_X_early : Int → Int) (z_X_late : Int → Int) (sz : Nat) (h : f_Spread_spread F X_count X_early X_late O_count O_gates N_pins N_source N_wireEarly N_wireLate N_senses N_gateEarly N_gateLate = some (z_X_count, z_X_early, z_X_late)) : Met l y_Spread_spread w_Spread_spread rm_Spread_spread (PC D [(cI, .int), (cJ, .long), (cZ, .boolean)] [.ref aX] ([(o_X aX aX_count aX_early aX_late (a 43) (a 40)), (aX_count, .inl (cI, 96, .inl (ia X_count))), (aX_early, .inl (cI, 96, .inl (ia X_early))), (aX_late, .inl (cI, 96, .inl (ia X_late))), (o_O a O_count), ((a 42), .inl (cI, 48, .inl (ia O_gates))), (o_N a N_period N_width N_size), ((a 45), .inl (cI, 48, .inl (ia N_pins))), ((a 46), .inl (cI, 144, .inl (ia N_source))), ((a 47), .inl (cI, 144, .inl (ia N_wireEarly))), ((a 48), .inl (cI, 144, .inl (ia N_wireLate))), ((a 49), .inl (cI, 144, .inl (ia N_senses))), ((a 50), .inl (cI, 288, .inl (ia N_gateEarly))), ((a 51), .inl (cI, 288, .inl (ia N_gateLate)))]) sz) (QV D [(cI, .int), (cJ, .long), (cZ, .boolean)] ([(o_X aX aX_count aX_early aX_late (a 43) (a 40)), (aX_count, .inl (cI, 96, .inl (ia X_count))), (aX_early, .inl (cI, 96, .inl (ia X_early))), (aX_late, .inl (cI, 96, .inl (ia X_late))), (o_O a O_count), ((a 42), .inl (cI, 48, .inl (ia O_gates))), (o_N a N_period N_width N_size), ((a 45), .inl (cI, 48, .inl (ia N_pins))), ((a 46), .inl (cI, 144, .inl (ia N_source))), ((a 47), .inl (cI, 144, .inl (ia N_wireEarly))), ((a 48), .inl (cI, 144, .inl (ia N_wireLate))), ((a 49), .inl (cI, 144, .inl (ia N_senses))), ((a 50), .inl (cI, 288, .inl (ia N_gateEarly))), ((a 51), .inl (cI, 288, .inl (ia N_gateLate)))]) sz ([(o_X aX aX_count aX_early aX_late (a 43) (a 40)), (aX_count, .inl (cI, 96, .inl (ia z_X_count))), (aX_early, .inl (cI, 96, .inl (ia z_X_early))), (aX_late, .inl (cI, 96, .inl (ia z_X_late))), (o_O a O_count), ((a 42), .inl (cI, 48, .inl (ia O_gates))), (o_N a N_period N_width N_size), ((a 45), .inl (cI, 48, .inl (ia N_pins))), ((a 46), .inl (cI, 144, .inl (ia N_source))), ((a 47), .inl (cI, 144, .inl (ia N_wireEarly))), ((a 48), .inl (cI, 144, .inl (ia N_wireLate))), ((a 49), .inl (cI, 144, .inl (ia N_senses))), ((a 50), .inl (cI, 288, .inl (ia N_gateEarly))), ((a 51), .inl (cI, 288, .inl (ia N_gateLate)))])) 0 0 (va_A ([(o_X aX aX_count aX_early aX_late (a 43) (a 40)), (aX_count, .inl (cI, 96, .inl (ia X_count))), (aX_early, .inl (cI, 96, .inl (ia X_early))), (aX_late, .inl (cI, 96, .inl (ia X_late))), (o_O a O_count), ((a 42), .inl (cI, 48, .inl (ia O_gates))), (o_N a N_period N_width N_size), ((a 45), .inl (cI, 48, .inl (ia N_pins))), ((a 46), .inl (cI, 144, .inl (ia N_source))), ((a 47), .inl (cI, 144, .inl (ia N_wireEarly))), ((a 48), .inl (cI, 144, .inl (ia N_wireLate))), ((a 49), .inl (cI, 144, .inl (ia N_senses))), ((a 50), .inl (cI, 288, .inl (ia N_gateEarly))), ((a 51), .inl (cI, 288, .inl (ia N_gateLate)))]) sz) := by
  refine Met.ofW (cc := prog_9_method_5_code) (maxL := 4) (ret := (Option.none : Option Jvm.ClassFile.FieldType)) (by decide) rfl ?_
  intro p e s m args below meth c s₁ B hml hv
  obtain ⟨rfl, hsz, hP, hK, hD0, hN⟩ := hv
  have hx := B.exec
  have hb := B.bytes
  have hr := B.returns
  have hts := atoms_spec (ws := w_Spread_spread) B.pre
  have hown : s.vm.findClass R_Spread = some m.cls := findClass_of_methodNamed B.named
  have hlocks := B.notSynchronized
  subst hsz
  have hD := hD0.self (sz := s.heap.size)
  obtain ⟨A, hAe⟩ : ∃ A, A = va_A ([(o_X aX aX_count aX_early aX_late (a 43) (a 40)), (aX_count, .inl (cI, 96, .inl (ia X_count))), (aX_early, .inl (cI, 96, .inl (ia X_early))), (aX_late, .inl (cI, 96, .inl (ia X_late))), (o_O a O_count), ((a 42), .inl (cI, 48, .inl (ia O_gates))), (o_N a N_period N_width N_size), ((a 45), .inl (cI, 48, .inl (ia N_pins))), ((a 46), .inl (cI, 144, .inl (ia N_source))), ((a 47), .inl (cI, 144, .inl (ia N_wireEarly))), ((a 48), .inl (cI, 144, .inl (ia N_wireLate))), ((a 49), .inl (cI, 144, .inl (ia N_senses))), ((a 50), .inl (cI, 288, .inl (ia N_gateEarly))), ((a 51), .inl (cI, 288, .inl (ia N_gateLate)))]) s.heap.size := ⟨_, rfl⟩
  rw [← hAe] at hD
  have hA : ∀ q : Nat, s.heap.size ≤ q → A q := fun q h => by rw [hAe]; exact Or.inr h
  have hS : va_S A s.heap s.heap [] := va_S.rf
  have hl := lv_entry ([.ref aX]) (n := 4) (Nat.le_of_ble_eq_true rfl)
  rw [lg_entry_eq]
  generalize (lg_sl ([.ref aX]) ++ List.replicate (4 - (lg_sl ([.ref aX])).length) Slot.unset).toArray = ls at hl ⊢
  have hl : lv_has ls 4 [(0, .ref aX)] := hl
  generalize (List.toArray ([.ref aX] : List Value)) = args at hts ⊢
  have hT : ∀ w ∈ Tg, w.before args s = true := fun w h => hts w (List.mem_cons_of_mem _ h)
  obtain ⟨Q, hQ⟩ : ∃ Q, Q = MQ below (QV D [(cI, .int), (cJ, .long), (cZ, .boolean)] ([(o_X aX aX_count aX_early aX_late (a 43) (a 40)), (aX_count, .inl (cI, 96, .inl (ia X_count))), (aX_early, .inl (cI, 96, .inl (ia X_early))), (aX_late, .inl (cI, 96, .inl (ia X_late))), (o_O a O_count), ((a 42), .inl (cI, 48, .inl (ia O_gates))), (o_N a N_period N_width N_size), ((a 45), .inl (cI, 48, .inl (ia N_pins))), ((a 46), .inl (cI, 144, .inl (ia N_source))), ((a 47), .inl (cI, 144, .inl (ia N_wireEarly))), ((a 48), .inl (cI, 144, .inl (ia N_wireLate))), ((a 49), .inl (cI, 144, .inl (ia N_senses))), ((a 50), .inl (cI, 288, .inl (ia N_gateEarly))), ((a 51), .inl (cI, 288, .inl (ia N_gateLate)))]) s.heap.size ([(o_X aX aX_count aX_early aX_late (a 43) (a 40)), (aX_count, .inl (cI, 96, .inl (ia z_X_count))), (aX_early, .inl (cI, 96, .inl (ia z_X_early))), (aX_late, .inl (cI, 96, .inl (ia z_X_late))), (o_O a O_count), ((a 42), .inl (cI, 48, .inl (ia O_gates))), (o_N a N_period N_width N_size), ((a 45), .inl (cI, 48, .inl (ia N_pins))), ((a 46), .inl (cI, 144, .inl (ia N_source))), ((a 47), .inl (cI, 144, .inl (ia N_wireEarly))), ((a 48), .inl (cI, 144, .inl (ia N_wireLate))), ((a 49), .inl (cI, 144, .inl (ia N_senses))), ((a 50), .inl (cI, 288, .inl (ia N_gateEarly))), ((a 51), .inl (cI, 288, .inl (ia N_gateLate)))])) args s 0 0 (va_A ([(o_X aX aX_count aX_early aX_late (a 43) (a 40)), (aX_count, .inl (cI, 96, .inl (ia X_count))), (aX_early, .inl (cI, 96, .inl (ia X_early))), (aX_late, .inl (cI, 96, .inl (ia X_late))), (o_O a O_count), ((a 42), .inl (cI, 48, .inl (ia O_gates))), (o_N a N_period N_width N_size), ((a 45), .inl (cI, 48, .inl (ia N_pins))), ((a 46), .inl (cI, 144, .inl (ia N_source))), ((a 47), .inl (cI, 144, .inl (ia N_wireEarly))), ((a 48), .inl (cI, 144, .inl (ia N_wireLate))), ((a 49), .inl (cI, 144, .inl (ia N_senses))), ((a 50), .inl (cI, 288, .inl (ia N_gateEarly))), ((a 51), .inl (cI, 288, .inl (ia N_gateLate)))]) s.heap.size) := ⟨_, rfl⟩
  rw [← hQ]
  suffices hW : ∀ (H : Heap) (locs : List Loc), va_P D vwCl ([(o_X aX aX_count aX_early aX_late (a 43) (a 40)), (aX_count, .inl (cI, 96, .inl (ia X_count))), (aX_early, .inl (cI, 96, .inl (ia X_early))), (aX_late, .inl (cI, 96, .inl (ia X_late))), (o_O a O_count), ((a 42), .inl (cI, 48, .inl (ia O_gates))), (o_N a N_period N_width N_size), ((a 45), .inl (cI, 48, .inl (ia N_pins))), ((a 46), .inl (cI, 144, .inl (ia N_source))), ((a 47), .inl (cI, 144, .inl (ia N_wireEarly))), ((a 48), .inl (cI, 144, .inl (ia N_wireLate))), ((a 49), .inl (cI, 144, .inl (ia N_senses))), ((a 50), .inl (cI, 288, .inl (ia N_gateEarly))), ((a 51), .inl (cI, 288, .inl (ia N_gateLate)))]) H → va_D A ([(o_X aX aX_count aX_early aX_late (a 43) (a 40)), (aX_count, .inl (cI, 96, .inl (ia X_count))), (aX_early, .inl (cI, 96, .inl (ia X_early))), (aX_late, .inl (cI, 96, .inl (ia X_late))), (o_O a O_count), ((a 42), .inl (cI, 48, .inl (ia O_gates))), (o_N a N_period N_width N_size), ((a 45), .inl (cI, 48, .inl (ia N_pins))), ((a 46), .inl (cI, 144, .inl (ia N_source))), ((a 47), .inl (cI, 144, .inl (ia N_wireEarly))), ((a 48), .inl (cI, 144, .inl (ia N_wireLate))), ((a 49), .inl (cI, 144, .inl (ia N_senses))), ((a 50), .inl (cI, 288, .inl (ia N_gateEarly))), ((a 51), .inl (cI, 288, .inl (ia N_gateLate)))]) → va_S A s.heap H locs → W p l e (headSpec w_Spread_spread rm_Spread_spread).room s m args below meth c H locs 0 0 Q (F0 m 0 ls []) from hW s.heap [] hP hD hS
  clear hP hD hS
  intro H locs hP hD hS
  rw [f_Spread_spread] at h
  refine zv_iconst hx hb d_Spread_spread_0 ?_
  refine lv_istore_n (lv' := [(1, .int (iI 0)), (0, .ref aX)]) hx hb d_Spread_spread_1 rfl hl (by decide) rfl (fun ls hl => ?_)
  have hl2 : ∀ (nf : Nat) (v1 : Int) (X_count_1 : Int → Int) (X_early_2 : Int → Int) (X_late_3 : Int → Int) (H : Heap) (locs : List Loc) (ls : Array Slot), va_P D vwCl [(o_X aX aX_count aX_early aX_late (a 43) (a 40)), (aX_count, .inl (cI, 96, .inl (ia X_count_1))), (aX_early, .inl (cI, 96, .inl (ia X_early_2))), (aX_late, .inl (cI, 96, .inl (ia X_late_3))), (o_O a O_count), ((a 42), .inl (cI, 48, .inl (ia O_gates))), (o_N a N_period N_width N_size), ((a 45), .inl (cI, 48, .inl (ia N_pins))), ((a 46), .inl (cI, 144, .inl (ia N_source))), ((a 47), .inl (cI, 144, .inl (ia N_wireEarly))), ((a 48), .inl (cI, 144, .inl (ia N_wireLate))), ((a 49), .inl (cI, 144, .inl (ia N_senses))), ((a 50), .inl (cI, 288, .inl (ia N_gateEarly))), ((a 51), .inl (cI, 288, .inl (ia N_gateLate)))] H → va_D A [(o_X aX aX_count aX_early aX_late (a 43) (a 40)), (aX_count, .inl (cI, 96, .inl (ia X_count_1))), (aX_early, .inl (cI, 96, .inl (ia X_early_2))), (aX_late, .inl (cI, 96, .inl (ia X_late_3))), (o_O a O_count), ((a 42), .inl (cI, 48, .inl (ia O_gates))), (o_N a N_period N_width N_size), ((a 45), .inl (cI, 48, .inl (ia N_pins))), ((a 46), .inl (cI, 144, .inl (ia N_source))), ((a 47), .inl (cI, 144, .inl (ia N_wireEarly))), ((a 48), .inl (cI, 144, .inl (ia N_wireLate))), ((a 49), .inl (cI, 144, .inl (ia N_senses))), ((a 50), .inl (cI, 288, .inl (ia N_gateEarly))), ((a 51), .inl (cI, 288, .inl (ia N_gateLate)))] → va_S A s.heap H locs → lv_has ls 4 [(0, .ref aX), (1, .int (iI v1))] → lq4 (f_Spread_spread_b2 F O_count O_gates N_pins N_source N_wireEarly N_wireLate N_senses N_gateEarly N_gateLate) nf v1 X_count_1 X_early_2 X_late_3 = some (z_X_count, z_X_early, z_X_late) → W p l e (headSpec w_Spread_spread rm_Spread_spread).room s m args below meth c H locs 0 0 Q (F0 m 2 ls []) := by
    intro n2
    induction n2 with
    | zero => intro v1 X_count_1 X_early_2 X_late_3 H locs ls hP hD hS hl h; exact no_some h
    | succ n2 ih2 =>
      intro v1 X_count_1 X_early_2 X_late_3 H locs ls hP hD hS hl h
      replace h : f_Spread_spread_b2 F O_count O_gates N_pins N_source N_wireEarly N_wireLate N_senses N_gateEarly N_gateLate (lq4 (f_Spread_spread_b2 F O_count O_gates N_pins N_source N_wireEarly N_wireLate N_senses N_gateEarly N_gateLate) n2) v1 X_count_1 X_early_2 X_late_3 = some (z_X_count, z_X_early, z_X_late) := h
      obtain ⟨self2, hs2⟩ : ∃ z, z = lq4 (f_Spread_spread_b2 F O_count O_gates N_pins N_source N_wireEarly N_wireLate N_senses N_gateEarly N_gateLate) n2 := ⟨_, rfl⟩
      rw [← hs2] at h ih2
      rw [f_Spread_spread_b2] at h
      refine lv_iload_n hx hb d_Spread_spread_2 rfl (lv_at hl 1 rfl) ?_
      refine lv_aload_n hx hb d_Spread_spread_3 rfl (lv_at hl 0 rfl) ?_
      refine va_get (D := D) (ci := 3) (v := .ref (a 40)) (C := R_Spread) (T := F_Spread) (N := 5) hx hb hT in_Spread hown hK hP 0 rfl rfl 1 (by decide) (hT _ m170) (fun _ h9 => h9) rfl d_Spread_spread_4 ?_
      refine va_get (D := D) (ci := 2) (v := .int (iI O_count)) (C := R_GateOrder) (T := F_GateOrder) (N := 4) hx hb hT in_GateOrder hown hK hP 4 rfl rfl 3 (by decide) (hT _ m145) (fun _ h9 => h9) rfl d_Spread_spread_7 ?_
      obtain ⟨hg0, h⟩ := gr_e h
      obtain ⟨hg1, h⟩ := gr_e h
      refine zc_ge hx hb d_Spread_spread_10 rfl hg0 hg1 (fun hc => ?_) (fun hc => ?_)
      · replace h := if_t hc h
        obtain ⟨e1, e2, e3⟩ := so3 h
        rw [hQ, e1, e2, e3]; rw [hAe] at hD hS; exact W.vret hx hb hr (fun t ht hW => ⟨⟨(), rfl, trivial, by rw [ht]; exact hP, va_K.moved hW.alike hK, hD⟩, hS.F ht⟩) hS.2.2 d_Spread_spread_56
      · replace h := if_f hc h
        refine lv_aload_n hx hb d_Spread_spread_13 rfl (lv_at hl 0 rfl) ?_
        refine va_get (D := D) (ci := 3) (v := .ref (a 40)) (C := R_Spread) (T := F_Spread) (N := 5) hx hb hT in_Spread hown hK hP 0 rfl rfl 1 (by decide) (hT _ m170) (fun _ h9 => h9) rfl d_Spread_spread_14 ?_
        refine va_get (D := D) (ci := 2) (v := .ref (a 42)) (C := R_GateOrder) (T := F_GateOrder) (N := 4) hx hb hT in_GateOrder hown hK hP 4 rfl rfl 2 (by decide) (hT _ m142) (fun _ h9 => h9) rfl d_Spread_spread_17 ?_
        refine lv_iload_n hx hb d_Spread_spread_20 rfl (lv_at hl 1 rfl) ?_
        obtain ⟨hin, h⟩ := gi_e h
        refine zv_iald hx hb hK hP 5 0 rfl rfl (Nat.le_of_ble_eq_true rfl) hin d_Spread_spread_21 ?_
        refine zv_top (fun v2 hv => ?_)
        replace h := bd_e hv h
        refine lv_istore_n (lv' := [(2, .int (iI v2)), (0, .ref aX), (1, .int (iI v1))]) hx hb d_Spread_spread_22 rfl hl (by decide) rfl (fun ls hl => ?_)
        refine zv_iconst hx hb d_Spread_spread_23 ?_
        refine lv_istore_n (lv' := [(3, .int (iI 0)), (2, .int (iI v2)), (0, .ref aX), (1, .int (iI v1))]) hx hb d_Spread_spread_24 rfl hl (by decide) rfl (fun ls hl => ?_)
        have hl25 : ∀ (nf : Nat) (v3 : Int) (X_count_4 : Int → Int) (X_early_5 : Int → Int) (X_late_6 : Int → Int) (H : Heap) (locs : List Loc) (ls : Array Slot), va_P D vwCl [(o_X aX aX_count aX_early aX_late (a 43) (a 40)), (aX_count, .inl (cI, 96, .inl (ia X_count_4))), (aX_early, .inl (cI, 96, .inl (ia X_early_5))), (aX_late, .inl (cI, 96, .inl (ia X_late_6))), (o_O a O_count), ((a 42), .inl (cI, 48, .inl (ia O_gates))), (o_N a N_period N_width N_size), ((a 45), .inl (cI, 48, .inl (ia N_pins))), ((a 46), .inl (cI, 144, .inl (ia N_source))), ((a 47), .inl (cI, 144, .inl (ia N_wireEarly))), ((a 48), .inl (cI, 144, .inl (ia N_wireLate))), ((a 49), .inl (cI, 144, .inl (ia N_senses))), ((a 50), .inl (cI, 288, .inl (ia N_gateEarly))), ((a 51), .inl (cI, 288, .inl (ia N_gateLate)))] H → va_D A [(o_X aX aX_count aX_early aX_late (a 43) (a 40)), (aX_count, .inl (cI, 96, .inl (ia X_count_4))), (aX_early, .inl (cI, 96, .inl (ia X_early_5))), (aX_late, .inl (cI, 96, .inl (ia X_late_6))), (o_O a O_count), ((a 42), .inl (cI, 48, .inl (ia O_gates))), (o_N a N_period N_width N_size), ((a 45), .inl (cI, 48, .inl (ia N_pins))), ((a 46), .inl (cI, 144, .inl (ia N_source))), ((a 47), .inl (cI, 144, .inl (ia N_wireEarly))), ((a 48), .inl (cI, 144, .inl (ia N_wireLate))), ((a 49), .inl (cI, 144, .inl (ia N_senses))), ((a 50), .inl (cI, 288, .inl (ia N_gateEarly))), ((a 51), .inl (cI, 288, .inl (ia N_gateLate)))] → va_S A s.heap H locs → lv_has ls 4 [(0, .ref aX), (1, .int (iI v1)), (2, .int (iI v2)), (3, .int (iI v3))] → lq4 (f_Spread_spread_b25 F N_pins N_source N_wireEarly N_wireLate N_senses N_gateEarly N_gateLate v1 self2 v2) nf v3 X_count_4 X_early_5 X_late_6 = some (z_X_count, z_X_early, z_X_late) → W p l e (headSpec w_Spread_spread rm_Spread_spread).room s m args below meth c H locs 0 0 Q (F0 m 25 ls []) := by
          intro n25
          induction n25 with
          | zero => intro v3 X_count_4 X_early_5 X_late_6 H locs ls hP hD hS hl h; exact no_some h
          | succ n25 ih25 =>
            intro v3 X_count_4 X_early_5 X_late_6 H locs ls hP hD hS hl h
            replace h : f_Spread_spread_b25 F N_pins N_source N_wireEarly N_wireLate N_senses N_gateEarly N_gateLate v1 self2 v2 (lq4 (f_Spread_spread_b25 F N_pins N_source N_wireEarly N_wireLate N_senses N_gateEarly N_gateLate v1 self2 v2) n25) v3 X_count_4 X_early_5 X_late_6 = some (z_X_count, z_X_early, z_X_late) := h
            obtain ⟨self25, hs25⟩ : ∃ z, z = lq4 (f_Spread_spread_b25 F N_pins N_source N_wireEarly N_wireLate N_senses N_gateEarly N_gateLate v1 self2 v2) n25 := ⟨_, rfl⟩
            rw [← hs25] at h ih25
            rw [f_Spread_spread_b25] at h
            refine lv_iload_n hx hb d_Spread_spread_25 rfl (lv_at hl 3 rfl) ?_
            refine lv_aload_n hx hb d_Spread_spread_26 rfl (lv_at hl 0 rfl) ?_
            refine va_get (D := D) (ci := 3) (v := .ref (a 43)) (C := R_Spread) (T := F_Spread) (N := 5) hx hb hT in_Spread hown hK hP 0 rfl rfl 0 (by decide) (hT _ m169) (fun _ h9 => h9) rfl d_Spread_spread_27 ?_
            refine va_get (D := D) (ci := 1) (v := .ref (a 45)) (C := R_Net) (T := F_Net) (N := 15) hx hb hT in_Net hown hK hP 6 rfl rfl 4 (by decide) (hT _ m61) (fun _ h9 => h9) rfl d_Spread_spread_30 ?_
            refine lv_iload_n hx hb d_Spread_spread_33 rfl (lv_at hl 2 rfl) ?_
            obtain ⟨hin, h⟩ := gi_e h
            refine zv_iald hx hb hK hP 7 0 rfl rfl (Nat.le_of_ble_eq_true rfl) hin d_Spread_spread_34 ?_
            obtain ⟨hg0, h⟩ := gr_e h
            obtain ⟨hg1, h⟩ := gr_e h
            refine zc_ge hx hb d_Spread_spread_35 rfl hg0 hg1 (fun hc => ?_) (fun hc => ?_)
            · replace h := if_t hc h
              refine lv_iinc (v := iI (v1 + 1)) (k := 1) (lv' := [(1, .int (iI (v1 + 1))), (0, .ref aX), (2, .int (iI v2)), (3, .int (iI v3))]) hx hb d_Spread_spread_50 hl rfl (iI_add _ _) (by decide) rfl (fun ls hl => ?_)
              refine lv_goto hx hb d_Spread_spread_53 rfl ?_
              exact ih2 (v1 + 1) X_count_4 X_early_5 X_late_6 H locs ls hP hD hS (lv_sub hl [1, 0] rfl) h
            · replace h := if_f hc h
              refine lv_aload_n hx hb d_Spread_spread_38 rfl (lv_at hl 0 rfl) ?_
              refine lv_iload_n hx hb d_Spread_spread_39 rfl (lv_at hl 2 rfl) ?_
              refine lv_iload_n hx hb d_Spread_spread_40 rfl (lv_at hl 3 rfl) ?_
              obtain ⟨X_count_7, X_early_8, X_late_9, hcall, h⟩ := ob3_e h
              refine ca_v (w2 := [(o_X aX aX_count aX_early aX_late (a 43) (a 40)), (aX_count, .inl (cI, 96, .inl (ia X_count_7))), (aX_early, .inl (cI, 96, .inl (ia X_early_8))), (aX_late, .inl (cI, 96, .inl (ia X_late_9))), (o_O a O_count), ((a 42), .inl (cI, 48, .inl (ia O_gates))), (o_N a N_period N_width N_size), ((a 45), .inl (cI, 48, .inl (ia N_pins))), ((a 46), .inl (cI, 144, .inl (ia N_source))), ((a 47), .inl (cI, 144, .inl (ia N_wireEarly))), ((a 48), .inl (cI, 144, .inl (ia N_wireLate))), ((a 49), .inl (cI, 144, .inl (ia N_senses))), ((a 50), .inl (cI, 288, .inl (ia N_gateEarly))), ((a 51), .inl (cI, 288, .inl (ia N_gateLate)))]) (va_runV (As := [.int (iI v2), .int (iI v3)]) (rest := []) ⟨hx, hb, hml, hown, hts⟩ (c_Spread_spreadBy l D cI cJ cZ F a aX aX_count aX_early aX_late X_count_4 X_early_5 X_late_6 N_period N_width N_size N_source N_wireEarly N_wireLate N_senses N_gateEarly N_gateLate v2 v3 X_count_7 X_early_8 X_late_9 H.size hcall) (cwV 2 hts (gd_V m505 m502 m504 sl_Spread_spreadBy m6) rfl rfl rfl ⟨rfl, hc_Spread_spreadBy⟩ ⟨Nat.le_of_ble_eq_true rfl, Nat.le_of_ble_eq_true rfl⟩) (pc_V 0 3 [.int (iI v2), .int (iI v3)] hP hK hD hN [0, 1, 2, 3, 6, 8, 9, 10, 11, 12, 13] rfl rfl rfl rfl rfl) rfl rfl hl.1 rfl (lv_room (Nat.le_of_ble_eq_true rfl)) d_Spread_spread_41 ⟨Nat.le_refl 0, Nat.le_refl 0⟩) hP hD hS hA [0, 1, 2, 3, 6, 8, 9, 10, 11, 12, 13] [4, 5, 7] [3, 4, 5, 6, 0, 1, 7, 2, 8, 9, 10, 11, 12, 13] rfl rfl rfl (by decide) rfl rfl rfl (fun H locs hP hD hS => ?_)
              refine lv_iinc (v := iI (v3 + 1)) (k := 3) (lv' := [(3, .int (iI (v3 + 1))), (0, .ref aX), (1, .int (iI v1)), (2, .int (iI v2))]) hx hb d_Spread_spread_44 hl rfl (iI_add _ _) (by decide) rfl (fun ls hl => ?_)
              refine lv_goto hx hb d_Spread_spread_47 rfl ?_
              exact ih25 (v3 + 1) X_count_7 X_early_8 X_late_9 H locs ls hP hD hS (lv_sub hl [1, 2, 3, 0] rfl) h
        exact hl25 F 0 X_count_1 X_early_2 X_late_3 H locs ls hP hD hS (lv_sub hl [2, 3, 1, 0] rfl) h
  exact hl2 F 0 X_count X_early X_late H locs ls hP hD hS (lv_sub hl [1, 0] rfl) h
abbrev rm_ClockWays_isTangled : Room := { frames := 4, cells := 0, slots := 0, locals := 98 }
set_option maxHeartbeats 4000000 in
set_option maxRecDepth 100000 in
theorem c_ClockWays_isTangled (l : Launch) (D : va_G) (cI cJ cZ : ClassId) (F : Nat) (a : Nat → Nat) (C_size : Int) (K_count : Int → Int) (K_early : Int → Int) (K_late : Int → Int) (O_count : Int) (O_gates : Int → Int) (N_period : Int) (N_width : Int) (N_size : Int) (N_kind : Int → Int) (N_pins : Int → Int) (N_source : Int → Int) (N_wireEarly : Int → Int) (N_wireLate : Int → Int) (N_senses : Int → Int) (N_gateEarly : Int → Int) (N_gateLate : Int → Int) (r : Int) (z_K_count : Int → Int) (z_K_early : Int → Int) (z_K_late : Int → Int) (sz : Nat) (h : f_ClockWays_isTangled F K_count K_early K_late O_count O_gates N_size N_kind N_pins N_source N_wireEarly N_wireLate N_senses N_gateEarly N_gateLate = some (r, z_K_count, z_K_early, z_K_late)) : Met l y_ClockWays_isTangled w_ClockWays_isTangled rm_ClockWays_isTangled (PC D [(cI, .int), (cJ, .long), (cZ, .boolean)] [.ref (a 10)] ([(o_C a C_size), (o_K a), ((a 25), .inl (cI, 96, .inl (ia K_count))), ((a 26), .inl (cI, 96, .inl (ia K_early))), ((a 27), .inl (cI, 96, .inl (ia K_late))), (o_O a O_count), ((a 42), .inl (cI, 48, .inl (ia O_gates))), (o_N a N_period N_width N_size), ((a 44), .inl (cI, 48, .inl (ia N_kind))), ((a 45), .inl (cI, 48, .inl (ia N_pins))), ((a 46), .inl (cI, 144, .inl (ia N_source))), ((a 47), .inl (cI, 144, .inl (ia N_wireEarly))), ((a 48), .inl (cI, 144, .inl (ia N_wireLate))), ((a 49), .inl (cI, 144, .inl (ia N_senses))), ((a 50), .inl (cI, 288, .inl (ia N_gateEarly))), ((a 51), .inl (cI, 288, .inl (ia N_gateLate)))]) sz) (QI D [(cI, .int), (cJ, .long), (cZ, .boolean)] ([(o_C a C_size), (o_K a), ((a 25), .inl (cI, 96, .inl (ia K_count))), ((a 26), .inl (cI, 96, .inl (ia K_early))), ((a 27), .inl (cI, 96, .inl (ia K_late))), (o_O a O_count), ((a 42), .inl (cI, 48, .inl (ia O_gates))), (o_N a N_period N_width N_size), ((a 44), .inl (cI, 48, .inl (ia N_kind))), ((a 45), .inl (cI, 48, .inl (ia N_pins))), ((a 46), .inl (cI, 144, .inl (ia N_source))), ((a 47), .inl (cI, 144, .inl (ia N_wireEarly))), ((a 48), .inl (cI, 144, .inl (ia N_wireLate))), ((a 49), .inl (cI, 144, .inl (ia N_senses))), ((a 50), .inl (cI, 288, .inl (ia N_gateEarly))), ((a 51), .inl (cI, 288, .inl (ia N_gateLate)))]) sz r ([(o_C a C_size), (o_K a), ((a 25), .inl (cI, 96, .inl (ia z_K_count))), ((a 26), .inl (cI, 96, .inl (ia z_K_early))), ((a 27), .inl (cI, 96, .inl (ia z_K_late))), (o_O a O_count), ((a 42), .inl (cI, 48, .inl (ia O_gates))), (o_N a N_period N_width N_size), ((a 44), .inl (cI, 48, .inl (ia N_kind))), ((a 45), .inl (cI, 48, .inl (ia N_pins))), ((a 46), .inl (cI, 144, .inl (ia N_source))), ((a 47), .inl (cI, 144, .inl (ia N_wireEarly))), ((a 48), .inl (cI, 144, .inl (ia N_wireLate))), ((a 49), .inl (cI, 144, .inl (ia N_senses))), ((a 50), .inl (cI, 288, .inl (ia N_gateEarly))), ((a 51), .inl (cI, 288, .inl (ia N_gateLate)))])) 0 0 (va_A ([(o_C a C_size), (o_K a), ((a 25), .inl (cI, 96, .inl (ia K_count))), ((a 26), .inl (cI, 96, .inl (ia K_early))), ((a 27), .inl (cI, 96, .inl (ia K_late))), (o_O a O_count), ((a 42), .inl (cI, 48, .inl (ia O_gates))), (o_N a N_period N_width N_size), ((a 44), .inl (cI, 48, .inl (ia N_kind))), ((a 45), .inl (cI, 48, .inl (ia N_pins))), ((a 46), .inl (cI, 144, .inl (ia N_source))), ((a 47), .inl (cI, 144, .inl (ia N_wireEarly))), ((a 48), .inl (cI, 144, .inl (ia N_wireLate))), ((a 49), .inl (cI, 144, .inl (ia N_senses))), ((a 50), .inl (cI, 288, .inl (ia N_gateEarly))), ((a 51), .inl (cI, 288, .inl (ia N_gateLate)))]) sz) := by
  refine Met.ofW (cc := prog_3_method_7_code) (maxL := 3) (ret := (Option.some Jvm.ClassFile.FieldType.boolean)) (by decide) rfl ?_
  intro p e s m args below meth c s₁ B hml hv
  obtain ⟨rfl, hsz, hP, hK, hD0, hN⟩ := hv
  have hx := B.exec
  have hb := B.bytes
  have hr := B.returns
  have hts := atoms_spec (ws := w_ClockWays_isTangled) B.pre
  have hown : s.vm.findClass R_ClockWays = some m.cls := findClass_of_methodNamed B.named
  have hlocks := B.notSynchronized
  subst hsz
  have hD := hD0.self (sz := s.heap.size)
  obtain ⟨A, hAe⟩ : ∃ A, A = va_A ([(o_C a C_size), (o_K a), ((a 25), .inl (cI, 96, .inl (ia K_count))), ((a 26), .inl (cI, 96, .inl (ia K_early))), ((a 27), .inl (cI, 96, .inl (ia K_late))), (o_O a O_count), ((a 42), .inl (cI, 48, .inl (ia O_gates))), (o_N a N_period N_width N_size), ((a 44), .inl (cI, 48, .inl (ia N_kind))), ((a 45), .inl (cI, 48, .inl (ia N_pins))), ((a 46), .inl (cI, 144, .inl (ia N_source))), ((a 47), .inl (cI, 144, .inl (ia N_wireEarly))), ((a 48), .inl (cI, 144, .inl (ia N_wireLate))), ((a 49), .inl (cI, 144, .inl (ia N_senses))), ((a 50), .inl (cI, 288, .inl (ia N_gateEarly))), ((a 51), .inl (cI, 288, .inl (ia N_gateLate)))]) s.heap.size := ⟨_, rfl⟩
  rw [← hAe] at hD
  have hA : ∀ q : Nat, s.heap.size ≤ q → A q := fun q h => by rw [hAe]; exact Or.inr h
  have hS : va_S A s.heap s.heap [] := va_S.rf
  have hl := lv_entry ([.ref (a 10)]) (n := 3) (Nat.le_of_ble_eq_true rfl)
  rw [lg_entry_eq]
  generalize (lg_sl ([.ref (a 10)]) ++ List.replicate (3 - (lg_sl ([.ref (a 10)])).length) Slot.unset).toArray = ls at hl ⊢
  have hl : lv_has ls 3 [(0, .ref (a 10))] := hl
  generalize (List.toArray ([.ref (a 10)] : List Value)) = args at hts ⊢
  have hT : ∀ w ∈ Tg, w.before args s = true := fun w h => hts w (List.mem_cons_of_mem _ h)
  obtain ⟨Q, hQ⟩ : ∃ Q, Q = MQ below (QI D [(cI, .int), (cJ, .long), (cZ, .boolean)] ([(o_C a C_size), (o_K a), ((a 25), .inl (cI, 96, .inl (ia K_count))), ((a 26), .inl (cI, 96, .inl (ia K_early))), ((a 27), .inl (cI, 96, .inl (ia K_late))), (o_O a O_count), ((a 42), .inl (cI, 48, .inl (ia O_gates))), (o_N a N_period N_width N_size), ((a 44), .inl (cI, 48, .inl (ia N_kind))), ((a 45), .inl (cI, 48, .inl (ia N_pins))), ((a 46), .inl (cI, 144, .inl (ia N_source))), ((a 47), .inl (cI, 144, .inl (ia N_wireEarly))), ((a 48), .inl (cI, 144, .inl (ia N_wireLate))), ((a 49), .inl (cI, 144, .inl (ia N_senses))), ((a 50), .inl (cI, 288, .inl (ia N_gateEarly))), ((a 51), .inl (cI, 288, .inl (ia N_gateLate)))]) s.heap.size r ([(o_C a C_size), (o_K a), ((a 25), .inl (cI, 96, .inl (ia z_K_count))), ((a 26), .inl (cI, 96, .inl (ia z_K_early))), ((a 27), .inl (cI, 96, .inl (ia z_K_late))), (o_O a O_count), ((a 42), .inl (cI, 48, .inl (ia O_gates))), (o_N a N_period N_width N_size), ((a 44), .inl (cI, 48, .inl (ia N_kind))), ((a 45), .inl (cI, 48, .inl (ia N_pins))), ((a 46), .inl (cI, 144, .inl (ia N_source))), ((a 47), .inl (cI, 144, .inl (ia N_wireEarly))), ((a 48), .inl (cI, 144, .inl (ia N_wireLate))), ((a 49), .inl (cI, 144, .inl (ia N_senses))), ((a 50), .inl (cI, 288, .inl (ia N_gateEarly))), ((a 51), .inl (cI, 288, .inl (ia N_gateLate)))])) args s 0 0 (va_A ([(o_C a C_size), (o_K a), ((a 25), .inl (cI, 96, .inl (ia K_count))), ((a 26), .inl (cI, 96, .inl (ia K_early))), ((a 27), .inl (cI, 96, .inl (ia K_late))), (o_O a O_count), ((a 42), .inl (cI, 48, .inl (ia O_gates))), (o_N a N_period N_width N_size), ((a 44), .inl (cI, 48, .inl (ia N_kind))), ((a 45), .inl (cI, 48, .inl (ia N_pins))), ((a 46), .inl (cI, 144, .inl (ia N_source))), ((a 47), .inl (cI, 144, .inl (ia N_wireEarly))), ((a 48), .inl (cI, 144, .inl (ia N_wireLate))), ((a 49), .inl (cI, 144, .inl (ia N_senses))), ((a 50), .inl (cI, 288, .inl (ia N_gateEarly))), ((a 51), .inl (cI, 288, .inl (ia N_gateLate)))]) s.heap.size) := ⟨_, rfl⟩
  rw [← hQ]
  suffices hW : ∀ (H : Heap) (locs : List Loc), va_P D vwCl ([(o_C a C_size), (o_K a), ((a 25), .inl (cI, 96, .inl (ia K_count))), ((a 26), .inl (cI, 96, .inl (ia K_early))), ((a 27), .inl (cI, 96, .inl (ia K_late))), (o_O a O_count), ((a 42), .inl (cI, 48, .inl (ia O_gates))), (o_N a N_period N_width N_size), ((a 44), .inl (cI, 48, .inl (ia N_kind))), ((a 45), .inl (cI, 48, .inl (ia N_pins))), ((a 46), .inl (cI, 144, .inl (ia N_source))), ((a 47), .inl (cI, 144, .inl (ia N_wireEarly))), ((a 48), .inl (cI, 144, .inl (ia N_wireLate))), ((a 49), .inl (cI, 144, .inl (ia N_senses))), ((a 50), .inl (cI, 288, .inl (ia N_gateEarly))), ((a 51), .inl (cI, 288, .inl (ia N_gateLate)))]) H → va_D A ([(o_C a C_size), (o_K a), ((a 25), .inl (cI, 96, .inl (ia K_count))), ((a 26), .inl (cI, 96, .inl (ia K_early))), ((a 27), .inl (cI, 96, .inl (ia K_late))), (o_O a O_count), ((a 42), .inl (cI, 48, .inl (ia O_gates))), (o_N a N_period N_width N_size), ((a 44), .inl (cI, 48, .inl (ia N_kind))), ((a 45), .inl (cI, 48, .inl (ia N_pins))), ((a 46), .inl (cI, 144, .inl (ia N_source))), ((a 47), .inl (cI, 144, .inl (ia N_wireEarly))), ((a 48), .inl (cI, 144, .inl (ia N_wireLate))), ((a 49), .inl (cI, 144, .inl (ia N_senses))), ((a 50), .inl (cI, 288, .inl (ia N_gateEarly))), ((a 51), .inl (cI, 288, .inl (ia N_gateLate)))]) → va_S A s.heap H locs → W p l e (headSpec w_ClockWays_isTangled rm_ClockWays_isTangled).room s m args below meth c H locs 0 0 Q (F0 m 0 ls []) from hW s.heap [] hP hD hS
  clear hP hD hS
  intro H locs hP hD hS
  rw [f_ClockWays_isTangled] at h
  refine lv_aload_n hx hb d_ClockWays_isTangled_0 rfl (lv_at hl 0 rfl) ?_
  refine va_get (D := D) (ci := 4) (v := .ref (a 24)) (C := R_ClockWays) (T := F_ClockWays) (N := 17) hx hb hT in_ClockWays hown hK hP 0 rfl rfl 2 (by decide) (hT _ m196) (fun _ h9 => h9) rfl d_ClockWays_isTangled_1 ?_
  obtain ⟨K_count_1, hcall, h⟩ := ob1_e h
  refine ca_v (w2 := [(o_C a C_size), (o_K a), ((a 25), .inl (cI, 96, .inl (ia K_count_1))), ((a 26), .inl (cI, 96, .inl (ia K_early))), ((a 27), .inl (cI, 96, .inl (ia K_late))), (o_O a O_count), ((a 42), .inl (cI, 48, .inl (ia O_gates))), (o_N a N_period N_width N_size), ((a 44), .inl (cI, 48, .inl (ia N_kind))), ((a 45), .inl (cI, 48, .inl (ia N_pins))), ((a 46), .inl (cI, 144, .inl (ia N_source))), ((a 47), .inl (cI, 144, .inl (ia N_wireEarly))), ((a 48), .inl (cI, 144, .inl (ia N_wireLate))), ((a 49), .inl (cI, 144, .inl (ia N_senses))), ((a 50), .inl (cI, 288, .inl (ia N_gateEarly))), ((a 51), .inl (cI, 288, .inl (ia N_gateLate)))]) (va_runV (As := []) (rest := []) ⟨hx, hb, hml, hown, hts⟩ (c_Spread_clear l D cI cJ cZ F a (a 24) (a 25) (a 26) (a 27) K_count K_count_1 H.size hcall) (cwV 0 hts (gd_V m489 m486 m487 m488 m6) rfl rfl rfl ⟨rfl, hc_Spread_clear⟩ ⟨Nat.le_of_ble_eq_true rfl, Nat.le_of_ble_eq_true rfl⟩) (pc_V 1 3 [] hP hK hD hN [1, 2] rfl rfl rfl rfl rfl) rfl rfl hl.1 rfl (lv_room (Nat.le_of_ble_eq_true rfl)) d_ClockWays_isTangled_4 ⟨Nat.le_refl 0, Nat.le_refl 0⟩) hP hD hS hA [1, 2] [0, 3, 4, 5, 6, 7, 8, 9, 10, 11, 12, 13, 14, 15] [0, 14, 15, 1, 2, 3, 4, 5, 6, 7, 8, 9, 10, 11, 12, 13] rfl rfl rfl (by decide) rfl rfl rfl (fun H locs hP hD hS => ?_)
  refine lv_aload_n hx hb d_ClockWays_isTangled_7 rfl (lv_at hl 0 rfl) ?_
  refine va_get (D := D) (ci := 4) (v := .ref (a 24)) (C := R_ClockWays) (T := F_ClockWays) (N := 17) hx hb hT in_ClockWays hown hK hP 0 rfl rfl 2 (by decide) (hT _ m196) (fun _ h9 => h9) rfl d_ClockWays_isTangled_8 ?_
  refine zv_iconst hx hb d_ClockWays_isTangled_11 ?_
  refine zv_iconst hx hb d_ClockWays_isTangled_12 ?_
  refine zv_iconst hx hb d_ClockWays_isTangled_13 ?_
  refine zv_iconst hx hb d_ClockWays_isTangled_14 ?_
  obtain ⟨K_count_2, K_early_3, K_late_4, hcall, h⟩ := ob3_e h
  refine ca_v (w2 := [(o_C a C_size), (o_K a), ((a 25), .inl (cI, 96, .inl (ia K_count_2))), ((a 26), .inl (cI, 96, .inl (ia K_early_3))), ((a 27), .inl (cI, 96, .inl (ia K_late_4))), (o_O a O_count), ((a 42), .inl (cI, 48, .inl (ia O_gates))), (o_N a N_period N_width N_size), ((a 44), .inl (cI, 48, .inl (ia N_kind))), ((a 45), .inl (cI, 48, .inl (ia N_pins))), ((a 46), .inl (cI, 144, .inl (ia N_source))), ((a 47), .inl (cI, 144, .inl (ia N_wireEarly))), ((a 48), .inl (cI, 144, .inl (ia N_wireLate))), ((a 49), .inl (cI, 144, .inl (ia N_senses))), ((a 50), .inl (cI, 288, .inl (ia N_gateEarly))), ((a 51), .inl (cI, 288, .inl (ia N_gateLate)))]) (va_runV (As := [.int (iI 0), .int (iI 1), .int (iI 0), .int (iI 0)]) (rest := []) ⟨hx, hb, hml, hown, hts⟩ (c_Spread_join l D cI cJ cZ F a (a 24) (a 25) (a 26) (a 27) K_count_1 K_early K_late 0 1 0 0 K_count_2 K_early_3 K_late_4 H.size hcall) (cwV 4 hts (gd_V m494 m491 m492 m493 m6) rfl rfl rfl ⟨rfl, hc_Spread_join⟩ ⟨Nat.le_of_ble_eq_true rfl, Nat.le_of_ble_eq_true rfl⟩) (pc_V 1 3 [.int (iI 0), .int (iI 1), .int (iI 0), .int (iI 0)] hP hK hD hN [1, 2, 3, 4] rfl rfl rfl rfl rfl) rfl rfl hl.1 rfl (lv_room (Nat.le_of_ble_eq_true rfl)) d_ClockWays_isTangled_15 ⟨Nat.le_refl 0, Nat.le_refl 0⟩) hP hD hS hA [1, 2, 3, 4] [0, 5, 6, 7, 8, 9, 10, 11, 12, 13, 14, 15] [0, 12, 13, 14, 15, 1, 2, 3, 4, 5, 6, 7, 8, 9, 10, 11] rfl rfl rfl (by decide) rfl rfl rfl (fun H locs hP hD hS => ?_)
  refine lv_aload_n hx hb d_ClockWays_isTangled_18 rfl (lv_at hl 0 rfl) ?_
  refine va_get (D := D) (ci := 4) (v := .ref (a 24)) (C := R_ClockWays) (T := F_ClockWays) (N := 17) hx hb hT in_ClockWays hown hK hP 0 rfl rfl 2 (by decide) (hT _ m196) (fun _ h9 => h9) rfl d_ClockWays_isTangled_19 ?_
  refine zv_iconst hx hb d_ClockWays_isTangled_22 ?_
  refine zv_iconst hx hb d_ClockWays_isTangled_23 ?_
  refine zv_iconst hx hb d_ClockWays_isTangled_24 ?_
  refine zv_iconst hx hb d_ClockWays_isTangled_25 ?_
  obtain ⟨K_count_5, K_early_6, K_late_7, hcall, h⟩ := ob3_e h
  refine ca_v (w2 := [(o_C a C_size), (o_K a), ((a 25), .inl (cI, 96, .inl (ia K_count_5))), ((a 26), .inl (cI, 96, .inl (ia K_early_6))), ((a 27), .inl (cI, 96, .inl (ia K_late_7))), (o_O a O_count), ((a 42), .inl (cI, 48, .inl (ia O_gates))), (o_N a N_period N_width N_size), ((a 44), .inl (cI, 48, .inl (ia N_kind))), ((a 45), .inl (cI, 48, .inl (ia N_pins))), ((a 46), .inl (cI, 144, .inl (ia N_source))), ((a 47), .inl (cI, 144, .inl (ia N_wireEarly))), ((a 48), .inl (cI, 144, .inl (ia N_wireLate))), ((a 49), .inl (cI, 144, .inl (ia N_senses))), ((a 50), .inl (cI, 288, .inl (ia N_gateEarly))), ((a 51), .inl (cI, 288, .inl (ia N_gateLate)))]) (va_runV (As := [.int (iI 1), .int (iI 1), .int (iI 0), .int (iI 0)]) (rest := []) ⟨hx, hb, hml, hown, hts⟩ (c_Spread_join l D cI cJ cZ F a (a 24) (a 25) (a 26) (a 27) K_count_2 K_early_3 K_late_4 1 1 0 0 K_count_5 K_early_6 K_late_7 H.size hcall) (cwV 4 hts (gd_V m494 m491 m492 m493 m6) rfl rfl rfl ⟨rfl, hc_Spread_join⟩ ⟨Nat.le_of_ble_eq_true rfl, Nat.le_of_ble_eq_true rfl⟩) (pc_V 1 3 [.int (iI 1), .int (iI 1), .int (iI 0), .int (iI 0)] hP hK hD hN [1, 2, 3, 4] rfl rfl rfl rfl rfl) rfl rfl hl.1 rfl (lv_room (Nat.le_of_ble_eq_true rfl)) d_ClockWays_isTangled_26 ⟨Nat.le_refl 0, Nat.le_refl 0⟩) hP hD hS hA [1, 2, 3, 4] [0, 5, 6, 7, 8, 9, 10, 11, 12, 13, 14, 15] [0, 12, 13, 14, 15, 1, 2, 3, 4, 5, 6, 7, 8, 9, 10, 11] rfl rfl rfl (by decide) rfl rfl rfl (fun H locs hP hD hS => ?_)
  refine lv_aload_n hx hb d_ClockWays_isTangled_29 rfl (lv_at hl 0 rfl) ?_
  refine va_get (D := D) (ci := 4) (v := .ref (a 24)) (C := R_ClockWays) (T := F_ClockWays) (N := 17) hx hb hT in_ClockWays hown hK hP 0 rfl rfl 2 (by decide) (hT _ m196) (fun _ h9 => h9) rfl d_ClockWays_isTangled_30 ?_
  obtain ⟨K_count_8, K_early_9, K_late_10, hcall, h⟩ := ob3_e h
  refine ca_v (w2 := [(o_C a C_size), (o_K a), ((a 25), .inl (cI, 96, .inl (ia K_count_8))), ((a 26), .inl (cI, 96, .inl (ia K_early_9))), ((a 27), .inl (cI, 96, .inl (ia K_late_10))), (o_O a O_count), ((a 42), .inl (cI, 48, .inl (ia O_gates))), (o_N a N_period N_width N_size), ((a 44), .inl (cI, 48, .inl (ia N_kind))), ((a 45), .inl (cI, 48, .inl (ia N_pins))), ((a 46), .inl (cI, 144, .inl (ia N_source))), ((a 47), .inl (cI, 144, .inl (ia N_wireEarly))), ((a 48), .inl (cI, 144, .inl (ia N_wireLate))), ((a 49), .inl (cI, 144, .inl (ia N_senses))), ((a 50), .inl (cI, 288, .inl (ia N_gateEarly))), ((a 51), .inl (cI, 288, .inl (ia N_gateLate)))]) (va_runV (As := []) (rest := []) ⟨hx, hb, hml, hown, hts⟩ (c_Spread_spread l D cI cJ cZ F a (a 24) (a 25) (a 26) (a 27) K_count_5 K_early_6 K_late_7 O_count O_gates N_period N_width N_size N_pins N_source N_wireEarly N_wireLate N_senses N_gateEarly N_gateLate K_count_8 K_early_9 K_late_10 H.size hcall) (cwV 0 hts (gd_V m501 m498 m499 m500 m6) rfl rfl rfl ⟨rfl, hc_Spread_spread⟩ ⟨Nat.le_of_ble_eq_true rfl, Nat.le_of_ble_eq_true rfl⟩) (pc_V 1 3 [] hP hK hD hN [1, 2, 3, 4, 5, 6, 7, 9, 10, 11, 12, 13, 14, 15] rfl rfl rfl rfl rfl) rfl rfl hl.1 rfl (lv_room (Nat.le_of_ble_eq_true rfl)) d_ClockWays_isTangled_33 ⟨Nat.le_refl 0, Nat.le_refl 0⟩) hP hD hS hA [1, 2, 3, 4, 5, 6, 7, 9, 10, 11, 12, 13, 14, 15] [0, 8] [0, 2, 3, 4, 5, 6, 7, 8, 1, 9, 10, 11, 12, 13, 14, 15] rfl rfl rfl (by decide) rfl rfl rfl (fun H locs hP hD hS => ?_)
  refine zv_iconst hx hb d_ClockWays_isTangled_36 ?_
  refine lv_istore_n (lv' := [(1, .int (iI 0)), (0, .ref (a 10))]) hx hb d_ClockWays_isTangled_37 rfl hl (by decide) rfl (fun ls hl => ?_)
  have hl38 : ∀ (nf : Nat) (v1 : Int) (H : Heap) (locs : List Loc) (ls : Array Slot), va_P D vwCl [(o_C a C_size), (o_K a), ((a 25), .inl (cI, 96, .inl (ia K_count_8))), ((a 26), .inl (cI, 96, .inl (ia K_early_9))), ((a 27), .inl (cI, 96, .inl (ia K_late_10))), (o_O a O_count), ((a 42), .inl (cI, 48, .inl (ia O_gates))), (o_N a N_period N_width N_size), ((a 44), .inl (cI, 48, .inl (ia N_kind))), ((a 45), .inl (cI, 48, .inl (ia N_pins))), ((a 46), .inl (cI, 144, .inl (ia N_source))), ((a 47), .inl (cI, 144, .inl (ia N_wireEarly))), ((a 48), .inl (cI, 144, .inl (ia N_wireLate))), ((a 49), .inl (cI, 144, .inl (ia N_senses))), ((a 50), .inl (cI, 288, .inl (ia N_gateEarly))), ((a 51), .inl (cI, 288, .inl (ia N_gateLate)))] H → va_D A [(o_C a C_size), (o_K a), ((a 25), .inl (cI, 96, .inl (ia K_count_8))), ((a 26), .inl (cI, 96, .inl (ia K_early_9))), ((a 27), .inl (cI, 96, .inl (ia K_late_10))), (o_O a O_count), ((a 42), .inl (cI, 48, .inl (ia O_gates))), (o_N a N_period N_width N_size), ((a 44), .inl (cI, 48, .inl (ia N_kind))), ((a 45), .inl (cI, 48, .inl (ia N_pins))), ((a 46), .inl (cI, 144, .inl (ia N_source))), ((a 47), .inl (cI, 144, .inl (ia N_wireEarly))), ((a 48), .inl (cI, 144, .inl (ia N_wireLate))), ((a 49), .inl (cI, 144, .inl (ia N_senses))), ((a 50), .inl (cI, 288, .inl (ia N_gateEarly))), ((a 51), .inl (cI, 288, .inl (ia N_gateLate)))] → va_S A s.heap H locs → lv_has ls 3 [(0, .ref (a 10)), (1, .int (iI v1))] → lq1 (f_ClockWays_isTangled_b38 F N_size N_kind N_source K_count_8 K_early_9 K_late_10) nf v1 = some (r, z_K_count, z_K_early, z_K_late) → W p l e (headSpec w_ClockWays_isTangled rm_ClockWays_isTangled).room s m args below meth c H locs 0 0 Q (F0 m 38 ls []) := by
    intro n38
    induction n38 with
    | zero => intro v1 H locs ls hP hD hS hl h; exact no_some h
    | succ n38 ih38 =>
      intro v1 H locs ls hP hD hS hl h
      replace h : f_ClockWays_isTangled_b38 F N_size N_kind N_source K_count_8 K_early_9 K_late_10 (lq1 (f_ClockWays_isTangled_b38 F N_size N_kind N_source K_count_8 K_early_9 K_late_10) n38) v1 = some (r, z_K_count, z_K_early, z_K_late) := h
      obtain ⟨self38, hs38⟩ : ∃ z, z = lq1 (f_ClockWays_isTangled_b38 F N_size N_kind N_source K_count_8 K_early_9 K_late_10) n38 := ⟨_, rfl⟩
      rw [← hs38] at h ih38
      rw [f_ClockWays_isTangled_b38] at h
      refine lv_iload_n hx hb d_ClockWays_isTangled_38 rfl (lv_at hl 1 rfl) ?_
      refine lv_aload_n hx hb d_ClockWays_isTangled_39 rfl (lv_at hl 0 rfl) ?_
      refine va_get (D := D) (ci := 4) (v := .ref (a 43)) (C := R_ClockWays) (T := F_ClockWays) (N := 17) hx hb hT in_ClockWays hown hK hP 0 rfl rfl 0 (by decide) (hT _ m194) (fun _ h9 => h9) rfl d_ClockWays_isTangled_40 ?_
      refine va_get (D := D) (ci := 1) (v := .int (iI N_size)) (C := R_Net) (T := F_Net) (N := 15) hx hb hT in_Net hown hK hP 7 rfl rfl 2 (by decide) (hT _ m50) (fun _ h9 => h9) rfl d_ClockWays_isTangled_43 ?_
      obtain ⟨hg0, h⟩ := gr_e h
      obtain ⟨hg1, h⟩ := gr_e h
      refine zc_ge hx hb d_ClockWays_isTangled_46 rfl hg0 hg1 (fun hc => ?_) (fun hc => ?_)
      · replace h := if_t hc h
        refine zv_iconst hx hb d_ClockWays_isTangled_106 ?_
        obtain ⟨hbo, h⟩ := gb_e h
        obtain ⟨e1, e2, e3, e4⟩ := so4 h
        rw [hQ, e1, e2, e3, e4]; rw [hAe] at hD hS; exact W.zret (ty := .boolean) hx hb hr (gb_n hbo) (fun t ht hW => ⟨⟨_, (), rfl, rfl, by rw [ht]; exact hP, va_K.moved hW.alike hK, hD⟩, hS.F ht⟩) hS.2.2 d_ClockWays_isTangled_107
      · replace h := if_f hc h
        refine lv_aload_n hx hb d_ClockWays_isTangled_49 rfl (lv_at hl 0 rfl) ?_
        refine va_get (D := D) (ci := 4) (v := .ref (a 43)) (C := R_ClockWays) (T := F_ClockWays) (N := 17) hx hb hT in_ClockWays hown hK hP 0 rfl rfl 0 (by decide) (hT _ m194) (fun _ h9 => h9) rfl d_ClockWays_isTangled_50 ?_
        refine va_get (D := D) (ci := 1) (v := .ref (a 46)) (C := R_Net) (T := F_Net) (N := 15) hx hb hT in_Net hown hK hP 7 rfl rfl 5 (by decide) (hT _ m66) (fun _ h9 => h9) rfl d_ClockWays_isTangled_53 ?_
        refine lv_iload_n hx hb d_ClockWays_isTangled_56 rfl (lv_at hl 1 rfl) ?_
        refine zv_iconst hx hb d_ClockWays_isTangled_57 ?_
        refine zv_imul hx hb d_ClockWays_isTangled_58 ?_
        refine zv_iconst hx hb d_ClockWays_isTangled_59 ?_
        refine zv_iadd hx hb d_ClockWays_isTangled_60 ?_
        obtain ⟨hin, h⟩ := gi_e h
        refine zv_iald hx hb hK hP 10 0 rfl rfl (Nat.le_of_ble_eq_true rfl) hin d_ClockWays_isTangled_61 ?_
        refine zv_top (fun v2 hv => ?_)
        replace h := bd_e hv h
        refine lv_istore_n (lv' := [(2, .int (iI v2)), (0, .ref (a 10)), (1, .int (iI v1))]) hx hb d_ClockWays_isTangled_62 rfl hl (by decide) rfl (fun ls hl => ?_)
        refine lv_aload_n hx hb d_ClockWays_isTangled_63 rfl (lv_at hl 1 rfl) ?_
        refine va_get (D := D) (ci := 4) (v := .ref (a 43)) (C := R_ClockWays) (T := F_ClockWays) (N := 17) hx hb hT in_ClockWays hown hK hP 0 rfl rfl 0 (by decide) (hT _ m194) (fun _ h9 => h9) rfl d_ClockWays_isTangled_64 ?_
        refine va_get (D := D) (ci := 1) (v := .ref (a 44)) (C := R_Net) (T := F_Net) (N := 15) hx hb hT in_Net hown hK hP 7 rfl rfl 3 (by decide) (hT _ m55) (fun _ h9 => h9) rfl d_ClockWays_isTangled_67 ?_
        refine lv_iload_n hx hb d_ClockWays_isTangled_70 rfl (lv_at hl 2 rfl) ?_
        obtain ⟨hin, h⟩ := gi_e h
        refine zv_iald hx hb hK hP 8 0 rfl rfl (Nat.le_of_ble_eq_true rfl) hin d_ClockWays_isTangled_71 ?_
        refine zv_iconst hx hb d_ClockWays_isTangled_72 ?_
        have hj100 : ∀  (H : Heap) (locs : List Loc) (ls : Array Slot), va_P D vwCl [(o_C a C_size), (o_K a), ((a 25), .inl (cI, 96, .inl (ia K_count_8))), ((a 26), .inl (cI, 96, .inl (ia K_early_9))), ((a 27), .inl (cI, 96, .inl (ia K_late_10))), (o_O a O_count), ((a 42), .inl (cI, 48, .inl (ia O_gates))), (o_N a N_period N_width N_size), ((a 44), .inl (cI, 48, .inl (ia N_kind))), ((a 45), .inl (cI, 48, .inl (ia N_pins))), ((a 46), .inl (cI, 144, .inl (ia N_source))), ((a 47), .inl (cI, 144, .inl (ia N_wireEarly))), ((a 48), .inl (cI, 144, .inl (ia N_wireLate))), ((a 49), .inl (cI, 144, .inl (ia N_senses))), ((a 50), .inl (cI, 288, .inl (ia N_gateEarly))), ((a 51), .inl (cI, 288, .inl (ia N_gateLate)))] H → va_D A [(o_C a C_size), (o_K a), ((a 25), .inl (cI, 96, .inl (ia K_count_8))), ((a 26), .inl (cI, 96, .inl (ia K_early_9))), ((a 27), .inl (cI, 96, .inl (ia K_late_10))), (o_O a O_count), ((a 42), .inl (cI, 48, .inl (ia O_gates))), (o_N a N_period N_width N_size), ((a 44), .inl (cI, 48, .inl (ia N_kind))), ((a 45), .inl (cI, 48, .inl (ia N_pins))), ((a 46), .inl (cI, 144, .inl (ia N_source))), ((a 47), .inl (cI, 144, .inl (ia N_wireEarly))), ((a 48), .inl (cI, 144, .inl (ia N_wireLate))), ((a 49), .inl (cI, 144, .inl (ia N_senses))), ((a 50), .inl (cI, 288, .inl (ia N_gateEarly))), ((a 51), .inl (cI, 288, .inl (ia N_gateLate)))] → va_S A s.heap H locs → lv_has ls 3 [(0, .ref (a 10)), (1, .int (iI v1))] → f_ClockWays_isTangled_j100 F v1 self38 = some (r, z_K_count, z_K_early, z_K_late) → W p l e (headSpec w_ClockWays_isTangled rm_ClockWays_isTangled).room s m args below meth c H locs 0 0 Q (F0 m 100 ls []) := by
          intro  H locs ls hP hD hS hl h
          rw [f_ClockWays_isTangled_j100] at h
          refine lv_iinc (v := iI (v1 + 1)) (k := 1) (lv' := [(1, .int (iI (v1 + 1))), (0, .ref (a 10))]) hx hb d_ClockWays_isTangled_100 hl rfl (iI_add _ _) (by decide) rfl (fun ls hl => ?_)
          refine lv_goto hx hb d_ClockWays_isTangled_103 rfl ?_
          exact ih38 (v1 + 1) H locs ls hP hD hS (lv_sub hl [1, 0] rfl) h
        obtain ⟨hg0, h⟩ := gr_e h
        refine zc_ne hx hb d_ClockWays_isTangled_73 rfl hg0 (by decide) (fun hc => ?_) (fun hc => ?_)
        · replace h := if_f hc h
          exact hj100  H locs ls hP hD hS (lv_sub hl [1, 2] rfl) h
        · replace h := if_t hc h
          refine lv_iload_n hx hb d_ClockWays_isTangled_76 rfl (lv_at hl 0 rfl) ?_
          obtain ⟨hg0, h⟩ := gr_e h
          refine zi_lt hx hb d_ClockWays_isTangled_77 rfl hg0 (fun hc => ?_) (fun hc => ?_)
          · replace h := if_t hc h
            exact hj100  H locs ls hP hD hS (lv_sub hl [1, 2] rfl) h
          · replace h := if_f hc h
            refine lv_aload_n hx hb d_ClockWays_isTangled_80 rfl (lv_at hl 1 rfl) ?_
            refine va_get (D := D) (ci := 4) (v := .ref (a 24)) (C := R_ClockWays) (T := F_ClockWays) (N := 17) hx hb hT in_ClockWays hown hK hP 0 rfl rfl 2 (by decide) (hT _ m196) (fun _ h9 => h9) rfl d_ClockWays_isTangled_81 ?_
            refine va_get (D := D) (ci := 3) (v := .ref (a 25)) (C := R_Spread) (T := F_Spread) (N := 5) hx hb hT in_Spread hown hK hP 1 rfl rfl 2 (by decide) (hT _ m174) (fun _ h9 => h9) rfl d_ClockWays_isTangled_84 ?_
            refine zv_iconst hx hb d_ClockWays_isTangled_87 ?_
            refine lv_iload_n hx hb d_ClockWays_isTangled_88 rfl (lv_at hl 0 rfl) ?_
            refine zv_imul hx hb d_ClockWays_isTangled_89 ?_
            refine zv_iconst hx hb d_ClockWays_isTangled_90 ?_
            refine zv_iadd hx hb d_ClockWays_isTangled_91 ?_
            obtain ⟨hin, h⟩ := gi_e h
            refine zv_iald hx hb hK hP 2 0 rfl rfl (Nat.le_of_ble_eq_true rfl) hin d_ClockWays_isTangled_92 ?_
            refine lv_bipush (v := iI 8) hx hb d_ClockWays_isTangled_93 (by decide) ?_
            obtain ⟨hg0, h⟩ := gr_e h
            refine zc_le hx hb d_ClockWays_isTangled_95 rfl hg0 (by decide) (fun hc => ?_) (fun hc => ?_)
            · replace h := if_t hc h
              exact hj100  H locs ls hP hD hS (lv_sub hl [1, 2] rfl) h
            · replace h := if_f hc h
              refine zv_iconst hx hb d_ClockWays_isTangled_98 ?_
              obtain ⟨hbo, h⟩ := gb_e h
              obtain ⟨e1, e2, e3, e4⟩ := so4 h
              rw [hQ, e1, e2, e3, e4]; rw [hAe] at hD hS; exact W.zret (ty := .boolean) hx hb hr (gb_n hbo) (fun t ht hW => ⟨⟨_, (), rfl, rfl, by rw [ht]; exact hP, va_K.moved hW.alike hK, hD⟩, hS.F ht⟩) hS.2.2 d_ClockWays_isTangled_99
  exact hl38 F 0 H locs ls hP hD hS (lv_sub hl [1, 0] rfl) h
