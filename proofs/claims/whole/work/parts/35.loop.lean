/-! the law's loop, over any invariant of the contents (laid by wip/whole/start.py) -/
def Step (Inv : St → Prop) (F : Nat) (i : Int) (L : Nat) (sc : Int → Int) (x : St) (v : Int) : Prop := (v = 0 → ∃ x', Do_0 F i L sc x x' ∧ Inv x') ∧ (v = 1 → ∃ x', Do_1 F i L sc x x' ∧ Inv x') ∧ (v = 2 → ∃ x', Do_2 F i L sc x x' ∧ Inv x') ∧ (v = 3 → ∃ x', Do_3 F i L sc x x' ∧ Inv x') ∧ (v = 4 → ∃ x', Do_4 F i L sc x x' ∧ Inv x') ∧ (v = 5 → ∃ x', Do_5 F i L sc x x' ∧ Inv x') ∧ (v = 6 → ∃ x', Do_6 F i L sc x x' ∧ Inv x') ∧ (v = 7 → ∃ x', Do_7 F i L sc x x' ∧ Inv x') ∧ (v = 8 → ∃ x', Do_8 F i L sc x x' ∧ Inv x') ∧ (v = 9 → ∃ x', Do_9 F i L sc x x' ∧ Inv x') ∧ (v = 10 → ∃ x', Do_10 F i L sc x x' ∧ Inv x') ∧ (v = 11 → ∃ x', Do_11 F i L sc x x' ∧ Inv x') ∧ (v = 12 → ∃ x', Do_12 F i L sc x x' ∧ Inv x') ∧ (v = 13 → ∃ x', Do_13 F i L sc x x' ∧ Inv x') ∧ (v = 14 → ∃ x', Do_14 F i L sc x x' ∧ Inv x') ∧ (v = 15 → ∃ x', Do_15 F i L sc x x' ∧ Inv x') ∧ (v = 16 → ∃ x', Do_16 F i L sc x x' ∧ Inv x') ∧ (v = 17 → ∃ x', Do_17 F i L sc x x' ∧ Inv x') ∧ (v = 18 → ∃ x', Do_18 F i L sc x x' ∧ Inv x') ∧ (v = 19 → ∃ x', Do_19 F i L sc x x' ∧ Inv x')
theorem iI_and31 (z : Int) : 0 ≤ (iI z &&& iI 31).toInt ∧ (iI z &&& iI 31).toInt ≤ 31 := by
  have h : ∀ x : Int32, (x &&& 31).toInt = ((x &&& 31).toUInt32.toNat : Int) ∧ (x &&& 31).toUInt32.toNat ≤ 31 := by
    intro x
    have h1 : (x &&& 31).toUInt32.toNat = x.toUInt32.toNat &&& 31 := by
      rw [show (x &&& 31).toUInt32 = x.toUInt32 &&& 31 from rfl, UInt32.toNat_and]; rfl
    have h2 : x.toUInt32.toNat &&& 31 ≤ 31 := Nat.and_le_right
    refine ⟨?_, by omega⟩
    have h3 : (x &&& 31).toInt = (x &&& 31).toBitVec.toInt := rfl
    have h4 : (x &&& 31).toBitVec.toNat = (x &&& 31).toUInt32.toNat := rfl
    rw [h3, BitVec.toInt_eq_toNat_of_lt (by omega), h4]
  have := h (iI z)
  rw [show iI 31 = 31 from rfl]
  omega
theorem iI_small {v : Int} (h : 0 ≤ v ∧ v ≤ 31) : (iI v).toInt = v := by
  rw [show iI v = Int32.ofInt v from rfl, Int32.toInt_ofInt]
  exact Int.bmod_eq_of_le (by show -(4294967296 / 2) ≤ v; omega) (by show v < (4294967296 + 1) / 2; omega)
set_option maxHeartbeats 4000000 in
set_option maxRecDepth 100000 in
theorem lw_loop {p : Program} {l : Launch} {e : Env} {s : State} {m : MethodId} {below : List Frame} {meth : Method} {c : Code} {b0 : Nat} {xs : Nat → Int32} {D : va_G} {cI cJ cZ : ClassId} {A : Nat → Prop} {a b : Nat → Nat} {aout : Nat} {L : Nat} (F : Nat) (Inv : St → Prop) (C : LC p l s m meth c b0 L xs D [(cI, .int), (cJ, .long), (cZ, .boolean)] A) (hL : L ≤ 3072) (hret : meth.sig.returnType = ret) (hlocks : meth.locks = false)
    (hstep : ∀ (x : St) (i : Int), 0 ≤ i → i + 6 ≤ L → Inv x → Step Inv F i L (scI xs) x (iI (scI xs i) &&& iI 31).toInt) :
    ∀ (r : Nat) (i : Int) (x : St) (n1 n2 : Nat) (H : Heap) (locs : List Loc) (ls : Array Slot), 0 ≤ i → i ≤ 6000 → (L : Int) < i + 6 * (r + 1) → Inv x → n1 + r ≤ 601024 → n2 + 6 * r ≤ 7293034 →
      va_P D vwCl (wS a b aout cI cJ cZ x) H → va_D A (wS a b aout cI cJ cZ x) → va_S A s.heap H locs → lv_has ls 7 [(0, .ref b0), (1, .ref (a 0)), (2, .ref (b 0)), (3, .ref aout), (4, .int (iI i))] →
      W p l e room_1 s m #[Value.ref b0] below meth c H locs n1 n2 (lw_Z below #[Value.ref b0] s) (F0 m 23 ls []) := by
  obtain ⟨hfl, hx, hb, hml, hown, hts, hX, hbl, hL3, hK, hN, hXW, hYW, hA, hA0⟩ := id C
  have hbA : ¬ A b0 := fun z => absurd (hA0 _ z) (Nat.not_le.mpr hbl)
  have hr1 : room_1.cells = 601024 := rfl
  have hr2 : room_1.slots = 7293034 := rfl
  intro r
  induction r with
  | zero =>
    intro i x n1 n2 H locs ls hi0 hi1 hLi hI hn1 hn2 hP hD hS hl
    refine lv_iload hx hb d_Law_law_23 (lv_at hl 4 rfl) ?_
    refine lv_aload_n hx hb d_Law_law_25 rfl (lv_at hl 0 rfl) ?_
    refine zv_slen hx hb hX hbl hbA hS d_Law_law_26 ?_
    refine lv_bipush hx hb d_Law_law_27 (v := iI 6) rfl ?_
    refine zv_isub hx hb d_Law_law_29 ?_
    refine zc_gt (tgt := 1270) hx hb d_Law_law_30 rfl (by omega) (by omega) (fun hc => ?_) (fun hc => by omega)
    refine zv_iconst hx hb d_Law_law_1270 ?_
    refine va_forget (fun q hq => hA0 _ (hS.2.2 q hq)) ?_
    refine W.widen (k := 601024) (n := 7293034) (by omega) (by omega) ?_
    exact lw_ret hx hb hret hlocks d_Law_law_1271
  | succ r ih =>
    intro i x n1 n2 H locs ls hi0 hi1 hLi hI hn1 hn2 hP hD hS hl
    refine lv_iload hx hb d_Law_law_23 (lv_at hl 4 rfl) ?_
    refine lv_aload_n hx hb d_Law_law_25 rfl (lv_at hl 0 rfl) ?_
    refine zv_slen hx hb hX hbl hbA hS d_Law_law_26 ?_
    refine lv_bipush hx hb d_Law_law_27 (v := iI 6) rfl ?_
    refine zv_isub hx hb d_Law_law_29 ?_
    refine zc_gt (tgt := 1270) hx hb d_Law_law_30 rfl (by omega) (by omega) (fun hc => ?_) (fun hc => ?_)
    · refine zv_iconst hx hb d_Law_law_1270 ?_
      refine va_forget (fun q hq => hA0 _ (hS.2.2 q hq)) ?_
      refine W.widen (k := 601024) (n := 7293034) (by omega) (by omega) ?_
      exact lw_ret hx hb hret hlocks d_Law_law_1271
    have go : ∀ (x' : St), Inv x' → ∀ (H : Heap) (locs : List Loc) (ls : Array Slot), va_P D vwCl (wS a b aout cI cJ cZ x') H → va_D A (wS a b aout cI cJ cZ x') → va_S A s.heap H locs → lv_has ls 7 [(0, .ref b0), (1, .ref (a 0)), (2, .ref (b 0)), (3, .ref aout), (4, .int (iI i))] → W p l e room_1 s m #[Value.ref b0] below meth c H locs (n1 + 1) (n2 + 6) (lw_Z below #[Value.ref b0] s) (F0 m 1264 ls []) := by
      intro x' hI' H locs ls hP hD hS hl
      refine lv_iinc (v := iI (i + 6)) hx hb d_Law_law_1264 hl (k := 4) rfl (iI_add i 6) (by decide) rfl (fun ls hl => ?_)
      refine lv_goto (tgt := 23) hx hb d_Law_law_1267 rfl ?_
      exact ih (i + 6) x' (n1 + 1) (n2 + 6) H locs ls (by omega) (by omega) (by omega) hI' (by omega) (by omega) hP hD hS (lv_sub hl [1, 2, 3, 4, 0] rfl)
    refine lv_aload_n hx hb d_Law_law_33 rfl (lv_at hl 0 rfl) ?_
    refine lv_iload hx hb d_Law_law_34 (lv_at hl 4 rfl) ?_
    refine zv_sls rfl hx hb hX hbl hbA hS hL3 (by omega) d_Law_law_36 ?_
    refine lv_bipush hx hb d_Law_law_37 (v := iI 31) rfl ?_
    refine zv_iand hx hb d_Law_law_39 ?_
    have hst := hstep x i hi0 (by omega) hI
    have hv := iI_and31 (scI xs i)
    generalize (iI (scI xs i) &&& iI 31).toInt = v at hst hv ⊢
    rcases (show v = 0 ∨ v = 1 ∨ v = 2 ∨ v = 3 ∨ v = 4 ∨ v = 5 ∨ v = 6 ∨ v = 7 ∨ v = 8 ∨ v = 9 ∨ v = 10 ∨ v = 11 ∨ v = 12 ∨ v = 13 ∨ v = 14 ∨ v = 15 ∨ v = 16 ∨ v = 17 ∨ v = 18 ∨ v = 19 ∨ 19 < v by omega) with rfl | rfl | rfl | rfl | rfl | rfl | rfl | rfl | rfl | rfl | rfl | rfl | rfl | rfl | rfl | rfl | rfl | rfl | rfl | rfl | hv2
    · obtain ⟨x', h1, h2⟩ := hst.1 rfl
      refine lv_tableIn (tgt := 136) hx hb d_Law_law_40 (by decide) (by decide) (off := 96) (by decide) rfl ?_
      exact st_0 F x x' i L (scI xs) C rfl (by omega) (by omega) hP hD hS hl h1 (fun H locs ls hP hD hS hl => go x' h2 H locs ls hP hD hS hl)
    · obtain ⟨x', h1, h2⟩ := hst.2.1 rfl
      refine lv_tableIn (tgt := 184) hx hb d_Law_law_40 (by decide) (by decide) (off := 144) (by decide) rfl ?_
      exact st_1 F x x' i L (scI xs) C rfl (by omega) (by omega) hP hD hS hl h1 (fun H locs ls hP hD hS hl => go x' h2 H locs ls hP hD hS hl)
    · obtain ⟨x', h1, h2⟩ := hst.2.2.1 rfl
      refine lv_tableIn (tgt := 276) hx hb d_Law_law_40 (by decide) (by decide) (off := 236) (by decide) rfl ?_
      exact st_2 F x x' i L (scI xs) C rfl (by omega) (by omega) hP hD hS hl h1 (fun H locs ls hP hD hS hl => go x' h2 H locs ls hP hD hS hl)
    · obtain ⟨x', h1, h2⟩ := hst.2.2.2.1 rfl
      refine lv_tableIn (tgt := 332) hx hb d_Law_law_40 (by decide) (by decide) (off := 292) (by decide) rfl ?_
      exact st_3 F x x' i L (scI xs) C rfl (by omega) (by omega) hP hD hS hl h1 (fun H locs ls hP hD hS hl => go x' h2 H locs ls hP hD hS hl)
    · obtain ⟨x', h1, h2⟩ := hst.2.2.2.2.1 rfl
      refine lv_tableIn (tgt := 345) hx hb d_Law_law_40 (by decide) (by decide) (off := 305) (by decide) rfl ?_
      exact st_4 F x x' i L (scI xs) C rfl (by omega) (by omega) hP hD hS hl h1 (fun H locs ls hP hD hS hl => go x' h2 H locs ls hP hD hS hl)
    · obtain ⟨x', h1, h2⟩ := hst.2.2.2.2.2.1 rfl
      refine lv_tableIn (tgt := 358) hx hb d_Law_law_40 (by decide) (by decide) (off := 318) (by decide) rfl ?_
      exact st_5 F x x' i L (scI xs) C rfl (by omega) (by omega) hP hD hS hl h1 (fun H locs ls hP hD hS hl => go x' h2 H locs ls hP hD hS hl)
    · obtain ⟨x', h1, h2⟩ := hst.2.2.2.2.2.2.1 rfl
      refine lv_tableIn (tgt := 442) hx hb d_Law_law_40 (by decide) (by decide) (off := 402) (by decide) rfl ?_
      exact st_6 F x x' i L (scI xs) C rfl (by omega) (by omega) hP hD hS hl h1 (fun H locs ls hP hD hS hl => go x' h2 H locs ls hP hD hS hl)
    · obtain ⟨x', h1, h2⟩ := hst.2.2.2.2.2.2.2.1 rfl
      refine lv_tableIn (tgt := 502) hx hb d_Law_law_40 (by decide) (by decide) (off := 462) (by decide) rfl ?_
      exact st_7 F x x' i L (scI xs) C rfl (by omega) (by omega) hP hD hS hl h1 (fun H locs ls hP hD hS hl => go x' h2 H locs ls hP hD hS hl)
    · obtain ⟨x', h1, h2⟩ := hst.2.2.2.2.2.2.2.2.1 rfl
      refine lv_tableIn (tgt := 586) hx hb d_Law_law_40 (by decide) (by decide) (off := 546) (by decide) rfl ?_
      exact st_8 F x x' i L (scI xs) C rfl (by omega) (by omega) hP hD hS hl h1 (fun H locs ls hP hD hS hl => go x' h2 H locs ls hP hD hS hl)
    · obtain ⟨x', h1, h2⟩ := hst.2.2.2.2.2.2.2.2.2.1 rfl
      refine lv_tableIn (tgt := 658) hx hb d_Law_law_40 (by decide) (by decide) (off := 618) (by decide) rfl ?_
      exact st_9 F x x' i L (scI xs) C rfl (by omega) (by omega) hP hD hS hl h1 (fun H locs ls hP hD hS hl => go x' h2 H locs ls hP hD hS hl)
    · obtain ⟨x', h1, h2⟩ := hst.2.2.2.2.2.2.2.2.2.2.1 rfl
      refine lv_tableIn (tgt := 671) hx hb d_Law_law_40 (by decide) (by decide) (off := 631) (by decide) rfl ?_
      exact st_10 F x x' i L (scI xs) C rfl (by omega) (by omega) hP hD hS hl h1 (fun H locs ls hP hD hS hl => go x' h2 H locs ls hP hD hS hl)
    · obtain ⟨x', h1, h2⟩ := hst.2.2.2.2.2.2.2.2.2.2.2.1 rfl
      refine lv_tableIn (tgt := 684) hx hb d_Law_law_40 (by decide) (by decide) (off := 644) (by decide) rfl ?_
      exact st_11 F x x' i L (scI xs) C rfl (by omega) (by omega) hP hD hS hl h1 (fun H locs ls hP hD hS hl => go x' h2 H locs ls hP hD hS hl)
    · obtain ⟨x', h1, h2⟩ := hst.2.2.2.2.2.2.2.2.2.2.2.2.1 rfl
      refine lv_tableIn (tgt := 740) hx hb d_Law_law_40 (by decide) (by decide) (off := 700) (by decide) rfl ?_
      exact st_12 F x x' i L (scI xs) C rfl (by omega) (by omega) hP hD hS hl h1 (fun H locs ls hP hD hS hl => go x' h2 H locs ls hP hD hS hl)
    · obtain ⟨x', h1, h2⟩ := hst.2.2.2.2.2.2.2.2.2.2.2.2.2.1 rfl
      refine lv_tableIn (tgt := 848) hx hb d_Law_law_40 (by decide) (by decide) (off := 808) (by decide) rfl ?_
      exact st_13 F x x' i L (scI xs) C rfl (by omega) (by omega) hP hD hS hl h1 (fun H locs ls hP hD hS hl => go x' h2 H locs ls hP hD hS hl)
    · obtain ⟨x', h1, h2⟩ := hst.2.2.2.2.2.2.2.2.2.2.2.2.2.2.1 rfl
      refine lv_tableIn (tgt := 916) hx hb d_Law_law_40 (by decide) (by decide) (off := 876) (by decide) rfl ?_
      exact st_14 F x x' i L (scI xs) C rfl (by omega) (by omega) hP hD hS hl h1 (fun H locs ls hP hD hS hl => go x' h2 H locs ls hP hD hS hl)
    · obtain ⟨x', h1, h2⟩ := hst.2.2.2.2.2.2.2.2.2.2.2.2.2.2.2.1 rfl
      refine lv_tableIn (tgt := 972) hx hb d_Law_law_40 (by decide) (by decide) (off := 932) (by decide) rfl ?_
      exact st_15 F x x' i L (scI xs) C rfl (by omega) (by omega) hP hD hS hl h1 (fun H locs ls hP hD hS hl => go x' h2 H locs ls hP hD hS hl)
    · obtain ⟨x', h1, h2⟩ := hst.2.2.2.2.2.2.2.2.2.2.2.2.2.2.2.2.1 rfl
      refine lv_tableIn (tgt := 1028) hx hb d_Law_law_40 (by decide) (by decide) (off := 988) (by decide) rfl ?_
      exact st_16 F x x' i L (scI xs) C rfl (by omega) (by omega) hP hD hS hl h1 (fun H locs ls hP hD hS hl => go x' h2 H locs ls hP hD hS hl)
    · obtain ⟨x', h1, h2⟩ := hst.2.2.2.2.2.2.2.2.2.2.2.2.2.2.2.2.2.1 rfl
      refine lv_tableIn (tgt := 1072) hx hb d_Law_law_40 (by decide) (by decide) (off := 1032) (by decide) rfl ?_
      exact st_17 F x x' i L (scI xs) C rfl (by omega) (by omega) hP hD hS hl h1 (fun H locs ls hP hD hS hl => go x' h2 H locs ls hP hD hS hl)
    · obtain ⟨x', h1, h2⟩ := hst.2.2.2.2.2.2.2.2.2.2.2.2.2.2.2.2.2.2.1 rfl
      refine lv_tableIn (tgt := 1116) hx hb d_Law_law_40 (by decide) (by decide) (off := 1076) (by decide) rfl ?_
      exact st_18 F x x' i L (scI xs) C rfl (by omega) (by omega) hP hD hS hl h1 (fun H locs ls hP hD hS hl => go x' h2 H locs ls hP hD hS hl)
    · obtain ⟨x', h1, h2⟩ := hst.2.2.2.2.2.2.2.2.2.2.2.2.2.2.2.2.2.2.2 rfl
      refine lv_tableIn (tgt := 1184) hx hb d_Law_law_40 (by decide) (by decide) (off := 1144) (by decide) rfl ?_
      exact st_19 F x x' i L (scI xs) C rfl (by omega) (by omega) hP hD hS hl h1 (fun H locs ls hP hD hS hl => go x' h2 H locs ls hP hD hS hl)
    · refine lv_tableOut (tgt := 1264) hx hb d_Law_law_40 (Or.inr (by rw [iI_small (by omega)]; omega)) rfl ?_
      refine W.widen (k := n1 + 1) (n := n2 + 6) (by omega) (by omega) ?_
      exact go x hI H locs ls hP hD hS hl
