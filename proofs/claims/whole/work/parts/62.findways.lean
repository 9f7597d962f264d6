/-! the reference's search for a register's clock ways -/
theorem pinl_2 {β : Type} (g : Int → List β) : ∀ m : Nat, (pinl (2 * m)).flatMap g = (pinl m).flatMap (fun p => g (2 * p) ++ g (2 * p + 1)) := by
  intro m
  induction m with
  | zero => rfl
  | succ m ih =>
    rw [show (2 : Int) * ((m + 1 : Nat) : Int) = (2 * (m : Int) + 1) + 1 by omega, pinl_succ (by omega), pinl_succ (by omega), show ((m + 1 : Nat) : Int) = (m : Int) + 1 by omega, pinl_succ (by omega), List.flatMap_append, List.flatMap_append, List.flatMap_append, ih, List.append_assoc]
    simp only [List.flatMap_cons, List.flatMap_nil, List.append_nil]
theorem pinl_get {n : Int} {k : Nat} (h : (k : Int) < n) : (pinl n)[k]? = some (k : Int) := by
  unfold pinl
  rw [List.getElem?_map, List.getElem?_range (by omega)]
  rfl
theorem pinl_len (n : Int) : (pinl n).length = n.toNat := by unfold pinl; rw [List.length_map, List.length_range]
theorem lst_cg {A B : Int → Int} {n : Int} (h : ∀ i, 0 ≤ i → i < n → A i = B i) : lst A n = lst B n := by
  unfold lst
  exact List.map_congr_left (fun x hx => h x (pinl_mem.mp hx).1 (pinl_mem.mp hx).2)
section STP
variable {kd pn so se : Int → Int}
def stpK (so se : Int → Int) (s k : Int) : List (Int × Int) := if 0 ≤ so (3 * (s / 2) + k / 2) ∧ ltz (se (3 * (s / 2) + k / 2)) (k % 2) (s % 2) = true then [(8 * (s / 2) + 2 * (k / 2) + s % 2, 2 * so (3 * (s / 2) + k / 2) + k % 2)] else []
def kidF (pn so se : Int → Int) (s k : Int) : List (Int × Int) := ((pinl (2 * pn (s / 2))).drop k.toNat).flatMap (stpK so se s)
theorem kid_e {s k : Int} (h : 2 * pn (s / 2) ≤ k) : kidF pn so se s k = [] := by
  unfold kidF
  rw [List.drop_of_length_le (by rw [pinl_len]; omega)]
  rfl
theorem kid_s {s k : Int} (h0 : 0 ≤ k) (h : k < 2 * pn (s / 2)) : kidF pn so se s k = stpK so se s k ++ kidF pn so se s (k + 1) := by
  unfold kidF
  have hl : k.toNat < (pinl (2 * pn (s / 2))).length := by rw [pinl_len]; omega
  have hg : (pinl (2 * pn (s / 2)))[k.toNat] = k := by
    have := pinl_get (n := 2 * pn (s / 2)) (k := k.toNat) (by omega)
    rw [List.getElem?_eq_getElem hl] at this
    have := Option.some.inj this
    omega
  rw [List.drop_eq_getElem_cons hl, List.flatMap_cons, hg, show (k + 1).toNat = k.toNat + 1 by omega]
theorem kid_0 (hp : ∀ i, 0 ≤ pn i ∧ pn i ≤ 3) {s : Int} (h : kd (s / 2) = 2) : kidF pn so se s 0 = insN kd pn so se s := by
  unfold kidF insN
  rw [if_pos h]
  show (pinl (2 * pn (s / 2))).flatMap _ = _
  have hpn := hp (s / 2)
  have := pinl_2 (stpK so se s) (pn (s / 2)).toNat
  rw [show ((pn (s / 2)).toNat : Int) = pn (s / 2) by omega] at this
  rw [this]
  refine flatMap_cg (fun p hp' => ?_)
  unfold insP stpK
  rw [show 2 * p / 2 = p by omega, show 2 * p % 2 = 0 by omega, show (2 * p + 1) / 2 = p by omega, show (2 * p + 1) % 2 = 1 by omega]
  by_cases q : so (3 * (s / 2) + p) < 0
  · rw [if_pos q, if_neg (fun z => by omega), if_neg (fun z => by omega)]
    rfl
  · rw [if_neg q, List.flatMap_cons, List.flatMap_cons, List.flatMap_nil, List.append_nil]
    have hq : 0 ≤ so (3 * (s / 2) + p) := by omega
    congr 1
    · by_cases r : ltz (se (3 * (s / 2) + p)) 0 (s % 2) = true
      · rw [if_pos ⟨hq, r⟩, if_pos r]
      · rw [if_neg (fun z => r z.2), if_neg r]
    · by_cases r : ltz (se (3 * (s / 2) + p)) 1 (s % 2) = true
      · rw [if_pos ⟨hq, r⟩, if_pos r]
      · rw [if_neg (fun z => r z.2), if_neg r]
/-- what a level of the search still has to report -/
def PDw (kd pn so se : Int → Int) (nd ch nx row : Int → Int) (j : Nat) : List (Int × List Int) := if nd j = 0 then [(ch j, lst row j)] else (kidF pn so se (2 * nd j + ch j) (nx j)).flatMap (fun et => (BW kd pn so se et.2).map (fun w => (w.1, lst row j ++ et.1 :: w.2)))
def RMw (kd pn so se : Int → Int) (nd ch nx row : Int → Int) : Nat → List (Int × List Int)
  | 0 => []
  | h + 1 => PDw kd pn so se nd ch nx row h ++ RMw kd pn so se nd ch nx row h
theorem PD_cg {nd ch nx row nd' ch' nx' row' : Int → Int} {j : Nat} (h1 : nd j = nd' j) (h2 : ch j = ch' j) (h3 : nx j = nx' j) (h4 : ∀ i, 0 ≤ i → i < (j : Int) → row i = row' i) : PDw kd pn so se nd ch nx row j = PDw kd pn so se nd' ch' nx' row' j := by
  unfold PDw
  rw [h1, h2, h3, lst_cg h4]
theorem RM_cg {nd ch nx row nd' ch' nx' row' : Int → Int} : ∀ h : Nat, (∀ j : Nat, j < h → nd j = nd' j ∧ ch j = ch' j ∧ nx j = nx' j) → (∀ i, 0 ≤ i → i + 1 < (h : Int) → row i = row' i) → RMw kd pn so se nd ch nx row h = RMw kd pn so se nd' ch' nx' row' h := by
  intro h
  induction h with
  | zero => intro _ _; rfl
  | succ h ih =>
    intro h1 h2
    show PDw kd pn so se nd ch nx row h ++ RMw kd pn so se nd ch nx row h = _ ++ RMw kd pn so se nd' ch' nx' row' h
    have q := h1 h (by omega)
    rw [ih (fun j hj => h1 j (by omega)) (fun i a b => h2 i a (by omega)), PD_cg q.1 q.2.1 q.2.2 (fun i a b => h2 i a (by omega))]
end STP
def msr (nx : Int → Int) : Nat → Nat
  | 0 => 0
  | h + 1 => msr nx h + (8 - nx h).toNat * 10 ^ (50 - h)
theorem msr_cg {nx nx' : Int → Int} : ∀ h : Nat, (∀ j : Nat, j < h → nx j = nx' j) → msr nx h = msr nx' h := by
  intro h
  induction h with
  | zero => intro _; rfl
  | succ h ih =>
    intro q
    show msr nx h + _ = msr nx' h + _
    rw [ih (fun j hj => q j (by omega)), q h (by omega)]
section PDF
variable {kd pn so se : Int → Int} {size : Int}
theorem PD_full (hz : size ≤ 48) (hkd : ∀ i, kd i ≠ 0 → 0 < i ∧ i < size) (hk0 : kd 0 = 0) (hp : ∀ i, 0 ≤ pn i ∧ pn i ≤ 3) {os : List Int} (hfu : full kd pn so se os) {nd ch nx row : Int → Int} {j : Nat} (h1 : nd j = 0 ∨ kd (nd j) = 2) (h2 : ch j = 0 ∨ ch j = 1) (h3 : nx j = 0) : PDw kd pn so se nd ch nx row j = (BW kd pn so se (2 * nd j + ch j)).map (fun w => (w.1, lst row j ++ w.2)) := by
  unfold PDw
  rw [BW_rec hz hkd hfu (2 * nd j + ch j)]
  by_cases e : nd j = 0
  · rw [if_pos e, e, (isK_i (2 * 0 + ch j)).mpr (by omega)]
    show _ = [(2 * 0 + ch j, lst row j ++ [])]
    rw [List.append_nil, show 2 * 0 + ch j = ch j by omega]
  · have hg := h1.resolve_left e
    have e1 : (2 * nd j + ch j) / 2 = nd j := by omega
    rw [if_neg e, gate_notK hk0 (by rw [e1]; exact hg), h3, kid_0 hp (by rw [e1]; exact hg)]
    show _ = ((insN kd pn so se (2 * nd j + ch j)).flatMap _).map _
    rw [List.map_flatMap]
    refine flatMap_cg (fun et _ => ?_)
    rw [List.map_map]
    rfl
theorem push_lt {x : Int} {d m : Nat} (hx : 0 ≤ x ∧ x ≤ 6) (hd : d ≤ 47) : m + (8 - (x + 1)).toNat * 10 ^ (50 - d) + (8 - (0 : Int)).toNat * 10 ^ (50 - (d + 1)) < m + (8 - x).toNat * 10 ^ (50 - d) := by
  obtain ⟨A, hA⟩ : ∃ A : Nat, A = (8 - (x + 1)).toNat := ⟨_, rfl⟩
  have h1 : (8 - x).toNat = A + 1 := by omega
  have h2 : 10 ^ (50 - d) = 10 * 10 ^ (50 - (d + 1)) := by
    rw [show 50 - d = (50 - (d + 1)) + 1 by omega, Nat.pow_succ]
    omega
  have h3 : 0 < 10 ^ (50 - (d + 1)) := Nat.pow_pos (by decide)
  rw [← hA, h1, h2, Nat.add_mul]
  show m + A * (10 * 10 ^ (50 - (d + 1))) + 8 * 10 ^ (50 - (d + 1)) < _
  omega
end PDF
section FW
variable {kd pn so se wE wL gE gL : Int → Int} {size : Int}
theorem s_findWays {F : Nat} {rk : Int → Nat} {wid r : Int} {fr dM dN cw wc wb we wl wla wsz wr wsp nd ch nx row : Int → Int} (hF : 10 ^ 60 ≤ F) (hz : 1 ≤ size ∧ size ≤ 48) (hkd : ∀ i, kd i ≠ 0 → 0 < i ∧ i < size) (hk0 : kd 0 = 0) (hse : ∀ i, 0 ≤ se i ∧ se i ≤ 2) (hp : ∀ i, 0 ≤ pn i ∧ pn i ≤ 3) {os : List Int} (hfu : full kd pn so se os) (hrk : ∀ s et, et ∈ insN kd pn so se s → rk et.2 < rk s) (hrk2 : ∀ s, rk s < 49)
    (hfr : ∀ i, 0 ≤ i → i < 3 * size → (so i = -1 ∧ fr i = -2147483648) ∨ (0 ≤ so i ∧ fr i = so i)) (hfr2 : ∀ i, -2147483648 ≤ fr i ∧ fr i < size) (hd : ∀ n, kd n = 2 → ∀ p c, 0 ≤ p → p < 3 → (c = 0 ∨ c = 1) → dM (6 * n + 2 * p + c) = gE (2 * (3 * n + p) + c) ∧ dN (6 * n + 2 * p + c) = gL (2 * (3 * n + p) + c))
    (hcw : ∀ s, 0 ≤ s → s < 96 → cw s = min ((BW kd pn so se s).length : Int) 9) (hr : 0 ≤ r ∧ r < size) (h8 : 0 ≤ so (3 * r + 1) → (BW kd pn so se (2 * so (3 * r + 1))).length ≤ 8) :
    ok (f_M_findWays F wid pn fr wE wL se dM dN wc wb we wl wla wsz wr wsp cw nd ch nx row r) (fun z => MW wE wL gE gL wid z.1 z.2.1 z.2.2.1 z.2.2.2.1 z.2.2.2.2.1 z.2.2.2.2.2.1 z.2.2.2.2.2.2.1 z.2.2.2.2.2.2.2.1 r (if so (3 * r + 1) < 0 then [] else BW kd pn so se (2 * so (3 * r + 1))) ∧ ∀ m, m ≠ r → ∀ L, MW wE wL gE gL wid wc wb we wl wla wsz wr wsp m L → MW wE wL gE gL wid z.1 z.2.1 z.2.2.1 z.2.2.2.1 z.2.2.2.2.1 z.2.2.2.2.2.1 z.2.2.2.2.2.2.1 z.2.2.2.2.2.2.2.1 m L) := by
  have hF100 : 100 ≤ F := Nat.le_trans (by decide) hF
  have hM0 : MW wE wL gE gL wid (ui wc r 0) wb we wl wla wsz wr wsp r [] := ⟨ui_s _ _ _, by decide, fun i x q => by simp at q⟩
  have hO0 : ∀ m, m ≠ r → ∀ L, MW wE wL gE gL wid wc wb we wl wla wsz wr wsp m L → MW wE wL gE gL wid (ui wc r 0) wb we wl wla wsz wr wsp m L := fun m hm L h => ⟨by rw [ui_n hm]; exact h.1, h.2⟩
  have hBWnil : ∀ s, BW kd pn so se s ≠ [] → s / 2 = 0 ∨ kd (s / 2) = 2 := by
    intro s q
    by_cases e : kd (s / 2) = 2
    · exact Or.inr e
    · rw [BW_rec hz.2 hkd hfu s, ins_nil e] at q
      cases z : isK s with
      | true => rw [isK_i] at z; left; omega
      | false => rw [z] at q; exact absurd rfl q
  unfold f_M_findWays
  have hf3 := hfr (3 * r + 1) (by omega) (by omega)
  have hf2 := hfr2 (3 * r + 1)
  refine ok_gi ⟨by omega, by omega⟩ (ok_bd.mpr (ok_gi ⟨by omega, by omega⟩ (ok_bd.mpr (ok_gr ⟨by omega, by omega⟩ (ok_if (fun h1 => ?_) (fun h1 => ?_))))))
  · rw [if_pos (show so (3 * r + 1) < 0 by omega)]
    exact ok_some.mpr ⟨hM0, hO0⟩
  · have hso : fr (3 * r + 1) = so (3 * r + 1) := by omega
    rw [hso, if_neg (show ¬ so (3 * r + 1) < 0 by omega)]
    have hc0 := hcw (2 * so (3 * r + 1)) (by omega) (by omega)
    have h8' := h8 (by omega)
    refine ok_gi ⟨by omega, by omega⟩ (ok_gr ⟨by omega, by omega⟩ (ok_if (fun h2 => ?_) (fun h2 => ?_)))
    · have hnil : BW kd pn so se (2 * so (3 * r + 1)) = [] := List.length_eq_zero_iff.mp (by omega)
      rw [hnil]
      exact ok_some.mpr ⟨hM0, hO0⟩
    · have hne0 : BW kd pn so se (2 * so (3 * r + 1)) ≠ [] := fun q => by rw [q] at hc0; simp at hc0; omega
      have hk00 := hBWnil _ hne0
      rw [show 2 * so (3 * r + 1) / 2 = so (3 * r + 1) by omega] at hk00
      refine ok_gi ⟨by omega, by omega⟩ (ok_bd.mpr (ok_gi ⟨by omega, by omega⟩ (ok_bd.mpr (ok_gi ⟨by omega, by omega⟩ (ok_bd.mpr ?_)))))
      refine lq13_ok (fun (v : Int) wc1 wb1 we1 wl1 wla1 wsz1 wr1 wsp1 nd ch nx row => ∃ (h : Nat) (L : List (Int × List Int)), v = (h : Int) - 1 ∧ MW wE wL gE gL wid wc1 wb1 we1 wl1 wla1 wsz1 wr1 wsp1 r L ∧ (∀ m, m ≠ r → ∀ L', MW wE wL gE gL wid wc wb we wl wla wsz wr wsp m L' → MW wE wL gE gL wid wc1 wb1 we1 wl1 wla1 wsz1 wr1 wsp1 m L') ∧ L ++ RMw kd pn so se nd ch nx row h = BW kd pn so se (2 * so (3 * r + 1)) ∧
          (∀ j : Nat, j < h → (ch j = 0 ∨ ch j = 1) ∧ (0 ≤ nx j ∧ nx j ≤ 7) ∧ (nd j = 0 ∨ kd (nd j) = 2) ∧ rk (2 * nd j + ch j) + j ≤ 48) ∧ ∀ j : Nat, j + 1 < h → okE gE gL dM dN (row j)) (fun v _ _ _ _ _ _ _ _ _ _ nx _ => msr nx (v + 1).toNat) _ ?_ F 0 _ _ _ _ _ _ _ _ _ _ _ _ ⟨1, [], rfl, hM0, hO0, ?_, ?_, fun j q => by omega⟩ ?_
      · rintro self v wc1 wb1 we1 wl1 wla1 wsz1 wr1 wsp1 nd ch nx row ⟨h, L, hv, hM, hO, hE, hS, hR⟩ hs1
        unfold f_M_findWays_b57
        refine ok_gr ⟨?_, ?_⟩ (ok_if (fun h3 => ?_) (fun h3 => ?_))
        · omega
        · cases h with
          | zero => omega
          | succ h => have := (hS h (by omega)).2.2.2; omega
        · have h0 : h = 0 := by omega
          subst h0
          have hE' : L = BW kd pn so se (2 * so (3 * r + 1)) := by rw [← hE]; exact (List.append_nil L).symm
          rw [hE'] at hM
          exact ok_some.mpr ⟨hM, hO⟩
        · cases h with
          | zero => omega
          | succ d =>
            have ev : v = (d : Int) := by omega
            subst ev
            obtain ⟨hc, hnx, hg, hk⟩ := hS d (by omega)
            have hd48 : d ≤ 48 := by omega
            have hndb : 0 ≤ nd d ∧ nd d < 48 := by
              rcases hg with q | q
              · omega
              · have := hkd _ (show kd (nd d) ≠ 0 by omega); omega
            have hmt : ((d : Int) + 1).toNat = d + 1 := by omega
            have hE2 : L ++ (PDw kd pn so se nd ch nx row d ++ RMw kd pn so se nd ch nx row d) = BW kd pn so se (2 * so (3 * r + 1)) := hE
            refine ok_gi ⟨by omega, by omega⟩ (ok_bd.mpr (ok_gr ⟨by omega, by omega⟩ (ok_if (fun h4 => ?_) (fun h4 => ?_))))
            · -- a way of the clock
              have hPD : PDw kd pn so se nd ch nx row d = [(ch d, lst row d)] := by unfold PDw; rw [if_pos h4]
              rw [hPD] at hE2
              have hL8 : L.length < 8 := by
                have := congrArg List.length hE2
                rw [List.length_append, List.length_append] at this
                simp only [List.length_cons, List.length_nil] at this
                omega
              refine ok_gi ⟨by omega, by omega⟩ (ok_gi ⟨by omega, by omega⟩ (ok_bd.mpr ?_))
              refine ok_ob8 (s_keepMW hF100 (by omega) hM hL8 (d := d) (by omega) (fun k k1 k2 => ?_) (by rw [ui_s]; exact hc)) (fun a1 a2 a3 a4 a5 a6 a7 a8 hz8 => ?_)
              · rw [ui_n (by omega)]
                have := hR k.toNat (by omega)
                rwa [show ((k.toNat : Nat) : Int) = k by omega] at this
              · have hlr : lst (ui row d (ch d)) d = lst row d := lst_cg (fun i i1 i2 => ui_n (by omega))
                rw [ui_s, hlr] at hz8
                refine hs1 _ _ _ _ _ _ _ _ _ _ _ _ _ ⟨d, L ++ [(ch d, lst row d)], by omega, hz8.1, fun m hm L' q => hz8.2 m hm L' (hO m hm L' q), ?_, fun j hj => hS j (by omega), fun j hj => ?_⟩ ?_
                · rw [List.append_assoc, RM_cg (row := ui row d (ch d)) (row' := row) d (fun j _ => ⟨rfl, rfl, rfl⟩) (fun i i1 i2 => ui_n (by omega))]
                  exact hE2
                · rw [ui_n (by omega)]; exact hR j (by omega)
                · show msr nx ((d : Int) + (-1) + 1).toNat < msr nx ((d : Int) + 1).toNat
                  rw [hmt, show ((d : Int) + (-1) + 1).toNat = d by omega]
                  show msr nx d < msr nx d + (8 - nx d).toNat * 10 ^ (50 - d)
                  have : 0 < (8 - nx d).toNat * 10 ^ (50 - d) := Nat.mul_pos (by omega) (Nat.pow_pos (by decide))
                  omega
            · have hkn : kd (nd d) = 2 := hg.resolve_left h4
              have hpn := hp (nd d)
              have hnds := hkd (nd d) (by omega)
              have hPD : PDw kd pn so se nd ch nx row d = (kidF pn so se (2 * nd d + ch d) (nx d)).flatMap (fun et => (BW kd pn so se et.2).map (fun w => (w.1, lst row d ++ et.1 :: w.2))) := by unfold PDw; rw [if_neg h4]
              have es1 : (2 * nd d + ch d) / 2 = nd d := by omega
              have es2 : (2 * nd d + ch d) % 2 = ch d := by omega
              have hnxd : ui nx d (nx d + 1) d = nx d + 1 := ui_s _ _ _
              have hnxo : ∀ j : Nat, j < d → ui nx d (nx d + 1) j = nx j := fun j hj => ui_n (by omega)
              have hmsk : msr (ui nx d (nx d + 1)) (d + 1) < msr nx (d + 1) := by
                show msr (ui nx d (nx d + 1)) d + (8 - ui nx d (nx d + 1) d).toNat * 10 ^ (50 - d) < msr nx d + (8 - nx d).toNat * 10 ^ (50 - d)
                rw [hnxd, msr_cg d hnxo]
                have : (8 - (nx d + 1)).toNat * 10 ^ (50 - d) < (8 - nx d).toNat * 10 ^ (50 - d) := Nat.mul_lt_mul_of_pos_right (by omega) (Nat.pow_pos (by decide))
                omega
              refine ok_gi ⟨by omega, by omega⟩ (ok_bd.mpr (ok_gi ⟨by omega, by omega⟩ (ok_gi ⟨by omega, by omega⟩ (ok_bd.mpr (ok_gi hndb (ok_gr ⟨by omega, by omega⟩ (ok_gr ⟨by omega, by omega⟩ (ok_if (fun h5 => ?_) (fun h5 => ?_)))))))))
              · have hks := kid_s (so := so) (se := se) (pn := pn) (s := 2 * nd d + ch d) (k := nx d) hnx.1 (by rw [es1]; exact h5)
                have hf3 := hfr (3 * nd d + nx d / 2) (by omega) (by omega)
                have hf2 := hfr2 (3 * nd d + nx d / 2)
                have hskip : (stpK so se (2 * nd d + ch d) (nx d)).flatMap (fun et => (BW kd pn so se et.2).map (fun w => (w.1, lst row d ++ et.1 :: w.2))) = [] → ok (f_M_findWays_j250 F wc1 wb1 we1 wl1 wla1 wsz1 wr1 wsp1 self d nd ch (ui nx d (nx d + 1)) row) (fun z => MW wE wL gE gL wid z.1 z.2.1 z.2.2.1 z.2.2.2.1 z.2.2.2.2.1 z.2.2.2.2.2.1 z.2.2.2.2.2.2.1 z.2.2.2.2.2.2.2.1 r (BW kd pn so se (2 * so (3 * r + 1))) ∧ ∀ m, m ≠ r → ∀ L, MW wE wL gE gL wid wc wb we wl wla wsz wr wsp m L → MW wE wL gE gL wid z.1 z.2.1 z.2.2.1 z.2.2.2.1 z.2.2.2.2.1 z.2.2.2.2.2.1 z.2.2.2.2.2.2.1 z.2.2.2.2.2.2.2.1 m L) := by
                  intro q
                  unfold f_M_findWays_j250
                  refine hs1 _ _ _ _ _ _ _ _ _ _ _ _ _ ⟨d + 1, L, by omega, hM, hO, ?_, fun j hj => ?_, hR⟩ (by show msr _ ((d : Int) + 1).toNat < msr _ ((d : Int) + 1).toNat; rw [hmt]; exact hmsk)
                  · show L ++ (PDw kd pn so se nd ch (ui nx d (nx d + 1)) row d ++ RMw kd pn so se nd ch (ui nx d (nx d + 1)) row d) = _
                    rw [RM_cg (nx := ui nx d (nx d + 1)) (nx' := nx) d (fun j hj => ⟨rfl, rfl, hnxo j hj⟩) (fun i _ _ => rfl), ← hE2, hPD, hks, List.flatMap_append, q, List.nil_append]
                    unfold PDw
                    rw [if_neg h4, hnxd]
                  · by_cases e : j = d
                    · subst e
                      rw [hnxd]
                      exact ⟨hc, by omega, hg, hk⟩
                    · rw [hnxo j (by omega)]
                      exact hS j (by omega)
                have hstn : ∀ {P : Prop}, (0 ≤ so (3 * nd d + nx d / 2) ∧ ltz (se (3 * nd d + nx d / 2)) (nx d % 2) (ch d) = true → P) → ¬ P → stpK so se (2 * nd d + ch d) (nx d) = [] := by
                  intro P a b
                  unfold stpK
                  rw [es1, es2, if_neg (fun z => b (a z))]
                refine ok_gp ⟨by omega, by omega⟩ (ok_gi ⟨by omega, by omega⟩ (ok_bd.mpr (ok_gr ⟨by omega, by omega⟩ (ok_if (fun h6 => ?_) (fun h6 => ?_)))))
                · refine hskip ?_
                  rw [hstn (P := False) (fun z => by omega) id]
                  rfl
                · have hso2 : fr (3 * nd d + nx d / 2) = so (3 * nd d + nx d / 2) := by omega
                  rw [hso2]
                  have hct := hcw (2 * so (3 * nd d + nx d / 2) + nx d % 2) (by omega) (by omega)
                  refine ok_gp ⟨by omega, by omega⟩ (ok_gi ⟨by omega, by omega⟩ (ok_gr ⟨by omega, by omega⟩ (ok_if (fun h7 => ?_) (fun h7 => ?_))))
                  · refine hskip ?_
                    have hnil : BW kd pn so se (2 * so (3 * nd d + nx d / 2) + nx d % 2) = [] := List.length_eq_zero_iff.mp (by omega)
                    unfold stpK
                    rw [es1, es2]
                    by_cases q : 0 ≤ so (3 * nd d + nx d / 2) ∧ ltz (se (3 * nd d + nx d / 2)) (nx d % 2) (ch d) = true
                    · rw [if_pos q, List.flatMap_cons, List.flatMap_nil, List.append_nil, hnil]
                      rfl
                    · rw [if_neg q]
                      rfl
                  · refine ok_gp ⟨by omega, by omega⟩ (ok_gp ⟨by omega, by omega⟩ (ok_gi ⟨by omega, by omega⟩ ?_))
                    rw [e_Mlets hse (by omega) (by omega) hc, ob1_s]
                    have z1 := bz_1 (ltz (se (3 * nd d + nx d / 2)) (nx d % 2) (ch d) = true)
                    have z2 := bz_01 (ltz (se (3 * nd d + nx d / 2)) (nx d % 2) (ch d) = true)
                    refine ok_gr ⟨by omega, by omega⟩ (ok_if (fun h8 => ?_) (fun h8 => ?_))
                    · refine hskip ?_
                      rw [hstn (P := False) (fun z => by have := z1.mpr z.2; omega) id]
                      rfl
                    · have hl : ltz (se (3 * nd d + nx d / 2)) (nx d % 2) (ch d) = true := z1.mp (by omega)
                      have hstk : stpK so se (2 * nd d + ch d) (nx d) = [(8 * nd d + 2 * (nx d / 2) + ch d, 2 * so (3 * nd d + nx d / 2) + nx d % 2)] := by
                        unfold stpK
                        rw [es1, es2, if_pos ⟨by omega, hl⟩]
                      have hins : (8 * nd d + 2 * (nx d / 2) + ch d, 2 * so (3 * nd d + nx d / 2) + nx d % 2) ∈ insN kd pn so se (2 * nd d + ch d) := by
                        rw [← kid_0 (so := so) (se := se) hp (s := 2 * nd d + ch d) (by rw [es1]; exact hkn)]
                        refine insN_mem.mpr ?_ |> fun q => by rw [kid_0 hp (by rw [es1]; exact hkn)]; exact q
                        rw [es1, es2]
                        exact ⟨hkn, nx d / 2, nx d % 2, by omega, by omega, by omega, hl, rfl⟩
                      have hrk3 := hrk _ _ hins
                      simp only at hrk3
                      have hd47 : d ≤ 47 := by omega
                      have hBt : BW kd pn so se (2 * so (3 * nd d + nx d / 2) + nx d % 2) ≠ [] := fun q => by rw [q] at hct; simp at hct; omega
                      have hkt := hBWnil _ hBt
                      rw [show (2 * so (3 * nd d + nx d / 2) + nx d % 2) / 2 = so (3 * nd d + nx d / 2) by omega] at hkt
                      have e1 : (d : Int) + 1 = ((d + 1 : Nat) : Int) := by omega
                      refine ok_gp ⟨by omega, by omega⟩ (ok_gi ⟨by omega, by omega⟩ (ok_gi ⟨by omega, by omega⟩ (ok_bd.mpr (ok_gi ⟨by omega, by omega⟩ (ok_bd.mpr (ok_gp ⟨by omega, by omega⟩ (ok_gi ⟨by omega, by omega⟩ (ok_bd.mpr (ok_gi ⟨by omega, by omega⟩ (ok_bd.mpr ?_))))))))))
                      unfold f_M_findWays_j250
                      rw [e1]
                      have hrow1 : lst (ui row d (8 * nd d + 2 * (nx d / 2) + ch d)) ((d + 1 : Nat) : Int) = lst row d ++ [8 * nd d + 2 * (nx d / 2) + ch d] := by
                        rw [← e1, lst_succ (by omega)]
                      refine hs1 _ _ _ _ _ _ _ _ _ _ _ _ _ ⟨d + 2, L, by omega, hM, hO, ?_, fun j hj => ?_, fun j hj => ?_⟩ ?_
                      · show L ++ (PDw kd pn so se _ _ _ _ (d + 1) ++ (PDw kd pn so se _ _ _ _ d ++ RMw kd pn so se _ _ _ _ d)) = _
                        rw [PD_full hz.2 hkd hk0 hp hfu (by rw [ui_s]; exact hkt) (by rw [ui_s]; omega) (ui_s _ _ _), ui_s, ui_s, hrow1, PD_cg (j := d) (nd' := nd) (ch' := ch) (nx' := ui nx d (nx d + 1)) (row' := row) (ui_n (by omega)) (ui_n (by omega)) (ui_n (by omega)) (fun i i1 i2 => ui_n (by omega)), RM_cg (nd' := nd) (ch' := ch) (nx' := nx) (row' := row) d (fun j hj => ⟨ui_n (by omega), ui_n (by omega), by rw [ui_n (by omega), ui_n (by omega)]⟩) (fun i i1 i2 => ui_n (by omega)), ← hE2, hPD, hks, List.flatMap_append, hstk, List.flatMap_cons, List.flatMap_nil, List.append_nil]
                        have hPD2 : PDw kd pn so se nd ch (ui nx d (nx d + 1)) row d = (kidF pn so se (2 * nd d + ch d) (nx d + 1)).flatMap (fun et => (BW kd pn so se et.2).map (fun w => (w.1, lst row d ++ et.1 :: w.2))) := by unfold PDw; rw [if_neg h4, hnxd]
                        rw [hPD2, List.append_assoc]
                        congr 2
                        refine List.map_congr_left (fun w _ => ?_)
                        rw [List.append_assoc]
                        rfl
                      · by_cases e2 : j = d + 1
                        · subst e2
                          rw [ui_s, ui_s, ui_s]
                          exact ⟨by omega, by omega, hkt, by omega⟩
                        · have q1 : ∀ (A : Int → Int) (x : Int), ui A ((d + 1 : Nat) : Int) x (j : Int) = A j := fun A x => ui_n (by omega)
                          rw [q1 nd, q1 ch, q1 (ui nx d (nx d + 1))]
                          by_cases e3 : j = d
                          · subst e3
                            rw [hnxd]
                            exact ⟨hc, by omega, hg, hk⟩
                          · rw [hnxo j (by omega)]
                            exact hS j (by omega)
                      · by_cases e3 : j = d
                        · subst e3
                          rw [ui_s]
                          have hdd := hd (nd j) hkn (nx j / 2) (ch j) (by omega) (by omega) hc
                          unfold okE
                          rw [show (8 * nd j + 2 * (nx j / 2) + ch j) / 8 = nd j by omega, show (8 * nd j + 2 * (nx j / 2) + ch j) / 2 % 4 = nx j / 2 by omega, show (8 * nd j + 2 * (nx j / 2) + ch j) % 2 = ch j by omega]
                          exact ⟨by omega, by omega, hdd.1, hdd.2⟩
                        · rw [ui_n (by omega)]
                          exact hR j (by omega)
                      · show msr _ (((d + 1 : Nat) : Int) + 1).toNat < msr nx ((d : Int) + 1).toNat
                        rw [hmt, show (((d + 1 : Nat) : Int) + 1).toNat = d + 2 by omega]
                        show msr _ d + (8 - (_ : Int)).toNat * 10 ^ (50 - d) + (8 - (_ : Int)).toNat * 10 ^ (50 - (d + 1)) < msr nx d + (8 - nx d).toNat * 10 ^ (50 - d)
                        rw [ui_s, ui_n (show ((d : Nat) : Int) ≠ ((d + 1 : Nat) : Int) by omega), hnxd, msr_cg (nx' := nx) d (fun j hj => by rw [ui_n (by omega), ui_n (by omega)])]
                        exact push_lt (by omega) hd47
              · -- back
                refine hs1 _ _ _ _ _ _ _ _ _ _ _ _ _ ⟨d, L, by omega, hM, hO, ?_, fun j hj => ?_, fun j hj => hR j (by omega)⟩ ?_
                · rw [RM_cg (nx := ui nx d (nx d + 1)) (nx' := nx) d (fun j hj => ⟨rfl, rfl, hnxo j hj⟩) (fun i _ _ => rfl), ← hE2, hPD, kid_e (by rw [es1]; omega)]
                  rfl
                · rw [hnxo j hj]; exact hS j (by omega)
                · show msr _ ((d : Int) + (-1) + 1).toNat < msr nx ((d : Int) + 1).toNat
                  rw [hmt, show ((d : Int) + (-1) + 1).toNat = d by omega, msr_cg d hnxo]
                  show msr nx d < msr nx d + (8 - nx d).toNat * 10 ^ (50 - d)
                  have : 0 < (8 - nx d).toNat * 10 ^ (50 - d) := Nat.mul_pos (by omega) (Nat.pow_pos (by decide))
                  omega
      · show [] ++ (PDw kd pn so se _ _ _ _ 0 ++ []) = _
        have hpd := PD_full (nd := ui nd 0 (so (3 * r + 1))) (ch := ui ch 0 0) (nx := ui nx 0 0) (row := row) (j := 0) hz.2 hkd hk0 hp hfu (by
          have q : ui nd 0 (so (3 * r + 1)) ((0 : Nat) : Int) = so (3 * r + 1) := ui_s _ _ _
          rw [q]; exact hk00) (Or.inl (ui_s _ _ _)) (ui_s _ _ _)
        rw [List.nil_append, List.append_nil, hpd]
        show (BW kd pn so se (2 * ui nd 0 (so (3 * r + 1)) 0 + ui ch 0 0 0)).map _ = _
        rw [ui_s, ui_s, Int.add_zero]
        exact (List.map_congr_left (fun w _ => rfl)).trans (List.map_id _)
      · intro j hj
        have ej : j = 0 := by omega
        subst ej
        show (ui ch 0 0 0 = 0 ∨ _) ∧ (0 ≤ ui nx 0 0 0 ∧ ui nx 0 0 0 ≤ 7) ∧ (ui nd 0 _ 0 = 0 ∨ kd (ui nd 0 _ 0) = 2) ∧ rk (2 * ui nd 0 _ 0 + ui ch 0 0 0) + 0 ≤ 48
        rw [ui_s, ui_s, ui_s]
        have := hrk2 (2 * so (3 * r + 1) + 0)
        exact ⟨Or.inl rfl, by omega, hk00, by omega⟩
      · show 0 + (8 - ui nx 0 0 0).toNat * 10 ^ 50 < F
        rw [ui_s]
        exact Nat.lt_of_lt_of_le (by decide) hF
end FW
