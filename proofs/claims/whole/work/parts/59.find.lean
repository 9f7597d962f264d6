/-! the class's clock ways of every node -/
def WT (cn la ba ea fa : Int → Int) (n : Int) (L : List (Int × Int × Int × Int)) : Prop := cn n = (L.length : Int) ∧ L.length ≤ 8 ∧ ∀ (i : Nat) (x : Int × Int × Int × Int), L[i]? = some x → la (8 * n + i) = x.1 ∧ ba (8 * n + i) = x.2.1 ∧ ea (8 * n + i) = x.2.2.1 ∧ fa (8 * n + i) = x.2.2.2
section WTS
variable {F : Nat} {cn la ba ea fa : Int → Int} {n m : Int} {L : List (Int × Int × Int × Int)}
theorem e_addWay {x2 x3 x4 x5 : Int} (hn : 0 ≤ n ∧ n < 48) (hc : 0 ≤ cn n ∧ cn n < 8) : f_ClockWays_addWay F cn la ba ea fa n x2 x3 x4 x5 = some (ui cn n (cn n + 1), ui la (8 * n + cn n) x2, ui ba (8 * n + cn n) x3, ui ea (8 * n + cn n) x4, ui fa (8 * n + cn n) x5) := by
  apply ok_eq
  unfold f_ClockWays_addWay
  rw [show n * 8 + cn n = 8 * n + cn n by omega]
  have h : 0 ≤ 8 * n + cn n ∧ 8 * n + cn n < ((384 : Nat) : Int) := by omega
  exact ok_gi hn (ok_bd.mpr (ok_gi h (ok_bd.mpr (ok_gi h (ok_bd.mpr (ok_gi h (ok_bd.mpr (ok_gi h (ok_bd.mpr (ok_gi hn (ok_gi hn (ok_bd.mpr (ok_some.mpr rfl)))))))))))))
theorem WT_add (h : WT cn la ba ea fa n L) (h8 : L.length < 8) (x : Int × Int × Int × Int) : WT (ui cn n (cn n + 1)) (ui la (8 * n + cn n) x.1) (ui ba (8 * n + cn n) x.2.1) (ui ea (8 * n + cn n) x.2.2.1) (ui fa (8 * n + cn n) x.2.2.2) n (L ++ [x]) := by
  obtain ⟨h1, h2, h3⟩ := h
  refine ⟨by rw [ui_s, List.length_append, h1]; show _ = ((L.length + 1 : Nat) : Int); omega, by rw [List.length_append]; show L.length + 1 ≤ 8; omega, fun i y hy => ?_⟩
  rw [ui_e, ui_e, ui_e, ui_e, h1]
  by_cases e : i < L.length
  · rw [List.getElem?_append_left e] at hy
    rw [if_neg (by omega), if_neg (by omega), if_neg (by omega), if_neg (by omega)]
    exact h3 i y hy
  · rw [List.getElem?_append_right (by omega)] at hy
    have e2 : i - L.length = 0 := by
      by_cases q : i - L.length = 0
      · exact q
      · have : (([x] : List (Int × Int × Int × Int))[i - L.length]?) = none := List.getElem?_eq_none (by show 1 ≤ _; omega)
        rw [this] at hy; cases hy
    rw [e2] at hy
    have e3 : x = y := by simpa using hy
    rw [if_pos (by omega), if_pos (by omega), if_pos (by omega), if_pos (by omega), e3]
    exact ⟨rfl, rfl, rfl, rfl⟩
theorem WT_oth {v k x1 x2 x3 x4 : Int} (h : WT cn la ba ea fa m L) (hm : m ≠ n) (hk : 0 ≤ k ∧ k < 8) : WT (ui cn n v) (ui la (8 * n + k) x1) (ui ba (8 * n + k) x2) (ui ea (8 * n + k) x3) (ui fa (8 * n + k) x4) m L := by
  obtain ⟨h1, h2, h3⟩ := h
  refine ⟨by rw [ui_n hm]; exact h1, h2, fun i y hy => ?_⟩
  have hi : i < L.length := by
    by_cases q : i < L.length
    · exact q
    · rw [List.getElem?_eq_none (by omega)] at hy; cases hy
  rw [ui_n (by omega), ui_n (by omega), ui_n (by omega), ui_n (by omega)]
  exact h3 i y hy
theorem WT_zero (h : WT cn la ba ea fa m L) (hm : m ≠ n) : WT (ui cn n 0) la ba ea fa m L := ⟨by rw [ui_n hm]; exact h.1, h.2⟩
end WTS
theorem isW_len {ins : Int → List (Int × Int)} {rk : Int → Nat} (hr : ∀ s et, et ∈ ins s → rk et.2 < rk s) {x : Int} : ∀ (w : List Int) (s : Int), isW ins x w s → w.length ≤ rk s := by
  intro w
  induction w with
  | nil => intro s _; exact Nat.zero_le _
  | cons e es ih =>
    intro s h
    obtain ⟨t, h1, h2⟩ := h
    have a := ih t h2
    have b := hr s _ h1
    rw [List.length_cons]
    simp only at b
    omega
section FND
variable {kd pn so se wE wL gE gL : Int → Int} {size : Int}
theorem BW_w48 (hz : size ≤ 48) (hkd : ∀ i, kd i ≠ 0 → 0 < i ∧ i < size) (hk0 : kd 0 = 0) {os : List Int} (h : full kd pn so se os) {s : Int} {w : Int × List Int} (hw : w ∈ BW kd pn so se s) : w.2.length ≤ 48 := by
  obtain ⟨rk, h1, h2⟩ := full_rk hz hkd h
  have a := isW_len h1 w.2 s (BW_in hz hkd hk0 h hw).2
  have b := h2 s
  omega
theorem s_baseOf {F : Nat} {a b : Int → Int} {sz wid : Int} {el pa ln ea la fi nx : Int → Int} {Wd : Int → Int × List Int} {Ch : Int → List Int} (hF : 100 ≤ F) (h : TR a b sz el pa ln ea la fi nx Wd Ch) {t : Int} (ht : 0 ≤ t ∧ t < sz) (h48 : (Wd t).2.length ≤ 48) :
    f_ClockWays_baseOf F el pa wid t = some (if (Wd t).1 = 0 then 0 else wid) := by
  have hsz := TR_sz h
  apply ok_eq
  unfold f_ClockWays_baseOf
  refine lq2_ok (fun u i => (0 ≤ u ∧ u < sz) ∧ (0 ≤ i ∧ i ≤ 48) ∧ (Wd u).1 = (Wd t).1 ∧ ((Wd u).2.length : Int) + i ≤ 48) (fun _ i => (48 - i).toNat) _ ?_ F t 0 ⟨ht, by omega, rfl, by omega⟩ (by show (48 - (0 : Int)).toNat < F; omega)
  rintro self u i ⟨hu, hi, h1, h2⟩ hs
  have hnode := h.1 u hu.1 hu.2
  have hend : pa u = -1 → ok (f_ClockWays_baseOf_j32 F el wid u) (fun z => z = if (Wd t).1 = 0 then 0 else wid) := by
    intro q
    have hw : Wd u = (el u, []) := by
      rcases hnode.1 with r | r
      · exact r.2
      · omega
    unfold f_ClockWays_baseOf_j32
    refine ok_gi ⟨by omega, by omega⟩ ?_
    rw [e_elementOf, ob1_s]
    have e1 : el u = (Wd t).1 := by rw [← h1, hw]
    refine ok_gr ⟨by omega, by omega⟩ (ok_gr ⟨by omega, by omega⟩ (ok_if (fun r => ok_some.mpr ?_) (fun r => ok_some.mpr ?_)))
    · rw [if_pos (by omega)]
    · rw [if_neg (by omega)]
  unfold f_ClockWays_baseOf_b4
  refine ok_gr ⟨by omega, by omega⟩ (ok_if (fun h3 => hend ?_) (fun h3 => ?_))
  · rcases hnode.1 with r | ⟨r1, r2⟩
    · exact r.1
    · have := congrArg (fun w : Int × List Int => w.2.length) r2
      simp only [List.length_cons] at this
      omega
  · refine ok_gi ⟨by omega, by omega⟩ (ok_gr ⟨by omega, by omega⟩ (ok_if (fun h4 => hend ?_) (fun h4 => ?_)))
    · rcases hnode.1 with r | ⟨r1, r2⟩
      · exact r.1
      · omega
    · rcases hnode.1 with r | ⟨r1, r2⟩
      · omega
      · refine ok_gi ⟨by omega, by omega⟩ (ok_bd.mpr (hs _ _ ⟨by omega, by omega, ?_, ?_⟩ (by show (48 - (i + 1)).toNat < (48 - i).toNat; omega)))
        · rw [← h1, r2]
        · have := congrArg (fun w : Int × List Int => w.2.length) r2
          simp only [List.length_cons] at this
          omega
/-- a tree's node as a register's clock way -/
def wy (wE wL : Int → Int) (wid : Int) (Wd : Int → Int × List Int) (ea la : Int → Int) (n t : Int) : Int × Int × Int × Int := (t, (if (Wd t).1 = 0 then 0 else wid), ea t + wE (3 * n + 1), la t + wL (3 * n + 1))
def WL (kd so wE wL : Int → Int) (wid : Int) (Wd : Int → Int × List Int) (Ch : Int → List Int) (ea la : Int → Int) (n : Int) : List (Int × Int × Int × Int) :=
  if kd n = 3 then (if so (3 * n + 1) < 0 then [] else (Ch (2 * so (3 * n + 1))).map (wy wE wL wid Wd ea la n)) else if kd n = 1 ∨ kd n = 4 then [(-1, 0, 0, 0)] else []
theorem s_gather {F : Nat} {a b : Int → Int} {sz wid : Int} {el pa ln ea la fi nx : Int → Int} {Wd : Int → Int × List Int} {Ch : Int → List Int} (hF : 200 ≤ F) (hs : ∀ i, -1 ≤ so i ∧ so i < 48) (h : TR a b sz el pa ln ea la fi nx Wd Ch) {n : Int} (hn : 0 ≤ n ∧ n < 48) (h48 : 0 ≤ so (3 * n + 1) → ∀ t ∈ Ch (2 * so (3 * n + 1)), (Wd t).2.length ≤ 48)
    {c l ba e f : Int → Int} (h0 : c n = 0) :
    ok (f_ClockWays_gather F el pa ea la fi nx c l ba e f wid so wE wL n) (fun r => WT r.1 r.2.1 r.2.2.1 r.2.2.2.1 r.2.2.2.2 n (if so (3 * n + 1) < 0 then [] else (Ch (2 * so (3 * n + 1))).map (wy wE wL wid Wd ea la n)) ∧ ∀ m, m ≠ n → ∀ L, WT c l ba e f m L → WT r.1 r.2.1 r.2.2.1 r.2.2.2.1 r.2.2.2.2 m L) := by
  have hsz := TR_sz h
  have hW0 : WT c l ba e f n [] := ⟨h0, by decide, fun i x q => by simp at q⟩
  unfold f_ClockWays_gather
  refine ok_bd.mpr ?_
  rw [show n * 3 + 1 = 3 * n + 1 by omega]
  have hso := hs (3 * n + 1)
  refine ok_gi ⟨by omega, by omega⟩ (ok_gr ⟨by omega, by omega⟩ (ok_if (fun h1 => ?_) (fun h1 => ?_)))
  · rw [if_neg (by omega), Int.add_zero]
    refine ok_gi ⟨by omega, by omega⟩ (ok_gi ⟨by omega, by omega⟩ (ok_bd.mpr ?_))
    have hch := h.2.1 (2 * so (3 * n + 1)) (by omega) (by omega)
    refine lq7_ok (fun (at' i : Int) c1 l1 b1 e1 f1 => ∃ D R, Ch (2 * so (3 * n + 1)) = D ++ R ∧ i = (D.length : Int) ∧ chn nx at' R ∧ WT c1 l1 b1 e1 f1 n (D.map (wy wE wL wid Wd ea la n)) ∧ ∀ m, m ≠ n → ∀ L, WT c l ba e f m L → WT c1 l1 b1 e1 f1 m L) (fun _ i _ _ _ _ _ => (8 - i).toNat) _ ?_ F _ 0 _ _ _ _ _ ⟨[], Ch (2 * so (3 * n + 1)), rfl, rfl, hch.1, hW0, fun m _ L q => q⟩ (by show (8 - (0 : Int)).toNat < F; omega)
    rintro self at' i c1 l1 b1 e1 f1 ⟨D, R, hDR, hi, hR, hW, hO⟩ hs1
    have hl := congrArg List.length hDR
    rw [List.length_append] at hl
    have hl8 := hch.2.2
    have hout : R = [] → ok (some (c1, l1, b1, e1, f1)) (fun r => WT r.1 r.2.1 r.2.2.1 r.2.2.2.1 r.2.2.2.2 n ((Ch (2 * so (3 * n + 1))).map (wy wE wL wid Wd ea la n)) ∧ ∀ m, m ≠ n → ∀ L, WT c l ba e f m L → WT r.1 r.2.1 r.2.2.1 r.2.2.2.1 r.2.2.2.2 m L) := by
      intro q
      rw [q, List.append_nil] at hDR
      rw [hDR]
      exact ok_some.mpr ⟨hW, hO⟩
    unfold f_ClockWays_gather_b41
    refine ok_gr ⟨by omega, by omega⟩ (ok_if (fun h5 => hout ?_) (fun h5 => ?_))
    · have : R.length = 0 := by omega
      exact List.length_eq_zero_iff.mp this
    · cases R with
      | nil =>
        have ea' : at' = -1 := hR
        subst ea'
        exact ok_gr ⟨by omega, by omega⟩ (ok_if (fun _ => hout rfl) (fun q => by omega))
      | cons t R =>
        obtain ⟨ea', hR⟩ := hR
        subst ea'
        have hmem : at' ∈ Ch (2 * so (3 * n + 1)) := by rw [hDR]; exact List.mem_append_right _ List.mem_cons_self
        have ht := hch.2.1 at' hmem
        refine ok_gr ⟨by omega, by omega⟩ (ok_if (fun q => by omega) (fun _ => ?_))
        rw [s_baseOf (by omega) h ht (h48 h1 at' hmem), ob1_s]
        rw [List.length_cons] at hl
        have hc1 := hW.1
        rw [List.length_map] at hc1
        refine ok_gi ⟨by omega, by omega⟩ (ok_gi ⟨by omega, by omega⟩ (ok_gi ⟨by omega, by omega⟩ (ok_gi ⟨by omega, by omega⟩ ?_)))
        rw [e_addWay hn (by omega), ob5_s]
        refine ok_gi ⟨by omega, by omega⟩ (ok_bd.mpr (hs1 _ _ _ _ _ _ _ ⟨D ++ [at'], R, ?_, ?_, hR, ?_, fun m hm L q => ?_⟩ (by show (8 - (i + 1)).toNat < (8 - i).toNat; omega)))
        · rw [hDR, List.append_assoc]; rfl
        · rw [List.length_append, hi]
          show _ = ((D.length + 1 : Nat) : Int)
          omega
        · rw [List.map_append]
          exact WT_add hW (by rw [List.length_map]; omega) (wy wE wL wid Wd ea la n at')
        · exact WT_oth (hO m hm L q) hm (by omega)
  · rw [if_pos (by omega)]
    exact ok_some.mpr ⟨hW0, fun m _ L q => q⟩
/-- what the class knows of the clock's ways -/
def CF (kd pn so se wE wL gE gL : Int → Int) (size wid sz : Int) (el pa ln ea la fi nx c l ba e f : Int → Int) : Prop :=
  ∃ Wd Ch, TR (dE wE gE) (dE wL gL) sz el pa ln ea la fi nx Wd Ch ∧ (∀ n, 0 ≤ n → n < size → WT c l ba e f n (WL kd so wE wL wid Wd Ch ea la n)) ∧ (∀ n, 0 ≤ n → n < size → kd n = 3 → 0 ≤ so (3 * n + 1) → List.Perm (wds Wd Ch (2 * so (3 * n + 1))) (BW kd pn so se (2 * so (3 * n + 1)))) ∧ ∀ t u, 0 ≤ t → t < sz → 0 ≤ u → u < sz → Wd t = Wd u → t = u
theorem s_find {F : Nat} {G : Int → Int} {cn wid : Int} (hF : 200 ≤ F) (hz : 1 ≤ size ∧ size ≤ 48) (hk : ∀ i, 0 ≤ kd i ∧ kd i ≤ 4) (hkd : ∀ i, kd i ≠ 0 → 0 < i ∧ i < size) (hk0 : kd 0 = 0) (hs : ∀ i, -1 ≤ so i ∧ so i < size) (hse : ∀ i, 0 ≤ se i ∧ se i ≤ 2) (hw : ∀ i, 0 ≤ wE i ∧ wE i ≤ wL i ∧ wL i ≤ 10000) (hg : ∀ i, 0 ≤ gE i ∧ gE i ≤ gL i ∧ gL i ≤ 10000) (hp : ∀ i, 0 ≤ pn i ∧ pn i ≤ 3) (hcn : 0 ≤ cn ∧ cn ≤ 48) (hfu : full kd pn so se (lst G cn))
    {sz : Int} {N el pa ln ea la fi nx c l ba e f kc ke kl : Int → Int} :
    ok (f_ClockWays_find F sz N el pa ln ea la fi nx c l ba e f kc ke kl cn G wid size kd pn so wE wL se gE gL) (fun r => (r.1 = 0 ∧ ∃ n, (0 ≤ n ∧ n < size) ∧ tang kd pn so se n) ∨ ((r.1 = 1 ∧ ∀ n, 0 ≤ n → n < size → ¬ tang kd pn so se n) ∧
      CF kd pn so se wE wL gE gL size wid r.2.2.1 r.2.2.2.1 r.2.2.2.2.1 r.2.2.2.2.2.1 r.2.2.2.2.2.2.1 r.2.2.2.2.2.2.2.1 r.2.2.2.2.2.2.2.2.1 r.2.2.2.2.2.2.2.2.2.1 r.2.2.2.2.2.2.2.2.2.2.1 r.2.2.2.2.2.2.2.2.2.2.2.1 r.2.2.2.2.2.2.2.2.2.2.2.2.1 r.2.2.2.2.2.2.2.2.2.2.2.2.2.1 r.2.2.2.2.2.2.2.2.2.2.2.2.2.2.1)) := by
  unfold f_ClockWays_find
  refine ok_ob4 (s_isTangled hF hz hk hkd hk0 hs hse hw hg hp hcn hfu) (fun r1 k1 k2 k3 ht => ?_)
  have ht' : (r1 = 1 ∧ ∃ n, (0 ≤ n ∧ n < size) ∧ tang kd pn so se n) ∨ (r1 = 0 ∧ ∀ n, 0 ≤ n → n < size → ¬ tang kd pn so se n) := ht
  have hr1 : r1 = 0 ∨ r1 = 1 := ht'.elim (fun q => Or.inr q.1) (fun q => Or.inl q.1)
  refine ok_gr ⟨by omega, by omega⟩ (ok_if (fun h => ?_) (fun h => ?_))
  · have hnt : ∀ n, 0 ≤ n → n < size → ¬ tang kd pn so se n := (ht'.resolve_left (fun q => by have := q.1; omega)).2
    refine ok_ob1 (s_needed hF hz hk hkd hk0 hs hse hp hcn hfu hnt) (fun M hM => ?_)
    obtain ⟨hM1, hM2, hM3, hM4⟩ := hM
    refine ok_ob8 (s_growTree (wE := wE) (wL := wL) (gE := gE) (gL := gL) hF hz hkd hk0 hs hse hp hcn hfu hM1 hM2 hM4) (fun sz1 el1 pa1 ln1 ea1 la1 fi1 nx1 hT => ?_)
    obtain ⟨Wd, Ch, hTR, hperm, hinj⟩ := hT
    have hTR' : TR (dE wE gE) (dE wL gL) sz1 el1 pa1 ln1 ea1 la1 fi1 nx1 Wd Ch := hTR
    have hreg : ∀ n, 0 ≤ n → n < size → kd n = 3 → 0 ≤ so (3 * n + 1) → List.Perm (wds Wd Ch (2 * so (3 * n + 1))) (BW kd pn so se (2 * so (3 * n + 1))) := by
      intro n n1 n2 n3 n4
      have := hs (3 * n + 1)
      exact hperm _ (by omega) (by omega) (Or.inl (hM3 n n1 n2 n3 n4))
    refine lq6_ok (fun (v : Int) c l ba e f => (0 ≤ v ∧ v ≤ size) ∧ ∀ n, 0 ≤ n → n < v → WT c l ba e f n (WL kd so wE wL wid Wd Ch ea1 la1 n)) (fun v _ _ _ _ _ => (48 - v).toNat) _ ?_ F 0 _ _ _ _ _ ⟨by omega, fun n a b => by omega⟩ (by show (48 - (0 : Int)).toNat < F; omega)
    clear hTR hM4 hM1 hM2
    rintro self v c l ba e f ⟨hv, hI⟩ hs1
    unfold f_ClockWays_find_b19
    refine ok_gr ⟨by omega, by omega⟩ (ok_gr ⟨by omega, by omega⟩ (ok_if (fun h1 => ?_) (fun h1 => ?_)))
    · exact ok_gb (Or.inr rfl) (ok_some.mpr (Or.inr ⟨⟨rfl, hnt⟩, Wd, Ch, hTR', fun n a b => hI n a (by omega), hreg, hinj⟩))
    · have hkv := hk v
      have hmeas : (48 - (v + 1)).toNat < (48 - v).toNat := by omega
      have hW0 : WT (ui c v 0) l ba e f v [] := ⟨ui_s _ _ _, by decide, fun i x q => by simp at q⟩
      have hgo : ∀ c1 l1 b1 e1 f1, WT c1 l1 b1 e1 f1 v (WL kd so wE wL wid Wd Ch ea1 la1 v) → (∀ m, m ≠ v → ∀ L, WT (ui c v 0) l ba e f m L → WT c1 l1 b1 e1 f1 m L) → ok (self (v + 1) c1 l1 b1 e1 f1) (fun r => (r.1 = 0 ∧ ∃ n, (0 ≤ n ∧ n < size) ∧ tang kd pn so se n) ∨ ((r.1 = 1 ∧ ∀ n, 0 ≤ n → n < size → ¬ tang kd pn so se n) ∧
          CF kd pn so se wE wL gE gL size wid r.2.2.1 r.2.2.2.1 r.2.2.2.2.1 r.2.2.2.2.2.1 r.2.2.2.2.2.2.1 r.2.2.2.2.2.2.2.1 r.2.2.2.2.2.2.2.2.1 r.2.2.2.2.2.2.2.2.2.1 r.2.2.2.2.2.2.2.2.2.2.1 r.2.2.2.2.2.2.2.2.2.2.2.1 r.2.2.2.2.2.2.2.2.2.2.2.2.1 r.2.2.2.2.2.2.2.2.2.2.2.2.2.1 r.2.2.2.2.2.2.2.2.2.2.2.2.2.2.1)) := by
        intro c1 l1 b1 e1 f1 q1 q2
        refine hs1 _ _ _ _ _ _ ⟨by omega, fun n a b => ?_⟩ hmeas
        by_cases en : n = v
        · rw [en]; exact q1
        · exact q2 n en _ (WT_zero (hI n a (by omega)) en)
      have hio : (kd v = 1 ∨ kd v = 4) → ok (f_ClockWays_find_j84 F v l ba e f self (ui c v 0)) (fun r => (r.1 = 0 ∧ ∃ n, (0 ≤ n ∧ n < size) ∧ tang kd pn so se n) ∨ ((r.1 = 1 ∧ ∀ n, 0 ≤ n → n < size → ¬ tang kd pn so se n) ∧
          CF kd pn so se wE wL gE gL size wid r.2.2.1 r.2.2.2.1 r.2.2.2.2.1 r.2.2.2.2.2.1 r.2.2.2.2.2.2.1 r.2.2.2.2.2.2.2.1 r.2.2.2.2.2.2.2.2.1 r.2.2.2.2.2.2.2.2.2.1 r.2.2.2.2.2.2.2.2.2.2.1 r.2.2.2.2.2.2.2.2.2.2.2.1 r.2.2.2.2.2.2.2.2.2.2.2.2.1 r.2.2.2.2.2.2.2.2.2.2.2.2.2.1 r.2.2.2.2.2.2.2.2.2.2.2.2.2.2.1)) := by
        intro q
        unfold f_ClockWays_find_j84
        rw [e_addWay (by omega) (by rw [ui_s]; omega), ob5_s]
        refine hgo _ _ _ _ _ ?_ (fun m hm L z => WT_oth z hm (by rw [ui_s]; omega))
        have := WT_add hW0 (by decide) (-1, 0, 0, 0)
        unfold WL
        rw [if_neg (by omega), if_pos q]
        exact this
      refine ok_gi ⟨by omega, by omega⟩ (ok_bd.mpr (ok_gi ⟨by omega, by omega⟩ (ok_gr ⟨by omega, by omega⟩ (ok_if (fun h2 => ?_) (fun h2 => ?_)))))
      · refine ok_ob5 (s_gather hF (fun i => by have := hs i; omega) hTR' (n := v) (by omega) (fun q t ht => ?_) (ui_s _ _ _)) (fun c1 l1 b1 e1 f1 hr => ?_)
        · have hm := (hreg v hv.1 (by omega) h2 q).mem_iff (a := Wd t)
          exact BW_w48 hz.2 hkd hk0 hfu (hm.mp (List.mem_map.mpr ⟨t, ht, rfl⟩))
        · refine hgo _ _ _ _ _ ?_ hr.2
          unfold WL
          rw [if_pos h2]
          exact hr.1
      · refine ok_gi ⟨by omega, by omega⟩ (ok_gr ⟨by omega, by omega⟩ (ok_if (fun h3 => hio (Or.inl h3)) (fun h3 => ?_)))
        refine ok_gi ⟨by omega, by omega⟩ (ok_gr ⟨by omega, by omega⟩ (ok_if (fun h4 => hio (Or.inr h4)) (fun h4 => ?_)))
        refine hgo _ _ _ _ _ ?_ (fun m _ L z => z)
        unfold WL
        rw [if_neg h2, if_neg (by omega)]
        exact hW0
  · refine ok_gb (Or.inl rfl) (ok_some.mpr (Or.inl ⟨rfl, ?_⟩))
    exact (ht'.resolve_right (fun q => by have := q.1; omega)).2
end FND
