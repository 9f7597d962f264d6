/-! the class's tree of clock ways -/
def chn (nx : Int → Int) : Int → List Int → Prop
  | a, [] => a = -1
  | a, t :: r => a = t ∧ chn nx (nx t) r
theorem chn_upd {nx : Int → Int} {z v : Int} : ∀ (L : List Int) (a : Int), (∀ t ∈ L, t ≠ z) → chn nx a L → chn (ui nx z v) a L := by
  intro L
  induction L with
  | nil => intro a _ h; exact h
  | cons t r ih =>
    intro a h1 h2
    refine ⟨h2.1, ?_⟩
    rw [ui_n (h1 t List.mem_cons_self)]
    exact ih _ (fun u hu => h1 u (List.mem_cons_of_mem _ hu)) h2.2
def cs (Ch : Int → List Int) : Nat → Nat
  | 0 => 0
  | k + 1 => cs Ch k + (Ch (k : Int)).length
theorem cs_le {Ch : Int → List Int} : ∀ k : Nat, (∀ s, 0 ≤ s → s < (k : Int) → (Ch s).length ≤ 8) → cs Ch k ≤ 8 * k := by
  intro k
  induction k with
  | zero => intro _; exact Nat.le_refl 0
  | succ k ih =>
    intro h
    show cs Ch k + (Ch (k : Int)).length ≤ 8 * (k + 1)
    have h1 := ih (fun s a b => h s a (by omega))
    have h2 := h k (by omega) (by omega)
    omega
theorem cs_same {C D : Int → List Int} : ∀ k : Nat, (∀ s, 0 ≤ s → s < (k : Int) → C s = D s) → cs C k = cs D k := by
  intro k
  induction k with
  | zero => intro _; rfl
  | succ k ih =>
    intro h
    show cs C k + (C (k : Int)).length = cs D k + (D (k : Int)).length
    rw [ih (fun s a b => h s a (by omega)), h k (by omega) (by omega)]
def cadd (Ch : Int → List Int) (s t : Int) : Int → List Int := fun j => if j = s then t :: Ch j else Ch j
theorem cs_add {Ch : Int → List Int} {s t : Int} : ∀ k : Nat, 0 ≤ s → s < (k : Int) → cs (cadd Ch s t) k = cs Ch k + 1 := by
  intro k
  induction k with
  | zero => intro a b; omega
  | succ k ih =>
    intro a b
    show cs (cadd Ch s t) k + (cadd Ch s t (k : Int)).length = cs Ch k + (Ch (k : Int)).length + 1
    by_cases e : s = (k : Int)
    · rw [cs_same (C := cadd Ch s t) (D := Ch) k (fun j _ q => if_neg (by omega))]
      show _ + (if (k : Int) = s then t :: Ch (k : Int) else Ch (k : Int)).length = _
      rw [if_pos e.symm, List.length_cons]
      omega
    · rw [ih a (by omega)]
      show _ + (if (k : Int) = s then t :: Ch (k : Int) else Ch (k : Int)).length = _
      rw [if_neg (fun q => e q.symm)]
      omega
def uw (Wd : Int → Int × List Int) (t : Int) (w : Int × List Int) : Int → Int × List Int := fun j => if j = t then w else Wd j
theorem uw_s (Wd : Int → Int × List Int) (t : Int) (w : Int × List Int) : uw Wd t w t = w := if_pos rfl
theorem uw_n {Wd : Int → Int × List Int} {t : Int} {w : Int × List Int} {j : Int} (h : j ≠ t) : uw Wd t w j = Wd j := if_neg h
/-- a tree: each of its nodes stands for a word; the nodes that stand for a state are a chain -/
def TR (a b : Int → Int) (sz : Int) (el pa ln ea la fi nx : Int → Int) (Wd : Int → Int × List Int) (Ch : Int → List Int) : Prop :=
  (∀ t, 0 ≤ t → t < sz → ((pa t = -1 ∧ Wd t = (el t, [])) ∨ ((0 ≤ pa t ∧ pa t < t) ∧ Wd t = ((Wd (pa t)).1, el t :: (Wd (pa t)).2))) ∧ ln t = ((Wd t).2.length : Int) + 1 ∧ ea t = sm a (Wd t).2 ∧ la t = sm b (Wd t).2 ∧ (0 ≤ el t ∧ el t < 400)) ∧
  (∀ s, 0 ≤ s → s < 96 → chn nx (fi s) (Ch s) ∧ (∀ t ∈ Ch s, 0 ≤ t ∧ t < sz) ∧ (Ch s).length ≤ 8) ∧ sz = (cs Ch 96 : Int) ∧ ∀ t, 0 ≤ t → t < sz → ∃ s, (0 ≤ s ∧ s < 96) ∧ t ∈ Ch s
def TRr (a b : Int → Int) (r : Int × (Int → Int) × (Int → Int) × (Int → Int) × (Int → Int) × (Int → Int) × (Int → Int) × (Int → Int)) (Wd : Int → Int × List Int) (Ch : Int → List Int) : Prop := TR a b r.1 r.2.1 r.2.2.1 r.2.2.2.1 r.2.2.2.2.1 r.2.2.2.2.2.1 r.2.2.2.2.2.2.1 r.2.2.2.2.2.2.2 Wd Ch
section GRW
variable {F : Nat} {a b : Int → Int} {sz : Int} {el pa ln ea la fi nx : Int → Int} {Wd : Int → Int × List Int} {Ch : Int → List Int}
theorem TR_sz (h : TR a b sz el pa ln ea la fi nx Wd Ch) : 0 ≤ sz ∧ sz ≤ 768 := by
  have h1 := h.2.2.1
  have h2 := cs_le (Ch := Ch) 96 (fun s q1 q2 => (h.2.1 s q1 q2).2.2)
  omega
theorem e_grow {s x2 x3 x4 x5 : Int} (hsz : 0 ≤ sz ∧ sz < 770) (hs : 0 ≤ s ∧ s < 96) (h3 : -1 ≤ x3 ∧ x3 < sz) : f_ClockWays_grow F sz el pa ln ea la fi nx s x2 x3 x4 x5 = some (sz + 1, ui el sz x2, ui pa sz x3, ui ln sz (if 0 ≤ x3 then ln x3 + 1 else 1), ui ea sz x4, ui la sz x5, ui fi s sz, ui nx sz (fi s)) := by
  have hj : ∀ e1 p1 q, f_ClockWays_grow_j55 F sz ln ea la fi nx s x4 x5 e1 p1 q = some (sz + 1, e1, p1, ui ln sz q, ui ea sz x4, ui la sz x5, ui fi s sz, ui nx sz (fi s)) := by
    intro e1 p1 q
    apply ok_eq
    unfold f_ClockWays_grow_j55
    exact ok_gi hsz (ok_bd.mpr (ok_gi hsz (ok_bd.mpr (ok_gi hsz (ok_bd.mpr (ok_gi hs (ok_gi hsz (ok_bd.mpr (ok_gi hs (ok_bd.mpr (ok_some.mpr rfl)))))))))))
  unfold f_ClockWays_grow
  rw [gr_eq ⟨by omega, by omega⟩, if_pos hsz.2, gi_eq hsz]
  show gi sz 770 (gr x3 _) = _
  rw [gi_eq hsz, gr_eq ⟨by omega, by omega⟩]
  by_cases h : 0 ≤ x3
  · rw [if_pos h, if_pos h, gi_eq ⟨h, by omega⟩, hj]
  · rw [if_neg h, if_neg h, hj]
theorem TR_grow (h : TR a b sz el pa ln ea la fi nx Wd Ch) {s x2 x3 : Int} {w : Int × List Int} (hs : 0 ≤ s ∧ s < 96) (h8 : (Ch s).length < 8) (hw : (x3 = -1 ∧ w = (x2, [])) ∨ ((0 ≤ x3 ∧ x3 < sz) ∧ w = ((Wd x3).1, x2 :: (Wd x3).2))) (hx2 : 0 ≤ x2 ∧ x2 < 400) :
    TR a b (sz + 1) (ui el sz x2) (ui pa sz x3) (ui ln sz (if 0 ≤ x3 then ln x3 + 1 else 1)) (ui ea sz (sm a w.2)) (ui la sz (sm b w.2)) (ui fi s sz) (ui nx sz (fi s)) (uw Wd sz w) (cadd Ch s sz) := by
  have hz := TR_sz h
  obtain ⟨h1, h2, h3, h4⟩ := h
  refine ⟨fun t t1 t2 => ?_, fun j j1 j2 => ?_, ?_, fun t t1 t2 => ?_⟩
  · rw [ui_e, ui_e, ui_e, ui_e, ui_e]
    by_cases e : t = sz
    · subst e
      rw [if_pos rfl, if_pos rfl, if_pos rfl, if_pos rfl, if_pos rfl, uw_s]
      refine ⟨?_, ?_, rfl, rfl, hx2⟩
      · rcases hw with ⟨q1, q2⟩ | ⟨q1, q2⟩
        · exact Or.inl ⟨q1, q2⟩
        · refine Or.inr ⟨q1, ?_⟩
          rw [uw_n (by omega)]
          exact q2
      · rcases hw with ⟨q1, q2⟩ | ⟨q1, q2⟩
        · rw [if_neg (by omega), q2]; rfl
        · rw [if_pos q1.1, q2]
          have := (h1 x3 q1.1 q1.2).2.1
          show ln x3 + 1 = (((x2 :: (Wd x3).2).length : Nat) : Int) + 1
          rw [List.length_cons]
          omega
    · rw [if_neg e, if_neg e, if_neg e, if_neg e, if_neg e, uw_n e]
      have q := h1 t t1 (by omega)
      refine ⟨?_, q.2⟩
      rcases q.1 with r | ⟨r1, r2⟩
      · exact Or.inl r
      · refine Or.inr ⟨r1, ?_⟩
        rw [uw_n (by omega)]
        exact r2
  · have q := h2 j j1 j2
    have hne : ∀ t ∈ Ch j, t ≠ sz := fun t ht => by have := q.2.1 t ht; omega
    unfold cadd
    rw [ui_e]
    by_cases e : j = s
    · rw [if_pos e, if_pos e]
      refine ⟨⟨rfl, ?_⟩, fun t ht => ?_, ?_⟩
      · rw [ui_s, ← e]
        exact chn_upd _ _ hne q.1
      · rcases List.mem_cons.mp ht with r | r
        · omega
        · have := q.2.1 t r; omega
      · rw [List.length_cons, e]; omega
    · rw [if_neg e, if_neg e]
      exact ⟨chn_upd _ _ hne q.1, fun t ht => by have := q.2.1 t ht; omega, q.2.2⟩
  · rw [cs_add 96 hs.1 (by omega)]
    omega
  · by_cases e : t = sz
    · refine ⟨s, hs, ?_⟩
      unfold cadd
      rw [if_pos rfl, e]
      exact List.mem_cons_self
    · obtain ⟨j, j1, j2⟩ := h4 t t1 (by omega)
      refine ⟨j, j1, ?_⟩
      unfold cadd
      by_cases e2 : j = s
      · rw [if_pos e2]; exact List.mem_cons_of_mem _ j2
      · rw [if_neg e2]; exact j2
end GRW
theorem flat_perm {α β : Type} {f g : α → List β} : ∀ (l : List α), (∀ x ∈ l, List.Perm (f x) (g x)) → List.Perm (l.flatMap f) (l.flatMap g) := by
  intro l
  induction l with
  | nil => intro _; exact List.Perm.nil
  | cons x l ih =>
    intro h
    rw [List.flatMap_cons, List.flatMap_cons]
    exact (h x List.mem_cons_self).append (ih (fun y hy => h y (List.mem_cons_of_mem _ hy)))
def wds (Wd : Int → Int × List Int) (Ch : Int → List Int) (s : Int) : List (Int × List Int) := (Ch s).map Wd
def extw (e : Int) (w : Int × List Int) : Int × List Int := (w.1, e :: w.2)
